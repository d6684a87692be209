/-! THE WALKS of the law's methods, written by program (wip/p40/genL.py) -/
set_option maxRecDepth 100000 in
set_option maxHeartbeats 4000000 in
theorem l_L_many_1 {K : gw_K} {Γ : gw_G} (C : gw_C K Γ cL_many 3 RL) (τ : gw_S) (μ : gw_S) (o : Nat → Int64) : ∀ (n : Nat) (v1 : Int32) (v2 : Int32) (T : Int32 × Int32), gw_it (b_L_many_1) n (v1, v2) = some T → gw_J K Γ gr_L_many 0 0 (gw_W Γ τ μ o) 20 [(1, .int T.1), (2, .int T.2)] [] → gw_J K Γ gr_L_many 0 0 (gw_W Γ τ μ o) 4 [(1, .int v1), (2, .int v2)] [] := by
  intro n
  induction n with
  | zero => intro v1 v2 T h; cases h
  | succ n ih =>
    intro v1 v2 T h k
    obtain ⟨q, hf, hr⟩ := gw_it_s h
    rw [b_L_many_1] at hf
    refine gj_iload_n C 1 dL_many_4 rfl ?_
    refine gj_if_eq C 20 dL_many_5 (by decide) (fun c => ?_) (fun c => ?_)
    · replace hf := gw_ift hf c
      cases hf
      cases gw_ir hr
      exact gj_pick [0, 1] _ rfl k
    · replace hf := gw_iff hf c
      refine gj_iinc C 1 0 (v1 + 1) [(1, .int (v1 + 1)), (2, .int v2)] dL_many_8 rfl rfl (by decide) rfl ?_
      refine gj_iload_n C 1 dL_many_11 rfl ?_
      refine gj_iload_n C 1 dL_many_12 rfl ?_
      refine gj_iconst (v := 1) C dL_many_13 (by decide) ?_
      refine gj_isub C dL_many_14 ?_
      refine gj_iand C dL_many_15 ?_
      refine gj_istore_n C 2 [(2, .int (v2 &&& (v2 - (1 : Int32)))), (1, .int (v1 + 1))] dL_many_16 rfl (by decide) rfl ?_
      refine gj_goto C 4 dL_many_17 (by decide) ?_
      cases hf
      replace hr := gw_il hr
      exact gj_pick [1, 0] _ rfl (ih _ _ _ hr k)
set_option maxRecDepth 100000 in
set_option maxHeartbeats 4000000 in
theorem s_L_many (l : Launch) (Γ : gw_G) (τ μ : gw_S) (o : Nat → Int64) (a0 : Int32) (r : Int32) (hf : f_L_many a0 = some r) : gw_M l yL_many [.code yL_many cL_many 3 (some .int)] gr_L_many 0 0 Γ [.int a0] (gw_W Γ τ μ o) (gw_qi Γ r (gw_W Γ τ μ o)) := by
  refine gw_enter (by decide) (Nat.le_of_ble_eq_true rfl) (fun K C E => ?_)
  unfold f_L_many at hf
  refine gj_iconst (v := 0) C dL_many_0 (by decide) ?_
  refine gj_istore_n C 1 [(1, .int (0 : Int32)), (0, .int a0)] dL_many_1 rfl (by decide) rfl ?_
  refine gj_iload_n C 1 dL_many_2 rfl ?_
  refine gj_istore_n C 2 [(2, .int a0), (1, .int (0 : Int32)), (0, .int a0)] dL_many_3 rfl (by decide) rfl ?_
  replace hf := gw_bnd hf
  obtain ⟨t1, ht1, hf⟩ := hf
  refine gj_pick [1, 0] _ rfl (l_L_many_1 C τ μ o _ _ _ t1 ht1 ?_)
  refine gj_iload_n C 0 dL_many_20 rfl ?_
  cases hf
  exact gj_iret C E dL_many_21 (Nat.le_of_ble_eq_true rfl) (Nat.le_of_ble_eq_true rfl)
set_option maxRecDepth 100000 in
set_option maxHeartbeats 4000000 in
theorem s_L_has (l : Launch) (Γ : gw_G) (τ μ : gw_S) (o : Nat → Int64) (a0 : Int32) (a1 : Int32) (r : Int32) (hf : f_L_has a0 a1 = some r) : gw_M l yL_has [.code yL_has cL_has 2 (some .boolean)] gr_L_has 0 0 Γ [.int a0, .int a1] (gw_W Γ τ μ o) (gw_qi Γ r (gw_W Γ τ μ o)) := by
  refine gw_enter (by decide) (Nat.le_of_ble_eq_true rfl) (fun K C E => ?_)
  unfold f_L_has at hf
  refine gj_iload_n C 0 dL_has_0 rfl ?_
  refine gj_iload_n C 1 dL_has_1 rfl ?_
  refine gj_ishr C dL_has_2 ?_
  refine gj_iconst (v := 1) C dL_has_3 (by decide) ?_
  refine gj_iand C dL_has_4 ?_
  refine gj_iconst (v := 1) C dL_has_5 (by decide) ?_
  refine gj_ic_ne C 13 dL_has_6 (by decide) (fun c => ?_) (fun c => ?_)
  · replace hf := gw_iff hf c
    refine gj_iconst (v := 0) C dL_has_13 (by decide) ?_
    cases hf
    exact gj_zret C E (by decide) dL_has_14 (Nat.le_of_ble_eq_true rfl) (Nat.le_of_ble_eq_true rfl)
  · replace hf := gw_ift hf c
    refine gj_iconst (v := 1) C dL_has_9 (by decide) ?_
    refine gj_goto C 14 dL_has_10 (by decide) ?_
    cases hf
    exact gj_zret C E (by decide) dL_has_14 (Nat.le_of_ble_eq_true rfl) (Nat.le_of_ble_eq_true rfl)
set_option maxRecDepth 100000 in
set_option maxHeartbeats 4000000 in
theorem l_L_place_1 {K : gw_K} {Γ : gw_G} (C : gw_C K Γ cL_place 6 RL) (τ : gw_S) (μ : gw_S) (o : Nat → Int64) (v2 : Int32) : ∀ (n : Nat) (v3 : Int32) (v4 : Int64) (T : (Int32 × Int64) ⊕ (Int32)), gw_it (b_L_place_1 v2) n (v3, v4) = some T → (∀ x : Int32 × Int64, T = .inl x → gw_J K Γ gr_L_place 0 0 (gw_W Γ τ μ o) 40 [(2, .int v2), (3, .int x.1), (4, .long x.2)] []) → (∀ r : Int32, T = .inr r → gw_E K Γ (gw_qi Γ r (gw_W Γ τ μ o)) 0 0 (some .int)) → gw_J K Γ gr_L_place 0 0 (gw_W Γ τ μ o) 5 [(2, .int v2), (3, .int v3), (4, .long v4)] [] := by
  intro n
  induction n with
  | zero => intro v3 v4 T h; cases h
  | succ n ih =>
    intro v3 v4 T h k ke
    obtain ⟨q, hf, hr⟩ := gw_it_s h
    rw [b_L_place_1] at hf
    refine gj_lload C 2 dL_place_5 rfl ?_
    refine gj_lconst (v := 0) C dL_place_7 (by decide) ?_
    refine gj_lcmp C dL_place_8 ?_
    refine gj_if_eq C 40 dL_place_9 (by decide) (fun c => ?_) (fun c => ?_)
    · replace hf := gw_ift hf c
      cases hf
      exact gj_pick [0, 1, 2] _ rfl (k _ (gw_ir hr).symm)
    · replace hf := gw_iff hf c
      refine gj_lload C 2 dL_place_12 rfl ?_
      refine gj_ldc2 (v := 15) C cst_L_7 dL_place_14 ?_
      refine gj_land C dL_place_17 ?_
      refine gj_iload_n C 0 dL_place_18 rfl ?_
      refine gj_iconst (v := 1) C dL_place_19 (by decide) ?_
      refine gj_iadd C dL_place_20 ?_
      refine gj_i2l C dL_place_21 ?_
      refine gj_lcmp C dL_place_22 ?_
      refine gj_if_ne C 28 dL_place_23 (by decide) (fun c => ?_) (fun c => ?_)
      · replace hf := gw_iff hf c
        refine gj_iinc C 3 1 (v3 + 1) [(3, .int (v3 + 1)), (2, .int v2), (4, .long v4)] dL_place_28 rfl rfl (by decide) rfl ?_
        refine gj_lload C 2 dL_place_31 rfl ?_
        refine gj_iconst (v := 4) C dL_place_33 (by decide) ?_
        refine gj_lushr (v := (v4.toUInt64 >>> ((4 : Int32).toInt64.toUInt64 &&& Int64.toUInt64 63)).toInt64) C dL_place_34 rfl ?_
        refine gj_lstore C 4 [(4, .long ((v4.toUInt64 >>> ((4 : Int32).toInt64.toUInt64 &&& Int64.toUInt64 63)).toInt64)), (3, .int (v3 + 1)), (2, .int v2)] dL_place_35 (by decide) rfl ?_
        refine gj_goto C 5 dL_place_37 (by decide) ?_
        cases hf
        replace hr := gw_il hr
        exact gj_pick [2, 1, 0] _ rfl (ih _ _ _ hr k ke)
      · replace hf := gw_ift hf c
        refine gj_iload_n C 1 dL_place_26 rfl ?_
        cases hf
        exact gj_iret C (ke _ (gw_ir hr).symm) dL_place_27 (Nat.le_of_ble_eq_true rfl) (Nat.le_of_ble_eq_true rfl)
set_option maxRecDepth 100000 in
set_option maxHeartbeats 4000000 in
theorem s_L_place (l : Launch) (Γ : gw_G) (τ μ : gw_S) (o : Nat → Int64) (a0 : Int64) (a2 : Int32) (r : Int32) (hf : f_L_place a0 a2 = some r) : gw_M l yL_place [.code yL_place cL_place 6 (some .int)] gr_L_place 0 0 Γ [.long a0, .int a2] (gw_W Γ τ μ o) (gw_qi Γ r (gw_W Γ τ μ o)) := by
  refine gw_enter (by decide) (Nat.le_of_ble_eq_true rfl) (fun K C E => ?_)
  unfold f_L_place at hf
  refine gj_iconst (v := 0) C dL_place_0 (by decide) ?_
  refine gj_istore_n C 3 [(3, .int (0 : Int32)), (0, .long a0), (2, .int a2)] dL_place_1 rfl (by decide) rfl ?_
  refine gj_lload_n C 1 dL_place_2 rfl ?_
  refine gj_lstore C 4 [(4, .long a0), (3, .int (0 : Int32)), (0, .long a0), (2, .int a2)] dL_place_3 (by decide) rfl ?_
  replace hf := gw_bnd hf
  obtain ⟨t1, ht1, hf⟩ := hf
  refine gj_pick [3, 1, 0] _ rfl (l_L_place_1 C τ μ o a2 _ _ _ t1 ht1 (fun x2 e => ?_) (fun r e => ?_))
  · replace hf := gw_xl hf e
    refine gj_iconst (v := -1) C dL_place_40 (by decide) ?_
    cases hf
    exact gj_iret C E dL_place_41 (Nat.le_of_ble_eq_true rfl) (Nat.le_of_ble_eq_true rfl)
  · replace hf := gw_xr hf e
    cases hf
    exact E
set_option maxRecDepth 100000 in
set_option maxHeartbeats 4000000 in
theorem l_L_length_1 {K : gw_K} {Γ : gw_G} (C : gw_C K Γ cL_length 5 RL) (τ : gw_S) (μ : gw_S) (o : Nat → Int64) : ∀ (n : Nat) (v2 : Int32) (v3 : Int64) (T : Int32 × Int64), gw_it (b_L_length_1) n (v2, v3) = some T → gw_J K Γ gr_L_length 0 0 (gw_W Γ τ μ o) 20 [(2, .int T.1), (3, .long T.2)] [] → gw_J K Γ gr_L_length 0 0 (gw_W Γ τ μ o) 4 [(2, .int v2), (3, .long v3)] [] := by
  intro n
  induction n with
  | zero => intro v2 v3 T h; cases h
  | succ n ih =>
    intro v2 v3 T h k
    obtain ⟨q, hf, hr⟩ := gw_it_s h
    rw [b_L_length_1] at hf
    refine gj_lload_n C 1 dL_length_4 rfl ?_
    refine gj_lconst (v := 0) C dL_length_5 (by decide) ?_
    refine gj_lcmp C dL_length_6 ?_
    refine gj_if_eq C 20 dL_length_7 (by decide) (fun c => ?_) (fun c => ?_)
    · replace hf := gw_ift hf c
      cases hf
      cases gw_ir hr
      exact gj_pick [0, 1] _ rfl k
    · replace hf := gw_iff hf c
      refine gj_iinc C 2 0 (v2 + 1) [(2, .int (v2 + 1)), (3, .long v3)] dL_length_10 rfl rfl (by decide) rfl ?_
      refine gj_lload_n C 1 dL_length_13 rfl ?_
      refine gj_iconst (v := 4) C dL_length_14 (by decide) ?_
      refine gj_lushr (v := (v3.toUInt64 >>> ((4 : Int32).toInt64.toUInt64 &&& Int64.toUInt64 63)).toInt64) C dL_length_15 rfl ?_
      refine gj_lstore_n C 3 [(3, .long ((v3.toUInt64 >>> ((4 : Int32).toInt64.toUInt64 &&& Int64.toUInt64 63)).toInt64)), (2, .int (v2 + 1))] dL_length_16 rfl (by decide) rfl ?_
      refine gj_goto C 4 dL_length_17 (by decide) ?_
      cases hf
      replace hr := gw_il hr
      exact gj_pick [1, 0] _ rfl (ih _ _ _ hr k)
set_option maxRecDepth 100000 in
set_option maxHeartbeats 4000000 in
theorem s_L_length (l : Launch) (Γ : gw_G) (τ μ : gw_S) (o : Nat → Int64) (a0 : Int64) (r : Int32) (hf : f_L_length a0 = some r) : gw_M l yL_length [.code yL_length cL_length 5 (some .int)] gr_L_length 0 0 Γ [.long a0] (gw_W Γ τ μ o) (gw_qi Γ r (gw_W Γ τ μ o)) := by
  refine gw_enter (by decide) (Nat.le_of_ble_eq_true rfl) (fun K C E => ?_)
  unfold f_L_length at hf
  refine gj_iconst (v := 0) C dL_length_0 (by decide) ?_
  refine gj_istore_n C 2 [(2, .int (0 : Int32)), (0, .long a0)] dL_length_1 rfl (by decide) rfl ?_
  refine gj_lload_n C 1 dL_length_2 rfl ?_
  refine gj_lstore_n C 3 [(3, .long a0), (2, .int (0 : Int32)), (0, .long a0)] dL_length_3 rfl (by decide) rfl ?_
  replace hf := gw_bnd hf
  obtain ⟨t1, ht1, hf⟩ := hf
  refine gj_pick [1, 0] _ rfl (l_L_length_1 C τ μ o _ _ _ t1 ht1 ?_)
  refine gj_iload_n C 0 dL_length_20 rfl ?_
  cases hf
  exact gj_iret C E dL_length_21 (Nat.le_of_ble_eq_true rfl) (Nat.le_of_ble_eq_true rfl)
set_option maxRecDepth 100000 in
set_option maxHeartbeats 4000000 in
theorem s_L_without (l : Launch) (Γ : gw_G) (τ μ : gw_S) (o : Nat → Int64) (a0 : Int64) (a2 : Int32) (r : Int64) (hf : f_L_without a0 a2 = some r) : gw_M l yL_without [.code yL_without cL_without 4 (some .long)] gr_L_without 0 0 Γ [.long a0, .int a2] (gw_W Γ τ μ o) (gw_ql Γ r (gw_W Γ τ μ o)) := by
  refine gw_enter (by decide) (Nat.le_of_ble_eq_true rfl) (fun K C E => ?_)
  unfold f_L_without at hf
  refine gj_lload_n C 0 dL_without_0 rfl ?_
  refine gj_iload_n C 1 dL_without_1 rfl ?_
  replace hf := gw_bnd hf
  obtain ⟨r1, hr1, hf⟩ := hf
  refine gj_cSi (As := [.long a0, .int a2]) (rest := []) C cb_L_9 (s_L_place (gw_l K) Γ τ μ o a0 a2 r1 hr1) rfl (Nat.le_of_ble_eq_true rfl) dL_without_2 (gw_rmk rfl) rfl ?_
  refine gj_istore_n C 3 [(3, .int r1), (0, .long a0), (2, .int a2)] dL_without_5 rfl (by decide) rfl ?_
  refine gj_iload_n C 0 dL_without_6 rfl ?_
  refine gj_if_ge C 14 dL_without_7 (by decide) (fun c => ?_) (fun c => ?_)
  · replace hf := gw_ift hf c
    refine gj_lload_n C 1 dL_without_14 rfl ?_
    refine gj_lconst (v := 1) C dL_without_15 (by decide) ?_
    refine gj_iconst (v := 4) C dL_without_16 (by decide) ?_
    refine gj_iload_n C 0 dL_without_17 rfl ?_
    refine gj_imul C dL_without_18 ?_
    refine gj_lshl (v := (1 : Int64) <<< (((4 : Int32) * r1).toInt64 &&& 63)) C dL_without_19 rfl ?_
    refine gj_lconst (v := 1) C dL_without_20 (by decide) ?_
    refine gj_lsub C dL_without_21 ?_
    refine gj_land C dL_without_22 ?_
    refine gj_lload_n C 1 dL_without_23 rfl ?_
    refine gj_iconst (v := 4) C dL_without_24 (by decide) ?_
    refine gj_iload_n C 0 dL_without_25 rfl ?_
    refine gj_imul C dL_without_26 ?_
    refine gj_iconst (v := 4) C dL_without_27 (by decide) ?_
    refine gj_iadd C dL_without_28 ?_
    refine gj_lushr (v := (a0.toUInt64 >>> ((((4 : Int32) * r1) + (4 : Int32)).toInt64.toUInt64 &&& Int64.toUInt64 63)).toInt64) C dL_without_29 rfl ?_
    refine gj_iconst (v := 4) C dL_without_30 (by decide) ?_
    refine gj_iload_n C 0 dL_without_31 rfl ?_
    refine gj_imul C dL_without_32 ?_
    refine gj_lshl (v := ((a0.toUInt64 >>> ((((4 : Int32) * r1) + (4 : Int32)).toInt64.toUInt64 &&& Int64.toUInt64 63)).toInt64) <<< (((4 : Int32) * r1).toInt64 &&& 63)) C dL_without_33 rfl ?_
    refine gj_lor C dL_without_34 ?_
    cases hf
    exact gj_lret C E dL_without_35 (Nat.le_of_ble_eq_true rfl) (Nat.le_of_ble_eq_true rfl)
  · replace hf := gw_iff hf c
    refine gj_lload_n C 1 dL_without_10 rfl ?_
    refine gj_goto C 35 dL_without_11 (by decide) ?_
    cases hf
    exact gj_lret C E dL_without_35 (Nat.le_of_ble_eq_true rfl) (Nat.le_of_ble_eq_true rfl)
set_option maxRecDepth 100000 in
set_option maxHeartbeats 4000000 in
theorem l_L_worth_1 {K : gw_K} {Γ : gw_G} (C : gw_C K Γ cL_worth 4 RL) (τ : gw_S) (μ : gw_S) (o : Nat → Int64) (v1 : Int32) : ∀ (n : Nat) (v2 : Int32) (v3 : Int32) (T : Int32 × Int32), gw_it (b_L_worth_1 μ o v1) n (v2, v3) = some T → gw_J K Γ gr_L_worth 0 0 (gw_W Γ τ μ o) 39 [(0, .ref (gw_a Γ 132)), (1, .int v1), (2, .int T.1), (3, .int T.2)] [] → gw_J K Γ gr_L_worth 0 0 (gw_W Γ τ μ o) 4 [(0, .ref (gw_a Γ 132)), (1, .int v1), (2, .int v2), (3, .int v3)] [] := by
  intro n
  induction n with
  | zero => intro v2 v3 T h; cases h
  | succ n ih =>
    intro v2 v3 T h k
    obtain ⟨q, hf, hr⟩ := gw_it_s h
    rw [b_L_worth_1] at hf
    refine gj_iload_n C 3 dL_worth_4 rfl ?_
    refine gj_bipush (v := 8) C dL_worth_5 (by decide) ?_
    refine gj_ic_ge C 39 dL_worth_7 (by decide) (fun c => ?_) (fun c => ?_)
    · replace hf := gw_ift hf c
      cases hf
      cases gw_ir hr
      exact gj_pick [0, 1, 2, 3] _ rfl k
    · replace hf := gw_iff hf c
      refine gj_iload_n C 2 dL_worth_10 rfl ?_
      refine gj_iload_n C 1 dL_worth_11 rfl ?_
      refine gj_iload_n C 3 dL_worth_12 rfl ?_
      replace hf := gw_bnd hf
      obtain ⟨r1, hr1, hf⟩ := hf
      refine gj_cSi (As := [.int v1, .int v3]) (rest := [.int v2]) C cb_L_15 (s_L_has (gw_l K) Γ τ μ o v1 v3 r1 hr1) rfl (Nat.le_of_ble_eq_true rfl) dL_worth_13 (gw_rmk rfl) rfl ?_
      refine gj_if_eq C 30 dL_worth_16 (by decide) (fun c => ?_) (fun c => ?_)
      · replace hf := gw_ift hf c
        refine gj_iconst (v := 0) C dL_worth_30 (by decide) ?_
        refine gj_iadd C dL_worth_31 ?_
        refine gj_istore_n C 2 [(2, .int (v2 + (0 : Int32))), (0, .ref (gw_a Γ 132)), (1, .int v1), (3, .int v3)] dL_worth_32 rfl (by decide) rfl ?_
        refine gj_iinc C 3 3 (v3 + 1) [(3, .int (v3 + 1)), (2, .int (v2 + (0 : Int32))), (0, .ref (gw_a Γ 132)), (1, .int v1)] dL_worth_33 rfl rfl (by decide) rfl ?_
        refine gj_goto C 4 dL_worth_36 (by decide) ?_
        cases hf
        replace hr := gw_il hr
        exact gj_pick [2, 3, 1, 0] _ rfl (ih _ _ _ hr k)
      · replace hf := gw_iff hf c
        refine gj_aload_n C 0 dL_worth_19 rfl ?_
        refine gj_bipush (v := 8) C dL_worth_20 (by decide) ?_
        refine gj_iload_n C 3 dL_worth_22 rfl ?_
        refine gj_imul C dL_worth_23 ?_
        refine gj_iconst (v := 1) C dL_worth_24 (by decide) ?_
        refine gj_iadd C dL_worth_25 ?_
        obtain ⟨g2, hf⟩ := gw_ifs hf
        refine gj_bld (j := 0) C (by decide) (gw_ibv g2) dL_worth_26 ?_
        refine gj_goto C 31 dL_worth_27 (by decide) ?_
        refine gj_iadd C dL_worth_31 ?_
        refine gj_istore_n C 2 [(2, .int (v2 + (μ 0 (((8 : Int32) * v3) + (1 : Int32)).toNatClampNeg))), (0, .ref (gw_a Γ 132)), (1, .int v1), (3, .int v3)] dL_worth_32 rfl (by decide) rfl ?_
        refine gj_iinc C 3 3 (v3 + 1) [(3, .int (v3 + 1)), (2, .int (v2 + (μ 0 (((8 : Int32) * v3) + (1 : Int32)).toNatClampNeg))), (0, .ref (gw_a Γ 132)), (1, .int v1)] dL_worth_33 rfl rfl (by decide) rfl ?_
        refine gj_goto C 4 dL_worth_36 (by decide) ?_
        cases hf
        replace hr := gw_il hr
        exact gj_pick [2, 3, 1, 0] _ rfl (ih _ _ _ hr k)
set_option maxRecDepth 100000 in
set_option maxHeartbeats 4000000 in
theorem s_L_worth (l : Launch) (Γ : gw_G) (τ μ : gw_S) (o : Nat → Int64) (a1 : Int32) (r : Int32) (hf : f_L_worth μ o a1 = some r) : gw_M l yL_worth [.code yL_worth cL_worth 4 (some .int)] gr_L_worth 0 0 Γ [.ref (gw_a Γ 132), .int a1] (gw_W Γ τ μ o) (gw_qi Γ r (gw_W Γ τ μ o)) := by
  refine gw_enter (by decide) (Nat.le_of_ble_eq_true rfl) (fun K C E => ?_)
  unfold f_L_worth at hf
  refine gj_iconst (v := 0) C dL_worth_0 (by decide) ?_
  refine gj_istore_n C 2 [(2, .int (0 : Int32)), (0, .ref (gw_a Γ 132)), (1, .int a1)] dL_worth_1 rfl (by decide) rfl ?_
  refine gj_iconst (v := 0) C dL_worth_2 (by decide) ?_
  refine gj_istore_n C 3 [(3, .int (0 : Int32)), (2, .int (0 : Int32)), (0, .ref (gw_a Γ 132)), (1, .int a1)] dL_worth_3 rfl (by decide) rfl ?_
  replace hf := gw_bnd hf
  obtain ⟨t3, ht3, hf⟩ := hf
  refine gj_pick [2, 3, 1, 0] _ rfl (l_L_worth_1 C τ μ o a1 _ _ _ t3 ht3 ?_)
  refine gj_iload_n C 2 dL_worth_39 rfl ?_
  cases hf
  exact gj_iret C E dL_worth_40 (Nat.le_of_ble_eq_true rfl) (Nat.le_of_ble_eq_true rfl)
set_option maxRecDepth 100000 in
set_option maxHeartbeats 4000000 in
theorem l_L_obstacle_1 {K : gw_K} {Γ : gw_G} (C : gw_C K Γ cL_obstacle 7 RL) (τ : gw_S) (μ : gw_S) (o : Nat → Int64) (v2 : Int32) (v3 : Int32) (v4 : Int32) : ∀ (n : Nat) (v5 : Int32) (v6 : Int32) (T : Int32 × Int32), gw_it (b_L_obstacle_1 μ o v2 v3 v4) n (v5, v6) = some T → gw_J K Γ gr_L_obstacle 0 0 (gw_W Γ τ μ o) 47 [(0, .ref (gw_a Γ 132)), (1, .ref (gw_a Γ 133)), (2, .int v2), (3, .int v3), (4, .int v4), (5, .int T.1), (6, .int T.2)] [] → gw_J K Γ gr_L_obstacle 0 0 (gw_W Γ τ μ o) 6 [(0, .ref (gw_a Γ 132)), (1, .ref (gw_a Γ 133)), (2, .int v2), (3, .int v3), (4, .int v4), (5, .int v5), (6, .int v6)] [] := by
  intro n
  induction n with
  | zero => intro v5 v6 T h; cases h
  | succ n ih =>
    intro v5 v6 T h k
    obtain ⟨q, hf, hr⟩ := gw_it_s h
    rw [b_L_obstacle_1] at hf
    refine gj_iload C 6 dL_obstacle_6 rfl ?_
    refine gj_bipush (v := 8) C dL_obstacle_8 (by decide) ?_
    refine gj_ic_ge C 47 dL_obstacle_10 (by decide) (fun c => ?_) (fun c => ?_)
    · replace hf := gw_ift hf c
      cases hf
      cases gw_ir hr
      exact gj_pick [0, 1, 2, 3, 4, 5, 6] _ rfl k
    · replace hf := gw_iff hf c
      refine gj_iload C 5 dL_obstacle_13 rfl ?_
      refine gj_iload C 4 dL_obstacle_15 rfl ?_
      refine gj_iload C 6 dL_obstacle_17 rfl ?_
      replace hf := gw_bnd hf
      obtain ⟨r1, hr1, hf⟩ := hf
      refine gj_cSi (As := [.int v4, .int v6]) (rest := [.int v5]) C cb_L_15 (s_L_has (gw_l K) Γ τ μ o v4 v6 r1 hr1) rfl (Nat.le_of_ble_eq_true rfl) dL_obstacle_19 (gw_rmk rfl) rfl ?_
      refine gj_if_eq C 37 dL_obstacle_22 (by decide) (fun c => ?_) (fun c => ?_)
      · replace hf := gw_ift hf c
        refine gj_iconst (v := 0) C dL_obstacle_37 (by decide) ?_
        refine gj_ior C dL_obstacle_38 ?_
        refine gj_istore C 5 [(5, .int (v5 ||| (0 : Int32))), (0, .ref (gw_a Γ 132)), (1, .ref (gw_a Γ 133)), (2, .int v2), (3, .int v3), (4, .int v4), (6, .int v6)] dL_obstacle_39 (by decide) rfl ?_
        refine gj_iinc C 6 6 (v6 + 1) [(6, .int (v6 + 1)), (5, .int (v5 ||| (0 : Int32))), (0, .ref (gw_a Γ 132)), (1, .ref (gw_a Γ 133)), (2, .int v2), (3, .int v3), (4, .int v4)] dL_obstacle_41 rfl rfl (by decide) rfl ?_
        refine gj_goto C 6 dL_obstacle_44 (by decide) ?_
        cases hf
        replace hr := gw_il hr
        exact gj_pick [2, 3, 4, 5, 6, 1, 0] _ rfl (ih _ _ _ hr k)
      · replace hf := gw_iff hf c
        refine gj_aload_n C 0 dL_obstacle_25 rfl ?_
        refine gj_bipush (v := 8) C dL_obstacle_26 (by decide) ?_
        refine gj_iload C 6 dL_obstacle_28 rfl ?_
        refine gj_imul C dL_obstacle_30 ?_
        refine gj_iconst (v := 2) C dL_obstacle_31 (by decide) ?_
        refine gj_iadd C dL_obstacle_32 ?_
        obtain ⟨g2, hf⟩ := gw_ifs hf
        refine gj_bld (j := 0) C (by decide) (gw_ibv g2) dL_obstacle_33 ?_
        refine gj_goto C 38 dL_obstacle_34 (by decide) ?_
        refine gj_ior C dL_obstacle_38 ?_
        refine gj_istore C 5 [(5, .int (v5 ||| (μ 0 (((8 : Int32) * v6) + (2 : Int32)).toNatClampNeg))), (0, .ref (gw_a Γ 132)), (1, .ref (gw_a Γ 133)), (2, .int v2), (3, .int v3), (4, .int v4), (6, .int v6)] dL_obstacle_39 (by decide) rfl ?_
        refine gj_iinc C 6 6 (v6 + 1) [(6, .int (v6 + 1)), (5, .int (v5 ||| (μ 0 (((8 : Int32) * v6) + (2 : Int32)).toNatClampNeg))), (0, .ref (gw_a Γ 132)), (1, .ref (gw_a Γ 133)), (2, .int v2), (3, .int v3), (4, .int v4)] dL_obstacle_41 rfl rfl (by decide) rfl ?_
        refine gj_goto C 6 dL_obstacle_44 (by decide) ?_
        cases hf
        replace hr := gw_il hr
        exact gj_pick [2, 3, 4, 5, 6, 1, 0] _ rfl (ih _ _ _ hr k)
set_option maxRecDepth 100000 in
set_option maxHeartbeats 4000000 in
theorem s_L_obstacle (l : Launch) (Γ : gw_G) (τ μ : gw_S) (o : Nat → Int64) (a2 : Int32) (a3 : Int32) (a4 : Int32) (r : Int32) (hf : f_L_obstacle μ o a2 a3 a4 = some r) : gw_M l yL_obstacle [.code yL_obstacle cL_obstacle 7 (some .int)] gr_L_obstacle 0 0 Γ [.ref (gw_a Γ 132), .ref (gw_a Γ 133), .int a2, .int a3, .int a4] (gw_W Γ τ μ o) (gw_qi Γ r (gw_W Γ τ μ o)) := by
  refine gw_enter (by decide) (Nat.le_of_ble_eq_true rfl) (fun K C E => ?_)
  unfold f_L_obstacle at hf
  refine gj_iconst (v := 0) C dL_obstacle_0 (by decide) ?_
  refine gj_istore C 5 [(5, .int (0 : Int32)), (0, .ref (gw_a Γ 132)), (1, .ref (gw_a Γ 133)), (2, .int a2), (3, .int a3), (4, .int a4)] dL_obstacle_1 (by decide) rfl ?_
  refine gj_iconst (v := 0) C dL_obstacle_3 (by decide) ?_
  refine gj_istore C 6 [(6, .int (0 : Int32)), (5, .int (0 : Int32)), (0, .ref (gw_a Γ 132)), (1, .ref (gw_a Γ 133)), (2, .int a2), (3, .int a3), (4, .int a4)] dL_obstacle_4 (by decide) rfl ?_
  replace hf := gw_bnd hf
  obtain ⟨t3, ht3, hf⟩ := hf
  refine gj_pick [2, 3, 4, 5, 6, 1, 0] _ rfl (l_L_obstacle_1 C τ μ o a2 a3 a4 _ _ _ t3 ht3 ?_)
  refine gj_aload_n C 1 dL_obstacle_47 rfl ?_
  refine gj_bipush (v := 8) C dL_obstacle_48 (by decide) ?_
  refine gj_iload_n C 2 dL_obstacle_50 rfl ?_
  refine gj_imul C dL_obstacle_51 ?_
  refine gj_iconst (v := 2) C dL_obstacle_52 (by decide) ?_
  refine gj_iadd C dL_obstacle_53 ?_
  obtain ⟨g4, hf⟩ := gw_ifs hf
  refine gj_bld (j := 1) C (by decide) (gw_ibv g4) dL_obstacle_54 ?_
  refine gj_iload_n C 3 dL_obstacle_55 rfl ?_
  replace hf := gw_bnd hf
  obtain ⟨r5, hr5, hf⟩ := hf
  refine gj_cSi (As := [.int (μ 1 (((8 : Int32) * a2) + (2 : Int32)).toNatClampNeg), .int a3]) (rest := []) C cb_L_15 (s_L_has (gw_l K) Γ τ μ o (μ 1 (((8 : Int32) * a2) + (2 : Int32)).toNatClampNeg) a3 r5 hr5) rfl (Nat.le_of_ble_eq_true rfl) dL_obstacle_56 (gw_rmk rfl) rfl ?_
  refine gj_if_eq C 66 dL_obstacle_59 (by decide) (fun c => ?_) (fun c => ?_)
  · replace hf := gw_ift hf c
    refine gj_iload C 4 dL_obstacle_66 rfl ?_
    refine gj_iload_n C 3 dL_obstacle_68 rfl ?_
    replace hf := gw_bnd hf
    obtain ⟨r6, hr6, hf⟩ := hf
    refine gj_cSi (As := [.int a4, .int a3]) (rest := []) C cb_L_15 (s_L_has (gw_l K) Γ τ μ o a4 a3 r6 hr6) rfl (Nat.le_of_ble_eq_true rfl) dL_obstacle_69 (gw_rmk rfl) rfl ?_
    refine gj_if_eq C 79 dL_obstacle_72 (by decide) (fun c => ?_) (fun c => ?_)
    · replace hf := gw_ift hf c
      refine gj_aload_n C 0 dL_obstacle_79 rfl ?_
      refine gj_bipush (v := 8) C dL_obstacle_80 (by decide) ?_
      refine gj_iload_n C 3 dL_obstacle_82 rfl ?_
      refine gj_imul C dL_obstacle_83 ?_
      refine gj_iconst (v := 4) C dL_obstacle_84 (by decide) ?_
      refine gj_iadd C dL_obstacle_85 ?_
      obtain ⟨g7, hf⟩ := gw_ifs hf
      refine gj_bld (j := 0) C (by decide) (gw_ibv g7) dL_obstacle_86 ?_
      refine gj_aload_n C 1 dL_obstacle_87 rfl ?_
      refine gj_bipush (v := 8) C dL_obstacle_88 (by decide) ?_
      refine gj_iload_n C 2 dL_obstacle_90 rfl ?_
      refine gj_imul C dL_obstacle_91 ?_
      refine gj_iconst (v := 2) C dL_obstacle_92 (by decide) ?_
      refine gj_iadd C dL_obstacle_93 ?_
      obtain ⟨g8, hf⟩ := gw_ifs hf
      refine gj_bld (j := 1) C (by decide) (gw_ibv g8) dL_obstacle_94 ?_
      refine gj_iconst (v := -1) C dL_obstacle_95 (by decide) ?_
      refine gj_ixor C dL_obstacle_96 ?_
      refine gj_iand C dL_obstacle_97 ?_
      refine gj_if_eq C 105 dL_obstacle_98 (by decide) (fun c => ?_) (fun c => ?_)
      · replace hf := gw_ift hf c
        refine gj_aload_n C 0 dL_obstacle_105 rfl ?_
        refine gj_iload C 4 dL_obstacle_106 rfl ?_
        replace hf := gw_bnd hf
        obtain ⟨r9, hr9, hf⟩ := hf
        refine gj_cSi (As := [.ref (gw_a Γ 132), .int a4]) (rest := []) C cb_L_19 (s_L_worth (gw_l K) Γ τ μ o a4 r9 hr9) rfl (Nat.le_of_ble_eq_true rfl) dL_obstacle_108 (gw_rmk rfl) rfl ?_
        refine gj_aload_n C 0 dL_obstacle_111 rfl ?_
        refine gj_bipush (v := 8) C dL_obstacle_112 (by decide) ?_
        refine gj_iload_n C 3 dL_obstacle_114 rfl ?_
        refine gj_imul C dL_obstacle_115 ?_
        refine gj_iconst (v := 1) C dL_obstacle_116 (by decide) ?_
        refine gj_iadd C dL_obstacle_117 ?_
        obtain ⟨g10, hf⟩ := gw_ifs hf
        refine gj_bld (j := 0) C (by decide) (gw_ibv g10) dL_obstacle_118 ?_
        refine gj_iadd C dL_obstacle_119 ?_
        refine gj_aload_n C 1 dL_obstacle_120 rfl ?_
        refine gj_bipush (v := 8) C dL_obstacle_121 (by decide) ?_
        refine gj_iload_n C 2 dL_obstacle_123 rfl ?_
        refine gj_imul C dL_obstacle_124 ?_
        refine gj_iconst (v := 1) C dL_obstacle_125 (by decide) ?_
        refine gj_iadd C dL_obstacle_126 ?_
        obtain ⟨g11, hf⟩ := gw_ifs hf
        refine gj_bld (j := 1) C (by decide) (gw_ibv g11) dL_obstacle_127 ?_
        refine gj_ic_le C 135 dL_obstacle_128 (by decide) (fun c => ?_) (fun c => ?_)
        · replace hf := gw_ift hf c
          refine gj_iload C 5 dL_obstacle_135 rfl ?_
          refine gj_aload_n C 0 dL_obstacle_137 rfl ?_
          refine gj_bipush (v := 8) C dL_obstacle_138 (by decide) ?_
          refine gj_iload_n C 3 dL_obstacle_140 rfl ?_
          refine gj_imul C dL_obstacle_141 ?_
          refine gj_iconst (v := 2) C dL_obstacle_142 (by decide) ?_
          refine gj_iadd C dL_obstacle_143 ?_
          obtain ⟨g12, hf⟩ := gw_ifs hf
          refine gj_bld (j := 0) C (by decide) (gw_ibv g12) dL_obstacle_144 ?_
          refine gj_iand C dL_obstacle_145 ?_
          refine gj_if_eq C 153 dL_obstacle_146 (by decide) (fun c => ?_) (fun c => ?_)
          · replace hf := gw_ift hf c
            refine gj_iconst (v := 0) C dL_obstacle_153 (by decide) ?_
            cases hf
            exact gj_iret C E dL_obstacle_154 (Nat.le_of_ble_eq_true rfl) (Nat.le_of_ble_eq_true rfl)
          · replace hf := gw_iff hf c
            refine gj_iconst (v := 5) C dL_obstacle_149 (by decide) ?_
            refine gj_goto C 154 dL_obstacle_150 (by decide) ?_
            cases hf
            exact gj_iret C E dL_obstacle_154 (Nat.le_of_ble_eq_true rfl) (Nat.le_of_ble_eq_true rfl)
        · replace hf := gw_iff hf c
          refine gj_iconst (v := 4) C dL_obstacle_131 (by decide) ?_
          refine gj_goto C 154 dL_obstacle_132 (by decide) ?_
          cases hf
          exact gj_iret C E dL_obstacle_154 (Nat.le_of_ble_eq_true rfl) (Nat.le_of_ble_eq_true rfl)
      · replace hf := gw_iff hf c
        refine gj_iconst (v := 3) C dL_obstacle_101 (by decide) ?_
        refine gj_goto C 154 dL_obstacle_102 (by decide) ?_
        cases hf
        exact gj_iret C E dL_obstacle_154 (Nat.le_of_ble_eq_true rfl) (Nat.le_of_ble_eq_true rfl)
    · replace hf := gw_iff hf c
      refine gj_iconst (v := 2) C dL_obstacle_75 (by decide) ?_
      refine gj_goto C 154 dL_obstacle_76 (by decide) ?_
      cases hf
      exact gj_iret C E dL_obstacle_154 (Nat.le_of_ble_eq_true rfl) (Nat.le_of_ble_eq_true rfl)
  · replace hf := gw_iff hf c
    refine gj_iconst (v := 1) C dL_obstacle_62 (by decide) ?_
    refine gj_goto C 154 dL_obstacle_63 (by decide) ?_
    cases hf
    exact gj_iret C E dL_obstacle_154 (Nat.le_of_ble_eq_true rfl) (Nat.le_of_ble_eq_true rfl)
set_option maxRecDepth 100000 in
set_option maxHeartbeats 4000000 in
theorem s_L_offers (l : Launch) (Γ : gw_G) (τ μ : gw_S) (o : Nat → Int64) (a1 : Int32) (r : Int32) (hf : f_L_offers μ o a1 = some r) : gw_M l yL_offers [.code yL_offers cL_offers 2 (some .int)] gr_L_offers 0 0 Γ [.ref (gw_a Γ 132), .int a1] (gw_W Γ τ μ o) (gw_qi Γ r (gw_W Γ τ μ o)) := by
  refine gw_enter (by decide) (Nat.le_of_ble_eq_true rfl) (fun K C E => ?_)
  unfold f_L_offers at hf
  refine gj_aload_n C 0 dL_offers_0 rfl ?_
  refine gj_bipush (v := 8) C dL_offers_1 (by decide) ?_
  refine gj_iload_n C 1 dL_offers_3 rfl ?_
  refine gj_imul C dL_offers_4 ?_
  refine gj_iconst (v := 5) C dL_offers_5 (by decide) ?_
  refine gj_iadd C dL_offers_6 ?_
  obtain ⟨g1, hf⟩ := gw_ifs hf
  refine gj_bld (j := 0) C (by decide) (gw_ibv g1) dL_offers_7 ?_
  refine gj_aload_n C 0 dL_offers_8 rfl ?_
  refine gj_bipush (v := 8) C dL_offers_9 (by decide) ?_
  refine gj_iload_n C 1 dL_offers_11 rfl ?_
  refine gj_imul C dL_offers_12 ?_
  refine gj_bipush (v := 6) C dL_offers_13 (by decide) ?_
  refine gj_iadd C dL_offers_15 ?_
  obtain ⟨g2, hf⟩ := gw_ifs hf
  refine gj_bld (j := 0) C (by decide) (gw_ibv g2) dL_offers_16 ?_
  refine gj_ior C dL_offers_17 ?_
  refine gj_aload_n C 0 dL_offers_18 rfl ?_
  refine gj_bipush (v := 8) C dL_offers_19 (by decide) ?_
  refine gj_iload_n C 1 dL_offers_21 rfl ?_
  refine gj_imul C dL_offers_22 ?_
  refine gj_bipush (v := 7) C dL_offers_23 (by decide) ?_
  refine gj_iadd C dL_offers_25 ?_
  obtain ⟨g3, hf⟩ := gw_ifs hf
  refine gj_bld (j := 0) C (by decide) (gw_ibv g3) dL_offers_26 ?_
  refine gj_ior C dL_offers_27 ?_
  cases hf
  exact gj_iret C E dL_offers_28 (Nat.le_of_ble_eq_true rfl) (Nat.le_of_ble_eq_true rfl)
set_option maxRecDepth 100000 in
set_option maxHeartbeats 4000000 in
theorem l_L_inside_1 {K : gw_K} {Γ : gw_G} (C : gw_C K Γ cL_inside 4 RL) (τ : gw_S) (μ : gw_S) (o : Nat → Int64) (v1 : Int32) : ∀ (n : Nat) (v2 : Int32) (v3 : Int32) (T : Int32 × Int32), gw_it (b_L_inside_1 μ o v1) n (v2, v3) = some T → gw_J K Γ gr_L_inside 0 0 (gw_W Γ τ μ o) 39 [(0, .ref (gw_a Γ 133)), (1, .int v1), (2, .int T.1), (3, .int T.2)] [] → gw_J K Γ gr_L_inside 0 0 (gw_W Γ τ μ o) 4 [(0, .ref (gw_a Γ 133)), (1, .int v1), (2, .int v2), (3, .int v3)] [] := by
  intro n
  induction n with
  | zero => intro v2 v3 T h; cases h
  | succ n ih =>
    intro v2 v3 T h k
    obtain ⟨q, hf, hr⟩ := gw_it_s h
    rw [b_L_inside_1] at hf
    refine gj_iload_n C 3 dL_inside_4 rfl ?_
    refine gj_bipush (v := 8) C dL_inside_5 (by decide) ?_
    refine gj_ic_ge C 39 dL_inside_7 (by decide) (fun c => ?_) (fun c => ?_)
    · replace hf := gw_ift hf c
      cases hf
      cases gw_ir hr
      exact gj_pick [0, 1, 2, 3] _ rfl k
    · replace hf := gw_iff hf c
      refine gj_iload_n C 2 dL_inside_10 rfl ?_
      refine gj_aload_n C 0 dL_inside_11 rfl ?_
      refine gj_bipush (v := 8) C dL_inside_12 (by decide) ?_
      refine gj_iload_n C 3 dL_inside_14 rfl ?_
      refine gj_imul C dL_inside_15 ?_
      refine gj_iconst (v := 3) C dL_inside_16 (by decide) ?_
      refine gj_iadd C dL_inside_17 ?_
      obtain ⟨g1, hf⟩ := gw_ifs hf
      refine gj_bld (j := 1) C (by decide) (gw_ibv g1) dL_inside_18 ?_
      refine gj_iload_n C 1 dL_inside_19 rfl ?_
      replace hf := gw_bnd hf
      obtain ⟨r2, hr2, hf⟩ := hf
      refine gj_cSi (As := [.int (μ 1 (((8 : Int32) * v3) + (3 : Int32)).toNatClampNeg), .int v1]) (rest := [.int v2]) C cb_L_15 (s_L_has (gw_l K) Γ τ μ o (μ 1 (((8 : Int32) * v3) + (3 : Int32)).toNatClampNeg) v1 r2 hr2) rfl (Nat.le_of_ble_eq_true rfl) dL_inside_20 (gw_rmk rfl) rfl ?_
      refine gj_if_eq C 30 dL_inside_23 (by decide) (fun c => ?_) (fun c => ?_)
      · replace hf := gw_ift hf c
        refine gj_iconst (v := 0) C dL_inside_30 (by decide) ?_
        refine gj_iadd C dL_inside_31 ?_
        refine gj_istore_n C 2 [(2, .int (v2 + (0 : Int32))), (0, .ref (gw_a Γ 133)), (1, .int v1), (3, .int v3)] dL_inside_32 rfl (by decide) rfl ?_
        refine gj_iinc C 3 3 (v3 + 1) [(3, .int (v3 + 1)), (2, .int (v2 + (0 : Int32))), (0, .ref (gw_a Γ 133)), (1, .int v1)] dL_inside_33 rfl rfl (by decide) rfl ?_
        refine gj_goto C 4 dL_inside_36 (by decide) ?_
        cases hf
        replace hr := gw_il hr
        exact gj_pick [2, 3, 1, 0] _ rfl (ih _ _ _ hr k)
      · replace hf := gw_iff hf c
        refine gj_iconst (v := 1) C dL_inside_26 (by decide) ?_
        refine gj_goto C 31 dL_inside_27 (by decide) ?_
        refine gj_iadd C dL_inside_31 ?_
        refine gj_istore_n C 2 [(2, .int (v2 + (1 : Int32))), (0, .ref (gw_a Γ 133)), (1, .int v1), (3, .int v3)] dL_inside_32 rfl (by decide) rfl ?_
        refine gj_iinc C 3 3 (v3 + 1) [(3, .int (v3 + 1)), (2, .int (v2 + (1 : Int32))), (0, .ref (gw_a Γ 133)), (1, .int v1)] dL_inside_33 rfl rfl (by decide) rfl ?_
        refine gj_goto C 4 dL_inside_36 (by decide) ?_
        cases hf
        replace hr := gw_il hr
        exact gj_pick [2, 3, 1, 0] _ rfl (ih _ _ _ hr k)
set_option maxRecDepth 100000 in
set_option maxHeartbeats 4000000 in
theorem s_L_inside (l : Launch) (Γ : gw_G) (τ μ : gw_S) (o : Nat → Int64) (a1 : Int32) (r : Int32) (hf : f_L_inside μ o a1 = some r) : gw_M l yL_inside [.code yL_inside cL_inside 4 (some .int)] gr_L_inside 0 0 Γ [.ref (gw_a Γ 133), .int a1] (gw_W Γ τ μ o) (gw_qi Γ r (gw_W Γ τ μ o)) := by
  refine gw_enter (by decide) (Nat.le_of_ble_eq_true rfl) (fun K C E => ?_)
  unfold f_L_inside at hf
  refine gj_iconst (v := 0) C dL_inside_0 (by decide) ?_
  refine gj_istore_n C 2 [(2, .int (0 : Int32)), (0, .ref (gw_a Γ 133)), (1, .int a1)] dL_inside_1 rfl (by decide) rfl ?_
  refine gj_iconst (v := 0) C dL_inside_2 (by decide) ?_
  refine gj_istore_n C 3 [(3, .int (0 : Int32)), (2, .int (0 : Int32)), (0, .ref (gw_a Γ 133)), (1, .int a1)] dL_inside_3 rfl (by decide) rfl ?_
  replace hf := gw_bnd hf
  obtain ⟨t3, ht3, hf⟩ := hf
  refine gj_pick [2, 3, 1, 0] _ rfl (l_L_inside_1 C τ μ o a1 _ _ _ t3 ht3 ?_)
  refine gj_iload_n C 2 dL_inside_39 rfl ?_
  cases hf
  exact gj_iret C E dL_inside_40 (Nat.le_of_ble_eq_true rfl) (Nat.le_of_ble_eq_true rfl)
set_option maxRecDepth 100000 in
set_option maxHeartbeats 4000000 in
theorem s_L_free (l : Launch) (Γ : gw_G) (τ μ : gw_S) (o : Nat → Int64) (a2 : Int32) (r : Int32) (hf : f_L_free μ o a2 = some r) : gw_M l yL_free [.code yL_free cL_free 3 (some .int)] gr_L_free 0 0 Γ [.ref (gw_a Γ 132), .ref (gw_a Γ 133), .int a2] (gw_W Γ τ μ o) (gw_qi Γ r (gw_W Γ τ μ o)) := by
  refine gw_enter (by decide) (Nat.le_of_ble_eq_true rfl) (fun K C E => ?_)
  unfold f_L_free at hf
  refine gj_aload_n C 0 dL_free_0 rfl ?_
  refine gj_bipush (v := 8) C dL_free_1 (by decide) ?_
  refine gj_iload_n C 2 dL_free_3 rfl ?_
  refine gj_imul C dL_free_4 ?_
  obtain ⟨g1, hf⟩ := gw_ifs hf
  refine gj_bld (j := 0) C (by decide) (gw_ibv g1) dL_free_5 ?_
  refine gj_aload_n C 1 dL_free_6 rfl ?_
  refine gj_iload_n C 2 dL_free_7 rfl ?_
  replace hf := gw_bnd hf
  obtain ⟨r2, hr2, hf⟩ := hf
  refine gj_cSi (As := [.ref (gw_a Γ 133), .int a2]) (rest := [.int (μ 0 ((8 : Int32) * a2).toNatClampNeg)]) C cb_L_23 (s_L_inside (gw_l K) Γ τ μ o a2 r2 hr2) rfl (Nat.le_of_ble_eq_true rfl) dL_free_8 (gw_rmk rfl) rfl ?_
  refine gj_isub C dL_free_11 ?_
  refine gj_aload_n C 0 dL_free_12 rfl ?_
  refine gj_iload_n C 2 dL_free_13 rfl ?_
  replace hf := gw_bnd hf
  obtain ⟨r3, hr3, hf⟩ := hf
  refine gj_cSi (As := [.ref (gw_a Γ 132), .int a2]) (rest := [.int ((μ 0 ((8 : Int32) * a2).toNatClampNeg) - r2)]) C cb_L_26 (s_L_offers (gw_l K) Γ τ μ o a2 r3 hr3) rfl (Nat.le_of_ble_eq_true rfl) dL_free_14 (gw_rmk rfl) rfl ?_
  replace hf := gw_bnd hf
  obtain ⟨r4, hr4, hf⟩ := hf
  refine gj_cSi (As := [.int r3]) (rest := [.int ((μ 0 ((8 : Int32) * a2).toNatClampNeg) - r2)]) C cb_L_29 (s_L_many (gw_l K) Γ τ μ o r3 r4 hr4) rfl (Nat.le_of_ble_eq_true rfl) dL_free_17 (gw_rmk rfl) rfl ?_
  refine gj_isub C dL_free_20 ?_
  cases hf
  exact gj_iret C E dL_free_21 (Nat.le_of_ble_eq_true rfl) (Nat.le_of_ble_eq_true rfl)
set_option maxRecDepth 100000 in
set_option maxHeartbeats 4000000 in
theorem l_L_makes_2 {K : gw_K} {Γ : gw_G} (C : gw_C K Γ cL_makes 9 RL) (τ : gw_S) (v4 : Int32) : ∀ (n : Nat) (v5 : Int64) (μ : gw_S) (o : Nat → Int64) (T : Int64 × gw_S × (Nat → Int64)), gw_it (b_L_makes_2 v4) n (v5, μ, o) = some T → gw_J K Γ gr_L_makes 0 0 (gw_W Γ τ T.2.1 T.2.2) 127 [(0, .ref (gw_a Γ 132)), (1, .ref (gw_a Γ 133)), (2, .ref (gw_a Γ 135)), (3, .ref (gw_a Γ 134)), (4, .int v4), (5, .long T.1)] [] → gw_J K Γ gr_L_makes 0 0 (gw_W Γ τ μ o) 17 [(0, .ref (gw_a Γ 132)), (1, .ref (gw_a Γ 133)), (2, .ref (gw_a Γ 135)), (3, .ref (gw_a Γ 134)), (4, .int v4), (5, .long v5)] [] := by
  intro n
  induction n with
  | zero => intro v5 μ o T h; cases h
  | succ n ih =>
    intro v5 μ o T h k
    obtain ⟨q, hf, hr⟩ := gw_it_s h
    rw [b_L_makes_2] at hf
    refine gj_lload C 5 dL_makes_17 rfl ?_
    refine gj_lconst (v := 0) C dL_makes_19 (by decide) ?_
    refine gj_lcmp C dL_makes_20 ?_
    refine gj_if_eq C 127 dL_makes_21 (by decide) (fun c => ?_) (fun c => ?_)
    · replace hf := gw_ift hf c
      cases hf
      cases gw_ir hr
      exact gj_pick [0, 1, 2, 3, 4, 5] _ rfl k
    · replace hf := gw_iff hf c
      refine gj_lload C 5 dL_makes_24 rfl ?_
      refine gj_ldc2 (v := 15) C cst_L_7 dL_makes_26 ?_
      refine gj_land C dL_makes_29 ?_
      refine gj_l2i C dL_makes_30 ?_
      refine gj_iconst (v := 1) C dL_makes_31 (by decide) ?_
      refine gj_isub C dL_makes_32 ?_
      refine gj_istore C 7 [(7, .int (((v5 &&& (15 : Int64)).toInt32) - (1 : Int32))), (0, .ref (gw_a Γ 132)), (1, .ref (gw_a Γ 133)), (2, .ref (gw_a Γ 135)), (3, .ref (gw_a Γ 134)), (4, .int v4), (5, .long v5)] dL_makes_33 (by decide) rfl ?_
      refine gj_aload_n C 1 dL_makes_35 rfl ?_
      refine gj_iload C 5 dL_makes_36 rfl ?_
      replace hf := gw_bnd hf
      obtain ⟨r3, hr3, hf⟩ := hf
      refine gj_cSi (As := [.ref (gw_a Γ 132), .int v4]) (rest := []) C cb_L_26 (s_L_offers (gw_l K) Γ τ μ o v4 r3 hr3) rfl (Nat.le_of_ble_eq_true rfl) dL_makes_38 (gw_rmk rfl) rfl ?_
      refine gj_iload C 0 dL_makes_41 rfl ?_
      replace hf := gw_bnd hf
      obtain ⟨r4, hr4, hf⟩ := hf
      refine gj_cSi (As := [.int r3, .int (((v5 &&& (15 : Int64)).toInt32) - (1 : Int32))]) (rest := []) C cb_L_15 (s_L_has (gw_l K) Γ τ μ o r3 (((v5 &&& (15 : Int64)).toInt32) - (1 : Int32)) r4 hr4) rfl (Nat.le_of_ble_eq_true rfl) dL_makes_43 (gw_rmk rfl) rfl ?_
      refine gj_if_ne C 84 dL_makes_46 (by decide) (fun c => ?_) (fun c => ?_)
      · replace hf := gw_iff hf c
        refine gj_iconst (v := 0) C dL_makes_84 (by decide) ?_
        refine gj_istore C 8 [(8, .int (0 : Int32)), (7, .int (((v5 &&& (15 : Int64)).toInt32) - (1 : Int32))), (0, .ref (gw_a Γ 132)), (1, .ref (gw_a Γ 133)), (2, .ref (gw_a Γ 135)), (3, .ref (gw_a Γ 134)), (4, .int v4), (5, .long v5)] dL_makes_85 (by decide) rfl ?_
        refine gj_aload_n C 2 dL_makes_87 rfl ?_
        refine gj_bipush (v := 8) C dL_makes_88 (by decide) ?_
        refine gj_iload C 6 dL_makes_90 rfl ?_
        refine gj_imul C dL_makes_92 ?_
        refine gj_iconst (v := 5) C dL_makes_93 (by decide) ?_
        refine gj_iadd C dL_makes_94 ?_
        refine gj_aload_n C 5 dL_makes_95 rfl ?_
        refine gj_iconst (v := 2) C dL_makes_96 (by decide) ?_
        obtain ⟨g5, hf⟩ := gw_ifs hf
        refine gj_bld (j := 2) C (by decide) (gw_ibv g5) dL_makes_97 ?_
        refine gj_iconst (v := 3) C dL_makes_98 (by decide) ?_
        refine gj_irem C dL_makes_99 (by decide) ?_
        refine gj_iadd C dL_makes_100 ?_
        refine gj_dup2 C dL_makes_101 rfl rfl ?_
        obtain ⟨g6, hf⟩ := gw_ifs hf
        refine gj_bld (j := 0) C (by decide) (gw_ibv g6) dL_makes_102 ?_
        refine gj_iload C 0 dL_makes_103 rfl ?_
        refine gj_if_eq C 115 dL_makes_105 (by decide) (fun _ => ?_) (fun c => absurd (by decide) c)
        refine gj_iconst (v := 0) C dL_makes_115 (by decide) ?_
        refine gj_ior C dL_makes_116 ?_
        obtain ⟨g7, hf⟩ := gw_ifs hf
        refine gj_bst (j := 0) C (by decide) (gw_ibv g7) dL_makes_117 ?_
        refine gj_lload C 7 dL_makes_118 rfl ?_
        refine gj_iconst (v := 4) C dL_makes_120 (by decide) ?_
        refine gj_lushr (v := (v5.toUInt64 >>> ((4 : Int32).toInt64.toUInt64 &&& Int64.toUInt64 63)).toInt64) C dL_makes_121 rfl ?_
        refine gj_lstore C 5 [(5, .long ((v5.toUInt64 >>> ((4 : Int32).toInt64.toUInt64 &&& Int64.toUInt64 63)).toInt64)), (8, .int (0 : Int32)), (7, .int (((v5 &&& (15 : Int64)).toInt32) - (1 : Int32))), (0, .ref (gw_a Γ 132)), (1, .ref (gw_a Γ 133)), (2, .ref (gw_a Γ 135)), (3, .ref (gw_a Γ 134)), (4, .int v4)] dL_makes_122 (by decide) rfl ?_
        refine gj_goto C 17 dL_makes_124 (by decide) ?_
        cases hf
        replace hr := gw_il hr
        exact gj_pick [3, 4, 5, 6, 7, 0] _ rfl (ih _ _ _ _ hr k)
      · replace hf := gw_ift hf c
        refine gj_aload_n C 1 dL_makes_49 rfl ?_
        refine gj_aload_n C 2 dL_makes_50 rfl ?_
        refine gj_iload C 5 dL_makes_51 rfl ?_
        replace hf := gw_bnd hf
        obtain ⟨r8, hr8, hf⟩ := hf
        refine gj_cSi (As := [.ref (gw_a Γ 132), .ref (gw_a Γ 133), .int v4]) (rest := []) C cb_L_33 (s_L_free (gw_l K) Γ τ μ o v4 r8 hr8) rfl (Nat.le_of_ble_eq_true rfl) dL_makes_53 (gw_rmk rfl) rfl ?_
        refine gj_if_le C 84 dL_makes_56 (by decide) (fun c => ?_) (fun c => ?_)
        · replace hf := gw_ift hf c
          refine gj_iconst (v := 0) C dL_makes_84 (by decide) ?_
          refine gj_istore C 8 [(8, .int (0 : Int32)), (7, .int (((v5 &&& (15 : Int64)).toInt32) - (1 : Int32))), (0, .ref (gw_a Γ 132)), (1, .ref (gw_a Γ 133)), (2, .ref (gw_a Γ 135)), (3, .ref (gw_a Γ 134)), (4, .int v4), (5, .long v5)] dL_makes_85 (by decide) rfl ?_
          refine gj_aload_n C 2 dL_makes_87 rfl ?_
          refine gj_bipush (v := 8) C dL_makes_88 (by decide) ?_
          refine gj_iload C 6 dL_makes_90 rfl ?_
          refine gj_imul C dL_makes_92 ?_
          refine gj_iconst (v := 5) C dL_makes_93 (by decide) ?_
          refine gj_iadd C dL_makes_94 ?_
          refine gj_aload_n C 5 dL_makes_95 rfl ?_
          refine gj_iconst (v := 2) C dL_makes_96 (by decide) ?_
          obtain ⟨g9, hf⟩ := gw_ifs hf
          refine gj_bld (j := 2) C (by decide) (gw_ibv g9) dL_makes_97 ?_
          refine gj_iconst (v := 3) C dL_makes_98 (by decide) ?_
          refine gj_irem C dL_makes_99 (by decide) ?_
          refine gj_iadd C dL_makes_100 ?_
          refine gj_dup2 C dL_makes_101 rfl rfl ?_
          obtain ⟨g10, hf⟩ := gw_ifs hf
          refine gj_bld (j := 0) C (by decide) (gw_ibv g10) dL_makes_102 ?_
          refine gj_iload C 0 dL_makes_103 rfl ?_
          refine gj_if_eq C 115 dL_makes_105 (by decide) (fun _ => ?_) (fun c => absurd (by decide) c)
          refine gj_iconst (v := 0) C dL_makes_115 (by decide) ?_
          refine gj_ior C dL_makes_116 ?_
          obtain ⟨g11, hf⟩ := gw_ifs hf
          refine gj_bst (j := 0) C (by decide) (gw_ibv g11) dL_makes_117 ?_
          refine gj_lload C 7 dL_makes_118 rfl ?_
          refine gj_iconst (v := 4) C dL_makes_120 (by decide) ?_
          refine gj_lushr (v := (v5.toUInt64 >>> ((4 : Int32).toInt64.toUInt64 &&& Int64.toUInt64 63)).toInt64) C dL_makes_121 rfl ?_
          refine gj_lstore C 5 [(5, .long ((v5.toUInt64 >>> ((4 : Int32).toInt64.toUInt64 &&& Int64.toUInt64 63)).toInt64)), (8, .int (0 : Int32)), (7, .int (((v5 &&& (15 : Int64)).toInt32) - (1 : Int32))), (0, .ref (gw_a Γ 132)), (1, .ref (gw_a Γ 133)), (2, .ref (gw_a Γ 135)), (3, .ref (gw_a Γ 134)), (4, .int v4)] dL_makes_122 (by decide) rfl ?_
          refine gj_goto C 17 dL_makes_124 (by decide) ?_
          cases hf
          replace hr := gw_il hr
          exact gj_pick [3, 4, 5, 6, 7, 0] _ rfl (ih _ _ _ _ hr k)
        · replace hf := gw_iff hf c
          refine gj_aload_n C 1 dL_makes_59 rfl ?_
          refine gj_aload_n C 2 dL_makes_60 rfl ?_
          refine gj_iload C 0 dL_makes_61 rfl ?_
          refine gj_iload C 5 dL_makes_63 rfl ?_
          refine gj_aload_n C 2 dL_makes_65 rfl ?_
          refine gj_bipush (v := 8) C dL_makes_66 (by decide) ?_
          refine gj_iload C 0 dL_makes_68 rfl ?_
          refine gj_imul C dL_makes_70 ?_
          refine gj_iconst (v := 3) C dL_makes_71 (by decide) ?_
          refine gj_iadd C dL_makes_72 ?_
          obtain ⟨g12, hf⟩ := gw_ifs hf
          refine gj_bld (j := 1) C (by decide) (gw_ibv g12) dL_makes_73 ?_
          replace hf := gw_bnd hf
          obtain ⟨r13, hr13, hf⟩ := hf
          refine gj_cSi (As := [.ref (gw_a Γ 132), .ref (gw_a Γ 133), .int (((v5 &&& (15 : Int64)).toInt32) - (1 : Int32)), .int v4, .int (μ 1 (((8 : Int32) * (((v5 &&& (15 : Int64)).toInt32) - (1 : Int32))) + (3 : Int32)).toNatClampNeg)]) (rest := []) C cb_L_37 (s_L_obstacle (gw_l K) Γ τ μ o (((v5 &&& (15 : Int64)).toInt32) - (1 : Int32)) v4 (μ 1 (((8 : Int32) * (((v5 &&& (15 : Int64)).toInt32) - (1 : Int32))) + (3 : Int32)).toNatClampNeg) r13 hr13) rfl (Nat.le_of_ble_eq_true rfl) dL_makes_74 (gw_rmk rfl) rfl ?_
          refine gj_if_ne C 84 dL_makes_77 (by decide) (fun c => ?_) (fun c => ?_)
          · replace hf := gw_iff hf c
            refine gj_iconst (v := 0) C dL_makes_84 (by decide) ?_
            refine gj_istore C 8 [(8, .int (0 : Int32)), (7, .int (((v5 &&& (15 : Int64)).toInt32) - (1 : Int32))), (0, .ref (gw_a Γ 132)), (1, .ref (gw_a Γ 133)), (2, .ref (gw_a Γ 135)), (3, .ref (gw_a Γ 134)), (4, .int v4), (5, .long v5)] dL_makes_85 (by decide) rfl ?_
            refine gj_aload_n C 2 dL_makes_87 rfl ?_
            refine gj_bipush (v := 8) C dL_makes_88 (by decide) ?_
            refine gj_iload C 6 dL_makes_90 rfl ?_
            refine gj_imul C dL_makes_92 ?_
            refine gj_iconst (v := 5) C dL_makes_93 (by decide) ?_
            refine gj_iadd C dL_makes_94 ?_
            refine gj_aload_n C 5 dL_makes_95 rfl ?_
            refine gj_iconst (v := 2) C dL_makes_96 (by decide) ?_
            obtain ⟨g14, hf⟩ := gw_ifs hf
            refine gj_bld (j := 2) C (by decide) (gw_ibv g14) dL_makes_97 ?_
            refine gj_iconst (v := 3) C dL_makes_98 (by decide) ?_
            refine gj_irem C dL_makes_99 (by decide) ?_
            refine gj_iadd C dL_makes_100 ?_
            refine gj_dup2 C dL_makes_101 rfl rfl ?_
            obtain ⟨g15, hf⟩ := gw_ifs hf
            refine gj_bld (j := 0) C (by decide) (gw_ibv g15) dL_makes_102 ?_
            refine gj_iload C 0 dL_makes_103 rfl ?_
            refine gj_if_eq C 115 dL_makes_105 (by decide) (fun _ => ?_) (fun c => absurd (by decide) c)
            refine gj_iconst (v := 0) C dL_makes_115 (by decide) ?_
            refine gj_ior C dL_makes_116 ?_
            obtain ⟨g16, hf⟩ := gw_ifs hf
            refine gj_bst (j := 0) C (by decide) (gw_ibv g16) dL_makes_117 ?_
            refine gj_lload C 7 dL_makes_118 rfl ?_
            refine gj_iconst (v := 4) C dL_makes_120 (by decide) ?_
            refine gj_lushr (v := (v5.toUInt64 >>> ((4 : Int32).toInt64.toUInt64 &&& Int64.toUInt64 63)).toInt64) C dL_makes_121 rfl ?_
            refine gj_lstore C 5 [(5, .long ((v5.toUInt64 >>> ((4 : Int32).toInt64.toUInt64 &&& Int64.toUInt64 63)).toInt64)), (8, .int (0 : Int32)), (7, .int (((v5 &&& (15 : Int64)).toInt32) - (1 : Int32))), (0, .ref (gw_a Γ 132)), (1, .ref (gw_a Γ 133)), (2, .ref (gw_a Γ 135)), (3, .ref (gw_a Γ 134)), (4, .int v4)] dL_makes_122 (by decide) rfl ?_
            refine gj_goto C 17 dL_makes_124 (by decide) ?_
            cases hf
            replace hr := gw_il hr
            exact gj_pick [3, 4, 5, 6, 7, 0] _ rfl (ih _ _ _ _ hr k)
          · replace hf := gw_ift hf c
            refine gj_iconst (v := 1) C dL_makes_80 (by decide) ?_
            refine gj_goto C 85 dL_makes_81 (by decide) ?_
            refine gj_istore C 8 [(8, .int (1 : Int32)), (7, .int (((v5 &&& (15 : Int64)).toInt32) - (1 : Int32))), (0, .ref (gw_a Γ 132)), (1, .ref (gw_a Γ 133)), (2, .ref (gw_a Γ 135)), (3, .ref (gw_a Γ 134)), (4, .int v4), (5, .long v5)] dL_makes_85 (by decide) rfl ?_
            refine gj_aload_n C 2 dL_makes_87 rfl ?_
            refine gj_bipush (v := 8) C dL_makes_88 (by decide) ?_
            refine gj_iload C 6 dL_makes_90 rfl ?_
            refine gj_imul C dL_makes_92 ?_
            refine gj_iconst (v := 5) C dL_makes_93 (by decide) ?_
            refine gj_iadd C dL_makes_94 ?_
            refine gj_aload_n C 5 dL_makes_95 rfl ?_
            refine gj_iconst (v := 2) C dL_makes_96 (by decide) ?_
            obtain ⟨g17, hf⟩ := gw_ifs hf
            refine gj_bld (j := 2) C (by decide) (gw_ibv g17) dL_makes_97 ?_
            refine gj_iconst (v := 3) C dL_makes_98 (by decide) ?_
            refine gj_irem C dL_makes_99 (by decide) ?_
            refine gj_iadd C dL_makes_100 ?_
            refine gj_dup2 C dL_makes_101 rfl rfl ?_
            obtain ⟨g18, hf⟩ := gw_ifs hf
            refine gj_bld (j := 0) C (by decide) (gw_ibv g18) dL_makes_102 ?_
            refine gj_iload C 0 dL_makes_103 rfl ?_
            refine gj_if_eq C 115 dL_makes_105 (by decide) (fun c => absurd c (by decide)) (fun _ => ?_)
            refine gj_iconst (v := 1) C dL_makes_108 (by decide) ?_
            refine gj_iload C 1 dL_makes_109 rfl ?_
            refine gj_ishl C dL_makes_111 ?_
            refine gj_goto C 116 dL_makes_112 (by decide) ?_
            refine gj_ior C dL_makes_116 ?_
            obtain ⟨g19, hf⟩ := gw_ifs hf
            refine gj_bst (j := 0) C (by decide) (gw_ibv g19) dL_makes_117 ?_
            refine gj_lload C 7 dL_makes_118 rfl ?_
            refine gj_iconst (v := 4) C dL_makes_120 (by decide) ?_
            refine gj_lushr (v := (v5.toUInt64 >>> ((4 : Int32).toInt64.toUInt64 &&& Int64.toUInt64 63)).toInt64) C dL_makes_121 rfl ?_
            refine gj_lstore C 5 [(5, .long ((v5.toUInt64 >>> ((4 : Int32).toInt64.toUInt64 &&& Int64.toUInt64 63)).toInt64)), (8, .int (1 : Int32)), (7, .int (((v5 &&& (15 : Int64)).toInt32) - (1 : Int32))), (0, .ref (gw_a Γ 132)), (1, .ref (gw_a Γ 133)), (2, .ref (gw_a Γ 135)), (3, .ref (gw_a Γ 134)), (4, .int v4)] dL_makes_122 (by decide) rfl ?_
            refine gj_goto C 17 dL_makes_124 (by decide) ?_
            cases hf
            replace hr := gw_il hr
            exact gj_pick [3, 4, 5, 6, 7, 0] _ rfl (ih _ _ _ _ hr k)
set_option maxRecDepth 100000 in
set_option maxHeartbeats 4000000 in
theorem l_L_makes_1 {K : gw_K} {Γ : gw_G} (C : gw_C K Γ cL_makes 9 RL) (τ : gw_S) : ∀ (n : Nat) (v4 : Int32) (μ : gw_S) (o : Nat → Int64) (T : Int32 × gw_S × (Nat → Int64)), gw_it (b_L_makes_1) n (v4, μ, o) = some T → gw_J K Γ gr_L_makes 0 0 (gw_W Γ τ T.2.1 T.2.2) 133 [(0, .ref (gw_a Γ 132)), (1, .ref (gw_a Γ 133)), (2, .ref (gw_a Γ 135)), (3, .ref (gw_a Γ 134)), (4, .int T.1)] [] → gw_J K Γ gr_L_makes 0 0 (gw_W Γ τ μ o) 3 [(0, .ref (gw_a Γ 132)), (1, .ref (gw_a Γ 133)), (2, .ref (gw_a Γ 135)), (3, .ref (gw_a Γ 134)), (4, .int v4)] [] := by
  intro n
  induction n with
  | zero => intro v4 μ o T h; cases h
  | succ n ih =>
    intro v4 μ o T h k
    obtain ⟨q, hf, hr⟩ := gw_it_s h
    rw [b_L_makes_1] at hf
    refine gj_iload C 4 dL_makes_3 rfl ?_
    refine gj_aload_n C 3 dL_makes_5 rfl ?_
    refine gj_iconst (v := 0) C dL_makes_6 (by decide) ?_
    obtain ⟨g1, hf⟩ := gw_ifs hf
    refine gj_bld (j := 2) C (by decide) (gw_ibv g1) dL_makes_7 ?_
    refine gj_ic_ge C 133 dL_makes_8 (by decide) (fun c => ?_) (fun c => ?_)
    · replace hf := gw_ift hf c
      cases hf
      cases gw_ir hr
      exact gj_pick [0, 1, 2, 3, 4] _ rfl k
    · replace hf := gw_iff hf c
      refine gj_aload_n C 2 dL_makes_11 rfl ?_
      refine gj_iload C 4 dL_makes_12 rfl ?_
      obtain ⟨g2, hf⟩ := gw_ifs hf
      refine gj_lald C (gw_ibv g2) dL_makes_14 ?_
      refine gj_lstore C 5 [(5, .long (o v4.toNatClampNeg)), (0, .ref (gw_a Γ 132)), (1, .ref (gw_a Γ 133)), (2, .ref (gw_a Γ 135)), (3, .ref (gw_a Γ 134)), (4, .int v4)] dL_makes_15 (by decide) rfl ?_
      replace hf := gw_bnd hf
      obtain ⟨t20, ht20, hf⟩ := hf
      refine gj_pick [1, 2, 3, 4, 5, 0] _ rfl (l_L_makes_2 C τ v4 _ _ _ _ t20 ht20 ?_)
      refine gj_iinc C 4 4 (v4 + 1) [(4, .int (v4 + 1)), (0, .ref (gw_a Γ 132)), (1, .ref (gw_a Γ 133)), (2, .ref (gw_a Γ 135)), (3, .ref (gw_a Γ 134)), (5, .long t20.1)] dL_makes_127 rfl rfl (by decide) rfl ?_
      refine gj_goto C 3 dL_makes_130 (by decide) ?_
      cases hf
      replace hr := gw_il hr
      exact gj_pick [1, 2, 3, 4, 0] _ rfl (ih _ _ _ _ hr k)
set_option maxRecDepth 100000 in
set_option maxHeartbeats 4000000 in
theorem s_L_makes (l : Launch) (Γ : gw_G) (τ μ : gw_S) (o : Nat → Int64) (r : gw_S × (Nat → Int64)) (hf : f_L_makes μ o = some r) : gw_M l yL_makes [.code yL_makes cL_makes 9 none] gr_L_makes 0 0 Γ [.ref (gw_a Γ 132), .ref (gw_a Γ 133), .ref (gw_a Γ 135), .ref (gw_a Γ 134)] (gw_W Γ τ μ o) (gw_qv Γ (gw_W Γ τ r.1 r.2)) := by
  refine gw_enter (by decide) (Nat.le_of_ble_eq_true rfl) (fun K C E => ?_)
  unfold f_L_makes at hf
  refine gj_iconst (v := 0) C dL_makes_0 (by decide) ?_
  refine gj_istore C 4 [(4, .int (0 : Int32)), (0, .ref (gw_a Γ 132)), (1, .ref (gw_a Γ 133)), (2, .ref (gw_a Γ 135)), (3, .ref (gw_a Γ 134))] dL_makes_1 (by decide) rfl ?_
  replace hf := gw_bnd hf
  obtain ⟨t21, ht21, hf⟩ := hf
  refine gj_pick [1, 2, 3, 4, 0] _ rfl (l_L_makes_1 C τ _ _ _ _ t21 ht21 ?_)
  cases hf
  exact gj_vret C E dL_makes_133 (Nat.le_of_ble_eq_true rfl) (Nat.le_of_ble_eq_true rfl)
set_option maxRecDepth 100000 in
set_option maxHeartbeats 4000000 in
theorem l_L_leaves_1 {K : gw_K} {Γ : gw_G} (C : gw_C K Γ cL_leaves 5 RL) (τ : gw_S) (v2 : Int32) (v3 : Int32) : ∀ (n : Nat) (v4 : Int32) (μ : gw_S) (o : Nat → Int64) (T : Int32 × gw_S × (Nat → Int64)), gw_it (b_L_leaves_1 v2 v3) n (v4, μ, o) = some T → gw_J K Γ gr_L_leaves 0 0 (gw_W Γ τ T.2.1 T.2.2) 43 [(0, .ref (gw_a Γ 132)), (2, .int v2), (3, .int v3), (4, .int T.1)] [] → gw_J K Γ gr_L_leaves 0 0 (gw_W Γ τ μ o) 13 [(0, .ref (gw_a Γ 132)), (2, .int v2), (3, .int v3), (4, .int v4)] [] := by
  intro n
  induction n with
  | zero => intro v4 μ o T h; cases h
  | succ n ih =>
    intro v4 μ o T h k
    obtain ⟨q, hf, hr⟩ := gw_it_s h
    rw [b_L_leaves_1] at hf
    refine gj_iload C 3 dL_leaves_13 rfl ?_
    refine gj_bipush (v := 8) C dL_leaves_15 (by decide) ?_
    refine gj_ic_ge C 43 dL_leaves_17 (by decide) (fun c => ?_) (fun c => ?_)
    · replace hf := gw_ift hf c
      cases hf
      cases gw_ir hr
      exact gj_pick [0, 1, 2, 3] _ rfl k
    · replace hf := gw_iff hf c
      refine gj_aload_n C 0 dL_leaves_20 rfl ?_
      refine gj_bipush (v := 8) C dL_leaves_21 (by decide) ?_
      refine gj_iload_n C 2 dL_leaves_23 rfl ?_
      refine gj_imul C dL_leaves_24 ?_
      refine gj_iload C 3 dL_leaves_25 rfl ?_
      refine gj_iadd C dL_leaves_27 ?_
      refine gj_dup2 C dL_leaves_28 rfl rfl ?_
      obtain ⟨g4, hf⟩ := gw_ifs hf
      refine gj_bld (j := 0) C (by decide) (gw_ibv g4) dL_leaves_29 ?_
      refine gj_iconst (v := 1) C dL_leaves_30 (by decide) ?_
      refine gj_iload_n C 1 dL_leaves_31 rfl ?_
      refine gj_ishl C dL_leaves_32 ?_
      refine gj_iconst (v := -1) C dL_leaves_33 (by decide) ?_
      refine gj_ixor C dL_leaves_34 ?_
      refine gj_iand C dL_leaves_35 ?_
      obtain ⟨g5, hf⟩ := gw_ifs hf
      refine gj_bst (j := 0) C (by decide) (gw_ibv g5) dL_leaves_36 ?_
      refine gj_iinc C 4 3 (v4 + 1) [(4, .int (v4 + 1)), (0, .ref (gw_a Γ 132)), (2, .int v2), (3, .int v3)] dL_leaves_37 rfl rfl (by decide) rfl ?_
      refine gj_goto C 13 dL_leaves_40 (by decide) ?_
      cases hf
      replace hr := gw_il hr
      exact gj_pick [1, 2, 3, 0] _ rfl (ih _ _ _ _ hr k)
set_option maxRecDepth 100000 in
set_option maxHeartbeats 4000000 in
theorem s_L_leaves (l : Launch) (Γ : gw_G) (τ μ : gw_S) (o : Nat → Int64) (a2 : Int32) (a3 : Int32) (r : gw_S × (Nat → Int64)) (hf : f_L_leaves μ o a2 a3 = some r) : gw_M l yL_leaves [.code yL_leaves cL_leaves 5 none] gr_L_leaves 0 0 Γ [.ref (gw_a Γ 132), .ref (gw_a Γ 135), .int a2, .int a3] (gw_W Γ τ μ o) (gw_qv Γ (gw_W Γ τ r.1 r.2)) := by
  refine gw_enter (by decide) (Nat.le_of_ble_eq_true rfl) (fun K C E => ?_)
  unfold f_L_leaves at hf
  refine gj_aload_n C 1 dL_leaves_0 rfl ?_
  refine gj_iload_n C 3 dL_leaves_1 rfl ?_
  refine gj_aload_n C 1 dL_leaves_2 rfl ?_
  refine gj_iload_n C 3 dL_leaves_3 rfl ?_
  obtain ⟨g1, hf⟩ := gw_ifs hf
  refine gj_lald C (gw_ibv g1) dL_leaves_4 ?_
  refine gj_iload_n C 2 dL_leaves_5 rfl ?_
  replace hf := gw_bnd hf
  obtain ⟨r2, hr2, hf⟩ := hf
  refine gj_cSl (As := [.long (o a3.toNatClampNeg), .int a2]) (rest := [.int a3, .ref (gw_a Γ 135)]) C cb_L_41 (s_L_without (gw_l K) Γ τ μ o (o a3.toNatClampNeg) a2 r2 hr2) rfl (Nat.le_of_ble_eq_true rfl) dL_leaves_6 (gw_rmk rfl) rfl ?_
  obtain ⟨g3, hf⟩ := gw_ifs hf
  refine gj_last C (gw_ibv g3) dL_leaves_9 ?_
  refine gj_iconst (v := 5) C dL_leaves_10 (by decide) ?_
  refine gj_istore C 4 [(4, .int (5 : Int32)), (0, .ref (gw_a Γ 132)), (1, .ref (gw_a Γ 135)), (2, .int a2), (3, .int a3)] dL_leaves_11 (by decide) rfl ?_
  replace hf := gw_bnd hf
  obtain ⟨t6, ht6, hf⟩ := hf
  refine gj_pick [1, 3, 4, 0] _ rfl (l_L_leaves_1 C τ a2 a3 _ _ _ _ t6 ht6 ?_)
  cases hf
  exact gj_vret C E dL_leaves_43 (Nat.le_of_ble_eq_true rfl) (Nat.le_of_ble_eq_true rfl)
set_option maxRecDepth 100000 in
set_option maxHeartbeats 4000000 in
theorem s_L_unwishes (l : Launch) (Γ : gw_G) (τ μ : gw_S) (o : Nat → Int64) (a1 : Int32) (a2 : Int32) (r : gw_S × (Nat → Int64)) (hf : f_L_unwishes μ o a1 a2 = some r) : gw_M l yL_unwishes [.code yL_unwishes cL_unwishes 3 none] gr_L_unwishes 0 0 Γ [.ref (gw_a Γ 133), .int a1, .int a2] (gw_W Γ τ μ o) (gw_qv Γ (gw_W Γ τ r.1 r.2)) := by
  refine gw_enter (by decide) (Nat.le_of_ble_eq_true rfl) (fun K C E => ?_)
  unfold f_L_unwishes at hf
  refine gj_aload_n C 0 dL_unwishes_0 rfl ?_
  refine gj_bipush (v := 8) C dL_unwishes_1 (by decide) ?_
  refine gj_iload_n C 1 dL_unwishes_3 rfl ?_
  refine gj_imul C dL_unwishes_4 ?_
  refine gj_iconst (v := 4) C dL_unwishes_5 (by decide) ?_
  refine gj_iadd C dL_unwishes_6 ?_
  refine gj_aload_n C 0 dL_unwishes_7 rfl ?_
  refine gj_bipush (v := 8) C dL_unwishes_8 (by decide) ?_
  refine gj_iload_n C 1 dL_unwishes_10 rfl ?_
  refine gj_imul C dL_unwishes_11 ?_
  refine gj_iconst (v := 4) C dL_unwishes_12 (by decide) ?_
  refine gj_iadd C dL_unwishes_13 ?_
  obtain ⟨g1, hf⟩ := gw_ifs hf
  refine gj_bld (j := 1) C (by decide) (gw_ibv g1) dL_unwishes_14 ?_
  refine gj_i2l C dL_unwishes_15 ?_
  refine gj_iload_n C 2 dL_unwishes_16 rfl ?_
  replace hf := gw_bnd hf
  obtain ⟨r2, hr2, hf⟩ := hf
  refine gj_cSl (As := [.long ((μ 1 (((8 : Int32) * a1) + (4 : Int32)).toNatClampNeg).toInt64), .int a2]) (rest := [.int (((8 : Int32) * a1) + (4 : Int32)), .ref (gw_a Γ 133)]) C cb_L_41 (s_L_without (gw_l K) Γ τ μ o ((μ 1 (((8 : Int32) * a1) + (4 : Int32)).toNatClampNeg).toInt64) a2 r2 hr2) rfl (Nat.le_of_ble_eq_true rfl) dL_unwishes_17 (gw_rmk rfl) rfl ?_
  refine gj_l2i C dL_unwishes_20 ?_
  obtain ⟨g3, hf⟩ := gw_ifs hf
  refine gj_bst (j := 1) C (by decide) (gw_ibv g3) dL_unwishes_21 ?_
  cases hf
  exact gj_vret C E dL_unwishes_22 (Nat.le_of_ble_eq_true rfl) (Nat.le_of_ble_eq_true rfl)
set_option maxRecDepth 100000 in
set_option maxHeartbeats 4000000 in
theorem s_L_enrols (l : Launch) (Γ : gw_G) (τ μ : gw_S) (o : Nat → Int64) (a3 : Int32) (a4 : Int32) (r : gw_S × (Nat → Int64)) (hf : f_L_enrols μ o a3 a4 = some r) : gw_M l yL_enrols [.code yL_enrols cL_enrols 5 none] gr_L_enrols 0 0 Γ [.ref (gw_a Γ 132), .ref (gw_a Γ 133), .ref (gw_a Γ 135), .int a3, .int a4] (gw_W Γ τ μ o) (gw_qv Γ (gw_W Γ τ r.1 r.2)) := by
  refine gw_enter (by decide) (Nat.le_of_ble_eq_true rfl) (fun K C E => ?_)
  unfold f_L_enrols at hf
  refine gj_aload_n C 1 dL_enrols_0 rfl ?_
  refine gj_bipush (v := 8) C dL_enrols_1 (by decide) ?_
  refine gj_iload_n C 3 dL_enrols_3 rfl ?_
  refine gj_imul C dL_enrols_4 ?_
  refine gj_iconst (v := 3) C dL_enrols_5 (by decide) ?_
  refine gj_iadd C dL_enrols_6 ?_
  refine gj_dup2 C dL_enrols_7 rfl rfl ?_
  obtain ⟨g1, hf⟩ := gw_ifs hf
  refine gj_bld (j := 1) C (by decide) (gw_ibv g1) dL_enrols_8 ?_
  refine gj_iconst (v := 1) C dL_enrols_9 (by decide) ?_
  refine gj_iload C 4 dL_enrols_10 rfl ?_
  refine gj_ishl C dL_enrols_12 ?_
  refine gj_ior C dL_enrols_13 ?_
  obtain ⟨g2, hf⟩ := gw_ifs hf
  refine gj_bst (j := 1) C (by decide) (gw_ibv g2) dL_enrols_14 ?_
  refine gj_aload_n C 1 dL_enrols_15 rfl ?_
  refine gj_iload_n C 3 dL_enrols_16 rfl ?_
  refine gj_iload C 4 dL_enrols_17 rfl ?_
  replace hf := gw_bnd hf
  obtain ⟨r3, hr3, hf⟩ := hf
  refine gj_cSv (As := [.ref (gw_a Γ 133), .int a3, .int a4]) (rest := []) C cb_L_45 (s_L_unwishes (gw_l K) Γ τ (gw_up μ 1 ((((8 : Int32) * a3) + (3 : Int32)).toNatClampNeg) ((μ 1 (((8 : Int32) * a3) + (3 : Int32)).toNatClampNeg) ||| ((1 : Int32) <<< (a4 &&& 31)))) o a3 a4 r3 hr3) rfl (Nat.le_of_ble_eq_true rfl) dL_enrols_19 (gw_rmk rfl) rfl ?_
  refine gj_aload_n C 0 dL_enrols_22 rfl ?_
  refine gj_aload_n C 2 dL_enrols_23 rfl ?_
  refine gj_iload_n C 3 dL_enrols_24 rfl ?_
  refine gj_iload C 4 dL_enrols_25 rfl ?_
  replace hf := gw_bnd hf
  obtain ⟨r4, hr4, hf⟩ := hf
  refine gj_cSv (As := [.ref (gw_a Γ 132), .ref (gw_a Γ 135), .int a3, .int a4]) (rest := []) C cb_L_49 (s_L_leaves (gw_l K) Γ τ r3.1 r3.2 a3 a4 r4 hr4) rfl (Nat.le_of_ble_eq_true rfl) dL_enrols_27 (gw_rmk rfl) rfl ?_
  cases hf
  exact gj_vret C E dL_enrols_30 (Nat.le_of_ble_eq_true rfl) (Nat.le_of_ble_eq_true rfl)
set_option maxRecDepth 100000 in
set_option maxHeartbeats 4000000 in
theorem s_L_gives (l : Launch) (Γ : gw_G) (τ μ : gw_S) (o : Nat → Int64) (a1 : Int32) (a2 : Int32) (r : gw_S × (Nat → Int64)) (hf : f_L_gives μ o a1 a2 = some r) : gw_M l yL_gives [.code yL_gives cL_gives 3 none] gr_L_gives 0 0 Γ [.ref (gw_a Γ 133), .int a1, .int a2] (gw_W Γ τ μ o) (gw_qv Γ (gw_W Γ τ r.1 r.2)) := by
  refine gw_enter (by decide) (Nat.le_of_ble_eq_true rfl) (fun K C E => ?_)
  unfold f_L_gives at hf
  refine gj_aload_n C 0 dL_gives_0 rfl ?_
  refine gj_bipush (v := 8) C dL_gives_1 (by decide) ?_
  refine gj_iload_n C 1 dL_gives_3 rfl ?_
  refine gj_imul C dL_gives_4 ?_
  refine gj_iconst (v := 3) C dL_gives_5 (by decide) ?_
  refine gj_iadd C dL_gives_6 ?_
  refine gj_dup2 C dL_gives_7 rfl rfl ?_
  obtain ⟨g1, hf⟩ := gw_ifs hf
  refine gj_bld (j := 1) C (by decide) (gw_ibv g1) dL_gives_8 ?_
  refine gj_iconst (v := 1) C dL_gives_9 (by decide) ?_
  refine gj_iload_n C 2 dL_gives_10 rfl ?_
  refine gj_ishl C dL_gives_11 ?_
  refine gj_iconst (v := -1) C dL_gives_12 (by decide) ?_
  refine gj_ixor C dL_gives_13 ?_
  refine gj_iand C dL_gives_14 ?_
  obtain ⟨g2, hf⟩ := gw_ifs hf
  refine gj_bst (j := 1) C (by decide) (gw_ibv g2) dL_gives_15 ?_
  refine gj_aload_n C 0 dL_gives_16 rfl ?_
  refine gj_bipush (v := 8) C dL_gives_17 (by decide) ?_
  refine gj_iload_n C 1 dL_gives_19 rfl ?_
  refine gj_imul C dL_gives_20 ?_
  refine gj_iconst (v := 5) C dL_gives_21 (by decide) ?_
  refine gj_iadd C dL_gives_22 ?_
  refine gj_aload_n C 0 dL_gives_23 rfl ?_
  refine gj_bipush (v := 8) C dL_gives_24 (by decide) ?_
  refine gj_iload_n C 1 dL_gives_26 rfl ?_
  refine gj_imul C dL_gives_27 ?_
  refine gj_iconst (v := 5) C dL_gives_28 (by decide) ?_
  refine gj_iadd C dL_gives_29 ?_
  obtain ⟨g3, hf⟩ := gw_ifs hf
  refine gj_bld (j := 1) C (by decide) (gw_ibv g3) dL_gives_30 ?_
  refine gj_iload_n C 2 dL_gives_31 rfl ?_
  refine gj_ic_ne C 39 dL_gives_32 (by decide) (fun c => ?_) (fun c => ?_)
  · replace hf := gw_iff hf c
    refine gj_aload_n C 0 dL_gives_39 rfl ?_
    refine gj_bipush (v := 8) C dL_gives_40 (by decide) ?_
    refine gj_iload_n C 1 dL_gives_42 rfl ?_
    refine gj_imul C dL_gives_43 ?_
    refine gj_iconst (v := 5) C dL_gives_44 (by decide) ?_
    refine gj_iadd C dL_gives_45 ?_
    obtain ⟨g4, hf⟩ := gw_ifs hf
    refine gj_bld (j := 1) C (by decide) (gw_ibv g4) dL_gives_46 ?_
    obtain ⟨g5, hf⟩ := gw_ifs hf
    refine gj_bst (j := 1) C (by decide) (gw_ibv g5) dL_gives_47 ?_
    cases hf
    exact gj_vret C E dL_gives_48 (Nat.le_of_ble_eq_true rfl) (Nat.le_of_ble_eq_true rfl)
  · replace hf := gw_ift hf c
    refine gj_iconst (v := -1) C dL_gives_35 (by decide) ?_
    refine gj_goto C 47 dL_gives_36 (by decide) ?_
    obtain ⟨g6, hf⟩ := gw_ifs hf
    refine gj_bst (j := 1) C (by decide) (gw_ibv g6) dL_gives_47 ?_
    cases hf
    exact gj_vret C E dL_gives_48 (Nat.le_of_ble_eq_true rfl) (Nat.le_of_ble_eq_true rfl)
set_option maxRecDepth 100000 in
set_option maxHeartbeats 4000000 in
theorem l_L_requires_1 {K : gw_K} {Γ : gw_G} (C : gw_C K Γ cL_requires 6 RL) (τ : gw_S) (v2 : Int32) (v4 : Int32) : ∀ (n : Nat) (v5 : Int32) (μ : gw_S) (o : Nat → Int64) (T : Int32 × gw_S × (Nat → Int64)), gw_it (b_L_requires_1 v2 v4) n (v5, μ, o) = some T → gw_J K Γ gr_L_requires 0 0 (gw_W Γ τ T.2.1 T.2.2) 123 [(0, .ref (gw_a Γ 132)), (1, .ref (gw_a Γ 134)), (2, .int v2), (4, .int v4), (5, .int T.1)] [] → gw_J K Γ gr_L_requires 0 0 (gw_W Γ τ μ o) 69 [(0, .ref (gw_a Γ 132)), (1, .ref (gw_a Γ 134)), (2, .int v2), (4, .int v4), (5, .int v5)] [] := by
  intro n
  induction n with
  | zero => intro v5 μ o T h; cases h
  | succ n ih =>
    intro v5 μ o T h k
    obtain ⟨q, hf, hr⟩ := gw_it_s h
    rw [b_L_requires_1] at hf
    refine gj_iload C 4 dL_requires_69 rfl ?_
    refine gj_aload_n C 1 dL_requires_71 rfl ?_
    refine gj_iconst (v := 0) C dL_requires_72 (by decide) ?_
    obtain ⟨g8, hf⟩ := gw_ifs hf
    refine gj_bld (j := 2) C (by decide) (gw_ibv g8) dL_requires_73 ?_
    refine gj_ic_ge C 123 dL_requires_74 (by decide) (fun c => ?_) (fun c => ?_)
    · replace hf := gw_ift hf c
      cases hf
      cases gw_ir hr
      exact gj_pick [0, 1, 2, 3, 4] _ rfl k
    · replace hf := gw_iff hf c
      refine gj_aload_n C 0 dL_requires_77 rfl ?_
      refine gj_bipush (v := 8) C dL_requires_78 (by decide) ?_
      refine gj_iload C 4 dL_requires_80 rfl ?_
      refine gj_imul C dL_requires_82 ?_
      refine gj_iconst (v := 4) C dL_requires_83 (by decide) ?_
      refine gj_iadd C dL_requires_84 ?_
      refine gj_dup2 C dL_requires_85 rfl rfl ?_
      obtain ⟨g9, hf⟩ := gw_ifs hf
      refine gj_bld (j := 0) C (by decide) (gw_ibv g9) dL_requires_86 ?_
      refine gj_iload C 4 dL_requires_87 rfl ?_
      refine gj_iload_n C 2 dL_requires_89 rfl ?_
      refine gj_ic_eq C 109 dL_requires_90 (by decide) (fun c => ?_) (fun c => ?_)
      · replace hf := gw_ift hf c
        refine gj_iload C 3 dL_requires_109 rfl ?_
        refine gj_goto C 115 dL_requires_111 (by decide) ?_
        refine gj_ior C dL_requires_115 ?_
        obtain ⟨g10, hf⟩ := gw_ifs hf
        refine gj_bst (j := 0) C (by decide) (gw_ibv g10) dL_requires_116 ?_
        refine gj_iinc C 5 4 (v5 + 1) [(5, .int (v5 + 1)), (0, .ref (gw_a Γ 132)), (1, .ref (gw_a Γ 134)), (2, .int v2), (4, .int v4)] dL_requires_117 rfl rfl (by decide) rfl ?_
        refine gj_goto C 69 dL_requires_120 (by decide) ?_
        cases hf
        replace hr := gw_il hr
        exact gj_pick [1, 2, 3, 4, 0] _ rfl (ih _ _ _ _ hr k)
      · replace hf := gw_iff hf c
        refine gj_aload_n C 0 dL_requires_93 rfl ?_
        refine gj_bipush (v := 8) C dL_requires_94 (by decide) ?_
        refine gj_iload C 4 dL_requires_96 rfl ?_
        refine gj_imul C dL_requires_98 ?_
        refine gj_iconst (v := 4) C dL_requires_99 (by decide) ?_
        refine gj_iadd C dL_requires_100 ?_
        obtain ⟨g11, hf⟩ := gw_ifs hf
        refine gj_bld (j := 0) C (by decide) (gw_ibv g11) dL_requires_101 ?_
        refine gj_iload_n C 2 dL_requires_102 rfl ?_
        replace hf := gw_bnd hf
        obtain ⟨r12, hr12, hf⟩ := hf
        refine gj_cSi (As := [.int (μ 0 (((8 : Int32) * v5) + (4 : Int32)).toNatClampNeg), .int v2]) (rest := [.int (μ 0 (((8 : Int32) * v5) + (4 : Int32)).toNatClampNeg), .int (((8 : Int32) * v5) + (4 : Int32)), .ref (gw_a Γ 132)]) C cb_L_15 (s_L_has (gw_l K) Γ τ μ o (μ 0 (((8 : Int32) * v5) + (4 : Int32)).toNatClampNeg) v2 r12 hr12) rfl (Nat.le_of_ble_eq_true rfl) dL_requires_103 (gw_rmk rfl) rfl ?_
        refine gj_if_eq C 114 dL_requires_106 (by decide) (fun c => ?_) (fun c => ?_)
        · replace hf := gw_ift hf c
          refine gj_iconst (v := 0) C dL_requires_114 (by decide) ?_
          refine gj_ior C dL_requires_115 ?_
          obtain ⟨g13, hf⟩ := gw_ifs hf
          refine gj_bst (j := 0) C (by decide) (gw_ibv g13) dL_requires_116 ?_
          refine gj_iinc C 5 4 (v5 + 1) [(5, .int (v5 + 1)), (0, .ref (gw_a Γ 132)), (1, .ref (gw_a Γ 134)), (2, .int v2), (4, .int v4)] dL_requires_117 rfl rfl (by decide) rfl ?_
          refine gj_goto C 69 dL_requires_120 (by decide) ?_
          cases hf
          replace hr := gw_il hr
          exact gj_pick [1, 2, 3, 4, 0] _ rfl (ih _ _ _ _ hr k)
        · replace hf := gw_iff hf c
          refine gj_iload C 3 dL_requires_109 rfl ?_
          refine gj_goto C 115 dL_requires_111 (by decide) ?_
          refine gj_ior C dL_requires_115 ?_
          obtain ⟨g14, hf⟩ := gw_ifs hf
          refine gj_bst (j := 0) C (by decide) (gw_ibv g14) dL_requires_116 ?_
          refine gj_iinc C 5 4 (v5 + 1) [(5, .int (v5 + 1)), (0, .ref (gw_a Γ 132)), (1, .ref (gw_a Γ 134)), (2, .int v2), (4, .int v4)] dL_requires_117 rfl rfl (by decide) rfl ?_
          refine gj_goto C 69 dL_requires_120 (by decide) ?_
          cases hf
          replace hr := gw_il hr
          exact gj_pick [1, 2, 3, 4, 0] _ rfl (ih _ _ _ _ hr k)
set_option maxRecDepth 100000 in
set_option maxHeartbeats 4000000 in
theorem s_L_requires (l : Launch) (Γ : gw_G) (τ μ : gw_S) (o : Nat → Int64) (a2 : Int32) (a3 : Int32) (r : Int32 × gw_S × (Nat → Int64)) (hf : f_L_requires μ o a2 a3 = some r) : gw_M l yL_requires [.code yL_requires cL_requires 6 (some .int)] gr_L_requires 0 0 Γ [.ref (gw_a Γ 132), .ref (gw_a Γ 134), .int a2, .int a3] (gw_W Γ τ μ o) (gw_qi Γ r.1 (gw_W Γ τ r.2.1 r.2.2)) := by
  refine gw_enter (by decide) (Nat.le_of_ble_eq_true rfl) (fun K C E => ?_)
  unfold f_L_requires at hf
  refine gj_iload_n C 2 dL_requires_0 rfl ?_
  refine gj_iload_n C 3 dL_requires_1 rfl ?_
  refine gj_ic_eq C 35 dL_requires_2 (by decide) (fun c => ?_) (fun c => ?_)
  · replace hf := gw_ift hf c
    refine gj_bipush (v := -13) C dL_requires_35 (by decide) ?_
    cases hf
    exact gj_iret C E dL_requires_37 (Nat.le_of_ble_eq_true rfl) (Nat.le_of_ble_eq_true rfl)
  · replace hf := gw_iff hf c
    refine gj_aload_n C 0 dL_requires_5 rfl ?_
    refine gj_bipush (v := 8) C dL_requires_6 (by decide) ?_
    refine gj_iload_n C 2 dL_requires_8 rfl ?_
    refine gj_imul C dL_requires_9 ?_
    refine gj_iconst (v := 3) C dL_requires_10 (by decide) ?_
    refine gj_iadd C dL_requires_11 ?_
    obtain ⟨g1, hf⟩ := gw_ifs hf
    refine gj_bld (j := 0) C (by decide) (gw_ibv g1) dL_requires_12 ?_
    refine gj_iload_n C 3 dL_requires_13 rfl ?_
    replace hf := gw_bnd hf
    obtain ⟨r2, hr2, hf⟩ := hf
    refine gj_cSi (As := [.int (μ 0 (((8 : Int32) * a2) + (3 : Int32)).toNatClampNeg), .int a3]) (rest := []) C cb_L_15 (s_L_has (gw_l K) Γ τ μ o (μ 0 (((8 : Int32) * a2) + (3 : Int32)).toNatClampNeg) a3 r2 hr2) rfl (Nat.le_of_ble_eq_true rfl) dL_requires_14 (gw_rmk rfl) rfl ?_
    refine gj_if_ne C 35 dL_requires_17 (by decide) (fun c => ?_) (fun c => ?_)
    · replace hf := gw_iff hf c
      refine gj_bipush (v := -13) C dL_requires_35 (by decide) ?_
      cases hf
      exact gj_iret C E dL_requires_37 (Nat.le_of_ble_eq_true rfl) (Nat.le_of_ble_eq_true rfl)
    · replace hf := gw_ift hf c
      refine gj_aload_n C 0 dL_requires_20 rfl ?_
      refine gj_bipush (v := 8) C dL_requires_21 (by decide) ?_
      refine gj_iload_n C 3 dL_requires_23 rfl ?_
      refine gj_imul C dL_requires_24 ?_
      refine gj_iconst (v := 4) C dL_requires_25 (by decide) ?_
      refine gj_iadd C dL_requires_26 ?_
      obtain ⟨g3, hf⟩ := gw_ifs hf
      refine gj_bld (j := 0) C (by decide) (gw_ibv g3) dL_requires_27 ?_
      refine gj_iload_n C 2 dL_requires_28 rfl ?_
      replace hf := gw_bnd hf
      obtain ⟨r4, hr4, hf⟩ := hf
      refine gj_cSi (As := [.int (μ 0 (((8 : Int32) * a3) + (4 : Int32)).toNatClampNeg), .int a2]) (rest := []) C cb_L_15 (s_L_has (gw_l K) Γ τ μ o (μ 0 (((8 : Int32) * a3) + (4 : Int32)).toNatClampNeg) a2 r4 hr4) rfl (Nat.le_of_ble_eq_true rfl) dL_requires_29 (gw_rmk rfl) rfl ?_
      refine gj_if_eq C 38 dL_requires_32 (by decide) (fun c => ?_) (fun c => ?_)
      · replace hf := gw_ift hf c
        refine gj_aload_n C 0 dL_requires_38 rfl ?_
        refine gj_bipush (v := 8) C dL_requires_39 (by decide) ?_
        refine gj_iload_n C 2 dL_requires_41 rfl ?_
        refine gj_imul C dL_requires_42 ?_
        refine gj_iconst (v := 3) C dL_requires_43 (by decide) ?_
        refine gj_iadd C dL_requires_44 ?_
        refine gj_dup2 C dL_requires_45 rfl rfl ?_
        obtain ⟨g5, hf⟩ := gw_ifs hf
        refine gj_bld (j := 0) C (by decide) (gw_ibv g5) dL_requires_46 ?_
        refine gj_iconst (v := 1) C dL_requires_47 (by decide) ?_
        refine gj_iload_n C 3 dL_requires_48 rfl ?_
        refine gj_ishl C dL_requires_49 ?_
        refine gj_ior C dL_requires_50 ?_
        obtain ⟨g6, hf⟩ := gw_ifs hf
        refine gj_bst (j := 0) C (by decide) (gw_ibv g6) dL_requires_51 ?_
        refine gj_aload_n C 0 dL_requires_52 rfl ?_
        refine gj_bipush (v := 8) C dL_requires_53 (by decide) ?_
        refine gj_iload_n C 3 dL_requires_55 rfl ?_
        refine gj_imul C dL_requires_56 ?_
        refine gj_iconst (v := 4) C dL_requires_57 (by decide) ?_
        refine gj_iadd C dL_requires_58 ?_
        obtain ⟨g7, hf⟩ := gw_ifs hf
        refine gj_bld (j := 0) C (by decide) (gw_ibv g7) dL_requires_59 ?_
        refine gj_iconst (v := 1) C dL_requires_60 (by decide) ?_
        refine gj_iload_n C 3 dL_requires_61 rfl ?_
        refine gj_ishl C dL_requires_62 ?_
        refine gj_ior C dL_requires_63 ?_
        refine gj_istore C 4 [(4, .int (((gw_up μ 0 ((((8 : Int32) * a2) + (3 : Int32)).toNatClampNeg) ((μ 0 (((8 : Int32) * a2) + (3 : Int32)).toNatClampNeg) ||| ((1 : Int32) <<< (a3 &&& 31)))) 0 (((8 : Int32) * a3) + (4 : Int32)).toNatClampNeg) ||| ((1 : Int32) <<< (a3 &&& 31)))), (0, .ref (gw_a Γ 132)), (1, .ref (gw_a Γ 134)), (2, .int a2), (3, .int a3)] dL_requires_64 (by decide) rfl ?_
        refine gj_iconst (v := 0) C dL_requires_66 (by decide) ?_
        refine gj_istore C 5 [(5, .int (0 : Int32)), (4, .int (((gw_up μ 0 ((((8 : Int32) * a2) + (3 : Int32)).toNatClampNeg) ((μ 0 (((8 : Int32) * a2) + (3 : Int32)).toNatClampNeg) ||| ((1 : Int32) <<< (a3 &&& 31)))) 0 (((8 : Int32) * a3) + (4 : Int32)).toNatClampNeg) ||| ((1 : Int32) <<< (a3 &&& 31)))), (0, .ref (gw_a Γ 132)), (1, .ref (gw_a Γ 134)), (2, .int a2), (3, .int a3)] dL_requires_67 (by decide) rfl ?_
        replace hf := gw_bnd hf
        obtain ⟨t15, ht15, hf⟩ := hf
        refine gj_pick [2, 3, 4, 1, 0] _ rfl (l_L_requires_1 C τ a2 (((gw_up μ 0 ((((8 : Int32) * a2) + (3 : Int32)).toNatClampNeg) ((μ 0 (((8 : Int32) * a2) + (3 : Int32)).toNatClampNeg) ||| ((1 : Int32) <<< (a3 &&& 31)))) 0 (((8 : Int32) * a3) + (4 : Int32)).toNatClampNeg) ||| ((1 : Int32) <<< (a3 &&& 31))) _ _ _ _ t15 ht15 ?_)
        refine gj_aload_n C 0 dL_requires_123 rfl ?_
        refine gj_bipush (v := 8) C dL_requires_124 (by decide) ?_
        refine gj_iload_n C 2 dL_requires_126 rfl ?_
        refine gj_imul C dL_requires_127 ?_
        refine gj_iconst (v := 4) C dL_requires_128 (by decide) ?_
        refine gj_iadd C dL_requires_129 ?_
        obtain ⟨g16, hf⟩ := gw_ifs hf
        refine gj_bld (j := 0) C (by decide) (gw_ibv g16) dL_requires_130 ?_
        replace hf := gw_bnd hf
        obtain ⟨r17, hr17, hf⟩ := hf
        refine gj_cSi (As := [.int (t15.2.1 0 (((8 : Int32) * a2) + (4 : Int32)).toNatClampNeg)]) (rest := []) C cb_L_29 (s_L_many (gw_l K) Γ τ t15.2.1 t15.2.2 (t15.2.1 0 (((8 : Int32) * a2) + (4 : Int32)).toNatClampNeg) r17 hr17) rfl (Nat.le_of_ble_eq_true rfl) dL_requires_131 (gw_rmk rfl) rfl ?_
        cases hf
        exact gj_iret C E dL_requires_134 (Nat.le_of_ble_eq_true rfl) (Nat.le_of_ble_eq_true rfl)
      · replace hf := gw_iff hf c
        refine gj_bipush (v := -13) C dL_requires_35 (by decide) ?_
        cases hf
        exact gj_iret C E dL_requires_37 (Nat.le_of_ble_eq_true rfl) (Nat.le_of_ble_eq_true rfl)
set_option maxRecDepth 100000 in
set_option maxHeartbeats 4000000 in
theorem s_L_passes (l : Launch) (Γ : gw_G) (τ μ : gw_S) (o : Nat → Int64) (a3 : Int32) (a4 : Int32) (r : Int32 × gw_S × (Nat → Int64)) (hf : f_L_passes μ o a3 a4 = some r) : gw_M l yL_passes [.code yL_passes cL_passes 5 (some .int)] gr_L_passes 0 0 Γ [.ref (gw_a Γ 132), .ref (gw_a Γ 133), .ref (gw_a Γ 135), .int a3, .int a4] (gw_W Γ τ μ o) (gw_qi Γ r.1 (gw_W Γ τ r.2.1 r.2.2)) := by
  refine gw_enter (by decide) (Nat.le_of_ble_eq_true rfl) (fun K C E => ?_)
  unfold f_L_passes at hf
  refine gj_aload_n C 1 dL_passes_0 rfl ?_
  refine gj_bipush (v := 8) C dL_passes_1 (by decide) ?_
  refine gj_iload_n C 3 dL_passes_3 rfl ?_
  refine gj_imul C dL_passes_4 ?_
  refine gj_iconst (v := 2) C dL_passes_5 (by decide) ?_
  refine gj_iadd C dL_passes_6 ?_
  obtain ⟨g1, hf⟩ := gw_ifs hf
  refine gj_bld (j := 1) C (by decide) (gw_ibv g1) dL_passes_7 ?_
  refine gj_aload_n C 1 dL_passes_8 rfl ?_
  refine gj_bipush (v := 8) C dL_passes_9 (by decide) ?_
  refine gj_iload_n C 3 dL_passes_11 rfl ?_
  refine gj_imul C dL_passes_12 ?_
  refine gj_iconst (v := 3) C dL_passes_13 (by decide) ?_
  refine gj_iadd C dL_passes_14 ?_
  obtain ⟨g2, hf⟩ := gw_ifs hf
  refine gj_bld (j := 1) C (by decide) (gw_ibv g2) dL_passes_15 ?_
  refine gj_ior C dL_passes_16 ?_
  refine gj_iload C 4 dL_passes_17 rfl ?_
  replace hf := gw_bnd hf
  obtain ⟨r3, hr3, hf⟩ := hf
  refine gj_cSi (As := [.int ((μ 1 (((8 : Int32) * a3) + (2 : Int32)).toNatClampNeg) ||| (μ 1 (((8 : Int32) * a3) + (3 : Int32)).toNatClampNeg)), .int a4]) (rest := []) C cb_L_15 (s_L_has (gw_l K) Γ τ μ o ((μ 1 (((8 : Int32) * a3) + (2 : Int32)).toNatClampNeg) ||| (μ 1 (((8 : Int32) * a3) + (3 : Int32)).toNatClampNeg)) a4 r3 hr3) rfl (Nat.le_of_ble_eq_true rfl) dL_passes_19 (gw_rmk rfl) rfl ?_
  refine gj_if_eq C 28 dL_passes_22 (by decide) (fun c => ?_) (fun c => ?_)
  · replace hf := gw_ift hf c
    refine gj_aload_n C 1 dL_passes_28 rfl ?_
    refine gj_bipush (v := 8) C dL_passes_29 (by decide) ?_
    refine gj_iload_n C 3 dL_passes_31 rfl ?_
    refine gj_imul C dL_passes_32 ?_
    refine gj_iconst (v := 2) C dL_passes_33 (by decide) ?_
    refine gj_iadd C dL_passes_34 ?_
    refine gj_dup2 C dL_passes_35 rfl rfl ?_
    obtain ⟨g4, hf⟩ := gw_ifs hf
    refine gj_bld (j := 1) C (by decide) (gw_ibv g4) dL_passes_36 ?_
    refine gj_iconst (v := 1) C dL_passes_37 (by decide) ?_
    refine gj_iload C 4 dL_passes_38 rfl ?_
    refine gj_ishl C dL_passes_40 ?_
    refine gj_ior C dL_passes_41 ?_
    obtain ⟨g5, hf⟩ := gw_ifs hf
    refine gj_bst (j := 1) C (by decide) (gw_ibv g5) dL_passes_42 ?_
    refine gj_aload_n C 1 dL_passes_43 rfl ?_
    refine gj_iload_n C 3 dL_passes_44 rfl ?_
    refine gj_iload C 4 dL_passes_45 rfl ?_
    replace hf := gw_bnd hf
    obtain ⟨r6, hr6, hf⟩ := hf
    refine gj_cSv (As := [.ref (gw_a Γ 133), .int a3, .int a4]) (rest := []) C cb_L_45 (s_L_unwishes (gw_l K) Γ τ (gw_up μ 1 ((((8 : Int32) * a3) + (2 : Int32)).toNatClampNeg) ((μ 1 (((8 : Int32) * a3) + (2 : Int32)).toNatClampNeg) ||| ((1 : Int32) <<< (a4 &&& 31)))) o a3 a4 r6 hr6) rfl (Nat.le_of_ble_eq_true rfl) dL_passes_47 (gw_rmk rfl) rfl ?_
    refine gj_aload_n C 0 dL_passes_50 rfl ?_
    refine gj_aload_n C 2 dL_passes_51 rfl ?_
    refine gj_iload_n C 3 dL_passes_52 rfl ?_
    refine gj_iload C 4 dL_passes_53 rfl ?_
    replace hf := gw_bnd hf
    obtain ⟨r7, hr7, hf⟩ := hf
    refine gj_cSv (As := [.ref (gw_a Γ 132), .ref (gw_a Γ 135), .int a3, .int a4]) (rest := []) C cb_L_49 (s_L_leaves (gw_l K) Γ τ r6.1 r6.2 a3 a4 r7 hr7) rfl (Nat.le_of_ble_eq_true rfl) dL_passes_55 (gw_rmk rfl) rfl ?_
    refine gj_aload_n C 1 dL_passes_58 rfl ?_
    refine gj_bipush (v := 8) C dL_passes_59 (by decide) ?_
    refine gj_iload_n C 3 dL_passes_61 rfl ?_
    refine gj_imul C dL_passes_62 ?_
    refine gj_iconst (v := 2) C dL_passes_63 (by decide) ?_
    refine gj_iadd C dL_passes_64 ?_
    obtain ⟨g8, hf⟩ := gw_ifs hf
    refine gj_bld (j := 1) C (by decide) (gw_ibv g8) dL_passes_65 ?_
    replace hf := gw_bnd hf
    obtain ⟨r9, hr9, hf⟩ := hf
    refine gj_cSi (As := [.int (r7.1 1 (((8 : Int32) * a3) + (2 : Int32)).toNatClampNeg)]) (rest := []) C cb_L_29 (s_L_many (gw_l K) Γ τ r7.1 r7.2 (r7.1 1 (((8 : Int32) * a3) + (2 : Int32)).toNatClampNeg) r9 hr9) rfl (Nat.le_of_ble_eq_true rfl) dL_passes_66 (gw_rmk rfl) rfl ?_
    cases hf
    exact gj_iret C E dL_passes_69 (Nat.le_of_ble_eq_true rfl) (Nat.le_of_ble_eq_true rfl)
  · replace hf := gw_iff hf c
    refine gj_bipush (v := -13) C dL_passes_25 (by decide) ?_
    cases hf
    exact gj_iret C E dL_passes_27 (Nat.le_of_ble_eq_true rfl) (Nat.le_of_ble_eq_true rfl)
set_option maxRecDepth 100000 in
set_option maxHeartbeats 4000000 in
theorem s_L_wishes (l : Launch) (Γ : gw_G) (τ μ : gw_S) (o : Nat → Int64) (a1 : Int32) (a2 : Int32) (r : Int32 × gw_S × (Nat → Int64)) (hf : f_L_wishes μ o a1 a2 = some r) : gw_M l yL_wishes [.code yL_wishes cL_wishes 5 (some .int)] gr_L_wishes 0 0 Γ [.ref (gw_a Γ 133), .int a1, .int a2] (gw_W Γ τ μ o) (gw_qi Γ r.1 (gw_W Γ τ r.2.1 r.2.2)) := by
  refine gw_enter (by decide) (Nat.le_of_ble_eq_true rfl) (fun K C E => ?_)
  unfold f_L_wishes at hf
  refine gj_aload_n C 0 dL_wishes_0 rfl ?_
  refine gj_bipush (v := 8) C dL_wishes_1 (by decide) ?_
  refine gj_iload_n C 1 dL_wishes_3 rfl ?_
  refine gj_imul C dL_wishes_4 ?_
  refine gj_iconst (v := 4) C dL_wishes_5 (by decide) ?_
  refine gj_iadd C dL_wishes_6 ?_
  obtain ⟨g1, hf⟩ := gw_ifs hf
  refine gj_bld (j := 1) C (by decide) (gw_ibv g1) dL_wishes_7 ?_
  refine gj_istore_n C 3 [(3, .int (μ 1 (((8 : Int32) * a1) + (4 : Int32)).toNatClampNeg)), (0, .ref (gw_a Γ 133)), (1, .int a1), (2, .int a2)] dL_wishes_8 rfl (by decide) rfl ?_
  refine gj_iload_n C 0 dL_wishes_9 rfl ?_
  refine gj_i2l C dL_wishes_10 ?_
  replace hf := gw_bnd hf
  obtain ⟨r2, hr2, hf⟩ := hf
  refine gj_cSi (As := [.long ((μ 1 (((8 : Int32) * a1) + (4 : Int32)).toNatClampNeg).toInt64)]) (rest := []) C cb_L_53 (s_L_length (gw_l K) Γ τ μ o ((μ 1 (((8 : Int32) * a1) + (4 : Int32)).toNatClampNeg).toInt64) r2 hr2) rfl (Nat.le_of_ble_eq_true rfl) dL_wishes_11 (gw_rmk rfl) rfl ?_
  refine gj_istore C 4 [(4, .int r2), (3, .int (μ 1 (((8 : Int32) * a1) + (4 : Int32)).toNatClampNeg)), (0, .ref (gw_a Γ 133)), (1, .int a1), (2, .int a2)] dL_wishes_14 (by decide) rfl ?_
  refine gj_aload_n C 2 dL_wishes_16 rfl ?_
  refine gj_bipush (v := 8) C dL_wishes_17 (by decide) ?_
  refine gj_iload_n C 3 dL_wishes_19 rfl ?_
  refine gj_imul C dL_wishes_20 ?_
  refine gj_iconst (v := 2) C dL_wishes_21 (by decide) ?_
  refine gj_iadd C dL_wishes_22 ?_
  obtain ⟨g3, hf⟩ := gw_ifs hf
  refine gj_bld (j := 1) C (by decide) (gw_ibv g3) dL_wishes_23 ?_
  refine gj_aload_n C 2 dL_wishes_24 rfl ?_
  refine gj_bipush (v := 8) C dL_wishes_25 (by decide) ?_
  refine gj_iload_n C 3 dL_wishes_27 rfl ?_
  refine gj_imul C dL_wishes_28 ?_
  refine gj_iconst (v := 3) C dL_wishes_29 (by decide) ?_
  refine gj_iadd C dL_wishes_30 ?_
  obtain ⟨g4, hf⟩ := gw_ifs hf
  refine gj_bld (j := 1) C (by decide) (gw_ibv g4) dL_wishes_31 ?_
  refine gj_ior C dL_wishes_32 ?_
  refine gj_iload_n C 4 dL_wishes_33 rfl ?_
  replace hf := gw_bnd hf
  obtain ⟨r5, hr5, hf⟩ := hf
  refine gj_cSi (As := [.int ((μ 1 (((8 : Int32) * a1) + (2 : Int32)).toNatClampNeg) ||| (μ 1 (((8 : Int32) * a1) + (3 : Int32)).toNatClampNeg)), .int a2]) (rest := []) C cb_L_15 (s_L_has (gw_l K) Γ τ μ o ((μ 1 (((8 : Int32) * a1) + (2 : Int32)).toNatClampNeg) ||| (μ 1 (((8 : Int32) * a1) + (3 : Int32)).toNatClampNeg)) a2 r5 hr5) rfl (Nat.le_of_ble_eq_true rfl) dL_wishes_34 (gw_rmk rfl) rfl ?_
  refine gj_if_ne C 56 dL_wishes_37 (by decide) (fun c => ?_) (fun c => ?_)
  · replace hf := gw_iff hf c
    refine gj_bipush (v := -13) C dL_wishes_56 (by decide) ?_
    cases hf
    exact gj_iret C E dL_wishes_58 (Nat.le_of_ble_eq_true rfl) (Nat.le_of_ble_eq_true rfl)
  · replace hf := gw_ift hf c
    refine gj_iload_n C 1 dL_wishes_40 rfl ?_
    refine gj_i2l C dL_wishes_41 ?_
    refine gj_iload_n C 4 dL_wishes_42 rfl ?_
    replace hf := gw_bnd hf
    obtain ⟨r6, hr6, hf⟩ := hf
    refine gj_cSi (As := [.long ((μ 1 (((8 : Int32) * a1) + (4 : Int32)).toNatClampNeg).toInt64), .int a2]) (rest := []) C cb_L_9 (s_L_place (gw_l K) Γ τ μ o ((μ 1 (((8 : Int32) * a1) + (4 : Int32)).toNatClampNeg).toInt64) a2 r6 hr6) rfl (Nat.le_of_ble_eq_true rfl) dL_wishes_43 (gw_rmk rfl) rfl ?_
    refine gj_if_ge C 56 dL_wishes_46 (by decide) (fun c => ?_) (fun c => ?_)
    · replace hf := gw_ift hf c
      refine gj_bipush (v := -13) C dL_wishes_56 (by decide) ?_
      cases hf
      exact gj_iret C E dL_wishes_58 (Nat.le_of_ble_eq_true rfl) (Nat.le_of_ble_eq_true rfl)
    · replace hf := gw_iff hf c
      refine gj_iload C 0 dL_wishes_49 rfl ?_
      refine gj_bipush (v := 6) C dL_wishes_51 (by decide) ?_
      refine gj_ic_ne C 59 dL_wishes_53 (by decide) (fun c => ?_) (fun c => ?_)
      · replace hf := gw_iff hf c
        refine gj_aload_n C 2 dL_wishes_59 rfl ?_
        refine gj_bipush (v := 8) C dL_wishes_60 (by decide) ?_
        refine gj_iload_n C 3 dL_wishes_62 rfl ?_
        refine gj_imul C dL_wishes_63 ?_
        refine gj_iconst (v := 4) C dL_wishes_64 (by decide) ?_
        refine gj_iadd C dL_wishes_65 ?_
        refine gj_dup2 C dL_wishes_66 rfl rfl ?_
        obtain ⟨g7, hf⟩ := gw_ifs hf
        refine gj_bld (j := 1) C (by decide) (gw_ibv g7) dL_wishes_67 ?_
        refine gj_iload_n C 4 dL_wishes_68 rfl ?_
        refine gj_iconst (v := 1) C dL_wishes_69 (by decide) ?_
        refine gj_iadd C dL_wishes_70 ?_
        refine gj_iconst (v := 4) C dL_wishes_71 (by decide) ?_
        refine gj_iload C 0 dL_wishes_72 rfl ?_
        refine gj_imul C dL_wishes_74 ?_
        refine gj_ishl C dL_wishes_75 ?_
        refine gj_ior C dL_wishes_76 ?_
        obtain ⟨g8, hf⟩ := gw_ifs hf
        refine gj_bst (j := 1) C (by decide) (gw_ibv g8) dL_wishes_77 ?_
        refine gj_iload C 0 dL_wishes_78 rfl ?_
        cases hf
        exact gj_iret C E dL_wishes_80 (Nat.le_of_ble_eq_true rfl) (Nat.le_of_ble_eq_true rfl)
      · replace hf := gw_ift hf c
        refine gj_bipush (v := -13) C dL_wishes_56 (by decide) ?_
        cases hf
        exact gj_iret C E dL_wishes_58 (Nat.le_of_ble_eq_true rfl) (Nat.le_of_ble_eq_true rfl)
set_option maxRecDepth 100000 in
set_option maxHeartbeats 4000000 in
theorem s_L_asks (l : Launch) (Γ : gw_G) (τ μ : gw_S) (o : Nat → Int64) (a3 : Int32) (a4 : Int32) (r : Int32 × gw_S × (Nat → Int64)) (hf : f_L_asks μ o a3 a4 = some r) : gw_M l yL_asks [.code yL_asks cL_asks 5 (some .int)] gr_L_asks 0 0 Γ [.ref (gw_a Γ 132), .ref (gw_a Γ 133), .ref (gw_a Γ 135), .int a3, .int a4] (gw_W Γ τ μ o) (gw_qi Γ r.1 (gw_W Γ τ r.2.1 r.2.2)) := by
  refine gw_enter (by decide) (Nat.le_of_ble_eq_true rfl) (fun K C E => ?_)
  unfold f_L_asks at hf
  refine gj_aload_n C 0 dL_asks_0 rfl ?_
  refine gj_aload_n C 1 dL_asks_1 rfl ?_
  refine gj_iload_n C 3 dL_asks_2 rfl ?_
  refine gj_iload C 4 dL_asks_3 rfl ?_
  refine gj_aload_n C 1 dL_asks_5 rfl ?_
  refine gj_bipush (v := 8) C dL_asks_6 (by decide) ?_
  refine gj_iload_n C 3 dL_asks_8 rfl ?_
  refine gj_imul C dL_asks_9 ?_
  refine gj_iconst (v := 3) C dL_asks_10 (by decide) ?_
  refine gj_iadd C dL_asks_11 ?_
  obtain ⟨g1, hf⟩ := gw_ifs hf
  refine gj_bld (j := 1) C (by decide) (gw_ibv g1) dL_asks_12 ?_
  replace hf := gw_bnd hf
  obtain ⟨r2, hr2, hf⟩ := hf
  refine gj_cSi (As := [.ref (gw_a Γ 132), .ref (gw_a Γ 133), .int a3, .int a4, .int (μ 1 (((8 : Int32) * a3) + (3 : Int32)).toNatClampNeg)]) (rest := []) C cb_L_37 (s_L_obstacle (gw_l K) Γ τ μ o a3 a4 (μ 1 (((8 : Int32) * a3) + (3 : Int32)).toNatClampNeg) r2 hr2) rfl (Nat.le_of_ble_eq_true rfl) dL_asks_13 (gw_rmk rfl) rfl ?_
  refine gj_if_gt C 30 dL_asks_16 (by decide) (fun c => ?_) (fun c => ?_)
  · replace hf := gw_ift hf c
    refine gj_bipush (v := -13) C dL_asks_30 (by decide) ?_
    cases hf
    exact gj_iret C E dL_asks_32 (Nat.le_of_ble_eq_true rfl) (Nat.le_of_ble_eq_true rfl)
  · replace hf := gw_iff hf c
    refine gj_aload_n C 2 dL_asks_19 rfl ?_
    refine gj_iload C 4 dL_asks_20 rfl ?_
    obtain ⟨g3, hf⟩ := gw_ifs hf
    refine gj_lald C (gw_ibv g3) dL_asks_22 ?_
    refine gj_iload_n C 3 dL_asks_23 rfl ?_
    replace hf := gw_bnd hf
    obtain ⟨r4, hr4, hf⟩ := hf
    refine gj_cSi (As := [.long (o a4.toNatClampNeg), .int a3]) (rest := []) C cb_L_9 (s_L_place (gw_l K) Γ τ μ o (o a4.toNatClampNeg) a3 r4 hr4) rfl (Nat.le_of_ble_eq_true rfl) dL_asks_24 (gw_rmk rfl) rfl ?_
    refine gj_if_lt C 33 dL_asks_27 (by decide) (fun c => ?_) (fun c => ?_)
    · replace hf := gw_ift hf c
      refine gj_aload_n C 0 dL_asks_33 rfl ?_
      refine gj_aload_n C 1 dL_asks_34 rfl ?_
      refine gj_iload C 4 dL_asks_35 rfl ?_
      replace hf := gw_bnd hf
      obtain ⟨r5, hr5, hf⟩ := hf
      refine gj_cSi (As := [.ref (gw_a Γ 132), .ref (gw_a Γ 133), .int a4]) (rest := []) C cb_L_33 (s_L_free (gw_l K) Γ τ μ o a4 r5 hr5) rfl (Nat.le_of_ble_eq_true rfl) dL_asks_37 (gw_rmk rfl) rfl ?_
      refine gj_if_le C 54 dL_asks_40 (by decide) (fun c => ?_) (fun c => ?_)
      · replace hf := gw_ift hf c
        refine gj_aload_n C 2 dL_asks_54 rfl ?_
        refine gj_iload C 4 dL_asks_55 rfl ?_
        refine gj_dup2 C dL_asks_57 rfl rfl ?_
        obtain ⟨g6, hf⟩ := gw_ifs hf
        refine gj_lald C (gw_ibv g6) dL_asks_58 ?_
        refine gj_iload_n C 3 dL_asks_59 rfl ?_
        refine gj_i2l C dL_asks_60 ?_
        refine gj_lconst (v := 1) C dL_asks_61 (by decide) ?_
        refine gj_ladd C dL_asks_62 ?_
        refine gj_iconst (v := 4) C dL_asks_63 (by decide) ?_
        refine gj_aload_n C 2 dL_asks_64 rfl ?_
        refine gj_iload C 4 dL_asks_65 rfl ?_
        obtain ⟨g7, hf⟩ := gw_ifs hf
        refine gj_lald C (gw_ibv g7) dL_asks_67 ?_
        replace hf := gw_bnd hf
        obtain ⟨r8, hr8, hf⟩ := hf
        refine gj_cSi (As := [.long (o a4.toNatClampNeg)]) (rest := [.int (4 : Int32), .long (a3.toInt64 + (1 : Int64)), .long (o a4.toNatClampNeg), .int a4, .ref (gw_a Γ 135)]) C cb_L_53 (s_L_length (gw_l K) Γ τ μ o (o a4.toNatClampNeg) r8 hr8) rfl (Nat.le_of_ble_eq_true rfl) dL_asks_68 (gw_rmk rfl) rfl ?_
        refine gj_imul C dL_asks_71 ?_
        refine gj_lshl (v := (a3.toInt64 + (1 : Int64)) <<< (((4 : Int32) * r8).toInt64 &&& 63)) C dL_asks_72 rfl ?_
        refine gj_lor C dL_asks_73 ?_
        obtain ⟨g9, hf⟩ := gw_ifs hf
        refine gj_last C (gw_ibv g9) dL_asks_74 ?_
        refine gj_aload_n C 2 dL_asks_75 rfl ?_
        refine gj_iload C 4 dL_asks_76 rfl ?_
        obtain ⟨g10, hf⟩ := gw_ifs hf
        refine gj_lald C (gw_ibv g10) dL_asks_78 ?_
        replace hf := gw_bnd hf
        obtain ⟨r11, hr11, hf⟩ := hf
        refine gj_cSi (As := [.long ((vp_updL o a4.toNatClampNeg ((o a4.toNatClampNeg) ||| ((a3.toInt64 + (1 : Int64)) <<< (((4 : Int32) * r8).toInt64 &&& 63)))) a4.toNatClampNeg)]) (rest := []) C cb_L_53 (s_L_length (gw_l K) Γ τ μ (vp_updL o a4.toNatClampNeg ((o a4.toNatClampNeg) ||| ((a3.toInt64 + (1 : Int64)) <<< (((4 : Int32) * r8).toInt64 &&& 63)))) ((vp_updL o a4.toNatClampNeg ((o a4.toNatClampNeg) ||| ((a3.toInt64 + (1 : Int64)) <<< (((4 : Int32) * r8).toInt64 &&& 63)))) a4.toNatClampNeg) r11 hr11) rfl (Nat.le_of_ble_eq_true rfl) dL_asks_79 (gw_rmk rfl) rfl ?_
        cases hf
        exact gj_iret C E dL_asks_82 (Nat.le_of_ble_eq_true rfl) (Nat.le_of_ble_eq_true rfl)
      · replace hf := gw_iff hf c
        refine gj_aload_n C 0 dL_asks_43 rfl ?_
        refine gj_aload_n C 1 dL_asks_44 rfl ?_
        refine gj_aload_n C 2 dL_asks_45 rfl ?_
        refine gj_iload_n C 3 dL_asks_46 rfl ?_
        refine gj_iload C 4 dL_asks_47 rfl ?_
        replace hf := gw_bnd hf
        obtain ⟨r12, hr12, hf⟩ := hf
        refine gj_cSv (As := [.ref (gw_a Γ 132), .ref (gw_a Γ 133), .ref (gw_a Γ 135), .int a3, .int a4]) (rest := []) C cb_L_57 (s_L_enrols (gw_l K) Γ τ μ o a3 a4 r12 hr12) rfl (Nat.le_of_ble_eq_true rfl) dL_asks_49 (gw_rmk rfl) rfl ?_
        refine gj_iconst (v := 0) C dL_asks_52 (by decide) ?_
        cases hf
        exact gj_iret C E dL_asks_53 (Nat.le_of_ble_eq_true rfl) (Nat.le_of_ble_eq_true rfl)
    · replace hf := gw_iff hf c
      refine gj_bipush (v := -13) C dL_asks_30 (by decide) ?_
      cases hf
      exact gj_iret C E dL_asks_32 (Nat.le_of_ble_eq_true rfl) (Nat.le_of_ble_eq_true rfl)
set_option maxRecDepth 100000 in
set_option maxHeartbeats 4000000 in
theorem s_L_drops (l : Launch) (Γ : gw_G) (τ μ : gw_S) (o : Nat → Int64) (a2 : Int32) (a3 : Int32) (r : Int32 × gw_S × (Nat → Int64)) (hf : f_L_drops μ o a2 a3 = some r) : gw_M l yL_drops [.code yL_drops cL_drops 4 (some .int)] gr_L_drops 0 0 Γ [.ref (gw_a Γ 132), .ref (gw_a Γ 133), .int a2, .int a3] (gw_W Γ τ μ o) (gw_qi Γ r.1 (gw_W Γ τ r.2.1 r.2.2)) := by
  refine gw_enter (by decide) (Nat.le_of_ble_eq_true rfl) (fun K C E => ?_)
  unfold f_L_drops at hf
  refine gj_aload_n C 1 dL_drops_0 rfl ?_
  refine gj_bipush (v := 8) C dL_drops_1 (by decide) ?_
  refine gj_iload_n C 2 dL_drops_3 rfl ?_
  refine gj_imul C dL_drops_4 ?_
  refine gj_iconst (v := 3) C dL_drops_5 (by decide) ?_
  refine gj_iadd C dL_drops_6 ?_
  obtain ⟨g1, hf⟩ := gw_ifs hf
  refine gj_bld (j := 1) C (by decide) (gw_ibv g1) dL_drops_7 ?_
  refine gj_iload_n C 3 dL_drops_8 rfl ?_
  replace hf := gw_bnd hf
  obtain ⟨r2, hr2, hf⟩ := hf
  refine gj_cSi (As := [.int (μ 1 (((8 : Int32) * a2) + (3 : Int32)).toNatClampNeg), .int a3]) (rest := []) C cb_L_15 (s_L_has (gw_l K) Γ τ μ o (μ 1 (((8 : Int32) * a2) + (3 : Int32)).toNatClampNeg) a3 r2 hr2) rfl (Nat.le_of_ble_eq_true rfl) dL_drops_9 (gw_rmk rfl) rfl ?_
  refine gj_if_ne C 18 dL_drops_12 (by decide) (fun c => ?_) (fun c => ?_)
  · replace hf := gw_iff hf c
    refine gj_aload_n C 1 dL_drops_18 rfl ?_
    refine gj_iload_n C 2 dL_drops_19 rfl ?_
    refine gj_iload_n C 3 dL_drops_20 rfl ?_
    replace hf := gw_bnd hf
    obtain ⟨r3, hr3, hf⟩ := hf
    refine gj_cSv (As := [.ref (gw_a Γ 133), .int a2, .int a3]) (rest := []) C cb_L_61 (s_L_gives (gw_l K) Γ τ μ o a2 a3 r3 hr3) rfl (Nat.le_of_ble_eq_true rfl) dL_drops_21 (gw_rmk rfl) rfl ?_
    refine gj_aload_n C 0 dL_drops_24 rfl ?_
    refine gj_aload_n C 1 dL_drops_25 rfl ?_
    refine gj_bipush (v := 8) C dL_drops_26 (by decide) ?_
    refine gj_iload_n C 2 dL_drops_28 rfl ?_
    refine gj_imul C dL_drops_29 ?_
    refine gj_iconst (v := 3) C dL_drops_30 (by decide) ?_
    refine gj_iadd C dL_drops_31 ?_
    obtain ⟨g4, hf⟩ := gw_ifs hf
    refine gj_bld (j := 1) C (by decide) (gw_ibv g4) dL_drops_32 ?_
    replace hf := gw_bnd hf
    obtain ⟨r5, hr5, hf⟩ := hf
    refine gj_cSi (As := [.ref (gw_a Γ 132), .int (r3.1 1 (((8 : Int32) * a2) + (3 : Int32)).toNatClampNeg)]) (rest := []) C cb_L_19 (s_L_worth (gw_l K) Γ τ r3.1 r3.2 (r3.1 1 (((8 : Int32) * a2) + (3 : Int32)).toNatClampNeg) r5 hr5) rfl (Nat.le_of_ble_eq_true rfl) dL_drops_33 (gw_rmk rfl) rfl ?_
    cases hf
    exact gj_iret C E dL_drops_36 (Nat.le_of_ble_eq_true rfl) (Nat.le_of_ble_eq_true rfl)
  · replace hf := gw_ift hf c
    refine gj_bipush (v := -13) C dL_drops_15 (by decide) ?_
    cases hf
    exact gj_iret C E dL_drops_17 (Nat.le_of_ble_eq_true rfl) (Nat.le_of_ble_eq_true rfl)
set_option maxRecDepth 100000 in
set_option maxHeartbeats 4000000 in
theorem s_L_changes (l : Launch) (Γ : gw_G) (τ μ : gw_S) (o : Nat → Int64) (a3 : Int32) (a4 : Int32) (a5 : Int32) (r : Int32 × gw_S × (Nat → Int64)) (hf : f_L_changes μ o a3 a4 a5 = some r) : gw_M l yL_changes [.code yL_changes cL_changes 6 (some .int)] gr_L_changes 0 0 Γ [.ref (gw_a Γ 132), .ref (gw_a Γ 133), .ref (gw_a Γ 135), .int a3, .int a4, .int a5] (gw_W Γ τ μ o) (gw_qi Γ r.1 (gw_W Γ τ r.2.1 r.2.2)) := by
  refine gw_enter (by decide) (Nat.le_of_ble_eq_true rfl) (fun K C E => ?_)
  unfold f_L_changes at hf
  refine gj_aload_n C 1 dL_changes_0 rfl ?_
  refine gj_bipush (v := 8) C dL_changes_1 (by decide) ?_
  refine gj_iload_n C 3 dL_changes_3 rfl ?_
  refine gj_imul C dL_changes_4 ?_
  refine gj_iconst (v := 3) C dL_changes_5 (by decide) ?_
  refine gj_iadd C dL_changes_6 ?_
  obtain ⟨g1, hf⟩ := gw_ifs hf
  refine gj_bld (j := 1) C (by decide) (gw_ibv g1) dL_changes_7 ?_
  refine gj_iload C 4 dL_changes_8 rfl ?_
  replace hf := gw_bnd hf
  obtain ⟨r2, hr2, hf⟩ := hf
  refine gj_cSi (As := [.int (μ 1 (((8 : Int32) * a3) + (3 : Int32)).toNatClampNeg), .int a4]) (rest := []) C cb_L_15 (s_L_has (gw_l K) Γ τ μ o (μ 1 (((8 : Int32) * a3) + (3 : Int32)).toNatClampNeg) a4 r2 hr2) rfl (Nat.le_of_ble_eq_true rfl) dL_changes_10 (gw_rmk rfl) rfl ?_
  refine gj_if_eq C 59 dL_changes_13 (by decide) (fun c => ?_) (fun c => ?_)
  · replace hf := gw_ift hf c
    refine gj_bipush (v := -13) C dL_changes_59 (by decide) ?_
    cases hf
    exact gj_iret C E dL_changes_61 (Nat.le_of_ble_eq_true rfl) (Nat.le_of_ble_eq_true rfl)
  · replace hf := gw_iff hf c
    refine gj_iload C 4 dL_changes_16 rfl ?_
    refine gj_iload C 5 dL_changes_18 rfl ?_
    refine gj_ic_eq C 59 dL_changes_20 (by decide) (fun c => ?_) (fun c => ?_)
    · replace hf := gw_ift hf c
      refine gj_bipush (v := -13) C dL_changes_59 (by decide) ?_
      cases hf
      exact gj_iret C E dL_changes_61 (Nat.le_of_ble_eq_true rfl) (Nat.le_of_ble_eq_true rfl)
    · replace hf := gw_iff hf c
      refine gj_aload_n C 0 dL_changes_23 rfl ?_
      refine gj_aload_n C 1 dL_changes_24 rfl ?_
      refine gj_iload_n C 3 dL_changes_25 rfl ?_
      refine gj_iload C 5 dL_changes_26 rfl ?_
      refine gj_aload_n C 1 dL_changes_28 rfl ?_
      refine gj_bipush (v := 8) C dL_changes_29 (by decide) ?_
      refine gj_iload_n C 3 dL_changes_31 rfl ?_
      refine gj_imul C dL_changes_32 ?_
      refine gj_iconst (v := 3) C dL_changes_33 (by decide) ?_
      refine gj_iadd C dL_changes_34 ?_
      obtain ⟨g3, hf⟩ := gw_ifs hf
      refine gj_bld (j := 1) C (by decide) (gw_ibv g3) dL_changes_35 ?_
      refine gj_iconst (v := 1) C dL_changes_36 (by decide) ?_
      refine gj_iload C 4 dL_changes_37 rfl ?_
      refine gj_ishl C dL_changes_39 ?_
      refine gj_iconst (v := -1) C dL_changes_40 (by decide) ?_
      refine gj_ixor C dL_changes_41 ?_
      refine gj_iand C dL_changes_42 ?_
      replace hf := gw_bnd hf
      obtain ⟨r4, hr4, hf⟩ := hf
      refine gj_cSi (As := [.ref (gw_a Γ 132), .ref (gw_a Γ 133), .int a3, .int a5, .int ((μ 1 (((8 : Int32) * a3) + (3 : Int32)).toNatClampNeg) &&& (((1 : Int32) <<< (a4 &&& 31)) ^^^ (-1 : Int32)))]) (rest := []) C cb_L_37 (s_L_obstacle (gw_l K) Γ τ μ o a3 a5 ((μ 1 (((8 : Int32) * a3) + (3 : Int32)).toNatClampNeg) &&& (((1 : Int32) <<< (a4 &&& 31)) ^^^ (-1 : Int32))) r4 hr4) rfl (Nat.le_of_ble_eq_true rfl) dL_changes_43 (gw_rmk rfl) rfl ?_
      refine gj_if_gt C 59 dL_changes_46 (by decide) (fun c => ?_) (fun c => ?_)
      · replace hf := gw_ift hf c
        refine gj_bipush (v := -13) C dL_changes_59 (by decide) ?_
        cases hf
        exact gj_iret C E dL_changes_61 (Nat.le_of_ble_eq_true rfl) (Nat.le_of_ble_eq_true rfl)
      · replace hf := gw_iff hf c
        refine gj_aload_n C 0 dL_changes_49 rfl ?_
        refine gj_aload_n C 1 dL_changes_50 rfl ?_
        refine gj_iload C 5 dL_changes_51 rfl ?_
        replace hf := gw_bnd hf
        obtain ⟨r5, hr5, hf⟩ := hf
        refine gj_cSi (As := [.ref (gw_a Γ 132), .ref (gw_a Γ 133), .int a5]) (rest := []) C cb_L_33 (s_L_free (gw_l K) Γ τ μ o a5 r5 hr5) rfl (Nat.le_of_ble_eq_true rfl) dL_changes_53 (gw_rmk rfl) rfl ?_
        refine gj_if_ne C 62 dL_changes_56 (by decide) (fun c => ?_) (fun c => ?_)
        · replace hf := gw_iff hf c
          refine gj_aload_n C 1 dL_changes_62 rfl ?_
          refine gj_iload_n C 3 dL_changes_63 rfl ?_
          refine gj_iload C 4 dL_changes_64 rfl ?_
          replace hf := gw_bnd hf
          obtain ⟨r6, hr6, hf⟩ := hf
          refine gj_cSv (As := [.ref (gw_a Γ 133), .int a3, .int a4]) (rest := []) C cb_L_61 (s_L_gives (gw_l K) Γ τ μ o a3 a4 r6 hr6) rfl (Nat.le_of_ble_eq_true rfl) dL_changes_66 (gw_rmk rfl) rfl ?_
          refine gj_aload_n C 0 dL_changes_69 rfl ?_
          refine gj_aload_n C 1 dL_changes_70 rfl ?_
          refine gj_aload_n C 2 dL_changes_71 rfl ?_
          refine gj_iload_n C 3 dL_changes_72 rfl ?_
          refine gj_iload C 5 dL_changes_73 rfl ?_
          replace hf := gw_bnd hf
          obtain ⟨r7, hr7, hf⟩ := hf
          refine gj_cSv (As := [.ref (gw_a Γ 132), .ref (gw_a Γ 133), .ref (gw_a Γ 135), .int a3, .int a5]) (rest := []) C cb_L_57 (s_L_enrols (gw_l K) Γ τ r6.1 r6.2 a3 a5 r7 hr7) rfl (Nat.le_of_ble_eq_true rfl) dL_changes_75 (gw_rmk rfl) rfl ?_
          refine gj_aload_n C 0 dL_changes_78 rfl ?_
          refine gj_aload_n C 1 dL_changes_79 rfl ?_
          refine gj_bipush (v := 8) C dL_changes_80 (by decide) ?_
          refine gj_iload_n C 3 dL_changes_82 rfl ?_
          refine gj_imul C dL_changes_83 ?_
          refine gj_iconst (v := 3) C dL_changes_84 (by decide) ?_
          refine gj_iadd C dL_changes_85 ?_
          obtain ⟨g8, hf⟩ := gw_ifs hf
          refine gj_bld (j := 1) C (by decide) (gw_ibv g8) dL_changes_86 ?_
          replace hf := gw_bnd hf
          obtain ⟨r9, hr9, hf⟩ := hf
          refine gj_cSi (As := [.ref (gw_a Γ 132), .int (r7.1 1 (((8 : Int32) * a3) + (3 : Int32)).toNatClampNeg)]) (rest := []) C cb_L_19 (s_L_worth (gw_l K) Γ τ r7.1 r7.2 (r7.1 1 (((8 : Int32) * a3) + (3 : Int32)).toNatClampNeg) r9 hr9) rfl (Nat.le_of_ble_eq_true rfl) dL_changes_87 (gw_rmk rfl) rfl ?_
          cases hf
          exact gj_iret C E dL_changes_90 (Nat.le_of_ble_eq_true rfl) (Nat.le_of_ble_eq_true rfl)
        · replace hf := gw_ift hf c
          refine gj_bipush (v := -13) C dL_changes_59 (by decide) ?_
          cases hf
          exact gj_iret C E dL_changes_61 (Nat.le_of_ble_eq_true rfl) (Nat.le_of_ble_eq_true rfl)
set_option maxRecDepth 100000 in
set_option maxHeartbeats 4000000 in
theorem s_L_accepts (l : Launch) (Γ : gw_G) (τ μ : gw_S) (o : Nat → Int64) (a3 : Int32) (a4 : Int32) (r : Int32 × gw_S × (Nat → Int64)) (hf : f_L_accepts μ o a3 a4 = some r) : gw_M l yL_accepts [.code yL_accepts cL_accepts 5 (some .int)] gr_L_accepts 0 0 Γ [.ref (gw_a Γ 132), .ref (gw_a Γ 133), .ref (gw_a Γ 135), .int a3, .int a4] (gw_W Γ τ μ o) (gw_qi Γ r.1 (gw_W Γ τ r.2.1 r.2.2)) := by
  refine gw_enter (by decide) (Nat.le_of_ble_eq_true rfl) (fun K C E => ?_)
  unfold f_L_accepts at hf
  refine gj_aload_n C 0 dL_accepts_0 rfl ?_
  refine gj_iload C 4 dL_accepts_1 rfl ?_
  replace hf := gw_bnd hf
  obtain ⟨r1, hr1, hf⟩ := hf
  refine gj_cSi (As := [.ref (gw_a Γ 132), .int a4]) (rest := []) C cb_L_26 (s_L_offers (gw_l K) Γ τ μ o a4 r1 hr1) rfl (Nat.le_of_ble_eq_true rfl) dL_accepts_3 (gw_rmk rfl) rfl ?_
  refine gj_iload_n C 3 dL_accepts_6 rfl ?_
  replace hf := gw_bnd hf
  obtain ⟨r2, hr2, hf⟩ := hf
  refine gj_cSi (As := [.int r1, .int a3]) (rest := []) C cb_L_15 (s_L_has (gw_l K) Γ τ μ o r1 a3 r2 hr2) rfl (Nat.le_of_ble_eq_true rfl) dL_accepts_7 (gw_rmk rfl) rfl ?_
  refine gj_if_eq C 32 dL_accepts_10 (by decide) (fun c => ?_) (fun c => ?_)
  · replace hf := gw_ift hf c
    refine gj_bipush (v := -13) C dL_accepts_32 (by decide) ?_
    cases hf
    exact gj_iret C E dL_accepts_34 (Nat.le_of_ble_eq_true rfl) (Nat.le_of_ble_eq_true rfl)
  · replace hf := gw_iff hf c
    refine gj_aload_n C 0 dL_accepts_13 rfl ?_
    refine gj_aload_n C 1 dL_accepts_14 rfl ?_
    refine gj_iload_n C 3 dL_accepts_15 rfl ?_
    refine gj_iload C 4 dL_accepts_16 rfl ?_
    refine gj_aload_n C 1 dL_accepts_18 rfl ?_
    refine gj_bipush (v := 8) C dL_accepts_19 (by decide) ?_
    refine gj_iload_n C 3 dL_accepts_21 rfl ?_
    refine gj_imul C dL_accepts_22 ?_
    refine gj_iconst (v := 3) C dL_accepts_23 (by decide) ?_
    refine gj_iadd C dL_accepts_24 ?_
    obtain ⟨g3, hf⟩ := gw_ifs hf
    refine gj_bld (j := 1) C (by decide) (gw_ibv g3) dL_accepts_25 ?_
    replace hf := gw_bnd hf
    obtain ⟨r4, hr4, hf⟩ := hf
    refine gj_cSi (As := [.ref (gw_a Γ 132), .ref (gw_a Γ 133), .int a3, .int a4, .int (μ 1 (((8 : Int32) * a3) + (3 : Int32)).toNatClampNeg)]) (rest := []) C cb_L_37 (s_L_obstacle (gw_l K) Γ τ μ o a3 a4 (μ 1 (((8 : Int32) * a3) + (3 : Int32)).toNatClampNeg) r4 hr4) rfl (Nat.le_of_ble_eq_true rfl) dL_accepts_26 (gw_rmk rfl) rfl ?_
    refine gj_if_le C 35 dL_accepts_29 (by decide) (fun c => ?_) (fun c => ?_)
    · replace hf := gw_ift hf c
      refine gj_aload_n C 0 dL_accepts_35 rfl ?_
      refine gj_aload_n C 1 dL_accepts_36 rfl ?_
      refine gj_aload_n C 2 dL_accepts_37 rfl ?_
      refine gj_iload_n C 3 dL_accepts_38 rfl ?_
      refine gj_iload C 4 dL_accepts_39 rfl ?_
      replace hf := gw_bnd hf
      obtain ⟨r5, hr5, hf⟩ := hf
      refine gj_cSv (As := [.ref (gw_a Γ 132), .ref (gw_a Γ 133), .ref (gw_a Γ 135), .int a3, .int a4]) (rest := []) C cb_L_57 (s_L_enrols (gw_l K) Γ τ μ o a3 a4 r5 hr5) rfl (Nat.le_of_ble_eq_true rfl) dL_accepts_41 (gw_rmk rfl) rfl ?_
      refine gj_aload_n C 0 dL_accepts_44 rfl ?_
      refine gj_aload_n C 1 dL_accepts_45 rfl ?_
      refine gj_bipush (v := 8) C dL_accepts_46 (by decide) ?_
      refine gj_iload_n C 3 dL_accepts_48 rfl ?_
      refine gj_imul C dL_accepts_49 ?_
      refine gj_iconst (v := 3) C dL_accepts_50 (by decide) ?_
      refine gj_iadd C dL_accepts_51 ?_
      obtain ⟨g6, hf⟩ := gw_ifs hf
      refine gj_bld (j := 1) C (by decide) (gw_ibv g6) dL_accepts_52 ?_
      replace hf := gw_bnd hf
      obtain ⟨r7, hr7, hf⟩ := hf
      refine gj_cSi (As := [.ref (gw_a Γ 132), .int (r5.1 1 (((8 : Int32) * a3) + (3 : Int32)).toNatClampNeg)]) (rest := []) C cb_L_19 (s_L_worth (gw_l K) Γ τ r5.1 r5.2 (r5.1 1 (((8 : Int32) * a3) + (3 : Int32)).toNatClampNeg) r7 hr7) rfl (Nat.le_of_ble_eq_true rfl) dL_accepts_53 (gw_rmk rfl) rfl ?_
      cases hf
      exact gj_iret C E dL_accepts_56 (Nat.le_of_ble_eq_true rfl) (Nat.le_of_ble_eq_true rfl)
    · replace hf := gw_iff hf c
      refine gj_bipush (v := -13) C dL_accepts_32 (by decide) ?_
      cases hf
      exact gj_iret C E dL_accepts_34 (Nat.le_of_ble_eq_true rfl) (Nat.le_of_ble_eq_true rfl)
set_option maxRecDepth 100000 in
set_option maxHeartbeats 4000000 in
theorem l_L_goesOn_3 {K : gw_K} {Γ : gw_G} (C : gw_C K Γ cL_goesOn 10 RL) (τ : gw_S) (v4 : Int32) (v5 : Int32) (v6 : Int32) (v7 : Int32) (v8 : Int32) : ∀ (n : Nat) (v9 : Int32) (μ : gw_S) (o : Nat → Int64) (T : Int32 × gw_S × (Nat → Int64)), gw_it (b_L_goesOn_3 v4 v5 v6 v7 v8) n (v9, μ, o) = some T → gw_J K Γ gr_L_goesOn 0 0 (gw_W Γ τ T.2.1 T.2.2) 93 [(0, .ref (gw_a Γ 132)), (1, .ref (gw_a Γ 133)), (2, .ref (gw_a Γ 135)), (3, .ref (gw_a Γ 134)), (4, .int v4), (5, .int v5), (6, .int v6), (7, .int v7), (8, .int v8), (9, .int T.1)] [] → gw_J K Γ gr_L_goesOn 0 0 (gw_W Γ τ μ o) 61 [(0, .ref (gw_a Γ 132)), (1, .ref (gw_a Γ 133)), (2, .ref (gw_a Γ 135)), (3, .ref (gw_a Γ 134)), (4, .int v4), (5, .int v5), (6, .int v6), (7, .int v7), (8, .int v8), (9, .int v9)] [] := by
  intro n
  induction n with
  | zero => intro v9 μ o T h; cases h
  | succ n ih =>
    intro v9 μ o T h k
    obtain ⟨q, hf, hr⟩ := gw_it_s h
    rw [b_L_goesOn_3] at hf
    refine gj_iload C 9 dL_goesOn_61 rfl ?_
    refine gj_bipush (v := 8) C dL_goesOn_63 (by decide) ?_
    refine gj_ic_ge C 93 dL_goesOn_65 (by decide) (fun c => ?_) (fun c => ?_)
    · replace hf := gw_ift hf c
      cases hf
      cases gw_ir hr
      exact gj_pick [0, 1, 2, 3, 4, 5, 6, 7, 8, 9] _ rfl k
    · replace hf := gw_iff hf c
      refine gj_iload C 8 dL_goesOn_68 rfl ?_
      refine gj_iload C 9 dL_goesOn_70 rfl ?_
      replace hf := gw_bnd hf
      obtain ⟨r7, hr7, hf⟩ := hf
      refine gj_cSi (As := [.int v8, .int v9]) (rest := []) C cb_L_15 (s_L_has (gw_l K) Γ τ μ o v8 v9 r7 hr7) rfl (Nat.le_of_ble_eq_true rfl) dL_goesOn_72 (gw_rmk rfl) rfl ?_
      refine gj_if_eq C 87 dL_goesOn_75 (by decide) (fun c => ?_) (fun c => ?_)
      · replace hf := gw_ift hf c
        refine gj_iinc C 9 9 (v9 + 1) [(9, .int (v9 + 1)), (0, .ref (gw_a Γ 132)), (1, .ref (gw_a Γ 133)), (2, .ref (gw_a Γ 135)), (3, .ref (gw_a Γ 134)), (4, .int v4), (5, .int v5), (6, .int v6), (7, .int v7), (8, .int v8)] dL_goesOn_87 rfl rfl (by decide) rfl ?_
        refine gj_goto C 61 dL_goesOn_90 (by decide) ?_
        cases hf
        replace hr := gw_il hr
        exact gj_pick [1, 2, 3, 4, 5, 6, 7, 8, 9, 0] _ rfl (ih _ _ _ _ hr k)
      · replace hf := gw_iff hf c
        refine gj_aload_n C 0 dL_goesOn_78 rfl ?_
        refine gj_aload_n C 2 dL_goesOn_79 rfl ?_
        refine gj_iload C 9 dL_goesOn_80 rfl ?_
        refine gj_iload C 7 dL_goesOn_82 rfl ?_
        replace hf := gw_bnd hf
        obtain ⟨r8, hr8, hf⟩ := hf
        refine gj_cSv (As := [.ref (gw_a Γ 132), .ref (gw_a Γ 135), .int v9, .int v7]) (rest := []) C cb_L_49 (s_L_leaves (gw_l K) Γ τ μ o v9 v7 r8 hr8) rfl (Nat.le_of_ble_eq_true rfl) dL_goesOn_84 (gw_rmk rfl) rfl ?_
        refine gj_iinc C 9 9 (v9 + 1) [(9, .int (v9 + 1)), (0, .ref (gw_a Γ 132)), (1, .ref (gw_a Γ 133)), (2, .ref (gw_a Γ 135)), (3, .ref (gw_a Γ 134)), (4, .int v4), (5, .int v5), (6, .int v6), (7, .int v7), (8, .int v8)] dL_goesOn_87 rfl rfl (by decide) rfl ?_
        refine gj_goto C 61 dL_goesOn_90 (by decide) ?_
        cases hf
        replace hr := gw_il hr
        exact gj_pick [1, 2, 3, 4, 5, 6, 7, 8, 9, 0] _ rfl (ih _ _ _ _ hr k)
set_option maxRecDepth 100000 in
set_option maxHeartbeats 4000000 in
theorem l_L_goesOn_2 {K : gw_K} {Γ : gw_G} (C : gw_C K Γ cL_goesOn 10 RL) (τ : gw_S) (v4 : Int32) (v6 : Int32) : ∀ (n : Nat) (v5 : Int32) (v7 : Int32) (μ : gw_S) (o : Nat → Int64) (T : Int32 × Int32 × gw_S × (Nat → Int64)), gw_it (b_L_goesOn_2 v4 v6) n (v5, v7, μ, o) = some T → gw_J K Γ gr_L_goesOn 0 0 (gw_W Γ τ T.2.2.1 T.2.2.2) 99 [(0, .ref (gw_a Γ 132)), (1, .ref (gw_a Γ 133)), (2, .ref (gw_a Γ 135)), (3, .ref (gw_a Γ 134)), (4, .int v4), (5, .int T.1), (6, .int v6), (7, .int T.2.1)] [] → gw_J K Γ gr_L_goesOn 0 0 (gw_W Γ τ μ o) 23 [(0, .ref (gw_a Γ 132)), (1, .ref (gw_a Γ 133)), (2, .ref (gw_a Γ 135)), (3, .ref (gw_a Γ 134)), (4, .int v4), (5, .int v5), (6, .int v6), (7, .int v7)] [] := by
  intro n
  induction n with
  | zero => intro v5 v7 μ o T h; cases h
  | succ n ih =>
    intro v5 v7 μ o T h k
    obtain ⟨q, hf, hr⟩ := gw_it_s h
    rw [b_L_goesOn_2] at hf
    refine gj_iload C 7 dL_goesOn_23 rfl ?_
    refine gj_aload_n C 3 dL_goesOn_25 rfl ?_
    refine gj_iconst (v := 0) C dL_goesOn_26 (by decide) ?_
    obtain ⟨g3, hf⟩ := gw_ifs hf
    refine gj_bld (j := 2) C (by decide) (gw_ibv g3) dL_goesOn_27 ?_
    refine gj_ic_ge C 99 dL_goesOn_28 (by decide) (fun c => ?_) (fun c => ?_)
    · replace hf := gw_ift hf c
      cases hf
      cases gw_ir hr
      exact gj_pick [0, 1, 2, 3, 4, 5, 6, 7] _ rfl k
    · replace hf := gw_iff hf c
      refine gj_aload_n C 0 dL_goesOn_31 rfl ?_
      refine gj_bipush (v := 8) C dL_goesOn_32 (by decide) ?_
      refine gj_iload C 7 dL_goesOn_34 rfl ?_
      refine gj_imul C dL_goesOn_36 ?_
      refine gj_iconst (v := 5) C dL_goesOn_37 (by decide) ?_
      refine gj_iadd C dL_goesOn_38 ?_
      refine gj_aload_n C 3 dL_goesOn_39 rfl ?_
      refine gj_iconst (v := 2) C dL_goesOn_40 (by decide) ?_
      obtain ⟨g4, hf⟩ := gw_ifs hf
      refine gj_bld (j := 2) C (by decide) (gw_ibv g4) dL_goesOn_41 ?_
      refine gj_iconst (v := 3) C dL_goesOn_42 (by decide) ?_
      refine gj_irem C dL_goesOn_43 (by decide) ?_
      refine gj_iadd C dL_goesOn_44 ?_
      obtain ⟨g5, hf⟩ := gw_ifs hf
      refine gj_bld (j := 0) C (by decide) (gw_ibv g5) dL_goesOn_45 ?_
      refine gj_istore C 8 [(8, .int (μ 0 ((((8 : Int32) * v7) + (5 : Int32)) + ((μ 2 (2 : Int32).toNatClampNeg) - (μ 2 (2 : Int32).toNatClampNeg) / (3 : Int32) * (3 : Int32))).toNatClampNeg)), (0, .ref (gw_a Γ 132)), (1, .ref (gw_a Γ 133)), (2, .ref (gw_a Γ 135)), (3, .ref (gw_a Γ 134)), (4, .int v4), (5, .int v5), (6, .int v6), (7, .int v7)] dL_goesOn_46 (by decide) rfl ?_
      refine gj_iload C 6 dL_goesOn_48 rfl ?_
      refine gj_iload C 0 dL_goesOn_50 rfl ?_
      replace hf := gw_bnd hf
      obtain ⟨r6, hr6, hf⟩ := hf
      refine gj_cSi (As := [.int (μ 0 ((((8 : Int32) * v7) + (5 : Int32)) + ((μ 2 (2 : Int32).toNatClampNeg) - (μ 2 (2 : Int32).toNatClampNeg) / (3 : Int32) * (3 : Int32))).toNatClampNeg)]) (rest := [.int v5]) C cb_L_29 (s_L_many (gw_l K) Γ τ μ o (μ 0 ((((8 : Int32) * v7) + (5 : Int32)) + ((μ 2 (2 : Int32).toNatClampNeg) - (μ 2 (2 : Int32).toNatClampNeg) / (3 : Int32) * (3 : Int32))).toNatClampNeg) r6 hr6) rfl (Nat.le_of_ble_eq_true rfl) dL_goesOn_52 (gw_rmk rfl) rfl ?_
      refine gj_iadd C dL_goesOn_55 ?_
      refine gj_istore C 5 [(5, .int (v5 + r6)), (8, .int (μ 0 ((((8 : Int32) * v7) + (5 : Int32)) + ((μ 2 (2 : Int32).toNatClampNeg) - (μ 2 (2 : Int32).toNatClampNeg) / (3 : Int32) * (3 : Int32))).toNatClampNeg)), (0, .ref (gw_a Γ 132)), (1, .ref (gw_a Γ 133)), (2, .ref (gw_a Γ 135)), (3, .ref (gw_a Γ 134)), (4, .int v4), (6, .int v6), (7, .int v7)] dL_goesOn_56 (by decide) rfl ?_
      refine gj_iconst (v := 0) C dL_goesOn_58 (by decide) ?_
      refine gj_istore C 9 [(9, .int (0 : Int32)), (5, .int (v5 + r6)), (8, .int (μ 0 ((((8 : Int32) * v7) + (5 : Int32)) + ((μ 2 (2 : Int32).toNatClampNeg) - (μ 2 (2 : Int32).toNatClampNeg) / (3 : Int32) * (3 : Int32))).toNatClampNeg)), (0, .ref (gw_a Γ 132)), (1, .ref (gw_a Γ 133)), (2, .ref (gw_a Γ 135)), (3, .ref (gw_a Γ 134)), (4, .int v4), (6, .int v6), (7, .int v7)] dL_goesOn_59 (by decide) rfl ?_
      replace hf := gw_bnd hf
      obtain ⟨t9, ht9, hf⟩ := hf
      refine gj_pick [3, 4, 5, 6, 7, 1, 8, 9, 2, 0] _ rfl (l_L_goesOn_3 C τ v4 (v5 + r6) v6 v7 (μ 0 ((((8 : Int32) * v7) + (5 : Int32)) + ((μ 2 (2 : Int32).toNatClampNeg) - (μ 2 (2 : Int32).toNatClampNeg) / (3 : Int32) * (3 : Int32))).toNatClampNeg) _ _ _ _ t9 ht9 ?_)
      refine gj_iinc C 7 7 (v7 + 1) [(7, .int (v7 + 1)), (0, .ref (gw_a Γ 132)), (1, .ref (gw_a Γ 133)), (2, .ref (gw_a Γ 135)), (3, .ref (gw_a Γ 134)), (4, .int v4), (5, .int (v5 + r6)), (6, .int v6), (8, .int (μ 0 ((((8 : Int32) * v7) + (5 : Int32)) + ((μ 2 (2 : Int32).toNatClampNeg) - (μ 2 (2 : Int32).toNatClampNeg) / (3 : Int32) * (3 : Int32))).toNatClampNeg)), (9, .int t9.1)] dL_goesOn_93 rfl rfl (by decide) rfl ?_
      refine gj_goto C 23 dL_goesOn_96 (by decide) ?_
      cases hf
      replace hr := gw_il hr
      exact gj_pick [1, 2, 3, 4, 5, 6, 7, 0] _ rfl (ih _ _ _ _ _ hr k)
set_option maxRecDepth 100000 in
set_option maxHeartbeats 4000000 in
theorem l_L_goesOn_1 {K : gw_K} {Γ : gw_G} (C : gw_C K Γ cL_goesOn 10 RL) (τ : gw_S) (v4 : Int32) : ∀ (n : Nat) (v5 : Int32) (v6 : Int32) (μ : gw_S) (o : Nat → Int64) (T : Int32 × Int32 × gw_S × (Nat → Int64)), gw_it (b_L_goesOn_1 v4) n (v5, v6, μ, o) = some T → gw_J K Γ gr_L_goesOn 0 0 (gw_W Γ τ T.2.2.1 T.2.2.2) 112 [(0, .ref (gw_a Γ 132)), (1, .ref (gw_a Γ 133)), (2, .ref (gw_a Γ 135)), (3, .ref (gw_a Γ 134)), (4, .int v4), (5, .int T.1), (6, .int T.2.1)] [] → gw_J K Γ gr_L_goesOn 0 0 (gw_W Γ τ μ o) 6 [(0, .ref (gw_a Γ 132)), (1, .ref (gw_a Γ 133)), (2, .ref (gw_a Γ 135)), (3, .ref (gw_a Γ 134)), (4, .int v4), (5, .int v5), (6, .int v6)] [] := by
  intro n
  induction n with
  | zero => intro v5 v6 μ o T h; cases h
  | succ n ih =>
    intro v5 v6 μ o T h k
    obtain ⟨q, hf, hr⟩ := gw_it_s h
    rw [b_L_goesOn_1] at hf
    refine gj_iload C 6 dL_goesOn_6 rfl ?_
    refine gj_iload C 4 dL_goesOn_8 rfl ?_
    refine gj_ic_ge C 112 dL_goesOn_10 (by decide) (fun c => ?_) (fun c => ?_)
    · replace hf := gw_ift hf c
      cases hf
      cases gw_ir hr
      exact gj_pick [0, 1, 2, 3, 4, 5, 6] _ rfl k
    · replace hf := gw_iff hf c
      refine gj_aload_n C 3 dL_goesOn_13 rfl ?_
      refine gj_iconst (v := 2) C dL_goesOn_14 (by decide) ?_
      refine gj_dup2 C dL_goesOn_15 rfl rfl ?_
      obtain ⟨g1, hf⟩ := gw_ifs hf
      refine gj_bld (j := 2) C (by decide) (gw_ibv g1) dL_goesOn_16 ?_
      refine gj_iconst (v := 1) C dL_goesOn_17 (by decide) ?_
      refine gj_iadd C dL_goesOn_18 ?_
      obtain ⟨g2, hf⟩ := gw_ifs hf
      refine gj_bst (j := 2) C (by decide) (gw_ibv g2) dL_goesOn_19 ?_
      refine gj_iconst (v := 0) C dL_goesOn_20 (by decide) ?_
      refine gj_istore C 7 [(7, .int (0 : Int32)), (0, .ref (gw_a Γ 132)), (1, .ref (gw_a Γ 133)), (2, .ref (gw_a Γ 135)), (3, .ref (gw_a Γ 134)), (4, .int v4), (5, .int v5), (6, .int v6)] dL_goesOn_21 (by decide) rfl ?_
      replace hf := gw_bnd hf
      obtain ⟨t10, ht10, hf⟩ := hf
      refine gj_pick [1, 2, 3, 4, 5, 6, 7, 0] _ rfl (l_L_goesOn_2 C τ v4 v6 _ _ _ _ _ t10 ht10 ?_)
      refine gj_aload_n C 0 dL_goesOn_99 rfl ?_
      refine gj_aload_n C 1 dL_goesOn_100 rfl ?_
      refine gj_aload_n C 2 dL_goesOn_101 rfl ?_
      refine gj_aload_n C 3 dL_goesOn_102 rfl ?_
      replace hf := gw_bnd hf
      obtain ⟨r11, hr11, hf⟩ := hf
      refine gj_cSv (As := [.ref (gw_a Γ 132), .ref (gw_a Γ 133), .ref (gw_a Γ 135), .ref (gw_a Γ 134)]) (rest := []) C cb_L_64 (s_L_makes (gw_l K) Γ τ t10.2.2.1 t10.2.2.2 r11 hr11) rfl (Nat.le_of_ble_eq_true rfl) dL_goesOn_103 (gw_rmk rfl) rfl ?_
      refine gj_iinc C 6 6 (v6 + 1) [(6, .int (v6 + 1)), (0, .ref (gw_a Γ 132)), (1, .ref (gw_a Γ 133)), (2, .ref (gw_a Γ 135)), (3, .ref (gw_a Γ 134)), (4, .int v4), (5, .int t10.1), (7, .int t10.2.1)] dL_goesOn_106 rfl rfl (by decide) rfl ?_
      refine gj_goto C 6 dL_goesOn_109 (by decide) ?_
      cases hf
      replace hr := gw_il hr
      exact gj_pick [1, 2, 3, 4, 5, 6, 0] _ rfl (ih _ _ _ _ _ hr k)
set_option maxRecDepth 100000 in
set_option maxHeartbeats 4000000 in
theorem s_L_goesOn (l : Launch) (Γ : gw_G) (τ μ : gw_S) (o : Nat → Int64) (a4 : Int32) (r : Int32 × gw_S × (Nat → Int64)) (hf : f_L_goesOn μ o a4 = some r) : gw_M l yL_goesOn [.code yL_goesOn cL_goesOn 10 (some .int)] gr_L_goesOn 0 0 Γ [.ref (gw_a Γ 132), .ref (gw_a Γ 133), .ref (gw_a Γ 135), .ref (gw_a Γ 134), .int a4] (gw_W Γ τ μ o) (gw_qi Γ r.1 (gw_W Γ τ r.2.1 r.2.2)) := by
  refine gw_enter (by decide) (Nat.le_of_ble_eq_true rfl) (fun K C E => ?_)
  unfold f_L_goesOn at hf
  refine gj_iconst (v := 0) C dL_goesOn_0 (by decide) ?_
  refine gj_istore C 5 [(5, .int (0 : Int32)), (0, .ref (gw_a Γ 132)), (1, .ref (gw_a Γ 133)), (2, .ref (gw_a Γ 135)), (3, .ref (gw_a Γ 134)), (4, .int a4)] dL_goesOn_1 (by decide) rfl ?_
  refine gj_iconst (v := 0) C dL_goesOn_3 (by decide) ?_
  refine gj_istore C 6 [(6, .int (0 : Int32)), (5, .int (0 : Int32)), (0, .ref (gw_a Γ 132)), (1, .ref (gw_a Γ 133)), (2, .ref (gw_a Γ 135)), (3, .ref (gw_a Γ 134)), (4, .int a4)] dL_goesOn_4 (by decide) rfl ?_
  replace hf := gw_bnd hf
  obtain ⟨t12, ht12, hf⟩ := hf
  refine gj_pick [2, 3, 4, 5, 6, 1, 0] _ rfl (l_L_goesOn_1 C τ a4 _ _ _ _ _ t12 ht12 ?_)
  refine gj_iload C 5 dL_goesOn_112 rfl ?_
  cases hf
  exact gj_iret C E dL_goesOn_114 (Nat.le_of_ble_eq_true rfl) (Nat.le_of_ble_eq_true rfl)
set_option maxRecDepth 100000 in
set_option maxHeartbeats 4000000 in
theorem l_L_draws_1 {K : gw_K} {Γ : gw_G} (C : gw_C K Γ cL_draws 15 RL) (τ : gw_S) : ∀ (n : Nat) (v5 : Int64) (v7 : Int32) (μ : gw_S) (o : Nat → Int64) (T : Int64 × Int32 × gw_S × (Nat → Int64)), gw_it (b_L_draws_1) n (v5, v7, μ, o) = some T → gw_J K Γ gr_L_draws 0 0 (gw_W Γ τ T.2.2.1 T.2.2.2) 54 [(0, .ref (gw_a Γ 132)), (1, .ref (gw_a Γ 133)), (2, .ref (gw_a Γ 135)), (3, .ref (gw_a Γ 134)), (5, .long T.1), (7, .int T.2.1)] [] → gw_J K Γ gr_L_draws 0 0 (gw_W Γ τ μ o) 8 [(0, .ref (gw_a Γ 132)), (1, .ref (gw_a Γ 133)), (2, .ref (gw_a Γ 135)), (3, .ref (gw_a Γ 134)), (5, .long v5), (7, .int v7)] [] := by
  intro n
  induction n with
  | zero => intro v5 v7 μ o T h; cases h
  | succ n ih =>
    intro v5 v7 μ o T h k
    obtain ⟨q, hf, hr⟩ := gw_it_s h
    rw [b_L_draws_1] at hf
    refine gj_iload C 5 dL_draws_8 rfl ?_
    refine gj_aload_n C 3 dL_draws_10 rfl ?_
    refine gj_iconst (v := 1) C dL_draws_11 (by decide) ?_
    obtain ⟨g1, hf⟩ := gw_ifs hf
    refine gj_bld (j := 2) C (by decide) (gw_ibv g1) dL_draws_12 ?_
    refine gj_ic_ge C 54 dL_draws_13 (by decide) (fun c => ?_) (fun c => ?_)
    · replace hf := gw_ift hf c
      cases hf
      cases gw_ir hr
      exact gj_pick [0, 1, 2, 3, 4, 5] _ rfl k
    · replace hf := gw_iff hf c
      refine gj_lload C 4 dL_draws_16 rfl ?_
      refine gj_ldc2 (v := 1103515245) C cst_L_68 dL_draws_18 ?_
      refine gj_lmul C dL_draws_21 ?_
      refine gj_ldc2 (v := 12345) C cst_L_70 dL_draws_22 ?_
      refine gj_ladd C dL_draws_25 ?_
      refine gj_ldc2 (v := 2147483647) C cst_L_72 dL_draws_26 ?_
      refine gj_land C dL_draws_29 ?_
      refine gj_lstore C 5 [(5, .long (((v5 * (1103515245 : Int64)) + (12345 : Int64)) &&& (2147483647 : Int64))), (0, .ref (gw_a Γ 132)), (1, .ref (gw_a Γ 133)), (2, .ref (gw_a Γ 135)), (3, .ref (gw_a Γ 134)), (7, .int v7)] dL_draws_30 (by decide) rfl ?_
      refine gj_aload_n C 2 dL_draws_32 rfl ?_
      refine gj_bipush (v := 8) C dL_draws_33 (by decide) ?_
      refine gj_iload C 5 dL_draws_35 rfl ?_
      refine gj_imul C dL_draws_37 ?_
      refine gj_bipush (v := 6) C dL_draws_38 (by decide) ?_
      refine gj_iadd C dL_draws_40 ?_
      refine gj_lload C 0 dL_draws_41 rfl ?_
      refine gj_bipush (v := 16) C dL_draws_43 (by decide) ?_
      refine gj_lshr (v := (((v5 * (1103515245 : Int64)) + (12345 : Int64)) &&& (2147483647 : Int64)) >>> ((16 : Int32).toInt64 &&& 63)) C dL_draws_45 rfl ?_
      refine gj_l2i C dL_draws_46 ?_
      obtain ⟨g2, hf⟩ := gw_ifs hf
      refine gj_bst (j := 1) C (by decide) (gw_ibv g2) dL_draws_47 ?_
      refine gj_iinc C 7 5 (v7 + 1) [(7, .int (v7 + 1)), (5, .long (((v5 * (1103515245 : Int64)) + (12345 : Int64)) &&& (2147483647 : Int64))), (0, .ref (gw_a Γ 132)), (1, .ref (gw_a Γ 133)), (2, .ref (gw_a Γ 135)), (3, .ref (gw_a Γ 134))] dL_draws_48 rfl rfl (by decide) rfl ?_
      refine gj_goto C 8 dL_draws_51 (by decide) ?_
      cases hf
      replace hr := gw_il hr
      exact gj_pick [2, 3, 4, 5, 1, 0] _ rfl (ih _ _ _ _ _ hr k)
set_option maxRecDepth 100000 in
set_option maxHeartbeats 4000000 in
theorem l_L_draws_3 {K : gw_K} {Γ : gw_G} (C : gw_C K Γ cL_draws 15 RL) (τ : gw_S) (μ : gw_S) (o : Nat → Int64) (v7 : Int32) (v8 : Int32) (v9 : Int32) : ∀ (n : Nat) (v10 : Int32) (v11 : Int32) (T : Int32 × Int32), gw_it (b_L_draws_3 μ o v7 v8 v9) n (v10, v11) = some T → gw_J K Γ gr_L_draws 0 0 (gw_W Γ τ μ o) 143 [(0, .ref (gw_a Γ 132)), (1, .ref (gw_a Γ 133)), (2, .ref (gw_a Γ 135)), (3, .ref (gw_a Γ 134)), (7, .int v7), (8, .int v8), (9, .int v9), (10, .int T.1), (11, .int T.2)] [] → gw_J K Γ gr_L_draws 0 0 (gw_W Γ τ μ o) 78 [(0, .ref (gw_a Γ 132)), (1, .ref (gw_a Γ 133)), (2, .ref (gw_a Γ 135)), (3, .ref (gw_a Γ 134)), (7, .int v7), (8, .int v8), (9, .int v9), (10, .int v10), (11, .int v11)] [] := by
  intro n
  induction n with
  | zero => intro v10 v11 T h; cases h
  | succ n ih =>
    intro v10 v11 T h k
    obtain ⟨q, hf, hr⟩ := gw_it_s h
    rw [b_L_draws_3] at hf
    refine gj_iload C 8 dL_draws_78 rfl ?_
    refine gj_aload_n C 3 dL_draws_80 rfl ?_
    refine gj_iconst (v := 1) C dL_draws_81 (by decide) ?_
    obtain ⟨g5, hf⟩ := gw_ifs hf
    refine gj_bld (j := 2) C (by decide) (gw_ibv g5) dL_draws_82 ?_
    refine gj_ic_ge C 143 dL_draws_83 (by decide) (fun c => ?_) (fun c => ?_)
    · replace hf := gw_ift hf c
      cases hf
      cases gw_ir hr
      exact gj_pick [0, 1, 2, 3, 4, 5, 6, 7, 8] _ rfl k
    · replace hf := gw_iff hf c
      refine gj_aload_n C 1 dL_draws_86 rfl ?_
      refine gj_bipush (v := 8) C dL_draws_87 (by decide) ?_
      refine gj_iload C 8 dL_draws_89 rfl ?_
      refine gj_imul C dL_draws_91 ?_
      obtain ⟨g6, hf⟩ := gw_ifs hf
      refine gj_bld (j := 1) C (by decide) (gw_ibv g6) dL_draws_92 ?_
      refine gj_bipush (v := 15) C dL_draws_93 (by decide) ?_
      refine gj_ishl C dL_draws_95 ?_
      refine gj_aload_n C 1 dL_draws_96 rfl ?_
      refine gj_bipush (v := 8) C dL_draws_97 (by decide) ?_
      refine gj_iload C 8 dL_draws_99 rfl ?_
      refine gj_imul C dL_draws_101 ?_
      refine gj_bipush (v := 6) C dL_draws_102 (by decide) ?_
      refine gj_iadd C dL_draws_104 ?_
      obtain ⟨g7, hf⟩ := gw_ifs hf
      refine gj_bld (j := 1) C (by decide) (gw_ibv g7) dL_draws_105 ?_
      refine gj_ior C dL_draws_106 ?_
      refine gj_iconst (v := 3) C dL_draws_107 (by decide) ?_
      refine gj_ishl C dL_draws_108 ?_
      refine gj_iload C 8 dL_draws_109 rfl ?_
      refine gj_ior C dL_draws_111 ?_
      refine gj_istore C 12 [(12, .int (((((μ 1 ((8 : Int32) * v11).toNatClampNeg) <<< ((15 : Int32) &&& 31)) ||| (μ 1 (((8 : Int32) * v11) + (6 : Int32)).toNatClampNeg)) <<< ((3 : Int32) &&& 31)) ||| v11)), (0, .ref (gw_a Γ 132)), (1, .ref (gw_a Γ 133)), (2, .ref (gw_a Γ 135)), (3, .ref (gw_a Γ 134)), (7, .int v7), (8, .int v8), (9, .int v9), (10, .int v10), (11, .int v11)] dL_draws_112 (by decide) rfl ?_
      refine gj_iload C 0 dL_draws_114 rfl ?_
      refine gj_iload C 6 dL_draws_116 rfl ?_
      refine gj_ic_le C 133 dL_draws_118 (by decide) (fun c => ?_) (fun c => ?_)
      · replace hf := gw_ift hf c
        refine gj_iload C 8 dL_draws_133 rfl ?_
        refine gj_istore C 10 [(10, .int v10), (12, .int (((((μ 1 ((8 : Int32) * v11).toNatClampNeg) <<< ((15 : Int32) &&& 31)) ||| (μ 1 (((8 : Int32) * v11) + (6 : Int32)).toNatClampNeg)) <<< ((3 : Int32) &&& 31)) ||| v11)), (0, .ref (gw_a Γ 132)), (1, .ref (gw_a Γ 133)), (2, .ref (gw_a Γ 135)), (3, .ref (gw_a Γ 134)), (7, .int v7), (8, .int v8), (9, .int v9), (11, .int v11)] dL_draws_135 (by decide) rfl ?_
        refine gj_iinc C 11 9 (v11 + 1) [(11, .int (v11 + 1)), (10, .int v10), (12, .int (((((μ 1 ((8 : Int32) * v11).toNatClampNeg) <<< ((15 : Int32) &&& 31)) ||| (μ 1 (((8 : Int32) * v11) + (6 : Int32)).toNatClampNeg)) <<< ((3 : Int32) &&& 31)) ||| v11)), (0, .ref (gw_a Γ 132)), (1, .ref (gw_a Γ 133)), (2, .ref (gw_a Γ 135)), (3, .ref (gw_a Γ 134)), (7, .int v7), (8, .int v8), (9, .int v9)] dL_draws_137 rfl rfl (by decide) rfl ?_
        refine gj_goto C 78 dL_draws_140 (by decide) ?_
        cases hf
        replace hr := gw_il hr
        exact gj_pick [3, 4, 5, 6, 7, 8, 9, 1, 0] _ rfl (ih _ _ _ hr k)
      · replace hf := gw_iff hf c
        refine gj_iload C 0 dL_draws_121 rfl ?_
        refine gj_iload C 8 dL_draws_123 rfl ?_
        refine gj_ic_ge C 133 dL_draws_125 (by decide) (fun c => ?_) (fun c => ?_)
        · replace hf := gw_ift hf c
          refine gj_iload C 8 dL_draws_133 rfl ?_
          refine gj_istore C 10 [(10, .int v10), (12, .int (((((μ 1 ((8 : Int32) * v11).toNatClampNeg) <<< ((15 : Int32) &&& 31)) ||| (μ 1 (((8 : Int32) * v11) + (6 : Int32)).toNatClampNeg)) <<< ((3 : Int32) &&& 31)) ||| v11)), (0, .ref (gw_a Γ 132)), (1, .ref (gw_a Γ 133)), (2, .ref (gw_a Γ 135)), (3, .ref (gw_a Γ 134)), (7, .int v7), (8, .int v8), (9, .int v9), (11, .int v11)] dL_draws_135 (by decide) rfl ?_
          refine gj_iinc C 11 9 (v11 + 1) [(11, .int (v11 + 1)), (10, .int v10), (12, .int (((((μ 1 ((8 : Int32) * v11).toNatClampNeg) <<< ((15 : Int32) &&& 31)) ||| (μ 1 (((8 : Int32) * v11) + (6 : Int32)).toNatClampNeg)) <<< ((3 : Int32) &&& 31)) ||| v11)), (0, .ref (gw_a Γ 132)), (1, .ref (gw_a Γ 133)), (2, .ref (gw_a Γ 135)), (3, .ref (gw_a Γ 134)), (7, .int v7), (8, .int v8), (9, .int v9)] dL_draws_137 rfl rfl (by decide) rfl ?_
          refine gj_goto C 78 dL_draws_140 (by decide) ?_
          cases hf
          replace hr := gw_il hr
          exact gj_pick [3, 4, 5, 6, 7, 8, 9, 1, 0] _ rfl (ih _ _ _ hr k)
        · replace hf := gw_iff hf c
          refine gj_iload C 0 dL_draws_128 rfl ?_
          refine gj_goto C 135 dL_draws_130 (by decide) ?_
          refine gj_istore C 10 [(10, .int (((((μ 1 ((8 : Int32) * v11).toNatClampNeg) <<< ((15 : Int32) &&& 31)) ||| (μ 1 (((8 : Int32) * v11) + (6 : Int32)).toNatClampNeg)) <<< ((3 : Int32) &&& 31)) ||| v11)), (12, .int (((((μ 1 ((8 : Int32) * v11).toNatClampNeg) <<< ((15 : Int32) &&& 31)) ||| (μ 1 (((8 : Int32) * v11) + (6 : Int32)).toNatClampNeg)) <<< ((3 : Int32) &&& 31)) ||| v11)), (0, .ref (gw_a Γ 132)), (1, .ref (gw_a Γ 133)), (2, .ref (gw_a Γ 135)), (3, .ref (gw_a Γ 134)), (7, .int v7), (8, .int v8), (9, .int v9), (11, .int v11)] dL_draws_135 (by decide) rfl ?_
          refine gj_iinc C 11 9 (v11 + 1) [(11, .int (v11 + 1)), (10, .int (((((μ 1 ((8 : Int32) * v11).toNatClampNeg) <<< ((15 : Int32) &&& 31)) ||| (μ 1 (((8 : Int32) * v11) + (6 : Int32)).toNatClampNeg)) <<< ((3 : Int32) &&& 31)) ||| v11)), (12, .int (((((μ 1 ((8 : Int32) * v11).toNatClampNeg) <<< ((15 : Int32) &&& 31)) ||| (μ 1 (((8 : Int32) * v11) + (6 : Int32)).toNatClampNeg)) <<< ((3 : Int32) &&& 31)) ||| v11)), (0, .ref (gw_a Γ 132)), (1, .ref (gw_a Γ 133)), (2, .ref (gw_a Γ 135)), (3, .ref (gw_a Γ 134)), (7, .int v7), (8, .int v8), (9, .int v9)] dL_draws_137 rfl rfl (by decide) rfl ?_
          refine gj_goto C 78 dL_draws_140 (by decide) ?_
          cases hf
          replace hr := gw_il hr
          exact gj_pick [3, 4, 5, 6, 7, 8, 9, 1, 0] _ rfl (ih _ _ _ hr k)
set_option maxRecDepth 100000 in
set_option maxHeartbeats 4000000 in
theorem l_L_draws_4 {K : gw_K} {Γ : gw_G} (C : gw_C K Γ cL_draws 15 RL) (τ : gw_S) (μ : gw_S) (o : Nat → Int64) (v7 : Int32) (v8 : Int32) (v9 : Int32) (v11 : Int32) : ∀ (n : Nat) (v12 : Int32) (v13 : Int32) (T : Int32 × Int32), gw_it (b_L_draws_4 μ o v7 v8 v9 v11) n (v12, v13) = some T → gw_J K Γ gr_L_draws 0 0 (gw_W Γ τ μ o) 235 [(0, .ref (gw_a Γ 132)), (1, .ref (gw_a Γ 133)), (2, .ref (gw_a Γ 135)), (3, .ref (gw_a Γ 134)), (7, .int v7), (8, .int v8), (9, .int v9), (11, .int v11), (12, .int T.1), (13, .int T.2)] [] → gw_J K Γ gr_L_draws 0 0 (gw_W Γ τ μ o) 168 [(0, .ref (gw_a Γ 132)), (1, .ref (gw_a Γ 133)), (2, .ref (gw_a Γ 135)), (3, .ref (gw_a Γ 134)), (7, .int v7), (8, .int v8), (9, .int v9), (11, .int v11), (12, .int v12), (13, .int v13)] [] := by
  intro n
  induction n with
  | zero => intro v12 v13 T h; cases h
  | succ n ih =>
    intro v12 v13 T h k
    obtain ⟨q, hf, hr⟩ := gw_it_s h
    rw [b_L_draws_4] at hf
    refine gj_iload C 9 dL_draws_168 rfl ?_
    refine gj_if_eq C 235 dL_draws_170 (by decide) (fun c => ?_) (fun c => ?_)
    · replace hf := gw_ift hf c
      cases hf
      cases gw_ir hr
      exact gj_pick [0, 1, 2, 3, 4, 5, 6, 7, 8, 9] _ rfl k
    · replace hf := gw_iff hf c
      refine gj_iload C 8 dL_draws_173 rfl ?_
      refine gj_if_ge C 235 dL_draws_175 (by decide) (fun c => ?_) (fun c => ?_)
      · replace hf := gw_ift hf c
        cases hf
        cases gw_ir hr
        exact gj_pick [0, 1, 2, 3, 4, 5, 6, 7, 8, 9] _ rfl k
      · replace hf := gw_iff hf c
        refine gj_iload C 9 dL_draws_178 rfl ?_
        refine gj_bipush (v := 15) C dL_draws_180 (by decide) ?_
        refine gj_iand C dL_draws_182 ?_
        refine gj_iconst (v := 1) C dL_draws_183 (by decide) ?_
        refine gj_isub C dL_draws_184 ?_
        refine gj_istore C 14 [(14, .int ((v13 &&& (15 : Int32)) - (1 : Int32))), (0, .ref (gw_a Γ 132)), (1, .ref (gw_a Γ 133)), (2, .ref (gw_a Γ 135)), (3, .ref (gw_a Γ 134)), (7, .int v7), (8, .int v8), (9, .int v9), (11, .int v11), (12, .int v12), (13, .int v13)] dL_draws_185 (by decide) rfl ?_
        refine gj_aload_n C 1 dL_draws_187 rfl ?_
        refine gj_aload_n C 2 dL_draws_188 rfl ?_
        refine gj_iload C 8 dL_draws_189 rfl ?_
        refine gj_iload C 0 dL_draws_191 rfl ?_
        refine gj_aload_n C 2 dL_draws_193 rfl ?_
        refine gj_bipush (v := 8) C dL_draws_194 (by decide) ?_
        refine gj_iload C 8 dL_draws_196 rfl ?_
        refine gj_imul C dL_draws_198 ?_
        refine gj_iconst (v := 3) C dL_draws_199 (by decide) ?_
        refine gj_iadd C dL_draws_200 ?_
        obtain ⟨g10, hf⟩ := gw_ifs hf
        refine gj_bld (j := 1) C (by decide) (gw_ibv g10) dL_draws_201 ?_
        replace hf := gw_bnd hf
        obtain ⟨r11, hr11, hf⟩ := hf
        refine gj_cSi (As := [.ref (gw_a Γ 132), .ref (gw_a Γ 133), .int v11, .int ((v13 &&& (15 : Int32)) - (1 : Int32)), .int (μ 1 (((8 : Int32) * v11) + (3 : Int32)).toNatClampNeg)]) (rest := []) C cb_L_37 (s_L_obstacle (gw_l K) Γ τ μ o v11 ((v13 &&& (15 : Int32)) - (1 : Int32)) (μ 1 (((8 : Int32) * v11) + (3 : Int32)).toNatClampNeg) r11 hr11) rfl (Nat.le_of_ble_eq_true rfl) dL_draws_202 (gw_rmk rfl) rfl ?_
        refine gj_if_ne C 223 dL_draws_205 (by decide) (fun c => ?_) (fun c => ?_)
        · replace hf := gw_iff hf c
          refine gj_iconst (v := -1) C dL_draws_223 (by decide) ?_
          refine gj_istore C 12 [(12, .int (-1 : Int32)), (14, .int ((v13 &&& (15 : Int32)) - (1 : Int32))), (0, .ref (gw_a Γ 132)), (1, .ref (gw_a Γ 133)), (2, .ref (gw_a Γ 135)), (3, .ref (gw_a Γ 134)), (7, .int v7), (8, .int v8), (9, .int v9), (11, .int v11), (13, .int v13)] dL_draws_224 (by decide) rfl ?_
          refine gj_iload C 10 dL_draws_226 rfl ?_
          refine gj_iconst (v := 4) C dL_draws_228 (by decide) ?_
          refine gj_iushr (v := (v13.toUInt32 >>> ((4 : Int32).toUInt32 &&& Int32.toUInt32 31)).toInt32) C dL_draws_229 rfl ?_
          refine gj_istore C 13 [(13, .int ((v13.toUInt32 >>> ((4 : Int32).toUInt32 &&& Int32.toUInt32 31)).toInt32)), (12, .int (-1 : Int32)), (14, .int ((v13 &&& (15 : Int32)) - (1 : Int32))), (0, .ref (gw_a Γ 132)), (1, .ref (gw_a Γ 133)), (2, .ref (gw_a Γ 135)), (3, .ref (gw_a Γ 134)), (7, .int v7), (8, .int v8), (9, .int v9), (11, .int v11)] dL_draws_230 (by decide) rfl ?_
          refine gj_goto C 168 dL_draws_232 (by decide) ?_
          cases hf
          replace hr := gw_il hr
          exact gj_pick [3, 4, 5, 6, 7, 8, 9, 10, 1, 0] _ rfl (ih _ _ _ hr k)
        · replace hf := gw_ift hf c
          refine gj_aload_n C 1 dL_draws_208 rfl ?_
          refine gj_aload_n C 2 dL_draws_209 rfl ?_
          refine gj_iload C 0 dL_draws_210 rfl ?_
          replace hf := gw_bnd hf
          obtain ⟨r12, hr12, hf⟩ := hf
          refine gj_cSi (As := [.ref (gw_a Γ 132), .ref (gw_a Γ 133), .int ((v13 &&& (15 : Int32)) - (1 : Int32))]) (rest := []) C cb_L_33 (s_L_free (gw_l K) Γ τ μ o ((v13 &&& (15 : Int32)) - (1 : Int32)) r12 hr12) rfl (Nat.le_of_ble_eq_true rfl) dL_draws_212 (gw_rmk rfl) rfl ?_
          refine gj_if_le C 223 dL_draws_215 (by decide) (fun c => ?_) (fun c => ?_)
          · replace hf := gw_ift hf c
            refine gj_iconst (v := -1) C dL_draws_223 (by decide) ?_
            refine gj_istore C 12 [(12, .int (-1 : Int32)), (14, .int ((v13 &&& (15 : Int32)) - (1 : Int32))), (0, .ref (gw_a Γ 132)), (1, .ref (gw_a Γ 133)), (2, .ref (gw_a Γ 135)), (3, .ref (gw_a Γ 134)), (7, .int v7), (8, .int v8), (9, .int v9), (11, .int v11), (13, .int v13)] dL_draws_224 (by decide) rfl ?_
            refine gj_iload C 10 dL_draws_226 rfl ?_
            refine gj_iconst (v := 4) C dL_draws_228 (by decide) ?_
            refine gj_iushr (v := (v13.toUInt32 >>> ((4 : Int32).toUInt32 &&& Int32.toUInt32 31)).toInt32) C dL_draws_229 rfl ?_
            refine gj_istore C 13 [(13, .int ((v13.toUInt32 >>> ((4 : Int32).toUInt32 &&& Int32.toUInt32 31)).toInt32)), (12, .int (-1 : Int32)), (14, .int ((v13 &&& (15 : Int32)) - (1 : Int32))), (0, .ref (gw_a Γ 132)), (1, .ref (gw_a Γ 133)), (2, .ref (gw_a Γ 135)), (3, .ref (gw_a Γ 134)), (7, .int v7), (8, .int v8), (9, .int v9), (11, .int v11)] dL_draws_230 (by decide) rfl ?_
            refine gj_goto C 168 dL_draws_232 (by decide) ?_
            cases hf
            replace hr := gw_il hr
            exact gj_pick [3, 4, 5, 6, 7, 8, 9, 10, 1, 0] _ rfl (ih _ _ _ hr k)
          · replace hf := gw_iff hf c
            refine gj_iload C 0 dL_draws_218 rfl ?_
            refine gj_goto C 224 dL_draws_220 (by decide) ?_
            refine gj_istore C 12 [(12, .int ((v13 &&& (15 : Int32)) - (1 : Int32))), (14, .int ((v13 &&& (15 : Int32)) - (1 : Int32))), (0, .ref (gw_a Γ 132)), (1, .ref (gw_a Γ 133)), (2, .ref (gw_a Γ 135)), (3, .ref (gw_a Γ 134)), (7, .int v7), (8, .int v8), (9, .int v9), (11, .int v11), (13, .int v13)] dL_draws_224 (by decide) rfl ?_
            refine gj_iload C 10 dL_draws_226 rfl ?_
            refine gj_iconst (v := 4) C dL_draws_228 (by decide) ?_
            refine gj_iushr (v := (v13.toUInt32 >>> ((4 : Int32).toUInt32 &&& Int32.toUInt32 31)).toInt32) C dL_draws_229 rfl ?_
            refine gj_istore C 13 [(13, .int ((v13.toUInt32 >>> ((4 : Int32).toUInt32 &&& Int32.toUInt32 31)).toInt32)), (12, .int ((v13 &&& (15 : Int32)) - (1 : Int32))), (14, .int ((v13 &&& (15 : Int32)) - (1 : Int32))), (0, .ref (gw_a Γ 132)), (1, .ref (gw_a Γ 133)), (2, .ref (gw_a Γ 135)), (3, .ref (gw_a Γ 134)), (7, .int v7), (8, .int v8), (9, .int v9), (11, .int v11)] dL_draws_230 (by decide) rfl ?_
            refine gj_goto C 168 dL_draws_232 (by decide) ?_
            cases hf
            replace hr := gw_il hr
            exact gj_pick [3, 4, 5, 6, 7, 8, 9, 10, 1, 0] _ rfl (ih _ _ _ hr k)
set_option maxRecDepth 100000 in
set_option maxHeartbeats 4000000 in
theorem l_L_draws_2 {K : gw_K} {Γ : gw_G} (C : gw_C K Γ cL_draws 15 RL) (τ : gw_S) : ∀ (n : Nat) (v7 : Int32) (v8 : Int32) (v9 : Int32) (μ : gw_S) (o : Nat → Int64) (T : Int32 × Int32 × Int32 × gw_S × (Nat → Int64)), gw_it (b_L_draws_2) n (v7, v8, v9, μ, o) = some T → gw_J K Γ gr_L_draws 0 0 (gw_W Γ τ T.2.2.2.1 T.2.2.2.2) 259 [(0, .ref (gw_a Γ 132)), (1, .ref (gw_a Γ 133)), (2, .ref (gw_a Γ 135)), (3, .ref (gw_a Γ 134)), (7, .int T.1), (8, .int T.2.1), (9, .int T.2.2.1)] [] → gw_J K Γ gr_L_draws 0 0 (gw_W Γ τ μ o) 63 [(0, .ref (gw_a Γ 132)), (1, .ref (gw_a Γ 133)), (2, .ref (gw_a Γ 135)), (3, .ref (gw_a Γ 134)), (7, .int v7), (8, .int v8), (9, .int v9)] [] := by
  intro n
  induction n with
  | zero => intro v7 v8 v9 μ o T h; cases h
  | succ n ih =>
    intro v7 v8 v9 μ o T h k
    obtain ⟨q, hf, hr⟩ := gw_it_s h
    rw [b_L_draws_2] at hf
    refine gj_iload C 6 dL_draws_63 rfl ?_
    refine gj_aload_n C 3 dL_draws_65 rfl ?_
    refine gj_iconst (v := 1) C dL_draws_66 (by decide) ?_
    obtain ⟨g4, hf⟩ := gw_ifs hf
    refine gj_bld (j := 2) C (by decide) (gw_ibv g4) dL_draws_67 ?_
    refine gj_ic_ge C 259 dL_draws_68 (by decide) (fun c => ?_) (fun c => ?_)
    · replace hf := gw_ift hf c
      cases hf
      cases gw_ir hr
      exact gj_pick [0, 1, 2, 3, 4, 5, 6] _ rfl k
    · replace hf := gw_iff hf c
      refine gj_ldc (v := 2147483647) C cst_L_74 dL_draws_71 ?_
      refine gj_istore C 10 [(10, .int (2147483647 : Int32)), (0, .ref (gw_a Γ 132)), (1, .ref (gw_a Γ 133)), (2, .ref (gw_a Γ 135)), (3, .ref (gw_a Γ 134)), (7, .int v7), (8, .int v8), (9, .int v9)] dL_draws_73 (by decide) rfl ?_
      refine gj_iconst (v := 0) C dL_draws_75 (by decide) ?_
      refine gj_istore C 11 [(11, .int (0 : Int32)), (10, .int (2147483647 : Int32)), (0, .ref (gw_a Γ 132)), (1, .ref (gw_a Γ 133)), (2, .ref (gw_a Γ 135)), (3, .ref (gw_a Γ 134)), (7, .int v7), (8, .int v8), (9, .int v9)] dL_draws_76 (by decide) rfl ?_
      replace hf := gw_bnd hf
      obtain ⟨t8, ht8, hf⟩ := hf
      refine gj_pick [2, 3, 4, 5, 6, 7, 8, 1, 0] _ rfl (l_L_draws_3 C τ μ o v7 v8 v9 _ _ _ t8 ht8 ?_)
      refine gj_iload C 7 dL_draws_143 rfl ?_
      refine gj_istore C 8 [(8, .int t8.1), (0, .ref (gw_a Γ 132)), (1, .ref (gw_a Γ 133)), (2, .ref (gw_a Γ 135)), (3, .ref (gw_a Γ 134)), (7, .int v7), (9, .int v9), (10, .int t8.1), (11, .int t8.2)] dL_draws_145 (by decide) rfl ?_
      refine gj_iload C 7 dL_draws_147 rfl ?_
      refine gj_bipush (v := 7) C dL_draws_149 (by decide) ?_
      refine gj_iand C dL_draws_151 ?_
      refine gj_istore C 11 [(11, .int (t8.1 &&& (7 : Int32))), (8, .int t8.1), (0, .ref (gw_a Γ 132)), (1, .ref (gw_a Γ 133)), (2, .ref (gw_a Γ 135)), (3, .ref (gw_a Γ 134)), (7, .int v7), (9, .int v9), (10, .int t8.1)] dL_draws_152 (by decide) rfl ?_
      refine gj_iconst (v := -1) C dL_draws_154 (by decide) ?_
      refine gj_istore C 12 [(12, .int (-1 : Int32)), (11, .int (t8.1 &&& (7 : Int32))), (8, .int t8.1), (0, .ref (gw_a Γ 132)), (1, .ref (gw_a Γ 133)), (2, .ref (gw_a Γ 135)), (3, .ref (gw_a Γ 134)), (7, .int v7), (9, .int v9), (10, .int t8.1)] dL_draws_155 (by decide) rfl ?_
      refine gj_aload_n C 4 dL_draws_157 rfl ?_
      refine gj_bipush (v := 8) C dL_draws_158 (by decide) ?_
      refine gj_iload C 1 dL_draws_160 rfl ?_
      refine gj_imul C dL_draws_162 ?_
      refine gj_iconst (v := 4) C dL_draws_163 (by decide) ?_
      refine gj_iadd C dL_draws_164 ?_
      obtain ⟨g9, hf⟩ := gw_ifs hf
      refine gj_bld (j := 1) C (by decide) (gw_ibv g9) dL_draws_165 ?_
      refine gj_istore C 13 [(13, .int (μ 1 (((8 : Int32) * (t8.1 &&& (7 : Int32))) + (4 : Int32)).toNatClampNeg)), (12, .int (-1 : Int32)), (11, .int (t8.1 &&& (7 : Int32))), (8, .int t8.1), (0, .ref (gw_a Γ 132)), (1, .ref (gw_a Γ 133)), (2, .ref (gw_a Γ 135)), (3, .ref (gw_a Γ 134)), (7, .int v7), (9, .int v9), (10, .int t8.1)] dL_draws_166 (by decide) rfl ?_
      replace hf := gw_bnd hf
      obtain ⟨t13, ht13, hf⟩ := hf
      refine gj_pick [4, 5, 6, 7, 8, 3, 9, 2, 1, 0] _ rfl (l_L_draws_4 C τ μ o v7 t8.1 v9 (t8.1 &&& (7 : Int32)) _ _ _ t13 ht13 ?_)
      refine gj_iload C 8 dL_draws_235 rfl ?_
      refine gj_if_lt C 253 dL_draws_237 (by decide) (fun c => ?_) (fun c => ?_)
      · replace hf := gw_ift hf c
        refine gj_iinc C 9 6 (v9 + 1) [(9, .int (v9 + 1)), (0, .ref (gw_a Γ 132)), (1, .ref (gw_a Γ 133)), (2, .ref (gw_a Γ 135)), (3, .ref (gw_a Γ 134)), (7, .int v7), (8, .int t8.1), (11, .int (t8.1 &&& (7 : Int32))), (12, .int t13.1), (13, .int t13.2)] dL_draws_253 rfl rfl (by decide) rfl ?_
        refine gj_goto C 63 dL_draws_256 (by decide) ?_
        cases hf
        replace hr := gw_il hr
        exact gj_pick [1, 2, 3, 4, 5, 6, 0] _ rfl (ih _ _ _ _ _ _ hr k)
      · replace hf := gw_iff hf c
        refine gj_aload_n C 0 dL_draws_240 rfl ?_
        refine gj_aload_n C 1 dL_draws_241 rfl ?_
        refine gj_aload_n C 2 dL_draws_242 rfl ?_
        refine gj_iload C 7 dL_draws_243 rfl ?_
        refine gj_iload C 8 dL_draws_245 rfl ?_
        replace hf := gw_bnd hf
        obtain ⟨r14, hr14, hf⟩ := hf
        refine gj_cSv (As := [.ref (gw_a Γ 132), .ref (gw_a Γ 133), .ref (gw_a Γ 135), .int (t8.1 &&& (7 : Int32)), .int t13.1]) (rest := []) C cb_L_57 (s_L_enrols (gw_l K) Γ τ μ o (t8.1 &&& (7 : Int32)) t13.1 r14 hr14) rfl (Nat.le_of_ble_eq_true rfl) dL_draws_247 (gw_rmk rfl) rfl ?_
        refine gj_iinc C 7 4 (v7 + 1) [(7, .int (v7 + 1)), (0, .ref (gw_a Γ 132)), (1, .ref (gw_a Γ 133)), (2, .ref (gw_a Γ 135)), (3, .ref (gw_a Γ 134)), (8, .int t8.1), (9, .int v9), (11, .int (t8.1 &&& (7 : Int32))), (12, .int t13.1), (13, .int t13.2)] dL_draws_250 rfl rfl (by decide) rfl ?_
        refine gj_iinc C 9 6 (v9 + 1) [(9, .int (v9 + 1)), (7, .int (v7 + 1)), (0, .ref (gw_a Γ 132)), (1, .ref (gw_a Γ 133)), (2, .ref (gw_a Γ 135)), (3, .ref (gw_a Γ 134)), (8, .int t8.1), (11, .int (t8.1 &&& (7 : Int32))), (12, .int t13.1), (13, .int t13.2)] dL_draws_253 rfl rfl (by decide) rfl ?_
        refine gj_goto C 63 dL_draws_256 (by decide) ?_
        cases hf
        replace hr := gw_il hr
        exact gj_pick [2, 3, 4, 5, 1, 6, 0] _ rfl (ih _ _ _ _ _ _ hr k)
set_option maxRecDepth 100000 in
set_option maxHeartbeats 4000000 in
theorem s_L_draws (l : Launch) (Γ : gw_G) (τ μ : gw_S) (o : Nat → Int64) (a4 : Int32) (r : Int32 × gw_S × (Nat → Int64)) (hf : f_L_draws μ o a4 = some r) : gw_M l yL_draws [.code yL_draws cL_draws 15 (some .int)] gr_L_draws 0 0 Γ [.ref (gw_a Γ 132), .ref (gw_a Γ 133), .ref (gw_a Γ 135), .ref (gw_a Γ 134), .int a4] (gw_W Γ τ μ o) (gw_qi Γ r.1 (gw_W Γ τ r.2.1 r.2.2)) := by
  refine gw_enter (by decide) (Nat.le_of_ble_eq_true rfl) (fun K C E => ?_)
  unfold f_L_draws at hf
  refine gj_iload C 4 dL_draws_0 rfl ?_
  refine gj_i2l C dL_draws_2 ?_
  refine gj_lstore C 5 [(5, .long a4.toInt64), (0, .ref (gw_a Γ 132)), (1, .ref (gw_a Γ 133)), (2, .ref (gw_a Γ 135)), (3, .ref (gw_a Γ 134)), (4, .int a4)] dL_draws_3 (by decide) rfl ?_
  refine gj_iconst (v := 0) C dL_draws_5 (by decide) ?_
  refine gj_istore C 7 [(7, .int (0 : Int32)), (5, .long a4.toInt64), (0, .ref (gw_a Γ 132)), (1, .ref (gw_a Γ 133)), (2, .ref (gw_a Γ 135)), (3, .ref (gw_a Γ 134)), (4, .int a4)] dL_draws_6 (by decide) rfl ?_
  replace hf := gw_bnd hf
  obtain ⟨t3, ht3, hf⟩ := hf
  refine gj_pick [2, 3, 4, 5, 1, 0] _ rfl (l_L_draws_1 C τ _ _ _ _ _ t3 ht3 ?_)
  refine gj_iconst (v := 0) C dL_draws_54 (by decide) ?_
  refine gj_istore C 7 [(7, .int (0 : Int32)), (0, .ref (gw_a Γ 132)), (1, .ref (gw_a Γ 133)), (2, .ref (gw_a Γ 135)), (3, .ref (gw_a Γ 134)), (5, .long t3.1)] dL_draws_55 (by decide) rfl ?_
  refine gj_iconst (v := -1) C dL_draws_57 (by decide) ?_
  refine gj_istore C 8 [(8, .int (-1 : Int32)), (7, .int (0 : Int32)), (0, .ref (gw_a Γ 132)), (1, .ref (gw_a Γ 133)), (2, .ref (gw_a Γ 135)), (3, .ref (gw_a Γ 134)), (5, .long t3.1)] dL_draws_58 (by decide) rfl ?_
  refine gj_iconst (v := 0) C dL_draws_60 (by decide) ?_
  refine gj_istore C 9 [(9, .int (0 : Int32)), (8, .int (-1 : Int32)), (7, .int (0 : Int32)), (0, .ref (gw_a Γ 132)), (1, .ref (gw_a Γ 133)), (2, .ref (gw_a Γ 135)), (3, .ref (gw_a Γ 134)), (5, .long t3.1)] dL_draws_61 (by decide) rfl ?_
  replace hf := gw_bnd hf
  obtain ⟨t15, ht15, hf⟩ := hf
  refine gj_pick [3, 4, 5, 6, 2, 1, 0] _ rfl (l_L_draws_2 C τ _ _ _ _ _ _ t15 ht15 ?_)
  refine gj_iload C 4 dL_draws_259 rfl ?_
  cases hf
  exact gj_iret C E dL_draws_261 (Nat.le_of_ble_eq_true rfl) (Nat.le_of_ble_eq_true rfl)
set_option maxRecDepth 100000 in
set_option maxHeartbeats 4000000 in
theorem l_L_points_2 {K : gw_K} {Γ : gw_G} (C : gw_C K Γ cL_points 8 RL) (τ : gw_S) (μ : gw_S) (o : Nat → Int64) (v2 : Int32) (v3 : Int32) (v4 : Int32) (v5 : Int32) (v6 : Int32) : ∀ (n : Nat) (v7 : Int32) (T : (Int32) ⊕ (Int32)), gw_it (b_L_points_2 μ o v2 v3 v4 v5 v6) n v7 = some T → (∀ x : Int32, T = .inl x → gw_J K Γ gr_L_points 0 0 (gw_W Γ τ μ o) 108 [(0, .ref (gw_a Γ 132)), (1, .ref (gw_a Γ 133)), (2, .int v2), (3, .int v3), (4, .int v4), (5, .int v5), (6, .int v6), (7, .int x)] []) → (∀ r : Int32, T = .inr r → gw_E K Γ (gw_qi Γ r (gw_W Γ τ μ o)) 0 0 (some .int)) → gw_J K Γ gr_L_points 0 0 (gw_W Γ τ μ o) 50 [(0, .ref (gw_a Γ 132)), (1, .ref (gw_a Γ 133)), (2, .int v2), (3, .int v3), (4, .int v4), (5, .int v5), (6, .int v6), (7, .int v7)] [] := by
  intro n
  induction n with
  | zero => intro v7 T h; cases h
  | succ n ih =>
    intro v7 T h k ke
    obtain ⟨q, hf, hr⟩ := gw_it_s h
    rw [b_L_points_2] at hf
    refine gj_iload C 7 dL_points_50 rfl ?_
    refine gj_bipush (v := 8) C dL_points_52 (by decide) ?_
    refine gj_ic_ge C 108 dL_points_54 (by decide) (fun c => ?_) (fun c => ?_)
    · replace hf := gw_ift hf c
      cases hf
      exact gj_pick [0, 1, 2, 3, 4, 5, 6, 7] _ rfl (k _ (gw_ir hr).symm)
    · replace hf := gw_iff hf c
      refine gj_aload_n C 0 dL_points_57 rfl ?_
      refine gj_aload_n C 1 dL_points_58 rfl ?_
      refine gj_iload_n C 2 dL_points_59 rfl ?_
      refine gj_iload C 6 dL_points_60 rfl ?_
      refine gj_iload C 4 dL_points_62 rfl ?_
      replace hf := gw_bnd hf
      obtain ⟨r4, hr4, hf⟩ := hf
      refine gj_cSi (As := [.ref (gw_a Γ 132), .ref (gw_a Γ 133), .int v2, .int v6, .int v4]) (rest := []) C cb_L_37 (s_L_obstacle (gw_l K) Γ τ μ o v2 v6 v4 r4 hr4) rfl (Nat.le_of_ble_eq_true rfl) dL_points_64 (gw_rmk rfl) rfl ?_
      refine gj_if_ne C 108 dL_points_67 (by decide) (fun c => ?_) (fun c => ?_)
      · replace hf := gw_iff hf c
        cases hf
        exact gj_pick [0, 1, 2, 3, 4, 5, 6, 7] _ rfl (k _ (gw_ir hr).symm)
      · replace hf := gw_ift hf c
        refine gj_iload C 7 dL_points_70 rfl ?_
        refine gj_iload_n C 2 dL_points_72 rfl ?_
        refine gj_ic_eq C 102 dL_points_73 (by decide) (fun c => ?_) (fun c => ?_)
        · replace hf := gw_ift hf c
          refine gj_iinc C 7 7 (v7 + 1) [(7, .int (v7 + 1)), (0, .ref (gw_a Γ 132)), (1, .ref (gw_a Γ 133)), (2, .int v2), (3, .int v3), (4, .int v4), (5, .int v5), (6, .int v6)] dL_points_102 rfl rfl (by decide) rfl ?_
          refine gj_goto C 50 dL_points_105 (by decide) ?_
          cases hf
          replace hr := gw_il hr
          exact gj_pick [1, 2, 3, 4, 5, 6, 7, 0] _ rfl (ih _ _ hr k ke)
        · replace hf := gw_iff hf c
          refine gj_iload_n C 3 dL_points_76 rfl ?_
          refine gj_iload C 7 dL_points_77 rfl ?_
          replace hf := gw_bnd hf
          obtain ⟨r5, hr5, hf⟩ := hf
          refine gj_cSi (As := [.int v3, .int v7]) (rest := []) C cb_L_15 (s_L_has (gw_l K) Γ τ μ o v3 v7 r5 hr5) rfl (Nat.le_of_ble_eq_true rfl) dL_points_79 (gw_rmk rfl) rfl ?_
          refine gj_if_eq C 102 dL_points_82 (by decide) (fun c => ?_) (fun c => ?_)
          · replace hf := gw_ift hf c
            refine gj_iinc C 7 7 (v7 + 1) [(7, .int (v7 + 1)), (0, .ref (gw_a Γ 132)), (1, .ref (gw_a Γ 133)), (2, .int v2), (3, .int v3), (4, .int v4), (5, .int v5), (6, .int v6)] dL_points_102 rfl rfl (by decide) rfl ?_
            refine gj_goto C 50 dL_points_105 (by decide) ?_
            cases hf
            replace hr := gw_il hr
            exact gj_pick [1, 2, 3, 4, 5, 6, 7, 0] _ rfl (ih _ _ hr k ke)
          · replace hf := gw_iff hf c
            refine gj_aload_n C 1 dL_points_85 rfl ?_
            refine gj_bipush (v := 8) C dL_points_86 (by decide) ?_
            refine gj_iload C 7 dL_points_88 rfl ?_
            refine gj_imul C dL_points_90 ?_
            refine gj_iconst (v := 5) C dL_points_91 (by decide) ?_
            refine gj_iadd C dL_points_92 ?_
            obtain ⟨g6, hf⟩ := gw_ifs hf
            refine gj_bld (j := 1) C (by decide) (gw_ibv g6) dL_points_93 ?_
            refine gj_iload C 6 dL_points_94 rfl ?_
            refine gj_ic_ne C 102 dL_points_96 (by decide) (fun c => ?_) (fun c => ?_)
            · replace hf := gw_iff hf c
              refine gj_iinc C 7 7 (v7 + 1) [(7, .int (v7 + 1)), (0, .ref (gw_a Γ 132)), (1, .ref (gw_a Γ 133)), (2, .int v2), (3, .int v3), (4, .int v4), (5, .int v5), (6, .int v6)] dL_points_102 rfl rfl (by decide) rfl ?_
              refine gj_goto C 50 dL_points_105 (by decide) ?_
              cases hf
              replace hr := gw_il hr
              exact gj_pick [1, 2, 3, 4, 5, 6, 7, 0] _ rfl (ih _ _ hr k ke)
            · replace hf := gw_ift hf c
              refine gj_iload C 7 dL_points_99 rfl ?_
              cases hf
              exact gj_iret C (ke _ (gw_ir hr).symm) dL_points_101 (Nat.le_of_ble_eq_true rfl) (Nat.le_of_ble_eq_true rfl)
set_option maxRecDepth 100000 in
set_option maxHeartbeats 4000000 in
theorem l_L_points_1 {K : gw_K} {Γ : gw_G} (C : gw_C K Γ cL_points 8 RL) (τ : gw_S) (μ : gw_S) (o : Nat → Int64) (v2 : Int32) (v3 : Int32) (v4 : Int32) : ∀ (n : Nat) (v5 : Int32) (T : (Int32) ⊕ (Int32)), gw_it (b_L_points_1 μ o v2 v3 v4) n v5 = some T → (∀ x : Int32, T = .inl x → gw_J K Γ gr_L_points 0 0 (gw_W Γ τ μ o) 117 [(0, .ref (gw_a Γ 132)), (1, .ref (gw_a Γ 133)), (2, .int v2), (3, .int v3), (4, .int v4), (5, .int x)] []) → (∀ r : Int32, T = .inr r → gw_E K Γ (gw_qi Γ r (gw_W Γ τ μ o)) 0 0 (some .int)) → gw_J K Γ gr_L_points 0 0 (gw_W Γ τ μ o) 33 [(0, .ref (gw_a Γ 132)), (1, .ref (gw_a Γ 133)), (2, .int v2), (3, .int v3), (4, .int v4), (5, .int v5)] [] := by
  intro n
  induction n with
  | zero => intro v5 T h; cases h
  | succ n ih =>
    intro v5 T h k ke
    obtain ⟨q, hf, hr⟩ := gw_it_s h
    rw [b_L_points_1] at hf
    refine gj_iload C 5 dL_points_33 rfl ?_
    refine gj_if_eq C 117 dL_points_35 (by decide) (fun c => ?_) (fun c => ?_)
    · replace hf := gw_ift hf c
      cases hf
      exact gj_pick [0, 1, 2, 3, 4, 5] _ rfl (k _ (gw_ir hr).symm)
    · replace hf := gw_iff hf c
      refine gj_iload C 5 dL_points_38 rfl ?_
      refine gj_bipush (v := 15) C dL_points_40 (by decide) ?_
      refine gj_iand C dL_points_42 ?_
      refine gj_iconst (v := 1) C dL_points_43 (by decide) ?_
      refine gj_isub C dL_points_44 ?_
      refine gj_istore C 6 [(6, .int ((v5 &&& (15 : Int32)) - (1 : Int32))), (0, .ref (gw_a Γ 132)), (1, .ref (gw_a Γ 133)), (2, .int v2), (3, .int v3), (4, .int v4), (5, .int v5)] dL_points_45 (by decide) rfl ?_
      refine gj_iconst (v := 0) C dL_points_47 (by decide) ?_
      refine gj_istore C 7 [(7, .int (0 : Int32)), (6, .int ((v5 &&& (15 : Int32)) - (1 : Int32))), (0, .ref (gw_a Γ 132)), (1, .ref (gw_a Γ 133)), (2, .int v2), (3, .int v3), (4, .int v4), (5, .int v5)] dL_points_48 (by decide) rfl ?_
      replace hf := gw_bnd hf
      obtain ⟨t7, ht7, hf⟩ := hf
      refine gj_pick [2, 3, 4, 5, 6, 7, 1, 0] _ rfl (l_L_points_2 C τ μ o v2 v3 v4 v5 ((v5 &&& (15 : Int32)) - (1 : Int32)) _ _ t7 ht7 (fun x8 e => ?_) (fun r e => ?_))
      · replace hf := gw_xl hf e
        refine gj_iload C 5 dL_points_108 rfl ?_
        refine gj_iconst (v := 4) C dL_points_110 (by decide) ?_
        refine gj_iushr (v := (v5.toUInt32 >>> ((4 : Int32).toUInt32 &&& Int32.toUInt32 31)).toInt32) C dL_points_111 rfl ?_
        refine gj_istore C 5 [(5, .int ((v5.toUInt32 >>> ((4 : Int32).toUInt32 &&& Int32.toUInt32 31)).toInt32)), (0, .ref (gw_a Γ 132)), (1, .ref (gw_a Γ 133)), (2, .int v2), (3, .int v3), (4, .int v4), (6, .int ((v5 &&& (15 : Int32)) - (1 : Int32))), (7, .int x8)] dL_points_112 (by decide) rfl ?_
        refine gj_goto C 33 dL_points_114 (by decide) ?_
        cases hf
        replace hr := gw_il hr
        exact gj_pick [1, 2, 3, 4, 5, 0] _ rfl (ih _ _ hr k ke)
      · replace hf := gw_xr hf e
        cases hf
        exact ke _ (gw_ir hr).symm
set_option maxRecDepth 100000 in
set_option maxHeartbeats 4000000 in
theorem s_L_points (l : Launch) (Γ : gw_G) (τ μ : gw_S) (o : Nat → Int64) (a2 : Int32) (a3 : Int32) (r : Int32) (hf : f_L_points μ o a2 a3 = some r) : gw_M l yL_points [.code yL_points cL_points 8 (some .int)] gr_L_points 0 0 Γ [.ref (gw_a Γ 132), .ref (gw_a Γ 133), .int a2, .int a3] (gw_W Γ τ μ o) (gw_qi Γ r (gw_W Γ τ μ o)) := by
  refine gw_enter (by decide) (Nat.le_of_ble_eq_true rfl) (fun K C E => ?_)
  unfold f_L_points at hf
  refine gj_aload_n C 1 dL_points_0 rfl ?_
  refine gj_bipush (v := 8) C dL_points_1 (by decide) ?_
  refine gj_iload_n C 2 dL_points_3 rfl ?_
  refine gj_imul C dL_points_4 ?_
  refine gj_iconst (v := 3) C dL_points_5 (by decide) ?_
  refine gj_iadd C dL_points_6 ?_
  obtain ⟨g1, hf⟩ := gw_ifs hf
  refine gj_bld (j := 1) C (by decide) (gw_ibv g1) dL_points_7 ?_
  refine gj_iconst (v := 1) C dL_points_8 (by decide) ?_
  refine gj_aload_n C 1 dL_points_9 rfl ?_
  refine gj_bipush (v := 8) C dL_points_10 (by decide) ?_
  refine gj_iload_n C 2 dL_points_12 rfl ?_
  refine gj_imul C dL_points_13 ?_
  refine gj_iconst (v := 5) C dL_points_14 (by decide) ?_
  refine gj_iadd C dL_points_15 ?_
  obtain ⟨g2, hf⟩ := gw_ifs hf
  refine gj_bld (j := 1) C (by decide) (gw_ibv g2) dL_points_16 ?_
  refine gj_ishl C dL_points_17 ?_
  refine gj_iconst (v := -1) C dL_points_18 (by decide) ?_
  refine gj_ixor C dL_points_19 ?_
  refine gj_iand C dL_points_20 ?_
  refine gj_istore C 4 [(4, .int ((μ 1 (((8 : Int32) * a2) + (3 : Int32)).toNatClampNeg) &&& (((1 : Int32) <<< ((μ 1 (((8 : Int32) * a2) + (5 : Int32)).toNatClampNeg) &&& 31)) ^^^ (-1 : Int32)))), (0, .ref (gw_a Γ 132)), (1, .ref (gw_a Γ 133)), (2, .int a2), (3, .int a3)] dL_points_21 (by decide) rfl ?_
  refine gj_aload_n C 2 dL_points_23 rfl ?_
  refine gj_bipush (v := 8) C dL_points_24 (by decide) ?_
  refine gj_iload_n C 3 dL_points_26 rfl ?_
  refine gj_imul C dL_points_27 ?_
  refine gj_iconst (v := 4) C dL_points_28 (by decide) ?_
  refine gj_iadd C dL_points_29 ?_
  obtain ⟨g3, hf⟩ := gw_ifs hf
  refine gj_bld (j := 1) C (by decide) (gw_ibv g3) dL_points_30 ?_
  refine gj_istore C 5 [(5, .int (μ 1 (((8 : Int32) * a2) + (4 : Int32)).toNatClampNeg)), (4, .int ((μ 1 (((8 : Int32) * a2) + (3 : Int32)).toNatClampNeg) &&& (((1 : Int32) <<< ((μ 1 (((8 : Int32) * a2) + (5 : Int32)).toNatClampNeg) &&& 31)) ^^^ (-1 : Int32)))), (0, .ref (gw_a Γ 132)), (1, .ref (gw_a Γ 133)), (2, .int a2), (3, .int a3)] dL_points_31 (by decide) rfl ?_
  replace hf := gw_bnd hf
  obtain ⟨t9, ht9, hf⟩ := hf
  refine gj_pick [2, 3, 4, 5, 1, 0] _ rfl (l_L_points_1 C τ μ o a2 a3 ((μ 1 (((8 : Int32) * a2) + (3 : Int32)).toNatClampNeg) &&& (((1 : Int32) <<< ((μ 1 (((8 : Int32) * a2) + (5 : Int32)).toNatClampNeg) &&& 31)) ^^^ (-1 : Int32))) _ _ t9 ht9 (fun x10 e => ?_) (fun r e => ?_))
  · replace hf := gw_xl hf e
    refine gj_iload_n C 2 dL_points_117 rfl ?_
    cases hf
    exact gj_iret C E dL_points_118 (Nat.le_of_ble_eq_true rfl) (Nat.le_of_ble_eq_true rfl)
  · replace hf := gw_xr hf e
    cases hf
    exact E
set_option maxRecDepth 100000 in
set_option maxHeartbeats 4000000 in
theorem l_L_swaps_1 {K : gw_K} {Γ : gw_G} (C : gw_C K Γ cL_swaps 9 RL) (hz : gw_z Γ = 1) (τ : gw_S) : ∀ (n : Nat) (v5 : Int32) (v6 : Int32) (μ : gw_S) (o : Nat → Int64) (T : Int32 × Int32 × gw_S × (Nat → Int64)), gw_it (b_L_swaps_1) n (v5, v6, μ, o) = some T → gw_J K Γ gr_L_swaps 1 8 (gw_W Γ τ T.2.2.1 T.2.2.2) 64 [(0, .ref (gw_a Γ 132)), (1, .ref (gw_a Γ 133)), (2, .ref (gw_a Γ 135)), (3, .ref (gw_a Γ 134)), (4, .ref (gw_a Γ 136)), (5, .int T.1), (6, .int T.2.1)] [] → gw_J K Γ gr_L_swaps 1 8 (gw_W Γ τ μ o) 12 [(0, .ref (gw_a Γ 132)), (1, .ref (gw_a Γ 133)), (2, .ref (gw_a Γ 135)), (3, .ref (gw_a Γ 134)), (4, .ref (gw_a Γ 136)), (5, .int v5), (6, .int v6)] [] := by
  intro n
  induction n with
  | zero => intro v5 v6 μ o T h; cases h
  | succ n ih =>
    intro v5 v6 μ o T h k
    obtain ⟨q, hf, hr⟩ := gw_it_s h
    rw [b_L_swaps_1] at hf
    refine gj_iload C 6 dL_swaps_12 rfl ?_
    refine gj_bipush (v := 8) C dL_swaps_14 (by decide) ?_
    refine gj_ic_ge C 64 dL_swaps_16 (by decide) (fun c => ?_) (fun c => ?_)
    · replace hf := gw_ift hf c
      cases hf
      cases gw_ir hr
      exact gj_pick [0, 1, 2, 3, 4, 5, 6] _ rfl k
    · replace hf := gw_iff hf c
      refine gj_aload C 4 dL_swaps_19 rfl ?_
      refine gj_iload C 6 dL_swaps_21 rfl ?_
      refine gj_iconst (v := -1) C dL_swaps_23 (by decide) ?_
      obtain ⟨g1, hf⟩ := gw_ifs hf
      refine gj_tst C hz (gw_ibv g1) dL_swaps_24 ?_
      refine gj_iload C 5 dL_swaps_25 rfl ?_
      refine gj_iload C 6 dL_swaps_27 rfl ?_
      refine gj_aload_n C 3 dL_swaps_29 rfl ?_
      refine gj_iconst (v := 1) C dL_swaps_30 (by decide) ?_
      obtain ⟨g2, hf⟩ := gw_ifs hf
      refine gj_bld (j := 2) C (by decide) (gw_ibv g2) dL_swaps_31 ?_
      refine gj_ic_ge C 54 dL_swaps_32 (by decide) (fun c => ?_) (fun c => ?_)
      · replace hf := gw_ift hf c
        refine gj_iconst (v := 0) C dL_swaps_54 (by decide) ?_
        refine gj_ior C dL_swaps_55 ?_
        refine gj_istore C 5 [(5, .int (v5 ||| (0 : Int32))), (0, .ref (gw_a Γ 132)), (1, .ref (gw_a Γ 133)), (2, .ref (gw_a Γ 135)), (3, .ref (gw_a Γ 134)), (4, .ref (gw_a Γ 136)), (6, .int v6)] dL_swaps_56 (by decide) rfl ?_
        refine gj_iinc C 6 6 (v6 + 1) [(6, .int (v6 + 1)), (5, .int (v5 ||| (0 : Int32))), (0, .ref (gw_a Γ 132)), (1, .ref (gw_a Γ 133)), (2, .ref (gw_a Γ 135)), (3, .ref (gw_a Γ 134)), (4, .ref (gw_a Γ 136))] dL_swaps_58 rfl rfl (by decide) rfl ?_
        refine gj_goto C 12 dL_swaps_61 (by decide) ?_
        cases hf
        replace hr := gw_il hr
        exact gj_pick [2, 3, 4, 5, 6, 1, 0] _ rfl (ih _ _ _ _ _ hr k)
      · replace hf := gw_iff hf c
        refine gj_aload_n C 1 dL_swaps_35 rfl ?_
        refine gj_bipush (v := 8) C dL_swaps_36 (by decide) ?_
        refine gj_iload C 6 dL_swaps_38 rfl ?_
        refine gj_imul C dL_swaps_40 ?_
        refine gj_iconst (v := 5) C dL_swaps_41 (by decide) ?_
        refine gj_iadd C dL_swaps_42 ?_
        obtain ⟨g3, hf⟩ := gw_ifs hf
        refine gj_bld (j := 1) C (by decide) (gw_ibv g3) dL_swaps_43 ?_
        refine gj_if_lt C 54 dL_swaps_44 (by decide) (fun c => ?_) (fun c => ?_)
        · replace hf := gw_ift hf c
          refine gj_iconst (v := 0) C dL_swaps_54 (by decide) ?_
          refine gj_ior C dL_swaps_55 ?_
          refine gj_istore C 5 [(5, .int (v5 ||| (0 : Int32))), (0, .ref (gw_a Γ 132)), (1, .ref (gw_a Γ 133)), (2, .ref (gw_a Γ 135)), (3, .ref (gw_a Γ 134)), (4, .ref (gw_a Γ 136)), (6, .int v6)] dL_swaps_56 (by decide) rfl ?_
          refine gj_iinc C 6 6 (v6 + 1) [(6, .int (v6 + 1)), (5, .int (v5 ||| (0 : Int32))), (0, .ref (gw_a Γ 132)), (1, .ref (gw_a Γ 133)), (2, .ref (gw_a Γ 135)), (3, .ref (gw_a Γ 134)), (4, .ref (gw_a Γ 136))] dL_swaps_58 rfl rfl (by decide) rfl ?_
          refine gj_goto C 12 dL_swaps_61 (by decide) ?_
          cases hf
          replace hr := gw_il hr
          exact gj_pick [2, 3, 4, 5, 6, 1, 0] _ rfl (ih _ _ _ _ _ hr k)
        · replace hf := gw_iff hf c
          refine gj_iconst (v := 1) C dL_swaps_47 (by decide) ?_
          refine gj_iload C 6 dL_swaps_48 rfl ?_
          refine gj_ishl C dL_swaps_50 ?_
          refine gj_goto C 55 dL_swaps_51 (by decide) ?_
          refine gj_ior C dL_swaps_55 ?_
          refine gj_istore C 5 [(5, .int (v5 ||| ((1 : Int32) <<< (v6 &&& 31)))), (0, .ref (gw_a Γ 132)), (1, .ref (gw_a Γ 133)), (2, .ref (gw_a Γ 135)), (3, .ref (gw_a Γ 134)), (4, .ref (gw_a Γ 136)), (6, .int v6)] dL_swaps_56 (by decide) rfl ?_
          refine gj_iinc C 6 6 (v6 + 1) [(6, .int (v6 + 1)), (5, .int (v5 ||| ((1 : Int32) <<< (v6 &&& 31)))), (0, .ref (gw_a Γ 132)), (1, .ref (gw_a Γ 133)), (2, .ref (gw_a Γ 135)), (3, .ref (gw_a Γ 134)), (4, .ref (gw_a Γ 136))] dL_swaps_58 rfl rfl (by decide) rfl ?_
          refine gj_goto C 12 dL_swaps_61 (by decide) ?_
          cases hf
          replace hr := gw_il hr
          exact gj_pick [2, 3, 4, 5, 6, 1, 0] _ rfl (ih _ _ _ _ _ hr k)
set_option maxRecDepth 100000 in
set_option maxHeartbeats 4000000 in
theorem l_L_swaps_3 {K : gw_K} {Γ : gw_G} (C : gw_C K Γ cL_swaps 9 RL) (hz : gw_z Γ = 1) (τ : gw_S) (μ : gw_S) (o : Nat → Int64) (v5 : Int32) : ∀ (n : Nat) (v6 : Int32) (T : Int32), gw_it (b_L_swaps_3 μ o v5) n v6 = some T → gw_J K Γ gr_L_swaps 1 8 (gw_W Γ τ μ o) 88 [(0, .ref (gw_a Γ 132)), (1, .ref (gw_a Γ 133)), (2, .ref (gw_a Γ 135)), (4, .ref (gw_a Γ 136)), (5, .int v5), (6, .int T)] [] → gw_J K Γ gr_L_swaps 1 8 (gw_W Γ τ μ o) 72 [(0, .ref (gw_a Γ 132)), (1, .ref (gw_a Γ 133)), (2, .ref (gw_a Γ 135)), (4, .ref (gw_a Γ 136)), (5, .int v5), (6, .int v6)] [] := by
  intro n
  induction n with
  | zero => intro v6 T h; cases h
  | succ n ih =>
    intro v6 T h k
    obtain ⟨q, hf, hr⟩ := gw_it_s h
    rw [b_L_swaps_3] at hf
    refine gj_iload C 4 dL_swaps_72 rfl ?_
    refine gj_iload C 5 dL_swaps_74 rfl ?_
    replace hf := gw_bnd hf
    obtain ⟨r5, hr5, hf⟩ := hf
    refine gj_cSi (As := [.int v5, .int v6]) (rest := []) C cb_L_15 (s_L_has (gw_l K) Γ τ μ o v5 v6 r5 hr5) rfl (Nat.le_of_ble_eq_true rfl) dL_swaps_76 (gw_rmk rfl) rfl ?_
    refine gj_if_ne C 88 dL_swaps_79 (by decide) (fun c => ?_) (fun c => ?_)
    · replace hf := gw_iff hf c
      cases hf
      cases gw_ir hr
      exact gj_pick [0, 1, 2, 3, 4, 5] _ rfl k
    · replace hf := gw_ift hf c
      refine gj_iinc C 6 5 (v6 + 1) [(6, .int (v6 + 1)), (0, .ref (gw_a Γ 132)), (1, .ref (gw_a Γ 133)), (2, .ref (gw_a Γ 135)), (4, .ref (gw_a Γ 136)), (5, .int v5)] dL_swaps_82 rfl rfl (by decide) rfl ?_
      refine gj_goto C 72 dL_swaps_85 (by decide) ?_
      cases hf
      replace hr := gw_il hr
      exact gj_pick [1, 2, 3, 4, 5, 0] _ rfl (ih _ _ hr k)
set_option maxRecDepth 100000 in
set_option maxHeartbeats 4000000 in
theorem l_L_swaps_4 {K : gw_K} {Γ : gw_G} (C : gw_C K Γ cL_swaps 9 RL) (hz : gw_z Γ = 1) (τ : gw_S) (μ : gw_S) (o : Nat → Int64) (v5 : Int32) : ∀ (n : Nat) (v6 : Int32) (v7 : Int32) (T : Int32 × Int32), gw_it (b_L_swaps_4 μ o v5) n (v6, v7) = some T → gw_J K Γ gr_L_swaps 1 8 (gw_W Γ τ μ o) 115 [(0, .ref (gw_a Γ 132)), (1, .ref (gw_a Γ 133)), (2, .ref (gw_a Γ 135)), (4, .ref (gw_a Γ 136)), (5, .int v5), (6, .int T.1), (7, .int T.2)] [] → gw_J K Γ gr_L_swaps 1 8 (gw_W Γ τ μ o) 91 [(0, .ref (gw_a Γ 132)), (1, .ref (gw_a Γ 133)), (2, .ref (gw_a Γ 135)), (4, .ref (gw_a Γ 136)), (5, .int v5), (6, .int v6), (7, .int v7)] [] := by
  intro n
  induction n with
  | zero => intro v6 v7 T h; cases h
  | succ n ih =>
    intro v6 v7 T h k
    obtain ⟨q, hf, hr⟩ := gw_it_s h
    rw [b_L_swaps_4] at hf
    refine gj_iload C 6 dL_swaps_91 rfl ?_
    refine gj_bipush (v := 8) C dL_swaps_93 (by decide) ?_
    refine gj_ic_ge C 115 dL_swaps_95 (by decide) (fun c => ?_) (fun c => ?_)
    · replace hf := gw_ift hf c
      cases hf
      cases gw_ir hr
      exact gj_pick [0, 1, 2, 3, 4, 5, 6] _ rfl k
    · replace hf := gw_iff hf c
      refine gj_aload_n C 0 dL_swaps_98 rfl ?_
      refine gj_aload_n C 1 dL_swaps_99 rfl ?_
      refine gj_iload C 5 dL_swaps_100 rfl ?_
      refine gj_iload C 4 dL_swaps_102 rfl ?_
      replace hf := gw_bnd hf
      obtain ⟨r7, hr7, hf⟩ := hf
      refine gj_cSi (As := [.ref (gw_a Γ 132), .ref (gw_a Γ 133), .int v6, .int v5]) (rest := []) C cb_L_75 (s_L_points (gw_l K) Γ τ μ o v6 v5 r7 hr7) rfl (Nat.le_of_ble_eq_true rfl) dL_swaps_104 (gw_rmk rfl) rfl ?_
      refine gj_istore C 6 [(6, .int r7), (0, .ref (gw_a Γ 132)), (1, .ref (gw_a Γ 133)), (2, .ref (gw_a Γ 135)), (4, .ref (gw_a Γ 136)), (5, .int v5), (7, .int v7)] dL_swaps_107 (by decide) rfl ?_
      refine gj_iinc C 7 6 (v7 + 1) [(7, .int (v7 + 1)), (6, .int r7), (0, .ref (gw_a Γ 132)), (1, .ref (gw_a Γ 133)), (2, .ref (gw_a Γ 135)), (4, .ref (gw_a Γ 136)), (5, .int v5)] dL_swaps_109 rfl rfl (by decide) rfl ?_
      refine gj_goto C 91 dL_swaps_112 (by decide) ?_
      cases hf
      replace hr := gw_il hr
      exact gj_pick [2, 3, 4, 5, 6, 1, 0] _ rfl (ih _ _ _ hr k)
set_option maxRecDepth 100000 in
set_option maxHeartbeats 4000000 in
theorem l_L_swaps_5 {K : gw_K} {Γ : gw_G} (C : gw_C K Γ cL_swaps 9 RL) (hz : gw_z Γ = 1) (τ : gw_S) (v5 : Int32) : ∀ (n : Nat) (v6 : Int32) (v7 : Int32) (μ : gw_S) (o : Nat → Int64) (T : Int32 × Int32 × gw_S × (Nat → Int64)), gw_it (b_L_swaps_5 v5) n (v6, v7, μ, o) = some T → gw_J K Γ gr_L_swaps 1 8 (gw_W Γ τ T.2.2.1 T.2.2.2) 180 [(0, .ref (gw_a Γ 132)), (1, .ref (gw_a Γ 133)), (2, .ref (gw_a Γ 135)), (4, .ref (gw_a Γ 136)), (5, .int v5), (6, .int T.1), (7, .int T.2.1)] [] → gw_J K Γ gr_L_swaps 1 8 (gw_W Γ τ μ o) 118 [(0, .ref (gw_a Γ 132)), (1, .ref (gw_a Γ 133)), (2, .ref (gw_a Γ 135)), (4, .ref (gw_a Γ 136)), (5, .int v5), (6, .int v6), (7, .int v7)] [] := by
  intro n
  induction n with
  | zero => intro v6 v7 μ o T h; cases h
  | succ n ih =>
    intro v6 v7 μ o T h k
    obtain ⟨q, hf, hr⟩ := gw_it_s h
    rw [b_L_swaps_5] at hf
    refine gj_iload C 6 dL_swaps_118 rfl ?_
    refine gj_iload C 5 dL_swaps_120 rfl ?_
    replace hf := gw_bnd hf
    obtain ⟨r9, hr9, hf⟩ := hf
    refine gj_cSi (As := [.int v7, .int v6]) (rest := []) C cb_L_15 (s_L_has (gw_l K) Γ τ μ o v7 v6 r9 hr9) rfl (Nat.le_of_ble_eq_true rfl) dL_swaps_122 (gw_rmk rfl) rfl ?_
    refine gj_if_ne C 180 dL_swaps_125 (by decide) (fun c => ?_) (fun c => ?_)
    · replace hf := gw_iff hf c
      cases hf
      cases gw_ir hr
      exact gj_pick [0, 1, 2, 3, 4, 5, 6] _ rfl k
    · replace hf := gw_ift hf c
      refine gj_iload C 6 dL_swaps_128 rfl ?_
      refine gj_iconst (v := 1) C dL_swaps_130 (by decide) ?_
      refine gj_iload C 5 dL_swaps_131 rfl ?_
      refine gj_ishl C dL_swaps_133 ?_
      refine gj_ior C dL_swaps_134 ?_
      refine gj_istore C 7 [(7, .int (v7 ||| ((1 : Int32) <<< (v6 &&& 31)))), (0, .ref (gw_a Γ 132)), (1, .ref (gw_a Γ 133)), (2, .ref (gw_a Γ 135)), (4, .ref (gw_a Γ 136)), (5, .int v5), (6, .int v6)] dL_swaps_135 (by decide) rfl ?_
      refine gj_aload_n C 1 dL_swaps_137 rfl ?_
      refine gj_aload_n C 2 dL_swaps_138 rfl ?_
      refine gj_iload C 6 dL_swaps_139 rfl ?_
      refine gj_iload C 5 dL_swaps_141 rfl ?_
      replace hf := gw_bnd hf
      obtain ⟨r10, hr10, hf⟩ := hf
      refine gj_cSi (As := [.ref (gw_a Γ 132), .ref (gw_a Γ 133), .int v6, .int v5]) (rest := []) C cb_L_75 (s_L_points (gw_l K) Γ τ μ o v6 v5 r10 hr10) rfl (Nat.le_of_ble_eq_true rfl) dL_swaps_143 (gw_rmk rfl) rfl ?_
      refine gj_istore C 8 [(8, .int r10), (7, .int (v7 ||| ((1 : Int32) <<< (v6 &&& 31)))), (0, .ref (gw_a Γ 132)), (1, .ref (gw_a Γ 133)), (2, .ref (gw_a Γ 135)), (4, .ref (gw_a Γ 136)), (5, .int v5), (6, .int v6)] dL_swaps_146 (by decide) rfl ?_
      refine gj_aload C 5 dL_swaps_148 rfl ?_
      refine gj_iload C 7 dL_swaps_150 rfl ?_
      refine gj_iload C 0 dL_swaps_152 rfl ?_
      refine gj_iload C 7 dL_swaps_154 rfl ?_
      refine gj_ic_ne C 163 dL_swaps_156 (by decide) (fun c => ?_) (fun c => ?_)
      · replace hf := gw_iff hf c
        refine gj_aload_n C 3 dL_swaps_163 rfl ?_
        refine gj_bipush (v := 8) C dL_swaps_164 (by decide) ?_
        refine gj_iload C 0 dL_swaps_166 rfl ?_
        refine gj_imul C dL_swaps_168 ?_
        refine gj_iconst (v := 5) C dL_swaps_169 (by decide) ?_
        refine gj_iadd C dL_swaps_170 ?_
        obtain ⟨g11, hf⟩ := gw_ifs hf
        refine gj_bld (j := 1) C (by decide) (gw_ibv g11) dL_swaps_171 ?_
        obtain ⟨g12, hf⟩ := gw_ifs hf
        refine gj_tst C hz (gw_ibv g12) dL_swaps_172 ?_
        refine gj_iload C 0 dL_swaps_173 rfl ?_
        refine gj_istore C 6 [(6, .int r10), (8, .int r10), (7, .int (v7 ||| ((1 : Int32) <<< (v6 &&& 31)))), (0, .ref (gw_a Γ 132)), (1, .ref (gw_a Γ 133)), (2, .ref (gw_a Γ 135)), (4, .ref (gw_a Γ 136)), (5, .int v5)] dL_swaps_175 (by decide) rfl ?_
        refine gj_goto C 118 dL_swaps_177 (by decide) ?_
        cases hf
        replace hr := gw_il hr
        exact gj_pick [3, 4, 5, 6, 7, 0, 2] _ rfl (ih _ _ _ _ _ hr k)
      · replace hf := gw_ift hf c
        refine gj_iconst (v := -1) C dL_swaps_159 (by decide) ?_
        refine gj_goto C 172 dL_swaps_160 (by decide) ?_
        obtain ⟨g13, hf⟩ := gw_ifs hf
        refine gj_tst C hz (gw_ibv g13) dL_swaps_172 ?_
        refine gj_iload C 0 dL_swaps_173 rfl ?_
        refine gj_istore C 6 [(6, .int r10), (8, .int r10), (7, .int (v7 ||| ((1 : Int32) <<< (v6 &&& 31)))), (0, .ref (gw_a Γ 132)), (1, .ref (gw_a Γ 133)), (2, .ref (gw_a Γ 135)), (4, .ref (gw_a Γ 136)), (5, .int v5)] dL_swaps_175 (by decide) rfl ?_
        refine gj_goto C 118 dL_swaps_177 (by decide) ?_
        cases hf
        replace hr := gw_il hr
        exact gj_pick [3, 4, 5, 6, 7, 0, 2] _ rfl (ih _ _ _ _ _ hr k)
set_option maxRecDepth 100000 in
set_option maxHeartbeats 4000000 in
theorem l_L_swaps_2 {K : gw_K} {Γ : gw_G} (C : gw_C K Γ cL_swaps 9 RL) (hz : gw_z Γ = 1) (τ : gw_S) : ∀ (n : Nat) (v5 : Int32) (μ : gw_S) (o : Nat → Int64) (T : Int32 × gw_S × (Nat → Int64)), gw_it (b_L_swaps_2) n (v5, μ, o) = some T → gw_J K Γ gr_L_swaps 1 8 (gw_W Γ τ T.2.1 T.2.2) 192 [(0, .ref (gw_a Γ 132)), (1, .ref (gw_a Γ 133)), (2, .ref (gw_a Γ 135)), (4, .ref (gw_a Γ 136)), (5, .int T.1)] [] → gw_J K Γ gr_L_swaps 1 8 (gw_W Γ τ μ o) 64 [(0, .ref (gw_a Γ 132)), (1, .ref (gw_a Γ 133)), (2, .ref (gw_a Γ 135)), (4, .ref (gw_a Γ 136)), (5, .int v5)] [] := by
  intro n
  induction n with
  | zero => intro v5 μ o T h; cases h
  | succ n ih =>
    intro v5 μ o T h k
    obtain ⟨q, hf, hr⟩ := gw_it_s h
    rw [b_L_swaps_2] at hf
    refine gj_iload C 4 dL_swaps_64 rfl ?_
    refine gj_if_eq C 192 dL_swaps_66 (by decide) (fun c => ?_) (fun c => ?_)
    · replace hf := gw_ift hf c
      cases hf
      cases gw_ir hr
      exact gj_pick [0, 1, 2, 3, 4] _ rfl k
    · replace hf := gw_iff hf c
      refine gj_iconst (v := 0) C dL_swaps_69 (by decide) ?_
      refine gj_istore C 6 [(6, .int (0 : Int32)), (0, .ref (gw_a Γ 132)), (1, .ref (gw_a Γ 133)), (2, .ref (gw_a Γ 135)), (4, .ref (gw_a Γ 136)), (5, .int v5)] dL_swaps_70 (by decide) rfl ?_
      replace hf := gw_bnd hf
      obtain ⟨t6, ht6, hf⟩ := hf
      refine gj_pick [1, 2, 3, 4, 5, 0] _ rfl (l_L_swaps_3 C hz τ μ o v5 _ _ t6 ht6 ?_)
      refine gj_iconst (v := 0) C dL_swaps_88 (by decide) ?_
      refine gj_istore C 7 [(7, .int (0 : Int32)), (0, .ref (gw_a Γ 132)), (1, .ref (gw_a Γ 133)), (2, .ref (gw_a Γ 135)), (4, .ref (gw_a Γ 136)), (5, .int v5), (6, .int t6)] dL_swaps_89 (by decide) rfl ?_
      replace hf := gw_bnd hf
      obtain ⟨t8, ht8, hf⟩ := hf
      refine gj_pick [1, 2, 3, 4, 5, 6, 0] _ rfl (l_L_swaps_4 C hz τ μ o v5 _ _ _ t8 ht8 ?_)
      refine gj_iconst (v := 0) C dL_swaps_115 (by decide) ?_
      refine gj_istore C 7 [(7, .int (0 : Int32)), (0, .ref (gw_a Γ 132)), (1, .ref (gw_a Γ 133)), (2, .ref (gw_a Γ 135)), (4, .ref (gw_a Γ 136)), (5, .int v5), (6, .int t8.1)] dL_swaps_116 (by decide) rfl ?_
      replace hf := gw_bnd hf
      obtain ⟨t14, ht14, hf⟩ := hf
      refine gj_pick [1, 2, 3, 4, 5, 6, 0] _ rfl (l_L_swaps_5 C hz τ v5 _ _ _ _ _ t14 ht14 ?_)
      refine gj_iload C 4 dL_swaps_180 rfl ?_
      refine gj_iload C 6 dL_swaps_182 rfl ?_
      refine gj_iconst (v := -1) C dL_swaps_184 (by decide) ?_
      refine gj_ixor C dL_swaps_185 ?_
      refine gj_iand C dL_swaps_186 ?_
      refine gj_istore C 5 [(5, .int (v5 &&& (t14.2.1 ^^^ (-1 : Int32)))), (0, .ref (gw_a Γ 132)), (1, .ref (gw_a Γ 133)), (2, .ref (gw_a Γ 135)), (4, .ref (gw_a Γ 136)), (6, .int t14.1), (7, .int t14.2.1)] dL_swaps_187 (by decide) rfl ?_
      refine gj_goto C 64 dL_swaps_189 (by decide) ?_
      cases hf
      replace hr := gw_il hr
      exact gj_pick [1, 2, 3, 4, 0] _ rfl (ih _ _ _ _ hr k)
set_option maxRecDepth 100000 in
set_option maxHeartbeats 4000000 in
theorem l_L_swaps_6 {K : gw_K} {Γ : gw_G} (C : gw_C K Γ cL_swaps 9 RL) (hz : gw_z Γ = 1) (τ : gw_S) : ∀ (n : Nat) (v6 : Int32) (v7 : Int32) (μ : gw_S) (o : Nat → Int64) (T : Int32 × Int32 × gw_S × (Nat → Int64)), gw_it (b_L_swaps_6) n (v6, v7, μ, o) = some T → gw_J K Γ gr_L_swaps 1 8 (gw_W Γ τ T.2.2.1 T.2.2.2) 250 [(0, .ref (gw_a Γ 132)), (1, .ref (gw_a Γ 133)), (2, .ref (gw_a Γ 135)), (4, .ref (gw_a Γ 136)), (6, .int T.1), (7, .int T.2.1)] [] → gw_J K Γ gr_L_swaps 1 8 (gw_W Γ τ μ o) 198 [(0, .ref (gw_a Γ 132)), (1, .ref (gw_a Γ 133)), (2, .ref (gw_a Γ 135)), (4, .ref (gw_a Γ 136)), (6, .int v6), (7, .int v7)] [] := by
  intro n
  induction n with
  | zero => intro v6 v7 μ o T h; cases h
  | succ n ih =>
    intro v6 v7 μ o T h k
    obtain ⟨q, hf, hr⟩ := gw_it_s h
    rw [b_L_swaps_6] at hf
    refine gj_iload C 5 dL_swaps_198 rfl ?_
    refine gj_bipush (v := 8) C dL_swaps_200 (by decide) ?_
    refine gj_ic_ge C 250 dL_swaps_202 (by decide) (fun c => ?_) (fun c => ?_)
    · replace hf := gw_ift hf c
      cases hf
      cases gw_ir hr
      exact gj_pick [0, 1, 2, 3, 4, 5] _ rfl k
    · replace hf := gw_iff hf c
      refine gj_aload C 3 dL_swaps_205 rfl ?_
      refine gj_iload C 5 dL_swaps_207 rfl ?_
      obtain ⟨g16, hf⟩ := gw_ifs hf
      refine gj_tld C hz (gw_ibv g16) dL_swaps_209 ?_
      refine gj_if_lt C 244 dL_swaps_210 (by decide) (fun c => ?_) (fun c => ?_)
      · replace hf := gw_ift hf c
        refine gj_iinc C 7 5 (v7 + 1) [(7, .int (v7 + 1)), (0, .ref (gw_a Γ 132)), (1, .ref (gw_a Γ 133)), (2, .ref (gw_a Γ 135)), (4, .ref (gw_a Γ 136)), (6, .int v6)] dL_swaps_244 rfl rfl (by decide) rfl ?_
        refine gj_goto C 198 dL_swaps_247 (by decide) ?_
        cases hf
        replace hr := gw_il hr
        exact gj_pick [1, 2, 3, 4, 5, 0] _ rfl (ih _ _ _ _ _ hr k)
      · replace hf := gw_iff hf c
        refine gj_aload_n C 1 dL_swaps_213 rfl ?_
        refine gj_iload C 5 dL_swaps_214 rfl ?_
        refine gj_aload_n C 1 dL_swaps_216 rfl ?_
        refine gj_bipush (v := 8) C dL_swaps_217 (by decide) ?_
        refine gj_iload C 5 dL_swaps_219 rfl ?_
        refine gj_imul C dL_swaps_221 ?_
        refine gj_iconst (v := 5) C dL_swaps_222 (by decide) ?_
        refine gj_iadd C dL_swaps_223 ?_
        obtain ⟨g17, hf⟩ := gw_ifs hf
        refine gj_bld (j := 1) C (by decide) (gw_ibv g17) dL_swaps_224 ?_
        replace hf := gw_bnd hf
        obtain ⟨r18, hr18, hf⟩ := hf
        refine gj_cSv (As := [.ref (gw_a Γ 133), .int v7, .int (μ 1 (((8 : Int32) * v7) + (5 : Int32)).toNatClampNeg)]) (rest := []) C cb_L_61 (s_L_gives (gw_l K) Γ τ μ o v7 (μ 1 (((8 : Int32) * v7) + (5 : Int32)).toNatClampNeg) r18 hr18) rfl (Nat.le_of_ble_eq_true rfl) dL_swaps_225 (gw_rmk rfl) rfl ?_
        refine gj_aload_n C 0 dL_swaps_228 rfl ?_
        refine gj_aload_n C 1 dL_swaps_229 rfl ?_
        refine gj_aload_n C 2 dL_swaps_230 rfl ?_
        refine gj_iload C 5 dL_swaps_231 rfl ?_
        refine gj_aload C 3 dL_swaps_233 rfl ?_
        refine gj_iload C 5 dL_swaps_235 rfl ?_
        obtain ⟨g19, hf⟩ := gw_ifs hf
        refine gj_tld C hz (gw_ibv g19) dL_swaps_237 ?_
        replace hf := gw_bnd hf
        obtain ⟨r20, hr20, hf⟩ := hf
        refine gj_cSv (As := [.ref (gw_a Γ 132), .ref (gw_a Γ 133), .ref (gw_a Γ 135), .int v7, .int (r18.1 4 v7.toNatClampNeg)]) (rest := []) C cb_L_57 (s_L_enrols (gw_l K) Γ τ r18.1 r18.2 v7 (r18.1 4 v7.toNatClampNeg) r20 hr20) rfl (Nat.le_of_ble_eq_true rfl) dL_swaps_238 (gw_rmk rfl) rfl ?_
        refine gj_iinc C 6 4 (v6 + 1) [(6, .int (v6 + 1)), (0, .ref (gw_a Γ 132)), (1, .ref (gw_a Γ 133)), (2, .ref (gw_a Γ 135)), (4, .ref (gw_a Γ 136)), (7, .int v7)] dL_swaps_241 rfl rfl (by decide) rfl ?_
        refine gj_iinc C 7 5 (v7 + 1) [(7, .int (v7 + 1)), (6, .int (v6 + 1)), (0, .ref (gw_a Γ 132)), (1, .ref (gw_a Γ 133)), (2, .ref (gw_a Γ 135)), (4, .ref (gw_a Γ 136))] dL_swaps_244 rfl rfl (by decide) rfl ?_
        refine gj_goto C 198 dL_swaps_247 (by decide) ?_
        cases hf
        replace hr := gw_il hr
        exact gj_pick [2, 3, 4, 5, 1, 0] _ rfl (ih _ _ _ _ _ hr k)
set_option maxRecDepth 100000 in
set_option maxHeartbeats 4000000 in
theorem s_L_swaps (l : Launch) (Γ : gw_G) (hz : gw_z Γ = 0) (τ μ : gw_S) (o : Nat → Int64) (r : Int32 × gw_S × (Nat → Int64)) (hf : f_L_swaps μ o = some r) : gw_M l yL_swaps [.code yL_swaps cL_swaps 9 (some .int)] gr_L_swaps 1 8 Γ [.ref (gw_a Γ 132), .ref (gw_a Γ 133), .ref (gw_a Γ 135), .ref (gw_a Γ 134)] (gw_W Γ τ μ o) (gw_qi Γ r.1 (gw_W Γ τ r.2.1 r.2.2)) := by
  refine gw_enter (by decide) (Nat.le_of_ble_eq_true rfl) (fun K C E => ?_)
  unfold f_L_swaps at hf
  refine gj_bipush (v := 8) C dL_swaps_0 (by decide) ?_
  have C0 := C
  have E0 := E
  have hz0 := hz
  refine gj_newto (lvf := fun Γ => [(0, .ref (gw_a Γ 132)), (1, .ref (gw_a Γ 133)), (2, .ref (gw_a Γ 135)), (3, .ref (gw_a Γ 134))]) C hz dL_swaps_2 (Nat.le_of_ble_eq_true rfl) (Nat.le_of_ble_eq_true rfl) rfl (fun q => rfl) (fun Γ hx hz C => ?_)
  refine gj_astore C 4 [(4, .ref (gw_a Γ 136)), (0, .ref (gw_a Γ 132)), (1, .ref (gw_a Γ 133)), (2, .ref (gw_a Γ 135)), (3, .ref (gw_a Γ 134))] dL_swaps_4 (by decide) rfl ?_
  refine gj_iconst (v := 0) C dL_swaps_6 (by decide) ?_
  refine gj_istore C 5 [(5, .int (0 : Int32)), (4, .ref (gw_a Γ 136)), (0, .ref (gw_a Γ 132)), (1, .ref (gw_a Γ 133)), (2, .ref (gw_a Γ 135)), (3, .ref (gw_a Γ 134))] dL_swaps_7 (by decide) rfl ?_
  refine gj_iconst (v := 0) C dL_swaps_9 (by decide) ?_
  refine gj_istore C 6 [(6, .int (0 : Int32)), (5, .int (0 : Int32)), (4, .ref (gw_a Γ 136)), (0, .ref (gw_a Γ 132)), (1, .ref (gw_a Γ 133)), (2, .ref (gw_a Γ 135)), (3, .ref (gw_a Γ 134))] dL_swaps_10 (by decide) rfl ?_
  replace hf := gw_bnd hf
  obtain ⟨t4, ht4, hf⟩ := hf
  refine gj_pick [3, 4, 5, 6, 2, 1, 0] _ rfl (l_L_swaps_1 C hz τ _ _ _ _ _ t4 ht4 ?_)
  replace hf := gw_bnd hf
  obtain ⟨t15, ht15, hf⟩ := hf
  refine gj_pick [0, 1, 2, 4, 5] _ rfl (l_L_swaps_2 C hz τ _ _ _ _ t15 ht15 ?_)
  refine gj_iconst (v := 0) C dL_swaps_192 (by decide) ?_
  refine gj_istore C 6 [(6, .int (0 : Int32)), (0, .ref (gw_a Γ 132)), (1, .ref (gw_a Γ 133)), (2, .ref (gw_a Γ 135)), (4, .ref (gw_a Γ 136)), (5, .int t15.1)] dL_swaps_193 (by decide) rfl ?_
  refine gj_iconst (v := 0) C dL_swaps_195 (by decide) ?_
  refine gj_istore C 7 [(7, .int (0 : Int32)), (6, .int (0 : Int32)), (0, .ref (gw_a Γ 132)), (1, .ref (gw_a Γ 133)), (2, .ref (gw_a Γ 135)), (4, .ref (gw_a Γ 136)), (5, .int t15.1)] dL_swaps_196 (by decide) rfl ?_
  replace hf := gw_bnd hf
  obtain ⟨t21, ht21, hf⟩ := hf
  refine gj_pick [2, 3, 4, 5, 1, 0] _ rfl (l_L_swaps_6 C hz τ _ _ _ _ _ t21 ht21 ?_)
  refine gj_iload C 4 dL_swaps_250 rfl ?_
  cases hf
  exact gj_iretT hx hz0 C0 E0 dL_swaps_252 (Nat.le_of_ble_eq_true rfl) (Nat.le_of_ble_eq_true rfl)
