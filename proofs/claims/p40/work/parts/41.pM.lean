section lvl
variable {cm sm td : Nat} {τ μ : gw_S}
theorem op_addCourse {j : Nat} {τ μ : gw_S} (h : Inv j τ μ) (hj : j < 512) (a1 a2 a3 : Int32) : ∃ r q, f_X3_addCourse τ a1 a2 a3 = some r ∧ f_X4_addCourse μ a1 a2 a3 = some q ∧ (∀ e, r.1 = .inr e → e = "java/lang/IllegalArgumentException" ∨ e = "java/lang/IllegalStateException") ∧ q.2 0 18 = lw_k ["java/lang/IllegalArgumentException", "java/lang/IllegalStateException"] r.1 ∧ (∀ v, r.1 = .inl v → v = q.1) ∧ Inv (j + 1) r.2 q.2 := by
  obtain ⟨cm, sm, td, h7, hd, R, I, F, B⟩ := id h
  have h20 := R.1
  have bad : ∃ r q, some (Sum.inr "java/lang/IllegalArgumentException", τ) = some r ∧ some ((0 : Int32), gw_up μ 0 18 1) = some q ∧ (∀ e, r.1 = .inr e → e = "java/lang/IllegalArgumentException" ∨ e = "java/lang/IllegalStateException") ∧ q.2 0 18 = lw_k ["java/lang/IllegalArgumentException", "java/lang/IllegalStateException"] r.1 ∧ (∀ v, r.1 = .inl v → v = q.1) ∧ Inv (j + 1) r.2 q.2 := wr_ex h rfl rfl (Or.inl rfl) (by decide +kernel)
  unfold f_X3_addCourse f_X4_addCourse f_X3_isOutside
  by_cases p1 : a1 < 0
  · rw [if_pos p1, bs, if_neg n10, if_pos p1]; exact bad
  rw [if_neg p1, if_neg p1]
  by_cases p2 : a1 ≤ 16
  rotate_left
  · rw [if_neg p2, bs, if_neg n10, if_pos (fa_of_nle p2)]; exact bad
  rw [if_pos p2, bs, if_pos (show (0 : Int32) = 0 from rfl), if_neg (fun h => (fa_of_lt h).2.1 p2)]
  by_cases p3 : a2 < 1
  · rw [if_pos p3, bs, if_neg n10, if_pos p3]; exact bad
  rw [if_neg p3, if_neg p3]
  by_cases p4 : a2 ≤ 12
  rotate_left
  · rw [if_neg p4, bs, if_neg n10, if_pos (fa_of_nle p4)]; exact bad
  rw [if_pos p4, bs, if_pos (show (0 : Int32) = 0 from rfl), if_neg (fun h => (fa_of_lt h).2.1 p4)]
  by_cases p5 : a3 < 0
  · rw [if_pos p5, bs, if_neg n10, if_pos p5]; exact bad
  rw [if_neg p5, if_neg p5]
  by_cases p6 : a3 ≤ 1073741823
  rotate_left
  · rw [if_neg p6, bs, if_neg n10, if_pos (fa_of_nle p6)]; exact bad
  rw [if_pos p6, bs, if_pos (show (0 : Int32) = 0 from rfl), if_neg (fun h => (fa_of_lt h).2.1 p6), r_cm R, r_cm' R]
  by_cases p7 : cm = 20
  · subst p7
    rw [if_neg (show ¬ nI 20 < (20 : Int32) by decide), if_pos (show nI 20 = (20 : Int32) by decide)]
    exact wr_ex h rfl rfl (Or.inr rfl) (by decide +kernel)
  · have hcm : cm < 20 := by omega
    rw [if_pos (show nI cm < (20 : Int32) from nI_lt (b := 20) hcm (by decide)), if_neg (show ¬ nI cm = (20 : Int32) from fun e => p7 (nI_inj (b := 20) e (by omega) (by decide))), if_pos (ib_ok (by omega)), if_pos (ib_ok (by show cm < 20; omega) (by decide)), if_pos (ib_ok (by show cm < 20; omega) (by decide)), if_pos (ib_ok (by show cm < 20; omega) (by decide)), if_pos (ib_ok (by show cm < 20; omega) (by decide)), if_pos (ib_ok (by show cm < 20; omega) (by decide)), nI_clamp (n := cm) (by omega)]
    obtain ⟨t, G, t1, t2⟩ := fill16 (a1 := a1) (a2 := a2) (a3 := a3) (a4 := 1) (μ := gw_up (gw_up (gw_up (gw_up (gw_up (gw_up μ 0 18 0) 1 cm a1) 2 cm a2) 3 cm a3) 4 cm 0) 13 cm 0) hcm
    obtain ⟨k1, q1, rfl⟩ := nI_of2 (M := 16) (n := 16) (by decide) p1 p2
    obtain ⟨k2, q2, rfl⟩ := nI_of2 (M := 12) (n := 12) (by decide) (fun h5 => p3 (by
      rw [fa_lt] at h5 ⊢
      have : (1 : Int32).toInt = 1 := rfl
      have : (0 : Int32).toInt = 0 := rfl
      omega)) p4
    rw [it_bd G rfl]
    have e00 : t.2 0 0 = nI cm := by
      rw [t1 0 0 (by omega)]
      exact (show μ 0 0 = nI cm from r_cm' R)
    refine wr_ok (v := nI cm) (by rw [R.2.2.1.1 cm hcm]) rfl ?_ (newC (td := td) (a3 := a3) (by omega) hd R I F B hcm (lt_mk (show k1 < 17 by omega)) (lt_mk (show k2 < 13 by omega)) ?_ ⟨?_, ?_, ?_⟩ (fun k i a b => ?_) ?_ ⟨?_, ?_, ?_, ?_, ?_⟩ (fun i => ?_) (fun r i a b c => ?_))
    · rw [gw_up_n (by omega), t1 0 18 (by omega)]; rfl
    · rw [gw_up_s, nI_1]
    · rw [gw_up_n (by omega), gw_up_n (by omega), gw_up_n (by omega), gw_up_s]
    · rw [gw_up_n (by omega), gw_up_n (by omega), gw_up_s]
    · rw [gw_up_n (by omega), gw_up_s]
    · rw [gw_up_n (by omega), gw_up_n (by omega), gw_up_n (by omega), gw_up_n (by omega)]
    · rw [gw_up_s, e00, nI_1]
    · rw [gw_up_n (by omega), t1 _ _ (by omega), gw_up_n (by omega), gw_up_n (by omega), gw_up_n (by omega), gw_up_n (by omega), gw_up_s]
    · rw [gw_up_n (by omega), t1 _ _ (by omega), gw_up_n (by omega), gw_up_n (by omega), gw_up_n (by omega), gw_up_s]
    · rw [gw_up_n (by omega), t1 _ _ (by omega), gw_up_n (by omega), gw_up_n (by omega), gw_up_s]
    · rw [gw_up_n (by omega), t1 _ _ (by omega), gw_up_n (by omega), gw_up_s]
    · rw [gw_up_n (by omega), t1 _ _ (by omega), gw_up_s]
    · rw [gw_up_n (by omega), t2 i]; rfl
    · rw [gw_up_n (by omega), t1 _ _ (by omega), gw_up_n (by omega), gw_up_n (by omega), gw_up_n (by omega), gw_up_n (by omega), gw_up_n (by omega), gw_up_n (by omega)]
theorem op_addStudent {j : Nat} {τ μ : gw_S} (h : Inv j τ μ) (hj : j < 512) (a1 a2 : Int32) : ∃ r q, f_X3_addStudent τ a1 a2 = some r ∧ f_X4_addStudent μ a1 a2 = some q ∧ (∀ e, r.1 = .inr e → e = "java/lang/IllegalArgumentException" ∨ e = "java/lang/IllegalStateException") ∧ q.2 0 18 = lw_k ["java/lang/IllegalArgumentException", "java/lang/IllegalStateException"] r.1 ∧ (∀ v, r.1 = .inl v → v = q.1) ∧ Inv (j + 1) r.2 q.2 := by
  obtain ⟨cm, sm, td, h7, hd, R, I, F, B⟩ := id h
  have h20 := R.1
  have bad : ∃ r q, some (Sum.inr "java/lang/IllegalArgumentException", τ) = some r ∧ some ((0 : Int32), gw_up μ 0 18 1) = some q ∧ (∀ e, r.1 = .inr e → e = "java/lang/IllegalArgumentException" ∨ e = "java/lang/IllegalStateException") ∧ q.2 0 18 = lw_k ["java/lang/IllegalArgumentException", "java/lang/IllegalStateException"] r.1 ∧ (∀ v, r.1 = .inl v → v = q.1) ∧ Inv (j + 1) r.2 q.2 := wr_ex h rfl rfl (Or.inl rfl) (by decide +kernel)
  unfold f_X3_addStudent f_X4_addStudent f_X3_isOutside
  by_cases p1 : a1 < 0
  · rw [if_pos p1, bs, if_neg n10, if_pos p1]; exact bad
  rw [if_neg p1, if_neg p1]
  by_cases p2 : a1 ≤ 3
  rotate_left
  · rw [if_neg p2, bs, if_neg n10, if_pos (fa_of_nle p2)]; exact bad
  rw [if_pos p2, bs, if_pos (show (0 : Int32) = 0 from rfl), if_neg (fun h => (fa_of_lt h).2.1 p2)]
  by_cases p3 : a2 < 1
  · rw [if_pos p3, bs, if_neg n10, if_pos p3]; exact bad
  rw [if_neg p3, if_neg p3]
  by_cases p4 : a2 ≤ 40
  rotate_left
  · rw [if_neg p4, bs, if_neg n10, if_neg p4]; exact bad
  rw [if_pos p4, bs, if_pos (show (0 : Int32) = 0 from rfl), if_pos p4, r_sm R, r_sm' R]
  by_cases p7 : sm = 16
  · subst p7
    rw [if_neg (show ¬ nI 16 < (16 : Int32) by decide), if_pos (show nI 16 = (16 : Int32) by decide)]
    exact wr_ex h rfl rfl (Or.inr rfl) (by decide +kernel)
  · have hsm : sm < 16 := by omega
    rw [if_pos (show nI sm < (16 : Int32) from nI_lt (b := 16) hsm (by decide)), if_neg (show ¬ nI sm = (16 : Int32) from fun e => p7 (nI_inj (b := 16) e (by omega) (by decide))), if_pos (ib_ok (by omega)), if_pos (ib_ok (by show sm < 16; omega) (by decide)), if_pos (ib_ok (by show sm < 16; omega) (by decide)), if_pos (ib_ok (by show sm < 16; omega) (by decide)), if_pos (ib_ok (by show sm < 16; omega) (by decide)), if_pos (ib_ok (by show sm < 16; omega) (by decide)), if_pos (ib_ok (by show sm < 16; omega) (by decide)), if_pos (ib_ok (by show sm < 16; omega) (by decide)), nI_clamp (n := sm) (by omega)]
    obtain ⟨t, G, t1, t2⟩ := fill20 (a1 := a1) (a2 := a2) (μ := gw_up (gw_up (gw_up (gw_up (gw_up (gw_up (gw_up (gw_up μ 0 18 0) 5 sm a1) 6 sm a2) 7 sm 0) 8 sm 0) 9 sm 0) 11 sm (-1)) 12 sm (-1)) hsm
    obtain ⟨k1, q1, rfl⟩ := nI_of2 (M := 3) (n := 3) (by decide) p1 p2
    obtain ⟨k2, q2, rfl⟩ := nI_of2 (M := 40) (n := 40) (by decide) (fun h5 => p3 (by
      rw [fa_lt] at h5 ⊢
      have : (1 : Int32).toInt = 1 := rfl
      have : (0 : Int32).toInt = 0 := rfl
      omega)) p4
    rw [it_bd G rfl]
    have e00 : t.2 0 5 = nI sm := by
      rw [t1 0 5 (by omega)]
      exact (show μ 0 5 = nI sm from r_sm' R)
    refine wr_ok (v := nI sm) (by rw [R.2.2.1.2 sm hsm]) rfl ?_ (newS (td := td) (by omega) hd R I F B hsm (lt_mk (show k1 < 4 by omega)) (lt_mk (show k2 < 41 by omega)) ?_ ⟨?_, ?_⟩ (fun k i a b => ?_) ?_ ⟨?_, ?_, ?_, ?_, ?_, ?_, ?_⟩ (fun c i a b => ?_) (fun r i a b c => ?_))
    · rw [gw_up_n (by omega), t1 0 18 (by omega)]; rfl
    · rw [gw_up_s, nI_1]
    · rw [gw_up_n (by omega), gw_up_n (by omega), gw_up_s]
    · rw [gw_up_n (by omega), gw_up_s]
    · rw [gw_up_n (by omega), gw_up_n (by omega), gw_up_n (by omega)]
    · rw [gw_up_s, e00, nI_1]
    · rw [gw_up_n (by omega), t1 _ _ (by omega), gw_up_n (by omega), gw_up_n (by omega), gw_up_n (by omega), gw_up_n (by omega), gw_up_n (by omega), gw_up_n (by omega), gw_up_s]
    · rw [gw_up_n (by omega), t1 _ _ (by omega), gw_up_n (by omega), gw_up_n (by omega), gw_up_n (by omega), gw_up_n (by omega), gw_up_n (by omega), gw_up_s]
    · rw [gw_up_n (by omega), t1 _ _ (by omega), gw_up_n (by omega), gw_up_n (by omega), gw_up_n (by omega), gw_up_n (by omega), gw_up_s]
    · rw [gw_up_n (by omega), t1 _ _ (by omega), gw_up_n (by omega), gw_up_n (by omega), gw_up_n (by omega), gw_up_s]
    · rw [gw_up_n (by omega), t1 _ _ (by omega), gw_up_n (by omega), gw_up_n (by omega), gw_up_s]
    · rw [gw_up_n (by omega), t1 _ _ (by omega), gw_up_n (by omega), gw_up_s]
    · rw [gw_up_n (by omega), t1 _ _ (by omega), gw_up_s]
    · rw [gw_up_n (by omega), t2 c i a b]; rfl
    · rw [gw_up_n (by omega), t1 _ _ (by omega), gw_up_n (by omega), gw_up_n (by omega), gw_up_n (by omega), gw_up_n (by omega), gw_up_n (by omega), gw_up_n (by omega), gw_up_n (by omega), gw_up_n (by omega)]
end lvl
