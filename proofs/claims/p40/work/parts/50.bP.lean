/-! ONE MORE: a course, a student -/
def mC (μ : gw_S) (cm : Nat) (a1 a2 a3 : Int32) : gw_S := fun r i => if r = 15 then (if 16 * cm ≤ i ∧ i < 16 * cm + 16 then -1 else μ 15 i) else gw_up (gw_up (gw_up (gw_up (gw_up (gw_up μ 0 0 (nI (cm + 1))) 1 cm a1) 2 cm a2) 3 cm a3) 4 cm 0) 13 cm 0 r i
def mS (μ : gw_S) (sm : Nat) (a1 a2 : Int32) : gw_S := fun r i => if r = 15 then (if i % 16 = sm then -1 else μ 15 i) else gw_up (gw_up (gw_up (gw_up (gw_up (gw_up (gw_up (gw_up μ 0 5 (nI (sm + 1))) 5 sm a1) 6 sm a2) 7 sm 0) 8 sm 0) 9 sm 0) 11 sm (-1)) 12 sm (-1) r i
def βC (β : gw_S) (cm : Nat) (a1 a2 a3 : Int32) : gw_S := gw_up (gw_up (gw_up (gw_up β 0 (8 * cm) a1) 0 (8 * cm + 1) a2) 0 (8 * cm + 2) a3) 2 0 (nI (cm + 1))
def βS (β : gw_S) (sm : Nat) (a1 a2 : Int32) : gw_S := gw_up (gw_up (gw_up (gw_up (gw_up β 1 (8 * sm) a1) 1 (8 * sm + 1) a2) 1 (8 * sm + 5) (-1)) 1 (8 * sm + 6) (-1)) 2 1 (nI (sm + 1))
section bp
variable {j cm sm td tb : Nat} {τ μ β : gw_S} {o : Nat → Int64}
theorem mC_15 (a1 a2 a3 : Int32) (i : Nat) : mC μ cm a1 a2 a3 15 i = if 16 * cm ≤ i ∧ i < 16 * cm + 16 then -1 else μ 15 i := if_pos rfl
theorem mC_n (a1 a2 a3 : Int32) {r i : Nat} (h : r < 15) (h1 : ¬ (r = 0 ∧ i = 0)) (h2 : ¬ (i = cm ∧ (r = 1 ∨ r = 2 ∨ r = 3 ∨ r = 4 ∨ r = 13))) : mC μ cm a1 a2 a3 r i = μ r i := by
  unfold mC
  rw [if_neg (by omega), gw_up_n (by omega), gw_up_n (by omega), gw_up_n (by omega), gw_up_n (by omega), gw_up_n (by omega), gw_up_n (by omega)]
theorem mC_1 (a1 a2 a3 : Int32) : mC μ cm a1 a2 a3 1 cm = a1 := by
  unfold mC
  rw [if_neg (by omega), gw_up_n (by omega), gw_up_n (by omega), gw_up_n (by omega), gw_up_n (by omega), gw_up_s]
theorem mC_2 (a1 a2 a3 : Int32) : mC μ cm a1 a2 a3 2 cm = a2 := by
  unfold mC
  rw [if_neg (by omega), gw_up_n (by omega), gw_up_n (by omega), gw_up_n (by omega), gw_up_s]
theorem mC_3 (a1 a2 a3 : Int32) : mC μ cm a1 a2 a3 3 cm = a3 := by
  unfold mC
  rw [if_neg (by omega), gw_up_n (by omega), gw_up_n (by omega), gw_up_s]
theorem mC_4 (a1 a2 a3 : Int32) : mC μ cm a1 a2 a3 4 cm = 0 := by
  unfold mC
  rw [if_neg (by omega), gw_up_n (by omega), gw_up_s]
theorem mC_13 (a1 a2 a3 : Int32) : mC μ cm a1 a2 a3 13 cm = 0 := by
  unfold mC
  rw [if_neg (by omega), gw_up_s]
theorem mC_0 (a1 a2 a3 : Int32) : mC μ cm a1 a2 a3 0 0 = nI (cm + 1) := by
  unfold mC
  rw [if_neg (by omega), gw_up_n (by omega), gw_up_n (by omega), gw_up_n (by omega), gw_up_n (by omega), gw_up_n (by omega), gw_up_s]
/-- what the invariant with the class says of the counts -/
theorem St_of {cm' sm' td' : Nat} {τ' μ' β' : gw_S} {o' : Nat → Int64} (hI : Inv (j + 1) τ' μ') (hj : j < 500) (h7 : td' ≤ 7 * (j + 1)) (c1 : cm' ≤ 8) (s1 : sm' ≤ 8) (h0 : μ' 0 0 = nI cm') (h5 : μ' 0 5 = nI sm') (h17 : μ' 0 17 = nI td') (B : Bk cm' sm' td' μ' β' o') : St (j + 1) cm' sm' td' τ' μ' β' o' := by
  obtain ⟨cm, sm, td, k7, kd, R, I, F, S⟩ := hI
  have h20 := R.1
  have e1 : cm = cm' := nI_inj ((r_cm' R).symm.trans h0)
  have e2 : sm = sm' := nI_inj ((r_sm' R).symm.trans h5)
  have e3 : td = td' := nI_inj (kd.symm.trans h17)
  subst e1 e2 e3
  exact ⟨h7, by omega, kd, R, I, F, S, B⟩
theorem Bk_C (I : Iv cm sm td μ) (B : Bk cm sm tb μ β o) (hc8 : cm < 8) (a1 a2 a3 : Int32) : Bk (cm + 1) sm tb (mC μ cm a1 a2 a3) (βC β cm a1 a2 a3) o := by
  have hb4 : ∀ c, c < cm → ∀ k, bt (μ 4 c) k = true → k < cm := fun c hc => (I.2.1 c hc).2.2.2
  have m4 : ∀ c, c < cm → mC μ cm a1 a2 a3 4 c = μ 4 c := fun c hc => mC_n a1 a2 a3 (by omega) (by omega) (by omega)
  obtain ⟨b0, b1, b2, b3, b4, b5, b6, b7, b8, b9, b10⟩ := id B
  have r1 : ∀ i, βC β cm a1 a2 a3 1 i = β 1 i := fun i => by
    unfold βC
    rw [gw_up_n (by omega), gw_up_n (by omega), gw_up_n (by omega), gw_up_n (by omega)]
  have r0 : ∀ i, i ≠ 8 * cm → i ≠ 8 * cm + 1 → i ≠ 8 * cm + 2 → βC β cm a1 a2 a3 0 i = β 0 i := fun i x y z => by
    unfold βC
    rw [gw_up_n (by omega), gw_up_n (by omega), gw_up_n (by omega), gw_up_n (by omega)]
  refine ⟨by omega, ⟨gw_up_s _ _ _ _, ?_, ?_⟩, fun c j hc hj => ?_, fun c k hc hk => ?_, fun c j k hc hj => ?_, fun c hc => ?_, fun c h1 h2 => ?_, fun s j hs hj => ?_, fun s hs => ?_, fun s hs => ?_, fun s j h1 h2 hj => ?_⟩
  · unfold βC
    rw [gw_up_n (by omega), gw_up_n (by omega), gw_up_n (by omega), gw_up_n (by omega)]; exact b1.2.1
  · unfold βC
    rw [gw_up_n (by omega), gw_up_n (by omega), gw_up_n (by omega), gw_up_n (by omega)]; exact b1.2.2
  · by_cases e : c = cm
    · subst e
      rcases (show j = 0 ∨ j = 1 ∨ j = 2 ∨ j = 3 by omega) with rfl | rfl | rfl | rfl
      · rw [mC_1]; unfold βC; rw [gw_up_n (by omega), gw_up_n (by omega), gw_up_n (by omega)]; exact gw_up_s _ _ _ _
      · rw [mC_2]; unfold βC; rw [gw_up_n (by omega), gw_up_n (by omega), gw_up_s]
      · rw [mC_3]; unfold βC; rw [gw_up_n (by omega), gw_up_s]
      · rw [mC_4, r0 _ (by omega) (by omega) (by omega)]; exact e_cz B (Nat.le_refl _) hc8 (by omega)
    · rw [r0 _ (by omega) (by omega) (by omega), mC_n a1 a2 a3 (by omega) (by omega) (by omega)]
      exact b2 c j (by omega) hj
  · rw [r0 _ (by omega) (by omega) (by omega)]
    by_cases e : c = cm
    · subst e
      rw [e_cz B (Nat.le_refl _) hc8 (by omega), b_0]
      exact ⟨fun h => (by cases h), fun h => absurd h (rch_none (mC_4 a1 a2 a3))⟩
    · rw [rch_cong m4 hb4 (by omega)]; exact b3 c k (by omega) hk
  · rw [r0 _ (by omega) (by omega) (by omega), mC_15]
    by_cases e : c = cm
    · subst e
      rw [show 8 * c + 5 + j = 8 * c + (5 + j) by omega, e_cz B (Nat.le_refl _) hc8 (by omega), b_0]
      refine ⟨fun h => (by cases h), fun h => ?_⟩
      rw [if_pos (by omega)] at h
      exact absurd rfl h.2.1
    · rw [b4 c j k (by omega) hj]
      constructor
      · rintro ⟨x, y, z⟩
        rw [if_neg (by omega)]; exact ⟨x, y, z⟩
      · rintro ⟨x, y, z⟩
        rw [if_neg (by omega)] at y z; exact ⟨x, y, z⟩
  · by_cases e : c = cm
    · subst e
      rw [mC_13]
      exact (b6 c (Nat.le_refl _) hc8).2
    · rw [mC_n a1 a2 a3 (r := 13) (by omega) (by omega) (by omega), show mC μ cm a1 a2 a3 14 = μ 14 from funext fun i => mC_n a1 a2 a3 (by omega) (by omega) (by omega)]
      exact b5 c (by omega)
  · refine ⟨fun j hj => ?_, (b6 c (by omega) h2).2⟩
    rw [r0 _ (by omega) (by omega) (by omega)]; exact (b6 c (by omega) h2).1 j hj
  · rw [r1, mC_n a1 a2 a3 (by omega) (by omega) (by omega)]; exact b7 s j hs hj
  · rw [r1, mC_n a1 a2 a3 (r := 9) (by omega) (by omega) (by omega), show mC μ cm a1 a2 a3 10 = μ 10 from funext fun i => mC_n a1 a2 a3 (by omega) (by omega) (by omega)]; exact b8 s hs
  · rw [r1, r1, mC_n a1 a2 a3 (r := 11) (by omega) (by omega) (by omega), mC_n a1 a2 a3 (r := 12) (by omega) (by omega) (by omega)]; exact b9 s hs
  · rw [r1]; exact b10 s j h1 h2 hj
theorem k_addC (hj : j < 500) (h : St j cm sm td τ μ β o) (hc8 : cm < 8) {k1 k2 : Nat} (h1 : k1 ≤ 16) (h2 : 1 ≤ k2) (h2' : k2 ≤ 12) {a3 : Int32} (h3 : ¬ a3 < 0) (h3' : a3 ≤ 1073741823) : ∃ τ' μ', f_X3_addCourse τ (nI k1) (nI k2) a3 = some (.inl (nI cm), τ') ∧ St (j + 1) (cm + 1) sm td τ' μ' (βC β cm (nI k1) (nI k2) a3) o := by
  obtain ⟨h7, -, hd, R, I, F, S, B⟩ := id h
  have hB := B.1
  have h20 := R.1
  refine ⟨gw_up (gw_up (gw_up (gw_up τ (4 + cm) 3 (nI k1)) (4 + cm) 4 (nI k2)) (4 + cm) 5 a3) 0 2 (nI cm + (1 : Int32)), mC μ cm (nI k1) (nI k2) a3, ?_, ?_⟩
  · unfold f_X3_addCourse f_X3_isOutside
    rw [if_neg (nI_pos (by omega)), if_pos (show nI k1 ≤ (16 : Int32) from nI_le (b := 16) h1 (by decide)), bs, if_pos rfl, if_neg (show ¬ nI k2 < (1 : Int32) from fun q => (fa_of_lt q).2.1 (n_le h2)), if_pos (show nI k2 ≤ (12 : Int32) from nI_le (b := 12) h2' (by decide)), bs, if_pos rfl, if_neg h3, if_pos h3', bs, if_pos rfl, r_cm R, if_pos (show nI cm < (20 : Int32) from nI_lt (b := 20) (by omega) (by decide)), if_pos (ib_ok (by omega)), nI_clamp (by omega), R.2.2.1.1 cm (by omega)]
  · refine St_of (newC (j := j) (td := td) (a1 := nI k1) (a2 := nI k2) (a3 := a3) (by omega) hd R I F S (by omega) (lt_mk (by omega)) (lt_mk (by omega)) ?_ ⟨?_, ?_, ?_⟩ (fun k i a b => ?_) (mC_0 _ _ _) ⟨mC_1 _ _ _, mC_2 _ _ _, mC_3 _ _ _, mC_4 _ _ _, mC_13 _ _ _⟩ (fun i => mC_15 _ _ _ i) (fun r i a b c => mC_n _ _ _ a (by omega) c)) hj (by omega) (by omega) hB.2 (mC_0 _ _ _) ((mC_n _ _ _ (by omega) (by omega) (by omega)).trans (r_sm' R)) ((mC_n _ _ _ (by omega) (by omega) (by omega)).trans hd) (Bk_C I B hc8 _ _ _)
    · rw [gw_up_s, nI_1]
    · rw [gw_up_n (by omega), gw_up_n (by omega), gw_up_n (by omega), gw_up_s]
    · rw [gw_up_n (by omega), gw_up_n (by omega), gw_up_s]
    · rw [gw_up_n (by omega), gw_up_s]
    · rw [gw_up_n (by omega), gw_up_n (by omega), gw_up_n (by omega), gw_up_n (by omega)]
theorem mS_15 (a1 a2 : Int32) {c i : Nat} (hi : i < 16) : mS μ sm a1 a2 15 (16 * c + i) = if i = sm then -1 else μ 15 (16 * c + i) := by
  unfold mS
  rw [if_pos rfl, show (16 * c + i) % 16 = i by omega]
theorem mS_n (a1 a2 : Int32) {r i : Nat} (h : r < 15) (h1 : ¬ (r = 0 ∧ i = 5)) (h2 : ¬ (i = sm ∧ (r = 5 ∨ r = 6 ∨ r = 7 ∨ r = 8 ∨ r = 9 ∨ r = 11 ∨ r = 12))) : mS μ sm a1 a2 r i = μ r i := by
  unfold mS
  rw [if_neg (by omega), gw_up_n (by omega), gw_up_n (by omega), gw_up_n (by omega), gw_up_n (by omega), gw_up_n (by omega), gw_up_n (by omega), gw_up_n (by omega), gw_up_n (by omega)]
theorem mS_0 (a1 a2 : Int32) : mS μ sm a1 a2 0 5 = nI (sm + 1) := by
  unfold mS
  rw [if_neg (by omega), gw_up_n (by omega), gw_up_n (by omega), gw_up_n (by omega), gw_up_n (by omega), gw_up_n (by omega), gw_up_n (by omega), gw_up_n (by omega), gw_up_s]
theorem mS_5 (a1 a2 : Int32) : mS μ sm a1 a2 5 sm = a1 := by
  unfold mS
  rw [if_neg (by omega), gw_up_n (by omega), gw_up_n (by omega), gw_up_n (by omega), gw_up_n (by omega), gw_up_n (by omega), gw_up_n (by omega), gw_up_s]
theorem mS_6 (a1 a2 : Int32) : mS μ sm a1 a2 6 sm = a2 := by
  unfold mS
  rw [if_neg (by omega), gw_up_n (by omega), gw_up_n (by omega), gw_up_n (by omega), gw_up_n (by omega), gw_up_n (by omega), gw_up_s]
theorem mS_7 (a1 a2 : Int32) : mS μ sm a1 a2 7 sm = 0 := by
  unfold mS
  rw [if_neg (by omega), gw_up_n (by omega), gw_up_n (by omega), gw_up_n (by omega), gw_up_n (by omega), gw_up_s]
theorem mS_8 (a1 a2 : Int32) : mS μ sm a1 a2 8 sm = 0 := by
  unfold mS
  rw [if_neg (by omega), gw_up_n (by omega), gw_up_n (by omega), gw_up_n (by omega), gw_up_s]
theorem mS_9 (a1 a2 : Int32) : mS μ sm a1 a2 9 sm = 0 := by
  unfold mS
  rw [if_neg (by omega), gw_up_n (by omega), gw_up_n (by omega), gw_up_s]
theorem mS_11 (a1 a2 : Int32) : mS μ sm a1 a2 11 sm = -1 := by
  unfold mS
  rw [if_neg (by omega), gw_up_n (by omega), gw_up_s]
theorem mS_12 (a1 a2 : Int32) : mS μ sm a1 a2 12 sm = -1 := by
  unfold mS
  rw [if_neg (by omega), gw_up_s]
theorem mS_r (a1 a2 : Int32) {r : Nat} (h : r < 15) (h0 : r ≠ 0) (h2 : ¬ (r = 5 ∨ r = 6 ∨ r = 7 ∨ r = 8 ∨ r = 9 ∨ r = 11 ∨ r = 12)) : mS μ sm a1 a2 r = μ r := funext fun i => mS_n a1 a2 h (by omega) (by omega)
theorem Bk_S (B : Bk cm sm tb μ β o) (hs8 : sm < 8) (a1 a2 : Int32) : Bk cm (sm + 1) tb (mS μ sm a1 a2) (βS β sm a1 a2) o := by
  obtain ⟨b0, b1, b2, b3, b4, b5, b6, b7, b8, b9, b10⟩ := id B
  have r0 : ∀ i, βS β sm a1 a2 0 i = β 0 i := fun i => by
    unfold βS
    rw [gw_up_n (by omega), gw_up_n (by omega), gw_up_n (by omega), gw_up_n (by omega), gw_up_n (by omega)]
  have r1 : ∀ i, i ≠ 8 * sm → i ≠ 8 * sm + 1 → i ≠ 8 * sm + 5 → i ≠ 8 * sm + 6 → βS β sm a1 a2 1 i = β 1 i := fun i x y z w => by
    unfold βS
    rw [gw_up_n (by omega), gw_up_n (by omega), gw_up_n (by omega), gw_up_n (by omega), gw_up_n (by omega)]
  refine ⟨by omega, ⟨?_, gw_up_s _ _ _ _, ?_⟩, fun c j hc hj => ?_, fun c k hc hk => ?_, fun c j k hc hj => ?_, fun c hc => ?_, fun c h1 h2 => ?_, fun s j hs hj => ?_, fun s hs => ?_, fun s hs => ?_, fun s j h1 h2 hj => ?_⟩
  · unfold βS
    rw [gw_up_n (by omega), gw_up_n (by omega), gw_up_n (by omega), gw_up_n (by omega), gw_up_n (by omega)]; exact b1.1
  · unfold βS
    rw [gw_up_n (by omega), gw_up_n (by omega), gw_up_n (by omega), gw_up_n (by omega), gw_up_n (by omega)]; exact b1.2.2
  · rw [r0, mS_r a1 a2 (by omega) (by omega) (by omega)]; exact b2 c j hc hj
  · rw [r0, mS_r a1 a2 (by omega) (by omega) (by omega)]; exact b3 c k hc hk
  · rw [r0, b4 c j k hc hj]
    constructor
    · rintro ⟨x, y, z⟩
      rw [mS_15 a1 a2 (by omega), if_neg (by omega)]; exact ⟨by omega, y, z⟩
    · rintro ⟨x, y, z⟩
      rw [mS_15 a1 a2 (by omega)] at y z
      by_cases e : k = sm
      · rw [if_pos e] at y; exact absurd rfl y
      · rw [if_neg e] at y z; exact ⟨by omega, y, z⟩
  · rw [mS_r a1 a2 (by omega) (by omega) (by omega), mS_r a1 a2 (by omega) (by omega) (by omega)]; exact b5 c hc
  · refine ⟨fun j hj => ?_, (b6 c h1 h2).2⟩
    rw [r0]; exact (b6 c h1 h2).1 j hj
  · by_cases e : s = sm
    · subst e
      rcases (show j = 0 ∨ j = 1 ∨ j = 2 ∨ j = 3 by omega) with rfl | rfl | rfl | rfl
      · rw [mS_5]; unfold βS; rw [gw_up_n (by omega), gw_up_n (by omega), gw_up_n (by omega), gw_up_n (by omega)]; exact gw_up_s _ _ _ _
      · rw [mS_6]; unfold βS; rw [gw_up_n (by omega), gw_up_n (by omega), gw_up_n (by omega), gw_up_s]
      · rw [mS_7, r1 _ (by omega) (by omega) (by omega) (by omega)]; exact e_sz B (Nat.le_refl _) hs8 (by omega)
      · rw [mS_8, r1 _ (by omega) (by omega) (by omega) (by omega)]; exact e_sz B (Nat.le_refl _) hs8 (by omega)
    · rw [r1 _ (by omega) (by omega) (by omega) (by omega), mS_n a1 a2 (by omega) (by omega) (by omega)]; exact b7 s j (by omega) hj
  · rw [r1 _ (by omega) (by omega) (by omega) (by omega), mS_r a1 a2 (r := 10) (by omega) (by omega) (by omega)]
    by_cases e : s = sm
    · subst e
      rw [mS_9]; exact e_sz B (Nat.le_refl _) hs8 (by omega)
    · rw [mS_n a1 a2 (by omega) (by omega) (by omega)]; exact b8 s (by omega)
  · by_cases e : s = sm
    · subst e
      rw [mS_11, mS_12]
      unfold βS
      refine ⟨?_, ?_⟩
      · rw [gw_up_n (by omega), gw_up_n (by omega), gw_up_s]
      · rw [gw_up_n (by omega), gw_up_s]
    · rw [r1 _ (by omega) (by omega) (by omega) (by omega), r1 _ (by omega) (by omega) (by omega) (by omega), mS_n a1 a2 (r := 11) (by omega) (by omega) (by omega), mS_n a1 a2 (r := 12) (by omega) (by omega) (by omega)]; exact b9 s (by omega)
  · rw [r1 _ (by omega) (by omega) (by omega) (by omega)]; exact b10 s j (by omega) h2 hj
theorem k_addS (hj : j < 500) (h : St j cm sm td τ μ β o) (hs8 : sm < 8) {k1 k2 : Nat} (h1 : k1 ≤ 3) (h2 : 1 ≤ k2) (h2' : k2 ≤ 40) : ∃ τ' μ', f_X3_addStudent τ (nI k1) (nI k2) = some (.inl (nI sm), τ') ∧ St (j + 1) cm (sm + 1) td τ' μ' (βS β sm (nI k1) (nI k2)) o := by
  obtain ⟨h7, -, hd, R, I, F, S, B⟩ := id h
  have hB := B.1
  have h20 := R.1
  refine ⟨gw_up (gw_up (gw_up τ (24 + sm) 2 (nI k1)) (24 + sm) 3 (nI k2)) 0 3 (nI sm + (1 : Int32)), mS μ sm (nI k1) (nI k2), ?_, ?_⟩
  · unfold f_X3_addStudent f_X3_isOutside
    rw [if_neg (nI_pos (by omega)), if_pos (show nI k1 ≤ (3 : Int32) from nI_le (b := 3) h1 (by decide)), bs, if_pos rfl, if_neg (show ¬ nI k2 < (1 : Int32) from fun q => (fa_of_lt q).2.1 (n_le h2)), if_pos (show nI k2 ≤ (40 : Int32) from nI_le (b := 40) h2' (by decide)), bs, if_pos rfl, r_sm R, if_pos (show nI sm < (16 : Int32) from nI_lt (b := 16) (by omega) (by decide)), if_pos (ib_ok (by omega)), nI_clamp (by omega), R.2.2.1.2 sm (by omega)]
  · refine St_of (newS (j := j) (td := td) (a1 := nI k1) (a2 := nI k2) (by omega) hd R I F S (by omega) (lt_mk (by omega)) (lt_mk (by omega)) ?_ ⟨?_, ?_⟩ (fun k i a b => ?_) (mS_0 _ _) ⟨mS_5 _ _, mS_6 _ _, mS_7 _ _, mS_8 _ _, mS_9 _ _, mS_11 _ _, mS_12 _ _⟩ (fun c i _ hi => mS_15 _ _ hi) (fun r i a b c => mS_n _ _ a (by omega) c)) hj (by omega) hB.1 (by omega) ((mS_n _ _ (by omega) (by omega) (by omega)).trans (r_cm' R)) (mS_0 _ _) ((mS_n _ _ (by omega) (by omega) (by omega)).trans hd) (Bk_S B hs8 _ _)
    · rw [gw_up_s, nI_1]
    · rw [gw_up_n (by omega), gw_up_n (by omega), gw_up_s]
    · rw [gw_up_n (by omega), gw_up_s]
    · rw [gw_up_n (by omega), gw_up_n (by omega), gw_up_n (by omega)]
theorem hrs_ok : ∀ p, p < 30 → ∀ q, q < 30 → ¬ ((1 : Int32) <<< (nI p &&& 31)) ||| ((1 : Int32) <<< (nI q &&& 31)) < 0 ∧ ((1 : Int32) <<< (nI p &&& 31)) ||| ((1 : Int32) <<< (nI q &&& 31)) ≤ 1073741823 := by decide +kernel
theorem k_add0 (hj : j < 500) (h : St j cm sm td τ μ β o) (hs8 : sm < 8) {x : Nat} (hx : x < 2 ^ 31) : ∃ τ' μ' β', f_L_adds τ β o (nI x) 0 = some (1, τ', β', o) ∧ St (j + 1) cm (sm + 1) td τ' μ' β' o := by
  obtain ⟨h7, -, hd, R, I, F, S, B⟩ := id h
  have hB := B.1
  have e1 : nI x - nI x / (4 : Int32) * (4 : Int32) = nI (x % 4) := pk_rem (d := 4) (by omega) (by decide) (by decide)
  have e2 : nI x / (4 : Int32) = nI (x / 4) := pk_div (d := 4) (by omega) (by decide) (by decide)
  have e3 : nI (x / 4) - nI (x / 4) / (20 : Int32) * (20 : Int32) = nI (x / 4 % 20) := pk_rem (d := 20) (by omega) (by decide) (by decide)
  have e4 : (6 : Int32) + nI (x / 4 % 20) = nI (6 + x / 4 % 20) := nI_add 6 _
  have m1 : x % 4 < 4 := Nat.mod_lt _ (by decide)
  have m2 : x / 4 % 20 < 20 := Nat.mod_lt _ (by decide)
  obtain ⟨τ', μ', a, S'⟩ := k_addS hj h hs8 (k1 := x % 4) (k2 := 6 + x / 4 % 20) (by omega) (by omega) (by omega)
  refine ⟨τ', μ', βS β sm (nI (x % 4)) (nI (6 + x / 4 % 20)), ?_, S'⟩
  have c2 : (gw_up (gw_up (gw_up (gw_up β 1 (8 * sm) (nI (x % 4))) 1 (8 * sm + 1) (nI (6 + x / 4 % 20))) 1 (8 * sm + 5) (-1 : Int32)) 1 (8 * sm + 6) (-1 : Int32)) 2 1 = nI sm := by
    rw [gw_up_n (by omega), gw_up_n (by omega), gw_up_n (by omega), gw_up_n (by omega)]; exact e_n1 B
  have c0 : βS β sm (nI (x % 4)) (nI (6 + x / 4 % 20)) 1 (8 * sm) = nI (x % 4) := by
    unfold βS
    rw [gw_up_n (by omega), gw_up_n (by omega), gw_up_n (by omega), gw_up_n (by omega), gw_up_s]
  have c1 : βS β sm (nI (x % 4)) (nI (6 + x / 4 % 20)) 1 (8 * sm + 1) = nI (6 + x / 4 % 20) := by
    unfold βS
    rw [gw_up_n (by omega), gw_up_n (by omega), gw_up_n (by omega), gw_up_s]
  have c3 : gw_up (gw_up (gw_up (gw_up (gw_up β 1 (8 * sm) (nI (x % 4))) 1 (8 * sm + 1) (nI (6 + x / 4 % 20))) 1 (8 * sm + 5) (-1 : Int32)) 1 (8 * sm + 6) (-1 : Int32)) 2 1 (nI (sm + 1)) = βS β sm (nI (x % 4)) (nI (6 + x / 4 % 20)) := rfl
  unfold f_L_adds
  rw [if_pos rfl, rd21, cl1, e_n1 B, x8, x8_1, x8_5, x8_6, rd1 (n := 8 * sm) (by omega), rd1 (n := 8 * sm + 1) (by omega), rd1 (n := 8 * sm + 5) (by omega), rd1 (n := 8 * sm + 6) (by omega), cln (n := 8 * sm) (by omega), cln (n := 8 * sm + 1) (by omega), cln (n := 8 * sm + 5) (by omega), cln (n := 8 * sm + 6) (by omega), e1, e2, e3, e4, c2, nI_1, c3, c0, c1, rd21, rd21, rd1 (n := 8 * sm) (by omega), rd1 (n := 8 * sm + 1) (by omega), a, bs, gx_l, if_pos rfl]
theorem k_add1 (hj : j < 500) (h : St j cm sm td τ μ β o) (hc8 : cm < 8) {x : Nat} (hx : x < 2 ^ 31) : ∃ τ' μ' β', f_L_adds τ β o (nI x) 1 = some (1, τ', β', o) ∧ St (j + 1) (cm + 1) sm td τ' μ' β' o := by
  obtain ⟨h7, -, hd, R, I, F, S, B⟩ := id h
  have hB := B.1
  have e1 : nI x - nI x / (4 : Int32) * (4 : Int32) = nI (x % 4) := pk_rem (d := 4) (by omega) (by decide) (by decide)
  have e2 : nI x / (4 : Int32) = nI (x / 4) := pk_div (d := 4) (by omega) (by decide) (by decide)
  have e3 : nI (x / 4) - nI (x / 4) / (6 : Int32) * (6 : Int32) = nI (x / 4 % 6) := pk_rem (d := 6) (by omega) (by decide) (by decide)
  have e4 : (1 : Int32) + nI (x / 4 % 6) = nI (1 + x / 4 % 6) := nI_add 1 _
  have e5 : nI x / (72 : Int32) = nI (x / 72) := pk_div (d := 72) (by omega) (by decide) (by decide)
  have e6 : nI (x / 72) - nI (x / 72) / (5 : Int32) * (5 : Int32) = nI (x / 72 % 5) := pk_rem (d := 5) (by omega) (by decide) (by decide)
  have e7 : nI x / (360 : Int32) = nI (x / 360) := pk_div (d := 360) (by omega) (by decide) (by decide)
  have e8 : nI (x / 360) - nI (x / 360) / (30 : Int32) * (30 : Int32) = nI (x / 360 % 30) := pk_rem (d := 30) (by omega) (by decide) (by decide)
  have m1 : x % 4 < 4 := Nat.mod_lt _ (by decide)
  have m2 : x / 4 % 6 < 6 := Nat.mod_lt _ (by decide)
  have m3 : x / 72 % 5 < 5 := Nat.mod_lt _ (by decide)
  have m4 : x / 360 % 30 < 30 := Nat.mod_lt _ (by decide)
  have key : ∀ H : Int32, ¬ H < 0 → H ≤ 1073741823 → ∃ τ' μ', f_X3_addCourse τ (nI (x % 4)) (nI (1 + x / 4 % 6)) H = some (.inl (nI cm), τ') ∧ St (j + 1) (cm + 1) sm td τ' μ' (βC β cm (nI (x % 4)) (nI (1 + x / 4 % 6)) H) o ∧ (gw_up (gw_up (gw_up β 0 (8 * cm) (nI (x % 4))) 0 (8 * cm + 1) (nI (1 + x / 4 % 6))) 0 (8 * cm + 2) H) 2 0 = nI cm ∧ βC β cm (nI (x % 4)) (nI (1 + x / 4 % 6)) H 0 (8 * cm) = nI (x % 4) ∧ βC β cm (nI (x % 4)) (nI (1 + x / 4 % 6)) H 0 (8 * cm + 1) = nI (1 + x / 4 % 6) ∧ βC β cm (nI (x % 4)) (nI (1 + x / 4 % 6)) H 0 (8 * cm + 2) = H ∧ gw_up (gw_up (gw_up (gw_up β 0 (8 * cm) (nI (x % 4))) 0 (8 * cm + 1) (nI (1 + x / 4 % 6))) 0 (8 * cm + 2) H) 2 0 (nI (cm + 1)) = βC β cm (nI (x % 4)) (nI (1 + x / 4 % 6)) H := fun H hn hp => by
    obtain ⟨τ', μ', a, S'⟩ := k_addC hj h hc8 (k1 := x % 4) (k2 := 1 + x / 4 % 6) (by omega) (by omega) (by omega) hn hp
    refine ⟨τ', μ', a, S', ?_, ?_, ?_, ?_, rfl⟩
    · rw [gw_up_n (by omega), gw_up_n (by omega), gw_up_n (by omega)]; exact e_n0 B
    · unfold βC
      rw [gw_up_n (by omega), gw_up_n (by omega), gw_up_n (by omega), gw_up_s]
    · unfold βC
      rw [gw_up_n (by omega), gw_up_n (by omega), gw_up_s]
    · unfold βC
      rw [gw_up_n (by omega), gw_up_s]
  have main : ∃ H : Int32, (¬ H < 0 ∧ H ≤ 1073741823) ∧ ∀ τ', f_X3_addCourse τ (nI (x % 4)) (nI (1 + x / 4 % 6)) H = some (.inl (nI cm), τ') → ((gw_up (gw_up (gw_up β 0 (8 * cm) (nI (x % 4))) 0 (8 * cm + 1) (nI (1 + x / 4 % 6))) 0 (8 * cm + 2) H) 2 0 = nI cm) → βC β cm (nI (x % 4)) (nI (1 + x / 4 % 6)) H 0 (8 * cm) = nI (x % 4) → βC β cm (nI (x % 4)) (nI (1 + x / 4 % 6)) H 0 (8 * cm + 1) = nI (1 + x / 4 % 6) → βC β cm (nI (x % 4)) (nI (1 + x / 4 % 6)) H 0 (8 * cm + 2) = H → gw_up (gw_up (gw_up (gw_up β 0 (8 * cm) (nI (x % 4))) 0 (8 * cm + 1) (nI (1 + x / 4 % 6))) 0 (8 * cm + 2) H) 2 0 (nI (cm + 1)) = βC β cm (nI (x % 4)) (nI (1 + x / 4 % 6)) H → f_L_adds τ β o (nI x) 1 = some (1, τ', βC β cm (nI (x % 4)) (nI (1 + x / 4 % 6)) H, o) := by
    unfold f_L_adds
    rw [if_neg n10, rd20, cl0, e_n0 B, x8, x8_1, x8_2, rd0 (n := 8 * cm) (by omega), rd0 (n := 8 * cm + 1) (by omega), cln (n := 8 * cm) (by omega), cln (n := 8 * cm + 1) (by omega), cln (n := 8 * cm + 2) (by omega), e1, e2, e3, e4, e5, e6, e7, e8]
    by_cases hz : (nI x / (24 : Int32)) - (nI x / (24 : Int32)) / (3 : Int32) * (3 : Int32) = 0
    · refine ⟨0, by decide, fun τ' a c2 c0 c1 c4 c3 => ?_⟩
      rw [if_pos hz, rd0 (n := 8 * cm + 2) (by omega), rd20, rd20, rd0 (n := 8 * cm) (by omega), rd0 (n := 8 * cm + 1) (by omega), rd0 (n := 8 * cm + 2) (by omega), c2, nI_1, c3, c0, c1, c4, a, bs, gx_l, if_pos rfl]
    · refine ⟨_, hrs_ok _ (Nat.lt_trans m3 (by decide)) _ m4, fun τ' a c2 c0 c1 c4 c3 => ?_⟩
      rw [if_neg hz, rd0 (n := 8 * cm + 2) (by omega), rd20, rd20, rd0 (n := 8 * cm) (by omega), rd0 (n := 8 * cm + 1) (by omega), rd0 (n := 8 * cm + 2) (by omega), c2, nI_1, c3, c0, c1, c4, a, bs, gx_l, if_pos rfl]
  obtain ⟨H, ⟨hn, hp⟩, hm⟩ := main
  obtain ⟨τ', μ', a, S', c2, c0, c1, c4, c3⟩ := key H hn hp
  exact ⟨τ', μ', _, hm τ' a c2 c0 c1 c4 c3, S'⟩
end bp
