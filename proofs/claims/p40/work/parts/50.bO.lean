/-! WHAT IS SHOWN: the students, and one of each -/
def dy (p : Nat → Bool) : Nat → Int32
  | 0 => 0
  | k + 1 => if p k = true then 3 - nI k else dy p k
section bo
variable {j cm sm td tb : Nat} {τ μ β : gw_S} {o : Nat → Int64}
theorem k_among (h20 : sm ≤ 16) (I : Iv cm sm td μ) (B : Bk cm sm tb μ β o) (v4 : Int32) : ∃ w, gw_it (b_L_areStudents_1 τ β o v4) 4096 ((0 : Int32), (0 : Int32)) = some (pset μ sm, w) := by
  have hB := B.1
  obtain ⟨⟨x, w⟩, G, g⟩ := gw_for (b := b_L_areStudents_1 τ β o v4) (s := ((0 : Int32), (0 : Int32))) (fun k q => q.2 = nI k ∧ ∀ i, bt q.1 i = true ↔ (i < k ∧ μ 11 i ≠ -1)) (fun q => q.1 = pset μ sm) sm (by omega) ⟨rfl, fun i => ⟨fun h => absurd h (by rw [b_0]; decide), fun h => absurd h.1 (Nat.not_lt_zero i)⟩⟩ (fun k q hk hI => by
    obtain ⟨x, v⟩ := q
    obtain ⟨e, h1⟩ := hI
    have e : v = nI k := e
    subst e
    have h1 : ∀ i, bt x i = true ↔ (i < k ∧ μ 11 i ≠ -1) := h1
    have hst : b_L_areStudents_1 τ β o v4 (x, nI k) = if μ 11 k = -1 then some (.inl (x ||| (0 : Int32), nI (k + 1))) else some (.inl (x ||| ((1 : Int32) <<< (nI k &&& 31)), nI (k + 1))) := by
      rw [b_L_areStudents_1, rd21, cl1, e_n1 B, if_neg (n_lt hk), x8, x8_5, rd1 (by omega), cln (by omega), e_s5 B hk, nI_1]
      by_cases hu : μ 11 k = -1
      · rw [if_pos (show μ 11 k < 0 by rw [hu]; decide), if_pos hu]
      · obtain ⟨u, u1, u2, -⟩ := ups I hk hu
        rw [if_neg (show ¬ μ 11 k < 0 by rw [u2]; exact nI_pos (by omega)), if_neg hu]
    rw [hst]
    by_cases hu : μ 11 k = -1
    · rw [if_pos hu, Int32.or_zero]
      refine ⟨_, rfl, rfl, fun i => (h1 i).trans ?_⟩
      constructor
      · rintro ⟨a, b⟩; exact ⟨by omega, b⟩
      · rintro ⟨a, b⟩
        refine ⟨?_, b⟩
        by_cases e : i = k
        · subst e; exact absurd hu b
        · omega
    · rw [if_neg hu]
      refine ⟨_, rfl, rfl, fun i => ?_⟩
      show bt (x ||| ((1 : Int32) <<< (nI k &&& 31))) i = true ↔ _
      rcases Nat.lt_or_ge i 32 with h | h
      · rw [bt_or_bit (by omega) h, Bool.or_eq_true, h1, decide_eq_true_eq]
        constructor
        · rintro (⟨a, b⟩ | rfl)
          · exact ⟨by omega, b⟩
          · exact ⟨by omega, hu⟩
        · rintro ⟨a, b⟩
          by_cases e : i = k
          · exact Or.inr e
          · exact Or.inl ⟨by omega, b⟩
      · rw [b_big h]
        exact ⟨fun q => (by cases q), fun q => by omega⟩) (fun q hI => by
    obtain ⟨x, v⟩ := q
    obtain ⟨e, h1⟩ := hI
    have e : v = nI sm := e
    subst e
    have h1 : ∀ i, bt x i = true ↔ (i < sm ∧ μ 11 i ≠ -1) := h1
    refine ⟨(x, nI sm), ?_, b_ext (fun i hi => ?_)⟩
    · rw [b_L_areStudents_1, rd21, cl1, e_n1 B, if_pos (n_le (Nat.le_refl _))]
    · rw [Bool.eq_iff_iff, pset_bt μ sm h20 i]
      exact h1 i)
  have g : x = pset μ sm := g
  subst g
  exact ⟨w, G⟩
theorem k_wlen (B : Bk cm sm tb μ β o) (I : Iv cm sm td μ) {s : Nat} (h : s < sm) : f_L_length ((β 1 (8 * s + 4)).toInt64) = some (μ 9 s) := by
  have hd := B.1
  have h9 := (I.2.2.1 s h).2.2.1
  have hb := pl_b6 (w_lt B I h) (by have := h9.2; omega)
  rw [e_s4 B h, nI_l (by omega), k_len (w_lt B I h) (by have := h9.2; omega)]
  exact congrArg some h9.1.symm
theorem k_wlist (R : Rl cm sm τ μ) (I : Iv cm sm td μ) (B : Bk cm sm tb μ β o) {s : Nat} (hs : s < sm) (v5 : Int32) : ∃ w, gw_it (b_L_areStudents_3 τ β o v5 (nI s) (β 1 (8 * s + 4))) 4096 ((1 : Int32), (0 : Int32)) = some ((1 : Int32), w) := by
  have hB := B.1
  have h20 := R.1
  obtain ⟨n, hn, en, en2⟩ := lt_of (I.2.2.1 s hs).2.2.1
  have hgl : gw_len (60 + s + 36) = 6 := by unfold gw_len; rw [if_pos (by omega)]
  have h15 := w_lt B I hs
  have hlen := k_wlen B I hs
  refine ⟨nI n, ?_⟩
  refine gw_fun (fun k => ((1 : Int32), nI k)) _ n (by omega) (fun k hk => ?_) ?_
  · obtain ⟨c, hc, ec, ec2⟩ := lt_of (I.2.2.2.1 s k hs (by rw [en2]; exact hk)).1
    have hat : ((β 1 (8 * s + 4) >>> (((4 : Int32) * nI k) &&& 31)) &&& (15 : Int32)) - (1 : Int32) = nI c := by
      rw [e_s4 B hs, k_atI h15 (by omega) (by rw [en2]; exact hk), ec2]
    show b_L_areStudents_3 τ β o v5 (nI s) (β 1 (8 * s + 4)) ((1 : Int32), nI k) = _
    rw [b_L_areStudents_3, hlen, bs, en, if_neg (n_lt hk (by omega)), if_neg n10, f_X3_wishAt, s_at R hs, bs, gx_l, f_X3_foundAt, show 24 + s + 36 = 60 + s from by omega, c_at1 ((r_wic R hs).trans en) (by rw [hgl]; omega) hk, bs, show 60 + s + 36 = 96 + s from by omega, r_wis R (by omega) (by omega), ec, if_neg (ne_m1 (by omega)), bs, gx_l, bs, gx_l, hat, if_pos rfl, nI_1]
  · show b_L_areStudents_3 τ β o v5 (nI s) (β 1 (8 * s + 4)) ((1 : Int32), nI n) = _
    rw [b_L_areStudents_3, hlen, bs, en, if_pos (n_le (Nat.le_refl _) (by omega))]
theorem k_students (h : St j cm sm td τ μ β o) : f_L_areStudents τ β o = some 1 := by
  obtain ⟨-, -, hd, R, I, F, S, B⟩ := h
  have hB := B.1
  have h20 := R.1
  have hps := fun i => pset_bt μ sm h20.2 i
  obtain ⟨w0, G0⟩ := k_among (τ := τ) h20.2 I B 1
  have G : gw_it (b_L_areStudents_2 τ β o (pset μ sm)) 4096 ((1 : Int32), nI 0) = some ((1 : Int32), nI sm) := by
    refine gw_fun (fun k => ((1 : Int32), nI k)) _ sm (by omega) (fun s hs => ?_) ?_
    · obtain ⟨w, hw⟩ := k_wlist R I B hs (pset μ sm)
      have hA : b_L_areStudents_2 τ β o (pset μ sm) ((1 : Int32), nI s) = (f_L_has (pset μ sm) (nI s)).bind fun r26 => if r26 = 0 then some (.inl ((1 : Int32), nI (s + 1))) else (f_X3_pointsTo τ (nI s)).bind fun r28 => gw_xb r28 (fun y29 => (f_L_points β o (nI s) (pset μ sm)).bind fun r30 => if y29 = r30 then some (.inl ((1 : Int32), nI (s + 1))) else (gw_it (b_L_areStudents_3 τ β o (pset μ sm) (nI s) (β 1 (8 * s + 4))) 4096 ((0 : Int32), (0 : Int32))).bind fun t31 => some (.inl (t31.1, nI (s + 1)))) (fun _ => none) := by
        rw [b_L_areStudents_2]
        rw [rd21, cl1, e_n1 B, if_neg (n_lt hs), if_neg n10, x8 s, x8_4 s, rd1 (n := 8 * s + 4) (by omega), cln (n := 8 * s + 4) (by omega), f_X3_credits, s_at R hs, bs, gx_l, r_tak R hs, c_cre R, bs, bs, gx_l, x8_3 s, rd1 (n := 8 * s + 3) (by omega), cln (n := 8 * s + 3) (by omega), e_s3 B hs, k_worth B _ (I.2.2.1 s hs).2.2.2.2, bs, if_pos rfl, f_X3_wishes, s_at R hs, bs, gx_l, c_size, bs, bs, gx_l, k_wlen B I hs, bs, show 24 + s + 36 = 60 + s from by omega, r_wic R hs, if_pos rfl, f_X3_placeUp, s_at R hs, bs, gx_l, bs, gx_l, r_upp R hs, x8_5 s, rd1 (n := 8 * s + 5) (by omega), cln (n := 8 * s + 5) (by omega), e_s5 B hs, if_pos rfl, f_X3_lotteryNumber, s_at R hs, bs, gx_l, bs, gx_l, r_lot R hs, x8_6 s, rd1 (n := 8 * s + 6) (by omega), cln (n := 8 * s + 6) (by omega), e_s6 B hs, if_pos rfl, hw, bs, nI_1]
      show b_L_areStudents_2 τ β o (pset μ sm) ((1 : Int32), nI s) = _
      rw [hA, k_has (by omega), bd]
      by_cases hb : bt (pset μ sm) s = true
      · have hu := ((hps s).mp hb).2
        rw [if_pos hb, f_X3_pointsTo, s_at R hs, bs, gx_l, r_upp R hs, if_neg hu, c_par R, bs, c_tgt R I hs, bs, bs, gx_l, k_pts R I B hs hu (fun i hi => ((hps i).mp hi).1), bs, if_pos rfl]
      · rw [if_neg hb]
    · show b_L_areStudents_2 τ β o (pset μ sm) ((1 : Int32), nI sm) = _
      rw [b_L_areStudents_2, rd21, cl1, e_n1 B, if_pos (n_le (Nat.le_refl _))]
  unfold f_L_areStudents
  refine it_bd G0 ?_
  refine it_bd (show gw_it (b_L_areStudents_2 τ β o (pset μ sm)) 4096 ((1 : Int32), (0 : Int32)) = some ((1 : Int32), nI sm) from G) ?_
  rfl
theorem k_days (hd : μ 0 17 = nI td) (R : Rl cm sm τ μ) (I : Iv cm sm td μ) (B : Bk cm sm td μ β o) {s c : Nat} (hs : s < sm) (hc : c < cm) (v5 : Int32) : ∃ w, gw_it (b_L_areOf_2 τ β o (nI s) v5 (nI c)) 4096 ((0 : Int32), (0 : Int32)) = some ((if decide (¬ μ 15 (16 * c + s) = -1) = true then μ 15 (16 * c + s) + 3 - nI td else 0), w) := by
  have hB := B.1
  have h20 := R.1
  have htd := I.1.1
  have G : gw_it (b_L_areOf_2 τ β o (nI s) v5 (nI c)) 4096 (dy (fun k => bt (β 0 (8 * c + 5 + (td + 3 - k) % 3)) s) 0, nI 0) = some (dy (fun k => bt (β 0 (8 * c + 5 + (td + 3 - k) % 3)) s) 3, nI 3) := by
    refine gw_fun (fun k => (dy (fun k => bt (β 0 (8 * c + 5 + (td + 3 - k) % 3)) s) k, nI k)) _ 3 (by omega) (fun k hk => ?_) ?_
    · have e1 : nI td + (3 : Int32) - nI k = nI (td + 3 - k) := by
        rw [show nI td + (3 : Int32) = nI ((td + 3 - k) + k) from by rw [show td + 3 - k + k = td + 3 by omega]; exact nI_add td 3, ← nI_add, Int32.add_sub_cancel]
      have e3 : nI (td + 3 - k) - nI (td + 3 - k) / (3 : Int32) * (3 : Int32) = nI ((td + 3 - k) % 3) := pk_rem (d := 3) (by omega) (by decide) (by decide)
      have hm : (td + 3 - k) % 3 < 3 := Nat.mod_lt _ (by decide)
      have h3 : ¬ (3 : Int32) ≤ nI k := n_lt (n := 3) hk
      show b_L_areOf_2 τ β o (nI s) v5 (nI c) (dy _ k, nI k) = some (.inl (dy _ (k + 1), nI (k + 1)))
      rw [b_L_areOf_2, if_neg h3]
      simp (disch := omega) only [rd22, cl2, e_n2 B, e1, e3, x8, x8_5, nI_add, rd0, cln, k_has, bd, nI_1]
      rw [dy]
      split <;> rfl
    · have hen : ∀ v w : Int32, (3 : Int32) ≤ w → b_L_areOf_2 τ β o (nI s) v5 (nI c) (v, w) = some (.inr (v, w)) := fun v w hw => by rw [b_L_areOf_2, if_pos hw]
      exact hen _ (nI 3) (by decide)
  refine ⟨nI 3, ?_⟩
  have e : dy (fun k => bt (β 0 (8 * c + 5 + (td + 3 - k) % 3)) s) 3 = if decide (¬ μ 15 (16 * c + s) = -1) = true then μ 15 (16 * c + s) + 3 - nI td else 0 := by
    have hp : ∀ k, k < 3 → (bt (β 0 (8 * c + 5 + (td + 3 - k) % 3)) s = true ↔ (s < sm ∧ ¬ μ 15 (16 * c + s) = -1 ∧ nn (μ 15 (16 * c + s)) % 3 = (td + 3 - k) % 3)) := fun k hk => e_of B hc (Nat.mod_lt _ (by decide))
    rcases I.2.2.2.2.2.2.2.1 c s hc hs with ho | ⟨ho, ho2, -⟩
    · have hf : ∀ k, k < 3 → ¬ bt (β 0 (8 * c + 5 + (td + 3 - k) % 3)) s = true := fun k hk h => ((hp k hk).mp h).2.1 ho
      rw [if_neg (by simp [ho]), dy, if_neg (hf 2 (by omega)), dy, if_neg (hf 1 (by omega)), dy, if_neg (hf 0 (by omega)), dy]
    · obtain ⟨d, hd1, ed, ed2⟩ := lt_of ho
      have hne : ¬ μ 15 (16 * c + s) = -1 := by rw [ed]; exact ne_m1 (by omega)
      rw [if_pos (decide_eq_true hne)]
      rw [ed2] at ho2 hp
      have hq : ∀ k, k < 3 → (bt (β 0 (8 * c + 5 + (td + 3 - k) % 3)) s = true ↔ k = td - d) := fun k hk => by
        rw [hp k hk]
        constructor
        · rintro ⟨-, -, h⟩; omega
        · intro h; exact ⟨hs, hne, by omega⟩
      have hr : μ 15 (16 * c + s) + 3 - nI td = 3 - nI (td - d) := by
        rw [ed, ← days_eq, show nI td = nI ((td - d) + d) by rw [show td - d + d = td by omega], ← nI_add, Int32.add_sub_cancel]
      rw [hr, dy]
      by_cases h2 : 2 = td - d
      · rw [if_pos ((hq 2 (by omega)).mpr h2), h2]
      · rw [if_neg (fun h => h2 ((hq 2 (by omega)).mp h)), dy]
        by_cases h1 : 1 = td - d
        · rw [if_pos ((hq 1 (by omega)).mpr h1), h1]
        · rw [if_neg (fun h => h1 ((hq 1 (by omega)).mp h)), dy]
          have h0 : 0 = td - d := by omega
          rw [if_pos ((hq 0 (by omega)).mpr h0), h0]
  rw [← e]
  exact G
theorem k_of (h : St j cm sm td τ μ β o) {s b : Nat} (hs : s < sm) (hb : b < cm) : f_L_areOf τ β o (nI s) (nI b) = some 1 := by
  obtain ⟨-, -, hd, R, I, F, S, B⟩ := h
  have hB := B.1
  have h20 := R.1
  have G : gw_it (b_L_areOf_1 τ β o (nI s) (nI b)) 4096 ((1 : Int32), nI 0) = some ((1 : Int32), nI cm) := by
    refine gw_fun (fun k => ((1 : Int32), nI k)) _ cm (by omega) (fun c hc => ?_) ?_
    · obtain ⟨w, hw⟩ := k_days hd R I B hs hc (nI b)
      have hm : ∀ k, bt (τ (4 + c) 7 &&& (μ 7 s ^^^ (-1 : Int32))) k = true → k < cm := fun k hk => by
        rw [b_and, Bool.and_eq_true] at hk
        exact clo_bits R I hc hk.1
      show b_L_areOf_1 τ β o (nI s) (nI b) ((1 : Int32), nI c) = _
      rw [b_L_areOf_1]
      simp (disch := omega) only [rd20, cl0, x8, x8_2, x8_3, x8_4, rd0, rd1, cln]
      rw [e_n0 B, if_neg (n_lt hc), if_neg n10, hw, bs, f_X3_isEnrolled, s_at R hs, bs, gx_l, c_at R hc, bs, gx_l, r_tak R hs, r_ci R hc, c_isIn (by omega), bs, bs, gx_l, e_s3 B hs, k_has (by omega), bs, if_pos rfl, f_X3_hasPassed, s_at R hs, bs, gx_l, c_at R hc, bs, gx_l, r_pas R hs, r_ci R hc, c_isIn (by omega), bs, bs, gx_l, e_s2 B hs, k_has (by omega), bs, if_pos rfl, f_X3_missing, s_at R hs, bs, gx_l, c_at R hc, bs, gx_l, r_pas R hs, c_bits τ (fun k hk => by have := hm k hk; omega), bs, bs, gx_l, e_cl R B hc, k_many20 hB.1 hm, bs, if_pos rfl, f_X3_obstacle, s_at R hs, bs, gx_l, c_at R hc, bs, gx_l, r_tak R hs]
      obtain ⟨v, o1, o2, -, -⟩ := k_ob R I B hs hc (μ 8 s) (I.2.2.1 s hs).2.2.2.2
      rw [o2, bs, bs, gx_l, o1, bs, if_pos rfl, f_X3_offerDays, s_at R hs, bs, gx_l, c_at R hc, bs, gx_l, r_si R hs, c_hasOff R hc hs, bd]
      have hD : f_X3_daysLeft τ (4 + c) (nI s) = some (μ 15 (16 * c + s) + 3 - nI td) := by
        unfold f_X3_daysLeft
        rw [show 4 + c + 108 = 112 + c from by omega, show gw_len (112 + c) = 16 from by unfold gw_len; rw [if_neg (by omega)], if_pos (ib_ok (by omega)), nI_clamp (by omega), r_off R hc hs, r_day R, hd, days_eq]
      rw [hD, bs]
      have hT : f_X3_requires τ (nI b) (nI c) = some (.inl (if bt (τ (4 + b) 7) c = true then 1 else 0)) := by
        rw [f_X3_requires, c_at R hb, bs, gx_l, c_at R hc, bs, gx_l, r_ci R hc, c_isIn (by omega), bs]
      by_cases ho : decide (¬ μ 15 (16 * c + s) = -1) = true
      · rw [if_pos ho, if_pos ho, bs, gx_l, if_pos rfl, hT, bs, gx_l, e_cl R B hb, k_has (by omega), bs, if_pos rfl, nI_1]
      · rw [if_neg ho, if_neg ho, bs, gx_l, if_pos rfl, hT, bs, gx_l, e_cl R B hb, k_has (by omega), bs, if_pos rfl, nI_1]
    · show b_L_areOf_1 τ β o (nI s) (nI b) ((1 : Int32), nI cm) = _
      rw [b_L_areOf_1, rd20, cl0, e_n0 B, if_pos (n_le (Nat.le_refl _))]
  unfold f_L_areOf
  refine it_bd (show gw_it (b_L_areOf_1 τ β o (nI s) (nI b)) 4096 ((1 : Int32), (0 : Int32)) = some ((1 : Int32), nI cm) from G) ?_
  rfl
end bo
