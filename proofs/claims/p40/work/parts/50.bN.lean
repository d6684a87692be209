/-! WHAT IS SHOWN: the courses -/
section bn
variable {j cm sm td tb : Nat} {τ μ β : gw_S} {o : Nat → Int64}
/-- no way of L steps leads on from v -/
def nfr (D : Nat → Int32) (cm L v : Nat) : Prop := v < 8 ∧ 0 < L ∧ (v < cm → ∀ k, ¬ pth D (L - 1) v k)
theorem k_lev2 (v1 x v3 : Int32) : ∃ y w, gw_it (b_L_level_2 β o v1 x v3) 4096 (x, (0 : Int32)) = some (y, w) ∧ ∀ i, bt y i = true ↔ (bt x i = true ∨ (i < 8 ∧ ∀ m, bt (β 0 (8 * i + 3)) m = true → bt x m = true)) := by
  obtain ⟨⟨y, w⟩, G, g⟩ := gw_for (b := b_L_level_2 β o v1 x v3) (s := (x, (0 : Int32))) (fun k q => q.2 = nI k ∧ ∀ i, bt q.1 i = true ↔ (bt x i = true ∨ (i < k ∧ ∀ m, bt (β 0 (8 * i + 3)) m = true → bt x m = true))) (fun q => ∀ i, bt q.1 i = true ↔ (bt x i = true ∨ (i < 8 ∧ ∀ m, bt (β 0 (8 * i + 3)) m = true → bt x m = true))) 8 (by omega) ⟨rfl, fun i => ⟨fun h => Or.inl h, fun h => h.elim (fun q => q) (fun q => absurd q.1 (Nat.not_lt_zero i))⟩⟩ (fun k q hk hI => by
    obtain ⟨v, w⟩ := q
    obtain ⟨e, h1⟩ := hI
    have e : w = nI k := e
    subst e
    have h1 : ∀ i, bt v i = true ↔ (bt x i = true ∨ (i < k ∧ ∀ m, bt (β 0 (8 * i + 3)) m = true → bt x m = true)) := h1
    have hst : b_L_level_2 β o v1 x v3 (v, nI k) = if β 0 (8 * k + 3) &&& (x ^^^ (-1 : Int32)) = 0 then some (.inl (v ||| ((1 : Int32) <<< (nI k &&& 31)), nI (k + 1))) else some (.inl (v ||| (0 : Int32), nI (k + 1))) := by
      rw [b_L_level_2, if_neg (n8 hk)]
      simp (disch := omega) only [x8, x8_3, rd0, cln, nI_1]
    rw [hst]
    by_cases hz : β 0 (8 * k + 3) &&& (x ^^^ (-1 : Int32)) = 0
    · rw [if_pos hz]
      have hz := and_not.mp hz
      refine ⟨_, rfl, rfl, fun i => ?_⟩
      show bt (v ||| ((1 : Int32) <<< (nI k &&& 31))) i = true ↔ _
      rcases Nat.lt_or_ge i 32 with h | h
      · rw [bt_or_bit (by omega) h, Bool.or_eq_true, h1, decide_eq_true_eq]
        constructor
        · rintro ((a | ⟨a, b⟩) | rfl)
          · exact Or.inl a
          · exact Or.inr ⟨by omega, b⟩
          · exact Or.inr ⟨by omega, fun m hm => hz m (bt_lt hm) hm⟩
        · rintro (a | ⟨a, b⟩)
          · exact Or.inl (Or.inl a)
          · by_cases e : i = k
            · exact Or.inr e
            · exact Or.inl (Or.inr ⟨by omega, b⟩)
      · rw [b_big h, b_big h]
        exact ⟨fun q => (by cases q), fun q => q.elim (fun q => (by cases q)) (fun q => by omega)⟩
    · rw [if_neg hz, Int32.or_zero]
      refine ⟨_, rfl, rfl, fun i => (h1 i).trans ?_⟩
      constructor
      · rintro (a | ⟨a, b⟩)
        · exact Or.inl a
        · exact Or.inr ⟨by omega, b⟩
      · rintro (a | ⟨a, b⟩)
        · exact Or.inl a
        · refine Or.inr ⟨?_, b⟩
          by_cases e : i = k
          · subst e
            exact absurd (and_not.mpr (fun m _ hm => b m hm)) hz
          · omega) (fun q hI => by
    obtain ⟨v, w⟩ := q
    obtain ⟨e, h1⟩ := hI
    have e : w = nI 8 := e
    subst e
    have hen : ∀ w : Int32, (8 : Int32) ≤ w → b_L_level_2 β o v1 x v3 (v, w) = some (.inr (v, w)) := fun w hw => by rw [b_L_level_2, if_pos hw]
    exact ⟨_, hen (nI 8) (by decide), h1⟩)
  exact ⟨y, w, G, g⟩
theorem nfr_st (I : Iv cm sm td μ) (B : Bk cm sm tb μ β o) {x : Int32} {L : Nat} (h : ∀ i, bt x i = true ↔ nfr (μ 4) cm L i) (i : Nat) : (bt x i = true ∨ (i < 8 ∧ ∀ m, bt (β 0 (8 * i + 3)) m = true → bt x m = true)) ↔ nfr (μ 4) cm (L + 1) i := by
  have hB := B.1
  have hb : ∀ c, c < cm → ∀ k, bt (μ 4 c) k = true → k < cm := fun c hc => (I.2.1 c hc).2.2.2
  constructor
  · rintro (a | ⟨a, b⟩)
    · obtain ⟨p1, p2, p3⟩ := (h i).mp a
      refine ⟨p1, by omega, fun hi k hp => ?_⟩
      rw [show L + 1 - 1 = (L - 1) + 1 by omega] at hp
      obtain ⟨q, hq⟩ := pth_pre hp
      exact p3 hi q hq
    · refine ⟨a, by omega, fun hi k hp => ?_⟩
      rw [show L + 1 - 1 = L by omega] at hp
      rw [e_c3 B hi] at b
      cases L with
      | zero =>
        have := (h k).mp (b k hp)
        exact absurd this.2.1 (Nat.lt_irrefl 0)
      | succ M =>
        obtain ⟨m, hm, hm2⟩ := hp
        have := (h m).mp (b m hm)
        exact this.2.2 (hb i hi m hm) k hm2
  · rintro ⟨p1, p2, p3⟩
    refine Or.inr ⟨p1, fun m hm => ?_⟩
    rcases Nat.lt_or_ge i cm with hi | hi
    · rw [e_c3 B hi] at hm
      have p3 := p3 hi
      rw [show L + 1 - 1 = L by omega] at p3
      have hmc := hb i hi m hm
      cases L with
      | zero => exact absurd hm (p3 m)
      | succ M => exact (h m).mpr ⟨by omega, by omega, fun _ k hk => p3 k ⟨m, hm, hk⟩⟩
    · rw [e_cz B hi p1 (by omega), b_0] at hm
      cases hm
theorem k_level (I : Iv cm sm td μ) (B : Bk cm sm tb μ β o) {c L : Nat} (hc : c < cm) (hL : lon (μ 4) c L) (hL2 : L ≤ cm) : f_L_level β o (nI c) = some (nI L) := by
  have hB := B.1
  obtain ⟨⟨x, v⟩, G, g⟩ := gw_run0 (b := b_L_level_1 β o (nI c)) (s := ((0 : Int32), (0 : Int32))) (fun k q => q.2 = nI k ∧ ∀ i, bt q.1 i = true ↔ nfr (μ 4) cm k i) (fun q => q.2 = nI (L + 1)) (L + 1) (by omega) ⟨rfl, fun i => ⟨fun h => absurd h (by rw [b_0]; decide), fun h => absurd h.2.1 (Nat.lt_irrefl 0)⟩⟩ (fun k q hk hI => by
    obtain ⟨x, v⟩ := q
    obtain ⟨e, h1⟩ := hI
    have e : v = nI k := e
    subst e
    have h1 : ∀ i, bt x i = true ↔ nfr (μ 4) cm k i := h1
    have hst : b_L_level_1 β o (nI c) (x, nI k) = if bt x c = true then some (.inr (x, nI k)) else ((gw_it (b_L_level_2 β o (nI c) x (nI k)) 4096 (x, (0 : Int32))).bind fun t3 => some (.inl (t3.1, nI (k + 1)))) := by
      rw [b_L_level_1, k_has (by omega), bd]
      by_cases hb : bt x c = true
      · rw [if_pos hb, if_pos hb]
      · rw [if_neg hb, if_neg hb, nI_1]
    rw [hst]
    by_cases hb : bt x c = true
    · rw [if_pos hb]
      obtain ⟨p1, p2, p3⟩ := (h1 c).mp hb
      refine Or.inl ⟨_, rfl, ?_⟩
      show nI k = nI (L + 1)
      by_cases e : k = L + 1
      · rw [e]
      · obtain ⟨z, hz⟩ := hL.1 (k - 1) (by omega)
        exact absurd hz (p3 hc z)
    · rw [if_neg hb]
      have hk2 : k < L + 1 := by
        rcases Nat.lt_or_ge k (L + 1) with h | h
        · exact h
        · exfalso
          have : k = L + 1 := by omega
          subst this
          exact hb ((h1 c).mpr ⟨by omega, by omega, fun _ z => hL.2 z⟩)
      obtain ⟨y, w, G, g⟩ := k_lev2 (β := β) (o := o) (nI c) x (nI k)
      refine Or.inr ⟨hk2, _, it_bd G rfl, rfl, fun i => ?_⟩
      show bt y i = true ↔ _
      rw [g, nfr_st I B h1])
  have g : v = nI (L + 1) := g
  subst g
  unfold f_L_level
  refine it_bd G ?_
  show some (nI (L + 1) - (1 : Int32)) = _
  rw [nI_pred]
theorem k_lists (R : Rl cm sm τ μ) (I : Iv cm sm td μ) (B : Bk cm sm tb μ β o) {c : Nat} (hc : c < cm) : ∃ w, gw_it (b_L_areCourses_2 τ β o (nI c)) 4096 ((1 : Int32), (0 : Int32)) = some ((1 : Int32), w) := by
  have hB := B.1
  have h20 := R.1
  obtain ⟨n, hn, en, en2⟩ := lt_of (I.2.1 c hc).2.2.1
  have hln := q_len I hc
  have hgl : gw_len (40 + c + 36) = 16 := by unfold gw_len; rw [if_neg (by omega)]
  have h15 := q_lt B I hc
  have hlen : f_L_length (o c) = some (nI n) := by rw [e_q B hc, k_len h15 (by omega), en2]
  refine ⟨nI n, ?_⟩
  refine gw_fun (fun k => ((1 : Int32), nI k)) _ n (by omega) (fun k hk => ?_) ?_
  · obtain ⟨s, hs, es, es2⟩ := lt_of (I.2.2.2.2.2.1 c k hc (by rw [en2]; exact hk))
    have hat : (((((o c).toUInt64 >>> (((4 : Int32) * nI k).toInt64.toUInt64 &&& Int64.toUInt64 63)).toInt64) &&& (15 : Int64)).toInt32) - (1 : Int32) = nI s := by
      rw [e_q B hc, k_at h15 (by omega) (by rw [en2]; exact hk), es2]
    show b_L_areCourses_2 τ β o (nI c) ((1 : Int32), nI k) = _
    rw [b_L_areCourses_2, rdq (by omega), cln (by omega), hlen, bs, if_neg (n_lt hk (by omega)), if_neg n10, f_X3_waitingAt, c_at R hc, bs, gx_l, f_X3_foundAt, show 4 + c + 36 = 40 + c from by omega, c_at1 ((r_wct R hc).trans en) (by rw [hgl]; omega) hk, bs, show 40 + c + 36 = 76 + c from by omega, r_wai R (by omega) (by omega), es, if_neg (ne_m1 (by omega)), bs, gx_l, bs, gx_l, rdq (by omega), hat, if_pos rfl, nI_1]
  · show b_L_areCourses_2 τ β o (nI c) ((1 : Int32), nI n) = _
    rw [b_L_areCourses_2, rdq (by omega), cln (by omega), hlen, bs, if_pos (n_le (Nat.le_refl _) (by omega))]
theorem k_courses (h : St j cm sm td τ μ β o) : f_L_areCourses τ β o = some 1 := by
  obtain ⟨-, -, hd, R, I, F, S, B⟩ := h
  have hB := B.1
  have h20 := R.1
  have hb : ∀ c, c < cm → ∀ k, bt (μ 4 c) k = true → k < cm := fun c hc => (I.2.1 c hc).2.2.2
  have ha := I.2.2.2.2.2.2.2.2.2
  have G : gw_it (b_L_areCourses_1 τ β o) 4096 ((1 : Int32), nI 0) = some ((1 : Int32), nI cm) := by
    refine gw_fun (fun k => ((1 : Int32), nI k)) _ cm (by omega) (fun c hc => ?_) ?_
    · obtain ⟨L, hL, hL2⟩ := lon_ex (D := μ 4) (c := c) (N := cm) (fun k hk => by have := pth_short hb ha hc hk; omega)
      obtain ⟨w, hw⟩ := k_lists R I B hc
      have hlen : f_L_length (o c) = some (μ 13 c) := by
        rw [e_q B hc, k_len (q_lt B I hc) (by have := q_len I hc; omega)]
        exact congrArg some (I.2.1 c hc).2.2.1.1.symm
      show b_L_areCourses_1 τ β o ((1 : Int32), nI c) = _
      rw [b_L_areCourses_1, rd20, cl0, e_n0 B, if_neg (n_lt hc), if_neg n10, f_X3_enrolled, c_at R hc, bs, gx_l, c_enr R hc, bs, bs, gx_l, k_inside B (by omega), bs, if_pos rfl, f_X3_freeSeats, c_at R hc, bs, gx_l, c_fr R hc, bs, bs, gx_l, k_free B hc, bs, if_pos rfl, f_X3_level, c_at R hc, bs, gx_l, c_lev R hb hc hL2 hL, bs, bs, gx_l, k_level I B hc hL2 hL, bs, if_pos rfl, f_X3_waiting, c_at R hc, bs, gx_l, c_size, bs, bs, gx_l, rdq (by omega), cln (by omega), hlen, bs, show 4 + c + 36 = 40 + c from by omega, r_wct R hc, if_pos rfl, hw, bs, nI_1]
    · show b_L_areCourses_1 τ β o ((1 : Int32), nI cm) = _
      rw [b_L_areCourses_1, rd20, cl0, e_n0 B, if_pos (n_le (Nat.le_refl _))]
  unfold f_L_areCourses
  rw [f_X3_courses, bs, rd20, cl0, e_n0 B, r_cm R, if_pos rfl, f_X3_students, bs, rd21, cl1, e_n1 B, r_sm R, if_pos rfl, f_X3_day, bs, rd22, cl2, e_n2 B, r_day R, hd, if_pos rfl]
  refine it_bd (show gw_it (b_L_areCourses_1 τ β o) 4096 ((1 : Int32), (0 : Int32)) = some ((1 : Int32), nI cm) from G) ?_
  rfl
end bn
