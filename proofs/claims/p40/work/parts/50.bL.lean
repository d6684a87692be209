/-! THE BOOK'S EXCHANGE: one circle after the other -/
section bl
variable {j cm sm td tb : Nat} {τ μ β : gw_S} {o : Nat → Int64}
theorem Bk_r4 {β' : gw_S} (h : ∀ q, q ≠ 4 → β' q = β q) (B : Bk cm sm tb μ β o) : Bk cm sm tb μ β' o := by
  unfold Bk B_n B_c B_l B_o B_q B_y B_s B_w B_u B_z at *
  rw [h 0 (by omega), h 1 (by omega), h 2 (by omega)]
  exact B
theorem k_sw1 (I : Iv cm sm td μ) (B : Bk cm sm tb μ β o) : ∃ w β', gw_it b_L_swaps_1 4096 ((0 : Int32), (0 : Int32), gw_row β 4 (fun _ => 0), o) = some (pset μ sm, w, β', o) ∧ (∀ q, q ≠ 4 → β' q = β q) ∧ ∀ t, t < 8 → β' 4 t = -1 := by
  have hB := B.1
  obtain ⟨⟨x, w, β', o'⟩, G, h1, h2, h3, h4⟩ := gw_for (b := b_L_swaps_1) (s := ((0 : Int32), (0 : Int32), gw_row β 4 (fun _ => 0), o)) (fun k q => q.2.1 = nI k ∧ q.2.2.2 = o ∧ (∀ z, z ≠ 4 → q.2.2.1 z = β z) ∧ (∀ t, t < k → q.2.2.1 4 t = -1) ∧ ∀ i, bt q.1 i = true ↔ (i < k ∧ i < sm ∧ μ 11 i ≠ -1)) (fun q => q.2.2.2 = o ∧ (∀ z, z ≠ 4 → q.2.2.1 z = β z) ∧ (∀ t, t < 8 → q.2.2.1 4 t = -1) ∧ q.1 = pset μ sm) 8 (by omega) ⟨rfl, rfl, fun z hz => by show gw_row β 4 (fun _ => 0) z = _; unfold gw_row; rw [if_neg hz], fun t ht => absurd ht (Nat.not_lt_zero t), fun i => by rw [b_0]; simp⟩ (fun k q hk hI => by
    obtain ⟨x, v, β1, o1⟩ := q
    obtain ⟨q1, q2, q3, q4, q5⟩ := hI
    have q1 : v = nI k := q1
    have q2 : o1 = o := q2
    subst q1 q2
    have q3 : ∀ z, z ≠ 4 → β1 z = β z := q3
    have q4 : ∀ t, t < k → β1 4 t = -1 := q4
    have q5 : ∀ i, bt x i = true ↔ (i < k ∧ i < sm ∧ μ 11 i ≠ -1) := q5
    have hrow : ∀ z, z ≠ 4 → gw_up β1 4 k (-1) z = β z := fun z hz => by rw [gw_up_rown hz, q3 z hz]
    have h4' : ∀ t, t < k + 1 → gw_up β1 4 k (-1) 4 t = -1 := fun t ht => by
      by_cases e : t = k
      · subst e; rw [gw_up_s]
      · rw [gw_up_n (by omega)]; exact q4 t (by omega)
    have hst : b_L_swaps_1 (x, nI k, β1, o1) = if k < sm ∧ μ 11 k ≠ -1 then some (.inl (x ||| ((1 : Int32) <<< (nI k &&& 31)), nI (k + 1), gw_up β1 4 k (-1), o1)) else some (.inl (x, nI (k + 1), gw_up β1 4 k (-1), o1)) := by
      rw [b_L_swaps_1, if_neg (n8 hk)]
      simp (disch := omega) only [rdq, rd21, cl1, cln, x8, x8_5, rd1]
      rw [gw_up_n (k' := 2) (by omega), gw_up_n (k' := 1) (by omega), q3 2 (by omega), q3 1 (by omega), e_n1 B, Int32.or_zero, nI_1]
      rcases Nat.lt_or_ge k sm with h | h
      · rw [if_neg (n_lt h), e_s5 B h]
        by_cases hu : μ 11 k = -1
        · rw [if_pos (show μ 11 k < 0 by rw [hu]; decide), if_neg (fun hh => hh.2 hu)]
        · obtain ⟨u, u1, u2, -⟩ := ups I h hu
          rw [if_neg (show ¬ μ 11 k < 0 by rw [u2]; exact nI_pos (by omega)), if_pos ⟨h, hu⟩]
      · rw [if_pos (n_le h), if_neg (fun hh => by omega)]
    rw [hst]
    by_cases e : k < sm ∧ μ 11 k ≠ -1
    · rw [if_pos e]
      refine ⟨_, rfl, rfl, rfl, hrow, h4', fun i => ?_⟩
      show bt (x ||| ((1 : Int32) <<< (nI k &&& 31))) i = true ↔ _
      rcases Nat.lt_or_ge i 32 with h | h
      · rw [bt_or_bit (by omega) h, Bool.or_eq_true, q5, decide_eq_true_eq]
        constructor
        · rintro (⟨a, b, c⟩ | rfl)
          · exact ⟨by omega, b, c⟩
          · exact ⟨by omega, e.1, e.2⟩
        · rintro ⟨a, b, c⟩
          by_cases e2 : i = k
          · exact Or.inr e2
          · exact Or.inl ⟨by omega, b, c⟩
      · rw [b_big h]
        exact ⟨fun h => (by cases h), fun h => by omega⟩
    · rw [if_neg e]
      refine ⟨_, rfl, rfl, rfl, hrow, h4', fun i => ?_⟩
      show bt x i = true ↔ _
      rw [q5]
      constructor
      · rintro ⟨a, b, c⟩; exact ⟨by omega, b, c⟩
      · rintro ⟨a, b, c⟩
        refine ⟨?_, b, c⟩
        rcases Nat.lt_or_ge i k with h | h
        · exact h
        · rw [show i = k by omega] at b c; exact absurd ⟨b, c⟩ e) (fun q hI => by
    obtain ⟨x, v, β1, o1⟩ := q
    obtain ⟨q1, q2, q3, q4, q5⟩ := hI
    have q1 : v = nI 8 := q1
    have q2 : o1 = o := q2
    subst q2
    have q5 : ∀ i, bt x i = true ↔ (i < 8 ∧ i < sm ∧ μ 11 i ≠ -1) := q5
    have hen : ∀ v : Int32, (8 : Int32) ≤ v → b_L_swaps_1 (x, v, β1, o1) = some (.inr (x, v, β1, o1)) := fun v hv => by rw [b_L_swaps_1, if_pos hv]
    refine ⟨_, hen v (by rw [q1]; decide), rfl, q3, q4, b_ext (fun i hi => ?_)⟩
    rw [Bool.eq_iff_iff, pset_bt μ sm (by omega) i]
    show bt x i = true ↔ _
    rw [q5]
    constructor
    · rintro ⟨a, b, c⟩; exact ⟨b, c⟩
    · rintro ⟨b, c⟩; exact ⟨by omega, b, c⟩)
  have h1 : o' = o := h1
  have h4 : x = pset μ sm := h4
  subst h1 h4
  exact ⟨w, β', G, h2, h3⟩
theorem cyc_ex8 {f : Nat → Nat} {a n : Nat} (hn : n ≤ 8) (hv : ∀ i, itr f i a < n) : cyc f (itr f 8 a) := by
  obtain ⟨i, j, hij, hj, e⟩ := fb_twice (m := n) (n := n + 1) (f := fun i => itr f i a) (fun i _ => hv i) (by omega)
  have e : itr f i a = itr f j a := e
  have h1 : cyc f (itr f i a) := ⟨j - i, by omega, by rw [← itr_add, show j - i + i = j from by omega, ← e]⟩
  have h2 : ∀ d, cyc f (itr f (d + i) a) := fun d => by
    induction d with
    | zero => rw [Nat.zero_add]; exact h1
    | succ d ih =>
      rw [show d + 1 + i = (d + i) + 1 by omega]
      exact cyc_nx ih
  have := h2 (8 - i)
  rw [show 8 - i + i = 8 by omega] at this
  exact this
/-- what a participant gets -/
def Dg (μ : gw_S) (g : Nat → Nat) (s : Nat) : Int32 := if g s = s then -1 else μ 11 (g s)
/-- one circle -/
theorem k_circle (R : Rl cm sm τ μ) (I : Iv cm sm td μ) (B : Bk cm sm tb μ β o) {x : Int32} {r g : Nat → Nat} (hF : Fing sm μ (pset μ sm) r g) (hsub : ∀ s, bt x s = true → bt (pset μ sm) s = true) (hcl : ∀ s, bt x s = true → bt x (g s) = true) (hx0 : x ≠ 0) :
    ∃ x' β', b_L_swaps_2 (x, β, o) = some (.inl (x', β', o)) ∧ (∀ q, q ≠ 4 → β' q = β q) ∧ (∀ s, bt x' s = true → bt x s = true) ∧ (∀ s, bt x' s = true → bt x' (g s) = true) ∧ (∀ s, bt x s = true → ¬ bt x' s = true → β' 4 s = Dg μ g s) ∧ (∀ s, ¬ (bt x s = true ∧ ¬ bt x' s = true) → β' 4 s = β 4 s) ∧ fb_ct (fun i => bt x' i) sm < fb_ct (fun i => bt x i) sm := by
  have h20 := R.1
  have hB := B.1
  have hps := fun i => pset_bt μ sm h20.2 i
  have hxs : ∀ s, bt x s = true → s < sm := fun s h => ((hps s).mp (hsub s h)).1
  have h0 : ∀ s, bt (pset μ sm) s = true → s < sm := fun s h => ((hps s).mp h).1
  -- the first of x
  obtain ⟨s0, hs0⟩ : ∃ s, bt x s = true := by
    by_cases h : ∃ s, bt x s = true
    · exact h
    · exact absurd (bt_nz.mpr (fun i _ => by
        cases hb : bt x i
        · rfl
        · exact absurd ⟨i, hb⟩ h)) hx0
  have a1 := fa_first_le (fun i => bt x i) 8
  have a2 := fa_first_no (fun i => bt x i) 8
  have a3 := fa_first_yes (fun i => bt x i) 8
  have ha8 : fa_first (fun i => bt x i) 8 < 8 := by
    rcases Nat.lt_or_ge (fa_first (fun i => bt x i) 8) 8 with h | h
    · exact h
    · have h1 := hxs s0 hs0
      have := a2 s0 (by omega)
      rw [hs0] at this; cases this
  have G3 : gw_it (b_L_swaps_3 β o x) 4096 (0 : Int32) = some (nI (fa_first (fun i => bt x i) 8)) := by
    refine gw_fun (fun k => nI k) _ (fa_first (fun i => bt x i) 8) (by omega) (fun k hk => ?_) ?_
    · rw [b_L_swaps_3, k_has (by omega), bd, if_neg (by rw [a2 k hk]; decide), nI_1]
    · rw [b_L_swaps_3, k_has (by omega), bd, if_pos (a3 ha8)]
  have hxa : bt x (fa_first (fun i => bt x i) 8) = true := a3 ha8
  generalize fa_first (fun i => bt x i) 8 = a at *
  have hin : ∀ i, bt x (itr (Tg μ sm x) i a) = true := fun i => by
    induction i with
    | zero => exact hxa
    | succ i ih => exact (Tg_rng (hxs _ ih) ih).2
  have hpt : ∀ (β1 : gw_S) (s : Nat), (∀ q, q ≠ 4 → β1 q = β q) → bt x s = true → f_L_points β1 o (nI s) x = some (nI (Tg μ sm x s)) := fun β1 s hr hs => k_pts R I (Bk_r4 hr B) (hxs s hs) ((hps s).mp (hsub s hs)).2 (fun i hi => hxs i hi)
  have G4 : ∃ w, gw_it (b_L_swaps_4 β o x) 4096 (nI a, (0 : Int32)) = some (nI (itr (Tg μ sm x) 8 a), w) := by
    refine ⟨nI 8, ?_⟩
    refine gw_fun (fun k => (nI (itr (Tg μ sm x) k a), nI k)) _ 8 (by omega) (fun k hk => ?_) ?_
    · show b_L_swaps_4 β o x (nI (itr (Tg μ sm x) k a), nI k) = _
      rw [b_L_swaps_4, if_neg (n8 hk), hpt β _ (fun _ _ => rfl) (hin k), bs, nI_1]
      rfl
    · have hen : ∀ w v : Int32, (8 : Int32) ≤ w → b_L_swaps_4 β o x (v, w) = some (.inr (v, w)) := fun w v hw => by rw [b_L_swaps_4, if_pos hw]
      exact hen _ _ (by decide)
  obtain ⟨w4, G4⟩ := G4
  have hcyc : cyc (Tg μ sm x) (itr (Tg μ sm x) 8 a) := cyc_ex8 hB.2 (fun i => hxs _ (hin i))
  have hxb := hin 8
  generalize itr (Tg μ sm x) 8 a = b at *
  have hg := circ_g h0 hF hsub hcl hxb hcyc
  have hv : ∀ i, itr (Tg μ sm x) i b < sm := fun i => hxs _ (hg i).1
  obtain ⟨p, p1, p2⟩ := hcyc
  obtain ⟨p, p1, p2, p3⟩ := cyc_least p p1 p2
  have hdis : ∀ i k, i < k → k < p → itr (Tg μ sm x) i b ≠ itr (Tg μ sm x) k b := fun i k hik hk e => by
    refine p3 (p - k + i) (by omega) (by omega) ?_
    rw [itr_add, e, ← itr_add, show p - k + k = p from by omega]; exact p2
  have hp8 : p ≤ sm := fb_holes sm p (fun i => itr (Tg μ sm x) i b) (fun i _ => hv i) (fun i k hik hk e => hdis i k hik hk e)
  -- the circle
  obtain ⟨⟨w5, C, β', o'⟩, G5, c1, c2, c3, c4, c5⟩ := gw_for (b := b_L_swaps_5 x) (s := (nI b, (0 : Int32), β, o)) (fun k q => q.1 = nI (itr (Tg μ sm x) k b) ∧ q.2.2.2 = o ∧ (∀ z, z ≠ 4 → q.2.2.1 z = β z) ∧ (∀ t, bt q.2.1 t = true ↔ ∃ i, i < k ∧ itr (Tg μ sm x) i b = t) ∧ (∀ i, i < k → q.2.2.1 4 (itr (Tg μ sm x) i b) = Dg μ g (itr (Tg μ sm x) i b)) ∧ ∀ t, (∀ i, i < k → itr (Tg μ sm x) i b ≠ t) → q.2.2.1 4 t = β 4 t) (fun q => q.2.2.2 = o ∧ (∀ z, z ≠ 4 → q.2.2.1 z = β z) ∧ (∀ t, bt q.2.1 t = true ↔ ∃ i, i < p ∧ itr (Tg μ sm x) i b = t) ∧ (∀ i, i < p → q.2.2.1 4 (itr (Tg μ sm x) i b) = Dg μ g (itr (Tg μ sm x) i b)) ∧ ∀ t, (∀ i, i < p → itr (Tg μ sm x) i b ≠ t) → q.2.2.1 4 t = β 4 t) p (by omega) ⟨rfl, rfl, fun _ _ => rfl, fun t => ⟨fun h => absurd h (by rw [b_0]; decide), fun ⟨i, hi, _⟩ => absurd hi (Nat.not_lt_zero i)⟩, fun i hi => absurd hi (Nat.not_lt_zero i), fun _ _ => rfl⟩ (fun k q hk hI => by
    obtain ⟨v, C, β1, o1⟩ := q
    obtain ⟨q1, q2, q3, q4, q5, q6⟩ := hI
    have q1 : v = nI (itr (Tg μ sm x) k b) := q1
    have q2 : o1 = o := q2
    subst q1 q2
    have q3 : ∀ z, z ≠ 4 → β1 z = β z := q3
    have q4 : ∀ t, bt C t = true ↔ ∃ i, i < k ∧ itr (Tg μ sm x) i b = t := q4
    have q5 : ∀ i, i < k → β1 4 (itr (Tg μ sm x) i b) = Dg μ g (itr (Tg μ sm x) i b) := q5
    have q6 : ∀ t, (∀ i, i < k → itr (Tg μ sm x) i b ≠ t) → β1 4 t = β 4 t := q6
    have hvk := hv k
    have hgk := hg k
    have hvk1 := hv (k + 1)
    have hno : ¬ bt C (itr (Tg μ sm x) k b) = true := fun h => by
      obtain ⟨i, hi, e⟩ := (q4 _).mp h
      exact hdis i k hi hk e
    have en : itr (Tg μ sm x) (k + 1) b = Tg μ sm x (itr (Tg μ sm x) k b) := rfl
    have hdis' : ∀ i, i < k → itr (Tg μ sm x) i b ≠ itr (Tg μ sm x) k b := fun i hi => hdis i k hi hk
    have hst0 : ∀ t, bt x t = true → Tg μ sm x t = g t → Tg μ sm x t < sm → t < sm → ¬ bt C t = true → b_L_swaps_5 x (nI t, C, β1, o1) = some (.inl (nI (Tg μ sm x t), C ||| ((1 : Int32) <<< (nI t &&& 31)), gw_up β1 4 t (Dg μ g t), o1)) := fun t ht1 ht2 ht3 ht4 ht5 => by
      rw [b_L_swaps_5, k_has (by omega), bd, if_neg ht5, hpt β1 t q3 ht1, bs]
      unfold Dg
      rw [← ht2]
      by_cases e : Tg μ sm x t = t
      · rw [if_pos (by rw [e]), if_pos e, rdq (by omega), cln (by omega)]
      · rw [if_neg (fun h => e (nI_inj h)), if_neg e]
        simp (disch := omega) only [x8, x8_5, rd1, cln, rdq]
        rw [q3 1 (by omega), e_s5 B ht3]
    have hst := hst0 _ hgk.1 hgk.2 hvk1 hvk hno
    refine ⟨_, hst, rfl, rfl, fun z hz => ?_, fun t => ?_, fun i hi => ?_, fun t ht => ?_⟩
    · show gw_up β1 4 _ _ z = β z
      rw [gw_up_rown hz]; exact q3 z hz
    · show bt (C ||| ((1 : Int32) <<< (nI (itr (Tg μ sm x) k b) &&& 31))) t = true ↔ _
      rcases Nat.lt_or_ge t 32 with h | h
      · rw [bt_or_bit (by omega) h, Bool.or_eq_true, q4, decide_eq_true_eq]
        constructor
        · rintro (⟨i, hi, e⟩ | e)
          · exact ⟨i, by omega, e⟩
          · exact ⟨k, by omega, e.symm⟩
        · rintro ⟨i, hi, e⟩
          by_cases e2 : i = k
          · exact Or.inr (by rw [← e, e2])
          · exact Or.inl ⟨i, by omega, e⟩
      · rw [b_big h]
        exact ⟨fun h => (by cases h), fun ⟨i, hi, e⟩ => by have := hv i; omega⟩
    · show gw_up β1 4 _ _ 4 (itr (Tg μ sm x) i b) = _
      by_cases e : i = k
      · subst e; rw [gw_up_s]
      · rw [gw_up_n (fun h => hdis' i (by omega) h.2)]; exact q5 i (by omega)
    · show gw_up β1 4 _ _ 4 t = _
      rw [gw_up_n (fun h => ht k (by omega) h.2.symm)]; exact q6 t (fun i hi => ht i (by omega))) (fun q hI => by
    obtain ⟨v, C, β1, o1⟩ := q
    obtain ⟨q1, q2, q3, q4, q5, q6⟩ := hI
    have q1 : v = nI (itr (Tg μ sm x) p b) := q1
    have q2 : o1 = o := q2
    subst q1 q2
    have q4 : ∀ t, bt C t = true ↔ ∃ i, i < p ∧ itr (Tg μ sm x) i b = t := q4
    refine ⟨(nI (itr (Tg μ sm x) p b), C, β1, o1), ?_, rfl, q3, q4, q5, q6⟩
    have hb32 := hv 0
    have hb32 : b < sm := hb32
    rw [b_L_swaps_5, p2, k_has (by omega), bd, if_pos ((q4 b).mpr ⟨0, by omega, rfl⟩)])
  have c1 : o' = o := c1
  subst c1
  have c2 : ∀ z, z ≠ 4 → β' z = β z := c2
  have c3 : ∀ t, bt C t = true ↔ ∃ i, i < p ∧ itr (Tg μ sm x) i b = t := c3
  have c4 : ∀ i, i < p → β' 4 (itr (Tg μ sm x) i b) = Dg μ g (itr (Tg μ sm x) i b) := c4
  have c5 : ∀ t, (∀ i, i < p → itr (Tg μ sm x) i b ≠ t) → β' 4 t = β 4 t := c5
  have hxx : ∀ i, bt (x &&& (C ^^^ (-1 : Int32))) i = true ↔ (bt x i = true ∧ ¬ bt C i = true) := fun i => by
    rcases Nat.lt_or_ge i 32 with h | h
    · rw [b_and, b_xor, b_m1 i h, Bool.and_eq_true]
      cases bt C i <;> simp
    · rw [b_big h, b_big h]; simp
  refine ⟨x &&& (C ^^^ (-1 : Int32)), β', ?_, c2, fun s hs => ((hxx s).mp hs).1, fun s hs => ?_, fun s hs hn => ?_, fun s hn => ?_, ?_⟩
  · rw [b_L_swaps_2, if_neg hx0, G3, bs, G4, bs]
    dsimp only
    rw [G5]; rfl
  · obtain ⟨h1, h2⟩ := (hxx s).mp hs
    refine (hxx _).mpr ⟨hcl s h1, fun h3 => h2 ?_⟩
    obtain ⟨i, hi, e⟩ := (c3 _).mp h3
    -- the one before on the circle
    have hpre : ∃ k, k < p ∧ Tg μ sm x (itr (Tg μ sm x) k b) = g s := by
      by_cases e0 : i = 0
      · subst e0
        refine ⟨p - 1, by omega, ?_⟩
        have : itr (Tg μ sm x) (p - 1 + 1) b = b := by rw [show p - 1 + 1 = p by omega]; exact p2
        exact this.trans e
      · refine ⟨i - 1, by omega, ?_⟩
        have : itr (Tg μ sm x) (i - 1 + 1) b = g s := by rw [show i - 1 + 1 = i by omega]; exact e
        exact this
    obtain ⟨k, hk, e2⟩ := hpre
    rw [(hg k).2] at e2
    have := hF.2 _ s (hsub _ (hg k).1) (hsub _ h1) e2
    exact (c3 s).mpr ⟨k, hk, this⟩
  · have hC : bt C s = true := by
      cases h : bt C s
      · exact absurd ((hxx s).mpr ⟨hs, by rw [h]; decide⟩) hn
      · rfl
    obtain ⟨i, hi, e⟩ := (c3 s).mp hC
    rw [← e]; exact c4 i hi
  · refine c5 s (fun i hi e => hn ⟨by rw [← e]; exact (hg i).1, fun h => ?_⟩)
    exact ((hxx s).mp h).2 ((c3 s).mpr ⟨i, hi, e⟩)
  · have h1 := fb_ct_upd (fun i => bt x i) false (hxs b hxb)
    have h2 : fb_ct (fun i => bt (x &&& (C ^^^ (-1 : Int32))) i) sm ≤ fb_ct (fun k => if k = b then false else bt x k) sm := fb_ct_sub (fun k hk hb => by
      have := (hxx k).mp hb
      show (if k = b then false else bt x k) = true
      rw [if_neg (fun e => this.2 ((c3 k).mpr ⟨0, by omega, e.symm⟩))]; exact this.1)
    have h3 : (if bt x b = true then 1 else 0) = 1 := if_pos hxb
    rw [h3] at h1
    simp only [Bool.false_eq_true, ↓reduceIte] at h1
    omega
theorem k_circles (R : Rl cm sm τ μ) (I : Iv cm sm td μ) (B : Bk cm sm tb μ β o) {r g : Nat → Nat} (hF : Fing sm μ (pset μ sm) r g) (h4 : ∀ t, t < 8 → β 4 t = -1) : ∃ w β', gw_it b_L_swaps_2 4096 (pset μ sm, β, o) = some (w, β', o) ∧ (∀ q, q ≠ 4 → β' q = β q) ∧ (∀ s, bt (pset μ sm) s = true → β' 4 s = Dg μ g s) ∧ ∀ t, t < 8 → ¬ bt (pset μ sm) t = true → β' 4 t = -1 := by
  have h20 := R.1
  have hB := B.1
  have hps := fun i => pset_bt μ sm h20.2 i
  obtain ⟨⟨w, β', o'⟩, G, g1, g2, g3, g4⟩ := gw_run0 (b := b_L_swaps_2) (s := (pset μ sm, β, o)) (fun k q => q.2.2 = o ∧ (∀ z, z ≠ 4 → q.2.1 z = β z) ∧ (∀ s, bt q.1 s = true → bt (pset μ sm) s = true) ∧ (∀ s, bt q.1 s = true → bt q.1 (g s) = true) ∧ (∀ s, bt (pset μ sm) s = true → ¬ bt q.1 s = true → q.2.1 4 s = Dg μ g s) ∧ (∀ t, t < 8 → (bt q.1 t = true ∨ ¬ bt (pset μ sm) t = true) → q.2.1 4 t = -1) ∧ fb_ct (fun i => bt q.1 i) sm + k ≤ sm) (fun q => q.2.2 = o ∧ (∀ z, z ≠ 4 → q.2.1 z = β z) ∧ (∀ s, bt (pset μ sm) s = true → q.2.1 4 s = Dg μ g s) ∧ ∀ t, t < 8 → ¬ bt (pset μ sm) t = true → q.2.1 4 t = -1) sm (by omega) ⟨rfl, fun _ _ => rfl, fun _ h => h, fun s hs => by
      obtain ⟨y, y1, y2, y3⟩ := hF.1 s hs
      have := (Tg_rng (μ := μ) (x := y) ((hps s).mp hs).1 ((y1 s).mpr ⟨hs, Nat.le_refl _⟩)).2
      show bt (pset μ sm) (g s) = true
      rw [y2]
      exact ((y1 _).mp this).1, fun s h1 h2 => absurd h1 h2, fun t ht _ => h4 t ht, by have := fb_ct_le (fun i => bt (pset μ sm) i) sm; omega⟩ (fun k q hk hI => by
    obtain ⟨x, β1, o1⟩ := q
    obtain ⟨q1, q2, q3, q4, q5, q6, q7⟩ := hI
    have q1 : o1 = o := q1
    subst q1
    have q2 : ∀ z, z ≠ 4 → β1 z = β z := q2
    have q3 : ∀ s, bt x s = true → bt (pset μ sm) s = true := q3
    have q4 : ∀ s, bt x s = true → bt x (g s) = true := q4
    have q5 : ∀ s, bt (pset μ sm) s = true → ¬ bt x s = true → β1 4 s = Dg μ g s := q5
    have q6 : ∀ t, t < 8 → (bt x t = true ∨ ¬ bt (pset μ sm) t = true) → β1 4 t = -1 := q6
    have q7 : fb_ct (fun i => bt x i) sm + k ≤ sm := q7
    by_cases hx : x = 0
    · subst hx
      refine Or.inl ⟨(0, β1, o1), ?_, rfl, q2, fun s hs => q5 s hs (by rw [b_0]; decide), fun t ht h => q6 t ht (Or.inr h)⟩
      rw [b_L_swaps_2, if_pos rfl]
    · obtain ⟨x', β2, e1, e2, e3, e4, e5, e6, e7⟩ := k_circle R I (Bk_r4 q2 B) hF q3 q4 hx
      refine Or.inr ⟨by omega, _, e1, rfl, fun z hz => (e2 z hz).trans (q2 z hz), fun s hs => q3 s (e3 s hs), e4, fun s hs hn => ?_, fun t ht h => ?_, ?_⟩
      · by_cases hb : bt x s = true
        · exact e5 s hb hn
        · exact (e6 s (fun h => hb h.1)).trans (q5 s hs hb)
      · refine (e6 t (fun hh => ?_)).trans (q6 t ht ?_)
        · rcases h with h | h
          · exact hh.2 h
          · exact h (q3 t hh.1)
        · rcases h with h | h
          · exact Or.inl (e3 t h)
          · exact Or.inr h
      · show fb_ct (fun i => bt x' i) sm + (k + 1) ≤ sm
        omega)
  have g1 : o' = o := g1
  subst g1
  exact ⟨w, β', G, g2, g3, g4⟩
end bl
