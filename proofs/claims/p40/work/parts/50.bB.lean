/-! THE BOOK AND THE REFERENCE: what the book's rows (β 0: c, β 1: s, β 2: n, o: q) have to do with the reference's state μ -/
def B_n (cm sm td : Nat) (β : gw_S) : Prop := β 2 0 = nI cm ∧ β 2 1 = nI sm ∧ β 2 2 = nI td
def B_c (cm : Nat) (μ β : gw_S) : Prop := ∀ c j, c < cm → j < 4 → β 0 (8 * c + j) = μ (j + 1) c
def B_l (cm : Nat) (μ β : gw_S) : Prop := ∀ c k, c < cm → k < 32 → (bt (β 0 (8 * c + 4)) k = true ↔ rch (μ 4) c k)
def B_o (cm sm : Nat) (μ β : gw_S) : Prop := ∀ c j k, c < cm → j < 3 → (bt (β 0 (8 * c + 5 + j)) k = true ↔ (k < sm ∧ ¬ μ 15 (16 * c + k) = -1 ∧ nn (μ 15 (16 * c + k)) % 3 = j))
def B_q (cm : Nat) (μ : gw_S) (o : Nat → Int64) : Prop := ∀ c, c < cm → o c = lN (pl (fun i => nn (μ 14 (16 * c + i))) (nn (μ 13 c)))
def B_y (cm : Nat) (β : gw_S) (o : Nat → Int64) : Prop := ∀ c, cm ≤ c → c < 8 → (∀ j, j < 8 → β 0 (8 * c + j) = 0) ∧ o c = 0
def B_s (sm : Nat) (μ β : gw_S) : Prop := ∀ s j, s < sm → j < 4 → β 1 (8 * s + j) = μ (j + 5) s
def B_w (sm : Nat) (μ β : gw_S) : Prop := ∀ s, s < sm → β 1 (8 * s + 4) = nI (pl (fun i => nn (μ 10 (6 * s + i))) (nn (μ 9 s)))
def B_u (sm : Nat) (μ β : gw_S) : Prop := ∀ s, s < sm → β 1 (8 * s + 5) = μ 11 s ∧ β 1 (8 * s + 6) = μ 12 s
def B_z (sm : Nat) (β : gw_S) : Prop := ∀ s j, sm ≤ s → s < 8 → j < 8 → β 1 (8 * s + j) = 0
def Bk (cm sm td : Nat) (μ β : gw_S) (o : Nat → Int64) : Prop :=
  (cm ≤ 8 ∧ sm ≤ 8) ∧ B_n cm sm td β ∧ B_c cm μ β ∧ B_l cm μ β ∧ B_o cm sm μ β ∧ B_q cm μ o ∧ B_y cm β o ∧ B_s sm μ β ∧ B_w sm μ β ∧ B_u sm μ β ∧ B_z sm β
theorem n8 {k : Nat} (h : k < 8) : ¬ (8 : Int32) ≤ nI k := n_lt (n := 8) h
theorem rd0 {α : Type} {A : Option α} {n : Nat} (h : n < 64) : (if gw_ib (nI n) (gw_ml 0) = true then A else none) = A := if_pos (ib_ok (by show n < 64; exact h) (by decide))
theorem rd1 {α : Type} {A : Option α} {n : Nat} (h : n < 64) : (if gw_ib (nI n) (gw_ml 1) = true then A else none) = A := if_pos (ib_ok (by show n < 64; exact h) (by decide))
theorem rdq {α : Type} {A : Option α} {n : Nat} (h : n < 8) : (if gw_ib (nI n) 8 = true then A else none) = A := if_pos (ib_ok h)
theorem rd20 {α : Type} {A : Option α} : (if gw_ib (0 : Int32) (gw_ml 2) = true then A else none) = A := if_pos (by decide)
theorem rd21 {α : Type} {A : Option α} : (if gw_ib (1 : Int32) (gw_ml 2) = true then A else none) = A := if_pos (by decide)
theorem rd22 {α : Type} {A : Option α} : (if gw_ib (2 : Int32) (gw_ml 2) = true then A else none) = A := if_pos (by decide)
theorem cl0 : (0 : Int32).toNatClampNeg = 0 := by decide
theorem cl1 : (1 : Int32).toNatClampNeg = 1 := by decide
theorem cl2 : (2 : Int32).toNatClampNeg = 2 := by decide
theorem cln {n : Nat} (h : n < 64) : (nI n).toNatClampNeg = n := nI_clamp (by omega)
theorem x8 (c : Nat) : (8 : Int32) * nI c = nI (8 * c) := pk_mul 8 c
theorem x8_1 (c : Nat) : nI (8 * c) + (1 : Int32) = nI (8 * c + 1) := nI_add _ 1
theorem x8_2 (c : Nat) : nI (8 * c) + (2 : Int32) = nI (8 * c + 2) := nI_add _ 2
theorem x8_3 (c : Nat) : nI (8 * c) + (3 : Int32) = nI (8 * c + 3) := nI_add _ 3
theorem x8_4 (c : Nat) : nI (8 * c) + (4 : Int32) = nI (8 * c + 4) := nI_add _ 4
theorem x8_5 (c : Nat) : nI (8 * c) + (5 : Int32) = nI (8 * c + 5) := nI_add _ 5
theorem x8_6 (c : Nat) : nI (8 * c) + (6 : Int32) = nI (8 * c + 6) := nI_add _ 6
theorem x8_7 (c : Nat) : nI (8 * c) + (7 : Int32) = nI (8 * c + 7) := nI_add _ 7
theorem fa_first_cong {p q : Nat → Bool} : ∀ {n : Nat}, (∀ i, i < n → p i = q i) → fa_first p n = fa_first q n := fun {n} h => by
  have a1 := fa_first_le p n
  have a2 := fa_first_no p n
  have a3 := fa_first_yes p n
  have b1 := fa_first_le q n
  have b2 := fa_first_no q n
  have b3 := fa_first_yes q n
  rcases Nat.lt_trichotomy (fa_first p n) (fa_first q n) with c | c | c
  · have h1 := a3 (by omega)
    rw [h _ (by omega), b2 _ c] at h1
    cases h1
  · exact c
  · have h1 := b3 (by omega)
    rw [← h _ (by omega), a2 _ c] at h1
    cases h1
section bk
variable {cm sm td tb : Nat} {τ μ β : gw_S} {o : Nat → Int64}
theorem e_d (B : Bk cm sm tb μ β o) : cm ≤ 8 ∧ sm ≤ 8 := B.1
theorem e_n0 (B : Bk cm sm tb μ β o) : β 2 0 = nI cm := B.2.1.1
theorem e_n1 (B : Bk cm sm tb μ β o) : β 2 1 = nI sm := B.2.1.2.1
theorem e_n2 (B : Bk cm sm tb μ β o) : β 2 2 = nI tb := B.2.1.2.2
theorem e_c0 (B : Bk cm sm tb μ β o) {c : Nat} (h : c < cm) : β 0 (8 * c) = μ 1 c := B.2.2.1 c 0 h (by omega)
theorem e_c1 (B : Bk cm sm tb μ β o) {c : Nat} (h : c < cm) : β 0 (8 * c + 1) = μ 2 c := B.2.2.1 c 1 h (by omega)
theorem e_c2 (B : Bk cm sm tb μ β o) {c : Nat} (h : c < cm) : β 0 (8 * c + 2) = μ 3 c := B.2.2.1 c 2 h (by omega)
theorem e_c3 (B : Bk cm sm tb μ β o) {c : Nat} (h : c < cm) : β 0 (8 * c + 3) = μ 4 c := B.2.2.1 c 3 h (by omega)
theorem e_cl (R : Rl cm sm τ μ) (B : Bk cm sm tb μ β o) {c : Nat} (h : c < cm) : β 0 (8 * c + 4) = τ (4 + c) 7 := b_ext (fun i hi => by
  have h1 := B.2.2.2.1 c i h hi
  have h2 := r_clo R h hi
  rw [← h2] at h1
  rw [Bool.eq_iff_iff]
  exact h1)
theorem e_q (B : Bk cm sm tb μ β o) {c : Nat} (h : c < cm) : o c = lN (pl (fun i => nn (μ 14 (16 * c + i))) (nn (μ 13 c))) := B.2.2.2.2.2.1 c h
theorem e_s0 (B : Bk cm sm tb μ β o) {s : Nat} (h : s < sm) : β 1 (8 * s) = μ 5 s := B.2.2.2.2.2.2.2.1 s 0 h (by omega)
theorem e_s1 (B : Bk cm sm tb μ β o) {s : Nat} (h : s < sm) : β 1 (8 * s + 1) = μ 6 s := B.2.2.2.2.2.2.2.1 s 1 h (by omega)
theorem e_s2 (B : Bk cm sm tb μ β o) {s : Nat} (h : s < sm) : β 1 (8 * s + 2) = μ 7 s := B.2.2.2.2.2.2.2.1 s 2 h (by omega)
theorem e_s3 (B : Bk cm sm tb μ β o) {s : Nat} (h : s < sm) : β 1 (8 * s + 3) = μ 8 s := B.2.2.2.2.2.2.2.1 s 3 h (by omega)
theorem e_s4 (B : Bk cm sm tb μ β o) {s : Nat} (h : s < sm) : β 1 (8 * s + 4) = nI (pl (fun i => nn (μ 10 (6 * s + i))) (nn (μ 9 s))) := B.2.2.2.2.2.2.2.2.1 s h
theorem e_s5 (B : Bk cm sm tb μ β o) {s : Nat} (h : s < sm) : β 1 (8 * s + 5) = μ 11 s := (B.2.2.2.2.2.2.2.2.2.1 s h).1
theorem e_s6 (B : Bk cm sm tb μ β o) {s : Nat} (h : s < sm) : β 1 (8 * s + 6) = μ 12 s := (B.2.2.2.2.2.2.2.2.2.1 s h).2
theorem e_sz (B : Bk cm sm tb μ β o) {s j : Nat} (h : sm ≤ s) (h8 : s < 8) (hj : j < 8) : β 1 (8 * s + j) = 0 := B.2.2.2.2.2.2.2.2.2.2 s j h h8 hj
theorem e_cz (B : Bk cm sm tb μ β o) {c j : Nat} (h : cm ≤ c) (h8 : c < 8) (hj : j < 8) : β 0 (8 * c + j) = 0 := (B.2.2.2.2.2.2.1 c h h8).1 j hj
theorem e_of (B : Bk cm sm tb μ β o) {c j k : Nat} (h : c < cm) (hj : j < 3) : bt (β 0 (8 * c + 5 + j)) k = true ↔ (k < sm ∧ ¬ μ 15 (16 * c + k) = -1 ∧ nn (μ 15 (16 * c + k)) % 3 = j) := B.2.2.2.2.1 c j k h hj
/-- the lists are such as can be packed -/
theorem q_lt (B : Bk cm sm tb μ β o) (I : Iv cm sm td μ) {c : Nat} (h : c < cm) : ∀ i, i < nn (μ 13 c) → nn (μ 14 (16 * c + i)) < 15 := fun i hi => by
  have h1 := (I.2.2.2.2.2.1 c i h hi).2
  have := B.1
  omega
theorem w_lt (B : Bk cm sm tb μ β o) (I : Iv cm sm td μ) {s : Nat} (h : s < sm) : ∀ i, i < nn (μ 9 s) → nn (μ 10 (6 * s + i)) < 15 := fun i hi => by
  have h1 := (I.2.2.2.1 s i h hi).1.2
  have := B.1
  omega
/-- a list without repetition is no longer than there are students -/
theorem q_len (I : Iv cm sm td μ) {c : Nat} (h : c < cm) : nn (μ 13 c) ≤ sm := by
  refine fb_holes sm (nn (μ 13 c)) (fun i => nn (μ 14 (16 * c + i))) (fun i hi => (I.2.2.2.2.2.1 c i h hi).2) (fun i k hik hk e => ?_)
  have h1 := (I.2.2.2.2.2.1 c i h (by omega)).1
  have h2 := (I.2.2.2.2.2.1 c k h hk).1
  have := I.2.2.2.2.2.2.1 c i k h (by omega) hk (by rw [h1, h2]; exact congrArg nI e)
  omega
theorem k_worth (B : Bk cm sm tb μ β o) (x : Int32) (hx : ∀ k, bt x k = true → k < cm) : f_L_worth β o x = some (wsum μ x cm) := by
  have hd := B.1
  have hst : ∀ k, k < 8 → ∀ v : Int32, b_L_worth_1 β o x (v, nI k) = if bt x k = true then some (.inl (v + β 0 (8 * k + 1), nI (k + 1))) else some (.inl (v, nI (k + 1))) := fun k hk v => by
    show (if (8 : Int32) ≤ nI k then _ else _) = _
    rw [if_neg (n8 hk), k_has (by omega), bd, x8, x8_1, rd0 (by omega), cln (by omega), Int32.add_zero, nI_1]
  have G : gw_it (b_L_worth_1 β o x) 4096 (wsum μ x (min 0 cm), nI 0) = some (wsum μ x cm, nI 8) := by
    refine gw_fun (fun k => (wsum μ x (min k cm), nI k)) (wsum μ x cm, nI 8) 8 (by omega) (fun k hk => ?_) ?_
    · rw [hst k hk]
      rcases Nat.lt_or_ge k cm with h | h
      · rw [show min (k + 1) cm = k + 1 by omega, show min k cm = k by omega, wsum, e_c1 B h]
        cases bt x k <;> rfl
      · rw [show min (k + 1) cm = cm by omega, show min k cm = cm by omega]
        cases e : bt x k
        · rfl
        · have := hx k e; omega
    · have h : ∀ w : Int32, (8 : Int32) ≤ w → b_L_worth_1 β o x (wsum μ x (min 8 cm), w) = some (.inr (wsum μ x (min 8 cm), w)) := fun w hw => by
        show (if (8 : Int32) ≤ w then _ else _) = _
        rw [if_pos hw]
      rw [h _ (by decide), show min 8 cm = cm by omega]
  rw [Nat.zero_min] at G
  unfold f_L_worth
  exact it_bd G rfl
theorem k_inside (B : Bk cm sm tb μ β o) {c : Nat} (hc : c < 32) : f_L_inside β o (nI c) = some (nI (enr μ sm c)) := by
  have hd := B.1
  have G : gw_it (b_L_inside_1 β o (nI c)) 4096 (nI (fb_ct (fun w => bt (β 1 (8 * w + 3)) c) 0), nI 0) = some (nI (fb_ct (fun w => bt (β 1 (8 * w + 3)) c) 8), nI 8) := by
    refine gw_fun (fun k => (nI (fb_ct (fun w => bt (β 1 (8 * w + 3)) c) k), nI k)) _ 8 (by omega) (fun k hk => ?_) ?_
    · show (if (8 : Int32) ≤ nI k then _ else _) = _
      rw [if_neg (n8 hk), x8, x8_3, rd1 (by omega), cln (by omega), k_has hc, bd, Int32.add_zero, nI_1, nI_1, fb_ct_succ]
      cases bt (β 1 (8 * k + 3)) c <;> rfl
    · have h : ∀ v w : Int32, (8 : Int32) ≤ w → b_L_inside_1 β o (nI c) (v, w) = some (.inr (v, w)) := fun v w hw => by
        show (if (8 : Int32) ≤ w then _ else _) = _
        rw [if_pos hw]
      rw [h _ _ (by decide)]
  have e : fb_ct (fun w => bt (β 1 (8 * w + 3)) c) 8 = enr μ sm c := ct_ext (fun k hk => by rw [e_s3 B hk]) 8 hd.2 (fun k h1 h2 => by rw [e_sz B h1 h2 (by omega), b_0])
  rw [e] at G
  unfold f_L_inside
  exact it_bd G rfl
/-- all offers of a course -/
def ofm (β : gw_S) (c : Nat) : Int32 := (β 0 (8 * c + 5) ||| β 0 (8 * c + 6)) ||| β 0 (8 * c + 7)
theorem ofm_bt (B : Bk cm sm tb μ β o) {c k : Nat} (h : c < cm) : bt (ofm β c) k = true ↔ (k < sm ∧ ¬ μ 15 (16 * c + k) = -1) := by
  unfold ofm
  rw [b_or, b_or, Bool.or_eq_true, Bool.or_eq_true, e_of B (j := 0) h (by omega), e_of B (j := 1) h (by omega), e_of B (j := 2) h (by omega)]
  constructor
  · rintro ((⟨a, b, _⟩ | ⟨a, b, _⟩) | ⟨a, b, _⟩) <;> exact ⟨a, b⟩
  · rintro ⟨a, b⟩
    have h3 : nn (μ 15 (16 * c + k)) % 3 = 0 ∨ nn (μ 15 (16 * c + k)) % 3 = 1 ∨ nn (μ 15 (16 * c + k)) % 3 = 2 := by omega
    rcases h3 with h3 | h3 | h3
    · exact Or.inl (Or.inl ⟨a, b, h3⟩)
    · exact Or.inl (Or.inr ⟨a, b, h3⟩)
    · exact Or.inr ⟨a, b, h3⟩
theorem k_offers {c : Nat} (hc : c < 8) : f_L_offers β o (nI c) = some (ofm β c) := by
  unfold f_L_offers ofm
  rw [x8, x8_5, x8_6, x8_7, rd0 (by omega), rd0 (by omega), rd0 (by omega), cln (by omega), cln (by omega), cln (by omega)]
theorem ofm_ct (B : Bk cm sm tb μ β o) {c : Nat} (h : c < cm) : fb_ct (fun i => bt (ofm β c) i) 8 = ofc μ sm c := by
  have hd := B.1
  refine ct_ext (fun k hk => ?_) 8 hd.2 (fun k h1 h2 => ?_)
  · rw [Bool.eq_iff_iff, ofm_bt B h, decide_eq_true_eq]
    exact ⟨fun q => q.2, fun q => ⟨hk, q⟩⟩
  · cases e : bt (ofm β c) k
    · rfl
    · have := (ofm_bt B h).mp e; omega
theorem sub_2 (x a b : Int32) : x - a - b = x - (a + b) := by
  rw [Int32.sub_eq_add_neg, Int32.sub_eq_add_neg, Int32.sub_eq_add_neg, Int32.neg_add, Int32.sub_eq_add_neg, Int32.add_assoc]
theorem k_free (B : Bk cm sm tb μ β o) {c : Nat} (h : c < cm) : f_L_free β o (nI c) = some (fr μ sm c) := by
  have hd := B.1
  unfold f_L_free fr
  rw [x8, rd0 (by omega), k_inside B (by omega), bs, k_offers (by omega), bs, k_many (fun i hi => by have := (ofm_bt B h).mp hi; omega), bs, cln (by omega), ofm_ct B h, e_c0 B h, sub_2, nI_add]
theorem k_hasOff (B : Bk cm sm tb μ β o) {c s : Nat} (h : c < cm) (hs : s < sm) : f_L_has (ofm β c) (nI s) = some (if decide (¬ μ 15 (16 * c + s) = -1) = true then 1 else 0) := by
  have hd := B.1
  rw [k_has (by omega)]
  have e : bt (ofm β c) s = decide (¬ μ 15 (16 * c + s) = -1) := by
    rw [Bool.eq_iff_iff, ofm_bt B h, decide_eq_true_eq]
    exact ⟨fun q => q.2, fun q => ⟨hs, q⟩⟩
  rw [e]
theorem k_obs (R : Rl cm sm τ μ) (B : Bk cm sm tb μ β o) {s c : Nat} (hs : s < sm) (hc : c < cm) (x : Int32) (hx : ∀ k, bt x k = true → k < cm) : f_L_obstacle β o (nI s) (nI c) x = f_X3_obstacleFor τ (24 + s) (4 + c) x := by
  have hd := B.1
  obtain ⟨y, ey, hy⟩ := c_hou R x
  have hst : ∀ k, k < 8 → ∀ v : Int32, b_L_obstacle_1 β o (nI s) (nI c) x (v, nI k) = if bt x k = true then some (.inl (v ||| β 0 (8 * k + 2), nI (k + 1))) else some (.inl (v, nI (k + 1))) := fun k hk v => by
    show (if (8 : Int32) ≤ nI k then _ else _) = _
    rw [if_neg (n8 hk), k_has (by omega), bd, x8, x8_2, rd0 (by omega), cln (by omega), Int32.or_zero, nI_1]
  obtain ⟨t, G, ht⟩ : ∃ t, gw_it (b_L_obstacle_1 β o (nI s) (nI c) x) 4096 ((0 : Int32), (0 : Int32)) = some t ∧ t.1 = y := by
    refine gw_for (fun n q => q.2 = nI n ∧ ∀ i, i < 32 → (bt q.1 i = true ↔ ∃ k, k < n ∧ bt x k = true ∧ bt (μ 3 k) i = true)) _ 8 (by omega) ⟨rfl, fun i hi => ⟨fun h => (by rw [b_0] at h; cases h), fun ⟨k, hk, _⟩ => absurd hk (Nat.not_lt_zero k)⟩⟩ (fun k q hk hI => ?_) (fun q hI => ?_)
    · obtain ⟨v, w⟩ := q
      obtain ⟨rfl, h1⟩ := hI
      rw [hst k hk]
      cases hxk : bt x k
      · refine ⟨_, rfl, rfl, fun i hi => ?_⟩
        rw [h1 i hi]
        constructor
        · rintro ⟨j, hj, h⟩; exact ⟨j, by omega, h⟩
        · rintro ⟨j, hj, h, h2⟩
          refine ⟨j, ?_, h, h2⟩
          rcases Nat.lt_or_ge j k with h4 | h4
          · exact h4
          · rw [show j = k from by omega, hxk] at h; cases h
      · refine ⟨_, rfl, rfl, fun i hi => ?_⟩
        show bt (v ||| β 0 (8 * k + 2)) i = true ↔ _
        rw [e_c2 B (hx k hxk), b_or, Bool.or_eq_true, h1 i hi]
        constructor
        · rintro (⟨j, hj, h⟩ | h)
          · exact ⟨j, by omega, h⟩
          · exact ⟨k, by omega, hxk, h⟩
        · rintro ⟨j, hj, h, h2⟩
          rcases Nat.lt_or_ge j k with h4 | h4
          · exact Or.inl ⟨j, h4, h, h2⟩
          · rw [show j = k from by omega] at h2; exact Or.inr h2
    · obtain ⟨v, w⟩ := q
      obtain ⟨rfl, h1⟩ := hI
      refine ⟨(v, nI 8), ?_, ?_⟩
      · have h : ∀ w : Int32, (8 : Int32) ≤ w → b_L_obstacle_1 β o (nI s) (nI c) x (v, w) = some (.inr (v, w)) := fun w hw => by
          show (if (8 : Int32) ≤ w then _ else _) = _
          rw [if_pos hw]
        rw [h _ (by decide)]
      · refine b_ext (fun i hi => ?_)
        rw [Bool.eq_iff_iff, h1 i hi, hy i hi]
        constructor
        · rintro ⟨j, hj, h, h2⟩; exact ⟨j, hx j h, h, h2⟩
        · rintro ⟨j, hj, h, h2⟩; exact ⟨j, by omega, h, h2⟩
  have hA : f_X3_obstacleFor τ (24 + s) (4 + c) x = if bt (μ 7 s) c = true then some 1 else if bt x c = true then some 2 else if τ (4 + c) 7 &&& (μ 7 s ^^^ (-1 : Int32)) = 0 then (if wsum μ x cm + μ 2 c ≤ μ 6 s then (if y &&& μ 3 c = 0 then some 0 else some 5) else some 4) else some 3 := by
    unfold f_X3_obstacleFor
    rw [r_ci R hc, r_pas R hs, c_isIn (by omega), bd, c_isIn (by omega), bd, c_cre R, bs, r_wor R hc, r_lim R hs, ey, bs, r_hou R hc]
  rw [hA]
  unfold f_L_obstacle
  simp (disch := omega) only [x8, x8_1, x8_2, x8_4, rd0, rd1, cln]
  rw [G, bs, e_s2 B hs, k_has (by omega), bd, k_has (by omega), bd, e_cl R B hc, k_worth B x hx, bs, e_c1 B hc, e_s1 B hs, ht, e_c2 B hc]
theorem k_ob (R : Rl cm sm τ μ) (I : Iv cm sm td μ) (B : Bk cm sm tb μ β o) {s c : Nat} (hs : s < sm) (hc : c < cm) (x : Int32) (hx : ∀ k, bt x k = true → k < cm) : ∃ v, f_L_obstacle β o (nI s) (nI c) x = some v ∧ f_X3_obstacleFor τ (24 + s) (4 + c) x = some v ∧ f_X4_obstacleWith μ (nI s) (nI c) x = some v ∧ (v = 0 ↔ noob cm μ s c x) := by
  obtain ⟨v, h1, h2, h3⟩ := obst R I hs hc x
  exact ⟨v, by rw [k_obs R B hs hc x hx, h1], h1, h2, h3⟩
/-- the waiting list's and the wishes' searches -/
theorem k_wait (B : Bk cm sm tb μ β o) (I : Iv cm sm td μ) {c s : Nat} (h : c < cm) (hs : s < sm) : f_L_place (o c) (nI s) = some (fnd (fun i => μ 14 (16 * c + i)) (nn (μ 13 c)) (nI s)) ∧ f_L_length (o c) = some (μ 13 c) := by
  have hd := B.1
  have hl := q_len I h
  have h13 := (I.2.1 c h).2.2.1
  refine ⟨?_, ?_⟩
  · rw [e_q B h, k_place (q_lt B I h) (by omega) (by omega)]
    unfold fnd pfd
    rw [fa_first_cong (p := fun i => decide (nn (μ 14 (16 * c + i)) = s)) (q := fun i => decide (μ 14 (16 * c + i) = nI s)) (fun i hi => by
      have h1 := (I.2.2.2.2.2.1 c i h hi).1
      rw [decide_eq_decide]
      constructor
      · intro e; rw [h1, e]
      · intro e; rw [e, n_cl])]
  · rw [e_q B h, k_len (q_lt B I h) (by omega)]
    exact congrArg some h13.1.symm
theorem k_wish (B : Bk cm sm tb μ β o) (I : Iv cm sm td μ) {s c : Nat} (h : s < sm) (hc : c < cm) : f_L_place ((β 1 (8 * s + 4)).toInt64) (nI c) = some (fnd (fun i => μ 10 (6 * s + i)) (nn (μ 9 s)) (nI c)) ∧ f_L_length ((β 1 (8 * s + 4)).toInt64) = some (μ 9 s) := by
  have hd := B.1
  have h9 := (I.2.2.1 s h).2.2.1
  have hb := pl_b6 (w_lt B I h) (by have := h9.2; omega)
  refine ⟨?_, ?_⟩
  · rw [e_s4 B h, nI_l (by omega), k_place (w_lt B I h) (by have := h9.2; omega) (by omega)]
    unfold fnd pfd
    rw [fa_first_cong (p := fun i => decide (nn (μ 10 (6 * s + i)) = c)) (q := fun i => decide (μ 10 (6 * s + i) = nI c)) (fun i hi => by
      have h1 := (I.2.2.2.1 s i h hi).1.1
      rw [decide_eq_decide]
      constructor
      · intro e; rw [h1, e]
      · intro e; rw [e, n_cl])]
  · rw [e_s4 B h, nI_l (by omega), k_len (w_lt B I h) (by have := h9.2; omega)]
    exact congrArg some h9.1.symm
end bk
