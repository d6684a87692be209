/-! THE LAW'S TURNS: each goes on -/
theorem nI_any (y : Int32) : ∃ n, y = nI n := by
  refine ⟨y.toBitVec.toNat, Int32.toBitVec_inj.1 ?_⟩
  show y.toBitVec = BitVec.ofNat 32 y.toBitVec.toNat
  apply BitVec.eq_of_toNat_eq
  rw [BitVec.toNat_ofNat, Nat.mod_eq_of_lt y.toBitVec.isLt]
theorem nI_31 (y : Int32) : ∃ x, x < 2 ^ 31 ∧ y &&& (2147483647 : Int32) = nI x := by
  obtain ⟨n, rfl⟩ := nI_any y
  exact ⟨n % 2 ^ 31, Nat.mod_lt _ (by decide), fa_mask n 31⟩
section bq
variable {j cm sm td tb len : Nat} {τ μ β : gw_S} {o : Nat → Int64} {xs : Nat → Int32}
/-- what holds before turn j -/
def Ls (j : Nat) (q : gw_S × gw_S × (Nat → Int64) × Int32 × Int32) : Prop := q.2.2.2.1 = 1 ∧ q.2.2.2.2 = nI j ∧ ∃ cm sm td μ, St j cm sm td q.1 μ q.2.1 q.2.2.1 ∧ (j < 10 → cm = (j + 1) / 2 ∧ sm = j / 2) ∧ (10 ≤ j → 5 ≤ cm ∧ 5 ≤ sm)
theorem l_rem {x d n : Nat} {D N : Int32} (hD : D = nI d) (hN : N = nI n) (hx : x < 2 ^ 31) (hd : 0 < d) (hd2 : d < 2 ^ 31) (hn : 0 < n) (hn2 : n < 2 ^ 31) : (nI x / D) - (nI x / D) / N * N = nI (x / d % n) := by
  subst hD hN
  have h2 : x / d ≤ x := Nat.div_le_self _ _
  rw [pk_div hx hd hd2, pk_rem (by omega) hn hn2]
theorem c476 (h : St j cm sm td τ μ β o) (hc : 1 ≤ cm) {x : Nat} (hx : x < 2 ^ 31) (v7 : Int32) : j_L_law_476 xs len τ β o 1 v7 (nI x) = some (.inl (τ, β, o, 1, v7 + 1)) := by
  have B := h.2.2.2.2.2.2.2
  have hB := B.1
  unfold j_L_law_476
  rw [if_neg n10, k_courses h, bs, if_neg n10, k_students h, bs, if_neg n10, rd21, cl1, e_n1 B]
  by_cases hs : sm = 0
  · subst hs
    rw [if_pos (show nI 0 = (0 : Int32) from rfl)]
    rfl
  · have m1 : x / 7 % sm < sm := Nat.mod_lt _ (by omega)
    have m2 : x / 11 % cm < cm := Nat.mod_lt _ (by omega)
    rw [if_neg (show ¬ nI sm = (0 : Int32) from nI_ne0 (by omega) (by omega)), rd21, if_neg (show ¬ nI sm = (0 : Int32) from nI_ne0 (by omega) (by omega)), rd20, cl0, e_n0 B, if_neg (show ¬ nI cm = (0 : Int32) from nI_ne0 (by omega) (by omega)), l_rem (D := (7 : Int32)) (N := nI sm) (d := 7) (n := sm) rfl rfl hx (by omega) (by omega) (by omega) (by omega), l_rem (D := (11 : Int32)) (N := nI cm) (d := 11) (n := cm) rfl rfl hx (by omega) (by omega) (by omega) (by omega), k_of h m1 m2, bs, if_neg n10]
    rfl
theorem c424 {k a b d : Int32} (h : Go j cm sm τ β o k a b d) (hc : 1 ≤ cm) {x : Nat} (hx : x < 2 ^ 31) (v7 : Int32) : ∃ τ' μ' β' o' td', j_L_law_424 xs len τ β o v7 (nI x) k a b d = some (.inl (τ', β', o', 1, v7 + 1)) ∧ St (j + 1) cm sm td' τ' μ' β' o' := by
  obtain ⟨v, β1, o1, β2, τ', μ', td', h1, h2, h3, S⟩ := h
  refine ⟨τ', μ', β2, o1, td', ?_, S⟩
  unfold j_L_law_424
  rw [h1, bs]
  dsimp only
  rw [h2, bs, h3, bs, if_pos rfl, c476 S hc hx]
theorem goAll (hj : j < 500) (h : St j cm sm td τ μ β o) {k s c b : Nat} (hk : k < 15) (h2 : 2 ≤ k) (h10 : k ≠ 10) (h11 : k ≠ 11) (hs : s < sm) (hc : c < cm) (hb : b < cm) : Go j cm sm τ β o (nI k) (nI s) (nI c) (nI b) := by
  rcases (show k = 2 ∨ k = 3 ∨ k = 4 ∨ k = 5 ∨ k = 6 ∨ k = 7 ∨ k = 8 ∨ k = 9 ∨ k = 12 ∨ k = 13 ∨ k = 14 by omega) with rfl | rfl | rfl | rfl | rfl | rfl | rfl | rfl | rfl | rfl | rfl
  · exact go_pass hj h hs hc
  · exact go_wish hj h hs hc
  · exact go_dropWish hj h hs hc
  · exact go_request hj h hs hc
  · exact go_drop hj h hs hc
  · exact go_change hj h hs hc hb
  · exact go_accept hj h hs hc
  · exact go_leave hj h hs hc
  · exact go_putUp hj h hs hc
  · exact go_withdraw hj h hs
  · exact go_exchange hj h
theorem k_isOf (I : Iv cm sm td μ) (B : Bk cm sm tb μ β o) {s c : Nat} (hs : s < sm) (hc : c < cm) (k : Int32) : ∃ r, f_L_isOf β o k (nI s) (nI c) = some r := by
  have hB := B.1
  have h1 : ∀ x : Int32, ∃ r, ((f_L_has x (nI c)).bind fun r2 => if r2 = 0 ∨ r2 = 1 then some r2 else none) = some r := fun x => by
    rw [k_has (by omega), bs]
    cases bt x c
    · exact ⟨0, rfl⟩
    · exact ⟨1, rfl⟩
  unfold f_L_isOf
  rw [x8, x8_3, rd1 (by omega), cln (by omega)]
  by_cases h6 : k = 6
  · rw [if_pos h6]; exact h1 _
  · rw [if_neg h6]
    by_cases h7 : k = 7
    · rw [if_pos h7]; exact h1 _
    · rw [if_neg h7]
      by_cases h12 : k = 12
      · rw [if_pos h12]; exact h1 _
      · rw [if_neg h12]
        by_cases h8 : k = 8
        · rw [if_pos h8, k_offers (by omega), bs, k_hasOff B hc hs, bs]
          cases decide (¬ μ 15 (16 * c + s) = -1)
          · exact ⟨0, rfl⟩
          · exact ⟨1, rfl⟩
        · rw [if_neg h8]
          by_cases h9 : k = 9
          · rw [if_pos h9, rdq (by omega), cln (by omega), (k_wait B I hc hs).1, bs]
            split
            · exact ⟨_, rfl⟩
            · exact ⟨_, rfl⟩
          · rw [if_neg h9]; exact ⟨_, rfl⟩
theorem c_find (I : Iv cm sm td μ) (B : Bk cm sm tb μ β o) {s c : Nat} (hs : s < sm) (hc : c < cm) (v7 v8 v9 v12 : Int32) : ∃ c' w, gw_it (b_L_law_1 τ β o v7 v8 v9 (nI s) v12) 4096 (nI c, (0 : Int32)) = some (nI c', w) ∧ c' < cm := by
  have hB := B.1
  obtain ⟨⟨v, w⟩, G, c', e, hc'⟩ := gw_run0 (b := b_L_law_1 τ β o v7 v8 v9 (nI s) v12) (s := (nI c, (0 : Int32))) (fun k q => q.2 = nI k ∧ ∃ c, q.1 = nI c ∧ c < cm) (fun q => ∃ c, q.1 = nI c ∧ c < cm) cm (by omega) ⟨rfl, c, rfl, hc⟩ (fun k q hk hI => by
    obtain ⟨v, w⟩ := q
    obtain ⟨e, c, e2, hc⟩ := hI
    have e : w = nI k := e
    have e2 : v = nI c := e2
    subst e e2
    have hst : b_L_law_1 τ β o v7 v8 v9 (nI s) v12 (nI c, nI k) = if nI cm ≤ nI k then some (.inr (nI c, nI k)) else if (v8 - v8 / (5 : Int32) * (5 : Int32)) ≤ 0 then some (.inr (nI c, nI k)) else (f_L_isOf β o v9 (nI s) (nI c)).bind fun r20 => if r20 = 0 then some (.inl (nI ((c + 1) % cm), nI (k + 1))) else some (.inr (nI c, nI k)) := by
      rw [b_L_law_1, rd20, cl0, e_n0 B, rd20, if_neg (show ¬ nI cm = (0 : Int32) from nI_ne0 (by omega) (by omega)), nI_1, nI_1, pk_rem (by omega) (by omega) (by omega)]
    rw [hst]
    by_cases h1 : nI cm ≤ nI k
    · rw [if_pos h1]; exact Or.inl ⟨_, rfl, c, rfl, hc⟩
    · rw [if_neg h1]
      by_cases h2 : (v8 - v8 / (5 : Int32) * (5 : Int32)) ≤ 0
      · rw [if_pos h2]; exact Or.inl ⟨_, rfl, c, rfl, hc⟩
      · rw [if_neg h2]
        obtain ⟨r, hr⟩ := k_isOf I B hs hc v9
        rw [hr, bs]
        by_cases h3 : r = 0
        · rw [if_pos h3]
          refine Or.inr ⟨?_, _, rfl, rfl, _, rfl, Nat.mod_lt _ (by omega)⟩
          rcases Nat.lt_or_ge k cm with h | h
          · exact h
          · exact absurd (n_le h (by omega)) h1
        · rw [if_neg h3]; exact Or.inl ⟨_, rfl, c, rfl, hc⟩)
  have e : v = nI c' := e
  subst e
  exact ⟨c', w, G, hc'⟩
theorem c262 (hj : j < 500) (h : St j cm sm td τ μ β o) (hc : 1 ≤ cm) (hs : 1 ≤ sm) {x k : Nat} (hx : x < 2 ^ 31) (hk : k < 15) (v7 : Int32) : ∃ τ' μ' β' o' td', j_L_law_262 xs len τ β o v7 (nI x) (nI k) = some (.inl (τ', β', o', 1, v7 + 1)) ∧ St (j + 1) cm sm td' τ' μ' β' o' := by
  obtain ⟨-, -, -, -, I, -, -, B⟩ := id h
  have hB := B.1
  have ms : x / 41 % sm < sm := Nat.mod_lt _ (by omega)
  have mc : x / 328 % cm < cm := Nat.mod_lt _ (by omega)
  have mb : x / 2624 % cm < cm := Nat.mod_lt _ (by omega)
  have m7 : x / 41 % 7 < 7 := Nat.mod_lt _ (by omega)
  have m17 : x / 328 % 17 < 17 := Nat.mod_lt _ (by omega)
  have z1 : ¬ nI sm = (0 : Int32) := nI_ne0 (by omega) (by omega)
  have z0 : ¬ nI cm = (0 : Int32) := nI_ne0 (by omega) (by omega)
  unfold j_L_law_262
  rw [rd21, cl1, e_n1 B, if_neg z1, rd20, cl0, e_n0 B, if_neg z0, rd20, if_neg z0, l_rem (D := (41 : Int32)) (N := nI sm) (d := 41) (n := sm) rfl rfl hx (by omega) (by omega) (by omega) (by omega), l_rem (D := (328 : Int32)) (N := nI cm) (d := 328) (n := cm) rfl rfl hx (by omega) (by omega) (by omega) (by omega), l_rem (D := (2624 : Int32)) (N := nI cm) (d := 2624) (n := cm) rfl rfl hx (by omega) (by omega) (by omega) (by omega), l_rem (D := (41 : Int32)) (N := (7 : Int32)) (d := 41) (n := 7) rfl rfl hx (by omega) (by omega) (by omega) (by omega), l_rem (D := (328 : Int32)) (N := (17 : Int32)) (d := 328) (n := 17) rfl rfl hx (by omega) (by omega) (by omega) (by omega)]
  by_cases h2 : 2 ≤ k
  · rw [if_pos (show (2 : Int32) ≤ nI k from n_le (k := 2) h2 (by omega))]
    by_cases h10 : k = 10
    · subst h10
      rw [if_pos (show nI 10 = (10 : Int32) from rfl), show (1 : Int32) + nI (x / 41 % 7) = nI (1 + x / 41 % 7) from nI_add 1 _]
      exact c424 (go_advance hj h (by omega) (by omega)) hc hx v7
    · rw [if_neg (show ¬ nI k = (10 : Int32) from fun e => h10 (nI_inj (b := 10) e (by omega) (by omega)))]
      by_cases h11 : k = 11
      · subst h11
        rw [if_pos (show nI 11 = (11 : Int32) from rfl)]
        exact c424 (go_lottery hj h hx) hc hx v7
      · rw [if_neg (show ¬ nI k = (11 : Int32) from fun e => h11 (nI_inj (b := 11) e (by omega) (by omega)))]
        obtain ⟨c', w, G, hc'⟩ := c_find (τ := τ) I B ms mc v7 (nI x) (nI k) (nI (x / 2624 % cm))
        rw [G, bs]
        exact c424 (goAll hj h hk h2 h10 h11 ms hc' mb) hc hx v7
  · rw [if_neg (show ¬ (2 : Int32) ≤ nI k from n_lt (n := 2) (by omega) (by omega))]
    by_cases h0 : k = 0
    · subst h0
      rw [if_pos (show nI 0 = (0 : Int32) from rfl)]
      exact c424 (go_setSeats hj h mb (by omega)) hc hx v7
    · have : k = 1 := by omega
      subst this
      rw [if_neg (show ¬ nI 1 = (0 : Int32) by decide)]
      exact c424 (go_addPre hj h mb mc) hc hx v7
theorem c196 (hj : j < 500) (h : St j cm sm td τ μ β o) (hc : 1 ≤ cm) (hs : 1 ≤ sm) {x : Nat} (hx : x < 2 ^ 31) (v7 : Int32) : ∃ τ' μ' β' o' td', j_L_law_196 xs len τ β o v7 (nI x) = some (.inl (τ', β', o', 1, v7 + 1)) ∧ St (j + 1) cm sm td' τ' μ' β' o' := by
  have m : x % 41 < 41 := Nat.mod_lt _ (by omega)
  have e : nI x - nI x / (41 : Int32) * (41 : Int32) = nI (x % 41) := pk_rem (d := 41) (by omega) (by decide) (by decide)
  unfold j_L_law_196
  rw [e]
  by_cases h6 : 6 ≤ x % 41
  · rw [if_pos (show (6 : Int32) ≤ nI (x % 41) from n_le (k := 6) h6 (by omega))]
    by_cases h12 : 12 ≤ x % 41
    · rw [if_pos (show (12 : Int32) ≤ nI (x % 41) from n_le (k := 12) h12 (by omega))]
      by_cases h15 : 15 ≤ x % 41
      · rw [if_pos (show (15 : Int32) ≤ nI (x % 41) from n_le (k := 15) h15 (by omega))]
        by_cases h37 : x % 41 ≤ 37
        · have e2 : nI (x % 41) - nI (x % 41) / (15 : Int32) * (15 : Int32) = nI (x % 41 % 15) := pk_rem (d := 15) (by omega) (by decide) (by decide)
          rw [if_pos (show nI (x % 41) ≤ (37 : Int32) from n_le (n := 37) h37 (by omega)), e2]
          exact c262 hj h hc hs hx (Nat.mod_lt _ (by omega)) v7
        · rw [if_neg (show ¬ nI (x % 41) ≤ (37 : Int32) from nI_ge (a := 37) (by omega) (by omega))]
          exact c262 (k := 14) hj h hc hs hx (by omega) v7
      · rw [if_neg (show ¬ (15 : Int32) ≤ nI (x % 41) from n_lt (n := 15) (by omega) (by omega))]
        exact c262 (k := 12) hj h hc hs hx (by omega) v7
    · rw [if_neg (show ¬ (12 : Int32) ≤ nI (x % 41) from n_lt (n := 12) (by omega) (by omega))]
      exact c262 (k := 5) hj h hc hs hx (by omega) v7
  · rw [if_neg (show ¬ (6 : Int32) ≤ nI (x % 41) from n_lt (n := 6) (by omega) (by omega))]
    exact c262 (k := 3) hj h hc hs hx (by omega) v7
theorem c93 {q : gw_S × gw_S × (Nat → Int64) × Int32 × Int32} (hj : j < 100) (h : Ls j q) {x : Nat} (hx : x < 2 ^ 31) : ∃ q', j_L_law_93 xs len q.1 q.2.1 q.2.2.1 (nI j) (nI x) = some (.inl q') ∧ Ls (j + 1) q' := by
  obtain ⟨τ, β, o, is, t⟩ := q
  obtain ⟨h1, h2, cm, sm, td, μ, S, hl, hg⟩ := h
  have S : St j cm sm td τ μ β o := S
  obtain ⟨-, -, -, -, I, -, -, B⟩ := id S
  have hB := B.1
  have hx82 : x / 82 < 2 ^ 31 := by have : x / 82 ≤ x := Nat.div_le_self _ _; omega
  have e82 : nI x / (82 : Int32) = nI (x / 82) := pk_div (d := 82) hx (by omega) (by omega)
  have e41 : nI x - nI x / (41 : Int32) * (41 : Int32) = nI (x % 41) := pk_rem (d := 41) (by omega) (by decide) (by decide)
  have e2 : (nI x / (41 : Int32)) - (nI x / (41 : Int32)) / (2 : Int32) * (2 : Int32) = nI (x / 41 % 2) := l_rem (D := (41 : Int32)) (N := (2 : Int32)) (d := 41) (n := 2) rfl rfl hx (by omega) (by omega) (by omega) (by omega)
  have m2 : x / 41 % 2 < 2 := Nat.mod_lt _ (by omega)
  show ∃ q', j_L_law_93 xs len τ β o (nI j) (nI x) = some (.inl q') ∧ Ls (j + 1) q'
  have more0 : sm < 8 → 1 ≤ cm → (j + 1 < 10 → cm = (j + 1 + 1) / 2 ∧ sm + 1 = (j + 1) / 2) → (10 ≤ j + 1 → 5 ≤ cm ∧ 5 ≤ sm + 1) → ∃ q', ((f_L_adds τ β o (nI (x / 82)) 0).bind fun r1 => j_L_law_476 xs len r1.2.1 r1.2.2.1 r1.2.2.2 r1.1 (nI j) (nI x)) = some (.inl q') ∧ Ls (j + 1) q' := fun hs hc a1 a2 => by
    obtain ⟨τ', μ', β', g, S'⟩ := k_add0 (j := j) (by omega) S hs hx82
    refine ⟨(τ', β', o, 1, nI j + 1), ?_, rfl, nI_1 j, cm, sm + 1, td, μ', S', a1, a2⟩
    rw [g, bs]
    exact c476 S' hc hx _
  have more1 : cm < 8 → (j + 1 < 10 → cm + 1 = (j + 1 + 1) / 2 ∧ sm = (j + 1) / 2) → (10 ≤ j + 1 → 5 ≤ cm + 1 ∧ 5 ≤ sm) → ∃ q', ((f_L_adds τ β o (nI (x / 82)) 1).bind fun r1 => j_L_law_476 xs len r1.2.1 r1.2.2.1 r1.2.2.2 r1.1 (nI j) (nI x)) = some (.inl q') ∧ Ls (j + 1) q' := fun hc a1 a2 => by
    obtain ⟨τ', μ', β', g, S'⟩ := k_add1 (j := j) (by omega) S hc hx82
    refine ⟨(τ', β', o, 1, nI j + 1), ?_, rfl, nI_1 j, cm + 1, sm, td, μ', S', a1, a2⟩
    rw [g, bs]
    exact c476 S' (by omega) hx _
  have deed : 10 ≤ j → ∃ q', j_L_law_196 xs len τ β o (nI j) (nI x) = some (.inl q') ∧ Ls (j + 1) q' := fun h10 => by
    have := hg h10
    obtain ⟨τ', μ', β', o', td', g, S'⟩ := c196 (xs := xs) (len := len) (j := j) (by omega) S (by omega) (by omega) hx (nI j)
    exact ⟨_, g, rfl, nI_1 j, cm, sm, td', μ', S', fun h => by omega, fun _ => by omega⟩
  unfold j_L_law_93
  by_cases h10 : j < 10
  · have hl := hl h10
    rw [if_pos (show nI j < (10 : Int32) from nI_lt (b := 10) h10 (by omega))]
    unfold j_L_law_141
    have e3 : nI j - nI j / (2 : Int32) * (2 : Int32) = nI (j % 2) := pk_rem (d := 2) (by omega) (by decide) (by decide)
    have m3 : j % 2 < 2 := Nat.mod_lt _ (by omega)
    rw [if_neg (show ¬ (10 : Int32) ≤ nI j from n_lt (n := 10) h10 (by omega)), e3, e82]
    by_cases h0 : j % 2 = 0
    · rw [h0, if_pos (show nI 0 = (0 : Int32) from rfl)]
      exact more1 (by omega) (fun _ => by omega) (fun _ => by omega)
    · rw [if_neg (show ¬ nI (j % 2) = (0 : Int32) from nI_ne0 (by omega) (by omega))]
      exact more0 (by omega) (by omega) (fun _ => by omega) (fun _ => by omega)
  · have hg' := hg (by omega)
    rw [if_neg (show ¬ nI j < (10 : Int32) from fun q => (fa_of_lt q).2.1 (n_le (k := 10) (by omega) (by omega))), e41, e2]
    by_cases h0 : x % 41 = 0
    · rw [h0, if_pos (show nI 0 = (0 : Int32) from rfl)]
      by_cases h1 : x / 41 % 2 = 0
      · rw [h1, if_pos (show nI 0 = (0 : Int32) from rfl), rd20, cl0, e_n0 B]
        by_cases h8 : 8 ≤ cm
        · rw [if_pos (show (8 : Int32) ≤ nI cm from n_le (k := 8) h8 (by omega))]
          exact deed (by omega)
        · rw [if_neg (show ¬ (8 : Int32) ≤ nI cm from n_lt (n := 8) (by omega) (by omega))]
          unfold j_L_law_141
          rw [if_pos (show (10 : Int32) ≤ nI j from n_le (k := 10) (by omega) (by omega)), e2, h1, if_pos (show nI 0 = (0 : Int32) from rfl), e82]
          exact more1 (by omega) (fun _ => by omega) (fun _ => by omega)
      · rw [if_neg (show ¬ nI (x / 41 % 2) = (0 : Int32) from nI_ne0 (by omega) (by omega)), rd21, cl1, e_n1 B]
        by_cases h8 : 8 ≤ sm
        · rw [if_pos (show (8 : Int32) ≤ nI sm from n_le (k := 8) h8 (by omega))]
          exact deed (by omega)
        · rw [if_neg (show ¬ (8 : Int32) ≤ nI sm from n_lt (n := 8) (by omega) (by omega))]
          unfold j_L_law_141
          rw [if_pos (show (10 : Int32) ≤ nI j from n_le (k := 10) (by omega) (by omega)), e2, if_neg (show ¬ nI (x / 41 % 2) = (0 : Int32) from nI_ne0 (by omega) (by omega)), e82]
          exact more0 (by omega) (by omega) (fun _ => by omega) (fun _ => by omega)
    · rw [if_neg (show ¬ nI (x % 41) = (0 : Int32) from nI_ne0 (by omega) (by omega))]
      exact deed (by omega)
theorem law_turn (hlen : len < 2 ^ 31) {q : gw_S × gw_S × (Nat → Int64) × Int32 × Int32} (hj : j < 100) (h : Ls j q) : ∃ q', b_L_law xs len q = some (.inl q') ∧ Ls (j + 1) q' := by
  obtain ⟨τ, β, o, is, t⟩ := q
  have h1 : is = 1 := h.1
  have h2 : t = nI j := h.2.1
  subst h1 h2
  rw [b_L_law, if_neg (show ¬ (100 : Int32) ≤ nI j from n_lt (n := 100) hj (by omega)), if_neg n10]
  rcases Nat.lt_or_ge j len with hl | hl
  · obtain ⟨x, hx, e⟩ := nI_31 (xs (nI j).toNatClampNeg)
    rw [if_neg (show ¬ Int32.ofNat len ≤ nI j from n_lt hl hlen), if_pos (show gw_ib (nI j) len = true from ib_ok hl hlen), e]
    exact c93 hj h hx
  · obtain ⟨x, hx, e⟩ := nI_31 ((((69069 : Int32) * nI j) * nI j) + ((40503 : Int32) * nI j) + (17 : Int32))
    rw [if_pos (show Int32.ofNat len ≤ nI j from n_le hl (by omega)), e]
    exact c93 hj h hx
theorem law_end {q : gw_S × gw_S × (Nat → Int64) × Int32 × Int32} (h : Ls 100 q) : b_L_law xs len q = some (.inr q) := by
  obtain ⟨τ, β, o, is, t⟩ := q
  have h2 : t = nI 100 := h.2.1
  subst h2
  rw [b_L_law, if_pos (show (100 : Int32) ≤ nI 100 by decide)]
/-- the office and the book at the start -/
theorem Ls_0 {τ μ β : gw_S} {o : Nat → Int64} (hI : Inv 0 τ μ) (hb : ∀ k i, k < 3 → β k i = 0) (ho : ∀ i, o i = 0) (h17 : μ 0 17 = 0) (h00 : μ 0 0 = 0) (h05 : μ 0 5 = 0) : St 0 0 0 0 τ μ β o := by
  obtain ⟨cm, sm, td, k7, kd, R, I, F, S⟩ := hI
  have h20 := R.1
  have e1 : cm = 0 := nI_inj (b := 0) ((r_cm' R).symm.trans h00) (by omega) (by omega)
  have e2 : sm = 0 := nI_inj (b := 0) ((r_sm' R).symm.trans h05) (by omega) (by omega)
  have e3 : td = 0 := by omega
  subst e1 e2 e3
  refine ⟨k7, by omega, kd, R, I, F, S, ⟨by omega, by omega⟩, ⟨hb 2 0 (by omega), hb 2 1 (by omega), hb 2 2 (by omega)⟩, fun c j hc => absurd hc (Nat.not_lt_zero c), fun c k hc => absurd hc (Nat.not_lt_zero c), fun c j k hc => absurd hc (Nat.not_lt_zero c), fun c hc => absurd hc (Nat.not_lt_zero c), fun c _ _ => ⟨fun j _ => hb 0 _ (by omega), ho c⟩, fun s j hs => absurd hs (Nat.not_lt_zero s), fun s hs => absurd hs (Nat.not_lt_zero s), fun s hs => absurd hs (Nat.not_lt_zero s), fun s j _ _ _ => hb 1 _ (by omega)⟩
end bq
