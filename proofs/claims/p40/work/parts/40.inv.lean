/-! THE INVARIANT: what the class's state τ and the reference's state μ have to do with each other, between the calls. nn x: an int as a number. Arrays of the reference: 1 seats, 2 worths, 3 hours, 4 directs, 5 bands, 6 limits, 7 passed, 8 taken, 9 wishMany, 10 wished, 11 ups, 12 lots, 13 waitMany, 14 waitList, 15 offered. -/
abbrev nn (x : Int32) : Nat := x.toNatClampNeg
/-- x is a number below n -/
def lt_ (x : Int32) (n : Nat) : Prop := x = nI (nn x) ∧ nn x < n
/-- paths of prerequisites: of n + 1 steps -/
def pth (D : Nat → Int32) : Nat → Nat → Nat → Prop
  | 0, c, k => bt (D c) k = true
  | n + 1, c, k => ∃ m, bt (D c) m = true ∧ pth D n m k
def rch (D : Nat → Int32) (c k : Nat) : Prop := ∃ n, pth D n c k
/-- how many are enrolled; how many offers there are -/
def enr (μ : gw_S) (sm c : Nat) : Nat := fb_ct (fun s => bt (μ 8 s) c) sm
def ofc (μ : gw_S) (sm c : Nat) : Nat := fb_ct (fun s => decide (¬ μ 15 (16 * c + s) = -1)) sm
/-- s stands on the list of c -/
def onl (μ : gw_S) (c s : Nat) : Prop := ∃ i, i < nn (μ 13 c) ∧ μ 14 (16 * c + i) = nI s
/-- where the reference keeps what the class keeps in cell k, slot i -/
def gm (k i : Nat) : Nat × Nat :=
  if k < 24 then (i - 2, k - 4)
  else if k < 40 then (if i < 6 then i + 3 else if i = 6 then 12 else 11, k - 24)
  else if k < 60 then (13, k - 40)
  else if k < 76 then (9, k - 60)
  else if k < 96 then (14, 16 * (k - 76) + i)
  else if k < 112 then (10, 6 * (k - 96) + i)
  else (15, 16 * (k - 112) + i)
/-- the cells and slots of which that is said -/
def lv (cm sm k i : Nat) : Prop := (4 ≤ k ∧ k < 4 + cm ∧ 3 ≤ i ∧ i ≤ 6) ∨ (24 ≤ k ∧ k < 24 + sm ∧ 2 ≤ i ∧ i ≤ 7) ∨ (40 ≤ k ∧ k < 40 + cm ∧ i = 1) ∨ (60 ≤ k ∧ k < 60 + sm ∧ i = 1) ∨ (76 ≤ k ∧ k < 96 ∧ i < 16) ∨ (96 ≤ k ∧ k < 112 ∧ i < 6) ∨ (112 ≤ k ∧ k < 112 + cm ∧ i < sm)
/-- the correspondence of the two states -/
def Rl (cm sm : Nat) (τ μ : gw_S) : Prop :=
  (cm ≤ 20 ∧ sm ≤ 16) ∧
  (τ 0 2 = nI cm ∧ τ 0 3 = nI sm ∧ μ 0 0 = nI cm ∧ μ 0 5 = nI sm ∧ τ 0 4 = μ 0 17) ∧
  ((∀ c, c < 20 → τ (4 + c) 0 = nI c) ∧ ∀ s, s < 16 → τ (24 + s) 0 = nI s) ∧
  (∀ k i, lv cm sm k i → τ k i = μ (gm k i).1 (gm k i).2) ∧
  (∀ c, cm ≤ c → c < 20 → τ (4 + c) 6 = 0 ∧ τ (4 + c) 7 = 0 ∧ τ (40 + c) 1 = 0) ∧
  (∀ s, sm ≤ s → s < 16 → τ (24 + s) 4 = 0 ∧ τ (24 + s) 5 = 0 ∧ τ (24 + s) 6 = -1 ∧ τ (24 + s) 7 = -1 ∧ τ (60 + s) 1 = 0) ∧
  (∀ c s, c < 20 → s < 16 → cm ≤ c ∨ sm ≤ s → τ (112 + c) s = -1) ∧
  (∀ c k, c < cm → k < 32 → (bt (τ (4 + c) 7) k = true ↔ rch (μ 4) c k))
/-- the reference's own: ranges, lists without repetition, offers on the list and not too old -/
def Iv (cm sm td : Nat) (μ : gw_S) : Prop :=
  (td ≤ 4000 ∧ (μ 0 17 = nI td ∨ μ 0 17 = nI (td + 1))) ∧
  (∀ c, c < cm → lt_ (μ 1 c) 17 ∧ lt_ (μ 2 c) 13 ∧ lt_ (μ 13 c) 17 ∧ ∀ k, bt (μ 4 c) k = true → k < cm) ∧
  (∀ s, s < sm → lt_ (μ 5 s) 4 ∧ lt_ (μ 6 s) 41 ∧ lt_ (μ 9 s) 7 ∧ (∀ k, bt (μ 7 s) k = true → k < cm) ∧ ∀ k, bt (μ 8 s) k = true → k < cm) ∧
  (∀ s i, s < sm → i < nn (μ 9 s) → lt_ (μ 10 (6 * s + i)) cm ∧ bt (μ 8 s) (nn (μ 10 (6 * s + i))) = false) ∧
  (∀ s i j, s < sm → i < nn (μ 9 s) → j < nn (μ 9 s) → μ 10 (6 * s + i) = μ 10 (6 * s + j) → i = j) ∧
  (∀ c i, c < cm → i < nn (μ 13 c) → lt_ (μ 14 (16 * c + i)) sm) ∧
  (∀ c i j, c < cm → i < nn (μ 13 c) → j < nn (μ 13 c) → μ 14 (16 * c + i) = μ 14 (16 * c + j) → i = j) ∧
  (∀ c s, c < cm → s < sm → μ 15 (16 * c + s) = -1 ∨ (lt_ (μ 15 (16 * c + s)) (td + 1) ∧ td ≤ nn (μ 15 (16 * c + s)) + 2 ∧ onl μ c s)) ∧
  (∀ s, s < sm → μ 11 s = -1 ∨ (lt_ (μ 11 s) cm ∧ bt (μ 8 s) (nn (μ 11 s)) = true)) ∧
  (∀ c, c < cm → ¬ rch (μ 4) c c)
/-- no course is overfull -/
def Fr (cm sm : Nat) (μ : gw_S) : Prop := ∀ c, c < cm → enr μ sm c + ofc μ sm c ≤ nn (μ 1 c)
/-- the credits of a set -/
def wsum (μ : gw_S) (x : Int32) : Nat → Int32
  | 0 => 0
  | n + 1 => if bt x n = true then wsum μ x n + μ 2 n else wsum μ x n
/-- nothing stands in the way of student s for course c, taken being x -/
def noob (cm : Nat) (μ : gw_S) (s c : Nat) (x : Int32) : Prop := bt (μ 7 s) c = false ∧ bt x c = false ∧ (∀ k, k < 32 → rch (μ 4) c k → bt (μ 7 s) k = true) ∧ wsum μ x cm + μ 2 c ≤ μ 6 s ∧ ∀ k, k < cm → bt x k = true → μ 3 k &&& μ 3 c = 0
/-- all offers are made -/
def Sb (cm sm : Nat) (μ : gw_S) : Prop := ∀ c s, c < cm → s < sm → onl μ c s → μ 15 (16 * c + s) = -1 → enr μ sm c + ofc μ sm c < nn (μ 1 c) → ¬ noob cm μ s c (μ 8 s)
/-- between the calls, after j of them -/
def Inv (j : Nat) (τ μ : gw_S) : Prop := ∃ cm sm td : Nat, td ≤ 7 * j ∧ μ 0 17 = nI td ∧ Rl cm sm τ μ ∧ Iv cm sm td μ ∧ Fr cm sm μ ∧ Sb cm sm μ
/-- the states behind the constructors -/
def τ0 : gw_S := fun k i => if 4 ≤ k ∧ k < 24 then (if i = 0 then nI (k - 4) else 0) else if 24 ≤ k ∧ k < 40 then (if i = 0 then nI (k - 24) else if 6 ≤ i ∧ i < 10 then -1 else 0) else if 112 ≤ k ∧ k < 132 then cn_fill 16 i else 0
def μ0 : gw_S := fun _ _ => 0
theorem Inv_0 : Inv 0 τ0 μ0 := by
  refine ⟨0, 0, 0, Nat.le_refl 0, rfl, ⟨⟨by omega, by omega⟩, ⟨rfl, rfl, rfl, rfl, rfl⟩, ⟨fun c hc => ?_, fun s hs => ?_⟩, fun k i h => ?_, fun c _ hc => ?_, fun s _ hs => ?_, fun c s hc hs _ => ?_, fun c k hc => absurd hc (Nat.not_lt_zero c)⟩, ⟨⟨by omega, Or.inl rfl⟩, fun c hc => absurd hc (Nat.not_lt_zero c), fun s hs => absurd hs (Nat.not_lt_zero s), fun s i hs => absurd hs (Nat.not_lt_zero s), fun s i j hs => absurd hs (Nat.not_lt_zero s), fun c i hc => absurd hc (Nat.not_lt_zero c), fun c i j hc => absurd hc (Nat.not_lt_zero c), fun c s hc => absurd hc (Nat.not_lt_zero c), fun s hs => absurd hs (Nat.not_lt_zero s), fun c hc => absurd hc (Nat.not_lt_zero c)⟩, fun c hc => absurd hc (Nat.not_lt_zero c), fun c s hc => absurd hc (Nat.not_lt_zero c)⟩
  · unfold τ0
    rw [if_pos (by omega), if_pos rfl, Nat.add_sub_cancel_left]
  · unfold τ0
    rw [if_neg (by omega), if_pos (by omega), if_pos rfl, Nat.add_sub_cancel_left]
  · unfold lv at h
    unfold τ0 μ0
    rw [if_neg (by omega), if_neg (by omega), if_neg (by omega)]
  · unfold τ0
    refine ⟨?_, ?_, ?_⟩
    · rw [if_pos (by omega), if_neg (by omega)]
    · rw [if_pos (by omega), if_neg (by omega)]
    · rw [if_neg (by omega), if_neg (by omega), if_neg (by omega)]
  · unfold τ0
    refine ⟨?_, ?_, ?_, ?_, ?_⟩
    · rw [if_neg (by omega), if_pos (by omega), if_neg (by omega), if_neg (by omega)]
    · rw [if_neg (by omega), if_pos (by omega), if_neg (by omega), if_neg (by omega)]
    · rw [if_neg (by omega), if_pos (by omega), if_neg (by omega), if_pos (by omega)]
    · rw [if_neg (by omega), if_pos (by omega), if_neg (by omega), if_pos (by omega)]
    · rw [if_neg (by omega), if_neg (by omega), if_neg (by omega)]
  · unfold τ0 cn_fill
    rw [if_neg (by omega), if_neg (by omega), if_pos (by omega), if_pos hs]
theorem Inv_mono {j : Nat} {τ μ : gw_S} (h : Inv j τ μ) : Inv (j + 1) τ μ := by
  obtain ⟨cm, sm, td, h1, h2⟩ := h
  exact ⟨cm, sm, td, by omega, h2⟩
/-! LOOPS -/
theorem gw_run {S T : Type} {b : S → Option (S ⊕ T)} (I : Nat → S → Prop) (P : T → Prop) (N : Nat) (hstep : ∀ k s, k ≤ N → I k s → (∃ t, b s = some (.inr t) ∧ P t) ∨ (k < N ∧ ∃ s', b s = some (.inl s') ∧ I (k + 1) s')) : ∀ (f k : Nat) (s : S), k ≤ N → N < f + k → I k s → ∃ t, gw_it b f s = some t ∧ P t := by
  intro f
  induction f with
  | zero => intro k s h1 h2; omega
  | succ f ih =>
    intro k s h1 h2 h3
    rcases hstep k s h1 h3 with ⟨t, e, ht⟩ | ⟨hk, s', e, hs'⟩
    · exact ⟨t, by rw [gw_it, e], ht⟩
    · obtain ⟨t, e2, ht⟩ := ih (k + 1) s' (by omega) (by omega) hs'
      exact ⟨t, by rw [gw_it, e]; exact e2, ht⟩
theorem gw_run0 {S T : Type} {b : S → Option (S ⊕ T)} {s : S} (I : Nat → S → Prop) (P : T → Prop) (N : Nat) (hN : N < 4096) (h0 : I 0 s) (hstep : ∀ k s, k ≤ N → I k s → (∃ t, b s = some (.inr t) ∧ P t) ∨ (k < N ∧ ∃ s', b s = some (.inl s') ∧ I (k + 1) s')) : ∃ t, gw_it b 4096 s = some t ∧ P t := gw_run I P N hstep 4096 0 s (Nat.zero_le _) (by omega) h0
theorem gw_fun {S T : Type} {b : S → Option (S ⊕ T)} (g : Nat → S) (t : T) (N : Nat) (hN : N < 4096) (hs : ∀ k, k < N → b (g k) = some (.inl (g (k + 1)))) (he : b (g N) = some (.inr t)) : gw_it b 4096 (g 0) = some t := by
  obtain ⟨t', e, rfl⟩ := gw_run0 (b := b) (s := g 0) (fun k s => s = g k) (fun t' => t' = t) N hN rfl (fun k s hk e => by
    subst e
    rcases Nat.lt_or_ge k N with h | h
    · exact Or.inr ⟨h, _, hs k h, rfl⟩
    · rw [show k = N from by omega]
      exact Or.inl ⟨t, he, rfl⟩)
  exact e
/-- a loop that counts from 0 to N -/
theorem gw_for {S T : Type} {b : S → Option (S ⊕ T)} {s : S} (I : Nat → S → Prop) (P : T → Prop) (N : Nat) (hN : N < 4096) (h0 : I 0 s) (hs : ∀ k s, k < N → I k s → ∃ s', b s = some (.inl s') ∧ I (k + 1) s') (he : ∀ s, I N s → ∃ t, b s = some (.inr t) ∧ P t) : ∃ t, gw_it b 4096 s = some t ∧ P t := gw_run0 I P N hN h0 (fun k s hk h => by
    rcases Nat.lt_or_ge k N with h2 | h2
    · exact Or.inr ⟨h2, hs k s h2 h⟩
    · rw [show k = N from by omega] at h
      exact Or.inl (he s h))
/-! NUMBERS AND BITS -/
theorem ib_ok {c n : Nat} (h : c < n) (hn : n < 2 ^ 31 := by omega) : gw_ib (nI c) n = true := by
  unfold gw_ib
  rw [nI_toInt (by omega)]
  simp
  omega
theorem n_cl {n : Nat} (h : n < 2 ^ 31 := by omega) : nn (nI n) = n := nI_clamp h
theorem n_m1 : nn (-1) = 0 := by decide
theorem n_lt {k n : Nat} (h : k < n) (hn : n < 2 ^ 31 := by omega) : ¬ nI n ≤ nI k := nI_ge h hn
theorem n_le {k n : Nat} (h : k ≤ n) (hn : n < 2 ^ 31 := by omega) : nI k ≤ nI n := nI_le h hn
theorem lt_of {x : Int32} {n : Nat} (h : lt_ x n) : ∃ k, k < n ∧ x = nI k ∧ nn x = k := ⟨nn x, h.2, h.1, rfl⟩
theorem lt_mk {k n : Nat} (h : k < n) (hn : n < 2 ^ 31 := by omega) : lt_ (nI k) n := by
  unfold lt_
  rw [n_cl]
  exact ⟨rfl, h⟩
theorem lt_mono {x : Int32} {n m : Nat} (h : lt_ x n) (hm : n ≤ m) : lt_ x m := ⟨h.1, by have := h.2; omega⟩
theorem x16 (a b : Nat) : (16 : Int32) * nI a + nI b = nI (16 * a + b) := by
  rw [fa_lit 16, pk_mul, nI_add]
theorem x6 (a b : Nat) : (6 : Int32) * nI a + nI b = nI (6 * a + b) := by
  rw [fa_lit 6, pk_mul, nI_add]
theorem bt_1 (i : Nat) : bt 1 i = decide (i = 0) := by
  rcases Nat.lt_or_ge i 32 with h | h
  · revert i
    decide +kernel
  · rw [b_big h]
    simp
    omega
theorem bt_bit {k i : Nat} (hk : k < 32) (hi : i < 32) : bt ((1 : Int32) <<< (nI k &&& 31)) i = decide (i = k) := by
  rw [b_shl k hk 1 hi, bt_1]
  by_cases h : i = k
  · subst h; simp
  · by_cases h2 : k ≤ i
    · simp [h, h2]; omega
    · simp [h, h2]
theorem bt_nz {x : Int32} : x = 0 ↔ ∀ i, i < 32 → bt x i = false := by
  constructor
  · intro h i hi; rw [h]; exact b_0 i
  · intro h
    refine b_ext (fun i hi => ?_)
    rw [h i hi, b_0]
theorem and_bit {x : Int32} {k : Nat} (hk : k < 32) : x &&& ((1 : Int32) <<< (nI k &&& 31)) = 0 ↔ bt x k = false := by
  rw [bt_nz]
  constructor
  · intro h
    have := h k hk
    rw [b_and, bt_bit hk hk] at this
    simpa using this
  · intro h i hi
    rw [b_and, bt_bit hk hi]
    by_cases e : i = k
    · subst e; simp [h]
    · simp [e]
theorem shr_bit {x : Int32} {k : Nat} (hk : k < 32) : (x >>> (nI k &&& 31)) &&& (1 : Int32) = if bt x k = true then 1 else 0 := by
  refine b_ext (fun i hi => ?_)
  rw [b_and, b_sshr k hk x hi, bt_1]
  by_cases e : i = 0
  · subst e
    simp only [Nat.add_zero, if_pos hk]
    cases bt x k <;> simp [bt_1, b_0]
  · cases bt x k <;> simp [bt_1, b_0, e]
theorem c_isIn {τ : gw_S} {x : Int32} {k : Nat} (hk : k < 32) : f_X3_isIn τ x (nI k) = some (if bt x k = true then 1 else 0) := by
  unfold f_X3_isIn
  cases h : bt x k
  · rw [if_pos ((and_bit hk).mpr h)]; rfl
  · rw [if_neg (fun e => by rw [(and_bit hk).mp e] at h; cases h)]; rfl
theorem m_has {μ : gw_S} {x : Int32} {k : Nat} (hk : k < 32) : f_X4_has μ x (nI k) = some (if bt x k = true then 1 else 0) := by
  unfold f_X4_has
  rw [shr_bit hk]
  cases h : bt x k <;> rfl
theorem bd (p : Bool) {α : Type} (A B : Option α) : ((some (if p = true then (1 : Int32) else 0)).bind fun r => if r = 0 then A else B) = if p = true then B else A := by
  cases p <;> rfl
theorem bs {α β : Type} (a : α) (f : α → Option β) : (some a).bind f = f a := rfl
theorem bt_or_bit {x : Int32} {k i : Nat} (hk : k < 32) (hi : i < 32) : bt (x ||| ((1 : Int32) <<< (nI k &&& 31))) i = (bt x i || decide (i = k)) := by
  rw [b_or, bt_bit hk hi]
theorem bt_nbit {x : Int32} {k i : Nat} (hk : k < 32) (hi : i < 32) : bt (x &&& (((1 : Int32) <<< (nI k &&& 31)) ^^^ (-1 : Int32))) i = (bt x i && !decide (i = k)) := by
  rw [b_and, b_xor, bt_bit hk hi, b_m1 i hi]
  cases decide (i = k) <;> simp
theorem and_not {x y : Int32} : x &&& (y ^^^ (-1 : Int32)) = 0 ↔ ∀ i, i < 32 → bt x i = true → bt y i = true := by
  rw [bt_nz]
  constructor
  · intro h i hi hx
    have := h i hi
    rw [b_and, b_xor, b_m1 i hi, hx] at this
    simpa using this
  · intro h i hi
    rw [b_and, b_xor, b_m1 i hi]
    cases hx : bt x i
    · rfl
    · rw [h i hi hx]; rfl
theorem bt_lt {x : Int32} {i : Nat} (h : bt x i = true) : i < 32 := by
  rcases Nat.lt_or_ge i 32 with h2 | h2
  · exact h2
  · rw [b_big h2] at h; cases h
/-! THE CORRESPONDENCE, read -/
theorem g_c {c i : Nat} (h : c < 20) : gm (4 + c) i = (i - 2, c) := by
  unfold gm; rw [if_pos (by omega), Nat.add_sub_cancel_left]
theorem g_s {s i : Nat} (h : s < 16) : gm (24 + s) i = (if i < 6 then i + 3 else if i = 6 then 12 else 11, s) := by
  unfold gm; rw [if_neg (by omega), if_pos (by omega), Nat.add_sub_cancel_left]
theorem g_wct {c i : Nat} (h : c < 20) : gm (40 + c) i = (13, c) := by
  unfold gm; rw [if_neg (by omega), if_neg (by omega), if_pos (by omega), Nat.add_sub_cancel_left]
theorem g_wic {s i : Nat} (h : s < 16) : gm (60 + s) i = (9, s) := by
  unfold gm; rw [if_neg (by omega), if_neg (by omega), if_neg (by omega), if_pos (by omega), Nat.add_sub_cancel_left]
theorem g_wai {c i : Nat} (h : c < 20) : gm (76 + c) i = (14, 16 * c + i) := by
  unfold gm; rw [if_neg (by omega), if_neg (by omega), if_neg (by omega), if_neg (by omega), if_pos (by omega), Nat.add_sub_cancel_left]
theorem g_wis {s i : Nat} (h : s < 16) : gm (96 + s) i = (10, 6 * s + i) := by
  unfold gm; rw [if_neg (by omega), if_neg (by omega), if_neg (by omega), if_neg (by omega), if_neg (by omega), if_pos (by omega), Nat.add_sub_cancel_left]
theorem g_off {c i : Nat} (h : c < 20) : gm (112 + c) i = (15, 16 * c + i) := by
  unfold gm; rw [if_neg (by omega), if_neg (by omega), if_neg (by omega), if_neg (by omega), if_neg (by omega), if_neg (by omega), Nat.add_sub_cancel_left]
theorem gm_inj {cm sm k i k' i' : Nat} (hc : cm ≤ 20) (hs : sm ≤ 16) (h : lv cm sm k i) (h' : lv cm sm k' i') (e : gm k i = gm k' i') : k = k' ∧ i = i' := by
  unfold gm at e
  unfold lv at h h'
  split at e <;> (repeat' split at e) <;> simp only [Prod.mk.injEq] at e <;> (repeat' split at e) <;> omega
theorem gm_rng {cm sm k i : Nat} (hc : cm ≤ 20) (hs : sm ≤ 16) (h : lv cm sm k i) : 1 ≤ (gm k i).1 ∧ (gm k i).1 < 16 := by
  unfold lv at h
  unfold gm
  (repeat' split) <;> simp only [] <;> (repeat' split) <;> omega
