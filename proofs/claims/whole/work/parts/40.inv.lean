/-! THE INVARIANT: what the class's state τ and the reference's state μ have to do with each other, between the calls. nn x: an int as a number. Arrays of the reference: 1 seats, 2 worths, 3 hours, 4 directs, 5 bands, 6 limits, 7 passed, 8 taken, 9 wishMany, 10 wished, 11 ups, 12 lots, 13 waitMany, 14 waitList, 15 offered. -/
abbrev nn (x : Int32) : Nat := x.toNatClampNeg
/-- x is a number below n -/
def lt_ (x : Int32) (n : Nat) : Prop := x = nI (nn x) ∧ nn x < n
/-- paths of prerequisites: of n + 1 steps -/
def pth (D : Nat → Int32) : Nat → Nat → Nat → Prop
  | 0, c, k => bt (D c) k = true
  | n + 1, c, k => ∃ m, bt (D c) m = true ∧ pth D n m k
def rch (D : Nat → Int32) (c k : Nat) : Prop := ∃ n, pth D n c k
/-- how many are enrolled; how many offers there are -/
def enr (μ : gw_S) (sm c : Nat) : Nat := fb_ct (fun s => bt (μ 8 s) c) sm
def ofc (μ : gw_S) (sm c : Nat) : Nat := fb_ct (fun s => decide (¬ μ 15 (16 * c + s) = -1)) sm
/-- s stands on the list of c -/
def onl (μ : gw_S) (c s : Nat) : Prop := ∃ i, i < nn (μ 13 c) ∧ μ 14 (16 * c + i) = nI s
/-- the correspondence of the two states -/
def Rl (cm sm : Nat) (τ μ : gw_S) : Prop :=
  (τ 0 2 = nI cm ∧ τ 0 3 = nI sm ∧ μ 0 0 = nI cm ∧ μ 0 5 = nI sm ∧ τ 0 4 = μ 0 17) ∧
  ((∀ c, c < 20 → τ (4 + c) 0 = nI c) ∧ ∀ s, s < 16 → τ (24 + s) 0 = nI s) ∧
  (∀ c, c < cm → τ (4 + c) 3 = μ 1 c ∧ τ (4 + c) 4 = μ 2 c ∧ τ (4 + c) 5 = μ 3 c ∧ τ (4 + c) 6 = μ 4 c ∧ τ (40 + c) 1 = μ 13 c) ∧
  (∀ s, s < sm → τ (24 + s) 2 = μ 5 s ∧ τ (24 + s) 3 = μ 6 s ∧ τ (24 + s) 4 = μ 7 s ∧ τ (24 + s) 5 = μ 8 s ∧ τ (24 + s) 6 = μ 12 s ∧ τ (24 + s) 7 = μ 11 s ∧ τ (60 + s) 1 = μ 9 s) ∧
  (∀ c i, c < cm → i < nn (μ 13 c) → τ (76 + c) i = μ 14 (16 * c + i)) ∧
  (∀ s i, s < sm → i < nn (μ 9 s) → τ (96 + s) i = μ 10 (6 * s + i)) ∧
  (∀ c s, c < cm → s < sm → τ (112 + c) s = μ 15 (16 * c + s)) ∧
  (∀ c, c < 20 → cm ≤ c → τ (4 + c) 6 = 0 ∧ τ (4 + c) 7 = 0 ∧ τ (40 + c) 1 = 0) ∧
  (∀ s, s < 16 → sm ≤ s → τ (24 + s) 4 = 0 ∧ τ (24 + s) 5 = 0 ∧ τ (24 + s) 6 = -1 ∧ τ (24 + s) 7 = -1 ∧ τ (60 + s) 1 = 0) ∧
  (∀ c s, c < 20 → s < 16 → cm ≤ c ∨ sm ≤ s → τ (112 + c) s = -1) ∧
  (∀ c k, c < cm → k < 32 → (bt (τ (4 + c) 7) k = true ↔ rch (μ 4) c k))
/-- the reference's own: ranges, lists without repetition, offers on the list and not too old -/
def Iv (cm sm td : Nat) (μ : gw_S) : Prop :=
  (cm ≤ 20 ∧ sm ≤ 16 ∧ td ≤ 4000 ∧ μ 0 17 = nI td) ∧
  (∀ c, c < cm → lt_ (μ 1 c) 17 ∧ lt_ (μ 2 c) 13 ∧ lt_ (μ 13 c) 17 ∧ ∀ k, bt (μ 4 c) k = true → k < cm) ∧
  (∀ s, s < sm → lt_ (μ 5 s) 4 ∧ lt_ (μ 6 s) 41 ∧ lt_ (μ 9 s) 7 ∧ (∀ k, bt (μ 7 s) k = true → k < cm) ∧ ∀ k, bt (μ 8 s) k = true → k < cm) ∧
  (∀ s i, s < sm → i < nn (μ 9 s) → lt_ (μ 10 (6 * s + i)) cm ∧ bt (μ 7 s) (nn (μ 10 (6 * s + i))) = false ∧ bt (μ 8 s) (nn (μ 10 (6 * s + i))) = false) ∧
  (∀ s i j, s < sm → i < nn (μ 9 s) → j < nn (μ 9 s) → μ 10 (6 * s + i) = μ 10 (6 * s + j) → i = j) ∧
  (∀ c i, c < cm → i < nn (μ 13 c) → lt_ (μ 14 (16 * c + i)) sm) ∧
  (∀ c i j, c < cm → i < nn (μ 13 c) → j < nn (μ 13 c) → μ 14 (16 * c + i) = μ 14 (16 * c + j) → i = j) ∧
  (∀ c s, c < cm → s < sm → μ 15 (16 * c + s) = -1 ∨ (lt_ (μ 15 (16 * c + s)) (td + 1) ∧ td ≤ nn (μ 15 (16 * c + s)) + 2 ∧ onl μ c s)) ∧
  (∀ s, s < sm → μ 11 s = -1 ∨ (lt_ (μ 11 s) cm ∧ bt (μ 8 s) (nn (μ 11 s)) = true)) ∧
  (∀ c, c < cm → ¬ rch (μ 4) c c)
/-- no course is overfull -/
def Fr (cm sm : Nat) (μ : gw_S) : Prop := ∀ c, c < cm → enr μ sm c + ofc μ sm c ≤ nn (μ 1 c)
/-- the credits of a set; the obstacle of a student who would be enrolled in a set -/
def wsum (μ : gw_S) (x : Int32) : Nat → Int32
  | 0 => 0
  | n + 1 => if bt x n = true then wsum μ x n + μ 2 n else wsum μ x n
/-- nothing stands in the way of student s for course c, taken being x -/
def noob (cm : Nat) (μ : gw_S) (s c : Nat) (x : Int32) : Prop := bt (μ 7 s) c = false ∧ bt x c = false ∧ (∀ k, rch (μ 4) c k → bt (μ 7 s) k = true) ∧ wsum μ x cm + μ 2 c ≤ μ 6 s ∧ ∀ k, k < cm → bt x k = true → μ 3 k &&& μ 3 c = 0
/-- all offers are made -/
def Sb (cm sm : Nat) (μ : gw_S) : Prop := ∀ c s, c < cm → s < sm → onl μ c s → μ 15 (16 * c + s) = -1 → enr μ sm c + ofc μ sm c < nn (μ 1 c) → ¬ noob cm μ s c (μ 8 s)
/-- between the calls, after j of them -/
def Inv (j : Nat) (τ μ : gw_S) : Prop := ∃ cm sm td : Nat, td ≤ 7 * j ∧ Rl cm sm τ μ ∧ Iv cm sm td μ ∧ Fr cm sm μ ∧ Sb cm sm μ
/-- the states behind the constructors -/
def τ0 : gw_S := fun k i => if 4 ≤ k ∧ k < 24 then (if i = 0 then nI (k - 4) else 0) else if 24 ≤ k ∧ k < 40 then (if i = 0 then nI (k - 24) else if 6 ≤ i ∧ i < 10 then -1 else 0) else if 112 ≤ k ∧ k < 132 then cn_fill 16 i else 0
def μ0 : gw_S := fun _ _ => 0
theorem Inv_0 : Inv 0 τ0 μ0 := by
  refine ⟨0, 0, 0, Nat.le_refl 0, ⟨⟨rfl, rfl, rfl, rfl, rfl⟩, ⟨fun c hc => ?_, fun s hs => ?_⟩, fun c hc => absurd hc (Nat.not_lt_zero c), fun s hs => absurd hs (Nat.not_lt_zero s), fun c i hc => absurd hc (Nat.not_lt_zero c), fun s i hs => absurd hs (Nat.not_lt_zero s), fun c s hc => absurd hc (Nat.not_lt_zero c), fun c hc _ => ?_, fun s hs _ => ?_, fun c s hc hs _ => ?_, fun c k hc => absurd hc (Nat.not_lt_zero c)⟩, ⟨⟨by omega, by omega, by omega, rfl⟩, fun c hc => absurd hc (Nat.not_lt_zero c), fun s hs => absurd hs (Nat.not_lt_zero s), fun s i hs => absurd hs (Nat.not_lt_zero s), fun s i j hs => absurd hs (Nat.not_lt_zero s), fun c i hc => absurd hc (Nat.not_lt_zero c), fun c i j hc => absurd hc (Nat.not_lt_zero c), fun c s hc => absurd hc (Nat.not_lt_zero c), fun s hs => absurd hs (Nat.not_lt_zero s), fun c hc => absurd hc (Nat.not_lt_zero c)⟩, fun c hc => absurd hc (Nat.not_lt_zero c), fun c s hc => absurd hc (Nat.not_lt_zero c)⟩
  · unfold τ0
    rw [if_pos (by omega), if_pos rfl, Nat.add_sub_cancel_left]
  · unfold τ0
    rw [if_neg (by omega), if_pos (by omega), if_pos rfl, Nat.add_sub_cancel_left]
  · unfold τ0
    refine ⟨?_, ?_, ?_⟩
    · rw [if_pos (by omega), if_neg (by omega)]
    · rw [if_pos (by omega), if_neg (by omega)]
    · rw [if_neg (by omega), if_neg (by omega), if_neg (by omega)]
  · unfold τ0
    refine ⟨?_, ?_, ?_, ?_, ?_⟩
    · rw [if_neg (by omega), if_pos (by omega), if_neg (by omega), if_neg (by omega)]
    · rw [if_neg (by omega), if_pos (by omega), if_neg (by omega), if_neg (by omega)]
    · rw [if_neg (by omega), if_pos (by omega), if_neg (by omega), if_pos (by omega)]
    · rw [if_neg (by omega), if_pos (by omega), if_neg (by omega), if_pos (by omega)]
    · rw [if_neg (by omega), if_neg (by omega), if_neg (by omega)]
  · unfold τ0 cn_fill
    rw [if_neg (by omega), if_neg (by omega), if_pos (by omega), if_pos hs]
