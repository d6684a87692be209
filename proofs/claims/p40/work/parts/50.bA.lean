/-! THE BOOK: packed lists: 4 bits a place, each one more than the number. The rows wb_ are the kit's (BITS), pasted. -/
theorem wb_tb (n : Nat) : (lN n).toBitVec = BitVec.ofNat 64 n := rfl
theorem wb_inj {a b : Int64} (h : a.toBitVec = b.toBitVec) : a = b := Int64.toBitVec_inj.mp h
theorem wb_tn {n : Nat} (h : n < 2 ^ 64) : (lN n).toBitVec.toNat = n := by rw [wb_tb, BitVec.toNat_ofNat, Nat.mod_eq_of_lt h]
theorem wb_of (x : Int64) : ∃ n, n < 2 ^ 64 ∧ x = lN n := ⟨x.toBitVec.toNat, x.toBitVec.isLt, wb_inj (by rw [wb_tb]; simp)⟩
theorem wb_of32 (x : Int32) : ∃ n, n < 2 ^ 32 ∧ x = nI n := ⟨x.toBitVec.toNat, x.toBitVec.isLt, Int32.toBitVec_inj.mp (by show _ = BitVec.ofNat 32 _; simp)⟩
theorem wb_c : ∀ k, k < 64 → ((nI k).toInt64 &&& 63) = lN k := by decide +kernel
theorem wb_cu : ∀ k, k < 64 → ((nI k).toInt64.toUInt64 &&& Int64.toUInt64 63) = UInt64.ofNat k := by decide +kernel
theorem wb_sm : ∀ k, k < 64 → (BitVec.ofNat 64 k).smod 64 = BitVec.ofNat 64 k := by decide +kernel
theorem wb_pw {a b : Nat} (h : a ≤ b) : 2 ^ b = 2 ^ a * 2 ^ (b - a) := by rw [← Nat.pow_add]; congr 1; omega
theorem wb_lt2 {a b : Nat} (h : a < b) : 2 ^ a < 2 ^ b := Nat.pow_lt_pow_right (by decide) h
theorem wb_mod (n : Nat) : lN n = lN (n % 2 ^ 64) := wb_inj (by rw [wb_tb, wb_tb]; apply BitVec.eq_of_toNat_eq; rw [BitVec.toNat_ofNat, BitVec.toNat_ofNat, Nat.mod_mod])
theorem wb_shr {n k : Nat} (hn : n < 2 ^ 64) (hk : k < 64) : ((lN n).toUInt64 >>> ((nI k).toInt64.toUInt64 &&& Int64.toUInt64 63)).toInt64 = lN (n / 2 ^ k) := by
  rw [wb_cu k hk]
  apply wb_inj
  apply BitVec.eq_of_toNat_eq
  show ((lN n).toUInt64 >>> UInt64.ofNat k).toNat = (BitVec.ofNat 64 _).toNat
  have h1 : (UInt64.ofNat k).toNat = k := by
    show (BitVec.ofNat 64 k).toNat = k
    rw [BitVec.toNat_ofNat, Nat.mod_eq_of_lt (by omega)]
  have h2 : (lN n).toUInt64.toNat = n := wb_tn hn
  rw [UInt64.toNat_shiftRight, h1, h2, Nat.mod_eq_of_lt hk, Nat.shiftRight_eq_div_pow, BitVec.toNat_ofNat, Nat.mod_eq_of_lt (Nat.lt_of_le_of_lt (Nat.div_le_self _ _) hn)]
theorem wb_shl (n : Nat) {k : Nat} (hk : k < 64) : lN n <<< ((nI k).toInt64 &&& 63) = lN (n * 2 ^ k) := by
  rw [wb_c k hk]
  apply wb_inj
  rw [Int64.toBitVec_shiftLeft, wb_tb, wb_tb, wb_tb, wb_sm k hk]
  apply BitVec.eq_of_toNat_eq
  rw [BitVec.shiftLeft_eq', BitVec.toNat_shiftLeft, BitVec.toNat_ofNat, BitVec.toNat_ofNat, BitVec.toNat_ofNat, Nat.mod_eq_of_lt (show k < 2 ^ 64 by omega), Nat.shiftLeft_eq, Nat.mul_mod, Nat.mod_mod, ← Nat.mul_mod]
theorem wb_and {a b : Nat} (ha : a < 2 ^ 64) (hb : b < 2 ^ 64) : lN a &&& lN b = lN (a &&& b) := by
  apply wb_inj
  rw [Int64.toBitVec_and, wb_tb, wb_tb, wb_tb]
  apply BitVec.eq_of_toNat_eq
  rw [BitVec.toNat_and, BitVec.toNat_ofNat, BitVec.toNat_ofNat, BitVec.toNat_ofNat, Nat.mod_eq_of_lt ha, Nat.mod_eq_of_lt hb, Nat.mod_eq_of_lt (Nat.and_lt_two_pow _ hb)]
theorem wb_or {a b : Nat} (ha : a < 2 ^ 64) (hb : b < 2 ^ 64) : lN a ||| lN b = lN (a ||| b) := by
  apply wb_inj
  rw [Int64.toBitVec_or, wb_tb, wb_tb, wb_tb]
  apply BitVec.eq_of_toNat_eq
  rw [BitVec.toNat_or, BitVec.toNat_ofNat, BitVec.toNat_ofNat, BitVec.toNat_ofNat, Nat.mod_eq_of_lt ha, Nat.mod_eq_of_lt hb, Nat.mod_eq_of_lt (Nat.or_lt_two_pow ha hb)]
theorem wb_mask {n k : Nat} (hn : n < 2 ^ 64) (hk : k < 64) : lN n &&& lN (2 ^ k - 1) = lN (n % 2 ^ k) := by
  rw [wb_and hn (by have := wb_lt2 hk; omega), Nat.and_two_pow_sub_one_eq_mod]
theorem wb_a1 {n : Nat} (hn : n < 2 ^ 64) : lN n &&& 1 = lN (n % 2) := wb_mask (k := 1) hn (by decide)
theorem wb_bit {n k : Nat} (hn : n < 2 ^ 64) (hk : k < 64) : ((lN n).toUInt64 >>> ((nI k).toInt64.toUInt64 &&& Int64.toUInt64 63)).toInt64 &&& 1 = lN (n / 2 ^ k % 2) := by
  rw [wb_shr hn hk, wb_a1 (Nat.lt_of_le_of_lt (Nat.div_le_self _ _) hn)]
def pl (f : Nat → Nat) : Nat → Nat
  | 0 => 0
  | n + 1 => pl f n + 16 ^ n * (f n + 1)
theorem pl_cong {f g : Nat → Nat} : ∀ {n : Nat}, (∀ i, i < n → f i = g i) → pl f n = pl g n
  | 0, _ => rfl
  | n + 1, h => by rw [pl, pl, pl_cong (n := n) (fun i hi => h i (by omega)), h n (by omega)]
theorem pl_lt {f : Nat → Nat} : ∀ {n : Nat}, (∀ i, i < n → f i < 15) → pl f n < 16 ^ n
  | 0, _ => by show 0 < 16 ^ 0; decide
  | n + 1, h => by
    have h1 := pl_lt (n := n) (fun i hi => h i (by omega))
    have h2 := h n (by omega)
    have h3 : 16 ^ n * (f n + 1) ≤ 16 ^ n * 15 := Nat.mul_le_mul_left _ (by omega)
    rw [pl, Nat.pow_succ]
    omega
theorem pl_app (f : Nat → Nat) (n : Nat) : ∀ m, pl f (n + m) = pl f n + 16 ^ n * pl (fun i => f (n + i)) m
  | 0 => by rw [pl, Nat.mul_zero]; rfl
  | m + 1 => by
    rw [← Nat.add_assoc, pl, pl_app f n m, show pl (fun i => f (n + i)) (m + 1) = pl (fun i => f (n + i)) m + 16 ^ m * (f (n + m) + 1) from rfl]
    generalize f (n + m) + 1 = B
    rw [Nat.mul_add, Nat.pow_add, Nat.mul_assoc, Nat.add_assoc]
theorem pl_mod {f : Nat → Nat} {n k : Nat} (h : ∀ i, i < n → f i < 15) (hk : k ≤ n) : pl f n % 16 ^ k = pl f k := by
  obtain ⟨m, rfl⟩ : ∃ m, n = k + m := ⟨n - k, by omega⟩
  rw [pl_app, Nat.add_mul_mod_self_left, Nat.mod_eq_of_lt (pl_lt (fun i hi => h i (by omega)))]
theorem pl_div {f : Nat → Nat} {n k : Nat} (h : ∀ i, i < n → f i < 15) (hk : k ≤ n) : pl f n / 16 ^ k = pl (fun i => f (k + i)) (n - k) := by
  obtain ⟨m, rfl⟩ : ∃ m, n = k + m := ⟨n - k, by omega⟩
  rw [pl_app, Nat.add_mul_div_left _ _ (Nat.pow_pos (by decide)), Nat.div_eq_of_lt (pl_lt (fun i hi => h i (by omega))), Nat.zero_add, Nat.add_sub_cancel_left]
theorem pl_1 (f : Nat → Nat) : pl f 1 = f 0 + 1 := by rw [pl, pl]; simp
theorem pl_head {f : Nat → Nat} {n : Nat} (h : ∀ i, i < n + 1 → f i < 15) : pl f (n + 1) % 16 = f 0 + 1 := by
  have := pl_mod (k := 1) h (by omega)
  rw [pl_1] at this
  exact this
theorem pl_tail {f : Nat → Nat} {n : Nat} (h : ∀ i, i < n + 1 → f i < 15) : pl f (n + 1) / 16 = pl (fun i => f (1 + i)) n := by
  have := pl_div (k := 1) h (by omega)
  exact this
theorem pl_pos {f : Nat → Nat} {n : Nat} : pl f (n + 1) ≠ 0 := by
  rw [pl]
  have h : 0 < 16 ^ n * (f n + 1) := Nat.mul_pos (Nat.pow_pos (by decide)) (by omega)
  omega
theorem pl_b {f : Nat → Nat} {n : Nat} (h : ∀ i, i < n → f i < 15) (hn : n ≤ 8) : pl f n < 2 ^ 32 := by
  have h1 := pl_lt h
  have h2 : 16 ^ n ≤ 16 ^ 8 := Nat.pow_le_pow_right (by decide) hn
  omega
theorem pl_b6 {f : Nat → Nat} {n : Nat} (h : ∀ i, i < n → f i < 15) (hn : n ≤ 6) : pl f n < 2 ^ 24 := by
  have h1 := pl_lt h
  have h2 : 16 ^ n ≤ 16 ^ 6 := Nat.pow_le_pow_right (by decide) hn
  omega
/-- from place k on -/
def plk (f : Nat → Nat) (n k : Nat) : Nat := pl (fun i => f (k + i)) (n - k)
theorem plk_0 (f : Nat → Nat) (n : Nat) : plk f n 0 = pl f n := by
  unfold plk
  exact pl_cong (fun i _ => by rw [Nat.zero_add])
theorem plk_end (f : Nat → Nat) (n : Nat) : plk f n n = 0 := by
  unfold plk
  rw [Nat.sub_self]; rfl
theorem plk_b {f : Nat → Nat} {n k : Nat} (h : ∀ i, i < n → f i < 15) (hn : n ≤ 8) (hk : k ≤ n) : plk f n k < 2 ^ 32 := pl_b (fun i hi => h _ (by omega)) (by omega)
theorem plk_b6 {f : Nat → Nat} {n k : Nat} (h : ∀ i, i < n → f i < 15) (hn : n ≤ 6) (hk : k ≤ n) : plk f n k < 2 ^ 24 := pl_b6 (fun i hi => h _ (by omega)) (by omega)
theorem plk_s {f : Nat → Nat} {n k : Nat} (h : ∀ i, i < n → f i < 15) (hk : k < n) : plk f n k / 16 = plk f n (k + 1) ∧ plk f n k % 16 = f k + 1 ∧ plk f n k ≠ 0 := by
  unfold plk
  obtain ⟨m, rfl⟩ : ∃ m, n = k + (m + 1) := ⟨n - k - 1, by omega⟩
  rw [Nat.add_sub_cancel_left, show k + (m + 1) - (k + 1) = m by omega]
  have h' : ∀ i, i < m + 1 → f (k + i) < 15 := fun i hi => h _ (by omega)
  refine ⟨?_, ?_, pl_pos⟩
  · rw [pl_tail h']
    exact pl_cong (fun i _ => by rw [Nat.add_assoc])
  · rw [pl_head h']; rfl
theorem plk_nz {f : Nat → Nat} {n k : Nat} (h : ∀ i, i < n → f i < 15) (hk : k ≤ n) : plk f n k = 0 ↔ k = n := by
  constructor
  · intro e
    rcases Nat.lt_or_ge k n with h2 | h2
    · exact absurd e (plk_s h h2).2.2
    · omega
  · intro e; rw [e, plk_end]
theorem lz {n : Nat} (h : n < 2 ^ 62) : (lg_cmp (lN n) (0 : Int64) = 0) ↔ n = 0 := by
  rw [lg_cmp_eq, show (0 : Int64) = lN 0 from rfl, pk_lEQ (by omega) (by omega)]
theorem lceq {a b : Nat} (ha : a < 2 ^ 62) (hb : b < 2 ^ 62) : (lg_cmp (lN a) (lN b) = 0) ↔ a = b := by
  rw [lg_cmp_eq, pk_lEQ (by omega) (by omega)]
theorem l4 {n : Nat} (h : n < 2 ^ 62) : ((lN n).toUInt64 >>> ((4 : Int32).toInt64.toUInt64 &&& Int64.toUInt64 63)).toInt64 = lN (n / 16) := wb_shr (k := 4) (by omega) (by decide)
theorem l15 {n : Nat} (h : n < 2 ^ 62) : lN n &&& (15 : Int64) = lN (n % 16) := wb_mask (k := 4) (by omega) (by decide)
/-- the length of a packed list -/
theorem k_len {f : Nat → Nat} {n : Nat} (h : ∀ i, i < n → f i < 15) (hn : n ≤ 8) : f_L_length (lN (pl f n)) = some (nI n) := by
  have hb : ∀ k, k ≤ n → plk f n k < 2 ^ 62 := fun k hk => Nat.lt_trans (plk_b h hn hk) (by decide)
  have G := gw_fun (b := b_L_length_1) (fun k => (nI k, lN (plk f n k))) (nI n, lN (plk f n n)) n (by omega) (fun k hk => by
    obtain ⟨e1, e2, e3⟩ := plk_s h hk
    show (if lg_cmp (lN (plk f n k)) (0 : Int64) = 0 then _ else _) = _
    rw [if_neg (fun e => e3 ((lz (hb k (by omega))).mp e)), l4 (hb k (by omega)), e1, nI_1]) (by
    show (if lg_cmp (lN (plk f n n)) (0 : Int64) = 0 then _ else _) = _
    rw [if_pos ((lz (hb n (by omega))).mpr (plk_end f n))])
  rw [plk_0] at G
  unfold f_L_length
  exact it_bd G rfl
/-- a number's place in a packed list -/
def pfd (f : Nat → Nat) (n x : Nat) : Nat := fa_first (fun i => decide (f i = x)) n
theorem k_place {f : Nat → Nat} {n x : Nat} (h : ∀ i, i < n → f i < 15) (hn : n ≤ 8) (hx : x < 15) : f_L_place (lN (pl f n)) (nI x) = some (if pfd f n x < n then nI (pfd f n x) else -1) := by
  have hb : ∀ k, k ≤ n → plk f n k < 2 ^ 62 := fun k hk => Nat.lt_trans (plk_b h hn hk) (by decide)
  have h1 := fa_first_le (fun i => decide (f i = x)) n
  have h2 := fa_first_no (fun i => decide (f i = x)) n
  have h3 := fa_first_yes (fun i => decide (f i = x)) n
  have hst : ∀ k, k < n → b_L_place_1 (nI x) (nI k, lN (plk f n k)) = if f k = x then some (.inr (.inr (nI k))) else some (.inl (nI (k + 1), lN (plk f n (k + 1)))) := fun k hk => by
    obtain ⟨e1, e2, e3⟩ := plk_s h hk
    have hfk := h k hk
    show (if lg_cmp (lN (plk f n k)) (0 : Int64) = 0 then _ else if lg_cmp (lN (plk f n k) &&& (15 : Int64)) ((nI x + (1 : Int32)).toInt64) = 0 then _ else _) = _
    rw [if_neg (fun e => e3 ((lz (hb k (by omega))).mp e)), l15 (hb k (by omega)), e2, nI_1, nI_l (by omega), l4 (hb k (by omega)), e1, nI_1]
    by_cases e : f k = x
    · rw [if_pos e, if_pos ((lceq (by omega) (by omega)).mpr (by omega))]
    · rw [if_neg e, if_neg (fun e2 => e (by have := (lceq (by omega) (by omega)).mp e2; omega))]
  unfold f_L_place pfd
  rw [← plk_0]
  by_cases hp : fa_first (fun i => decide (f i = x)) n < n
  · have G := gw_fun (b := b_L_place_1 (nI x)) (fun k => (nI k, lN (plk f n k))) (.inr (nI (fa_first (fun i => decide (f i = x)) n))) (fa_first (fun i => decide (f i = x)) n) (by omega) (fun k hk => by
      rw [hst k (by omega), if_neg (by simpa using h2 k hk)]) (by
      rw [hst _ hp, if_pos (by simpa using h3 hp)])
    rw [if_pos hp]
    exact it_bd G rfl
  · have G := gw_fun (b := b_L_place_1 (nI x)) (fun k => (nI k, lN (plk f n k))) (.inl (nI n, lN (plk f n n))) n (by omega) (fun k hk => by
      rw [hst k (by omega), if_neg (by simpa using h2 k (by omega))]) (by
      show (if lg_cmp (lN (plk f n n)) (0 : Int64) = 0 then _ else _) = _
      rw [if_pos ((lz (hb n (by omega))).mpr (plk_end f n))])
    rw [if_neg hp]
    exact it_bd G rfl
/-- the list without place p -/
def wo (f : Nat → Nat) (p : Nat) : Nat → Nat := fun i => if i < p then f i else f (i + 1)
theorem pl_wo {f : Nat → Nat} {n p : Nat} (hp : p < n) : pl (wo f p) (n - 1) = pl f p + 16 ^ p * plk f n (p + 1) := by
  obtain ⟨m, rfl⟩ : ∃ m, n = p + 1 + m := ⟨n - p - 1, by omega⟩
  rw [show p + 1 + m - 1 = p + m by omega, pl_app]
  unfold plk wo
  rw [Nat.add_sub_cancel_left, pl_cong (f := fun i => if i < p then f i else f (i + 1)) (g := f) (n := p) (fun i hi => if_pos hi), pl_cong (f := fun i => if p + i < p then f (p + i) else f (p + i + 1)) (g := fun i => f (p + 1 + i)) (n := m) (fun i hi => by
    rw [if_neg (by omega)]
    congr 1
    omega)]
theorem k_wo_yes {f : Nat → Nat} {n x : Nat} (h : ∀ i, i < n → f i < 15) (hn : n ≤ 8) (hx : x < 15) (hp : pfd f n x < n) : f_L_without (lN (pl f n)) (nI x) = some (lN (pl (wo f (pfd f n x)) (n - 1))) := by
  have hb := pl_b h hn
  unfold f_L_without
  rw [k_place h hn hx, bs, if_pos hp]
  generalize pfd f n x = p at hp
  have e16 : ∀ q : Nat, 16 ^ q = 2 ^ (4 * q) := fun q => by rw [Nat.pow_mul]
  have hpos : 0 < 2 ^ (4 * p) := Nat.two_pow_pos _
  rw [if_pos (nI_pos' (by omega)), show (4 : Int32) * nI p = nI (4 * p) from pk_mul 4 p, show nI (4 * p) + (4 : Int32) = nI (4 * p + 4) from nI_add _ _, wb_shr (k := 4 * p + 4) (by omega) (by omega), wb_shl _ (k := 4 * p) (by omega), show (1 : Int64) <<< ((nI (4 * p)).toInt64 &&& 63) - (1 : Int64) = lN (2 ^ (4 * p) - 1) from by
    rw [show (1 : Int64) = lN 1 from rfl, wb_shl 1 (k := 4 * p) (by omega), Nat.one_mul, lN_sub (by omega)], wb_mask (k := 4 * p) (by omega) (by omega), ← e16, show (2 : Nat) ^ (4 * p + 4) = 16 ^ (p + 1) from by rw [e16]; congr 1, pl_mod h (by omega), pl_div h (by omega)]
  have hq : pl f p < 2 ^ (4 * p) := by rw [← e16]; exact pl_lt (fun i hi => h i (by omega))
  rw [pl_wo hp]
  unfold plk
  rw [e16, Nat.mul_comm (2 ^ (4 * p)) _]
  have h1 : pl f p ≤ pl f n := by
    obtain ⟨m, rfl⟩ : ∃ m, n = p + m := ⟨n - p, by omega⟩
    rw [pl_app]; omega
  have h2 : pl (fun i => f (p + 1 + i)) (n - (p + 1)) * 2 ^ (4 * p) < 2 ^ 32 := by
    have h3 := pl_lt (f := fun i => f (p + 1 + i)) (n := n - (p + 1)) (fun i hi => h _ (by omega))
    have h4 : pl (fun i => f (p + 1 + i)) (n - (p + 1)) * 2 ^ (4 * p) < 16 ^ (n - (p + 1)) * 2 ^ (4 * p) := Nat.mul_lt_mul_of_pos_right h3 hpos
    rw [← e16, ← Nat.pow_add] at h4
    have h5 : 16 ^ (n - (p + 1) + p) ≤ 16 ^ 8 := Nat.pow_le_pow_right (by decide) (by omega)
    rw [← e16]
    omega
  rw [wb_or (by omega) (by omega), Nat.or_comm, Nat.mul_comm, ← Nat.two_pow_add_eq_or_of_lt hq]
  rw [Nat.add_comm, Nat.mul_comm]
theorem k_wo_no {f : Nat → Nat} {n x : Nat} (h : ∀ i, i < n → f i < 15) (hn : n ≤ 8) (hx : x < 15) (hp : ¬ pfd f n x < n) : f_L_without (lN (pl f n)) (nI x) = some (lN (pl f n)) := by
  unfold f_L_without
  rw [k_place h hn hx, bs, if_neg hp, if_neg (by decide)]
/-- a number more -/
theorem k_add {f : Nat → Nat} {n x : Nat} (h : ∀ i, i < n → f i < 15) (hn : n < 8) (hx : x < 15) : lN (pl f n) ||| ((lN x + (1 : Int64)) <<< (((4 : Int32) * nI n).toInt64 &&& 63)) = lN (pl (fun i => if i = n then x else f i) (n + 1)) := by
  have e16 : (16 : Nat) ^ n = 2 ^ (4 * n) := by rw [Nat.pow_mul]
  have hl := pl_lt h
  rw [show (4 : Int32) * nI n = nI (4 * n) from pk_mul 4 n, lN_1, wb_shl _ (k := 4 * n) (by omega), pl, if_pos rfl, pl_cong (f := fun i => if i = n then x else f i) (g := f) (n := n) (fun i hi => if_neg (by omega)), e16]
  have h5 : 16 ^ n ≤ 16 ^ 7 := Nat.pow_le_pow_right (by decide) (by omega)
  have h6 : (x + 1) * 2 ^ (4 * n) ≤ 15 * 2 ^ (4 * n) := Nat.mul_le_mul_right _ (by omega)
  rw [e16] at hl h5
  rw [wb_or (by omega) (by omega), Nat.or_comm, Nat.mul_comm, ← Nat.two_pow_add_eq_or_of_lt hl, Nat.add_comm]
theorem k_addI {f : Nat → Nat} {n x : Nat} (h : ∀ i, i < n → f i < 15) (hn : n < 6) (hx : x < 15) : nI (pl f n) ||| ((nI x + (1 : Int32)) <<< (((4 : Int32) * nI n) &&& 31)) = nI (pl (fun i => if i = n then x else f i) (n + 1)) := by
  have e16 : (16 : Nat) ^ n = 2 ^ (4 * n) := by rw [Nat.pow_mul]
  have hl := pl_lt h
  have h5 : 16 ^ n ≤ 16 ^ 5 := Nat.pow_le_pow_right (by decide) (by omega)
  rw [e16] at hl h5
  have h6 : (x + 1) * 2 ^ (4 * n) ≤ 15 * 2 ^ (4 * n) := Nat.mul_le_mul_right _ (by omega)
  rw [show (4 : Int32) * nI n = nI (4 * n) from pk_mul 4 n, nI_1, pk_shlN _ (4 * n) (s_l (4 * n) (by omega)) (by omega), pl, if_pos rfl, pl_cong (f := fun i => if i = n then x else f i) (g := f) (n := n) (fun i hi => if_neg (by omega)), e16, fa_or, Nat.or_comm, Nat.mul_comm, ← Nat.two_pow_add_eq_or_of_lt hl, Nat.add_comm]
/-- a place of a packed list -/
theorem k_at {f : Nat → Nat} {n i : Nat} (h : ∀ i, i < n → f i < 15) (hn : n ≤ 8) (hi : i < n) : ((((lN (pl f n)).toUInt64 >>> (((4 : Int32) * nI i).toInt64.toUInt64 &&& Int64.toUInt64 63)).toInt64 &&& (15 : Int64)).toInt32) - (1 : Int32) = nI (f i) := by
  have hb := pl_b h hn
  have e16 : (16 : Nat) ^ i = 2 ^ (4 * i) := by rw [Nat.pow_mul]
  have hk := plk_s h hi
  have hkb := plk_b h hn (show i ≤ n by omega)
  rw [show (4 : Int32) * nI i = nI (4 * i) from pk_mul 4 i, wb_shr (k := 4 * i) (by omega) (by omega), ← e16, pl_div h (by omega)]
  unfold plk at hk hkb
  rw [l15 (by omega), hk.2.1, lN_i]
  exact nI_pred _
theorem k_atI {f : Nat → Nat} {n i : Nat} (h : ∀ i, i < n → f i < 15) (hn : n ≤ 6) (hi : i < n) : ((nI (pl f n) >>> (((4 : Int32) * nI i) &&& 31)) &&& (15 : Int32)) - (1 : Int32) = nI (f i) := by
  have hb := pl_b6 h hn
  have e16 : (16 : Nat) ^ i = 2 ^ (4 * i) := by rw [Nat.pow_mul]
  have hk := plk_s h hi
  have hkb := plk_b6 h hn (show i ≤ n by omega)
  rw [show (4 : Int32) * nI i = nI (4 * i) from pk_mul 4 i, pk_shrN (by omega) _ (4 * i) (s_l (4 * i) (by omega)), ← e16, pl_div h (by omega)]
  unfold plk at hk hkb
  rw [show (15 : Int32) = nI (2 ^ 4 - 1) from rfl, fa_mask, hk.2.1]
  exact nI_pred _
theorem i4 {n : Nat} (h : n < 2 ^ 32) : ((nI n).toUInt32 >>> ((4 : Int32).toUInt32 &&& Int32.toUInt32 31)).toInt32 = nI (n / 16) := pk_ushrN (k := 4) h 4 (by decide)
theorem i15 (n : Nat) : nI n &&& (15 : Int32) = nI (n % 16) := fa_mask n 4
theorem nI_lt8 {x : Int32} (h : ∀ i, bt x i = true → i < 8) : ∃ n, n < 256 ∧ x = nI n := by
  refine ⟨x.toBitVec.toNat % 256, Nat.mod_lt _ (by decide), ?_⟩
  rw [← pk_and x (m := 255) 8 (by decide)]
  refine b_ext (fun i hi => ?_)
  rw [b_and, b_255]
  cases e : bt x i
  · rfl
  · rw [decide_eq_true (h i e)]; rfl
theorem many_256 : ∀ n, n < 256 → f_L_many (nI n) = some (nI (fb_ct (fun i => bt (nI n) i) 8)) := by decide +kernel
theorem k_many {x : Int32} (h : ∀ i, bt x i = true → i < 8) : f_L_many x = some (nI (fb_ct (fun i => bt x i) 8)) := by
  obtain ⟨n, hn, rfl⟩ := nI_lt8 h
  exact many_256 n hn
theorem k_has {x : Int32} {k : Nat} (hk : k < 32) : f_L_has x (nI k) = some (if bt x k = true then 1 else 0) := by
  unfold f_L_has
  rw [shr_bit hk]
  cases h : bt x k <;> rfl
