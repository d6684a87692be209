/-! COUNTING BITS -/
def bc5 : Nat → Nat
  | 0 => 0
  | k + 1 => 2 ^ 4 * bc5 k + 5
def bc3 : Nat → Nat
  | 0 => 0
  | k + 1 => 2 ^ 4 * bc3 k + 3
theorem and_split {m d f e : Nat} (hd : d < 2 ^ 4) (he : e < 2 ^ 4) : (2 ^ 4 * m + d) &&& (2 ^ 4 * f + e) = 2 ^ 4 * (m &&& f) + (d &&& e) := by
  apply Nat.eq_of_testBit_eq
  intro j
  rw [Nat.testBit_and, Nat.testBit_two_pow_mul_add _ hd, Nat.testBit_two_pow_mul_add _ he, Nat.testBit_two_pow_mul_add _ (Nat.and_lt_two_pow _ he)]
  by_cases h : j < 4
  · rw [if_pos h, if_pos h, if_pos h, Nat.testBit_and]
  · rw [if_neg h, if_neg h, if_neg h, Nat.testBit_and]
def bcA (k n : Nat) : Nat := n - ((n / 2) &&& bc5 k)
def bcS (k n : Nat) : Nat := (bcA k n &&& bc3 k) + ((bcA k n / 4) &&& bc3 k)
def bcd (d : Nat) : Nat := ((d - ((d / 2) &&& 5)) &&& 3) + (((d - ((d / 2) &&& 5)) / 4) &&& 3)
theorem bcA_0 (k : Nat) : bcA k 0 = 0 := by unfold bcA; rw [Nat.zero_sub]
theorem bcS_0 (k : Nat) : bcS k 0 = 0 := by unfold bcS; rw [bcA_0, Nat.zero_div, Nat.zero_and]
theorem bcA_s {k m d : Nat} (hd : d < 2 ^ 4) : bcA (k + 1) (2 ^ 4 * m + d) = 2 ^ 4 * bcA k m + (d - ((d / 2) &&& 5)) := by
  have h1 : (2 ^ 4 * m + d) / 2 = 2 ^ 4 * (m / 2) + (8 * (m % 2) + d / 2) := by omega
  have h2 : ∀ r, r < 2 → ∀ d, d < 16 → (8 * r + d / 2) &&& 5 = (d / 2) &&& 5 := by decide +kernel
  unfold bcA
  rw [h1, bc5, and_split (by omega) (by decide), h2 (m % 2) (Nat.mod_lt _ (by decide)) d hd]
  have h3 : (m / 2) &&& bc5 k ≤ m := Nat.le_trans Nat.and_le_left (Nat.div_le_self _ _)
  have h4 : (d / 2) &&& 5 ≤ d := Nat.le_trans Nat.and_le_left (Nat.div_le_self _ _)
  omega
theorem bcS_s {k m d : Nat} (hd : d < 2 ^ 4) : bcS (k + 1) (2 ^ 4 * m + d) = 2 ^ 4 * bcS k m + bcd d := by
  unfold bcS bcd
  rw [bcA_s hd]
  have ha : d - ((d / 2) &&& 5) < 2 ^ 4 := by omega
  generalize d - ((d / 2) &&& 5) = a at ha
  generalize bcA k m = am
  have h1 : (2 ^ 4 * am + a) / 4 = 2 ^ 4 * (am / 4) + (4 * (am % 4) + a / 4) := by omega
  have h2 : ∀ r, r < 4 → ∀ d, d < 16 → (4 * r + d / 4) &&& 3 = (d / 4) &&& 3 := by decide +kernel
  rw [h1, bc3, and_split ha (by decide), and_split (by omega) (by decide), h2 (am % 4) (Nat.mod_lt _ (by decide)) a ha]
  omega
theorem bcd_ct : ∀ d, d < 16 → bcd d = fb_ct d.testBit 4 ∧ bcd d < 5 := by decide +kernel
def bcT (b : Nat) : Nat :=
  let c := (b + b / 16) &&& 252645135
  let e := c + c / 256
  (e + e / 65536) &&& 63
theorem bcT_ok : ∀ t0, t0 < 5 → ∀ t1, t1 < 5 → ∀ t2, t2 < 5 → ∀ t3, t3 < 5 → ∀ t4, t4 < 5 → bcT (2 ^ 4 * (2 ^ 4 * (2 ^ 4 * (2 ^ 4 * t4 + t3) + t2) + t1) + t0) = t4 + t3 + t2 + t1 + t0 := by decide +kernel
theorem ct_nib (n q : Nat) : fb_ct (fun i => n.testBit (4 * q + i)) 4 = fb_ct (n / 2 ^ (4 * q) % 16).testBit 4 := fb_ct_cong (fun k hk => by
  rw [show 16 = 2 ^ 4 from rfl, Nat.testBit_mod_two_pow, Nat.testBit_div_two_pow, decide_eq_true hk, Bool.true_and, Nat.add_comm])
theorem bc_nat {n : Nat} (hn : n < 2 ^ 20) : bcT (bcS 8 n) = fb_ct n.testBit 20 := by
  have e : n = 2 ^ 4 * (2 ^ 4 * (2 ^ 4 * (2 ^ 4 * (2 ^ 4 * 0 + n / 2 ^ (4 * 4) % 16) + n / 2 ^ (4 * 3) % 16) + n / 2 ^ (4 * 2) % 16) + n / 2 ^ (4 * 1) % 16) + n / 2 ^ (4 * 0) % 16 := by omega
  have h0 := bcd_ct (n / 2 ^ (4 * 0) % 16) (Nat.mod_lt _ (by decide))
  have h1 := bcd_ct (n / 2 ^ (4 * 1) % 16) (Nat.mod_lt _ (by decide))
  have h2 := bcd_ct (n / 2 ^ (4 * 2) % 16) (Nat.mod_lt _ (by decide))
  have h3 := bcd_ct (n / 2 ^ (4 * 3) % 16) (Nat.mod_lt _ (by decide))
  have h4 := bcd_ct (n / 2 ^ (4 * 4) % 16) (Nat.mod_lt _ (by decide))
  have hS : bcS 8 n = 2 ^ 4 * (2 ^ 4 * (2 ^ 4 * (2 ^ 4 * bcd (n / 2 ^ (4 * 4) % 16) + bcd (n / 2 ^ (4 * 3) % 16)) + bcd (n / 2 ^ (4 * 2) % 16)) + bcd (n / 2 ^ (4 * 1) % 16)) + bcd (n / 2 ^ (4 * 0) % 16) := by
    have m : ∀ q, n / 2 ^ (4 * q) % 16 < 2 ^ 4 := fun q => Nat.mod_lt _ (by decide)
    generalize hd0 : n / 2 ^ (4 * 0) % 16 = d0 at *
    generalize hd1 : n / 2 ^ (4 * 1) % 16 = d1 at *
    generalize hd2 : n / 2 ^ (4 * 2) % 16 = d2 at *
    generalize hd3 : n / 2 ^ (4 * 3) % 16 = d3 at *
    generalize hd4 : n / 2 ^ (4 * 4) % 16 = d4 at *
    have m0 : d0 < 2 ^ 4 := hd0 ▸ m 0
    have m1 : d1 < 2 ^ 4 := hd1 ▸ m 1
    have m2 : d2 < 2 ^ 4 := hd2 ▸ m 2
    have m3 : d3 < 2 ^ 4 := hd3 ▸ m 3
    have m4 : d4 < 2 ^ 4 := hd4 ▸ m 4
    rw [e, bcS_s m0, bcS_s m1, bcS_s m2, bcS_s m3, bcS_s m4, bcS_0]
    omega
  rw [hS, bcT_ok _ h0.2 _ h1.2 _ h2.2 _ h3.2 _ h4.2, h0.1, h1.1, h2.1, h3.1, h4.1, ← ct_nib, ← ct_nib, ← ct_nib, ← ct_nib, ← ct_nib]
  rw [show 20 = 4 + (4 + (4 + (4 + 4))) from rfl, fb_ct_split, fb_ct_split, fb_ct_split, fb_ct_split]
  have z : fb_ct n.testBit 4 = fb_ct (fun i => n.testBit (4 * 0 + i)) 4 := fb_ct_cong (fun k _ => by rw [Nat.mul_zero, Nat.zero_add])
  have z1 : fb_ct (fun k => n.testBit (4 + k)) 4 = fb_ct (fun i => n.testBit (4 * 1 + i)) 4 := rfl
  have z2 : fb_ct (fun k => n.testBit (4 + (4 + k))) 4 = fb_ct (fun i => n.testBit (4 * 2 + i)) 4 := fb_ct_cong (fun k _ => by congr 1; omega)
  have z3 : fb_ct (fun k => n.testBit (4 + (4 + (4 + k)))) 4 = fb_ct (fun i => n.testBit (4 * 3 + i)) 4 := fb_ct_cong (fun k _ => by congr 1; omega)
  have z4 : fb_ct (fun k => n.testBit (4 + (4 + (4 + (4 + k))))) 4 = fb_ct (fun i => n.testBit (4 * 4 + i)) 4 := fb_ct_cong (fun k _ => by congr 1; omega)
  rw [z, z1, z2, z3, z4]
  omega
theorem bt_nI {n i : Nat} (hn : n < 2 ^ 32) : bt (nI n) i = n.testBit i := by
  unfold bt
  rw [← BitVec.testBit_toNat, pk_tn hn]
theorem ush {a k : Nat} (ha : a < 2 ^ 32) (hk : k < 32) : ((nI a).toUInt32 >>> ((nI k).toUInt32 &&& Int32.toUInt32 31)).toInt32 = nI (a / 2 ^ k) := by
  refine b_ext (fun i hi => ?_)
  rw [b_ushr k hk, bt_nI (Nat.lt_of_le_of_lt (Nat.div_le_self _ _) ha), Nat.testBit_div_two_pow]
  rcases Nat.lt_or_ge (k + i) 32 with h | h
  · rw [bt_nI ha, Nat.add_comm]
  · rw [b_big h, Nat.add_comm, Nat.testBit_lt_two_pow (Nat.lt_of_lt_of_le ha (Nat.pow_le_pow_right (by decide) h))]
theorem bc_int {n : Nat} (hn : n < 2 ^ 20) (τ : gw_S) : f_J6_bitCount_0f7a4 τ (nI n) = some (nI (bcT (bcS 8 n))) := by
  unfold f_J6_bitCount_0f7a4
  have a5 : bc5 8 = 1431655765 := by decide +kernel
  have a3 : bc3 8 = 858993459 := by decide +kernel
  have s1 : nI n - ((((nI n).toUInt32 >>> ((1 : Int32).toUInt32 &&& Int32.toUInt32 31)).toInt32) &&& (1431655765 : Int32)) = nI (bcA 8 n) := by
    have : ((nI n).toUInt32 >>> ((1 : Int32).toUInt32 &&& Int32.toUInt32 31)).toInt32 = nI (n / 2 ^ 1) := ush (by omega) (k := 1) (by decide)
    rw [this, show (1431655765 : Int32) = nI (bc5 8) from by rw [a5]; rfl, fa_and, pk_sub (Nat.le_trans Nat.and_le_left (Nat.div_le_self _ _))]
    rfl
  rw [s1]
  have hA : bcA 8 n < 2 ^ 20 := by unfold bcA; omega
  have s2 : (nI (bcA 8 n) &&& (858993459 : Int32)) + (((nI (bcA 8 n)).toUInt32 >>> ((2 : Int32).toUInt32 &&& Int32.toUInt32 31)).toInt32 &&& (858993459 : Int32)) = nI (bcS 8 n) := by
    have : ((nI (bcA 8 n)).toUInt32 >>> ((2 : Int32).toUInt32 &&& Int32.toUInt32 31)).toInt32 = nI (bcA 8 n / 2 ^ 2) := ush (by omega) (k := 2) (by decide)
    rw [this, show (858993459 : Int32) = nI (bc3 8) from by rw [a3]; rfl, fa_and, fa_and, nI_add]
    rfl
  rw [s2]
  have hS : bcS 8 n < 2 ^ 21 := by
    unfold bcS
    have h1 : bcA 8 n &&& bc3 8 ≤ bcA 8 n := Nat.and_le_left
    have h2 : (bcA 8 n / 4) &&& bc3 8 ≤ bcA 8 n / 4 := Nat.and_le_left
    omega
  generalize bcS 8 n = b at hS
  have s3 : (nI b + ((nI b).toUInt32 >>> ((4 : Int32).toUInt32 &&& Int32.toUInt32 31)).toInt32) &&& (252645135 : Int32) = nI ((b + b / 16) &&& 252645135) := by
    have : ((nI b).toUInt32 >>> ((4 : Int32).toUInt32 &&& Int32.toUInt32 31)).toInt32 = nI (b / 2 ^ 4) := ush (by omega) (k := 4) (by decide)
    rw [this, nI_add, show (252645135 : Int32) = nI 252645135 from rfl, fa_and]
  rw [s3]
  have hc : (b + b / 16) &&& 252645135 < 2 ^ 22 := Nat.lt_of_le_of_lt Nat.and_le_left (by omega)
  unfold bcT
  dsimp only
  generalize (b + b / 16) &&& 252645135 = c at hc
  have s4 : nI c + ((nI c).toUInt32 >>> ((8 : Int32).toUInt32 &&& Int32.toUInt32 31)).toInt32 = nI (c + c / 256) := by
    have : ((nI c).toUInt32 >>> ((8 : Int32).toUInt32 &&& Int32.toUInt32 31)).toInt32 = nI (c / 2 ^ 8) := ush (by omega) (k := 8) (by decide)
    rw [this, nI_add]
  rw [s4]
  have hd : c + c / 256 < 2 ^ 23 := by omega
  generalize c + c / 256 = d at hd
  have s5 : ((nI d).toUInt32 >>> ((16 : Int32).toUInt32 &&& Int32.toUInt32 31)).toInt32 = nI (d / 2 ^ 16) := ush (by omega) (k := 16) (by decide)
  rw [s5, nI_add, show (63 : Int32) = nI 63 from rfl, fa_and]
theorem of_bits {x : Int32} {m : Nat} (hm : m ≤ 31) (h : ∀ k, bt x k = true → k < m) : ∃ n, n < 2 ^ m ∧ x = nI n := by
  refine ⟨x.toBitVec.toNat, Nat.lt_pow_two_of_testBit _ (fun i hi => ?_), b_ext (fun i hi => ?_)⟩
  · rw [BitVec.testBit_toNat]
    cases hb : x.toBitVec.getLsbD i
    · rfl
    · exact absurd (h i hb) (by omega)
  · rw [bt_nI x.toBitVec.isLt, BitVec.testBit_toNat]; rfl
theorem c_bits {x : Int32} (τ : gw_S) (h : ∀ k, bt x k = true → k < 20) : f_J6_bitCount_0f7a4 τ x = some (nI (fb_ct (fun i => bt x i) 20)) := by
  obtain ⟨n, hn, rfl⟩ := of_bits (by omega) h
  rw [bc_int hn, bc_nat hn]
  exact congrArg (fun z => some (nI z)) (fb_ct_cong (fun k hk => (bt_nI (by omega)).symm))
theorem m_size {x : Int32} (μ : gw_S) (h : ∀ k, bt x k = true → k < 20) : f_X4_size μ x = some (nI (fb_ct (fun i => bt x i) 20)) := by
  have e : fb_ct (fun i => bt x i) 20 = fb_ct (fun i => bt x i) 30 := (ct_ext (fun _ _ => rfl) 30 (by omega) (fun k a b => by
    cases hb : bt x k
    · rfl
    · exact absurd (h k hb) (by omega))).symm
  unfold f_X4_size
  rw [e]
  have G : gw_it (b_X4_size_1 μ x) 4096 (nI (fb_ct (fun i => bt x i) 0), nI 0) = some (nI (fb_ct (fun i => bt x i) 30), nI 30) := by
    refine gw_fun (fun k => (nI (fb_ct (fun i => bt x i) k), nI k)) _ 30 (by omega) (fun k hk => ?_) ?_
    · rw [b_X4_size_1, if_neg (show ¬ (30 : Int32) ≤ nI k from n_lt (n := 30) hk (by decide)), shr_bit (by omega), fb_ct_succ]
      cases bt x k
      · show some (Sum.inl (_ + 0, nI k + 1)) = _
        rw [Int32.add_zero, nI_1]; rfl
      · show some (Sum.inl (_ + 1, nI k + 1)) = _
        rw [nI_1, nI_1]; rfl
    · rfl
  exact it_bd G rfl
