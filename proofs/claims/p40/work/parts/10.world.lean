/-! THE WORLD: one state of the class (τ), one of the book (μ: int rows, o: the row of longs). A state is a function: cell, slot to int. Cells of the class as in whole; 132 c, 133 s, 134 n (ints: μ 0, μ 1, μ 2), 135 q (longs: o), 136 the row that swaps makes (μ 4), there only while it runs: gw_z Γ = 1. -/
abbrev gw_S : Type := Nat → Nat → Int32
def gw_up (σ : gw_S) (k j : Nat) (v : Int32) : gw_S := fun k' j' => if k' = k ∧ j' = j then v else σ k' j'
theorem gw_up_s (σ : gw_S) (k j : Nat) (v : Int32) : gw_up σ k j v k j = v := if_pos ⟨rfl, rfl⟩
theorem gw_up_n {σ : gw_S} {k j k' j' : Nat} {v : Int32} (h : ¬ (k' = k ∧ j' = j)) : gw_up σ k j v k' j' = σ k' j' := if_neg h
theorem gw_up_row (σ : gw_S) (k j : Nat) (v : Int32) : gw_up σ k j v k = upd (σ k) j v := by
  funext i
  by_cases h : i = j <;> simp [gw_up, upd, h]
theorem gw_up_rown {σ : gw_S} {k j k' : Nat} {v : Int32} (h : k' ≠ k) : gw_up σ k j v k' = σ k' := by
  funext i
  simp [gw_up, h]
abbrev gw_G : Type := Nat × (Nat → Nat) × (Nat → ClassId) × va_G × (Nat → Nat) × Nat
abbrev gw_N (Γ : gw_G) : Nat := Γ.1
abbrev gw_a (Γ : gw_G) : Nat → Nat := Γ.2.1
abbrev gw_y (Γ : gw_G) : Nat → ClassId := Γ.2.2.1
abbrev gw_D (Γ : gw_G) : va_G := Γ.2.2.2.1
abbrev gw_sa (Γ : gw_G) : Nat → Nat := Γ.2.2.2.2.1
abbrev gw_z (Γ : gw_G) : Nat := Γ.2.2.2.2.2
def gw_n (Γ : gw_G) : Nat := 136 + gw_z Γ
def gw_A (Γ : gw_G) : Nat → Prop := fun q => gw_N Γ ≤ q
def gw_len (k : Nat) : Nat := if 96 ≤ k ∧ k < 112 then 6 else 16
def gw_ml (j : Nat) : Nat := if j ≤ 1 then 64 else if j = 2 then 3 else 8
def gw_fM (Γ : gw_G) (r : Nat → Int32) : List Value := [.ref (gw_a Γ 1), .ref (gw_a Γ 2), .int (r 2), .int (r 3), .int (r 4), .ref (gw_a Γ 3)]
def gw_fC (Γ : gw_G) (k : Nat) (r : Nat → Int32) : List Value := [.int (r 0), .ref (gw_a Γ (k + 36)), .ref (gw_a Γ (k + 108)), .int (r 3), .int (r 4), .int (r 5), .int (r 6), .int (r 7)]
def gw_fS (Γ : gw_G) (k : Nat) (r : Nat → Int32) : List Value := [.int (r 0), .ref (gw_a Γ (k + 36)), .int (r 2), .int (r 3), .int (r 4), .int (r 5), .int (r 6), .int (r 7), .int (r 8), .int (r 9)]
def gw_fR (Γ : gw_G) (k : Nat) (r : Nat → Int32) : List Value := [.ref (gw_a Γ (k + 36)), .int (r 1)]
/-- a cell of the class -/
def gw_ec (Γ : gw_G) (k : Nat) (r : Nat → Int32) : va_E :=
  if k < 4 then (if k = 0 then .inr (3, gw_fM Γ r) else if k = 1 then .inl (gw_y Γ 1, 20, .inr (.inr (.inr (.inr (fun i => some (gw_a Γ (4 + i))))))) else if k = 2 then .inl (gw_y Γ 2, 16, .inr (.inr (.inr (.inr (fun i => some (gw_a Γ (24 + i))))))) else .inl (gw_y Γ 0, gw_len k, .inl r))
  else if k < 24 then .inr (0, gw_fC Γ k r)
  else if k < 40 then .inr (2, gw_fS Γ k r)
  else if k < 76 then .inr (1, gw_fR Γ k r)
  else .inl (gw_y Γ 0, gw_len k, .inl r)
def gw_e (Γ : gw_G) (τ μ : gw_S) (o : Nat → Int64) (k : Nat) : va_E :=
  if k < 132 then gw_ec Γ k (τ k) else if k = 135 then .inl (gw_y Γ 3, 8, .inr (.inl o)) else .inl (gw_y Γ 0, gw_ml (k - 132), .inl (μ (k - 132)))
def gw_W (Γ : gw_G) (τ μ : gw_S) (o : Nat → Int64) : va_W := (List.range (gw_n Γ)).map (fun k => (gw_a Γ k, gw_e Γ τ μ o k))
theorem gw_n1 (Γ : gw_G) : 136 ≤ gw_n Γ := by unfold gw_n; omega
theorem gw_at {Γ : gw_G} {τ μ : gw_S} {o : Nat → Int64} {k : Nat} (h : k < gw_n Γ) : (gw_W Γ τ μ o)[k]? = some (gw_a Γ k, gw_e Γ τ μ o k) := by
  simp [gw_W, h]
theorem gw_lenW {Γ : gw_G} {τ μ : gw_S} {o : Nat → Int64} : (gw_W Γ τ μ o).length = gw_n Γ := by simp [gw_W]
theorem gw_at1' {Γ : gw_G} {τ μ : gw_S} {o : Nat → Int64} {k : Nat} (h : k < 136) : (gw_W Γ τ μ o)[k]? = some (gw_a Γ k, gw_e Γ τ μ o k) := gw_at (Nat.lt_of_lt_of_le h (gw_n1 Γ))
theorem gw_of {Γ : gw_G} {τ μ : gw_S} {o : Nat → Int64} {k : Nat} {q : Nat × va_E} (h : (gw_W Γ τ μ o)[k]? = some q) : k < gw_n Γ ∧ q = (gw_a Γ k, gw_e Γ τ μ o k) := by
  have hk : k < gw_n Γ := by
    have := (List.getElem?_eq_some_iff.mp h).1
    rwa [gw_lenW] at this
  rw [gw_at hk] at h
  exact ⟨hk, (Option.some.inj h).symm⟩
theorem gw_set {Γ : gw_G} {τ μ τ' μ' : gw_S} {o o' : Nat → Int64} {k : Nat} {e : va_E} (hk : k < gw_n Γ) (h1 : gw_e Γ τ' μ' o' k = e) (h2 : ∀ j, j < gw_n Γ → j ≠ k → gw_e Γ τ' μ' o' j = gw_e Γ τ μ o j) : (gw_W Γ τ μ o).set k (gw_a Γ k, e) = gw_W Γ τ' μ' o' := by
  apply List.ext_getElem?
  intro j
  by_cases hj : j < gw_n Γ
  · rw [gw_at hj]
    by_cases hjk : j = k
    · subst hjk
      rw [List.getElem?_set_self (by rw [gw_lenW]; exact hj), h1]
    · rw [List.getElem?_set_ne (Ne.symm hjk), gw_at hj, h2 j hj hjk]
  · rw [List.getElem?_eq_none (by rw [List.length_set, gw_lenW]; omega), List.getElem?_eq_none (by rw [gw_lenW]; omega)]
theorem gw_setC {Γ : gw_G} {τ μ : gw_S} {o : Nat → Int64} {k j : Nat} {v : Int32} {e : va_E} (hk : k < 132) (h1 : gw_ec Γ k (upd (τ k) j v) = e) : (gw_W Γ τ μ o).set k (gw_a Γ k, e) = gw_W Γ (gw_up τ k j v) μ o := by
  refine gw_set (by have := gw_n1 Γ; omega) ?_ (fun i hi hne => ?_)
  · rw [gw_e, if_pos hk, gw_up_row]; exact h1
  · by_cases h : i < 132
    · rw [gw_e, if_pos h, gw_e, if_pos h, gw_up_rown hne]
    · rw [gw_e, if_neg h, gw_e, if_neg h]
theorem gw_setM {Γ : gw_G} {τ μ : gw_S} {o : Nat → Int64} {i j : Nat} {v : Int32} (hi : 132 + i < gw_n Γ) (h3 : i ≠ 3) : (gw_W Γ τ μ o).set (132 + i) (gw_a Γ (132 + i), .inl (gw_y Γ 0, gw_ml i, .inl (upd (μ i) j v))) = gw_W Γ τ (gw_up μ i j v) o := by
  have hz : 132 + i - 132 = i := by omega
  refine gw_set hi ?_ (fun q hq hne => ?_)
  · rw [gw_e, if_neg (by omega), if_neg (by omega), hz, gw_up_row]
  · by_cases h : q < 132
    · rw [gw_e, if_pos h, gw_e, if_pos h]
    · by_cases h3 : q = 135
      · rw [gw_e, if_neg h, if_pos h3, gw_e, if_neg h, if_pos h3]
      · rw [gw_e, if_neg h, if_neg h3, gw_e, if_neg h, if_neg h3, gw_up_rown (by omega)]
theorem gw_setO {Γ : gw_G} {τ μ : gw_S} {o o' : Nat → Int64} : (gw_W Γ τ μ o).set 135 (gw_a Γ 135, .inl (gw_y Γ 3, 8, .inr (.inl o'))) = gw_W Γ τ μ o' := by
  refine gw_set (by have := gw_n1 Γ; omega) rfl (fun q hq hne => ?_)
  by_cases h : q < 132
  · rw [gw_e, if_pos h, gw_e, if_pos h]
  · rw [gw_e, if_neg h, if_neg (by omega), gw_e, if_neg h, if_neg (by omega)]
-- the cells, one by one
section gwCells
variable {Γ : gw_G} {τ μ : gw_S} {o : Nat → Int64} {k : Nat}
theorem gw_atM : (gw_W Γ τ μ o)[0]? = some (gw_a Γ 0, .inr (3, gw_fM Γ (τ 0))) := gw_at1' (by decide)
theorem gw_at1 : (gw_W Γ τ μ o)[1]? = some (gw_a Γ 1, .inl (gw_y Γ 1, 20, .inr (.inr (.inr (.inr (fun i => some (gw_a Γ (4 + i)))))))) := gw_at1' (by decide)
theorem gw_at2 : (gw_W Γ τ μ o)[2]? = some (gw_a Γ 2, .inl (gw_y Γ 2, 16, .inr (.inr (.inr (.inr (fun i => some (gw_a Γ (24 + i)))))))) := gw_at1' (by decide)
theorem gw_atO : (gw_W Γ τ μ o)[135]? = some (gw_a Γ 135, .inl (gw_y Γ 3, 8, .inr (.inl o))) := gw_at1' (by decide)
abbrev gw_kC (k : Nat) : Prop := 4 ≤ k ∧ k < 24
abbrev gw_kS (k : Nat) : Prop := 24 ≤ k ∧ k < 40
abbrev gw_kR (k : Nat) : Prop := 40 ≤ k ∧ k < 76
abbrev gw_kA (k : Nat) : Prop := k = 3 ∨ (76 ≤ k ∧ k < 132)
theorem gw_ecC {r : Nat → Int32} (h : gw_kC k) : gw_ec Γ k r = .inr (0, gw_fC Γ k r) := by
  rw [gw_ec, if_neg (by omega), if_pos h.2]
theorem gw_ecS {r : Nat → Int32} (h : gw_kS k) : gw_ec Γ k r = .inr (2, gw_fS Γ k r) := by
  rw [gw_ec, if_neg (by omega), if_neg (by omega), if_pos h.2]
theorem gw_ecR {r : Nat → Int32} (h : gw_kR k) : gw_ec Γ k r = .inr (1, gw_fR Γ k r) := by
  rw [gw_ec, if_neg (by omega), if_neg (by omega), if_neg (by omega), if_pos h.2]
theorem gw_ecA {r : Nat → Int32} (h : gw_kA k) : gw_ec Γ k r = .inl (gw_y Γ 0, gw_len k, .inl r) := by
  rcases h with rfl | h
  · rfl
  · rw [gw_ec, if_neg (by omega), if_neg (by omega), if_neg (by omega), if_neg (by omega)]
theorem gw_atC (h : gw_kC k) : (gw_W Γ τ μ o)[k]? = some (gw_a Γ k, .inr (0, gw_fC Γ k (τ k))) := by
  rw [gw_at1' (by omega), gw_e, if_pos (by omega), gw_ecC h]
theorem gw_atS (h : gw_kS k) : (gw_W Γ τ μ o)[k]? = some (gw_a Γ k, .inr (2, gw_fS Γ k (τ k))) := by
  rw [gw_at1' (by omega), gw_e, if_pos (by omega), gw_ecS h]
theorem gw_atR (h : gw_kR k) : (gw_W Γ τ μ o)[k]? = some (gw_a Γ k, .inr (1, gw_fR Γ k (τ k))) := by
  rw [gw_at1' (by omega), gw_e, if_pos (by omega), gw_ecR h]
theorem gw_atA (h : gw_kA k) : (gw_W Γ τ μ o)[k]? = some (gw_a Γ k, .inl (gw_y Γ 0, gw_len k, .inl (τ k))) := by
  rw [gw_at1' (by omega), gw_e, if_pos (by omega), gw_ecA h]
theorem gw_atX {j : Nat} (h : 132 + j < gw_n Γ) (h3 : j ≠ 3) : (gw_W Γ τ μ o)[132 + j]? = some (gw_a Γ (132 + j), .inl (gw_y Γ 0, gw_ml j, .inl (μ j))) := by
  rw [gw_at h, gw_e, if_neg (by omega), if_neg (by omega), show 132 + j - 132 = j by omega]
theorem gw_nB {j : Nat} (h : j < 3) : 132 + j < gw_n Γ ∧ j ≠ 3 := ⟨by have := gw_n1 Γ; omega, by omega⟩
theorem gw_nT (h : gw_z Γ = 1) : 132 + 4 < gw_n Γ := by unfold gw_n; omega
theorem gw_atB {j : Nat} (h : j < 3) : (gw_W Γ τ μ o)[132 + j]? = some (gw_a Γ (132 + j), .inl (gw_y Γ 0, gw_ml j, .inl (μ j))) := gw_atX (gw_nB h).1 (gw_nB (Γ := Γ) h).2
theorem gw_setA {i : Nat} {v : Int32} (h : gw_kA k) : (gw_W Γ τ μ o).set k (gw_a Γ k, .inl (gw_y Γ 0, gw_len k, .inl (upd (τ k) i v))) = gw_W Γ (gw_up τ k i v) μ o := gw_setC (by omega) (gw_ecA h)
theorem gw_setB {j i : Nat} {v : Int32} (h : j < 3) : (gw_W Γ τ μ o).set (132 + j) (gw_a Γ (132 + j), .inl (gw_y Γ 0, gw_ml j, .inl (upd (μ j) i v))) = gw_W Γ τ (gw_up μ j i v) o := gw_setM (gw_nB h).1 (gw_nB (Γ := Γ) h).2
end gwCells
/-- the words that stay: of the tables alone -/
def gw_okw (w : Cond) : Bool := w.onTables && (w.keeps || match w with
  | .castable _ _ => true
  | .declares _ => true
  | _ => false)
def gw_L : List Cond := lw_tbl.filter gw_okw
theorem gw_in {w : Cond} (i : Nat) (h : lw_tbl[i]? = some w) (ok : gw_okw w = true) : w ∈ gw_L := List.mem_filter.mpr ⟨List.mem_of_getElem? h, ok⟩
theorem gw_ins (ws : List Cond) (ps : List Nat) (hp : ws = ps.filterMap (fun i => lw_tbl[i]?)) (h : ws.all gw_okw = true) : ∀ w ∈ ws, w ∈ gw_L := by
  intro w hw
  have h1 := List.all_eq_true.mp h w hw
  rw [hp] at hw
  obtain ⟨i, -, hi⟩ := List.mem_filterMap.mp hw
  exact gw_in i hi h1
theorem gw_tab {w : Cond} (h : w ∈ gw_L) : w.onTables = true := by
  have := (List.mem_filter.mp h).2
  simp only [gw_okw, Bool.and_eq_true] at this
  exact this.1
theorem gw_warm {w : Cond} {s U : State} (h : w ∈ gw_L) (hW : s.WarmedH U.vm) (hz : va_Nw w s) : va_Nw w U := by
  have h1 := (List.mem_filter.mp h).2
  simp only [gw_okw, Bool.and_eq_true, Bool.or_eq_true] at h1
  obtain ⟨h2, h3 | h3⟩ := h1
  · exact word_at hW (Or.inl (by rw [h2, h3]; rfl)) hz
  · cases w <;> first | (exact va_Nw.warmC hW hz) | (exact va_Nw.warmD hW hz) | (cases h3)
/-- the texts of the exceptions: entry, text -/
def gw_ST : List (Nat × String) := [(46, "seats, credits or hours out of range"), (53, "no more courses"), (72, "seats out of range"), (78, "more places are taken or held"), (93, "no new prerequisite without a circle"), (117, "band or limit out of range"), (119, "no more students"), (138, "passed already or enrolled"), (159, "passed or enrolled"), (168, "wished already or no more wishes"), (173, "not wished"), (182, "on the waiting list already"), (184, "an obstacle"), (190, "not enrolled"), (195, "not enrolled, or the same course"), (197, "no free seat"), (203, "no offer"), (205, "not on the waiting list"), (207, "days out of range"), (216, "seed below 0"), (234, "no place put up"), (254, "no such course"), (257, "no such student"), (262, "nothing at this place")]
def gw_X : List String := ["java/lang/IllegalStateException"]
abbrev gw_T (Γ : gw_G) : List (ClassId × FieldType) := [(gw_y Γ 0, .int), (gw_y Γ 1, .object "CourseEnrolment$Course"), (gw_y Γ 2, .object "CourseEnrolment$Student"), (gw_y Γ 3, .long)]
def gw_ok (Γ : gw_G) : Prop := (∀ i j, i < gw_n Γ → j < gw_n Γ → gw_a Γ i = gw_a Γ j → i = j) ∧ ∀ k, k < gw_n Γ → gw_N Γ ≤ gw_a Γ k
theorem gw_Dd {Γ : gw_G} {τ μ : gw_S} {o : Nat → Int64} (h : gw_ok Γ) : va_D (gw_A Γ) (gw_W Γ τ μ o) := by
  refine ⟨fun i j p q hi hj hpq => ?_, fun k q hk => ?_⟩
  · obtain ⟨h1, rfl⟩ := gw_of hi
    obtain ⟨h2, rfl⟩ := gw_of hj
    exact h.1 i j h1 h2 hpq
  · obtain ⟨h1, rfl⟩ := gw_of hk
    exact h.2 k h1
/-- what holds of the machine wherever a method begins -/
def gw_H (Γ : gw_G) (l : Launch) (U : State) : Prop :=
  (∀ w ∈ gw_L, va_Nw w U) ∧ va_K (gw_D Γ) vwCl (gw_T Γ) U ∧ gw_N Γ ≤ U.heap.size ∧ gw_ok Γ ∧ l.stackTraces = false ∧ vx_Zq Bundle.tN "UNASSIGNED_STACK" Bundle.steD (gw_A Γ) U U.heap ∧ vx_Zq Bundle.tN "SUPPRESSED_SENTINEL" Bundle.listD (gw_A Γ) U U.heap ∧ (∀ q ∈ gw_ST, vk_R RX3 q.1 q.2 (gw_sa Γ q.1) U) ∧ (∀ a ∈ gw_X, ∀ b ∈ gw_X, a ≠ b → va_Nc a b U) ∧ (Cond.arrayClass .int).before #[] U = true
theorem gw_arr {args a' : Array Value} {s U : State} (hW : s.WarmedH U.vm) (h : (Cond.arrayClass .int).before args s = true) : (Cond.arrayClass .int).before a' U = true := word_at hW (Or.inr ⟨_, rfl⟩) h
theorem gw_H.call {Γ : gw_G} {l : Launch} {U : State} (g : JFrame) (mk : MethodId) (a : Array Value) (h : gw_H Γ l U) : gw_H Γ l (U.calling g mk a) := by
  obtain ⟨h1, h2, h3, h4, h5, h6, h7, h8, h9, h10⟩ := h
  refine ⟨fun w hw => va_Nw.same (gw_tab hw) (u := U) rfl (h1 w hw), va_K.moved (u := U) (Vm.Alike.refl U.vm) h2, h3, h4, h5, vx_Zq.moved (u := U) (Vm.Alike.refl U.vm) h6, vx_Zq.moved (u := U) (Vm.Alike.refl U.vm) h7, fun q hq => vk_R.same (u := U) rfl (h8 q hq), fun a ha b hb hab => va_Nc.moved (u := U) (Vm.Alike.refl U.vm) (h9 a ha b hb hab), gw_arr (s := U) (U := U.calling g mk a) (State.WarmedH.refl U) h10⟩
theorem gw_H.step {Γ : gw_G} {l : Launch} {s U : State} {H : Heap} {locs : List Loc} (h : gw_H Γ l s) (hS : va_S (gw_A Γ) s.heap H locs) (hU : U.heap = H) (hW : s.WarmedH U.vm) : gw_H Γ l U := by
  obtain ⟨h1, h2, h3, h4, h5, h6, h7, h8, h9, h10⟩ := h
  refine ⟨fun w hw => gw_warm hw hW (h1 w hw), va_K.moved hW.alike h2, by rw [hU]; exact Nat.le_trans h3 hS.1, h4, h5, ?_, ?_, fun q hq => vk_R.warm hW (h8 q hq), fun a ha b hb hab => va_Nc.moved hW.alike (h9 a ha b hb hab), gw_arr hW h10⟩
  · rw [hU]; exact vx_Zq.moved hW.alike (h6.kept hS.2.1)
  · rw [hU]; exact vx_Zq.moved hW.alike (h7.kept hS.2.1)
def gw_P (Γ : gw_G) (l : Launch) (ws : va_W) (U : State) : Prop := va_P (gw_D Γ) vwCl ws U.heap ∧ gw_H Γ l U
abbrev gw_K := Program × Launch × Env × State × MethodId × Array Value × List Frame × Method × Code × (State → Prop)
abbrev gw_p (K : gw_K) : Program := K.1
abbrev gw_l (K : gw_K) : Launch := K.2.1
abbrev gw_en (K : gw_K) : Env := K.2.2.1
abbrev gw_s (K : gw_K) : State := K.2.2.2.1
abbrev gw_m (K : gw_K) : MethodId := K.2.2.2.2.1
abbrev gw_as (K : gw_K) : Array Value := K.2.2.2.2.2.1
abbrev gw_b (K : gw_K) : List Frame := K.2.2.2.2.2.2.1
abbrev gw_me (K : gw_K) : Method := K.2.2.2.2.2.2.2.1
abbrev gw_c (K : gw_K) : Code := K.2.2.2.2.2.2.2.2.1
abbrev gw_Q (K : gw_K) : State → Prop := K.2.2.2.2.2.2.2.2.2
/-- THE JUDGEMENT: from this place of the method, with these locals, this stack and this world -/
def gw_J (K : gw_K) (Γ : gw_G) (R : Room) (cells slots : Nat) (ws : va_W) (pc : Nat) (lv : List (Nat × Value)) (st : List Value) : Prop :=
  ∀ (H : Heap) (locs : List Loc) (ls : Array Slot), va_P (gw_D Γ) vwCl ws H → va_S (gw_A Γ) (gw_s K).heap H locs → lv_has ls (gw_c K).maxLocals lv → W (gw_p K) (gw_l K) (gw_en K) R (gw_s K) (gw_m K) (gw_as K) (gw_b K) (gw_me K) (gw_c K) H locs cells slots (gw_Q K) (F0 (gw_m K) pc ls st)
/-- .. and with an exception thrown over this place -/
def gw_JX (K : gw_K) (Γ : gw_G) (R : Room) (cells slots : Nat) (ws : va_W) (pc : Nat) (lv : List (Nat × Value)) (E : String) : Prop :=
  ∀ (H : Heap) (locs : List Loc) (ls : Array Slot) (rest : List Value) (q : Nat) (ce : Cell), va_P (gw_D Γ) vwCl ws H → va_S (gw_A Γ) (gw_s K).heap H locs → lv_has ls (gw_c K).maxLocals lv → H[q]? = some ce → ce.vm = .none → (gw_s K).vm.findClass E = some ce.cls → vx_W (gw_p K) (gw_l K) (gw_en K) R (gw_s K) (gw_m K) (gw_as K) (gw_b K) (gw_me K) (gw_c K) H locs cells slots (gw_Q K) (F0 (gw_m K) pc ls rest) q
/-- what is known of the frame -/
def gw_C (K : gw_K) (Γ : gw_G) (cc : ByteArray) (nL : Nat) (own : String) : Prop :=
  (gw_p K).tables.exec = Jvm.exec ∧ (gw_c K).code = cc ∧ (gw_c K).maxLocals = nL ∧ (gw_s K).vm.findClass own = some (gw_m K).cls ∧ gw_H Γ (gw_l K) (gw_s K) ∧ (gw_me K).locks = false
section gwC
variable {K : gw_K} {Γ : gw_G} {cc : ByteArray} {nL : Nat} {own : String}
theorem gw_C.ws (C : gw_C K Γ cc nL own) : ∀ w ∈ gw_L, w.before (gw_as K) (gw_s K) = true := fun w hw => va_Nw.use (gw_tab hw) (C.2.2.2.2.1.1 w hw)
theorem gw_C.ow (C : gw_C K Γ cc nL own) : (gw_s K).vm.findClass own = some (gw_m K).cls := C.2.2.2.1
theorem gw_C.hh (C : gw_C K Γ cc nL own) : gw_H Γ (gw_l K) (gw_s K) := C.2.2.2.2.1
theorem gw_C.k (C : gw_C K Γ cc nL own) : va_K (gw_D Γ) vwCl (gw_T Γ) (gw_s K) := C.2.2.2.2.1.2.1
theorem gw_C.d (C : gw_C K Γ cc nL own) {τ μ : gw_S} {o : Nat → Int64} : va_D (gw_A Γ) (gw_W Γ τ μ o) := gw_Dd C.2.2.2.2.1.2.2.2.1
theorem gw_C.locks (C : gw_C K Γ cc nL own) : (gw_me K).locks = false := C.2.2.2.2.2
theorem gw_C.fix (C : gw_C K Γ cc nL own) : CallFix (gw_p K) (gw_m K) (gw_c K) cc nL (gw_s K) (gw_as K) gw_L own := ⟨C.1, C.2.1, C.2.2.1, C.ow, C.ws⟩
theorem gw_C.inj (C : gw_C K Γ cc nL own) {i j : Nat} (hi : i < 136) (hj : j < 136) : gw_a Γ i = gw_a Γ j ↔ i = j := ⟨C.2.2.2.2.1.2.2.2.1.1 i j (Nat.lt_of_lt_of_le hi (gw_n1 Γ)) (Nat.lt_of_lt_of_le hj (gw_n1 Γ)), fun h => by rw [h]⟩
end gwC
