/-! RULES for the law's walk: longs, a row made while a method runs, the script, the switch, what is caught -/
section gwLR
variable {K : gw_K} {Γ : gw_G} {R : Room} {cells slots pc mc ms : Nat} {ws ws1 : va_W} {lv : List (Nat × Value)} {rest : List Value} {cc : ByteArray} {nL : Nat} {own : String} {ret : Option FieldType}
theorem gj_idiv (C : gw_C K Γ cc nL own) {x y : Int32} (hd : decode cc pc = .ok (.idiv, 1)) (h0 : ¬ y = 0) (k : gw_J K Γ R cells slots ws (pc + 1) lv (.int (x / y) :: rest)) : gw_J K Γ R cells slots ws pc lv (.int y :: .int x :: rest) := fun H locs ls hP hS hl => lv_idiv C.1 C.2.1 hd h0 (k H locs ls hP hS hl)
theorem gj_lsub (C : gw_C K Γ cc nL own) {x y : Int64} (hd : decode cc pc = .ok (.lsub, 1)) (k : gw_J K Γ R cells slots ws (pc + 1) lv (.long (x - y) :: rest)) : gw_J K Γ R cells slots ws pc lv (.long y :: .long x :: rest) := fun H locs ls hP hS hl => lv_lsub C.1 C.2.1 hd (k H locs ls hP hS hl)
theorem gj_land (C : gw_C K Γ cc nL own) {x y : Int64} (hd : decode cc pc = .ok (.land, 1)) (k : gw_J K Γ R cells slots ws (pc + 1) lv (.long (x &&& y) :: rest)) : gw_J K Γ R cells slots ws pc lv (.long y :: .long x :: rest) := fun H locs ls hP hS hl => lv_land C.1 C.2.1 hd (k H locs ls hP hS hl)
theorem gj_lor (C : gw_C K Γ cc nL own) {x y : Int64} (hd : decode cc pc = .ok (.lor, 1)) (k : gw_J K Γ R cells slots ws (pc + 1) lv (.long (x ||| y) :: rest)) : gw_J K Γ R cells slots ws pc lv (.long y :: .long x :: rest) := fun H locs ls hP hS hl => lv_lor C.1 C.2.1 hd (k H locs ls hP hS hl)
theorem gj_lshl (C : gw_C K Γ cc nL own) {x v : Int64} {y : Int32} (hd : decode cc pc = .ok (.lshl, 1)) (hv : x <<< (y.toInt64 &&& 63) = v) (k : gw_J K Γ R cells slots ws (pc + 1) lv (.long v :: rest)) : gw_J K Γ R cells slots ws pc lv (.int y :: .long x :: rest) := fun H locs ls hP hS hl => lv_lshl C.1 C.2.1 hd hv (k H locs ls hP hS hl)
theorem gj_lshr (C : gw_C K Γ cc nL own) {x v : Int64} {y : Int32} (hd : decode cc pc = .ok (.lshr, 1)) (hv : x >>> (y.toInt64 &&& 63) = v) (k : gw_J K Γ R cells slots ws (pc + 1) lv (.long v :: rest)) : gw_J K Γ R cells slots ws pc lv (.int y :: .long x :: rest) := fun H locs ls hP hS hl => lv_lshr C.1 C.2.1 hd hv (k H locs ls hP hS hl)
theorem gj_lushr (C : gw_C K Γ cc nL own) {x v : Int64} {y : Int32} (hd : decode cc pc = .ok (.lushr, 1)) (hv : (x.toUInt64 >>> (y.toInt64.toUInt64 &&& Int64.toUInt64 63)).toInt64 = v) (k : gw_J K Γ R cells slots ws (pc + 1) lv (.long v :: rest)) : gw_J K Γ R cells slots ws pc lv (.int y :: .long x :: rest) := fun H locs ls hP hS hl => lv_lushr C.1 C.2.1 hd hv (k H locs ls hP hS hl)
def gw_ql (Γ : gw_G) (r : Int64) (ws1 : va_W) : Array Value → State → Outcome → State → Prop := va_Ql (fun r' (_ : Unit) => r' = r) (gw_B Γ ws1) (gw_A Γ)
theorem gj_lret (C : gw_C K Γ cc nL own) {r : Int64} (E : gw_E K Γ (gw_ql Γ r ws1) mc ms (some .long)) (hd : decode cc pc = .ok (.lreturn, 1)) (hc : cells ≤ mc) (hs : slots ≤ ms) : gw_J K Γ R cells slots ws1 pc lv [.long r] := fun H locs ls hP hS hl => by
  refine W.widen hc hs ?_
  rw [E.2]
  exact W.lret C.1 C.2.1 E.1 (fun t ht hW => ⟨⟨r, (), rfl, rfl, by show va_P _ _ _ t.heap; rw [ht]; exact hP⟩, hS.F ht⟩) hS.2.2 hd C.locks
end gwLR
theorem gw_ifn {c : Prop} [Decidable c] {α : Type} {a : Option α} {r : α} (h : (if c then none else a) = some r) : ¬ c ∧ a = some r := by
  by_cases hc : c
  · rw [if_pos hc] at h; cases h
  · rw [if_neg hc] at h; exact ⟨hc, h⟩
theorem gw_nb {r : Int32} (h : r = 0 ∨ r = 1) : narrow .boolean (.int r) = .int r := by
  rcases h with rfl | rfl <;> decide
/-- the world with the row that swaps makes -/
def gw_Gx (Γ : gw_G) (q : Nat) : gw_G := (gw_N Γ, fun k => if k = 136 then q else gw_a Γ k, gw_y Γ, gw_D Γ, gw_sa Γ, 1)
theorem gw_Gx_n {Γ : gw_G} {q : Nat} : gw_n (gw_Gx Γ q) = 137 := rfl
theorem gw_n0 {Γ : gw_G} (h : gw_z Γ = 0) : gw_n Γ = 136 := by unfold gw_n; rw [h]
theorem gw_ax {Γ : gw_G} {q z : Nat} (h : z < 136) : gw_a (gw_Gx Γ q) z = gw_a Γ z := if_neg (by omega)
theorem gw_arrV {c : ClassId} {N : Nat} {f g : Nat → Value} (h : ∀ i, i < N → f i = g i) : arrV c N f = arrV c N g := by
  unfold arrV
  congr 2
  funext j
  exact h j.1 j.2
theorem gw_at_x {Γ : gw_G} {q k : Nat} {τ μ μ' : gw_S} {o : Nat → Int64} {H : Heap} (h : k < 136) (hμ : ∀ j, j < 3 → μ' j = μ j) : va_at (gw_D Γ) vwCl (gw_a (gw_Gx Γ q) k, gw_e (gw_Gx Γ q) τ μ' o k) H ↔ va_at (gw_D Γ) vwCl (gw_a Γ k, gw_e Γ τ μ o k) H := by
  rw [gw_ax h]
  by_cases h1 : k = 1
  · subst h1
    show H[gw_a Γ 1]? = some (arrV (gw_y Γ 1) 20 (fun i => va_rf (some (gw_a (gw_Gx Γ q) (4 + i))))) ↔ H[gw_a Γ 1]? = some (arrV (gw_y Γ 1) 20 (fun i => va_rf (some (gw_a Γ (4 + i)))))
    rw [gw_arrV (f := fun i => va_rf (some (gw_a (gw_Gx Γ q) (4 + i)))) (g := fun i => va_rf (some (gw_a Γ (4 + i)))) (fun i hi => by rw [gw_ax (by omega)])]
  by_cases h2 : k = 2
  · subst h2
    show H[gw_a Γ 2]? = some (arrV (gw_y Γ 2) 16 (fun i => va_rf (some (gw_a (gw_Gx Γ q) (24 + i))))) ↔ H[gw_a Γ 2]? = some (arrV (gw_y Γ 2) 16 (fun i => va_rf (some (gw_a Γ (24 + i)))))
    rw [gw_arrV (f := fun i => va_rf (some (gw_a (gw_Gx Γ q) (24 + i)))) (g := fun i => va_rf (some (gw_a Γ (24 + i)))) (fun i hi => by rw [gw_ax (by omega)])]
  have e : gw_e (gw_Gx Γ q) τ μ' o k = gw_e Γ τ μ o k := by
    unfold gw_e
    by_cases hk : k < 132
    · rw [if_pos hk, if_pos hk]
      unfold gw_ec
      by_cases c0 : k < 4
      · rw [if_pos c0, if_pos c0]
        by_cases c1 : k = 0
        · rw [if_pos c1, if_pos c1]
          unfold gw_fM
          rw [gw_ax (by omega), gw_ax (by omega), gw_ax (by omega)]
        · rw [if_neg c1, if_neg c1, if_neg h1, if_neg h1, if_neg h2, if_neg h2]; rfl
      · rw [if_neg c0, if_neg c0]
        by_cases c1 : k < 24
        · rw [if_pos c1, if_pos c1]
          unfold gw_fC
          rw [gw_ax (by omega), gw_ax (by omega)]
        · rw [if_neg c1, if_neg c1]
          by_cases c2 : k < 40
          · rw [if_pos c2, if_pos c2]
            unfold gw_fS
            rw [gw_ax (by omega)]
          · rw [if_neg c2, if_neg c2]
            by_cases c3 : k < 76
            · rw [if_pos c3, if_pos c3]
              unfold gw_fR
              rw [gw_ax (by omega)]
            · rw [if_neg c3, if_neg c3]; rfl
    · rw [if_neg hk, if_neg hk]
      by_cases c1 : k = 135
      · rw [if_pos c1, if_pos c1]; rfl
      · rw [if_neg c1, if_neg c1, hμ (k - 132) (by omega)]; rfl
  rw [e]
theorem gw_Px {Γ : gw_G} {q : Nat} {τ μ μ' : gw_S} {o : Nat → Int64} {H : Heap} (hz : gw_z Γ = 0) (hμ : ∀ j, j < 3 → μ' j = μ j) (h : va_P (gw_D Γ) vwCl (gw_W (gw_Gx Γ q) τ μ' o) H) : va_P (gw_D Γ) vwCl (gw_W Γ τ μ o) H := by
  intro k x hk
  obtain ⟨h1, rfl⟩ := gw_of hk
  rw [gw_n0 hz] at h1
  exact (gw_at_x h1 hμ).mp (h k _ (gw_at (by rw [gw_Gx_n]; omega)))
section gwT
variable {K : gw_K} {Γ : gw_G} {R : Room} {cells slots pc mc ms : Nat} {lv : List (Nat × Value)} {cc : ByteArray} {nL : Nat} {own : String} {τ μ : gw_S} {o : Nat → Int64}
theorem gj_newto (lvf : gw_G → List (Nat × Value)) (C : gw_C K Γ cc nL own) (hz : gw_z Γ = 0) (hd : decode cc pc = .ok (.newarray .int, 2)) (hc : cells + 1 ≤ R.cells) (hs : slots + 8 ≤ R.slots) (h1 : lvf Γ = lv) (h2 : ∀ q, lvf (gw_Gx Γ q) = lvf Γ)
    (k : ∀ Γ' : gw_G, (∃ q, Γ' = gw_Gx Γ q) → gw_z Γ' = 1 → gw_C K Γ' cc nL own → gw_J K Γ' R (cells + 1) (slots + 8) (gw_W Γ' τ (gw_row μ 4 (fun _ => 0)) o) (pc + 2) (lvf Γ') [.ref (gw_a Γ' 136)]) : gw_J K Γ R cells slots (gw_W Γ τ μ o) pc lv [.int 8] := fun H locs ls hP hS hl =>
  va_newa (atype := .int) (ty := .int) (N' := 8) (a0 := (8, .inl (fun _ => 0))) C.1 C.2.1 (gw_arr (s := gw_s K) (U := gw_s K) (State.WarmedH.refl _) C.hh.2.2.2.2.2.2.2.2.2) rfl C.k hP C.d hS (fun q h => Nat.le_trans C.hh.2.2.1 h) (fun cA => rfl) (by decide) rfl (by decide) hc hs hd (fun q cA H hK hP hD hS => by
    have e1 : (gw_s K).vm.findClass ("[" ++ FieldType.int.toString) = some cA := (hK.2 4 (cA, .int) rfl).2
    have e2 : (gw_s K).vm.findClass ("[" ++ FieldType.int.toString) = some (gw_y Γ 0) := (C.k.2 0 (gw_y Γ 0, .int) rfl).2
    cases Option.some.inj (e1.symm.trans e2)
    have hlen : (gw_W Γ τ μ o).length = 136 := by rw [gw_lenW, gw_n0 hz]
    have hq : (gw_W Γ τ μ o ++ [(q, (Sum.inl (gw_y Γ 0, 8, Sum.inl (fun _ => 0)) : va_E))])[136]? = some (q, (Sum.inl (gw_y Γ 0, 8, Sum.inl (fun _ => 0)) : va_E)) := by
      rw [List.getElem?_append_right (by rw [hlen]; exact Nat.le_refl _), hlen]
      rfl
    have hk : ∀ z, z < 136 → (gw_W Γ τ μ o ++ [(q, (Sum.inl (gw_y Γ 0, 8, Sum.inl (fun _ => 0)) : va_E))])[z]? = some (gw_a Γ z, gw_e Γ τ μ o z) := fun z hz => by
      rw [List.getElem?_append_left (by rw [hlen]; exact hz), gw_at1' hz]
    have hok : gw_ok (gw_Gx Γ q) := by
      refine ⟨fun i j hi hj he => ?_, fun z hzz => ?_⟩
      · rw [gw_Gx_n] at hi hj
        have hi' : i < 136 ∨ i = 136 := by omega
        have hj' : j < 136 ∨ j = 136 := by omega
        rcases hi' with hi | rfl <;> rcases hj' with hj | rfl
        · rw [gw_ax hi, gw_ax hj] at he
          exact hD.1 i j _ _ (hk i hi) (hk j hj) he
        · rw [gw_ax hi] at he
          exact hD.1 i 136 _ _ (hk i hi) hq he
        · rw [gw_ax hj] at he
          exact hD.1 136 j _ _ hq (hk j hj) he
        · rfl
      · rw [gw_Gx_n] at hzz
        have h' : z < 136 ∨ z = 136 := by omega
        rcases h' with h | rfl
        · rw [gw_ax h]
          exact hD.2 z _ (hk z h)
        · exact hD.2 136 _ hq
    have C' : gw_C K (gw_Gx Γ q) cc nL own := by
      obtain ⟨c1, c2, c3, c4, ⟨d1, d2, d3, d4, d5, d6, d7, d8, d9⟩, c6⟩ := C
      exact ⟨c1, c2, c3, c4, ⟨d1, d2, d3, hok, d5, d6, d7, d8, d9⟩, c6⟩
    refine k (gw_Gx Γ q) ⟨q, rfl⟩ rfl C' H locs ls ?_ hS (by rw [h2, h1]; exact hl)
    intro z x hx
    obtain ⟨hz1, rfl⟩ := gw_of hx
    rw [gw_Gx_n] at hz1
    have h' : z < 136 ∨ z = 136 := by omega
    rcases h' with h | rfl
    · exact (gw_at_x h (fun j hj => if_neg (by omega))).mpr (hP z _ (hk z h))
    · exact hP 136 _ hq)
theorem gj_iretT {Γ' : gw_G} {r : Int32} (hx : ∃ q, Γ' = gw_Gx Γ q) (hz : gw_z Γ = 0) (C : gw_C K Γ cc nL own) (E : gw_E K Γ (gw_qi Γ r (gw_W Γ τ μ o)) mc ms (some .int)) (hd : decode cc pc = .ok (.ireturn, 1)) (hc : cells ≤ mc) (hs : slots ≤ ms) : gw_J K Γ' R cells slots (gw_W Γ' τ μ o) pc lv [.int r] := fun H locs ls hP hS hl => by
  obtain ⟨q, rfl⟩ := hx
  exact gj_iret C E hd hc hs H locs ls (gw_Px hz (fun _ _ => rfl) hP) hS hl
theorem gj_cSl {index maxL n : Nat} {y : MethodName} {c2 : ByteArray} {ret : Option FieldType} {rm : Room} {As : List Value} {ws ws1 : va_W} {rest st : List Value} {mc ms : Nat} (C : gw_C K Γ cc nL own) (cv : gw_cs own index y c2 maxL ret n) {r : Int64} (hM : gw_M (gw_l K) y [.code y c2 maxL ret] rm mc ms Γ As ws (gw_ql Γ r ws1)) (hn : As.length = n) (hrest : (rest.map fun v => v.category).sum ≤ 8) (hd : decode cc pc = .ok (.invokestatic index, 3)) (hr : gw_rm rm R maxL mc ms cells slots) (hst : As.reverse ++ rest = st) (k : gw_J K Γ R (cells + mc) (slots + ms) ws1 (pc + 3) lv (.long r :: rest)) : gw_J K Γ R cells slots ws pc lv st := fun H locs ls hP hS hl => va_calll (gw_runS C cv hM hn hrest hd hr hst hP hS hl) hS (fun q _ h => h) (fun q h => h) (fun r1 u t H1 locs1 ht hvm hw hB hz hk hS1 => by
  cases hw
  exact k H1 locs1 ls (by rw [← ht]; exact hB) hS1 hl)
end gwT
theorem gw_enterW {l : Launch} {y : MethodName} {cc : ByteArray} {maxL mc ms : Nat} {ret : Option FieldType} {rm : Room} {Γ : gw_G} {As : List Value} {ws0 : va_W} {Qc : Array Value → State → Outcome → State → Prop} {hh : List (Nat × Nat × Nat × Nat)} (hy : plainName y.cls = true) (hn : (lg_sl As).length ≤ maxL)
    (body : ∀ K : gw_K, gw_C K Γ cc maxL y.cls → gw_E K Γ Qc mc ms ret → (gw_c K).exceptionTable.toList = tableOf hh → gw_J K Γ rm 0 0 ws0 0 (lv_args 0 As) []) : gw_M l y [.codeWith y cc maxL ret hh] rm mc ms Γ As ws0 Qc := by
  refine va_MetW (cc := cc) (maxL := maxL) (ret := ret) (hh := hh) hy rfl ?_
  intro p e s m args below meth c s₁ B hml hv
  obtain ⟨rfl, hP, hH⟩ := hv
  have htab := vx_table (x := y) B (atoms_spec (ws := [Cond.codeWith y cc maxL ret hh]) B.pre _ List.mem_cons_self)
  rw [lg_entry_eq]
  exact body (p, l, e, s, m, As.toArray, below, meth, c, MQ below Qc As.toArray s mc ms (gw_A Γ)) ⟨B.exec, B.bytes, hml, findClass_of_methodNamed B.named, hH, B.notSynchronized⟩ ⟨B.returns, rfl⟩ htab s.heap [] _ hP va_S.rf (by show lv_has _ c.maxLocals _; rw [hml]; exact lv_entry As hn)
section gwL
variable {K : gw_K} {Γ : gw_G} {R rm : Room} {cells slots pc mc ms : Nat} {ws ws1 : va_W} {lv : List (Nat × Value)} {rest st : List Value} {cc : ByteArray} {nL : Nat} {own : String} {ret : Option FieldType} {index maxL n : Nat} {y : MethodName} {c2 : ByteArray} {As : List Value} {hh : List (Nat × Nat × Nat × Nat)}
theorem gj_catch (C : gw_C K Γ cc nL own) {x name : String} (pre : List ExceptionTableEntry) (z : ExceptionTableEntry) (suf : List ExceptionTableEntry) (hsplit : (gw_c K).exceptionTable.toList = pre ++ z :: suf)
    (hpass : ∀ q ∈ pre, q.catchType ≠ 0 ∧ ∃ nm : String, Cond.classLink own q.catchType nm ∈ gw_L ∧ x ≠ nm ∧ nm ∈ gw_X) (hxX : x ∈ gw_X) (hx : covers z pc = true) (h0 : z.catchType ≠ 0) (hlink : Cond.classLink own z.catchType name ∈ gw_L) (hcast : Cond.castable x name ∈ gw_L)
    (k : ∀ q : Nat, gw_J K Γ R cells slots ws z.handlerPc lv [.ref q]) : gw_JX K Γ R cells slots ws pc lv x := fun H locs ls rest q ce hP hS hl hq hv hcl =>
  vx_catch C.ow pre z suf hsplit (fun w hw => by
    obtain ⟨h1, nm, h2, h3, h4⟩ := hpass w hw
    exact Or.inr ⟨h1, nm, C.ws _ h2, C.hh.2.2.2.2.2.2.2.2.1 x hxX nm h4 h3⟩) hx h0 (C.ws _ hlink) (C.ws _ hcast) hq hv hcl (k q H locs ls hP hS hl)
theorem gj_cW (C : gw_C K Γ cc nL own) (cw : gw_cw own index y c2 maxL ret hh n) {r : Int32} (hM : gw_M (gw_l K) y [.codeWith y c2 maxL ret hh] rm mc ms Γ As ws (gw_qi Γ r ws1)) (hn : As.length = n) (hrest : (rest.map fun v => v.category).sum ≤ 8) (hd : decode cc pc = .ok (.invokestatic index, 3)) (hr : gw_rm rm R maxL mc ms cells slots) (hst : As.reverse ++ rest = st) (k : gw_J K Γ R (cells + mc) (slots + ms) ws1 (pc + 3) lv (.int r :: rest)) : gw_J K Γ R cells slots ws pc lv st := fun H locs ls hP hS hl => by
  refine va_calli (vx_runSW C.fix hM ⟨⟨hr.1, hr.2.1, hr.2.2.1, hr.2.2.2.1, fun w hw a' U hW => ?_, List.mem_cons_self⟩, C.ws _ cw.1, C.ws _ cw.2.1, cw.2.2.1, fun sig h => ?_, C.ws _ cw.2.2.2.2.1, C.ws _ cw.2.2.2.2.2⟩ ⟨gw_blind, gw_pre C hP hS _⟩ rfl hn (hl.1.trans C.2.2.1) hst.symm (lv_room hrest) hd ⟨hr.2.2.2.2.1, hr.2.2.2.2.2⟩) hS (fun q _ h => h) (fun q h => h) (fun r1 u t H1 locs1 ht hvm hw hB hz hk hS1 => ?_)
  · rw [List.mem_singleton.mp hw]
    exact va_Nw.use rfl (gw_warm cw.1 hW (C.hh.1 _ cw.1))
  · have h2 := cw.2.2.2.1
    rw [h] at h2
    exact (Option.some.inj h2).symm
  · cases hw
    exact k H1 locs1 ls (by rw [← ht]; exact hB) hS1 hl
/-- the script: its length, a place -/
theorem gj_slen (C : gw_C K Γ cc nL own) {b L : Nat} {xs : Nat → Int32} (hX : va_X b L xs (gw_s K) (gw_s K).heap) (hbl : b < (gw_s K).heap.size) (hbA : ¬ gw_A Γ b) (hd : decode cc pc = .ok (.arraylength, 1)) (k : gw_J K Γ R cells slots ws (pc + 1) lv (.int (Int32.ofNat L) :: rest)) : gw_J K Γ R cells slots ws pc lv (.ref b :: rest) := fun H locs ls hP hS hl => va_slen C.1 C.2.1 hX hbl hbA hS hd (k H locs ls hP hS hl)
theorem gj_sld (C : gw_C K Γ cc nL own) {b L : Nat} {xs : Nat → Int32} (hX : va_X b L xs (gw_s K) (gw_s K).heap) (hbl : b < (gw_s K).heap.size) (hbA : ¬ gw_A Γ b) {i : Int32} (hi : vp_in i L) (hd : decode cc pc = .ok (.iaload, 1)) (k : gw_J K Γ R cells slots ws (pc + 1) lv (.int (xs i.toNatClampNeg) :: rest)) : gw_J K Γ R cells slots ws pc lv (.int i :: .ref b :: rest) := fun H locs ls hP hS hl => va_sld C.1 C.2.1 hX hbl hbA hS hi hd (k H locs ls hP hS hl)
theorem gj_tableIn (C : gw_C K Γ cc nL own) {dflt lo hi : Int} {offs : Array Int} {len : Nat} {x : Int32} {off : Int} (tgt : Nat) (hd : decode cc pc = .ok (.tableswitch dflt lo hi offs, len)) (h1 : ¬ x.toInt < lo) (h2 : ¬ hi < x.toInt) (ho : offs[(x.toInt - lo).toNat]? = some off) (ht : (pc : Int) + off = (tgt : Int)) (k : gw_J K Γ R cells slots ws tgt lv rest) : gw_J K Γ R cells slots ws pc lv (.int x :: rest) := fun H locs ls hP hS hl => lv_tableIn C.1 C.2.1 hd h1 h2 ho ht (k H locs ls hP hS hl)
theorem gj_tableOut (C : gw_C K Γ cc nL own) {dflt lo hi : Int} {offs : Array Int} {len : Nat} {x : Int32} (tgt : Nat) (hd : decode cc pc = .ok (.tableswitch dflt lo hi offs, len)) (h : x.toInt < lo ∨ hi < x.toInt) (ht : (pc : Int) + dflt = (tgt : Int)) (k : gw_J K Γ R cells slots ws tgt lv rest) : gw_J K Γ R cells slots ws pc lv (.int x :: rest) := fun H locs ls hP hS hl => lv_tableOut C.1 C.2.1 hd h ht (k H locs ls hP hS hl)
end gwL
theorem gw_rmo {rm R : Room} {maxL mc ms cells slots : Nat} (h : (Nat.beq rm.cells mc && (Nat.beq rm.slots ms && (Nat.ble (rm.frames + 1) R.frames && Nat.ble (8 + (maxL + 11) + rm.locals) R.locals))) = true) (h5 : cells + mc ≤ R.cells) (h6 : slots + ms ≤ R.slots) : gw_rm rm R maxL mc ms cells slots := by
  simp only [Bool.and_eq_true] at h
  obtain ⟨h1, h2, h3, h4⟩ := h
  exact ⟨Nat.eq_of_beq_eq_true h1, Nat.eq_of_beq_eq_true h2, Nat.le_of_ble_eq_true h3, Nat.le_of_ble_eq_true h4, h5, h6⟩
theorem gw_gX : True ∧ "java/lang/IllegalStateException" ∈ gw_X ∧ True := ⟨trivial, by decide +kernel, trivial⟩
