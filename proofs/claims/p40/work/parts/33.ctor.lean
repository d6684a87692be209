/-! THE CONSTRUCTORS: worlds that grow: cn_w n A e: n cells, the i-th at address A i, holding e i -/
def cn_w (n : Nat) (A : Nat → Nat) (e : Nat → va_E) : va_W := (List.range n).map (fun i => (A i, e i))
theorem cn_at {n : Nat} {A : Nat → Nat} {e : Nat → va_E} {i : Nat} (h : i < n) : (cn_w n A e)[i]? = some (A i, e i) := by simp [cn_w, h]
theorem cn_len {n : Nat} {A : Nat → Nat} {e : Nat → va_E} : (cn_w n A e).length = n := by simp [cn_w]
theorem cn_set {n : Nat} {A : Nat → Nat} {e : Nat → va_E} {i : Nat} (h : i < n) (x : va_E) : (cn_w n A e).set i (A i, x) = cn_w n A (va_up e i x) := by
  apply List.ext_getElem?
  intro j
  by_cases hj : j < n
  · rw [cn_at hj]
    by_cases hji : j = i
    · subst hji
      rw [List.getElem?_set_self (by rw [cn_len]; exact hj), va_up_self]
    · rw [List.getElem?_set_ne (Ne.symm hji), cn_at hj, va_up_ne _ _ hji]
  · rw [List.getElem?_eq_none (by rw [List.length_set, cn_len]; omega), List.getElem?_eq_none (by rw [cn_len]; omega)]
theorem cn_push {n : Nat} {A : Nat → Nat} {e : Nat → va_E} (q : Nat) (x : va_E) : cn_w n A e ++ [(q, x)] = cn_w (n + 1) (va_up A n q) (va_up e n x) := by
  unfold cn_w
  rw [List.range_succ, List.map_append, List.map_cons, List.map_nil, va_up_self, va_up_self]
  congr 1
  apply List.map_congr_left
  intro i hi
  have := List.mem_range.mp hi
  rw [va_up_ne _ _ (by omega), va_up_ne _ _ (by omega)]
def cn_X (U : State) : Prop := (Cond.arrayClass .int).before #[] U = true ∧ va_AO "CourseEnrolment$Course" U ∧ va_AO "CourseEnrolment$Student" U
theorem cn_arr {args a' : Array Value} {s U : State} (hW : s.WarmedH U.vm) (h : (Cond.arrayClass .int).before args s = true) : (Cond.arrayClass .int).before a' U = true := word_at hW (Or.inr ⟨_, rfl⟩) h
theorem cn_X.step {s U : State} (h : cn_X s) (hW : s.WarmedH U.vm) : cn_X U := ⟨cn_arr hW h.1, va_AO.moved hW.alike h.2.1, va_AO.moved hW.alike h.2.2⟩
theorem cn_X.call {U : State} (g : JFrame) (mk : MethodId) (a : Array Value) (h : cn_X U) : cn_X (U.calling g mk a) := ⟨cn_arr (s := U) (U := U.calling g mk a) (State.WarmedH.refl U) h.1, va_AO.moved (u := U) (Vm.Alike.refl U.vm) h.2.1, va_AO.moved (u := U) (Vm.Alike.refl U.vm) h.2.2⟩
def cn_q (Γ : gw_G) (n : Nat) (post : (Nat → Nat) → (Nat → va_E) → Prop) : Array Value → State → Outcome → State → Prop := va_Qv (fun u : (Nat → Nat) × (Nat → va_E) => post u.1 u.2) (fun u t => va_D (gw_A Γ) (cn_w n u.1 u.2) ∧ va_P (gw_D Γ) vwCl (cn_w n u.1 u.2) t.heap) (gw_A Γ)
def cn_M (l : Launch) (y : MethodName) (ws : List Cond) (rm : Room) (mc ms : Nat) (Γ : gw_G) (As : List Value) (ws0 : va_W) (Qc : Array Value → State → Outcome → State → Prop) : Prop :=
  Met l y ws rm (va_Pc As (fun U => gw_P Γ l ws0 U ∧ cn_X U)) Qc mc ms (gw_A Γ)
theorem cn_enter {l : Launch} {y : MethodName} {cc : ByteArray} {maxL mc ms : Nat} {ret : Option FieldType} {rm : Room} {Γ : gw_G} {As : List Value} {ws0 : va_W} {Qc : Array Value → State → Outcome → State → Prop} (hy : plainName y.cls = true) (hn : (lg_sl As).length ≤ maxL)
    (body : ∀ K : gw_K, gw_C K Γ cc maxL y.cls → gw_E K Γ Qc mc ms ret → cn_X (gw_s K) → (gw_me K).name = y.name → gw_J K Γ rm 0 0 ws0 0 (lv_args 0 As) []) : cn_M l y [.code y cc maxL ret] rm mc ms Γ As ws0 Qc := by
  refine Met.ofW (cc := cc) (maxL := maxL) (ret := ret) hy rfl ?_
  intro p e s m args below meth c s₁ B hml hv
  obtain ⟨rfl, ⟨hP, hH⟩, hX⟩ := hv
  rw [lg_entry_eq]
  exact body (p, l, e, s, m, As.toArray, below, meth, c, MQ below Qc As.toArray s mc ms (gw_A Γ)) ⟨B.exec, B.bytes, hml, findClass_of_methodNamed B.named, hH, B.notSynchronized⟩ ⟨B.returns, rfl⟩ hX (name_of_methodNamed B.named B.method).1 s.heap [] _ hP va_S.rf (by show lv_has _ c.maxLocals _; rw [hml]; exact lv_entry As hn)
theorem cn_D {G : Nat → Prop} {n : Nat} {A : Nat → Nat} {e e' : Nat → va_E} (h : va_D G (cn_w n A e)) : va_D G (cn_w n A e') := by
  have key : ∀ {e1 : Nat → va_E} {k : Nat} {q : Nat × va_E}, (cn_w n A e1)[k]? = some q → k < n ∧ q.1 = A k := by
    intro e1 k q hk
    have hlt : k < n := by
      have := (List.getElem?_eq_some_iff.mp hk).1
      rwa [cn_len] at this
    rw [cn_at hlt] at hk
    exact ⟨hlt, by rw [← Option.some.inj hk]⟩
  refine ⟨fun i j p q hi hj hpq => ?_, fun k q hk => ?_⟩
  · obtain ⟨h1, h2⟩ := key hi
    obtain ⟨h3, h4⟩ := key hj
    exact h.1 i j _ _ (cn_at h1) (cn_at h3) (by rw [← h2, ← h4]; exact hpq)
  · obtain ⟨h1, h2⟩ := key hk
    rw [h2]
    exact h.2 k _ (cn_at h1)
theorem cn_inj {G : Nat → Prop} {n : Nat} {A : Nat → Nat} {e : Nat → va_E} (h : va_D G (cn_w n A e)) : ∀ i j, i < n → j < n → A i = A j → i = j := fun i j hi hj hij => h.1 i j _ _ (cn_at hi) (cn_at hj) hij
theorem cn_ge {G : Nat → Prop} {n : Nat} {A : Nat → Nat} {e : Nat → va_E} (h : va_D G (cn_w n A e)) : ∀ i, i < n → G (A i) := fun i hi => h.2 i _ (cn_at hi)
section cnR
variable {K : gw_K} {Γ : gw_G} {R rm : Room} {cells slots pc mc ms n : Nat} {A : Nat → Nat} {e : Nat → va_E} {lv : List (Nat × Value)} {rest st : List Value} {cc : ByteArray} {nL : Nat} {own : String}
theorem cn_hA (C : gw_C K Γ cc nL own) : ∀ q : Nat, (gw_s K).heap.size ≤ q → gw_A Γ q := fun q h => Nat.le_trans C.hh.2.2.1 h
theorem cn_vret (C : gw_C K Γ cc nL own) {post : (Nat → Nat) → (Nat → va_E) → Prop} (E : gw_E K Γ (cn_q Γ n post) mc ms none) (hD : va_D (gw_A Γ) (cn_w n A e)) (hp : post A e) (hd : decode cc pc = .ok (.return_, 1)) (hc : cells ≤ mc) (hs : slots ≤ ms) : gw_J K Γ R cells slots (cn_w n A e) pc lv [] := fun H locs ls hP hS hl => by
  refine W.widen hc hs ?_
  rw [E.2]
  exact W.vret C.1 C.2.1 E.1 (fun t ht hW => ⟨⟨(A, e), rfl, hp, hD, by show va_P _ _ _ t.heap; rw [ht]; exact hP⟩, hS.F ht⟩) hS.2.2 hd C.locks
theorem cn_obj (C : gw_C K Γ cc nL own) {ws : va_W} {a idx : Nat} (h1 : Cond.methodLink own idx Lib.objectInit ∈ gw_L) (h2 : Cond.instanceMethod Lib.objectInit ∈ gw_L) (h3 : Cond.code Lib.objectInit ⟨#[0xb1]⟩ 1 none ∈ gw_L) (hd : decode cc pc = .ok (.invokespecial idx, 3)) (hf : 1 ≤ R.frames) (hlo : 12 ≤ R.locals) (k : gw_J K Γ R cells slots ws (pc + 3) lv []) : gw_J K Γ R cells slots ws pc lv [.ref a] := fun H locs ls hP hS hl => by
  refine W.objInit C.1 C.2.1 C.ow (C.ws _ h1) (C.ws _ h2) (C.ws _ h3) rfl hl.1 rfl hd hf (by show 2 * 0 + _ + 12 ≤ _; simpa using hlo) ?_
  exact W.eq (g2 := F0 (gw_m K) (pc + 3) ls []) rfl (k H locs ls hP hS hl)
theorem cn_new (C : gw_C K Γ cc nL own) (hD : va_D (gw_A Γ) (cn_w n A e)) {Cn : String} {T : u_T} {N ci index : Nat} (fs : List Value) (hin : ∀ w ∈ u_ws Cn T N, w ∈ gw_L) (ty : Nat → FieldType) (hty : ∀ k, k < N → parseFieldDescriptor (T k).2.2.1 = some (ty k)) (hc : vwCl[ci]? = some (Cn, T, N)) (hfs : ∀ j, j < N → defaultValue (ty j) = vp_V fs j) (hcl : Cond.classLink own index Cn ∈ gw_L) (hinst : Cond.instantiable Cn N ∈ gw_L) (hini : Cond.initialized Cn ∈ gw_L) (hcells : cells + 1 ≤ R.cells) (hslots : slots + N ≤ R.slots) (hd : decode cc pc = .ok (.new index, 3))
    (k : ∀ q : Nat, va_D (gw_A Γ) (cn_w (n + 1) (va_up A n q) (va_up e n (.inr (ci, fs)))) → gw_J K Γ R (cells + 1) (slots + N) (cn_w (n + 1) (va_up A n q) (va_up e n (.inr (ci, fs)))) (pc + 3) lv (.ref q :: rest)) : gw_J K Γ R cells slots (cn_w n A e) pc lv rest := fun H locs ls hP hS hl =>
  va_new C.1 C.2.1 C.ws hin ty hty C.ow (C.ws _ hcl) (C.ws _ hinst) (C.ws _ hini) C.k hP hD hS (cn_hA C) hc hfs hcells hslots hd (fun q H hP hD hS => by
    rw [cn_push] at hP hD
    exact k q hD H locs ls hP hS hl)
theorem cn_newa (C : gw_C K Γ cc nL own) (hX : cn_X (gw_s K)) (hD : va_D (gw_A Γ) (cn_w n A e)) {x : Int32} (N : Nat) (hx : ¬ x < 0) (hN : x.toNatClampNeg = N) (hbytes : N * 4 ≤ 536870912) (hcells : cells + 1 ≤ R.cells) (hslots : slots + N ≤ R.slots) (hd : decode cc pc = .ok (.newarray .int, 2))
    (k : ∀ q : Nat, va_D (gw_A Γ) (cn_w (n + 1) (va_up A n q) (va_up e n (.inl (gw_y Γ 0, N, .inl (fun _ => 0))))) → gw_J K Γ R (cells + 1) (slots + N) (cn_w (n + 1) (va_up A n q) (va_up e n (.inl (gw_y Γ 0, N, .inl (fun _ => 0))))) (pc + 2) lv (.ref q :: rest)) : gw_J K Γ R cells slots (cn_w n A e) pc lv (.int x :: rest) := fun H locs ls hP hS hl =>
  va_newa (atype := .int) (ty := .int) (a0 := (N, .inl (fun _ => 0))) C.1 C.2.1 (cn_arr (State.WarmedH.refl _) hX.1) rfl C.k hP hD hS (cn_hA C) (fun cA => rfl) hx hN hbytes hcells hslots hd (fun q cA H hK hP hD hS => by
    have e1 : (gw_s K).vm.findClass ("[" ++ FieldType.int.toString) = some cA := (hK.2 4 (cA, .int) rfl).2
    have e2 : (gw_s K).vm.findClass ("[" ++ FieldType.int.toString) = some (gw_y Γ 0) := (C.k.2 0 (gw_y Γ 0, .int) rfl).2
    cases Option.some.inj (e1.symm.trans e2)
    rw [cn_push] at hP hD
    exact k q hD H locs ls hP hS hl)
theorem cn_newq (C : gw_C K Γ cc nL own) (hD : va_D (gw_A Γ) (cn_w n A e)) {Cn : String} {index : Nat} (t : Nat) (ht : t < 4) (hty : (gw_T Γ)[t]? = some (gw_y Γ t, .object Cn)) (hcl : Cond.classLink own index Cn ∈ gw_L) (hov : va_AO Cn (gw_s K)) {x : Int32} (N : Nat) (hx : ¬ x < 0) (hN : x.toNatClampNeg = N) (hbytes : N * 4 ≤ 536870912) (hcells : cells + 1 ≤ R.cells) (hslots : slots + N ≤ R.slots) (hd : decode cc pc = .ok (.anewarray index, 3))
    (k : ∀ q : Nat, va_D (gw_A Γ) (cn_w (n + 1) (va_up A n q) (va_up e n (.inl (gw_y Γ t, N, .inr (.inr (.inr (.inr (fun _ => none)))))))) → gw_J K Γ R (cells + 1) (slots + N) (cn_w (n + 1) (va_up A n q) (va_up e n (.inl (gw_y Γ t, N, .inr (.inr (.inr (.inr (fun _ => none)))))))) (pc + 3) lv (.ref q :: rest)) : gw_J K Γ R cells slots (cn_w n A e) pc lv (.int x :: rest) := fun H locs ls hP hS hl =>
  va_newq C.1 C.2.1 C.ow (C.ws _ hcl) hov C.k hP hD hS (cn_hA C) hx hN hbytes hcells hslots hd (fun q cA H hK hP hD hS => by
    obtain ⟨kA, comp, -, -, -, e1⟩ : va_RA (gw_s K) cA (.object Cn) := (hK.2 4 (cA, .object Cn) rfl).2
    obtain ⟨kB, comp2, -, -, -, e2⟩ : va_RA (gw_s K) (gw_y Γ t) (.object Cn) := (C.k.2 t _ hty).2
    cases Option.some.inj (e1.symm.trans e2)
    rw [cn_push] at hP hD
    exact k q hD H locs ls hP hS hl)
/-- a field is written, in a constructor -/
theorem cn_put (C : gw_C K Γ cc nL own) (hD : va_D (gw_A Γ) (cn_w n A e)) (hin2 : (gw_me K).name = "<init>") {Cn : String} {T : u_T} {N ci index : Nat} (q : Nat) {a0 : Nat} (ha : A q = a0) {fs : List Value} {v : Value} (ty0 : Nat → FieldType) (ty : FieldType) (hin : ∀ w ∈ u_ws Cn T N, w ∈ gw_L) (hty : ∀ k, k < N → parseFieldDescriptor (T k).2.2.1 = some (ty0 k)) (hnm : ∀ a, a < N → ∀ b, b < N → a ≠ b → (T a).2.1 ≠ (T b).2.1) (hc : vwCl[ci]? = some (Cn, T, N)) (hq : q < n) (he : e q = .inr (ci, fs)) (j : Nat) (hj : j < N) (hk : Cond.fieldLink own index (T j).1 (T j).2.1 (T j).2.2.1 ∈ gw_L) (hdecl : (T j).1 = own) (ht : ty0 j = ty) (hn : narrow ty v = v) (hfit : fits ty v = true) (hl' : j < fs.length) (hd : decode cc pc = .ok (.putfield index, 3))
    (k : va_D (gw_A Γ) (cn_w n A (va_up e q (.inr (ci, fs.set j v)))) → gw_J K Γ R cells slots (cn_w n A (va_up e q (.inr (ci, fs.set j v)))) (pc + 3) lv rest) : gw_J K Γ R cells slots (cn_w n A e) pc lv (v :: .ref a0 :: rest) := fun H locs ls hP hS hl => by
  subst ha
  have he' : (cn_w n A e)[q]? = some (A q, .inr (ci, fs)) := by rw [cn_at hq, he]
  by_cases hf : (T j).2.2.2 = true
  · refine va_putF (ty := ty) C.1 C.2.1 C.ws hin ty0 hty hnm C.ow C.k hP hD hS q he' hc j hj (C.ws _ hk) (fun _ h => h) hf hin2 hdecl (by rw [hty j hj, ht]) hn hfit hl' hd (fun H locs hP hD hS => ?_)
    rw [cn_set hq] at hP hD
    exact k hD H locs ls hP hS hl
  · refine va_put (ty := ty) C.1 C.2.1 C.ws hin ty0 hty hnm C.ow C.k hP hD hS q he' hc j hj (C.ws _ hk) (fun _ h => h) (by simpa using hf) (by rw [hty j hj, ht]) hn hfit hl' hd (fun H locs hP hD hS => ?_)
    rw [cn_set hq] at hP hD
    exact k hD H locs ls hP hS hl
theorem cn_get (C : gw_C K Γ cc nL own) {Cn : String} {T : u_T} {N ci index : Nat} (q : Nat) {a0 : Nat} (ha : A q = a0) {fs : List Value} {v : Value} (hin : ∀ w ∈ u_ws Cn T N, w ∈ gw_L) (hc : vwCl[ci]? = some (Cn, T, N)) (hq : q < n) (he : e q = .inr (ci, fs)) (j : Nat) (hj : j < N) (hk : Cond.fieldLink own index (T j).1 (T j).2.1 (T j).2.2.1 ∈ gw_L) (hv : fs[j]? = some v) (hd : decode cc pc = .ok (.getfield index, 3)) (k : gw_J K Γ R cells slots (cn_w n A e) (pc + 3) lv (v :: rest)) : gw_J K Γ R cells slots (cn_w n A e) pc lv (.ref a0 :: rest) :=
  gj_get C hin hc (q := q) (by rw [cn_at hq, he, ha]) hj hk hv hd k
theorem cn_alen (C : gw_C K Γ cc nL own) (q t : Nat) {a0 : Nat} (ha : A q = a0) {cA : ClassId} {x : vp_A} {ty : FieldType} (hq : q < n) (he : e q = .inl (cA, x)) (ht : (gw_T Γ)[t]? = some (cA, ty)) {v : Int32} (hv : Int32.ofNat x.1 = v) (hd : decode cc pc = .ok (.arraylength, 1)) (k : gw_J K Γ R cells slots (cn_w n A e) (pc + 1) lv (.int v :: rest)) : gw_J K Γ R cells slots (cn_w n A e) pc lv (.ref a0 :: rest) := fun H locs ls hP hS hl =>
  va_alen C.1 C.2.1 C.k hP q t (by rw [cn_at hq, he, ha]) ht hv hd (k H locs ls hP hS hl)
theorem cn_iast (C : gw_C K Γ cc nL own) (hD : va_D (gw_A Γ) (cn_w n A e)) (q : Nat) {a0 : Nat} (ha : A q = a0) {N : Nat} {f : Nat → Int32} {i x : Int32} (hq : q < n) (he : e q = .inl (gw_y Γ 0, N, .inl f)) (hi : vp_in i N) (hd : decode cc pc = .ok (.iastore, 1))
    (k : va_D (gw_A Γ) (cn_w n A (va_up e q (.inl (gw_y Γ 0, N, .inl (upd f i.toNatClampNeg x))))) → gw_J K Γ R cells slots (cn_w n A (va_up e q (.inl (gw_y Γ 0, N, .inl (upd f i.toNatClampNeg x))))) (pc + 1) lv rest) : gw_J K Γ R cells slots (cn_w n A e) pc lv (.int x :: .int i :: .ref a0 :: rest) := by
  subst ha
  exact fun H locs ls hP hS hl =>
  va_iast C.1 C.2.1 C.k hP hD hS q 0 (by rw [cn_at hq, he]) rfl hi hd (fun H locs hP hD hS => by
    rw [cn_set hq] at hP hD
    exact k hD H locs ls hP hS hl)
theorem cn_aast (C : gw_C K Γ cc nL own) (hD : va_D (gw_A Γ) (cn_w n A e)) (q t p ci : Nat) {a0 b0 : Nat} (ha : A q = a0) (hb : A p = b0) {N : Nat} {r : vw_C} {f : Nat → Option Nat} {fs : List Value} {i : Int32} (hq : q < n) (he : e q = .inl (gw_y Γ t, N, .inr (.inr (.inr (.inr f))))) (ht : (gw_T Γ)[t]? = some (gw_y Γ t, .object r.1)) (hp : p < n) (hep : e p = .inr (ci, fs)) (hc : vwCl[ci]? = some r) (hi : vp_in i N) (hd : decode cc pc = .ok (.aastore, 1))
    (k : va_D (gw_A Γ) (cn_w n A (va_up e q (.inl (gw_y Γ t, N, .inr (.inr (.inr (.inr (va_up f i.toNatClampNeg (some (A p)))))))))) → gw_J K Γ R cells slots (cn_w n A (va_up e q (.inl (gw_y Γ t, N, .inr (.inr (.inr (.inr (va_up f i.toNatClampNeg (some (A p)))))))))) (pc + 1) lv rest) : gw_J K Γ R cells slots (cn_w n A e) pc lv (.ref b0 :: .int i :: .ref a0 :: rest) := by
  subst ha hb
  exact fun H locs ls hP hS hl =>
  va_astq C.1 C.2.1 C.k hP hD hS q t p ci (by rw [cn_at hq, he]) ht (by rw [cn_at hp, hep]) hc hi hd (fun H locs hP hD hS => by
    rw [cn_set hq] at hP hD
    exact k hD H locs ls hP hS hl)
/-- a constructor is called -/
theorem cn_cI (C : gw_C K Γ cc nL own) (hX : cn_X (gw_s K)) {index maxL na n2 : Nat} {y : MethodName} {c2 : ByteArray} {As : List Value} {a : Nat} {post : (Nat → Nat) → (Nat → va_E) → Prop} (cb : gw_cb own index y c2 maxL none na) (hy : y.name = "<init>") (hi : Cond.instanceMethod y ∈ gw_L) (hM : cn_M (gw_l K) y [.code y c2 maxL none] rm mc ms Γ (.ref a :: As) (cn_w n A e) (cn_q Γ n2 post)) (hn : As.length = na) (hrest : (rest.map fun v => v.category).sum ≤ 8) (hd : decode cc pc = .ok (.invokespecial index, 3)) (hr : gw_rm rm R maxL mc ms cells slots) (hst : As.reverse ++ .ref a :: rest = st)
    (k : ∀ (A' : Nat → Nat) (e' : Nat → va_E), post A' e' → va_D (gw_A Γ) (cn_w n2 A' e') → gw_J K Γ R (cells + mc) (slots + ms) (cn_w n2 A' e') (pc + 3) lv rest) : gw_J K Γ R cells slots (cn_w n A e) pc lv st := fun H locs ls hP hS hl =>
  va_callv (va_runI C.fix hM ⟨gw_CB C cb hr, hy, C.ws _ hi⟩ ⟨fun a U g mk h => ⟨h.1, ⟨h.2.1.1, h.2.1.2.call g mk a⟩, h.2.2.call g mk a⟩, fun U hU hW => ⟨rfl, ⟨by rw [hU]; exact hP, C.hh.step hS hU hW⟩, hX.step hW⟩⟩ rfl hn (hl.1.trans C.2.2.1) hst.symm (lv_room hrest) hd ⟨hr.2.2.2.2.1, hr.2.2.2.2.2⟩) hS (fun q _ h => h) (fun q h => h) (fun u t H1 locs1 ht hvm hw hB hz hk hS1 => k u.1 u.2 hw hB.1 H1 locs1 ls (by rw [← ht]; exact hB.2) hS1 hl)
end cnR
theorem cw_obj : Cond.code Lib.objectInit ⟨#[0xb1]⟩ 1 none ∈ gw_L := gw_in 48 (by decide +kernel) rfl
theorem im_obj : Cond.instanceMethod Lib.objectInit ∈ gw_L := gw_in 47 (by decide +kernel) rfl
theorem mo_X1 : Cond.methodLink RX1 3 Lib.objectInit ∈ gw_L := gw_in 61 (by decide +kernel) rfl
theorem mo_X0 : Cond.methodLink RX0 3 Lib.objectInit ∈ gw_L := gw_in 55 (by decide +kernel) rfl
theorem mo_X2 : Cond.methodLink RX2 3 Lib.objectInit ∈ gw_L := gw_in 104 (by decide +kernel) rfl
theorem mo_X3 : Cond.methodLink RX3 1 Lib.objectInit ∈ gw_L := gw_in 46 (by decide +kernel) rfl
theorem fc_X1_9 : Cond.fieldLink RX1 9 (TX1 0).1 (TX1 0).2.1 (TX1 0).2.2.1 ∈ gw_L := gw_in 62 (by decide +kernel) rfl
theorem fc_X1_15 : Cond.fieldLink RX1 15 (TX1 1).1 (TX1 1).2.1 (TX1 1).2.2.1 ∈ gw_L := gw_in 63 (by decide +kernel) rfl
theorem fc_X0_9 : Cond.fieldLink RX0 9 (TX0 0).1 (TX0 0).2.1 (TX0 0).2.2.1 ∈ gw_L := gw_in 70 (by decide +kernel) rfl
theorem fc_X0_20 : Cond.fieldLink RX0 20 (TX0 1).1 (TX0 1).2.1 (TX0 1).2.2.1 ∈ gw_L := gw_in 72 (by decide +kernel) rfl
theorem fc_X0_24 : Cond.fieldLink RX0 24 (TX0 2).1 (TX0 2).2.1 (TX0 2).2.2.1 ∈ gw_L := gw_in 74 (by decide +kernel) rfl
theorem fc_X2_9 : Cond.fieldLink RX2 9 (TX2 0).1 (TX2 0).2.1 (TX2 0).2.2.1 ∈ gw_L := gw_in 107 (by decide +kernel) rfl
theorem fc_X2_20 : Cond.fieldLink RX2 20 (TX2 1).1 (TX2 1).2.1 (TX2 1).2.2.1 ∈ gw_L := gw_in 109 (by decide +kernel) rfl
theorem fc_X2_24 : Cond.fieldLink RX2 24 (TX2 6).1 (TX2 6).2.1 (TX2 6).2.2.1 ∈ gw_L := gw_in 115 (by decide +kernel) rfl
theorem fc_X2_27 : Cond.fieldLink RX2 27 (TX2 7).1 (TX2 7).2.1 (TX2 7).2.2.1 ∈ gw_L := gw_in 117 (by decide +kernel) rfl
theorem fc_X2_30 : Cond.fieldLink RX2 30 (TX2 8).1 (TX2 8).2.1 (TX2 8).2.2.1 ∈ gw_L := gw_in 119 (by decide +kernel) rfl
theorem fc_X2_33 : Cond.fieldLink RX2 33 (TX2 9).1 (TX2 9).2.1 (TX2 9).2.2.1 ∈ gw_L := gw_in 121 (by decide +kernel) rfl
theorem fc_X3_11 : Cond.fieldLink RX3 11 (TX3 0).1 (TX3 0).2.1 (TX3 0).2.2.1 ∈ gw_L := gw_in 144 (by decide +kernel) rfl
theorem fc_X3_20 : Cond.fieldLink RX3 20 (TX3 1).1 (TX3 1).2.1 (TX3 1).2.2.1 ∈ gw_L := gw_in 145 (by decide +kernel) rfl
theorem fc_X3_25 : Cond.fieldLink RX3 25 (TX3 2).1 (TX3 2).2.1 (TX3 2).2.2.1 ∈ gw_L := gw_in 146 (by decide +kernel) rfl
theorem fc_X3_29 : Cond.fieldLink RX3 29 (TX3 3).1 (TX3 3).2.1 (TX3 3).2.2.1 ∈ gw_L := gw_in 147 (by decide +kernel) rfl
theorem fc_X3_32 : Cond.fieldLink RX3 32 (TX3 4).1 (TX3 4).2.1 (TX3 4).2.2.1 ∈ gw_L := gw_in 148 (by decide +kernel) rfl
theorem fc_X3_35 : Cond.fieldLink RX3 35 (TX3 5).1 (TX3 5).2.1 (TX3 5).2.2.1 ∈ gw_L := gw_in 149 (by decide +kernel) rfl
theorem cl_X0_15 : Cond.classLink RX0 15 RX1 ∈ gw_L := gw_in 56 (by decide +kernel) rfl
theorem cl_X2_15 : Cond.classLink RX2 15 RX1 ∈ gw_L := gw_in 105 (by decide +kernel) rfl
theorem cl_X3_9 : Cond.classLink RX3 9 RX0 ∈ gw_L := gw_in 49 (by decide +kernel) rfl
theorem cl_X3_18 : Cond.classLink RX3 18 RX2 ∈ gw_L := gw_in 98 (by decide +kernel) rfl
theorem cl_L_80 : Cond.classLink RL 80 RX3 ∈ gw_L := gw_in 41 (by decide +kernel) rfl
theorem is_X0 : Cond.instantiable RX0 8 ∈ gw_L := gw_in 51 (by decide +kernel) rfl
theorem is_X1 : Cond.instantiable RX1 2 ∈ gw_L := gw_in 57 (by decide +kernel) rfl
theorem is_X2 : Cond.instantiable RX2 10 ∈ gw_L := gw_in 100 (by decide +kernel) rfl
theorem is_X3 : Cond.instantiable RX3 6 ∈ gw_L := gw_in 42 (by decide +kernel) rfl
theorem cw_X1_init : Cond.code yX1_init cX1_init 2 none ∈ gw_L := gw_in 60 (by decide +kernel) rfl
theorem im_X1_init : Cond.instanceMethod yX1_init ∈ gw_L := gw_in 59 (by decide +kernel) rfl
theorem cb_X0_17i : gw_cb RX0 17 yX1_init cX1_init 2 none 1 := ⟨cw_X1_init, ii_X1, by decide, by decide +kernel, gw_in 58 (by decide +kernel) rfl⟩
theorem cb_X2_17i : gw_cb RX2 17 yX1_init cX1_init 2 none 1 := ⟨cw_X1_init, ii_X1, by decide, by decide +kernel, gw_in 106 (by decide +kernel) rfl⟩
theorem cw_X0_init : Cond.code yX0_init cX0_init 3 none ∈ gw_L := gw_in 54 (by decide +kernel) rfl
theorem im_X0_init : Cond.instanceMethod yX0_init ∈ gw_L := gw_in 53 (by decide +kernel) rfl
theorem cb_X3_15i : gw_cb RX3 15 yX0_init cX0_init 3 none 1 := ⟨cw_X0_init, ii_X0, by decide, by decide +kernel, gw_in 52 (by decide +kernel) rfl⟩
theorem cw_X2_init : Cond.code yX2_init cX2_init 2 none ∈ gw_L := gw_in 103 (by decide +kernel) rfl
theorem im_X2_init : Cond.instanceMethod yX2_init ∈ gw_L := gw_in 102 (by decide +kernel) rfl
theorem cb_X3_24i : gw_cb RX3 24 yX2_init cX2_init 2 none 1 := ⟨cw_X2_init, ii_X2, by decide, by decide +kernel, gw_in 101 (by decide +kernel) rfl⟩
theorem cw_X3_init : Cond.code yX3_init cX3_init 2 none ∈ gw_L := gw_in 45 (by decide +kernel) rfl
theorem im_X3_init : Cond.instanceMethod yX3_init ∈ gw_L := gw_in 44 (by decide +kernel) rfl
theorem cb_L_231i : gw_cb RL 231 yX3_init cX3_init 2 none 0 := ⟨cw_X3_init, ii_X3, by decide, by decide +kernel, gw_in 43 (by decide +kernel) rfl⟩
set_option maxRecDepth 100000 in
set_option maxHeartbeats 4000000 in
/-- Row(items) -/
theorem cn_Row (l : Launch) (Γ : gw_G) (n : Nat) (A : Nat → Nat) (e : Nat → va_E) (j : Nat) (b : Nat) (hj : j < n) (he : e j = .inr (1, [.null, .int 0])) (hD : va_D (gw_A Γ) (cn_w n A e)) : cn_M l yX1_init [.code yX1_init cX1_init 2 none] { frames := 1, cells := 0, slots := 0, locals := 12 } 0 0 Γ [.ref (A j), .ref b] (cn_w n A e) (cn_q Γ n (fun A' e' => A' = A ∧ e' = va_up e j (.inr (1, [.ref b, .int 0])))) := by
  refine cn_enter (by decide) (Nat.le_of_ble_eq_true rfl) (fun K C E hX hin => ?_)
  refine gj_aload_n C 0 dX1_init_0 rfl ?_
  refine cn_obj C mo_X1 im_obj cw_obj dX1_init_1 (Nat.le_of_ble_eq_true rfl) (Nat.le_of_ble_eq_true rfl) ?_
  refine gj_aload_n C 0 dX1_init_4 rfl ?_
  refine gj_aload_n C 1 dX1_init_5 rfl ?_
  refine cn_put C hD hin j rfl tyX1 (.array .int) inX1 tyX1_ok nmX1 rfl hj he 0 (by decide) fc_X1_9 rfl rfl rfl rfl (Nat.le_of_ble_eq_true rfl) dX1_init_6 (fun hD => ?_)
  refine gj_aload_n C 0 dX1_init_9 rfl ?_
  refine gj_iconst (v := 0) C dX1_init_10 (by decide) ?_
  refine cn_put C hD hin j rfl tyX1 .int inX1 tyX1_ok nmX1 rfl hj (va_up_self _ _ _) 1 (by decide) fc_X1_15 rfl rfl rfl rfl (Nat.le_of_ble_eq_true rfl) dX1_init_11 (fun hD => ?_)
  exact cn_vret C E hD ⟨rfl, bx_uu _ _ _ _⟩ dX1_init_14 (Nat.le_refl _) (Nat.le_refl _)
theorem cn_id {e : Nat → va_E} {q : Nat} {x : va_E} (h : e q = x) : va_up e q x = e := by
  funext z
  by_cases hz : z = q
  · subst hz; rw [va_up_self, h]
  · rw [va_up_ne _ _ hz]
def cn_fill (i : Nat) : Nat → Int32 := fun z => if z < i then -1 else 0
theorem cn_fill_0 : cn_fill 0 = fun _ => 0 := by funext z; simp [cn_fill]
theorem cn_fill_s (i : Nat) : upd (cn_fill i) i (-1) = cn_fill (i + 1) := by
  funext z
  unfold upd cn_fill
  by_cases h : z = i
  · rw [if_pos h, if_pos (by omega)]
  · rw [if_neg h]
    by_cases h2 : z < i
    · rw [if_pos h2, if_pos (by omega)]
    · rw [if_neg h2, if_neg (by omega)]
set_option maxRecDepth 100000 in
set_option maxHeartbeats 4000000 in
/-- the loop of Course(number): the row of offers is filled with -1 -/
theorem cn_Course_loop {K : gw_K} {Γ : gw_G} (C : gw_C K Γ cX0_init 3 RX0) (n : Nat) (A : Nat → Nat) (e : Nat → va_E) (j q a : Nat) (v0 v1 v3 v4 v5 v6 v7 : Value) (k : Int32) (hj : j < n) (hq : q < n) (hjq : j ≠ q) (ha : A j = a) (he : e j = .inr (0, [v0, v1, .ref (A q), v3, v4, v5, v6, v7])) (hD : va_D (gw_A Γ) (cn_w n A e))
    (kk : gw_J K Γ { frames := 2, cells := 3, slots := 34, locals := 33 } 3 34 (cn_w n A (va_up e q (.inl (gw_y Γ 0, 16, .inl (cn_fill 16))))) 56 [(0, .ref a), (1, .int k)] []) :
    ∀ (d i : Nat), i + d = 16 → gw_J K Γ { frames := 2, cells := 3, slots := 34, locals := 33 } 3 34 (cn_w n A (va_up e q (.inl (gw_y Γ 0, 16, .inl (cn_fill i))))) 34 [(0, .ref a), (1, .int k), (2, .int (nI i))] [] := by
  have hs : ∀ (pc pc2 : Nat) (i : Nat) (rest : List Value) (lv : List (Nat × Value)), pc2 = pc + 3 → decode cX0_init pc = .ok (.getfield 24, 3) → gw_J K Γ { frames := 2, cells := 3, slots := 34, locals := 33 } 3 34 (cn_w n A (va_up e q (.inl (gw_y Γ 0, 16, .inl (cn_fill i))))) pc2 lv (.ref (A q) :: rest) → gw_J K Γ { frames := 2, cells := 3, slots := 34, locals := 33 } 3 34 (cn_w n A (va_up e q (.inl (gw_y Γ 0, 16, .inl (cn_fill i))))) pc lv (.ref a :: rest) := by
    intro pc pc2 i rest lv hp hd kx
    subst hp
    exact cn_get C j ha inX0 rfl hj (by rw [va_up_ne _ _ hjq]; exact he) 2 (by decide) fc_X0_24 rfl hd kx
  intro d
  induction d with
  | zero =>
    intro i hi
    have e16 : i = 16 := by omega
    subst e16
    refine gj_iload_n C 2 dX0_init_34 rfl ?_
    refine gj_aload_n C 0 dX0_init_35 rfl ?_
    refine hs 36 39 16 _ _ rfl dX0_init_36 ?_
    refine cn_alen C q 0 rfl (ty := .int) hq (va_up_self _ _ _) rfl (v := 16) rfl dX0_init_39 ?_
    refine gj_ic_ge C 56 dX0_init_40 (by decide) (fun _ => ?_) (fun c => absurd (by decide) c)
    exact gj_pick [0, 1] _ rfl kk
  | succ d ih =>
    intro i hi
    refine gj_iload_n C 2 dX0_init_34 rfl ?_
    refine gj_aload_n C 0 dX0_init_35 rfl ?_
    refine hs 36 39 i _ _ rfl dX0_init_36 ?_
    refine cn_alen C q 0 rfl (ty := .int) hq (va_up_self _ _ _) rfl (v := nI 16) rfl dX0_init_39 ?_
    refine gj_ic_ge C 56 dX0_init_40 (by decide) (fun c => absurd c (nI_ge (by omega) (by decide))) (fun _ => ?_)
    refine gj_aload_n C 0 dX0_init_43 rfl ?_
    refine hs 44 47 i _ _ rfl dX0_init_44 ?_
    refine gj_iload_n C 2 dX0_init_47 rfl ?_
    refine gj_iconst (v := -1) C dX0_init_48 (by decide) ?_
    refine cn_iast C (cn_D hD) q rfl hq (va_up_self _ _ _) (vp_in_nI (n := i) (by omega) (by decide)) dX0_init_49 (fun _ => ?_)
    rw [bx_uu, nI_clamp (by omega), cn_fill_s]
    refine gj_iinc C 2 2 (nI (i + 1)) [(2, .int (nI (i + 1))), (0, .ref a), (1, .int k)] dX0_init_50 rfl (nI_1 i) (by decide) rfl ?_
    refine gj_goto C 34 dX0_init_53 (by decide) ?_
    exact gj_pick [1, 2, 0] _ rfl (ih (i + 1) (by omega))
set_option maxRecDepth 100000 in
set_option maxHeartbeats 4000000 in
/-- Course(number): three cells come -/
theorem cn_Course (l : Launch) (Γ : gw_G) (n : Nat) (A : Nat → Nat) (e : Nat → va_E) (j : Nat) (k : Int32) (hj : j < n) (he : e j = .inr (0, [.int 0, .null, .null, .int 0, .int 0, .int 0, .int 0, .int 0])) (hD : va_D (gw_A Γ) (cn_w n A e)) : cn_M l yX0_init [.code yX0_init cX0_init 3 none] { frames := 2, cells := 3, slots := 34, locals := 33 } 3 34 Γ [.ref (A j), .int k] (cn_w n A e) (cn_q Γ (n + 3) (fun A' e' => (∀ i, i < n → A' i = A i) ∧ (∀ i, i < n → i ≠ j → e' i = e i) ∧ e' j = .inr (0, [.int k, .ref (A' n), .ref (A' (n + 2)), .int 0, .int 0, .int 0, .int 0, .int 0]) ∧ e' n = .inr (1, [.ref (A' (n + 1)), .int 0]) ∧ e' (n + 1) = .inl (gw_y Γ 0, 16, .inl (fun _ => 0)) ∧ e' (n + 2) = .inl (gw_y Γ 0, 16, .inl (cn_fill 16)))) := by
  refine cn_enter (by decide) (Nat.le_of_ble_eq_true rfl) (fun K C E hX hin => ?_)
  refine gj_aload_n C 0 dX0_init_0 rfl ?_
  refine cn_obj C mo_X0 im_obj cw_obj dX0_init_1 (Nat.le_of_ble_eq_true rfl) (Nat.le_of_ble_eq_true rfl) ?_
  refine gj_aload_n C 0 dX0_init_4 rfl ?_
  refine gj_iload_n C 1 dX0_init_5 rfl ?_
  refine cn_put C hD hin j rfl tyX0 .int inX0 tyX0_ok nmX0 rfl hj he 0 (by decide) fc_X0_9 rfl rfl rfl rfl (Nat.le_of_ble_eq_true rfl) dX0_init_6 (fun hD => ?_)
  refine gj_aload_n C 0 dX0_init_9 rfl ?_
  refine cn_new (ci := 1) C hD [.null, .int 0] inX1 tyX1 tyX1_ok rfl (fun i hi => by rcases (show i = 0 ∨ i = 1 by omega) with rfl | rfl <;> rfl) cl_X0_15 is_X1 ii_X1 (Nat.le_of_ble_eq_true rfl) (Nat.le_of_ble_eq_true rfl) dX0_init_10 (fun q1 hD => ?_)
  refine gj_dup C dX0_init_13 rfl ?_
  refine gj_bipush (v := 16) C dX0_init_14 (by decide) ?_
  refine cn_newa C hX hD 16 (by decide) rfl (Nat.le_of_ble_eq_true rfl) (Nat.le_of_ble_eq_true rfl) (Nat.le_of_ble_eq_true rfl) dX0_init_16 (fun q2 hD => ?_)
  have hM := cn_Row (gw_l K) Γ (n + 1 + 1) _ _ n q2 (by omega) (by simp (disch := omega) only [va_up_self, va_up_ne]) hD
  rw [show (va_up (va_up A n q1) (n + 1) q2) n = q1 from (by simp (disch := omega) only [va_up_self, va_up_ne])] at hM
  refine cn_cI (As := [.ref q2]) (rest := [.ref q1, .ref (A j)]) C hX cb_X0_17i rfl im_X1_init hM rfl (Nat.le_of_ble_eq_true rfl) dX0_init_18 (gw_rmk rfl) rfl (fun A' e' hp hD => ?_)
  obtain ⟨rfl, rfl⟩ := hp
  refine cn_put C hD hin j (by simp (disch := omega) only [va_up_self, va_up_ne]) tyX0 (.object "CourseEnrolment$Row") inX0 tyX0_ok nmX0 rfl (by omega) ((va_up_ne _ _ (by omega)).trans ((va_up_ne _ _ (by omega)).trans ((va_up_ne _ _ (by omega)).trans (va_up_self _ _ _)))) 1 (by decide) fc_X0_20 rfl rfl rfl rfl (Nat.le_of_ble_eq_true rfl) dX0_init_21 (fun hD => ?_)
  refine gj_aload_n C 0 dX0_init_24 rfl ?_
  refine gj_bipush (v := 16) C dX0_init_25 (by decide) ?_
  refine cn_newa C hX hD 16 (by decide) rfl (Nat.le_of_ble_eq_true rfl) (Nat.le_of_ble_eq_true rfl) (Nat.le_of_ble_eq_true rfl) dX0_init_27 (fun q3 hD => ?_)
  refine cn_put C hD hin j (by simp (disch := omega) only [va_up_self, va_up_ne]) tyX0 (.array .int) inX0 tyX0_ok nmX0 rfl (by omega) ((va_up_ne _ _ (by omega)).trans (va_up_self _ _ _)) 2 (by decide) fc_X0_24 rfl rfl rfl rfl (Nat.le_of_ble_eq_true rfl) dX0_init_29 (fun hD => ?_)
  obtain ⟨A3, eA3⟩ : ∃ z, z = va_up (va_up (va_up A n q1) (n + 1) q2) (n + 1 + 1) q3 := ⟨_, rfl⟩
  rw [← eA3] at hD ⊢
  generalize hE3 : va_up (va_up _ (n + 1 + 1) _) j _ = E3 at hD ⊢
  have j3 : E3 j = .inr (0, [.int k, .ref q1, .ref q3, .int 0, .int 0, .int 0, .int 0, .int 0]) := by rw [← hE3]; exact va_up_self _ _ _
  have n2 : E3 (n + 2) = .inl (gw_y Γ 0, 16, .inl (fun _ => 0)) := by rw [← hE3]; exact ((va_up_ne _ _ (by omega)).trans (va_up_self _ _ _))
  have n1 : E3 (n + 1) = .inl (gw_y Γ 0, 16, .inl (fun _ => 0)) := by rw [← hE3]; simp (disch := omega) only [va_up_self, va_up_ne]
  have n0 : E3 n = .inr (1, [.ref q2, .int 0]) := by rw [← hE3]; simp (disch := omega) only [va_up_self, va_up_ne]
  have nz : ∀ i, i < n → i ≠ j → E3 i = e i := fun i hi hne => by rw [← hE3]; simp (disch := omega) only [va_up_ne]
  have aj : A3 j = A j := by rw [eA3]; simp (disch := omega) only [va_up_self, va_up_ne]
  have a2 : A3 (n + 2) = q3 := by rw [eA3]; exact va_up_self _ _ _
  have a1 : A3 (n + 1) = q2 := by rw [eA3]; simp (disch := omega) only [va_up_self, va_up_ne]
  have a0 : A3 n = q1 := by rw [eA3]; simp (disch := omega) only [va_up_self, va_up_ne]
  have az : ∀ i, i < n → A3 i = A i := fun i hi => by rw [eA3]; simp (disch := omega) only [va_up_ne]
  clear hE3 eA3 hM
  refine gj_iconst (v := 0) C dX0_init_32 (by decide) ?_
  refine gj_istore_n C 2 [(2, .int 0), (0, .ref (A j)), (1, .int k)] dX0_init_33 rfl (by decide) rfl ?_
  have hloop := cn_Course_loop C (n + 3) A3 E3 j (n + 2) (A j) _ _ _ _ _ _ _ k (by omega) (by omega) (by omega) aj (by rw [a2]; exact j3) hD ?_ 16 0 rfl
  · rw [cn_fill_0, cn_id n2] at hloop
    exact gj_pick [1, 2, 0] _ rfl hloop
  · refine cn_vret C E (cn_D hD) ⟨az, fun i hi hne => (va_up_ne _ _ (by omega)).trans (nz i hi hne), (va_up_ne _ _ (by omega)).trans ?_, (va_up_ne _ _ (by omega)).trans ?_, (va_up_ne _ _ (by omega)).trans n1, va_up_self _ _ _⟩ dX0_init_56 (Nat.le_refl _) (Nat.le_refl _)
    · rw [a0, a2]; exact j3
    · rw [a1]; exact n0
set_option maxRecDepth 100000 in
set_option maxHeartbeats 4000000 in
/-- Student(number): two cells come -/
theorem cn_Student (l : Launch) (Γ : gw_G) (n : Nat) (A : Nat → Nat) (e : Nat → va_E) (j : Nat) (k : Int32) (hj : j < n) (he : e j = .inr (2, [.int 0, .null, .int 0, .int 0, .int 0, .int 0, .int 0, .int 0, .int 0, .int 0])) (hD : va_D (gw_A Γ) (cn_w n A e)) : cn_M l yX2_init [.code yX2_init cX2_init 2 none] { frames := 2, cells := 2, slots := 8, locals := 33 } 2 8 Γ [.ref (A j), .int k] (cn_w n A e) (cn_q Γ (n + 2) (fun A' e' => (∀ i, i < n → A' i = A i) ∧ (∀ i, i < n → i ≠ j → e' i = e i) ∧ e' j = .inr (2, [.int k, .ref (A' n), .int 0, .int 0, .int 0, .int 0, .int (-1), .int (-1), .int (-1), .int (-1)]) ∧ e' n = .inr (1, [.ref (A' (n + 1)), .int 0]) ∧ e' (n + 1) = .inl (gw_y Γ 0, 6, .inl (fun _ => 0)))) := by
  refine cn_enter (by decide) (Nat.le_of_ble_eq_true rfl) (fun K C E hX hin => ?_)
  refine gj_aload_n C 0 dX2_init_0 rfl ?_
  refine cn_obj C mo_X2 im_obj cw_obj dX2_init_1 (Nat.le_of_ble_eq_true rfl) (Nat.le_of_ble_eq_true rfl) ?_
  refine gj_aload_n C 0 dX2_init_4 rfl ?_
  refine gj_iload_n C 1 dX2_init_5 rfl ?_
  refine cn_put C hD hin j rfl tyX2 .int inX2 tyX2_ok nmX2 rfl hj he 0 (by decide) fc_X2_9 rfl rfl rfl rfl (Nat.le_of_ble_eq_true rfl) dX2_init_6 (fun hD => ?_)
  refine gj_aload_n C 0 dX2_init_9 rfl ?_
  refine cn_new (ci := 1) C hD [.null, .int 0] inX1 tyX1 tyX1_ok rfl (fun i hi => by rcases (show i = 0 ∨ i = 1 by omega) with rfl | rfl <;> rfl) cl_X2_15 is_X1 ii_X1 (Nat.le_of_ble_eq_true rfl) (Nat.le_of_ble_eq_true rfl) dX2_init_10 (fun q1 hD => ?_)
  refine gj_dup C dX2_init_13 rfl ?_
  refine gj_bipush (v := 6) C dX2_init_14 (by decide) ?_
  refine cn_newa C hX hD 6 (by decide) rfl (Nat.le_of_ble_eq_true rfl) (Nat.le_of_ble_eq_true rfl) (Nat.le_of_ble_eq_true rfl) dX2_init_16 (fun q2 hD => ?_)
  have hM := cn_Row (gw_l K) Γ (n + 1 + 1) _ _ n q2 (by omega) (by simp (disch := omega) only [va_up_self, va_up_ne]) hD
  rw [show (va_up (va_up A n q1) (n + 1) q2) n = q1 from (by simp (disch := omega) only [va_up_self, va_up_ne])] at hM
  refine cn_cI (As := [.ref q2]) (rest := [.ref q1, .ref (A j)]) C hX cb_X2_17i rfl im_X1_init hM rfl (Nat.le_of_ble_eq_true rfl) dX2_init_18 (gw_rmk rfl) rfl (fun A' e' hp hD => ?_)
  obtain ⟨rfl, rfl⟩ := hp
  refine cn_put C hD hin j (by simp (disch := omega) only [va_up_self, va_up_ne]) tyX2 (.object "CourseEnrolment$Row") inX2 tyX2_ok nmX2 rfl (by omega) ((va_up_ne _ _ (by omega)).trans ((va_up_ne _ _ (by omega)).trans ((va_up_ne _ _ (by omega)).trans (va_up_self _ _ _)))) 1 (by decide) fc_X2_20 rfl rfl rfl rfl (Nat.le_of_ble_eq_true rfl) dX2_init_21 (fun hD => ?_)
  refine gj_aload_n C 0 dX2_init_24 rfl ?_
  refine gj_iconst (v := -1) C dX2_init_25 (by decide) ?_
  refine cn_put C hD hin j (by simp (disch := omega) only [va_up_self, va_up_ne]) tyX2 .int inX2 tyX2_ok nmX2 rfl (by omega) (va_up_self _ _ _) 6 (by decide) fc_X2_24 rfl rfl rfl rfl (Nat.le_of_ble_eq_true rfl) dX2_init_26 (fun hD => ?_)
  refine gj_aload_n C 0 dX2_init_29 rfl ?_
  refine gj_iconst (v := -1) C dX2_init_30 (by decide) ?_
  refine cn_put C hD hin j (by simp (disch := omega) only [va_up_self, va_up_ne]) tyX2 .int inX2 tyX2_ok nmX2 rfl (by omega) (va_up_self _ _ _) 7 (by decide) fc_X2_27 rfl rfl rfl rfl (Nat.le_of_ble_eq_true rfl) dX2_init_31 (fun hD => ?_)
  refine gj_aload_n C 0 dX2_init_34 rfl ?_
  refine gj_iconst (v := -1) C dX2_init_35 (by decide) ?_
  refine cn_put C hD hin j (by simp (disch := omega) only [va_up_self, va_up_ne]) tyX2 .int inX2 tyX2_ok nmX2 rfl (by omega) (va_up_self _ _ _) 8 (by decide) fc_X2_30 rfl rfl rfl rfl (Nat.le_of_ble_eq_true rfl) dX2_init_36 (fun hD => ?_)
  refine gj_aload_n C 0 dX2_init_39 rfl ?_
  refine gj_iconst (v := -1) C dX2_init_40 (by decide) ?_
  refine cn_put C hD hin j (by simp (disch := omega) only [va_up_self, va_up_ne]) tyX2 .int inX2 tyX2_ok nmX2 rfl (by omega) (va_up_self _ _ _) 9 (by decide) fc_X2_33 rfl rfl rfl rfl (Nat.le_of_ble_eq_true rfl) dX2_init_41 (fun hD => ?_)
  exact cn_vret C E hD ⟨fun i hi => by simp (disch := omega) only [va_up_ne], fun i hi hne => by simp (disch := omega) only [va_up_ne], by simp (disch := omega) only [va_up_self, va_up_ne]; rfl, (by simp (disch := omega) only [va_up_self, va_up_ne]), (by simp (disch := omega) only [va_up_self, va_up_ne])⟩ dX2_init_44 (Nat.le_refl _) (Nat.le_refl _)

