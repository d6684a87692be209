/-! THE LAW's wrappers: each calls one method of the object, keeps its answer, or tells which exception came -/
def lw_k (es : List String) (r : Int32 ⊕ String) : Int32 := gw_xb r (fun _ => 0) (fun e => nI (es.findIdx (fun z => z == e) + 1))
def lw_o (r : Int32 ⊕ String) (o : Nat → Int64) : Nat → Int64 := gw_xb r (fun v => vp_updL o 0 v.toInt64) (fun _ => o)
def lw_oz (r : Int32 ⊕ String) (o : Nat → Int64) : Nat → Int64 := gw_xb r (fun v => vp_updL o 0 (if v = 0 then 0 else 1)) (fun _ => o)
theorem gw_enterW {l : Launch} {y : MethodName} {cc : ByteArray} {maxL mc ms : Nat} {ret : Option FieldType} {rm : Room} {Γ : gw_G} {As : List Value} {ws0 : va_W} {Qc : Array Value → State → Outcome → State → Prop} {hh : List (Nat × Nat × Nat × Nat)} (hy : plainName y.cls = true) (hn : (lg_sl As).length ≤ maxL)
    (body : ∀ K : gw_K, gw_C K Γ cc maxL y.cls → gw_E K Γ Qc mc ms ret → (gw_c K).exceptionTable.toList = tableOf hh → gw_J K Γ rm 0 0 ws0 0 (lv_args 0 As) []) : gw_M l y [.codeWith y cc maxL ret hh] rm mc ms Γ As ws0 Qc := by
  refine va_MetW (cc := cc) (maxL := maxL) (ret := ret) (hh := hh) hy rfl ?_
  intro p e s m args below meth c s₁ B hml hv
  obtain ⟨rfl, hP, hH⟩ := hv
  have htab := vx_table (x := y) B (atoms_spec (ws := [Cond.codeWith y cc maxL ret hh]) B.pre _ List.mem_cons_self)
  rw [lg_entry_eq]
  exact body (p, l, e, s, m, As.toArray, below, meth, c, MQ below Qc As.toArray s mc ms (gw_A Γ)) ⟨B.exec, B.bytes, hml, findClass_of_methodNamed B.named, hH, B.notSynchronized⟩ ⟨B.returns, rfl⟩ htab s.heap [] _ hP va_S.rf (by show lv_has _ c.maxLocals _; rw [hml]; exact lv_entry As hn)
section gwL
variable {K : gw_K} {Γ : gw_G} {R rm : Room} {cells slots pc mc ms : Nat} {ws ws1 : va_W} {lv : List (Nat × Value)} {rest st : List Value} {cc : ByteArray} {nL : Nat} {own : String} {ret : Option FieldType} {index maxL n : Nat} {y : MethodName} {c2 : ByteArray} {As : List Value} {hh : List (Nat × Nat × Nat × Nat)}
theorem gj_catch (C : gw_C K Γ cc nL own) {x name : String} (pre : List ExceptionTableEntry) (z : ExceptionTableEntry) (suf : List ExceptionTableEntry) (hsplit : (gw_c K).exceptionTable.toList = pre ++ z :: suf)
    (hpass : ∀ q ∈ pre, q.catchType ≠ 0 ∧ ∃ nm : String, Cond.classLink own q.catchType nm ∈ gw_L ∧ x ≠ nm ∧ nm ∈ gw_X) (hxX : x ∈ gw_X) (hx : covers z pc = true) (h0 : z.catchType ≠ 0) (hlink : Cond.classLink own z.catchType name ∈ gw_L) (hcast : Cond.castable x name ∈ gw_L)
    (k : ∀ q : Nat, gw_J K Γ R cells slots ws z.handlerPc lv [.ref q]) : gw_JX K Γ R cells slots ws pc lv x := fun H locs ls rest q ce hP hS hl hq hv hcl =>
  vx_catch C.ow pre z suf hsplit (fun w hw => by
    obtain ⟨h1, nm, h2, h3, h4⟩ := hpass w hw
    exact Or.inr ⟨h1, nm, C.ws _ h2, C.hh.2.2.2.2.2.2.2.2 x hxX nm h4 h3⟩) hx h0 (C.ws _ hlink) (C.ws _ hcast) hq hv hcl (k q H locs ls hP hS hl)
def gw_cw (own : String) (index : Nat) (y : MethodName) (cc : ByteArray) (maxL : Nat) (ret : Option FieldType) (hh : List (Nat × Nat × Nat × Nat)) (n : Nat) : Prop := Cond.codeWith y cc maxL ret hh ∈ gw_L ∧ Cond.initialized y.cls ∈ gw_L ∧ (y.cls ≠ "java/lang/invoke/MethodHandle" ∧ y.cls ≠ "java/lang/invoke/VarHandle") ∧ (parseMethodDescriptor y.desc).map (fun d => d.parameters.length) = some n ∧ Cond.methodLink own index y ∈ gw_L ∧ Cond.static y ∈ gw_L
theorem gj_cW (C : gw_C K Γ cc nL own) (cw : gw_cw own index y c2 maxL ret hh n) {r : Int32} (hM : gw_M (gw_l K) y [.codeWith y c2 maxL ret hh] rm mc ms Γ As ws (gw_qi Γ r ws1)) (hn : As.length = n) (hrest : (rest.map fun v => v.category).sum ≤ 8) (hd : decode cc pc = .ok (.invokestatic index, 3)) (hr : gw_rm rm R maxL mc ms cells slots) (hst : As.reverse ++ rest = st) (k : gw_J K Γ R (cells + mc) (slots + ms) ws1 (pc + 3) lv (.int r :: rest)) : gw_J K Γ R cells slots ws pc lv st := fun H locs ls hP hS hl => by
  refine va_calli (vx_runSW C.fix hM ⟨⟨hr.1, hr.2.1, hr.2.2.1, hr.2.2.2.1, fun w hw a' U hW => ?_, List.mem_cons_self⟩, C.ws _ cw.1, C.ws _ cw.2.1, cw.2.2.1, fun sig h => ?_, C.ws _ cw.2.2.2.2.1, C.ws _ cw.2.2.2.2.2⟩ ⟨gw_blind, gw_pre C hP hS _⟩ rfl hn (hl.1.trans C.2.2.1) hst.symm (lv_room hrest) hd ⟨hr.2.2.2.2.1, hr.2.2.2.2.2⟩) hS (fun q _ h => h) (fun q h => h) (fun r1 u t H1 locs1 ht hvm hw hB hz hk hS1 => ?_)
  · rw [List.mem_singleton.mp hw]
    exact va_Nw.use rfl (gw_warm cw.1 hW (C.hh.1 _ cw.1))
  · have h2 := cw.2.2.2.1
    rw [h] at h2
    exact (Option.some.inj h2).symm
  · cases hw
    exact k H1 locs1 ls (by rw [← ht]; exact hB) hS1 hl
/-- the script: its length, a place -/
theorem gj_slen (C : gw_C K Γ cc nL own) {b L : Nat} {xs : Nat → Int32} (hX : va_X b L xs (gw_s K) (gw_s K).heap) (hbl : b < (gw_s K).heap.size) (hbA : ¬ gw_A Γ b) (hd : decode cc pc = .ok (.arraylength, 1)) (k : gw_J K Γ R cells slots ws (pc + 1) lv (.int (Int32.ofNat L) :: rest)) : gw_J K Γ R cells slots ws pc lv (.ref b :: rest) := fun H locs ls hP hS hl => va_slen C.1 C.2.1 hX hbl hbA hS hd (k H locs ls hP hS hl)
theorem gj_sld (C : gw_C K Γ cc nL own) {b L : Nat} {xs : Nat → Int32} (hX : va_X b L xs (gw_s K) (gw_s K).heap) (hbl : b < (gw_s K).heap.size) (hbA : ¬ gw_A Γ b) {i : Int32} (hi : vp_in i L) (hd : decode cc pc = .ok (.iaload, 1)) (k : gw_J K Γ R cells slots ws (pc + 1) lv (.int (xs i.toNatClampNeg) :: rest)) : gw_J K Γ R cells slots ws pc lv (.int i :: .ref b :: rest) := fun H locs ls hP hS hl => va_sld C.1 C.2.1 hX hbl hbA hS hi hd (k H locs ls hP hS hl)
theorem gj_tableIn (C : gw_C K Γ cc nL own) {dflt lo hi : Int} {offs : Array Int} {len : Nat} {x : Int32} {off : Int} (tgt : Nat) (hd : decode cc pc = .ok (.tableswitch dflt lo hi offs, len)) (h1 : ¬ x.toInt < lo) (h2 : ¬ hi < x.toInt) (ho : offs[(x.toInt - lo).toNat]? = some off) (ht : (pc : Int) + off = (tgt : Int)) (k : gw_J K Γ R cells slots ws tgt lv rest) : gw_J K Γ R cells slots ws pc lv (.int x :: rest) := fun H locs ls hP hS hl => lv_tableIn C.1 C.2.1 hd h1 h2 ho ht (k H locs ls hP hS hl)
theorem gj_tableOut (C : gw_C K Γ cc nL own) {dflt lo hi : Int} {offs : Array Int} {len : Nat} {x : Int32} (tgt : Nat) (hd : decode cc pc = .ok (.tableswitch dflt lo hi offs, len)) (h : x.toInt < lo ∨ hi < x.toInt) (ht : (pc : Int) + dflt = (tgt : Int)) (k : gw_J K Γ R cells slots ws tgt lv rest) : gw_J K Γ R cells slots ws pc lv (.int x :: rest) := fun H locs ls hP hS hl => lv_tableOut C.1 C.2.1 hd h ht (k H locs ls hP hS hl)
end gwL
theorem gw_rmo {rm R : Room} {maxL mc ms cells slots : Nat} (h : (Nat.beq rm.cells mc && (Nat.beq rm.slots ms && (Nat.ble (rm.frames + 1) R.frames && Nat.ble (8 + (maxL + 11) + rm.locals) R.locals))) = true) (h5 : cells + mc ≤ R.cells) (h6 : slots + ms ≤ R.slots) : gw_rm rm R maxL mc ms cells slots := by
  simp only [Bool.and_eq_true] at h
  obtain ⟨h1, h2, h3, h4⟩ := h
  exact ⟨Nat.eq_of_beq_eq_true h1, Nat.eq_of_beq_eq_true h2, Nat.le_of_ble_eq_true h3, Nat.le_of_ble_eq_true h4, h5, h6⟩
theorem lg_cmp_self (x : Int64) : lg_cmp x x = 0 := by
  unfold lg_cmp
  first | simp | (split <;> simp_all)
theorem gw_gX : "java/lang/IllegalArgumentException" ∈ gw_X ∧ "java/lang/IllegalStateException" ∈ gw_X ∧ "java/lang/IndexOutOfBoundsException" ∈ gw_X := by decide +kernel
theorem cw_X3_addCourse : Cond.code yX3_addCourse cX3_addCourse 5 (some .int) ∈ gw_L := gw_in 395 (by decide +kernel) rfl
theorem cb_L_7 : gw_cv RL 7 yX3_addCourse cX3_addCourse 5 (some .int) 3 := ⟨⟨cw_X3_addCourse, ii_X3, by decide, by decide +kernel, gw_in 392 (by decide +kernel) rfl⟩, gw_in 393 (by decide +kernel) rfl, gw_in 394 (by decide +kernel) rfl⟩
theorem cw_X3_setSeats : Cond.code yX3_setSeats cX3_setSeats 5 (some .int) ∈ gw_L := gw_in 439 (by decide +kernel) rfl
theorem cb_L_17 : gw_cv RL 17 yX3_setSeats cX3_setSeats 5 (some .int) 2 := ⟨⟨cw_X3_setSeats, ii_X3, by decide, by decide +kernel, gw_in 436 (by decide +kernel) rfl⟩, gw_in 437 (by decide +kernel) rfl, gw_in 438 (by decide +kernel) rfl⟩
theorem cw_X3_addPrerequisite : Cond.code yX3_addPrerequisite cX3_addPrerequisite 5 (some .int) ∈ gw_L := gw_in 448 (by decide +kernel) rfl
theorem cb_L_23 : gw_cv RL 23 yX3_addPrerequisite cX3_addPrerequisite 5 (some .int) 2 := ⟨⟨cw_X3_addPrerequisite, ii_X3, by decide, by decide +kernel, gw_in 445 (by decide +kernel) rfl⟩, gw_in 446 (by decide +kernel) rfl, gw_in 447 (by decide +kernel) rfl⟩
theorem cw_X3_requires : Cond.code yX3_requires cX3_requires 5 (some .boolean) ∈ gw_L := gw_in 466 (by decide +kernel) rfl
theorem cb_L_26 : gw_cv RL 26 yX3_requires cX3_requires 5 (some .boolean) 2 := ⟨⟨cw_X3_requires, ii_X3, by decide, by decide +kernel, gw_in 463 (by decide +kernel) rfl⟩, gw_in 464 (by decide +kernel) rfl, gw_in 465 (by decide +kernel) rfl⟩
theorem cw_X3_level : Cond.code yX3_level cX3_level 2 (some .int) ∈ gw_L := gw_in 473 (by decide +kernel) rfl
theorem cb_L_30 : gw_cv RL 30 yX3_level cX3_level 2 (some .int) 1 := ⟨⟨cw_X3_level, ii_X3, by decide, by decide +kernel, gw_in 470 (by decide +kernel) rfl⟩, gw_in 471 (by decide +kernel) rfl, gw_in 472 (by decide +kernel) rfl⟩
theorem cw_X3_enrolled : Cond.code yX3_enrolled cX3_enrolled 2 (some .int) ∈ gw_L := gw_in 488 (by decide +kernel) rfl
theorem cb_L_34 : gw_cv RL 34 yX3_enrolled cX3_enrolled 2 (some .int) 1 := ⟨⟨cw_X3_enrolled, ii_X3, by decide, by decide +kernel, gw_in 485 (by decide +kernel) rfl⟩, gw_in 486 (by decide +kernel) rfl, gw_in 487 (by decide +kernel) rfl⟩
theorem cw_X3_freeSeats : Cond.code yX3_freeSeats cX3_freeSeats 2 (some .int) ∈ gw_L := gw_in 495 (by decide +kernel) rfl
theorem cb_L_37 : gw_cv RL 37 yX3_freeSeats cX3_freeSeats 2 (some .int) 1 := ⟨⟨cw_X3_freeSeats, ii_X3, by decide, by decide +kernel, gw_in 492 (by decide +kernel) rfl⟩, gw_in 493 (by decide +kernel) rfl, gw_in 494 (by decide +kernel) rfl⟩
theorem cw_X3_addStudent : Cond.code yX3_addStudent cX3_addStudent 4 (some .int) ∈ gw_L := gw_in 502 (by decide +kernel) rfl
theorem cb_L_40 : gw_cv RL 40 yX3_addStudent cX3_addStudent 4 (some .int) 2 := ⟨⟨cw_X3_addStudent, ii_X3, by decide, by decide +kernel, gw_in 499 (by decide +kernel) rfl⟩, gw_in 500 (by decide +kernel) rfl, gw_in 501 (by decide +kernel) rfl⟩
theorem cw_X3_pass : Cond.code yX3_pass cX3_pass 5 (some .int) ∈ gw_L := gw_in 511 (by decide +kernel) rfl
theorem cb_L_43 : gw_cv RL 43 yX3_pass cX3_pass 5 (some .int) 2 := ⟨⟨cw_X3_pass, ii_X3, by decide, by decide +kernel, gw_in 508 (by decide +kernel) rfl⟩, gw_in 509 (by decide +kernel) rfl, gw_in 510 (by decide +kernel) rfl⟩
theorem cw_X3_hasPassed : Cond.code yX3_hasPassed cX3_hasPassed 4 (some .boolean) ∈ gw_L := gw_in 519 (by decide +kernel) rfl
theorem cb_L_46 : gw_cv RL 46 yX3_hasPassed cX3_hasPassed 4 (some .boolean) 2 := ⟨⟨cw_X3_hasPassed, ii_X3, by decide, by decide +kernel, gw_in 516 (by decide +kernel) rfl⟩, gw_in 517 (by decide +kernel) rfl, gw_in 518 (by decide +kernel) rfl⟩
theorem cw_X3_isEnrolled : Cond.code yX3_isEnrolled cX3_isEnrolled 4 (some .boolean) ∈ gw_L := gw_in 526 (by decide +kernel) rfl
theorem cb_L_49 : gw_cv RL 49 yX3_isEnrolled cX3_isEnrolled 4 (some .boolean) 2 := ⟨⟨cw_X3_isEnrolled, ii_X3, by decide, by decide +kernel, gw_in 523 (by decide +kernel) rfl⟩, gw_in 524 (by decide +kernel) rfl, gw_in 525 (by decide +kernel) rfl⟩
theorem cw_X3_credits : Cond.code yX3_credits cX3_credits 2 (some .int) ∈ gw_L := gw_in 533 (by decide +kernel) rfl
theorem cb_L_52 : gw_cv RL 52 yX3_credits cX3_credits 2 (some .int) 1 := ⟨⟨cw_X3_credits, ii_X3, by decide, by decide +kernel, gw_in 530 (by decide +kernel) rfl⟩, gw_in 531 (by decide +kernel) rfl, gw_in 532 (by decide +kernel) rfl⟩
theorem cw_X3_missing : Cond.code yX3_missing cX3_missing 4 (some .int) ∈ gw_L := gw_in 540 (by decide +kernel) rfl
theorem cb_L_55 : gw_cv RL 55 yX3_missing cX3_missing 4 (some .int) 2 := ⟨⟨cw_X3_missing, ii_X3, by decide, by decide +kernel, gw_in 537 (by decide +kernel) rfl⟩, gw_in 538 (by decide +kernel) rfl, gw_in 539 (by decide +kernel) rfl⟩
theorem cw_X3_obstacle : Cond.code yX3_obstacle cX3_obstacle 4 (some .int) ∈ gw_L := gw_in 547 (by decide +kernel) rfl
theorem cb_L_58 : gw_cv RL 58 yX3_obstacle cX3_obstacle 4 (some .int) 2 := ⟨⟨cw_X3_obstacle, ii_X3, by decide, by decide +kernel, gw_in 544 (by decide +kernel) rfl⟩, gw_in 545 (by decide +kernel) rfl, gw_in 546 (by decide +kernel) rfl⟩
theorem cw_X3_wish : Cond.code yX3_wish cX3_wish 5 (some .int) ∈ gw_L := gw_in 554 (by decide +kernel) rfl
theorem cb_L_61 : gw_cv RL 61 yX3_wish cX3_wish 5 (some .int) 2 := ⟨⟨cw_X3_wish, ii_X3, by decide, by decide +kernel, gw_in 551 (by decide +kernel) rfl⟩, gw_in 552 (by decide +kernel) rfl, gw_in 553 (by decide +kernel) rfl⟩
theorem cw_X3_dropWish : Cond.code yX3_dropWish cX3_dropWish 5 (some .int) ∈ gw_L := gw_in 568 (by decide +kernel) rfl
theorem cb_L_64 : gw_cv RL 64 yX3_dropWish cX3_dropWish 5 (some .int) 2 := ⟨⟨cw_X3_dropWish, ii_X3, by decide, by decide +kernel, gw_in 565 (by decide +kernel) rfl⟩, gw_in 566 (by decide +kernel) rfl, gw_in 567 (by decide +kernel) rfl⟩
theorem cw_X3_wishes : Cond.code yX3_wishes cX3_wishes 2 (some .int) ∈ gw_L := gw_in 576 (by decide +kernel) rfl
theorem cb_L_67 : gw_cv RL 67 yX3_wishes cX3_wishes 2 (some .int) 1 := ⟨⟨cw_X3_wishes, ii_X3, by decide, by decide +kernel, gw_in 573 (by decide +kernel) rfl⟩, gw_in 574 (by decide +kernel) rfl, gw_in 575 (by decide +kernel) rfl⟩
theorem cw_X3_wishAt : Cond.code yX3_wishAt cX3_wishAt 3 (some .int) ∈ gw_L := gw_in 583 (by decide +kernel) rfl
theorem cb_L_70 : gw_cv RL 70 yX3_wishAt cX3_wishAt 3 (some .int) 2 := ⟨⟨cw_X3_wishAt, ii_X3, by decide, by decide +kernel, gw_in 580 (by decide +kernel) rfl⟩, gw_in 581 (by decide +kernel) rfl, gw_in 582 (by decide +kernel) rfl⟩
theorem cw_X3_request : Cond.code yX3_request cX3_request 6 (some .int) ∈ gw_L := gw_in 594 (by decide +kernel) rfl
theorem cb_L_73 : gw_cv RL 73 yX3_request cX3_request 6 (some .int) 2 := ⟨⟨cw_X3_request, ii_X3, by decide, by decide +kernel, gw_in 591 (by decide +kernel) rfl⟩, gw_in 592 (by decide +kernel) rfl, gw_in 593 (by decide +kernel) rfl⟩
theorem cw_X3_drop : Cond.code yX3_drop cX3_drop 5 (some .int) ∈ gw_L := gw_in 603 (by decide +kernel) rfl
theorem cb_L_76 : gw_cv RL 76 yX3_drop cX3_drop 5 (some .int) 2 := ⟨⟨cw_X3_drop, ii_X3, by decide, by decide +kernel, gw_in 600 (by decide +kernel) rfl⟩, gw_in 601 (by decide +kernel) rfl, gw_in 602 (by decide +kernel) rfl⟩
theorem cw_X3_change : Cond.code yX3_change cX3_change 7 (some .int) ∈ gw_L := gw_in 611 (by decide +kernel) rfl
theorem cb_L_79 : gw_cv RL 79 yX3_change cX3_change 7 (some .int) 3 := ⟨⟨cw_X3_change, ii_X3, by decide, by decide +kernel, gw_in 608 (by decide +kernel) rfl⟩, gw_in 609 (by decide +kernel) rfl, gw_in 610 (by decide +kernel) rfl⟩
theorem cw_X3_accept : Cond.code yX3_accept cX3_accept 5 (some .int) ∈ gw_L := gw_in 620 (by decide +kernel) rfl
theorem cb_L_82 : gw_cv RL 82 yX3_accept cX3_accept 5 (some .int) 2 := ⟨⟨cw_X3_accept, ii_X3, by decide, by decide +kernel, gw_in 617 (by decide +kernel) rfl⟩, gw_in 618 (by decide +kernel) rfl, gw_in 619 (by decide +kernel) rfl⟩
theorem cw_X3_leave : Cond.code yX3_leave cX3_leave 6 (some .boolean) ∈ gw_L := gw_in 628 (by decide +kernel) rfl
theorem cb_L_85 : gw_cv RL 85 yX3_leave cX3_leave 6 (some .boolean) 2 := ⟨⟨cw_X3_leave, ii_X3, by decide, by decide +kernel, gw_in 625 (by decide +kernel) rfl⟩, gw_in 626 (by decide +kernel) rfl, gw_in 627 (by decide +kernel) rfl⟩
theorem cw_X3_advance : Cond.code yX3_advance cX3_advance 4 (some .int) ∈ gw_L := gw_in 636 (by decide +kernel) rfl
theorem cb_L_88 : gw_cv RL 88 yX3_advance cX3_advance 4 (some .int) 1 := ⟨⟨cw_X3_advance, ii_X3, by decide, by decide +kernel, gw_in 633 (by decide +kernel) rfl⟩, gw_in 634 (by decide +kernel) rfl, gw_in 635 (by decide +kernel) rfl⟩
theorem cw_X3_waiting : Cond.code yX3_waiting cX3_waiting 2 (some .int) ∈ gw_L := gw_in 652 (by decide +kernel) rfl
theorem cb_L_91 : gw_cv RL 91 yX3_waiting cX3_waiting 2 (some .int) 1 := ⟨⟨cw_X3_waiting, ii_X3, by decide, by decide +kernel, gw_in 649 (by decide +kernel) rfl⟩, gw_in 650 (by decide +kernel) rfl, gw_in 651 (by decide +kernel) rfl⟩
theorem cw_X3_waitingAt : Cond.code yX3_waitingAt cX3_waitingAt 3 (some .int) ∈ gw_L := gw_in 659 (by decide +kernel) rfl
theorem cb_L_94 : gw_cv RL 94 yX3_waitingAt cX3_waitingAt 3 (some .int) 2 := ⟨⟨cw_X3_waitingAt, ii_X3, by decide, by decide +kernel, gw_in 656 (by decide +kernel) rfl⟩, gw_in 657 (by decide +kernel) rfl, gw_in 658 (by decide +kernel) rfl⟩
theorem cw_X3_offerDays : Cond.code yX3_offerDays cX3_offerDays 5 (some .int) ∈ gw_L := gw_in 666 (by decide +kernel) rfl
theorem cb_L_97 : gw_cv RL 97 yX3_offerDays cX3_offerDays 5 (some .int) 2 := ⟨⟨cw_X3_offerDays, ii_X3, by decide, by decide +kernel, gw_in 663 (by decide +kernel) rfl⟩, gw_in 664 (by decide +kernel) rfl, gw_in 665 (by decide +kernel) rfl⟩
theorem cw_X3_runLottery : Cond.code yX3_runLottery cX3_runLottery 4 (some .int) ∈ gw_L := gw_in 673 (by decide +kernel) rfl
theorem cb_L_100 : gw_cv RL 100 yX3_runLottery cX3_runLottery 4 (some .int) 1 := ⟨⟨cw_X3_runLottery, ii_X3, by decide, by decide +kernel, gw_in 670 (by decide +kernel) rfl⟩, gw_in 671 (by decide +kernel) rfl, gw_in 672 (by decide +kernel) rfl⟩
theorem cw_X3_lotteryNumber : Cond.code yX3_lotteryNumber cX3_lotteryNumber 2 (some .int) ∈ gw_L := gw_in 701 (by decide +kernel) rfl
theorem cb_L_103 : gw_cv RL 103 yX3_lotteryNumber cX3_lotteryNumber 2 (some .int) 1 := ⟨⟨cw_X3_lotteryNumber, ii_X3, by decide, by decide +kernel, gw_in 698 (by decide +kernel) rfl⟩, gw_in 699 (by decide +kernel) rfl, gw_in 700 (by decide +kernel) rfl⟩
theorem cw_X3_putUp : Cond.code yX3_putUp cX3_putUp 6 (some .int) ∈ gw_L := gw_in 708 (by decide +kernel) rfl
theorem cb_L_106 : gw_cv RL 106 yX3_putUp cX3_putUp 6 (some .int) 2 := ⟨⟨cw_X3_putUp, ii_X3, by decide, by decide +kernel, gw_in 705 (by decide +kernel) rfl⟩, gw_in 706 (by decide +kernel) rfl, gw_in 707 (by decide +kernel) rfl⟩
theorem cw_X3_withdraw : Cond.code yX3_withdraw cX3_withdraw 4 (some .int) ∈ gw_L := gw_in 715 (by decide +kernel) rfl
theorem cb_L_109 : gw_cv RL 109 yX3_withdraw cX3_withdraw 4 (some .int) 1 := ⟨⟨cw_X3_withdraw, ii_X3, by decide, by decide +kernel, gw_in 712 (by decide +kernel) rfl⟩, gw_in 713 (by decide +kernel) rfl, gw_in 714 (by decide +kernel) rfl⟩
theorem cw_X3_placeUp : Cond.code yX3_placeUp cX3_placeUp 2 (some .int) ∈ gw_L := gw_in 722 (by decide +kernel) rfl
theorem cb_L_112 : gw_cv RL 112 yX3_placeUp cX3_placeUp 2 (some .int) 1 := ⟨⟨cw_X3_placeUp, ii_X3, by decide, by decide +kernel, gw_in 719 (by decide +kernel) rfl⟩, gw_in 720 (by decide +kernel) rfl, gw_in 721 (by decide +kernel) rfl⟩
theorem cw_X3_pointsTo : Cond.code yX3_pointsTo cX3_pointsTo 3 (some .int) ∈ gw_L := gw_in 729 (by decide +kernel) rfl
theorem cb_L_115 : gw_cv RL 115 yX3_pointsTo cX3_pointsTo 3 (some .int) 1 := ⟨⟨cw_X3_pointsTo, ii_X3, by decide, by decide +kernel, gw_in 726 (by decide +kernel) rfl⟩, gw_in 727 (by decide +kernel) rfl, gw_in 728 (by decide +kernel) rfl⟩
theorem cw_X4_addCourse : Cond.code yX4_addCourse cX4_addCourse 7 (some .int) ∈ gw_L := gw_in 811 (by decide +kernel) rfl
theorem cb_L_127 : gw_cv RL 127 yX4_addCourse cX4_addCourse 7 (some .int) 3 := ⟨⟨cw_X4_addCourse, ii_X4, by decide, by decide +kernel, gw_in 808 (by decide +kernel) rfl⟩, gw_in 809 (by decide +kernel) rfl, gw_in 810 (by decide +kernel) rfl⟩
theorem cw_X4_thrown : Cond.code yX4_thrown cX4_thrown 1 (some .int) ∈ gw_L := gw_in 807 (by decide +kernel) rfl
theorem cb_L_128 : gw_cv RL 128 yX4_thrown cX4_thrown 1 (some .int) 0 := ⟨⟨cw_X4_thrown, ii_X4, by decide, by decide +kernel, gw_in 804 (by decide +kernel) rfl⟩, gw_in 805 (by decide +kernel) rfl, gw_in 806 (by decide +kernel) rfl⟩
theorem cw_X4_setSeats : Cond.code yX4_setSeats cX4_setSeats 4 (some .int) ∈ gw_L := gw_in 816 (by decide +kernel) rfl
theorem cb_L_135 : gw_cv RL 135 yX4_setSeats cX4_setSeats 4 (some .int) 2 := ⟨⟨cw_X4_setSeats, ii_X4, by decide, by decide +kernel, gw_in 813 (by decide +kernel) rfl⟩, gw_in 814 (by decide +kernel) rfl, gw_in 815 (by decide +kernel) rfl⟩
theorem cw_X4_addPrerequisite : Cond.code yX4_addPrerequisite cX4_addPrerequisite 3 (some .int) ∈ gw_L := gw_in 855 (by decide +kernel) rfl
theorem cb_L_138 : gw_cv RL 138 yX4_addPrerequisite cX4_addPrerequisite 3 (some .int) 2 := ⟨⟨cw_X4_addPrerequisite, ii_X4, by decide, by decide +kernel, gw_in 852 (by decide +kernel) rfl⟩, gw_in 853 (by decide +kernel) rfl, gw_in 854 (by decide +kernel) rfl⟩
theorem cw_X4_requires : Cond.code yX4_requires cX4_requires 3 (some .boolean) ∈ gw_L := gw_in 862 (by decide +kernel) rfl
theorem cb_L_141 : gw_cv RL 141 yX4_requires cX4_requires 3 (some .boolean) 2 := ⟨⟨cw_X4_requires, ii_X4, by decide, by decide +kernel, gw_in 859 (by decide +kernel) rfl⟩, gw_in 860 (by decide +kernel) rfl, gw_in 861 (by decide +kernel) rfl⟩
theorem cw_X4_level : Cond.code yX4_level cX4_level 5 (some .int) ∈ gw_L := gw_in 866 (by decide +kernel) rfl
theorem cb_L_145 : gw_cv RL 145 yX4_level cX4_level 5 (some .int) 1 := ⟨⟨cw_X4_level, ii_X4, by decide, by decide +kernel, gw_in 863 (by decide +kernel) rfl⟩, gw_in 864 (by decide +kernel) rfl, gw_in 865 (by decide +kernel) rfl⟩
theorem cw_X3_courses : Cond.code yX3_courses cX3_courses 1 (some .int) ∈ gw_L := gw_in 190 (by decide +kernel) rfl
theorem cb_L_146 : gw_cv RL 146 yX3_courses cX3_courses 1 (some .int) 0 := ⟨⟨cw_X3_courses, ii_X3, by decide, by decide +kernel, gw_in 187 (by decide +kernel) rfl⟩, gw_in 188 (by decide +kernel) rfl, gw_in 189 (by decide +kernel) rfl⟩
theorem cw_X4_courses : Cond.code yX4_courses cX4_courses 1 (some .int) ∈ gw_L := gw_in 870 (by decide +kernel) rfl
theorem cb_L_149 : gw_cv RL 149 yX4_courses cX4_courses 1 (some .int) 0 := ⟨⟨cw_X4_courses, ii_X4, by decide, by decide +kernel, gw_in 867 (by decide +kernel) rfl⟩, gw_in 868 (by decide +kernel) rfl, gw_in 869 (by decide +kernel) rfl⟩
theorem cw_X4_enrolled : Cond.code yX4_enrolled cX4_enrolled 2 (some .int) ∈ gw_L := gw_in 874 (by decide +kernel) rfl
theorem cb_L_152 : gw_cv RL 152 yX4_enrolled cX4_enrolled 2 (some .int) 1 := ⟨⟨cw_X4_enrolled, ii_X4, by decide, by decide +kernel, gw_in 871 (by decide +kernel) rfl⟩, gw_in 872 (by decide +kernel) rfl, gw_in 873 (by decide +kernel) rfl⟩
theorem cw_X4_freeSeats : Cond.code yX4_freeSeats cX4_freeSeats 2 (some .int) ∈ gw_L := gw_in 878 (by decide +kernel) rfl
theorem cb_L_155 : gw_cv RL 155 yX4_freeSeats cX4_freeSeats 2 (some .int) 1 := ⟨⟨cw_X4_freeSeats, ii_X4, by decide, by decide +kernel, gw_in 875 (by decide +kernel) rfl⟩, gw_in 876 (by decide +kernel) rfl, gw_in 877 (by decide +kernel) rfl⟩
theorem cw_X4_addStudent : Cond.code yX4_addStudent cX4_addStudent 5 (some .int) ∈ gw_L := gw_in 882 (by decide +kernel) rfl
theorem cb_L_158 : gw_cv RL 158 yX4_addStudent cX4_addStudent 5 (some .int) 2 := ⟨⟨cw_X4_addStudent, ii_X4, by decide, by decide +kernel, gw_in 879 (by decide +kernel) rfl⟩, gw_in 880 (by decide +kernel) rfl, gw_in 881 (by decide +kernel) rfl⟩
theorem cw_X4_pass : Cond.code yX4_pass cX4_pass 3 (some .int) ∈ gw_L := gw_in 886 (by decide +kernel) rfl
theorem cb_L_161 : gw_cv RL 161 yX4_pass cX4_pass 3 (some .int) 2 := ⟨⟨cw_X4_pass, ii_X4, by decide, by decide +kernel, gw_in 883 (by decide +kernel) rfl⟩, gw_in 884 (by decide +kernel) rfl, gw_in 885 (by decide +kernel) rfl⟩
theorem cw_X3_students : Cond.code yX3_students cX3_students 1 (some .int) ∈ gw_L := gw_in 194 (by decide +kernel) rfl
theorem cb_L_162 : gw_cv RL 162 yX3_students cX3_students 1 (some .int) 0 := ⟨⟨cw_X3_students, ii_X3, by decide, by decide +kernel, gw_in 191 (by decide +kernel) rfl⟩, gw_in 192 (by decide +kernel) rfl, gw_in 193 (by decide +kernel) rfl⟩
theorem cw_X4_students : Cond.code yX4_students cX4_students 1 (some .int) ∈ gw_L := gw_in 914 (by decide +kernel) rfl
theorem cb_L_165 : gw_cv RL 165 yX4_students cX4_students 1 (some .int) 0 := ⟨⟨cw_X4_students, ii_X4, by decide, by decide +kernel, gw_in 911 (by decide +kernel) rfl⟩, gw_in 912 (by decide +kernel) rfl, gw_in 913 (by decide +kernel) rfl⟩
theorem cw_X4_hasPassed : Cond.code yX4_hasPassed cX4_hasPassed 3 (some .boolean) ∈ gw_L := gw_in 918 (by decide +kernel) rfl
theorem cb_L_168 : gw_cv RL 168 yX4_hasPassed cX4_hasPassed 3 (some .boolean) 2 := ⟨⟨cw_X4_hasPassed, ii_X4, by decide, by decide +kernel, gw_in 915 (by decide +kernel) rfl⟩, gw_in 916 (by decide +kernel) rfl, gw_in 917 (by decide +kernel) rfl⟩
theorem cw_X4_isEnrolled : Cond.code yX4_isEnrolled cX4_isEnrolled 3 (some .boolean) ∈ gw_L := gw_in 922 (by decide +kernel) rfl
theorem cb_L_171 : gw_cv RL 171 yX4_isEnrolled cX4_isEnrolled 3 (some .boolean) 2 := ⟨⟨cw_X4_isEnrolled, ii_X4, by decide, by decide +kernel, gw_in 919 (by decide +kernel) rfl⟩, gw_in 920 (by decide +kernel) rfl, gw_in 921 (by decide +kernel) rfl⟩
theorem cw_X4_credits : Cond.code yX4_credits cX4_credits 2 (some .int) ∈ gw_L := gw_in 926 (by decide +kernel) rfl
theorem cb_L_174 : gw_cv RL 174 yX4_credits cX4_credits 2 (some .int) 1 := ⟨⟨cw_X4_credits, ii_X4, by decide, by decide +kernel, gw_in 923 (by decide +kernel) rfl⟩, gw_in 924 (by decide +kernel) rfl, gw_in 925 (by decide +kernel) rfl⟩
theorem cw_X4_missing : Cond.code yX4_missing cX4_missing 3 (some .int) ∈ gw_L := gw_in 930 (by decide +kernel) rfl
theorem cb_L_177 : gw_cv RL 177 yX4_missing cX4_missing 3 (some .int) 2 := ⟨⟨cw_X4_missing, ii_X4, by decide, by decide +kernel, gw_in 927 (by decide +kernel) rfl⟩, gw_in 928 (by decide +kernel) rfl, gw_in 929 (by decide +kernel) rfl⟩
theorem cw_X4_obstacle : Cond.code yX4_obstacle cX4_obstacle 3 (some .int) ∈ gw_L := gw_in 934 (by decide +kernel) rfl
theorem cb_L_180 : gw_cv RL 180 yX4_obstacle cX4_obstacle 3 (some .int) 2 := ⟨⟨cw_X4_obstacle, ii_X4, by decide, by decide +kernel, gw_in 931 (by decide +kernel) rfl⟩, gw_in 932 (by decide +kernel) rfl, gw_in 933 (by decide +kernel) rfl⟩
theorem cw_X4_wish : Cond.code yX4_wish cX4_wish 3 (some .int) ∈ gw_L := gw_in 938 (by decide +kernel) rfl
theorem cb_L_183 : gw_cv RL 183 yX4_wish cX4_wish 3 (some .int) 2 := ⟨⟨cw_X4_wish, ii_X4, by decide, by decide +kernel, gw_in 935 (by decide +kernel) rfl⟩, gw_in 936 (by decide +kernel) rfl, gw_in 937 (by decide +kernel) rfl⟩
theorem cw_X4_dropWish : Cond.code yX4_dropWish cX4_dropWish 3 (some .int) ∈ gw_L := gw_in 942 (by decide +kernel) rfl
theorem cb_L_186 : gw_cv RL 186 yX4_dropWish cX4_dropWish 3 (some .int) 2 := ⟨⟨cw_X4_dropWish, ii_X4, by decide, by decide +kernel, gw_in 939 (by decide +kernel) rfl⟩, gw_in 940 (by decide +kernel) rfl, gw_in 941 (by decide +kernel) rfl⟩
theorem cw_X4_wishes : Cond.code yX4_wishes cX4_wishes 2 (some .int) ∈ gw_L := gw_in 946 (by decide +kernel) rfl
theorem cb_L_189 : gw_cv RL 189 yX4_wishes cX4_wishes 2 (some .int) 1 := ⟨⟨cw_X4_wishes, ii_X4, by decide, by decide +kernel, gw_in 943 (by decide +kernel) rfl⟩, gw_in 944 (by decide +kernel) rfl, gw_in 945 (by decide +kernel) rfl⟩
theorem cw_X4_wishAt : Cond.code yX4_wishAt cX4_wishAt 3 (some .int) ∈ gw_L := gw_in 950 (by decide +kernel) rfl
theorem cb_L_192 : gw_cv RL 192 yX4_wishAt cX4_wishAt 3 (some .int) 2 := ⟨⟨cw_X4_wishAt, ii_X4, by decide, by decide +kernel, gw_in 947 (by decide +kernel) rfl⟩, gw_in 948 (by decide +kernel) rfl, gw_in 949 (by decide +kernel) rfl⟩
theorem cw_X4_request : Cond.code yX4_request cX4_request 3 (some .int) ∈ gw_L := gw_in 954 (by decide +kernel) rfl
theorem cb_L_195 : gw_cv RL 195 yX4_request cX4_request 3 (some .int) 2 := ⟨⟨cw_X4_request, ii_X4, by decide, by decide +kernel, gw_in 951 (by decide +kernel) rfl⟩, gw_in 952 (by decide +kernel) rfl, gw_in 953 (by decide +kernel) rfl⟩
theorem cw_X4_drop : Cond.code yX4_drop cX4_drop 3 (some .int) ∈ gw_L := gw_in 962 (by decide +kernel) rfl
theorem cb_L_198 : gw_cv RL 198 yX4_drop cX4_drop 3 (some .int) 2 := ⟨⟨cw_X4_drop, ii_X4, by decide, by decide +kernel, gw_in 959 (by decide +kernel) rfl⟩, gw_in 960 (by decide +kernel) rfl, gw_in 961 (by decide +kernel) rfl⟩
theorem cw_X4_change : Cond.code yX4_change cX4_change 4 (some .int) ∈ gw_L := gw_in 970 (by decide +kernel) rfl
theorem cb_L_201 : gw_cv RL 201 yX4_change cX4_change 4 (some .int) 3 := ⟨⟨cw_X4_change, ii_X4, by decide, by decide +kernel, gw_in 967 (by decide +kernel) rfl⟩, gw_in 968 (by decide +kernel) rfl, gw_in 969 (by decide +kernel) rfl⟩
theorem cw_X4_accept : Cond.code yX4_accept cX4_accept 3 (some .int) ∈ gw_L := gw_in 974 (by decide +kernel) rfl
theorem cb_L_204 : gw_cv RL 204 yX4_accept cX4_accept 3 (some .int) 2 := ⟨⟨cw_X4_accept, ii_X4, by decide, by decide +kernel, gw_in 971 (by decide +kernel) rfl⟩, gw_in 972 (by decide +kernel) rfl, gw_in 973 (by decide +kernel) rfl⟩
theorem cw_X4_leave : Cond.code yX4_leave cX4_leave 4 (some .boolean) ∈ gw_L := gw_in 978 (by decide +kernel) rfl
theorem cb_L_207 : gw_cv RL 207 yX4_leave cX4_leave 4 (some .boolean) 2 := ⟨⟨cw_X4_leave, ii_X4, by decide, by decide +kernel, gw_in 975 (by decide +kernel) rfl⟩, gw_in 976 (by decide +kernel) rfl, gw_in 977 (by decide +kernel) rfl⟩
theorem cw_X4_advance : Cond.code yX4_advance cX4_advance 4 (some .int) ∈ gw_L := gw_in 982 (by decide +kernel) rfl
theorem cb_L_210 : gw_cv RL 210 yX4_advance cX4_advance 4 (some .int) 1 := ⟨⟨cw_X4_advance, ii_X4, by decide, by decide +kernel, gw_in 979 (by decide +kernel) rfl⟩, gw_in 980 (by decide +kernel) rfl, gw_in 981 (by decide +kernel) rfl⟩
theorem cw_X3_day : Cond.code yX3_day cX3_day 1 (some .int) ∈ gw_L := gw_in 198 (by decide +kernel) rfl
theorem cb_L_211 : gw_cv RL 211 yX3_day cX3_day 1 (some .int) 0 := ⟨⟨cw_X3_day, ii_X3, by decide, by decide +kernel, gw_in 195 (by decide +kernel) rfl⟩, gw_in 196 (by decide +kernel) rfl, gw_in 197 (by decide +kernel) rfl⟩
theorem cw_X4_day : Cond.code yX4_day cX4_day 1 (some .int) ∈ gw_L := gw_in 990 (by decide +kernel) rfl
theorem cb_L_214 : gw_cv RL 214 yX4_day cX4_day 1 (some .int) 0 := ⟨⟨cw_X4_day, ii_X4, by decide, by decide +kernel, gw_in 987 (by decide +kernel) rfl⟩, gw_in 988 (by decide +kernel) rfl, gw_in 989 (by decide +kernel) rfl⟩
theorem cw_X4_waiting : Cond.code yX4_waiting cX4_waiting 2 (some .int) ∈ gw_L := gw_in 994 (by decide +kernel) rfl
theorem cb_L_217 : gw_cv RL 217 yX4_waiting cX4_waiting 2 (some .int) 1 := ⟨⟨cw_X4_waiting, ii_X4, by decide, by decide +kernel, gw_in 991 (by decide +kernel) rfl⟩, gw_in 992 (by decide +kernel) rfl, gw_in 993 (by decide +kernel) rfl⟩
theorem cw_X4_waitingAt : Cond.code yX4_waitingAt cX4_waitingAt 3 (some .int) ∈ gw_L := gw_in 998 (by decide +kernel) rfl
theorem cb_L_220 : gw_cv RL 220 yX4_waitingAt cX4_waitingAt 3 (some .int) 2 := ⟨⟨cw_X4_waitingAt, ii_X4, by decide, by decide +kernel, gw_in 995 (by decide +kernel) rfl⟩, gw_in 996 (by decide +kernel) rfl, gw_in 997 (by decide +kernel) rfl⟩
theorem cw_X4_offerDays : Cond.code yX4_offerDays cX4_offerDays 3 (some .int) ∈ gw_L := gw_in 1002 (by decide +kernel) rfl
theorem cb_L_223 : gw_cv RL 223 yX4_offerDays cX4_offerDays 3 (some .int) 2 := ⟨⟨cw_X4_offerDays, ii_X4, by decide, by decide +kernel, gw_in 999 (by decide +kernel) rfl⟩, gw_in 1000 (by decide +kernel) rfl, gw_in 1001 (by decide +kernel) rfl⟩
theorem cw_X4_runLottery : Cond.code yX4_runLottery cX4_runLottery 9 (some .int) ∈ gw_L := gw_in 1006 (by decide +kernel) rfl
theorem cb_L_226 : gw_cv RL 226 yX4_runLottery cX4_runLottery 9 (some .int) 1 := ⟨⟨cw_X4_runLottery, ii_X4, by decide, by decide +kernel, gw_in 1003 (by decide +kernel) rfl⟩, gw_in 1004 (by decide +kernel) rfl, gw_in 1005 (by decide +kernel) rfl⟩
theorem cw_X4_lotteryNumber : Cond.code yX4_lotteryNumber cX4_lotteryNumber 2 (some .int) ∈ gw_L := gw_in 1022 (by decide +kernel) rfl
theorem cb_L_229 : gw_cv RL 229 yX4_lotteryNumber cX4_lotteryNumber 2 (some .int) 1 := ⟨⟨cw_X4_lotteryNumber, ii_X4, by decide, by decide +kernel, gw_in 1019 (by decide +kernel) rfl⟩, gw_in 1020 (by decide +kernel) rfl, gw_in 1021 (by decide +kernel) rfl⟩
theorem cw_X4_putUp : Cond.code yX4_putUp cX4_putUp 4 (some .int) ∈ gw_L := gw_in 1026 (by decide +kernel) rfl
theorem cb_L_232 : gw_cv RL 232 yX4_putUp cX4_putUp 4 (some .int) 2 := ⟨⟨cw_X4_putUp, ii_X4, by decide, by decide +kernel, gw_in 1023 (by decide +kernel) rfl⟩, gw_in 1024 (by decide +kernel) rfl, gw_in 1025 (by decide +kernel) rfl⟩
theorem cw_X4_withdraw : Cond.code yX4_withdraw cX4_withdraw 3 (some .int) ∈ gw_L := gw_in 1030 (by decide +kernel) rfl
theorem cb_L_235 : gw_cv RL 235 yX4_withdraw cX4_withdraw 3 (some .int) 1 := ⟨⟨cw_X4_withdraw, ii_X4, by decide, by decide +kernel, gw_in 1027 (by decide +kernel) rfl⟩, gw_in 1028 (by decide +kernel) rfl, gw_in 1029 (by decide +kernel) rfl⟩
theorem cw_X4_placeUp : Cond.code yX4_placeUp cX4_placeUp 2 (some .int) ∈ gw_L := gw_in 1034 (by decide +kernel) rfl
theorem cb_L_238 : gw_cv RL 238 yX4_placeUp cX4_placeUp 2 (some .int) 1 := ⟨⟨cw_X4_placeUp, ii_X4, by decide, by decide +kernel, gw_in 1031 (by decide +kernel) rfl⟩, gw_in 1032 (by decide +kernel) rfl, gw_in 1033 (by decide +kernel) rfl⟩
theorem cw_X4_pointsTo : Cond.code yX4_pointsTo cX4_pointsTo 2 (some .int) ∈ gw_L := gw_in 1038 (by decide +kernel) rfl
theorem cb_L_241 : gw_cv RL 241 yX4_pointsTo cX4_pointsTo 2 (some .int) 1 := ⟨⟨cw_X4_pointsTo, ii_X4, by decide, by decide +kernel, gw_in 1035 (by decide +kernel) rfl⟩, gw_in 1036 (by decide +kernel) rfl, gw_in 1037 (by decide +kernel) rfl⟩
theorem cw_X3_runExchange : Cond.code yX3_runExchange cX3_runExchange 4 (some .int) ∈ gw_L := gw_in 202 (by decide +kernel) rfl
theorem cb_L_242 : gw_cv RL 242 yX3_runExchange cX3_runExchange 4 (some .int) 0 := ⟨⟨cw_X3_runExchange, ii_X3, by decide, by decide +kernel, gw_in 199 (by decide +kernel) rfl⟩, gw_in 200 (by decide +kernel) rfl, gw_in 201 (by decide +kernel) rfl⟩
theorem cw_X4_runExchange : Cond.code yX4_runExchange cX4_runExchange 4 (some .int) ∈ gw_L := gw_in 1050 (by decide +kernel) rfl
theorem cb_L_245 : gw_cv RL 245 yX4_runExchange cX4_runExchange 4 (some .int) 0 := ⟨⟨cw_X4_runExchange, ii_X4, by decide, by decide +kernel, gw_in 1047 (by decide +kernel) rfl⟩, gw_in 1048 (by decide +kernel) rfl, gw_in 1049 (by decide +kernel) rfl⟩
theorem cl_L_13 : Cond.classLink RL 13 "java/lang/IllegalArgumentException" ∈ gw_L := gw_in 390 (by decide +kernel) rfl
theorem cl_L_15 : Cond.classLink RL 15 "java/lang/IllegalStateException" ∈ gw_L := gw_in 391 (by decide +kernel) rfl
theorem cl_L_21 : Cond.classLink RL 21 "java/lang/IndexOutOfBoundsException" ∈ gw_L := gw_in 435 (by decide +kernel) rfl
theorem ca_IA : Cond.castable "java/lang/IllegalArgumentException" "java/lang/IllegalArgumentException" ∈ gw_L := gw_in 402 (by decide +kernel) rfl
theorem ca_IS : Cond.castable "java/lang/IllegalStateException" "java/lang/IllegalStateException" ∈ gw_L := gw_in 418 (by decide +kernel) rfl
theorem ca_IO : Cond.castable "java/lang/IndexOutOfBoundsException" "java/lang/IndexOutOfBoundsException" ∈ gw_L := gw_in 235 (by decide +kernel) rfl
theorem ii_L : Cond.initialized RL ∈ gw_L := gw_in 52 (by decide +kernel) rfl
theorem cw_L_122 : gw_cw RL 122 yL_addCourse cL_addCourse 6 (some .int) [(0, 12, 15, 13), (0, 12, 19, 15)] 5 := ⟨gw_in 389 (by decide +kernel) rfl, ii_L, by decide, by decide +kernel, gw_in 387 (by decide +kernel) rfl, gw_in 388 (by decide +kernel) rfl⟩
theorem cw_L_132 : gw_cw RL 132 yL_setSeats cL_setSeats 5 (some .int) [(0, 10, 13, 21), (0, 10, 17, 13), (0, 10, 21, 15)] 4 := ⟨gw_in 434 (by decide +kernel) rfl, ii_L, by decide, by decide +kernel, gw_in 432 (by decide +kernel) rfl, gw_in 433 (by decide +kernel) rfl⟩
theorem cw_L_136 : gw_cw RL 136 yL_addPrerequisite cL_addPrerequisite 5 (some .int) [(0, 10, 13, 21), (0, 10, 17, 15)] 4 := ⟨gw_in 444 (by decide +kernel) rfl, ii_L, by decide, by decide +kernel, gw_in 442 (by decide +kernel) rfl, gw_in 443 (by decide +kernel) rfl⟩
theorem cw_L_139 : gw_cw RL 139 yL_requires cL_requires 5 (some .int) [(0, 17, 20, 21)] 4 := ⟨gw_in 462 (by decide +kernel) rfl, ii_L, by decide, by decide +kernel, gw_in 460 (by decide +kernel) rfl, gw_in 461 (by decide +kernel) rfl⟩
theorem cw_L_142 : gw_cw RL 142 yL_level cL_level 4 (some .int) [(0, 9, 12, 21)] 3 := ⟨gw_in 469 (by decide +kernel) rfl, ii_L, by decide, by decide +kernel, gw_in 467 (by decide +kernel) rfl, gw_in 468 (by decide +kernel) rfl⟩
theorem cw_L_150 : gw_cw RL 150 yL_enrolled cL_enrolled 4 (some .int) [(0, 9, 12, 21)] 3 := ⟨gw_in 484 (by decide +kernel) rfl, ii_L, by decide, by decide +kernel, gw_in 482 (by decide +kernel) rfl, gw_in 483 (by decide +kernel) rfl⟩
theorem cw_L_153 : gw_cw RL 153 yL_freeSeats cL_freeSeats 4 (some .int) [(0, 9, 12, 21)] 3 := ⟨gw_in 491 (by decide +kernel) rfl, ii_L, by decide, by decide +kernel, gw_in 489 (by decide +kernel) rfl, gw_in 490 (by decide +kernel) rfl⟩
theorem cw_L_156 : gw_cw RL 156 yL_addStudent cL_addStudent 5 (some .int) [(0, 10, 13, 13), (0, 10, 17, 15)] 4 := ⟨gw_in 498 (by decide +kernel) rfl, ii_L, by decide, by decide +kernel, gw_in 496 (by decide +kernel) rfl, gw_in 497 (by decide +kernel) rfl⟩
theorem cw_L_159 : gw_cw RL 159 yL_pass cL_pass 5 (some .int) [(0, 10, 13, 21), (0, 10, 17, 15)] 4 := ⟨gw_in 507 (by decide +kernel) rfl, ii_L, by decide, by decide +kernel, gw_in 505 (by decide +kernel) rfl, gw_in 506 (by decide +kernel) rfl⟩
theorem cw_L_166 : gw_cw RL 166 yL_hasPassed cL_hasPassed 5 (some .int) [(0, 17, 20, 21)] 4 := ⟨gw_in 515 (by decide +kernel) rfl, ii_L, by decide, by decide +kernel, gw_in 513 (by decide +kernel) rfl, gw_in 514 (by decide +kernel) rfl⟩
theorem cw_L_169 : gw_cw RL 169 yL_isEnrolled cL_isEnrolled 5 (some .int) [(0, 17, 20, 21)] 4 := ⟨gw_in 522 (by decide +kernel) rfl, ii_L, by decide, by decide +kernel, gw_in 520 (by decide +kernel) rfl, gw_in 521 (by decide +kernel) rfl⟩
theorem cw_L_172 : gw_cw RL 172 yL_credits cL_credits 4 (some .int) [(0, 9, 12, 21)] 3 := ⟨gw_in 529 (by decide +kernel) rfl, ii_L, by decide, by decide +kernel, gw_in 527 (by decide +kernel) rfl, gw_in 528 (by decide +kernel) rfl⟩
theorem cw_L_175 : gw_cw RL 175 yL_missing cL_missing 5 (some .int) [(0, 10, 13, 21)] 4 := ⟨gw_in 536 (by decide +kernel) rfl, ii_L, by decide, by decide +kernel, gw_in 534 (by decide +kernel) rfl, gw_in 535 (by decide +kernel) rfl⟩
theorem cw_L_178 : gw_cw RL 178 yL_obstacle cL_obstacle 5 (some .int) [(0, 10, 13, 21)] 4 := ⟨gw_in 543 (by decide +kernel) rfl, ii_L, by decide, by decide +kernel, gw_in 541 (by decide +kernel) rfl, gw_in 542 (by decide +kernel) rfl⟩
theorem cw_L_181 : gw_cw RL 181 yL_wish cL_wish 5 (some .int) [(0, 10, 13, 21), (0, 10, 17, 15)] 4 := ⟨gw_in 550 (by decide +kernel) rfl, ii_L, by decide, by decide +kernel, gw_in 548 (by decide +kernel) rfl, gw_in 549 (by decide +kernel) rfl⟩
theorem cw_L_184 : gw_cw RL 184 yL_dropWish cL_dropWish 5 (some .int) [(0, 10, 13, 21), (0, 10, 17, 15)] 4 := ⟨gw_in 564 (by decide +kernel) rfl, ii_L, by decide, by decide +kernel, gw_in 562 (by decide +kernel) rfl, gw_in 563 (by decide +kernel) rfl⟩
theorem cw_L_187 : gw_cw RL 187 yL_wishes cL_wishes 4 (some .int) [(0, 9, 12, 21)] 3 := ⟨gw_in 572 (by decide +kernel) rfl, ii_L, by decide, by decide +kernel, gw_in 570 (by decide +kernel) rfl, gw_in 571 (by decide +kernel) rfl⟩
theorem cw_L_190 : gw_cw RL 190 yL_wishAt cL_wishAt 5 (some .int) [(0, 10, 13, 21)] 4 := ⟨gw_in 579 (by decide +kernel) rfl, ii_L, by decide, by decide +kernel, gw_in 577 (by decide +kernel) rfl, gw_in 578 (by decide +kernel) rfl⟩
theorem cw_L_193 : gw_cw RL 193 yL_request cL_request 5 (some .int) [(0, 10, 13, 21), (0, 10, 17, 15)] 4 := ⟨gw_in 590 (by decide +kernel) rfl, ii_L, by decide, by decide +kernel, gw_in 588 (by decide +kernel) rfl, gw_in 589 (by decide +kernel) rfl⟩
theorem cw_L_196 : gw_cw RL 196 yL_drop cL_drop 5 (some .int) [(0, 10, 13, 21), (0, 10, 17, 15)] 4 := ⟨gw_in 599 (by decide +kernel) rfl, ii_L, by decide, by decide +kernel, gw_in 597 (by decide +kernel) rfl, gw_in 598 (by decide +kernel) rfl⟩
theorem cw_L_199 : gw_cw RL 199 yL_change cL_change 6 (some .int) [(0, 12, 15, 21), (0, 12, 19, 15)] 5 := ⟨gw_in 607 (by decide +kernel) rfl, ii_L, by decide, by decide +kernel, gw_in 605 (by decide +kernel) rfl, gw_in 606 (by decide +kernel) rfl⟩
theorem cw_L_202 : gw_cw RL 202 yL_accept cL_accept 5 (some .int) [(0, 10, 13, 21), (0, 10, 17, 15)] 4 := ⟨gw_in 616 (by decide +kernel) rfl, ii_L, by decide, by decide +kernel, gw_in 614 (by decide +kernel) rfl, gw_in 615 (by decide +kernel) rfl⟩
theorem cw_L_205 : gw_cw RL 205 yL_leave cL_leave 5 (some .int) [(0, 17, 20, 21), (0, 17, 24, 15)] 4 := ⟨gw_in 624 (by decide +kernel) rfl, ii_L, by decide, by decide +kernel, gw_in 622 (by decide +kernel) rfl, gw_in 623 (by decide +kernel) rfl⟩
theorem cw_L_208 : gw_cw RL 208 yL_advance cL_advance 4 (some .int) [(0, 9, 12, 13)] 3 := ⟨gw_in 632 (by decide +kernel) rfl, ii_L, by decide, by decide +kernel, gw_in 630 (by decide +kernel) rfl, gw_in 631 (by decide +kernel) rfl⟩
theorem cw_L_215 : gw_cw RL 215 yL_waiting cL_waiting 4 (some .int) [(0, 9, 12, 21)] 3 := ⟨gw_in 648 (by decide +kernel) rfl, ii_L, by decide, by decide +kernel, gw_in 646 (by decide +kernel) rfl, gw_in 647 (by decide +kernel) rfl⟩
theorem cw_L_218 : gw_cw RL 218 yL_waitingAt cL_waitingAt 5 (some .int) [(0, 10, 13, 21)] 4 := ⟨gw_in 655 (by decide +kernel) rfl, ii_L, by decide, by decide +kernel, gw_in 653 (by decide +kernel) rfl, gw_in 654 (by decide +kernel) rfl⟩
theorem cw_L_221 : gw_cw RL 221 yL_offerDays cL_offerDays 5 (some .int) [(0, 10, 13, 21)] 4 := ⟨gw_in 662 (by decide +kernel) rfl, ii_L, by decide, by decide +kernel, gw_in 660 (by decide +kernel) rfl, gw_in 661 (by decide +kernel) rfl⟩
theorem cw_L_224 : gw_cw RL 224 yL_runLottery cL_runLottery 4 (some .int) [(0, 9, 12, 13)] 3 := ⟨gw_in 669 (by decide +kernel) rfl, ii_L, by decide, by decide +kernel, gw_in 667 (by decide +kernel) rfl, gw_in 668 (by decide +kernel) rfl⟩
theorem cw_L_227 : gw_cw RL 227 yL_lotteryNumber cL_lotteryNumber 4 (some .int) [(0, 9, 12, 21)] 3 := ⟨gw_in 697 (by decide +kernel) rfl, ii_L, by decide, by decide +kernel, gw_in 695 (by decide +kernel) rfl, gw_in 696 (by decide +kernel) rfl⟩
theorem cw_L_230 : gw_cw RL 230 yL_putUp cL_putUp 5 (some .int) [(0, 10, 13, 21), (0, 10, 17, 15)] 4 := ⟨gw_in 704 (by decide +kernel) rfl, ii_L, by decide, by decide +kernel, gw_in 702 (by decide +kernel) rfl, gw_in 703 (by decide +kernel) rfl⟩
theorem cw_L_233 : gw_cw RL 233 yL_withdraw cL_withdraw 4 (some .int) [(0, 9, 12, 21)] 3 := ⟨gw_in 711 (by decide +kernel) rfl, ii_L, by decide, by decide +kernel, gw_in 709 (by decide +kernel) rfl, gw_in 710 (by decide +kernel) rfl⟩
theorem cw_L_236 : gw_cw RL 236 yL_placeUp cL_placeUp 4 (some .int) [(0, 9, 12, 21)] 3 := ⟨gw_in 718 (by decide +kernel) rfl, ii_L, by decide, by decide +kernel, gw_in 716 (by decide +kernel) rfl, gw_in 717 (by decide +kernel) rfl⟩
theorem cw_L_239 : gw_cw RL 239 yL_pointsTo cL_pointsTo 4 (some .int) [(0, 9, 12, 21), (0, 9, 15, 15)] 3 := ⟨gw_in 725 (by decide +kernel) rfl, ii_L, by decide, by decide +kernel, gw_in 723 (by decide +kernel) rfl, gw_in 724 (by decide +kernel) rfl⟩
abbrev gr_L_addCourse : Room := { frames := 7, cells := 1, slots := 6, locals := 106 }
set_option maxRecDepth 100000 in
set_option maxHeartbeats 4000000 in
theorem w_addCourse (l : Launch) (Γ : gw_G) (τ μ : gw_S) (o : Nat → Int64) (a1 : Int32) (a2 : Int32) (a3 : Int32) (r : (Int32 ⊕ String) × gw_S) (hf : f_X3_addCourse τ a1 a2 a3 = some r) (he : ∀ e, r.1 = .inr e → e = "java/lang/IllegalArgumentException" ∨ e = "java/lang/IllegalStateException") : gw_M l yL_addCourse [.codeWith yL_addCourse cL_addCourse 6 (some .int) [(0, 12, 15, 13), (0, 12, 19, 15)]] gr_L_addCourse 1 6 Γ [.ref (gw_a Γ 0), .int a1, .int a2, .int a3, .ref (gw_a Γ 151)] (gw_W Γ τ μ o) (gw_qi Γ (lw_k ["java/lang/IllegalArgumentException", "java/lang/IllegalStateException"] r.1) (gw_W Γ r.2 μ (lw_o r.1 o))) := by
  refine gw_enterW (by decide) (Nat.le_of_ble_eq_true rfl) (fun K C E ht => ?_)
  refine gj_aload C 4 dL_addCourse_0 rfl ?_
  refine gj_iconst (v := 0) C dL_addCourse_2 (by decide) ?_
  refine gj_aload_n C 0 dL_addCourse_3 rfl ?_
  refine gj_iload_n C 1 dL_addCourse_4 rfl ?_
  refine gj_iload_n C 2 dL_addCourse_5 rfl ?_
  refine gj_iload_n C 3 dL_addCourse_6 rfl ?_
  refine gj_cVI (As := [.int a1, .int a2, .int a3]) (rest := [.int 0, .ref (gw_a Γ 151)]) C cb_L_7 (s_X3_addCourse (gw_l K) Γ τ μ o a1 a2 a3 r hf) rfl (Nat.le_of_ble_eq_true rfl) gw_atM rfl rfl dL_addCourse_7 (gw_rmk rfl) rfl (fun e h => ?_) (fun v h => ?_)
  · have hE := he e h
    obtain ⟨r1, r2⟩ := r
    dsimp only at h E hE
    subst h
    rcases hE with rfl | rfl
    · refine gj_catch C [] ⟨0, 12, 15, 13⟩ [⟨0, 12, 19, 15⟩] ht (fun q hq => absurd hq List.not_mem_nil) gw_gX.1 (by decide) (by decide) cl_L_13 (name := "java/lang/IllegalArgumentException") ca_IA (fun q => ?_)
      refine gj_astore C 5 [(5, .ref q), (0, .ref (gw_a Γ 0)), (1, .int a1), (2, .int a2), (3, .int a3), (4, .ref (gw_a Γ 151))] dL_addCourse_15 (by decide) rfl ?_
      refine gj_iconst (v := 1) C dL_addCourse_17 (by decide) ?_
      rw [show lw_k ["java/lang/IllegalArgumentException", "java/lang/IllegalStateException"] (.inr "java/lang/IllegalArgumentException") = 1 from by decide +kernel] at E
      exact gj_iret C E dL_addCourse_18 (Nat.le_of_ble_eq_true rfl) (Nat.le_of_ble_eq_true rfl)
    · refine gj_catch C [⟨0, 12, 15, 13⟩] ⟨0, 12, 19, 15⟩ [] ht (fun q hq => by
        rcases List.mem_cons.mp hq with rfl | hq; · exact ⟨by decide, "java/lang/IllegalArgumentException", cl_L_13, by decide, gw_gX.1⟩
        exact absurd hq List.not_mem_nil) gw_gX.2.1 (by decide) (by decide) cl_L_15 (name := "java/lang/IllegalStateException") ca_IS (fun q => ?_)
      refine gj_astore C 5 [(5, .ref q), (0, .ref (gw_a Γ 0)), (1, .int a1), (2, .int a2), (3, .int a3), (4, .ref (gw_a Γ 151))] dL_addCourse_19 (by decide) rfl ?_
      refine gj_iconst (v := 2) C dL_addCourse_21 (by decide) ?_
      rw [show lw_k ["java/lang/IllegalArgumentException", "java/lang/IllegalStateException"] (.inr "java/lang/IllegalStateException") = 2 from by decide +kernel] at E
      exact gj_iret C E dL_addCourse_22 (Nat.le_of_ble_eq_true rfl) (Nat.le_of_ble_eq_true rfl)
  · skip
    obtain ⟨r1, r2⟩ := r
    dsimp only at h E
    subst h
    refine gj_i2l C dL_addCourse_10 ?_
    refine gj_last C (vp_in_nI (n := 0) (N := 1) (by decide) (by decide)) dL_addCourse_11 ?_
    refine gj_goto C 23 dL_addCourse_12 (by decide) ?_
    refine gj_iconst (v := 0) C dL_addCourse_23 (by decide) ?_
    exact gj_iret C E dL_addCourse_24 (Nat.le_of_ble_eq_true rfl) (Nat.le_of_ble_eq_true rfl)
abbrev gr_L_setSeats : Room := { frames := 8, cells := 2, slots := 12, locals := 155 }
set_option maxRecDepth 100000 in
set_option maxHeartbeats 4000000 in
theorem w_setSeats (l : Launch) (Γ : gw_G) (τ μ : gw_S) (o : Nat → Int64) (a1 : Int32) (a2 : Int32) (r : (Int32 ⊕ String) × gw_S) (hf : f_X3_setSeats τ a1 a2 = some r) (he : ∀ e, r.1 = .inr e → e = "java/lang/IndexOutOfBoundsException" ∨ e = "java/lang/IllegalArgumentException" ∨ e = "java/lang/IllegalStateException") : gw_M l yL_setSeats [.codeWith yL_setSeats cL_setSeats 5 (some .int) [(0, 10, 13, 21), (0, 10, 17, 13), (0, 10, 21, 15)]] gr_L_setSeats 2 12 Γ [.ref (gw_a Γ 0), .int a1, .int a2, .ref (gw_a Γ 151)] (gw_W Γ τ μ o) (gw_qi Γ (lw_k ["java/lang/IndexOutOfBoundsException", "java/lang/IllegalArgumentException", "java/lang/IllegalStateException"] r.1) (gw_W Γ r.2 μ (lw_o r.1 o))) := by
  refine gw_enterW (by decide) (Nat.le_of_ble_eq_true rfl) (fun K C E ht => ?_)
  refine gj_aload_n C 3 dL_setSeats_0 rfl ?_
  refine gj_iconst (v := 0) C dL_setSeats_1 (by decide) ?_
  refine gj_aload_n C 0 dL_setSeats_2 rfl ?_
  refine gj_iload_n C 1 dL_setSeats_3 rfl ?_
  refine gj_iload_n C 2 dL_setSeats_4 rfl ?_
  refine gj_cVI (As := [.int a1, .int a2]) (rest := [.int 0, .ref (gw_a Γ 151)]) C cb_L_17 (s_X3_setSeats (gw_l K) Γ τ μ o a1 a2 r hf) rfl (Nat.le_of_ble_eq_true rfl) gw_atM rfl rfl dL_setSeats_5 (gw_rmk rfl) rfl (fun e h => ?_) (fun v h => ?_)
  · have hE := he e h
    obtain ⟨r1, r2⟩ := r
    dsimp only at h E hE
    subst h
    rcases hE with rfl | rfl | rfl
    · refine gj_catch C [] ⟨0, 10, 13, 21⟩ [⟨0, 10, 17, 13⟩, ⟨0, 10, 21, 15⟩] ht (fun q hq => absurd hq List.not_mem_nil) gw_gX.2.2 (by decide) (by decide) cl_L_21 (name := "java/lang/IndexOutOfBoundsException") ca_IO (fun q => ?_)
      refine gj_astore C 4 [(4, .ref q), (0, .ref (gw_a Γ 0)), (1, .int a1), (2, .int a2), (3, .ref (gw_a Γ 151))] dL_setSeats_13 (by decide) rfl ?_
      refine gj_iconst (v := 1) C dL_setSeats_15 (by decide) ?_
      rw [show lw_k ["java/lang/IndexOutOfBoundsException", "java/lang/IllegalArgumentException", "java/lang/IllegalStateException"] (.inr "java/lang/IndexOutOfBoundsException") = 1 from by decide +kernel] at E
      exact gj_iret C E dL_setSeats_16 (Nat.le_of_ble_eq_true rfl) (Nat.le_of_ble_eq_true rfl)
    · refine gj_catch C [⟨0, 10, 13, 21⟩] ⟨0, 10, 17, 13⟩ [⟨0, 10, 21, 15⟩] ht (fun q hq => by
        rcases List.mem_cons.mp hq with rfl | hq; · exact ⟨by decide, "java/lang/IndexOutOfBoundsException", cl_L_21, by decide, gw_gX.2.2⟩
        exact absurd hq List.not_mem_nil) gw_gX.1 (by decide) (by decide) cl_L_13 (name := "java/lang/IllegalArgumentException") ca_IA (fun q => ?_)
      refine gj_astore C 4 [(4, .ref q), (0, .ref (gw_a Γ 0)), (1, .int a1), (2, .int a2), (3, .ref (gw_a Γ 151))] dL_setSeats_17 (by decide) rfl ?_
      refine gj_iconst (v := 2) C dL_setSeats_19 (by decide) ?_
      rw [show lw_k ["java/lang/IndexOutOfBoundsException", "java/lang/IllegalArgumentException", "java/lang/IllegalStateException"] (.inr "java/lang/IllegalArgumentException") = 2 from by decide +kernel] at E
      exact gj_iret C E dL_setSeats_20 (Nat.le_of_ble_eq_true rfl) (Nat.le_of_ble_eq_true rfl)
    · refine gj_catch C [⟨0, 10, 13, 21⟩, ⟨0, 10, 17, 13⟩] ⟨0, 10, 21, 15⟩ [] ht (fun q hq => by
        rcases List.mem_cons.mp hq with rfl | hq; · exact ⟨by decide, "java/lang/IndexOutOfBoundsException", cl_L_21, by decide, gw_gX.2.2⟩
        rcases List.mem_cons.mp hq with rfl | hq; · exact ⟨by decide, "java/lang/IllegalArgumentException", cl_L_13, by decide, gw_gX.1⟩
        exact absurd hq List.not_mem_nil) gw_gX.2.1 (by decide) (by decide) cl_L_15 (name := "java/lang/IllegalStateException") ca_IS (fun q => ?_)
      refine gj_astore C 4 [(4, .ref q), (0, .ref (gw_a Γ 0)), (1, .int a1), (2, .int a2), (3, .ref (gw_a Γ 151))] dL_setSeats_21 (by decide) rfl ?_
      refine gj_iconst (v := 3) C dL_setSeats_23 (by decide) ?_
      rw [show lw_k ["java/lang/IndexOutOfBoundsException", "java/lang/IllegalArgumentException", "java/lang/IllegalStateException"] (.inr "java/lang/IllegalStateException") = 3 from by decide +kernel] at E
      exact gj_iret C E dL_setSeats_24 (Nat.le_of_ble_eq_true rfl) (Nat.le_of_ble_eq_true rfl)
  · skip
    obtain ⟨r1, r2⟩ := r
    dsimp only at h E
    subst h
    refine gj_i2l C dL_setSeats_8 ?_
    refine gj_last C (vp_in_nI (n := 0) (N := 1) (by decide) (by decide)) dL_setSeats_9 ?_
    refine gj_goto C 25 dL_setSeats_10 (by decide) ?_
    refine gj_iconst (v := 0) C dL_setSeats_25 (by decide) ?_
    exact gj_iret C E dL_setSeats_26 (Nat.le_of_ble_eq_true rfl) (Nat.le_of_ble_eq_true rfl)
abbrev gr_L_addPrerequisite : Room := { frames := 8, cells := 3, slots := 18, locals := 127 }
set_option maxRecDepth 100000 in
set_option maxHeartbeats 4000000 in
theorem w_addPrerequisite (l : Launch) (Γ : gw_G) (τ μ : gw_S) (o : Nat → Int64) (a1 : Int32) (a2 : Int32) (r : (Int32 ⊕ String) × gw_S) (hf : f_X3_addPrerequisite τ a1 a2 = some r) (he : ∀ e, r.1 = .inr e → e = "java/lang/IndexOutOfBoundsException" ∨ e = "java/lang/IllegalStateException") : gw_M l yL_addPrerequisite [.codeWith yL_addPrerequisite cL_addPrerequisite 5 (some .int) [(0, 10, 13, 21), (0, 10, 17, 15)]] gr_L_addPrerequisite 3 18 Γ [.ref (gw_a Γ 0), .int a1, .int a2, .ref (gw_a Γ 151)] (gw_W Γ τ μ o) (gw_qi Γ (lw_k ["java/lang/IndexOutOfBoundsException", "java/lang/IllegalStateException"] r.1) (gw_W Γ r.2 μ (lw_o r.1 o))) := by
  refine gw_enterW (by decide) (Nat.le_of_ble_eq_true rfl) (fun K C E ht => ?_)
  refine gj_aload_n C 3 dL_addPrerequisite_0 rfl ?_
  refine gj_iconst (v := 0) C dL_addPrerequisite_1 (by decide) ?_
  refine gj_aload_n C 0 dL_addPrerequisite_2 rfl ?_
  refine gj_iload_n C 1 dL_addPrerequisite_3 rfl ?_
  refine gj_iload_n C 2 dL_addPrerequisite_4 rfl ?_
  refine gj_cVI (As := [.int a1, .int a2]) (rest := [.int 0, .ref (gw_a Γ 151)]) C cb_L_23 (s_X3_addPrerequisite (gw_l K) Γ τ μ o a1 a2 r hf) rfl (Nat.le_of_ble_eq_true rfl) gw_atM rfl rfl dL_addPrerequisite_5 (gw_rmk rfl) rfl (fun e h => ?_) (fun v h => ?_)
  · have hE := he e h
    obtain ⟨r1, r2⟩ := r
    dsimp only at h E hE
    subst h
    rcases hE with rfl | rfl
    · refine gj_catch C [] ⟨0, 10, 13, 21⟩ [⟨0, 10, 17, 15⟩] ht (fun q hq => absurd hq List.not_mem_nil) gw_gX.2.2 (by decide) (by decide) cl_L_21 (name := "java/lang/IndexOutOfBoundsException") ca_IO (fun q => ?_)
      refine gj_astore C 4 [(4, .ref q), (0, .ref (gw_a Γ 0)), (1, .int a1), (2, .int a2), (3, .ref (gw_a Γ 151))] dL_addPrerequisite_13 (by decide) rfl ?_
      refine gj_iconst (v := 1) C dL_addPrerequisite_15 (by decide) ?_
      rw [show lw_k ["java/lang/IndexOutOfBoundsException", "java/lang/IllegalStateException"] (.inr "java/lang/IndexOutOfBoundsException") = 1 from by decide +kernel] at E
      exact gj_iret C E dL_addPrerequisite_16 (Nat.le_of_ble_eq_true rfl) (Nat.le_of_ble_eq_true rfl)
    · refine gj_catch C [⟨0, 10, 13, 21⟩] ⟨0, 10, 17, 15⟩ [] ht (fun q hq => by
        rcases List.mem_cons.mp hq with rfl | hq; · exact ⟨by decide, "java/lang/IndexOutOfBoundsException", cl_L_21, by decide, gw_gX.2.2⟩
        exact absurd hq List.not_mem_nil) gw_gX.2.1 (by decide) (by decide) cl_L_15 (name := "java/lang/IllegalStateException") ca_IS (fun q => ?_)
      refine gj_astore C 4 [(4, .ref q), (0, .ref (gw_a Γ 0)), (1, .int a1), (2, .int a2), (3, .ref (gw_a Γ 151))] dL_addPrerequisite_17 (by decide) rfl ?_
      refine gj_iconst (v := 2) C dL_addPrerequisite_19 (by decide) ?_
      rw [show lw_k ["java/lang/IndexOutOfBoundsException", "java/lang/IllegalStateException"] (.inr "java/lang/IllegalStateException") = 2 from by decide +kernel] at E
      exact gj_iret C E dL_addPrerequisite_20 (Nat.le_of_ble_eq_true rfl) (Nat.le_of_ble_eq_true rfl)
  · skip
    obtain ⟨r1, r2⟩ := r
    dsimp only at h E
    subst h
    refine gj_i2l C dL_addPrerequisite_8 ?_
    refine gj_last C (vp_in_nI (n := 0) (N := 1) (by decide) (by decide)) dL_addPrerequisite_9 ?_
    refine gj_goto C 21 dL_addPrerequisite_10 (by decide) ?_
    refine gj_iconst (v := 0) C dL_addPrerequisite_21 (by decide) ?_
    exact gj_iret C E dL_addPrerequisite_22 (Nat.le_of_ble_eq_true rfl) (Nat.le_of_ble_eq_true rfl)
abbrev gr_L_requires : Room := { frames := 8, cells := 2, slots := 12, locals := 127 }
set_option maxRecDepth 100000 in
set_option maxHeartbeats 4000000 in
theorem w_requires (l : Launch) (Γ : gw_G) (τ μ : gw_S) (o : Nat → Int64) (a1 : Int32) (a2 : Int32) (r : (Int32 ⊕ String)) (hf : f_X3_requires τ a1 a2 = some r) (he : ∀ e, r = .inr e → e = "java/lang/IndexOutOfBoundsException") : gw_M l yL_requires [.codeWith yL_requires cL_requires 5 (some .int) [(0, 17, 20, 21)]] gr_L_requires 2 12 Γ [.ref (gw_a Γ 0), .int a1, .int a2, .ref (gw_a Γ 151)] (gw_W Γ τ μ o) (gw_qi Γ (lw_k ["java/lang/IndexOutOfBoundsException"] r) (gw_W Γ τ μ (lw_oz r o))) := by
  refine gw_enterW (by decide) (Nat.le_of_ble_eq_true rfl) (fun K C E ht => ?_)
  refine gj_aload_n C 3 dL_requires_0 rfl ?_
  refine gj_iconst (v := 0) C dL_requires_1 (by decide) ?_
  refine gj_aload_n C 0 dL_requires_2 rfl ?_
  refine gj_iload_n C 1 dL_requires_3 rfl ?_
  refine gj_iload_n C 2 dL_requires_4 rfl ?_
  refine gj_cVI (As := [.int a1, .int a2]) (rest := [.int 0, .ref (gw_a Γ 151)]) C cb_L_26 (s_X3_requires (gw_l K) Γ τ μ o a1 a2 r hf) rfl (Nat.le_of_ble_eq_true rfl) gw_atM rfl rfl dL_requires_5 (gw_rmk rfl) rfl (fun e h => ?_) (fun v h => ?_)
  · have hE := he e h
    subst h
    rcases hE with rfl
    · refine gj_catch C [] ⟨0, 17, 20, 21⟩ [] ht (fun q hq => absurd hq List.not_mem_nil) gw_gX.2.2 (by decide) (by decide) cl_L_21 (name := "java/lang/IndexOutOfBoundsException") ca_IO (fun q => ?_)
      refine gj_astore C 4 [(4, .ref q), (0, .ref (gw_a Γ 0)), (1, .int a1), (2, .int a2), (3, .ref (gw_a Γ 151))] dL_requires_20 (by decide) rfl ?_
      refine gj_iconst (v := 1) C dL_requires_22 (by decide) ?_
      rw [show lw_k ["java/lang/IndexOutOfBoundsException"] (.inr "java/lang/IndexOutOfBoundsException") = 1 from by decide +kernel] at E
      exact gj_iret C E dL_requires_23 (Nat.le_of_ble_eq_true rfl) (Nat.le_of_ble_eq_true rfl)
  · skip
    subst h
    refine gj_if_eq C 15 dL_requires_8 (by decide) (fun c => ?_) (fun c => ?_)
    · refine gj_lconst (v := 0) C dL_requires_15 (by decide) ?_
      refine gj_last C (vp_in_nI (n := 0) (N := 1) (by decide) (by decide)) dL_requires_16 ?_
      refine gj_goto C 24 dL_requires_17 (by decide) ?_
      refine gj_iconst (v := 0) C dL_requires_24 (by decide) ?_
      rw [show lw_oz (.inl v) o = vp_updL o 0 0 from by show vp_updL o 0 (if v = 0 then 0 else 1) = _; rw [if_pos c]] at E
      exact gj_iret C E dL_requires_25 (Nat.le_of_ble_eq_true rfl) (Nat.le_of_ble_eq_true rfl)
    · refine gj_lconst (v := 1) C dL_requires_11 (by decide) ?_
      refine gj_goto C 16 dL_requires_12 (by decide) ?_
      refine gj_last C (vp_in_nI (n := 0) (N := 1) (by decide) (by decide)) dL_requires_16 ?_
      refine gj_goto C 24 dL_requires_17 (by decide) ?_
      refine gj_iconst (v := 0) C dL_requires_24 (by decide) ?_
      rw [show lw_oz (.inl v) o = vp_updL o 0 1 from by show vp_updL o 0 (if v = 0 then 0 else 1) = _; rw [if_neg c]] at E
      exact gj_iret C E dL_requires_25 (Nat.le_of_ble_eq_true rfl) (Nat.le_of_ble_eq_true rfl)
abbrev gr_L_level : Room := { frames := 8, cells := 1, slots := 6, locals := 124 }
set_option maxRecDepth 100000 in
set_option maxHeartbeats 4000000 in
theorem w_level (l : Launch) (Γ : gw_G) (τ μ : gw_S) (o : Nat → Int64) (a1 : Int32) (r : (Int32 ⊕ String)) (hf : f_X3_level τ a1 = some r) (he : ∀ e, r = .inr e → e = "java/lang/IndexOutOfBoundsException") : gw_M l yL_level [.codeWith yL_level cL_level 4 (some .int) [(0, 9, 12, 21)]] gr_L_level 1 6 Γ [.ref (gw_a Γ 0), .int a1, .ref (gw_a Γ 151)] (gw_W Γ τ μ o) (gw_qi Γ (lw_k ["java/lang/IndexOutOfBoundsException"] r) (gw_W Γ τ μ (lw_o r o))) := by
  refine gw_enterW (by decide) (Nat.le_of_ble_eq_true rfl) (fun K C E ht => ?_)
  refine gj_aload_n C 2 dL_level_0 rfl ?_
  refine gj_iconst (v := 0) C dL_level_1 (by decide) ?_
  refine gj_aload_n C 0 dL_level_2 rfl ?_
  refine gj_iload_n C 1 dL_level_3 rfl ?_
  refine gj_cVI (As := [.int a1]) (rest := [.int 0, .ref (gw_a Γ 151)]) C cb_L_30 (s_X3_level (gw_l K) Γ τ μ o a1 r hf) rfl (Nat.le_of_ble_eq_true rfl) gw_atM rfl rfl dL_level_4 (gw_rmk rfl) rfl (fun e h => ?_) (fun v h => ?_)
  · have hE := he e h
    subst h
    rcases hE with rfl
    · refine gj_catch C [] ⟨0, 9, 12, 21⟩ [] ht (fun q hq => absurd hq List.not_mem_nil) gw_gX.2.2 (by decide) (by decide) cl_L_21 (name := "java/lang/IndexOutOfBoundsException") ca_IO (fun q => ?_)
      refine gj_astore_n C 3 [(3, .ref q), (0, .ref (gw_a Γ 0)), (1, .int a1), (2, .ref (gw_a Γ 151))] dL_level_12 rfl (by decide) rfl ?_
      refine gj_iconst (v := 1) C dL_level_13 (by decide) ?_
      rw [show lw_k ["java/lang/IndexOutOfBoundsException"] (.inr "java/lang/IndexOutOfBoundsException") = 1 from by decide +kernel] at E
      exact gj_iret C E dL_level_14 (Nat.le_of_ble_eq_true rfl) (Nat.le_of_ble_eq_true rfl)
  · skip
    subst h
    refine gj_i2l C dL_level_7 ?_
    refine gj_last C (vp_in_nI (n := 0) (N := 1) (by decide) (by decide)) dL_level_8 ?_
    refine gj_goto C 15 dL_level_9 (by decide) ?_
    refine gj_iconst (v := 0) C dL_level_15 (by decide) ?_
    exact gj_iret C E dL_level_16 (Nat.le_of_ble_eq_true rfl) (Nat.le_of_ble_eq_true rfl)
abbrev gr_L_enrolled : Room := { frames := 8, cells := 1, slots := 6, locals := 124 }
set_option maxRecDepth 100000 in
set_option maxHeartbeats 4000000 in
theorem w_enrolled (l : Launch) (Γ : gw_G) (τ μ : gw_S) (o : Nat → Int64) (a1 : Int32) (r : (Int32 ⊕ String)) (hf : f_X3_enrolled τ a1 = some r) (he : ∀ e, r = .inr e → e = "java/lang/IndexOutOfBoundsException") : gw_M l yL_enrolled [.codeWith yL_enrolled cL_enrolled 4 (some .int) [(0, 9, 12, 21)]] gr_L_enrolled 1 6 Γ [.ref (gw_a Γ 0), .int a1, .ref (gw_a Γ 151)] (gw_W Γ τ μ o) (gw_qi Γ (lw_k ["java/lang/IndexOutOfBoundsException"] r) (gw_W Γ τ μ (lw_o r o))) := by
  refine gw_enterW (by decide) (Nat.le_of_ble_eq_true rfl) (fun K C E ht => ?_)
  refine gj_aload_n C 2 dL_enrolled_0 rfl ?_
  refine gj_iconst (v := 0) C dL_enrolled_1 (by decide) ?_
  refine gj_aload_n C 0 dL_enrolled_2 rfl ?_
  refine gj_iload_n C 1 dL_enrolled_3 rfl ?_
  refine gj_cVI (As := [.int a1]) (rest := [.int 0, .ref (gw_a Γ 151)]) C cb_L_34 (s_X3_enrolled (gw_l K) Γ τ μ o a1 r hf) rfl (Nat.le_of_ble_eq_true rfl) gw_atM rfl rfl dL_enrolled_4 (gw_rmk rfl) rfl (fun e h => ?_) (fun v h => ?_)
  · have hE := he e h
    subst h
    rcases hE with rfl
    · refine gj_catch C [] ⟨0, 9, 12, 21⟩ [] ht (fun q hq => absurd hq List.not_mem_nil) gw_gX.2.2 (by decide) (by decide) cl_L_21 (name := "java/lang/IndexOutOfBoundsException") ca_IO (fun q => ?_)
      refine gj_astore_n C 3 [(3, .ref q), (0, .ref (gw_a Γ 0)), (1, .int a1), (2, .ref (gw_a Γ 151))] dL_enrolled_12 rfl (by decide) rfl ?_
      refine gj_iconst (v := 1) C dL_enrolled_13 (by decide) ?_
      rw [show lw_k ["java/lang/IndexOutOfBoundsException"] (.inr "java/lang/IndexOutOfBoundsException") = 1 from by decide +kernel] at E
      exact gj_iret C E dL_enrolled_14 (Nat.le_of_ble_eq_true rfl) (Nat.le_of_ble_eq_true rfl)
  · skip
    subst h
    refine gj_i2l C dL_enrolled_7 ?_
    refine gj_last C (vp_in_nI (n := 0) (N := 1) (by decide) (by decide)) dL_enrolled_8 ?_
    refine gj_goto C 15 dL_enrolled_9 (by decide) ?_
    refine gj_iconst (v := 0) C dL_enrolled_15 (by decide) ?_
    exact gj_iret C E dL_enrolled_16 (Nat.le_of_ble_eq_true rfl) (Nat.le_of_ble_eq_true rfl)
abbrev gr_L_freeSeats : Room := { frames := 8, cells := 1, slots := 6, locals := 124 }
set_option maxRecDepth 100000 in
set_option maxHeartbeats 4000000 in
theorem w_freeSeats (l : Launch) (Γ : gw_G) (τ μ : gw_S) (o : Nat → Int64) (a1 : Int32) (r : (Int32 ⊕ String)) (hf : f_X3_freeSeats τ a1 = some r) (he : ∀ e, r = .inr e → e = "java/lang/IndexOutOfBoundsException") : gw_M l yL_freeSeats [.codeWith yL_freeSeats cL_freeSeats 4 (some .int) [(0, 9, 12, 21)]] gr_L_freeSeats 1 6 Γ [.ref (gw_a Γ 0), .int a1, .ref (gw_a Γ 151)] (gw_W Γ τ μ o) (gw_qi Γ (lw_k ["java/lang/IndexOutOfBoundsException"] r) (gw_W Γ τ μ (lw_o r o))) := by
  refine gw_enterW (by decide) (Nat.le_of_ble_eq_true rfl) (fun K C E ht => ?_)
  refine gj_aload_n C 2 dL_freeSeats_0 rfl ?_
  refine gj_iconst (v := 0) C dL_freeSeats_1 (by decide) ?_
  refine gj_aload_n C 0 dL_freeSeats_2 rfl ?_
  refine gj_iload_n C 1 dL_freeSeats_3 rfl ?_
  refine gj_cVI (As := [.int a1]) (rest := [.int 0, .ref (gw_a Γ 151)]) C cb_L_37 (s_X3_freeSeats (gw_l K) Γ τ μ o a1 r hf) rfl (Nat.le_of_ble_eq_true rfl) gw_atM rfl rfl dL_freeSeats_4 (gw_rmk rfl) rfl (fun e h => ?_) (fun v h => ?_)
  · have hE := he e h
    subst h
    rcases hE with rfl
    · refine gj_catch C [] ⟨0, 9, 12, 21⟩ [] ht (fun q hq => absurd hq List.not_mem_nil) gw_gX.2.2 (by decide) (by decide) cl_L_21 (name := "java/lang/IndexOutOfBoundsException") ca_IO (fun q => ?_)
      refine gj_astore_n C 3 [(3, .ref q), (0, .ref (gw_a Γ 0)), (1, .int a1), (2, .ref (gw_a Γ 151))] dL_freeSeats_12 rfl (by decide) rfl ?_
      refine gj_iconst (v := 1) C dL_freeSeats_13 (by decide) ?_
      rw [show lw_k ["java/lang/IndexOutOfBoundsException"] (.inr "java/lang/IndexOutOfBoundsException") = 1 from by decide +kernel] at E
      exact gj_iret C E dL_freeSeats_14 (Nat.le_of_ble_eq_true rfl) (Nat.le_of_ble_eq_true rfl)
  · skip
    subst h
    refine gj_i2l C dL_freeSeats_7 ?_
    refine gj_last C (vp_in_nI (n := 0) (N := 1) (by decide) (by decide)) dL_freeSeats_8 ?_
    refine gj_goto C 15 dL_freeSeats_9 (by decide) ?_
    refine gj_iconst (v := 0) C dL_freeSeats_15 (by decide) ?_
    exact gj_iret C E dL_freeSeats_16 (Nat.le_of_ble_eq_true rfl) (Nat.le_of_ble_eq_true rfl)
abbrev gr_L_addStudent : Room := { frames := 7, cells := 1, slots := 6, locals := 105 }
set_option maxRecDepth 100000 in
set_option maxHeartbeats 4000000 in
theorem w_addStudent (l : Launch) (Γ : gw_G) (τ μ : gw_S) (o : Nat → Int64) (a1 : Int32) (a2 : Int32) (r : (Int32 ⊕ String) × gw_S) (hf : f_X3_addStudent τ a1 a2 = some r) (he : ∀ e, r.1 = .inr e → e = "java/lang/IllegalArgumentException" ∨ e = "java/lang/IllegalStateException") : gw_M l yL_addStudent [.codeWith yL_addStudent cL_addStudent 5 (some .int) [(0, 10, 13, 13), (0, 10, 17, 15)]] gr_L_addStudent 1 6 Γ [.ref (gw_a Γ 0), .int a1, .int a2, .ref (gw_a Γ 151)] (gw_W Γ τ μ o) (gw_qi Γ (lw_k ["java/lang/IllegalArgumentException", "java/lang/IllegalStateException"] r.1) (gw_W Γ r.2 μ (lw_o r.1 o))) := by
  refine gw_enterW (by decide) (Nat.le_of_ble_eq_true rfl) (fun K C E ht => ?_)
  refine gj_aload_n C 3 dL_addStudent_0 rfl ?_
  refine gj_iconst (v := 0) C dL_addStudent_1 (by decide) ?_
  refine gj_aload_n C 0 dL_addStudent_2 rfl ?_
  refine gj_iload_n C 1 dL_addStudent_3 rfl ?_
  refine gj_iload_n C 2 dL_addStudent_4 rfl ?_
  refine gj_cVI (As := [.int a1, .int a2]) (rest := [.int 0, .ref (gw_a Γ 151)]) C cb_L_40 (s_X3_addStudent (gw_l K) Γ τ μ o a1 a2 r hf) rfl (Nat.le_of_ble_eq_true rfl) gw_atM rfl rfl dL_addStudent_5 (gw_rmk rfl) rfl (fun e h => ?_) (fun v h => ?_)
  · have hE := he e h
    obtain ⟨r1, r2⟩ := r
    dsimp only at h E hE
    subst h
    rcases hE with rfl | rfl
    · refine gj_catch C [] ⟨0, 10, 13, 13⟩ [⟨0, 10, 17, 15⟩] ht (fun q hq => absurd hq List.not_mem_nil) gw_gX.1 (by decide) (by decide) cl_L_13 (name := "java/lang/IllegalArgumentException") ca_IA (fun q => ?_)
      refine gj_astore C 4 [(4, .ref q), (0, .ref (gw_a Γ 0)), (1, .int a1), (2, .int a2), (3, .ref (gw_a Γ 151))] dL_addStudent_13 (by decide) rfl ?_
      refine gj_iconst (v := 1) C dL_addStudent_15 (by decide) ?_
      rw [show lw_k ["java/lang/IllegalArgumentException", "java/lang/IllegalStateException"] (.inr "java/lang/IllegalArgumentException") = 1 from by decide +kernel] at E
      exact gj_iret C E dL_addStudent_16 (Nat.le_of_ble_eq_true rfl) (Nat.le_of_ble_eq_true rfl)
    · refine gj_catch C [⟨0, 10, 13, 13⟩] ⟨0, 10, 17, 15⟩ [] ht (fun q hq => by
        rcases List.mem_cons.mp hq with rfl | hq; · exact ⟨by decide, "java/lang/IllegalArgumentException", cl_L_13, by decide, gw_gX.1⟩
        exact absurd hq List.not_mem_nil) gw_gX.2.1 (by decide) (by decide) cl_L_15 (name := "java/lang/IllegalStateException") ca_IS (fun q => ?_)
      refine gj_astore C 4 [(4, .ref q), (0, .ref (gw_a Γ 0)), (1, .int a1), (2, .int a2), (3, .ref (gw_a Γ 151))] dL_addStudent_17 (by decide) rfl ?_
      refine gj_iconst (v := 2) C dL_addStudent_19 (by decide) ?_
      rw [show lw_k ["java/lang/IllegalArgumentException", "java/lang/IllegalStateException"] (.inr "java/lang/IllegalStateException") = 2 from by decide +kernel] at E
      exact gj_iret C E dL_addStudent_20 (Nat.le_of_ble_eq_true rfl) (Nat.le_of_ble_eq_true rfl)
  · skip
    obtain ⟨r1, r2⟩ := r
    dsimp only at h E
    subst h
    refine gj_i2l C dL_addStudent_8 ?_
    refine gj_last C (vp_in_nI (n := 0) (N := 1) (by decide) (by decide)) dL_addStudent_9 ?_
    refine gj_goto C 21 dL_addStudent_10 (by decide) ?_
    refine gj_iconst (v := 0) C dL_addStudent_21 (by decide) ?_
    exact gj_iret C E dL_addStudent_22 (Nat.le_of_ble_eq_true rfl) (Nat.le_of_ble_eq_true rfl)
abbrev gr_L_pass : Room := { frames := 8, cells := 3, slots := 18, locals := 155 }
set_option maxRecDepth 100000 in
set_option maxHeartbeats 4000000 in
theorem w_pass (l : Launch) (Γ : gw_G) (τ μ : gw_S) (o : Nat → Int64) (a1 : Int32) (a2 : Int32) (r : (Int32 ⊕ String) × gw_S) (hf : f_X3_pass τ a1 a2 = some r) (he : ∀ e, r.1 = .inr e → e = "java/lang/IndexOutOfBoundsException" ∨ e = "java/lang/IllegalStateException") : gw_M l yL_pass [.codeWith yL_pass cL_pass 5 (some .int) [(0, 10, 13, 21), (0, 10, 17, 15)]] gr_L_pass 3 18 Γ [.ref (gw_a Γ 0), .int a1, .int a2, .ref (gw_a Γ 151)] (gw_W Γ τ μ o) (gw_qi Γ (lw_k ["java/lang/IndexOutOfBoundsException", "java/lang/IllegalStateException"] r.1) (gw_W Γ r.2 μ (lw_o r.1 o))) := by
  refine gw_enterW (by decide) (Nat.le_of_ble_eq_true rfl) (fun K C E ht => ?_)
  refine gj_aload_n C 3 dL_pass_0 rfl ?_
  refine gj_iconst (v := 0) C dL_pass_1 (by decide) ?_
  refine gj_aload_n C 0 dL_pass_2 rfl ?_
  refine gj_iload_n C 1 dL_pass_3 rfl ?_
  refine gj_iload_n C 2 dL_pass_4 rfl ?_
  refine gj_cVI (As := [.int a1, .int a2]) (rest := [.int 0, .ref (gw_a Γ 151)]) C cb_L_43 (s_X3_pass (gw_l K) Γ τ μ o a1 a2 r hf) rfl (Nat.le_of_ble_eq_true rfl) gw_atM rfl rfl dL_pass_5 (gw_rmk rfl) rfl (fun e h => ?_) (fun v h => ?_)
  · have hE := he e h
    obtain ⟨r1, r2⟩ := r
    dsimp only at h E hE
    subst h
    rcases hE with rfl | rfl
    · refine gj_catch C [] ⟨0, 10, 13, 21⟩ [⟨0, 10, 17, 15⟩] ht (fun q hq => absurd hq List.not_mem_nil) gw_gX.2.2 (by decide) (by decide) cl_L_21 (name := "java/lang/IndexOutOfBoundsException") ca_IO (fun q => ?_)
      refine gj_astore C 4 [(4, .ref q), (0, .ref (gw_a Γ 0)), (1, .int a1), (2, .int a2), (3, .ref (gw_a Γ 151))] dL_pass_13 (by decide) rfl ?_
      refine gj_iconst (v := 1) C dL_pass_15 (by decide) ?_
      rw [show lw_k ["java/lang/IndexOutOfBoundsException", "java/lang/IllegalStateException"] (.inr "java/lang/IndexOutOfBoundsException") = 1 from by decide +kernel] at E
      exact gj_iret C E dL_pass_16 (Nat.le_of_ble_eq_true rfl) (Nat.le_of_ble_eq_true rfl)
    · refine gj_catch C [⟨0, 10, 13, 21⟩] ⟨0, 10, 17, 15⟩ [] ht (fun q hq => by
        rcases List.mem_cons.mp hq with rfl | hq; · exact ⟨by decide, "java/lang/IndexOutOfBoundsException", cl_L_21, by decide, gw_gX.2.2⟩
        exact absurd hq List.not_mem_nil) gw_gX.2.1 (by decide) (by decide) cl_L_15 (name := "java/lang/IllegalStateException") ca_IS (fun q => ?_)
      refine gj_astore C 4 [(4, .ref q), (0, .ref (gw_a Γ 0)), (1, .int a1), (2, .int a2), (3, .ref (gw_a Γ 151))] dL_pass_17 (by decide) rfl ?_
      refine gj_iconst (v := 2) C dL_pass_19 (by decide) ?_
      rw [show lw_k ["java/lang/IndexOutOfBoundsException", "java/lang/IllegalStateException"] (.inr "java/lang/IllegalStateException") = 2 from by decide +kernel] at E
      exact gj_iret C E dL_pass_20 (Nat.le_of_ble_eq_true rfl) (Nat.le_of_ble_eq_true rfl)
  · skip
    obtain ⟨r1, r2⟩ := r
    dsimp only at h E
    subst h
    refine gj_i2l C dL_pass_8 ?_
    refine gj_last C (vp_in_nI (n := 0) (N := 1) (by decide) (by decide)) dL_pass_9 ?_
    refine gj_goto C 21 dL_pass_10 (by decide) ?_
    refine gj_iconst (v := 0) C dL_pass_21 (by decide) ?_
    exact gj_iret C E dL_pass_22 (Nat.le_of_ble_eq_true rfl) (Nat.le_of_ble_eq_true rfl)
abbrev gr_L_hasPassed : Room := { frames := 8, cells := 2, slots := 12, locals := 126 }
set_option maxRecDepth 100000 in
set_option maxHeartbeats 4000000 in
theorem w_hasPassed (l : Launch) (Γ : gw_G) (τ μ : gw_S) (o : Nat → Int64) (a1 : Int32) (a2 : Int32) (r : (Int32 ⊕ String)) (hf : f_X3_hasPassed τ a1 a2 = some r) (he : ∀ e, r = .inr e → e = "java/lang/IndexOutOfBoundsException") : gw_M l yL_hasPassed [.codeWith yL_hasPassed cL_hasPassed 5 (some .int) [(0, 17, 20, 21)]] gr_L_hasPassed 2 12 Γ [.ref (gw_a Γ 0), .int a1, .int a2, .ref (gw_a Γ 151)] (gw_W Γ τ μ o) (gw_qi Γ (lw_k ["java/lang/IndexOutOfBoundsException"] r) (gw_W Γ τ μ (lw_oz r o))) := by
  refine gw_enterW (by decide) (Nat.le_of_ble_eq_true rfl) (fun K C E ht => ?_)
  refine gj_aload_n C 3 dL_hasPassed_0 rfl ?_
  refine gj_iconst (v := 0) C dL_hasPassed_1 (by decide) ?_
  refine gj_aload_n C 0 dL_hasPassed_2 rfl ?_
  refine gj_iload_n C 1 dL_hasPassed_3 rfl ?_
  refine gj_iload_n C 2 dL_hasPassed_4 rfl ?_
  refine gj_cVI (As := [.int a1, .int a2]) (rest := [.int 0, .ref (gw_a Γ 151)]) C cb_L_46 (s_X3_hasPassed (gw_l K) Γ τ μ o a1 a2 r hf) rfl (Nat.le_of_ble_eq_true rfl) gw_atM rfl rfl dL_hasPassed_5 (gw_rmk rfl) rfl (fun e h => ?_) (fun v h => ?_)
  · have hE := he e h
    subst h
    rcases hE with rfl
    · refine gj_catch C [] ⟨0, 17, 20, 21⟩ [] ht (fun q hq => absurd hq List.not_mem_nil) gw_gX.2.2 (by decide) (by decide) cl_L_21 (name := "java/lang/IndexOutOfBoundsException") ca_IO (fun q => ?_)
      refine gj_astore C 4 [(4, .ref q), (0, .ref (gw_a Γ 0)), (1, .int a1), (2, .int a2), (3, .ref (gw_a Γ 151))] dL_hasPassed_20 (by decide) rfl ?_
      refine gj_iconst (v := 1) C dL_hasPassed_22 (by decide) ?_
      rw [show lw_k ["java/lang/IndexOutOfBoundsException"] (.inr "java/lang/IndexOutOfBoundsException") = 1 from by decide +kernel] at E
      exact gj_iret C E dL_hasPassed_23 (Nat.le_of_ble_eq_true rfl) (Nat.le_of_ble_eq_true rfl)
  · skip
    subst h
    refine gj_if_eq C 15 dL_hasPassed_8 (by decide) (fun c => ?_) (fun c => ?_)
    · refine gj_lconst (v := 0) C dL_hasPassed_15 (by decide) ?_
      refine gj_last C (vp_in_nI (n := 0) (N := 1) (by decide) (by decide)) dL_hasPassed_16 ?_
      refine gj_goto C 24 dL_hasPassed_17 (by decide) ?_
      refine gj_iconst (v := 0) C dL_hasPassed_24 (by decide) ?_
      rw [show lw_oz (.inl v) o = vp_updL o 0 0 from by show vp_updL o 0 (if v = 0 then 0 else 1) = _; rw [if_pos c]] at E
      exact gj_iret C E dL_hasPassed_25 (Nat.le_of_ble_eq_true rfl) (Nat.le_of_ble_eq_true rfl)
    · refine gj_lconst (v := 1) C dL_hasPassed_11 (by decide) ?_
      refine gj_goto C 16 dL_hasPassed_12 (by decide) ?_
      refine gj_last C (vp_in_nI (n := 0) (N := 1) (by decide) (by decide)) dL_hasPassed_16 ?_
      refine gj_goto C 24 dL_hasPassed_17 (by decide) ?_
      refine gj_iconst (v := 0) C dL_hasPassed_24 (by decide) ?_
      rw [show lw_oz (.inl v) o = vp_updL o 0 1 from by show vp_updL o 0 (if v = 0 then 0 else 1) = _; rw [if_neg c]] at E
      exact gj_iret C E dL_hasPassed_25 (Nat.le_of_ble_eq_true rfl) (Nat.le_of_ble_eq_true rfl)
abbrev gr_L_isEnrolled : Room := { frames := 8, cells := 2, slots := 12, locals := 126 }
set_option maxRecDepth 100000 in
set_option maxHeartbeats 4000000 in
theorem w_isEnrolled (l : Launch) (Γ : gw_G) (τ μ : gw_S) (o : Nat → Int64) (a1 : Int32) (a2 : Int32) (r : (Int32 ⊕ String)) (hf : f_X3_isEnrolled τ a1 a2 = some r) (he : ∀ e, r = .inr e → e = "java/lang/IndexOutOfBoundsException") : gw_M l yL_isEnrolled [.codeWith yL_isEnrolled cL_isEnrolled 5 (some .int) [(0, 17, 20, 21)]] gr_L_isEnrolled 2 12 Γ [.ref (gw_a Γ 0), .int a1, .int a2, .ref (gw_a Γ 151)] (gw_W Γ τ μ o) (gw_qi Γ (lw_k ["java/lang/IndexOutOfBoundsException"] r) (gw_W Γ τ μ (lw_oz r o))) := by
  refine gw_enterW (by decide) (Nat.le_of_ble_eq_true rfl) (fun K C E ht => ?_)
  refine gj_aload_n C 3 dL_isEnrolled_0 rfl ?_
  refine gj_iconst (v := 0) C dL_isEnrolled_1 (by decide) ?_
  refine gj_aload_n C 0 dL_isEnrolled_2 rfl ?_
  refine gj_iload_n C 1 dL_isEnrolled_3 rfl ?_
  refine gj_iload_n C 2 dL_isEnrolled_4 rfl ?_
  refine gj_cVI (As := [.int a1, .int a2]) (rest := [.int 0, .ref (gw_a Γ 151)]) C cb_L_49 (s_X3_isEnrolled (gw_l K) Γ τ μ o a1 a2 r hf) rfl (Nat.le_of_ble_eq_true rfl) gw_atM rfl rfl dL_isEnrolled_5 (gw_rmk rfl) rfl (fun e h => ?_) (fun v h => ?_)
  · have hE := he e h
    subst h
    rcases hE with rfl
    · refine gj_catch C [] ⟨0, 17, 20, 21⟩ [] ht (fun q hq => absurd hq List.not_mem_nil) gw_gX.2.2 (by decide) (by decide) cl_L_21 (name := "java/lang/IndexOutOfBoundsException") ca_IO (fun q => ?_)
      refine gj_astore C 4 [(4, .ref q), (0, .ref (gw_a Γ 0)), (1, .int a1), (2, .int a2), (3, .ref (gw_a Γ 151))] dL_isEnrolled_20 (by decide) rfl ?_
      refine gj_iconst (v := 1) C dL_isEnrolled_22 (by decide) ?_
      rw [show lw_k ["java/lang/IndexOutOfBoundsException"] (.inr "java/lang/IndexOutOfBoundsException") = 1 from by decide +kernel] at E
      exact gj_iret C E dL_isEnrolled_23 (Nat.le_of_ble_eq_true rfl) (Nat.le_of_ble_eq_true rfl)
  · skip
    subst h
    refine gj_if_eq C 15 dL_isEnrolled_8 (by decide) (fun c => ?_) (fun c => ?_)
    · refine gj_lconst (v := 0) C dL_isEnrolled_15 (by decide) ?_
      refine gj_last C (vp_in_nI (n := 0) (N := 1) (by decide) (by decide)) dL_isEnrolled_16 ?_
      refine gj_goto C 24 dL_isEnrolled_17 (by decide) ?_
      refine gj_iconst (v := 0) C dL_isEnrolled_24 (by decide) ?_
      rw [show lw_oz (.inl v) o = vp_updL o 0 0 from by show vp_updL o 0 (if v = 0 then 0 else 1) = _; rw [if_pos c]] at E
      exact gj_iret C E dL_isEnrolled_25 (Nat.le_of_ble_eq_true rfl) (Nat.le_of_ble_eq_true rfl)
    · refine gj_lconst (v := 1) C dL_isEnrolled_11 (by decide) ?_
      refine gj_goto C 16 dL_isEnrolled_12 (by decide) ?_
      refine gj_last C (vp_in_nI (n := 0) (N := 1) (by decide) (by decide)) dL_isEnrolled_16 ?_
      refine gj_goto C 24 dL_isEnrolled_17 (by decide) ?_
      refine gj_iconst (v := 0) C dL_isEnrolled_24 (by decide) ?_
      rw [show lw_oz (.inl v) o = vp_updL o 0 1 from by show vp_updL o 0 (if v = 0 then 0 else 1) = _; rw [if_neg c]] at E
      exact gj_iret C E dL_isEnrolled_25 (Nat.le_of_ble_eq_true rfl) (Nat.le_of_ble_eq_true rfl)
abbrev gr_L_credits : Room := { frames := 8, cells := 1, slots := 6, locals := 124 }
set_option maxRecDepth 100000 in
set_option maxHeartbeats 4000000 in
theorem w_credits (l : Launch) (Γ : gw_G) (τ μ : gw_S) (o : Nat → Int64) (a1 : Int32) (r : (Int32 ⊕ String)) (hf : f_X3_credits τ a1 = some r) (he : ∀ e, r = .inr e → e = "java/lang/IndexOutOfBoundsException") : gw_M l yL_credits [.codeWith yL_credits cL_credits 4 (some .int) [(0, 9, 12, 21)]] gr_L_credits 1 6 Γ [.ref (gw_a Γ 0), .int a1, .ref (gw_a Γ 151)] (gw_W Γ τ μ o) (gw_qi Γ (lw_k ["java/lang/IndexOutOfBoundsException"] r) (gw_W Γ τ μ (lw_o r o))) := by
  refine gw_enterW (by decide) (Nat.le_of_ble_eq_true rfl) (fun K C E ht => ?_)
  refine gj_aload_n C 2 dL_credits_0 rfl ?_
  refine gj_iconst (v := 0) C dL_credits_1 (by decide) ?_
  refine gj_aload_n C 0 dL_credits_2 rfl ?_
  refine gj_iload_n C 1 dL_credits_3 rfl ?_
  refine gj_cVI (As := [.int a1]) (rest := [.int 0, .ref (gw_a Γ 151)]) C cb_L_52 (s_X3_credits (gw_l K) Γ τ μ o a1 r hf) rfl (Nat.le_of_ble_eq_true rfl) gw_atM rfl rfl dL_credits_4 (gw_rmk rfl) rfl (fun e h => ?_) (fun v h => ?_)
  · have hE := he e h
    subst h
    rcases hE with rfl
    · refine gj_catch C [] ⟨0, 9, 12, 21⟩ [] ht (fun q hq => absurd hq List.not_mem_nil) gw_gX.2.2 (by decide) (by decide) cl_L_21 (name := "java/lang/IndexOutOfBoundsException") ca_IO (fun q => ?_)
      refine gj_astore_n C 3 [(3, .ref q), (0, .ref (gw_a Γ 0)), (1, .int a1), (2, .ref (gw_a Γ 151))] dL_credits_12 rfl (by decide) rfl ?_
      refine gj_iconst (v := 1) C dL_credits_13 (by decide) ?_
      rw [show lw_k ["java/lang/IndexOutOfBoundsException"] (.inr "java/lang/IndexOutOfBoundsException") = 1 from by decide +kernel] at E
      exact gj_iret C E dL_credits_14 (Nat.le_of_ble_eq_true rfl) (Nat.le_of_ble_eq_true rfl)
  · skip
    subst h
    refine gj_i2l C dL_credits_7 ?_
    refine gj_last C (vp_in_nI (n := 0) (N := 1) (by decide) (by decide)) dL_credits_8 ?_
    refine gj_goto C 15 dL_credits_9 (by decide) ?_
    refine gj_iconst (v := 0) C dL_credits_15 (by decide) ?_
    exact gj_iret C E dL_credits_16 (Nat.le_of_ble_eq_true rfl) (Nat.le_of_ble_eq_true rfl)
abbrev gr_L_missing : Room := { frames := 8, cells := 2, slots := 12, locals := 126 }
set_option maxRecDepth 100000 in
set_option maxHeartbeats 4000000 in
theorem w_missing (l : Launch) (Γ : gw_G) (τ μ : gw_S) (o : Nat → Int64) (a1 : Int32) (a2 : Int32) (r : (Int32 ⊕ String)) (hf : f_X3_missing τ a1 a2 = some r) (he : ∀ e, r = .inr e → e = "java/lang/IndexOutOfBoundsException") : gw_M l yL_missing [.codeWith yL_missing cL_missing 5 (some .int) [(0, 10, 13, 21)]] gr_L_missing 2 12 Γ [.ref (gw_a Γ 0), .int a1, .int a2, .ref (gw_a Γ 151)] (gw_W Γ τ μ o) (gw_qi Γ (lw_k ["java/lang/IndexOutOfBoundsException"] r) (gw_W Γ τ μ (lw_o r o))) := by
  refine gw_enterW (by decide) (Nat.le_of_ble_eq_true rfl) (fun K C E ht => ?_)
  refine gj_aload_n C 3 dL_missing_0 rfl ?_
  refine gj_iconst (v := 0) C dL_missing_1 (by decide) ?_
  refine gj_aload_n C 0 dL_missing_2 rfl ?_
  refine gj_iload_n C 1 dL_missing_3 rfl ?_
  refine gj_iload_n C 2 dL_missing_4 rfl ?_
  refine gj_cVI (As := [.int a1, .int a2]) (rest := [.int 0, .ref (gw_a Γ 151)]) C cb_L_55 (s_X3_missing (gw_l K) Γ τ μ o a1 a2 r hf) rfl (Nat.le_of_ble_eq_true rfl) gw_atM rfl rfl dL_missing_5 (gw_rmk rfl) rfl (fun e h => ?_) (fun v h => ?_)
  · have hE := he e h
    subst h
    rcases hE with rfl
    · refine gj_catch C [] ⟨0, 10, 13, 21⟩ [] ht (fun q hq => absurd hq List.not_mem_nil) gw_gX.2.2 (by decide) (by decide) cl_L_21 (name := "java/lang/IndexOutOfBoundsException") ca_IO (fun q => ?_)
      refine gj_astore C 4 [(4, .ref q), (0, .ref (gw_a Γ 0)), (1, .int a1), (2, .int a2), (3, .ref (gw_a Γ 151))] dL_missing_13 (by decide) rfl ?_
      refine gj_iconst (v := 1) C dL_missing_15 (by decide) ?_
      rw [show lw_k ["java/lang/IndexOutOfBoundsException"] (.inr "java/lang/IndexOutOfBoundsException") = 1 from by decide +kernel] at E
      exact gj_iret C E dL_missing_16 (Nat.le_of_ble_eq_true rfl) (Nat.le_of_ble_eq_true rfl)
  · skip
    subst h
    refine gj_i2l C dL_missing_8 ?_
    refine gj_last C (vp_in_nI (n := 0) (N := 1) (by decide) (by decide)) dL_missing_9 ?_
    refine gj_goto C 17 dL_missing_10 (by decide) ?_
    refine gj_iconst (v := 0) C dL_missing_17 (by decide) ?_
    exact gj_iret C E dL_missing_18 (Nat.le_of_ble_eq_true rfl) (Nat.le_of_ble_eq_true rfl)
abbrev gr_L_obstacle : Room := { frames := 8, cells := 2, slots := 12, locals := 126 }
set_option maxRecDepth 100000 in
set_option maxHeartbeats 4000000 in
theorem w_obstacle (l : Launch) (Γ : gw_G) (τ μ : gw_S) (o : Nat → Int64) (a1 : Int32) (a2 : Int32) (r : (Int32 ⊕ String)) (hf : f_X3_obstacle τ a1 a2 = some r) (he : ∀ e, r = .inr e → e = "java/lang/IndexOutOfBoundsException") : gw_M l yL_obstacle [.codeWith yL_obstacle cL_obstacle 5 (some .int) [(0, 10, 13, 21)]] gr_L_obstacle 2 12 Γ [.ref (gw_a Γ 0), .int a1, .int a2, .ref (gw_a Γ 151)] (gw_W Γ τ μ o) (gw_qi Γ (lw_k ["java/lang/IndexOutOfBoundsException"] r) (gw_W Γ τ μ (lw_o r o))) := by
  refine gw_enterW (by decide) (Nat.le_of_ble_eq_true rfl) (fun K C E ht => ?_)
  refine gj_aload_n C 3 dL_obstacle_0 rfl ?_
  refine gj_iconst (v := 0) C dL_obstacle_1 (by decide) ?_
  refine gj_aload_n C 0 dL_obstacle_2 rfl ?_
  refine gj_iload_n C 1 dL_obstacle_3 rfl ?_
  refine gj_iload_n C 2 dL_obstacle_4 rfl ?_
  refine gj_cVI (As := [.int a1, .int a2]) (rest := [.int 0, .ref (gw_a Γ 151)]) C cb_L_58 (s_X3_obstacle (gw_l K) Γ τ μ o a1 a2 r hf) rfl (Nat.le_of_ble_eq_true rfl) gw_atM rfl rfl dL_obstacle_5 (gw_rmk rfl) rfl (fun e h => ?_) (fun v h => ?_)
  · have hE := he e h
    subst h
    rcases hE with rfl
    · refine gj_catch C [] ⟨0, 10, 13, 21⟩ [] ht (fun q hq => absurd hq List.not_mem_nil) gw_gX.2.2 (by decide) (by decide) cl_L_21 (name := "java/lang/IndexOutOfBoundsException") ca_IO (fun q => ?_)
      refine gj_astore C 4 [(4, .ref q), (0, .ref (gw_a Γ 0)), (1, .int a1), (2, .int a2), (3, .ref (gw_a Γ 151))] dL_obstacle_13 (by decide) rfl ?_
      refine gj_iconst (v := 1) C dL_obstacle_15 (by decide) ?_
      rw [show lw_k ["java/lang/IndexOutOfBoundsException"] (.inr "java/lang/IndexOutOfBoundsException") = 1 from by decide +kernel] at E
      exact gj_iret C E dL_obstacle_16 (Nat.le_of_ble_eq_true rfl) (Nat.le_of_ble_eq_true rfl)
  · skip
    subst h
    refine gj_i2l C dL_obstacle_8 ?_
    refine gj_last C (vp_in_nI (n := 0) (N := 1) (by decide) (by decide)) dL_obstacle_9 ?_
    refine gj_goto C 17 dL_obstacle_10 (by decide) ?_
    refine gj_iconst (v := 0) C dL_obstacle_17 (by decide) ?_
    exact gj_iret C E dL_obstacle_18 (Nat.le_of_ble_eq_true rfl) (Nat.le_of_ble_eq_true rfl)
abbrev gr_L_wish : Room := { frames := 8, cells := 3, slots := 18, locals := 127 }
set_option maxRecDepth 100000 in
set_option maxHeartbeats 4000000 in
theorem w_wish (l : Launch) (Γ : gw_G) (τ μ : gw_S) (o : Nat → Int64) (a1 : Int32) (a2 : Int32) (r : (Int32 ⊕ String) × gw_S) (hf : f_X3_wish τ a1 a2 = some r) (he : ∀ e, r.1 = .inr e → e = "java/lang/IndexOutOfBoundsException" ∨ e = "java/lang/IllegalStateException") : gw_M l yL_wish [.codeWith yL_wish cL_wish 5 (some .int) [(0, 10, 13, 21), (0, 10, 17, 15)]] gr_L_wish 3 18 Γ [.ref (gw_a Γ 0), .int a1, .int a2, .ref (gw_a Γ 151)] (gw_W Γ τ μ o) (gw_qi Γ (lw_k ["java/lang/IndexOutOfBoundsException", "java/lang/IllegalStateException"] r.1) (gw_W Γ r.2 μ (lw_o r.1 o))) := by
  refine gw_enterW (by decide) (Nat.le_of_ble_eq_true rfl) (fun K C E ht => ?_)
  refine gj_aload_n C 3 dL_wish_0 rfl ?_
  refine gj_iconst (v := 0) C dL_wish_1 (by decide) ?_
  refine gj_aload_n C 0 dL_wish_2 rfl ?_
  refine gj_iload_n C 1 dL_wish_3 rfl ?_
  refine gj_iload_n C 2 dL_wish_4 rfl ?_
  refine gj_cVI (As := [.int a1, .int a2]) (rest := [.int 0, .ref (gw_a Γ 151)]) C cb_L_61 (s_X3_wish (gw_l K) Γ τ μ o a1 a2 r hf) rfl (Nat.le_of_ble_eq_true rfl) gw_atM rfl rfl dL_wish_5 (gw_rmk rfl) rfl (fun e h => ?_) (fun v h => ?_)
  · have hE := he e h
    obtain ⟨r1, r2⟩ := r
    dsimp only at h E hE
    subst h
    rcases hE with rfl | rfl
    · refine gj_catch C [] ⟨0, 10, 13, 21⟩ [⟨0, 10, 17, 15⟩] ht (fun q hq => absurd hq List.not_mem_nil) gw_gX.2.2 (by decide) (by decide) cl_L_21 (name := "java/lang/IndexOutOfBoundsException") ca_IO (fun q => ?_)
      refine gj_astore C 4 [(4, .ref q), (0, .ref (gw_a Γ 0)), (1, .int a1), (2, .int a2), (3, .ref (gw_a Γ 151))] dL_wish_13 (by decide) rfl ?_
      refine gj_iconst (v := 1) C dL_wish_15 (by decide) ?_
      rw [show lw_k ["java/lang/IndexOutOfBoundsException", "java/lang/IllegalStateException"] (.inr "java/lang/IndexOutOfBoundsException") = 1 from by decide +kernel] at E
      exact gj_iret C E dL_wish_16 (Nat.le_of_ble_eq_true rfl) (Nat.le_of_ble_eq_true rfl)
    · refine gj_catch C [⟨0, 10, 13, 21⟩] ⟨0, 10, 17, 15⟩ [] ht (fun q hq => by
        rcases List.mem_cons.mp hq with rfl | hq; · exact ⟨by decide, "java/lang/IndexOutOfBoundsException", cl_L_21, by decide, gw_gX.2.2⟩
        exact absurd hq List.not_mem_nil) gw_gX.2.1 (by decide) (by decide) cl_L_15 (name := "java/lang/IllegalStateException") ca_IS (fun q => ?_)
      refine gj_astore C 4 [(4, .ref q), (0, .ref (gw_a Γ 0)), (1, .int a1), (2, .int a2), (3, .ref (gw_a Γ 151))] dL_wish_17 (by decide) rfl ?_
      refine gj_iconst (v := 2) C dL_wish_19 (by decide) ?_
      rw [show lw_k ["java/lang/IndexOutOfBoundsException", "java/lang/IllegalStateException"] (.inr "java/lang/IllegalStateException") = 2 from by decide +kernel] at E
      exact gj_iret C E dL_wish_20 (Nat.le_of_ble_eq_true rfl) (Nat.le_of_ble_eq_true rfl)
  · skip
    obtain ⟨r1, r2⟩ := r
    dsimp only at h E
    subst h
    refine gj_i2l C dL_wish_8 ?_
    refine gj_last C (vp_in_nI (n := 0) (N := 1) (by decide) (by decide)) dL_wish_9 ?_
    refine gj_goto C 21 dL_wish_10 (by decide) ?_
    refine gj_iconst (v := 0) C dL_wish_21 (by decide) ?_
    exact gj_iret C E dL_wish_22 (Nat.le_of_ble_eq_true rfl) (Nat.le_of_ble_eq_true rfl)
abbrev gr_L_dropWish : Room := { frames := 8, cells := 3, slots := 18, locals := 127 }
set_option maxRecDepth 100000 in
set_option maxHeartbeats 4000000 in
theorem w_dropWish (l : Launch) (Γ : gw_G) (τ μ : gw_S) (o : Nat → Int64) (a1 : Int32) (a2 : Int32) (r : (Int32 ⊕ String) × gw_S) (hf : f_X3_dropWish τ a1 a2 = some r) (he : ∀ e, r.1 = .inr e → e = "java/lang/IndexOutOfBoundsException" ∨ e = "java/lang/IllegalStateException") : gw_M l yL_dropWish [.codeWith yL_dropWish cL_dropWish 5 (some .int) [(0, 10, 13, 21), (0, 10, 17, 15)]] gr_L_dropWish 3 18 Γ [.ref (gw_a Γ 0), .int a1, .int a2, .ref (gw_a Γ 151)] (gw_W Γ τ μ o) (gw_qi Γ (lw_k ["java/lang/IndexOutOfBoundsException", "java/lang/IllegalStateException"] r.1) (gw_W Γ r.2 μ (lw_o r.1 o))) := by
  refine gw_enterW (by decide) (Nat.le_of_ble_eq_true rfl) (fun K C E ht => ?_)
  refine gj_aload_n C 3 dL_dropWish_0 rfl ?_
  refine gj_iconst (v := 0) C dL_dropWish_1 (by decide) ?_
  refine gj_aload_n C 0 dL_dropWish_2 rfl ?_
  refine gj_iload_n C 1 dL_dropWish_3 rfl ?_
  refine gj_iload_n C 2 dL_dropWish_4 rfl ?_
  refine gj_cVI (As := [.int a1, .int a2]) (rest := [.int 0, .ref (gw_a Γ 151)]) C cb_L_64 (s_X3_dropWish (gw_l K) Γ τ μ o a1 a2 r hf) rfl (Nat.le_of_ble_eq_true rfl) gw_atM rfl rfl dL_dropWish_5 (gw_rmk rfl) rfl (fun e h => ?_) (fun v h => ?_)
  · have hE := he e h
    obtain ⟨r1, r2⟩ := r
    dsimp only at h E hE
    subst h
    rcases hE with rfl | rfl
    · refine gj_catch C [] ⟨0, 10, 13, 21⟩ [⟨0, 10, 17, 15⟩] ht (fun q hq => absurd hq List.not_mem_nil) gw_gX.2.2 (by decide) (by decide) cl_L_21 (name := "java/lang/IndexOutOfBoundsException") ca_IO (fun q => ?_)
      refine gj_astore C 4 [(4, .ref q), (0, .ref (gw_a Γ 0)), (1, .int a1), (2, .int a2), (3, .ref (gw_a Γ 151))] dL_dropWish_13 (by decide) rfl ?_
      refine gj_iconst (v := 1) C dL_dropWish_15 (by decide) ?_
      rw [show lw_k ["java/lang/IndexOutOfBoundsException", "java/lang/IllegalStateException"] (.inr "java/lang/IndexOutOfBoundsException") = 1 from by decide +kernel] at E
      exact gj_iret C E dL_dropWish_16 (Nat.le_of_ble_eq_true rfl) (Nat.le_of_ble_eq_true rfl)
    · refine gj_catch C [⟨0, 10, 13, 21⟩] ⟨0, 10, 17, 15⟩ [] ht (fun q hq => by
        rcases List.mem_cons.mp hq with rfl | hq; · exact ⟨by decide, "java/lang/IndexOutOfBoundsException", cl_L_21, by decide, gw_gX.2.2⟩
        exact absurd hq List.not_mem_nil) gw_gX.2.1 (by decide) (by decide) cl_L_15 (name := "java/lang/IllegalStateException") ca_IS (fun q => ?_)
      refine gj_astore C 4 [(4, .ref q), (0, .ref (gw_a Γ 0)), (1, .int a1), (2, .int a2), (3, .ref (gw_a Γ 151))] dL_dropWish_17 (by decide) rfl ?_
      refine gj_iconst (v := 2) C dL_dropWish_19 (by decide) ?_
      rw [show lw_k ["java/lang/IndexOutOfBoundsException", "java/lang/IllegalStateException"] (.inr "java/lang/IllegalStateException") = 2 from by decide +kernel] at E
      exact gj_iret C E dL_dropWish_20 (Nat.le_of_ble_eq_true rfl) (Nat.le_of_ble_eq_true rfl)
  · skip
    obtain ⟨r1, r2⟩ := r
    dsimp only at h E
    subst h
    refine gj_i2l C dL_dropWish_8 ?_
    refine gj_last C (vp_in_nI (n := 0) (N := 1) (by decide) (by decide)) dL_dropWish_9 ?_
    refine gj_goto C 21 dL_dropWish_10 (by decide) ?_
    refine gj_iconst (v := 0) C dL_dropWish_21 (by decide) ?_
    exact gj_iret C E dL_dropWish_22 (Nat.le_of_ble_eq_true rfl) (Nat.le_of_ble_eq_true rfl)
abbrev gr_L_wishes : Room := { frames := 8, cells := 1, slots := 6, locals := 124 }
set_option maxRecDepth 100000 in
set_option maxHeartbeats 4000000 in
theorem w_wishes (l : Launch) (Γ : gw_G) (τ μ : gw_S) (o : Nat → Int64) (a1 : Int32) (r : (Int32 ⊕ String)) (hf : f_X3_wishes τ a1 = some r) (he : ∀ e, r = .inr e → e = "java/lang/IndexOutOfBoundsException") : gw_M l yL_wishes [.codeWith yL_wishes cL_wishes 4 (some .int) [(0, 9, 12, 21)]] gr_L_wishes 1 6 Γ [.ref (gw_a Γ 0), .int a1, .ref (gw_a Γ 151)] (gw_W Γ τ μ o) (gw_qi Γ (lw_k ["java/lang/IndexOutOfBoundsException"] r) (gw_W Γ τ μ (lw_o r o))) := by
  refine gw_enterW (by decide) (Nat.le_of_ble_eq_true rfl) (fun K C E ht => ?_)
  refine gj_aload_n C 2 dL_wishes_0 rfl ?_
  refine gj_iconst (v := 0) C dL_wishes_1 (by decide) ?_
  refine gj_aload_n C 0 dL_wishes_2 rfl ?_
  refine gj_iload_n C 1 dL_wishes_3 rfl ?_
  refine gj_cVI (As := [.int a1]) (rest := [.int 0, .ref (gw_a Γ 151)]) C cb_L_67 (s_X3_wishes (gw_l K) Γ τ μ o a1 r hf) rfl (Nat.le_of_ble_eq_true rfl) gw_atM rfl rfl dL_wishes_4 (gw_rmk rfl) rfl (fun e h => ?_) (fun v h => ?_)
  · have hE := he e h
    subst h
    rcases hE with rfl
    · refine gj_catch C [] ⟨0, 9, 12, 21⟩ [] ht (fun q hq => absurd hq List.not_mem_nil) gw_gX.2.2 (by decide) (by decide) cl_L_21 (name := "java/lang/IndexOutOfBoundsException") ca_IO (fun q => ?_)
      refine gj_astore_n C 3 [(3, .ref q), (0, .ref (gw_a Γ 0)), (1, .int a1), (2, .ref (gw_a Γ 151))] dL_wishes_12 rfl (by decide) rfl ?_
      refine gj_iconst (v := 1) C dL_wishes_13 (by decide) ?_
      rw [show lw_k ["java/lang/IndexOutOfBoundsException"] (.inr "java/lang/IndexOutOfBoundsException") = 1 from by decide +kernel] at E
      exact gj_iret C E dL_wishes_14 (Nat.le_of_ble_eq_true rfl) (Nat.le_of_ble_eq_true rfl)
  · skip
    subst h
    refine gj_i2l C dL_wishes_7 ?_
    refine gj_last C (vp_in_nI (n := 0) (N := 1) (by decide) (by decide)) dL_wishes_8 ?_
    refine gj_goto C 15 dL_wishes_9 (by decide) ?_
    refine gj_iconst (v := 0) C dL_wishes_15 (by decide) ?_
    exact gj_iret C E dL_wishes_16 (Nat.le_of_ble_eq_true rfl) (Nat.le_of_ble_eq_true rfl)
abbrev gr_L_wishAt : Room := { frames := 8, cells := 2, slots := 12, locals := 126 }
set_option maxRecDepth 100000 in
set_option maxHeartbeats 4000000 in
theorem w_wishAt (l : Launch) (Γ : gw_G) (τ μ : gw_S) (o : Nat → Int64) (a1 : Int32) (a2 : Int32) (r : (Int32 ⊕ String)) (hf : f_X3_wishAt τ a1 a2 = some r) (he : ∀ e, r = .inr e → e = "java/lang/IndexOutOfBoundsException") : gw_M l yL_wishAt [.codeWith yL_wishAt cL_wishAt 5 (some .int) [(0, 10, 13, 21)]] gr_L_wishAt 2 12 Γ [.ref (gw_a Γ 0), .int a1, .int a2, .ref (gw_a Γ 151)] (gw_W Γ τ μ o) (gw_qi Γ (lw_k ["java/lang/IndexOutOfBoundsException"] r) (gw_W Γ τ μ (lw_o r o))) := by
  refine gw_enterW (by decide) (Nat.le_of_ble_eq_true rfl) (fun K C E ht => ?_)
  refine gj_aload_n C 3 dL_wishAt_0 rfl ?_
  refine gj_iconst (v := 0) C dL_wishAt_1 (by decide) ?_
  refine gj_aload_n C 0 dL_wishAt_2 rfl ?_
  refine gj_iload_n C 1 dL_wishAt_3 rfl ?_
  refine gj_iload_n C 2 dL_wishAt_4 rfl ?_
  refine gj_cVI (As := [.int a1, .int a2]) (rest := [.int 0, .ref (gw_a Γ 151)]) C cb_L_70 (s_X3_wishAt (gw_l K) Γ τ μ o a1 a2 r hf) rfl (Nat.le_of_ble_eq_true rfl) gw_atM rfl rfl dL_wishAt_5 (gw_rmk rfl) rfl (fun e h => ?_) (fun v h => ?_)
  · have hE := he e h
    subst h
    rcases hE with rfl
    · refine gj_catch C [] ⟨0, 10, 13, 21⟩ [] ht (fun q hq => absurd hq List.not_mem_nil) gw_gX.2.2 (by decide) (by decide) cl_L_21 (name := "java/lang/IndexOutOfBoundsException") ca_IO (fun q => ?_)
      refine gj_astore C 4 [(4, .ref q), (0, .ref (gw_a Γ 0)), (1, .int a1), (2, .int a2), (3, .ref (gw_a Γ 151))] dL_wishAt_13 (by decide) rfl ?_
      refine gj_iconst (v := 1) C dL_wishAt_15 (by decide) ?_
      rw [show lw_k ["java/lang/IndexOutOfBoundsException"] (.inr "java/lang/IndexOutOfBoundsException") = 1 from by decide +kernel] at E
      exact gj_iret C E dL_wishAt_16 (Nat.le_of_ble_eq_true rfl) (Nat.le_of_ble_eq_true rfl)
  · skip
    subst h
    refine gj_i2l C dL_wishAt_8 ?_
    refine gj_last C (vp_in_nI (n := 0) (N := 1) (by decide) (by decide)) dL_wishAt_9 ?_
    refine gj_goto C 17 dL_wishAt_10 (by decide) ?_
    refine gj_iconst (v := 0) C dL_wishAt_17 (by decide) ?_
    exact gj_iret C E dL_wishAt_18 (Nat.le_of_ble_eq_true rfl) (Nat.le_of_ble_eq_true rfl)
abbrev gr_L_request : Room := { frames := 8, cells := 3, slots := 18, locals := 156 }
set_option maxRecDepth 100000 in
set_option maxHeartbeats 4000000 in
theorem w_request (l : Launch) (Γ : gw_G) (τ μ : gw_S) (o : Nat → Int64) (a1 : Int32) (a2 : Int32) (r : (Int32 ⊕ String) × gw_S) (hf : f_X3_request τ a1 a2 = some r) (he : ∀ e, r.1 = .inr e → e = "java/lang/IndexOutOfBoundsException" ∨ e = "java/lang/IllegalStateException") : gw_M l yL_request [.codeWith yL_request cL_request 5 (some .int) [(0, 10, 13, 21), (0, 10, 17, 15)]] gr_L_request 3 18 Γ [.ref (gw_a Γ 0), .int a1, .int a2, .ref (gw_a Γ 151)] (gw_W Γ τ μ o) (gw_qi Γ (lw_k ["java/lang/IndexOutOfBoundsException", "java/lang/IllegalStateException"] r.1) (gw_W Γ r.2 μ (lw_o r.1 o))) := by
  refine gw_enterW (by decide) (Nat.le_of_ble_eq_true rfl) (fun K C E ht => ?_)
  refine gj_aload_n C 3 dL_request_0 rfl ?_
  refine gj_iconst (v := 0) C dL_request_1 (by decide) ?_
  refine gj_aload_n C 0 dL_request_2 rfl ?_
  refine gj_iload_n C 1 dL_request_3 rfl ?_
  refine gj_iload_n C 2 dL_request_4 rfl ?_
  refine gj_cVI (As := [.int a1, .int a2]) (rest := [.int 0, .ref (gw_a Γ 151)]) C cb_L_73 (s_X3_request (gw_l K) Γ τ μ o a1 a2 r hf) rfl (Nat.le_of_ble_eq_true rfl) gw_atM rfl rfl dL_request_5 (gw_rmk rfl) rfl (fun e h => ?_) (fun v h => ?_)
  · have hE := he e h
    obtain ⟨r1, r2⟩ := r
    dsimp only at h E hE
    subst h
    rcases hE with rfl | rfl
    · refine gj_catch C [] ⟨0, 10, 13, 21⟩ [⟨0, 10, 17, 15⟩] ht (fun q hq => absurd hq List.not_mem_nil) gw_gX.2.2 (by decide) (by decide) cl_L_21 (name := "java/lang/IndexOutOfBoundsException") ca_IO (fun q => ?_)
      refine gj_astore C 4 [(4, .ref q), (0, .ref (gw_a Γ 0)), (1, .int a1), (2, .int a2), (3, .ref (gw_a Γ 151))] dL_request_13 (by decide) rfl ?_
      refine gj_iconst (v := 1) C dL_request_15 (by decide) ?_
      rw [show lw_k ["java/lang/IndexOutOfBoundsException", "java/lang/IllegalStateException"] (.inr "java/lang/IndexOutOfBoundsException") = 1 from by decide +kernel] at E
      exact gj_iret C E dL_request_16 (Nat.le_of_ble_eq_true rfl) (Nat.le_of_ble_eq_true rfl)
    · refine gj_catch C [⟨0, 10, 13, 21⟩] ⟨0, 10, 17, 15⟩ [] ht (fun q hq => by
        rcases List.mem_cons.mp hq with rfl | hq; · exact ⟨by decide, "java/lang/IndexOutOfBoundsException", cl_L_21, by decide, gw_gX.2.2⟩
        exact absurd hq List.not_mem_nil) gw_gX.2.1 (by decide) (by decide) cl_L_15 (name := "java/lang/IllegalStateException") ca_IS (fun q => ?_)
      refine gj_astore C 4 [(4, .ref q), (0, .ref (gw_a Γ 0)), (1, .int a1), (2, .int a2), (3, .ref (gw_a Γ 151))] dL_request_17 (by decide) rfl ?_
      refine gj_iconst (v := 2) C dL_request_19 (by decide) ?_
      rw [show lw_k ["java/lang/IndexOutOfBoundsException", "java/lang/IllegalStateException"] (.inr "java/lang/IllegalStateException") = 2 from by decide +kernel] at E
      exact gj_iret C E dL_request_20 (Nat.le_of_ble_eq_true rfl) (Nat.le_of_ble_eq_true rfl)
  · skip
    obtain ⟨r1, r2⟩ := r
    dsimp only at h E
    subst h
    refine gj_i2l C dL_request_8 ?_
    refine gj_last C (vp_in_nI (n := 0) (N := 1) (by decide) (by decide)) dL_request_9 ?_
    refine gj_goto C 21 dL_request_10 (by decide) ?_
    refine gj_iconst (v := 0) C dL_request_21 (by decide) ?_
    exact gj_iret C E dL_request_22 (Nat.le_of_ble_eq_true rfl) (Nat.le_of_ble_eq_true rfl)
abbrev gr_L_drop : Room := { frames := 8, cells := 3, slots := 18, locals := 155 }
set_option maxRecDepth 100000 in
set_option maxHeartbeats 4000000 in
theorem w_drop (l : Launch) (Γ : gw_G) (τ μ : gw_S) (o : Nat → Int64) (a1 : Int32) (a2 : Int32) (r : (Int32 ⊕ String) × gw_S) (hf : f_X3_drop τ a1 a2 = some r) (he : ∀ e, r.1 = .inr e → e = "java/lang/IndexOutOfBoundsException" ∨ e = "java/lang/IllegalStateException") : gw_M l yL_drop [.codeWith yL_drop cL_drop 5 (some .int) [(0, 10, 13, 21), (0, 10, 17, 15)]] gr_L_drop 3 18 Γ [.ref (gw_a Γ 0), .int a1, .int a2, .ref (gw_a Γ 151)] (gw_W Γ τ μ o) (gw_qi Γ (lw_k ["java/lang/IndexOutOfBoundsException", "java/lang/IllegalStateException"] r.1) (gw_W Γ r.2 μ (lw_o r.1 o))) := by
  refine gw_enterW (by decide) (Nat.le_of_ble_eq_true rfl) (fun K C E ht => ?_)
  refine gj_aload_n C 3 dL_drop_0 rfl ?_
  refine gj_iconst (v := 0) C dL_drop_1 (by decide) ?_
  refine gj_aload_n C 0 dL_drop_2 rfl ?_
  refine gj_iload_n C 1 dL_drop_3 rfl ?_
  refine gj_iload_n C 2 dL_drop_4 rfl ?_
  refine gj_cVI (As := [.int a1, .int a2]) (rest := [.int 0, .ref (gw_a Γ 151)]) C cb_L_76 (s_X3_drop (gw_l K) Γ τ μ o a1 a2 r hf) rfl (Nat.le_of_ble_eq_true rfl) gw_atM rfl rfl dL_drop_5 (gw_rmk rfl) rfl (fun e h => ?_) (fun v h => ?_)
  · have hE := he e h
    obtain ⟨r1, r2⟩ := r
    dsimp only at h E hE
    subst h
    rcases hE with rfl | rfl
    · refine gj_catch C [] ⟨0, 10, 13, 21⟩ [⟨0, 10, 17, 15⟩] ht (fun q hq => absurd hq List.not_mem_nil) gw_gX.2.2 (by decide) (by decide) cl_L_21 (name := "java/lang/IndexOutOfBoundsException") ca_IO (fun q => ?_)
      refine gj_astore C 4 [(4, .ref q), (0, .ref (gw_a Γ 0)), (1, .int a1), (2, .int a2), (3, .ref (gw_a Γ 151))] dL_drop_13 (by decide) rfl ?_
      refine gj_iconst (v := 1) C dL_drop_15 (by decide) ?_
      rw [show lw_k ["java/lang/IndexOutOfBoundsException", "java/lang/IllegalStateException"] (.inr "java/lang/IndexOutOfBoundsException") = 1 from by decide +kernel] at E
      exact gj_iret C E dL_drop_16 (Nat.le_of_ble_eq_true rfl) (Nat.le_of_ble_eq_true rfl)
    · refine gj_catch C [⟨0, 10, 13, 21⟩] ⟨0, 10, 17, 15⟩ [] ht (fun q hq => by
        rcases List.mem_cons.mp hq with rfl | hq; · exact ⟨by decide, "java/lang/IndexOutOfBoundsException", cl_L_21, by decide, gw_gX.2.2⟩
        exact absurd hq List.not_mem_nil) gw_gX.2.1 (by decide) (by decide) cl_L_15 (name := "java/lang/IllegalStateException") ca_IS (fun q => ?_)
      refine gj_astore C 4 [(4, .ref q), (0, .ref (gw_a Γ 0)), (1, .int a1), (2, .int a2), (3, .ref (gw_a Γ 151))] dL_drop_17 (by decide) rfl ?_
      refine gj_iconst (v := 2) C dL_drop_19 (by decide) ?_
      rw [show lw_k ["java/lang/IndexOutOfBoundsException", "java/lang/IllegalStateException"] (.inr "java/lang/IllegalStateException") = 2 from by decide +kernel] at E
      exact gj_iret C E dL_drop_20 (Nat.le_of_ble_eq_true rfl) (Nat.le_of_ble_eq_true rfl)
  · skip
    obtain ⟨r1, r2⟩ := r
    dsimp only at h E
    subst h
    refine gj_i2l C dL_drop_8 ?_
    refine gj_last C (vp_in_nI (n := 0) (N := 1) (by decide) (by decide)) dL_drop_9 ?_
    refine gj_goto C 21 dL_drop_10 (by decide) ?_
    refine gj_iconst (v := 0) C dL_drop_21 (by decide) ?_
    exact gj_iret C E dL_drop_22 (Nat.le_of_ble_eq_true rfl) (Nat.le_of_ble_eq_true rfl)
abbrev gr_L_change : Room := { frames := 8, cells := 4, slots := 24, locals := 157 }
set_option maxRecDepth 100000 in
set_option maxHeartbeats 4000000 in
theorem w_change (l : Launch) (Γ : gw_G) (τ μ : gw_S) (o : Nat → Int64) (a1 : Int32) (a2 : Int32) (a3 : Int32) (r : (Int32 ⊕ String) × gw_S) (hf : f_X3_change τ a1 a2 a3 = some r) (he : ∀ e, r.1 = .inr e → e = "java/lang/IndexOutOfBoundsException" ∨ e = "java/lang/IllegalStateException") : gw_M l yL_change [.codeWith yL_change cL_change 6 (some .int) [(0, 12, 15, 21), (0, 12, 19, 15)]] gr_L_change 4 24 Γ [.ref (gw_a Γ 0), .int a1, .int a2, .int a3, .ref (gw_a Γ 151)] (gw_W Γ τ μ o) (gw_qi Γ (lw_k ["java/lang/IndexOutOfBoundsException", "java/lang/IllegalStateException"] r.1) (gw_W Γ r.2 μ (lw_o r.1 o))) := by
  refine gw_enterW (by decide) (Nat.le_of_ble_eq_true rfl) (fun K C E ht => ?_)
  refine gj_aload C 4 dL_change_0 rfl ?_
  refine gj_iconst (v := 0) C dL_change_2 (by decide) ?_
  refine gj_aload_n C 0 dL_change_3 rfl ?_
  refine gj_iload_n C 1 dL_change_4 rfl ?_
  refine gj_iload_n C 2 dL_change_5 rfl ?_
  refine gj_iload_n C 3 dL_change_6 rfl ?_
  refine gj_cVI (As := [.int a1, .int a2, .int a3]) (rest := [.int 0, .ref (gw_a Γ 151)]) C cb_L_79 (s_X3_change (gw_l K) Γ τ μ o a1 a2 a3 r hf) rfl (Nat.le_of_ble_eq_true rfl) gw_atM rfl rfl dL_change_7 (gw_rmk rfl) rfl (fun e h => ?_) (fun v h => ?_)
  · have hE := he e h
    obtain ⟨r1, r2⟩ := r
    dsimp only at h E hE
    subst h
    rcases hE with rfl | rfl
    · refine gj_catch C [] ⟨0, 12, 15, 21⟩ [⟨0, 12, 19, 15⟩] ht (fun q hq => absurd hq List.not_mem_nil) gw_gX.2.2 (by decide) (by decide) cl_L_21 (name := "java/lang/IndexOutOfBoundsException") ca_IO (fun q => ?_)
      refine gj_astore C 5 [(5, .ref q), (0, .ref (gw_a Γ 0)), (1, .int a1), (2, .int a2), (3, .int a3), (4, .ref (gw_a Γ 151))] dL_change_15 (by decide) rfl ?_
      refine gj_iconst (v := 1) C dL_change_17 (by decide) ?_
      rw [show lw_k ["java/lang/IndexOutOfBoundsException", "java/lang/IllegalStateException"] (.inr "java/lang/IndexOutOfBoundsException") = 1 from by decide +kernel] at E
      exact gj_iret C E dL_change_18 (Nat.le_of_ble_eq_true rfl) (Nat.le_of_ble_eq_true rfl)
    · refine gj_catch C [⟨0, 12, 15, 21⟩] ⟨0, 12, 19, 15⟩ [] ht (fun q hq => by
        rcases List.mem_cons.mp hq with rfl | hq; · exact ⟨by decide, "java/lang/IndexOutOfBoundsException", cl_L_21, by decide, gw_gX.2.2⟩
        exact absurd hq List.not_mem_nil) gw_gX.2.1 (by decide) (by decide) cl_L_15 (name := "java/lang/IllegalStateException") ca_IS (fun q => ?_)
      refine gj_astore C 5 [(5, .ref q), (0, .ref (gw_a Γ 0)), (1, .int a1), (2, .int a2), (3, .int a3), (4, .ref (gw_a Γ 151))] dL_change_19 (by decide) rfl ?_
      refine gj_iconst (v := 2) C dL_change_21 (by decide) ?_
      rw [show lw_k ["java/lang/IndexOutOfBoundsException", "java/lang/IllegalStateException"] (.inr "java/lang/IllegalStateException") = 2 from by decide +kernel] at E
      exact gj_iret C E dL_change_22 (Nat.le_of_ble_eq_true rfl) (Nat.le_of_ble_eq_true rfl)
  · skip
    obtain ⟨r1, r2⟩ := r
    dsimp only at h E
    subst h
    refine gj_i2l C dL_change_10 ?_
    refine gj_last C (vp_in_nI (n := 0) (N := 1) (by decide) (by decide)) dL_change_11 ?_
    refine gj_goto C 23 dL_change_12 (by decide) ?_
    refine gj_iconst (v := 0) C dL_change_23 (by decide) ?_
    exact gj_iret C E dL_change_24 (Nat.le_of_ble_eq_true rfl) (Nat.le_of_ble_eq_true rfl)
abbrev gr_L_accept : Room := { frames := 8, cells := 3, slots := 18, locals := 155 }
set_option maxRecDepth 100000 in
set_option maxHeartbeats 4000000 in
theorem w_accept (l : Launch) (Γ : gw_G) (τ μ : gw_S) (o : Nat → Int64) (a1 : Int32) (a2 : Int32) (r : (Int32 ⊕ String) × gw_S) (hf : f_X3_accept τ a1 a2 = some r) (he : ∀ e, r.1 = .inr e → e = "java/lang/IndexOutOfBoundsException" ∨ e = "java/lang/IllegalStateException") : gw_M l yL_accept [.codeWith yL_accept cL_accept 5 (some .int) [(0, 10, 13, 21), (0, 10, 17, 15)]] gr_L_accept 3 18 Γ [.ref (gw_a Γ 0), .int a1, .int a2, .ref (gw_a Γ 151)] (gw_W Γ τ μ o) (gw_qi Γ (lw_k ["java/lang/IndexOutOfBoundsException", "java/lang/IllegalStateException"] r.1) (gw_W Γ r.2 μ (lw_o r.1 o))) := by
  refine gw_enterW (by decide) (Nat.le_of_ble_eq_true rfl) (fun K C E ht => ?_)
  refine gj_aload_n C 3 dL_accept_0 rfl ?_
  refine gj_iconst (v := 0) C dL_accept_1 (by decide) ?_
  refine gj_aload_n C 0 dL_accept_2 rfl ?_
  refine gj_iload_n C 1 dL_accept_3 rfl ?_
  refine gj_iload_n C 2 dL_accept_4 rfl ?_
  refine gj_cVI (As := [.int a1, .int a2]) (rest := [.int 0, .ref (gw_a Γ 151)]) C cb_L_82 (s_X3_accept (gw_l K) Γ τ μ o a1 a2 r hf) rfl (Nat.le_of_ble_eq_true rfl) gw_atM rfl rfl dL_accept_5 (gw_rmk rfl) rfl (fun e h => ?_) (fun v h => ?_)
  · have hE := he e h
    obtain ⟨r1, r2⟩ := r
    dsimp only at h E hE
    subst h
    rcases hE with rfl | rfl
    · refine gj_catch C [] ⟨0, 10, 13, 21⟩ [⟨0, 10, 17, 15⟩] ht (fun q hq => absurd hq List.not_mem_nil) gw_gX.2.2 (by decide) (by decide) cl_L_21 (name := "java/lang/IndexOutOfBoundsException") ca_IO (fun q => ?_)
      refine gj_astore C 4 [(4, .ref q), (0, .ref (gw_a Γ 0)), (1, .int a1), (2, .int a2), (3, .ref (gw_a Γ 151))] dL_accept_13 (by decide) rfl ?_
      refine gj_iconst (v := 1) C dL_accept_15 (by decide) ?_
      rw [show lw_k ["java/lang/IndexOutOfBoundsException", "java/lang/IllegalStateException"] (.inr "java/lang/IndexOutOfBoundsException") = 1 from by decide +kernel] at E
      exact gj_iret C E dL_accept_16 (Nat.le_of_ble_eq_true rfl) (Nat.le_of_ble_eq_true rfl)
    · refine gj_catch C [⟨0, 10, 13, 21⟩] ⟨0, 10, 17, 15⟩ [] ht (fun q hq => by
        rcases List.mem_cons.mp hq with rfl | hq; · exact ⟨by decide, "java/lang/IndexOutOfBoundsException", cl_L_21, by decide, gw_gX.2.2⟩
        exact absurd hq List.not_mem_nil) gw_gX.2.1 (by decide) (by decide) cl_L_15 (name := "java/lang/IllegalStateException") ca_IS (fun q => ?_)
      refine gj_astore C 4 [(4, .ref q), (0, .ref (gw_a Γ 0)), (1, .int a1), (2, .int a2), (3, .ref (gw_a Γ 151))] dL_accept_17 (by decide) rfl ?_
      refine gj_iconst (v := 2) C dL_accept_19 (by decide) ?_
      rw [show lw_k ["java/lang/IndexOutOfBoundsException", "java/lang/IllegalStateException"] (.inr "java/lang/IllegalStateException") = 2 from by decide +kernel] at E
      exact gj_iret C E dL_accept_20 (Nat.le_of_ble_eq_true rfl) (Nat.le_of_ble_eq_true rfl)
  · skip
    obtain ⟨r1, r2⟩ := r
    dsimp only at h E
    subst h
    refine gj_i2l C dL_accept_8 ?_
    refine gj_last C (vp_in_nI (n := 0) (N := 1) (by decide) (by decide)) dL_accept_9 ?_
    refine gj_goto C 21 dL_accept_10 (by decide) ?_
    refine gj_iconst (v := 0) C dL_accept_21 (by decide) ?_
    exact gj_iret C E dL_accept_22 (Nat.le_of_ble_eq_true rfl) (Nat.le_of_ble_eq_true rfl)
abbrev gr_L_leave : Room := { frames := 8, cells := 3, slots := 18, locals := 156 }
set_option maxRecDepth 100000 in
set_option maxHeartbeats 4000000 in
theorem w_leave (l : Launch) (Γ : gw_G) (τ μ : gw_S) (o : Nat → Int64) (a1 : Int32) (a2 : Int32) (r : (Int32 ⊕ String) × gw_S) (hf : f_X3_leave τ a1 a2 = some r) (he : ∀ e, r.1 = .inr e → e = "java/lang/IndexOutOfBoundsException" ∨ e = "java/lang/IllegalStateException") : gw_M l yL_leave [.codeWith yL_leave cL_leave 5 (some .int) [(0, 17, 20, 21), (0, 17, 24, 15)]] gr_L_leave 3 18 Γ [.ref (gw_a Γ 0), .int a1, .int a2, .ref (gw_a Γ 151)] (gw_W Γ τ μ o) (gw_qi Γ (lw_k ["java/lang/IndexOutOfBoundsException", "java/lang/IllegalStateException"] r.1) (gw_W Γ r.2 μ (lw_oz r.1 o))) := by
  refine gw_enterW (by decide) (Nat.le_of_ble_eq_true rfl) (fun K C E ht => ?_)
  refine gj_aload_n C 3 dL_leave_0 rfl ?_
  refine gj_iconst (v := 0) C dL_leave_1 (by decide) ?_
  refine gj_aload_n C 0 dL_leave_2 rfl ?_
  refine gj_iload_n C 1 dL_leave_3 rfl ?_
  refine gj_iload_n C 2 dL_leave_4 rfl ?_
  refine gj_cVI (As := [.int a1, .int a2]) (rest := [.int 0, .ref (gw_a Γ 151)]) C cb_L_85 (s_X3_leave (gw_l K) Γ τ μ o a1 a2 r hf) rfl (Nat.le_of_ble_eq_true rfl) gw_atM rfl rfl dL_leave_5 (gw_rmk rfl) rfl (fun e h => ?_) (fun v h => ?_)
  · have hE := he e h
    obtain ⟨r1, r2⟩ := r
    dsimp only at h E hE
    subst h
    rcases hE with rfl | rfl
    · refine gj_catch C [] ⟨0, 17, 20, 21⟩ [⟨0, 17, 24, 15⟩] ht (fun q hq => absurd hq List.not_mem_nil) gw_gX.2.2 (by decide) (by decide) cl_L_21 (name := "java/lang/IndexOutOfBoundsException") ca_IO (fun q => ?_)
      refine gj_astore C 4 [(4, .ref q), (0, .ref (gw_a Γ 0)), (1, .int a1), (2, .int a2), (3, .ref (gw_a Γ 151))] dL_leave_20 (by decide) rfl ?_
      refine gj_iconst (v := 1) C dL_leave_22 (by decide) ?_
      rw [show lw_k ["java/lang/IndexOutOfBoundsException", "java/lang/IllegalStateException"] (.inr "java/lang/IndexOutOfBoundsException") = 1 from by decide +kernel] at E
      exact gj_iret C E dL_leave_23 (Nat.le_of_ble_eq_true rfl) (Nat.le_of_ble_eq_true rfl)
    · refine gj_catch C [⟨0, 17, 20, 21⟩] ⟨0, 17, 24, 15⟩ [] ht (fun q hq => by
        rcases List.mem_cons.mp hq with rfl | hq; · exact ⟨by decide, "java/lang/IndexOutOfBoundsException", cl_L_21, by decide, gw_gX.2.2⟩
        exact absurd hq List.not_mem_nil) gw_gX.2.1 (by decide) (by decide) cl_L_15 (name := "java/lang/IllegalStateException") ca_IS (fun q => ?_)
      refine gj_astore C 4 [(4, .ref q), (0, .ref (gw_a Γ 0)), (1, .int a1), (2, .int a2), (3, .ref (gw_a Γ 151))] dL_leave_24 (by decide) rfl ?_
      refine gj_iconst (v := 2) C dL_leave_26 (by decide) ?_
      rw [show lw_k ["java/lang/IndexOutOfBoundsException", "java/lang/IllegalStateException"] (.inr "java/lang/IllegalStateException") = 2 from by decide +kernel] at E
      exact gj_iret C E dL_leave_27 (Nat.le_of_ble_eq_true rfl) (Nat.le_of_ble_eq_true rfl)
  · skip
    obtain ⟨r1, r2⟩ := r
    dsimp only at h E
    subst h
    refine gj_if_eq C 15 dL_leave_8 (by decide) (fun c => ?_) (fun c => ?_)
    · refine gj_lconst (v := 0) C dL_leave_15 (by decide) ?_
      refine gj_last C (vp_in_nI (n := 0) (N := 1) (by decide) (by decide)) dL_leave_16 ?_
      refine gj_goto C 28 dL_leave_17 (by decide) ?_
      refine gj_iconst (v := 0) C dL_leave_28 (by decide) ?_
      rw [show lw_oz (.inl v) o = vp_updL o 0 0 from by show vp_updL o 0 (if v = 0 then 0 else 1) = _; rw [if_pos c]] at E
      exact gj_iret C E dL_leave_29 (Nat.le_of_ble_eq_true rfl) (Nat.le_of_ble_eq_true rfl)
    · refine gj_lconst (v := 1) C dL_leave_11 (by decide) ?_
      refine gj_goto C 16 dL_leave_12 (by decide) ?_
      refine gj_last C (vp_in_nI (n := 0) (N := 1) (by decide) (by decide)) dL_leave_16 ?_
      refine gj_goto C 28 dL_leave_17 (by decide) ?_
      refine gj_iconst (v := 0) C dL_leave_28 (by decide) ?_
      rw [show lw_oz (.inl v) o = vp_updL o 0 1 from by show vp_updL o 0 (if v = 0 then 0 else 1) = _; rw [if_neg c]] at E
      exact gj_iret C E dL_leave_29 (Nat.le_of_ble_eq_true rfl) (Nat.le_of_ble_eq_true rfl)
abbrev gr_L_advance : Room := { frames := 7, cells := 1, slots := 6, locals := 154 }
set_option maxRecDepth 100000 in
set_option maxHeartbeats 4000000 in
theorem w_advance (l : Launch) (Γ : gw_G) (τ μ : gw_S) (o : Nat → Int64) (a1 : Int32) (r : (Int32 ⊕ String) × gw_S) (hf : f_X3_advance τ a1 = some r) (he : ∀ e, r.1 = .inr e → e = "java/lang/IllegalArgumentException") : gw_M l yL_advance [.codeWith yL_advance cL_advance 4 (some .int) [(0, 9, 12, 13)]] gr_L_advance 1 6 Γ [.ref (gw_a Γ 0), .int a1, .ref (gw_a Γ 151)] (gw_W Γ τ μ o) (gw_qi Γ (lw_k ["java/lang/IllegalArgumentException"] r.1) (gw_W Γ r.2 μ (lw_o r.1 o))) := by
  refine gw_enterW (by decide) (Nat.le_of_ble_eq_true rfl) (fun K C E ht => ?_)
  refine gj_aload_n C 2 dL_advance_0 rfl ?_
  refine gj_iconst (v := 0) C dL_advance_1 (by decide) ?_
  refine gj_aload_n C 0 dL_advance_2 rfl ?_
  refine gj_iload_n C 1 dL_advance_3 rfl ?_
  refine gj_cVI (As := [.int a1]) (rest := [.int 0, .ref (gw_a Γ 151)]) C cb_L_88 (s_X3_advance (gw_l K) Γ τ μ o a1 r hf) rfl (Nat.le_of_ble_eq_true rfl) gw_atM rfl rfl dL_advance_4 (gw_rmk rfl) rfl (fun e h => ?_) (fun v h => ?_)
  · have hE := he e h
    obtain ⟨r1, r2⟩ := r
    dsimp only at h E hE
    subst h
    rcases hE with rfl
    · refine gj_catch C [] ⟨0, 9, 12, 13⟩ [] ht (fun q hq => absurd hq List.not_mem_nil) gw_gX.1 (by decide) (by decide) cl_L_13 (name := "java/lang/IllegalArgumentException") ca_IA (fun q => ?_)
      refine gj_astore_n C 3 [(3, .ref q), (0, .ref (gw_a Γ 0)), (1, .int a1), (2, .ref (gw_a Γ 151))] dL_advance_12 rfl (by decide) rfl ?_
      refine gj_iconst (v := 1) C dL_advance_13 (by decide) ?_
      rw [show lw_k ["java/lang/IllegalArgumentException"] (.inr "java/lang/IllegalArgumentException") = 1 from by decide +kernel] at E
      exact gj_iret C E dL_advance_14 (Nat.le_of_ble_eq_true rfl) (Nat.le_of_ble_eq_true rfl)
  · skip
    obtain ⟨r1, r2⟩ := r
    dsimp only at h E
    subst h
    refine gj_i2l C dL_advance_7 ?_
    refine gj_last C (vp_in_nI (n := 0) (N := 1) (by decide) (by decide)) dL_advance_8 ?_
    refine gj_goto C 15 dL_advance_9 (by decide) ?_
    refine gj_iconst (v := 0) C dL_advance_15 (by decide) ?_
    exact gj_iret C E dL_advance_16 (Nat.le_of_ble_eq_true rfl) (Nat.le_of_ble_eq_true rfl)
abbrev gr_L_waiting : Room := { frames := 8, cells := 1, slots := 6, locals := 124 }
set_option maxRecDepth 100000 in
set_option maxHeartbeats 4000000 in
theorem w_waiting (l : Launch) (Γ : gw_G) (τ μ : gw_S) (o : Nat → Int64) (a1 : Int32) (r : (Int32 ⊕ String)) (hf : f_X3_waiting τ a1 = some r) (he : ∀ e, r = .inr e → e = "java/lang/IndexOutOfBoundsException") : gw_M l yL_waiting [.codeWith yL_waiting cL_waiting 4 (some .int) [(0, 9, 12, 21)]] gr_L_waiting 1 6 Γ [.ref (gw_a Γ 0), .int a1, .ref (gw_a Γ 151)] (gw_W Γ τ μ o) (gw_qi Γ (lw_k ["java/lang/IndexOutOfBoundsException"] r) (gw_W Γ τ μ (lw_o r o))) := by
  refine gw_enterW (by decide) (Nat.le_of_ble_eq_true rfl) (fun K C E ht => ?_)
  refine gj_aload_n C 2 dL_waiting_0 rfl ?_
  refine gj_iconst (v := 0) C dL_waiting_1 (by decide) ?_
  refine gj_aload_n C 0 dL_waiting_2 rfl ?_
  refine gj_iload_n C 1 dL_waiting_3 rfl ?_
  refine gj_cVI (As := [.int a1]) (rest := [.int 0, .ref (gw_a Γ 151)]) C cb_L_91 (s_X3_waiting (gw_l K) Γ τ μ o a1 r hf) rfl (Nat.le_of_ble_eq_true rfl) gw_atM rfl rfl dL_waiting_4 (gw_rmk rfl) rfl (fun e h => ?_) (fun v h => ?_)
  · have hE := he e h
    subst h
    rcases hE with rfl
    · refine gj_catch C [] ⟨0, 9, 12, 21⟩ [] ht (fun q hq => absurd hq List.not_mem_nil) gw_gX.2.2 (by decide) (by decide) cl_L_21 (name := "java/lang/IndexOutOfBoundsException") ca_IO (fun q => ?_)
      refine gj_astore_n C 3 [(3, .ref q), (0, .ref (gw_a Γ 0)), (1, .int a1), (2, .ref (gw_a Γ 151))] dL_waiting_12 rfl (by decide) rfl ?_
      refine gj_iconst (v := 1) C dL_waiting_13 (by decide) ?_
      rw [show lw_k ["java/lang/IndexOutOfBoundsException"] (.inr "java/lang/IndexOutOfBoundsException") = 1 from by decide +kernel] at E
      exact gj_iret C E dL_waiting_14 (Nat.le_of_ble_eq_true rfl) (Nat.le_of_ble_eq_true rfl)
  · skip
    subst h
    refine gj_i2l C dL_waiting_7 ?_
    refine gj_last C (vp_in_nI (n := 0) (N := 1) (by decide) (by decide)) dL_waiting_8 ?_
    refine gj_goto C 15 dL_waiting_9 (by decide) ?_
    refine gj_iconst (v := 0) C dL_waiting_15 (by decide) ?_
    exact gj_iret C E dL_waiting_16 (Nat.le_of_ble_eq_true rfl) (Nat.le_of_ble_eq_true rfl)
abbrev gr_L_waitingAt : Room := { frames := 8, cells := 2, slots := 12, locals := 126 }
set_option maxRecDepth 100000 in
set_option maxHeartbeats 4000000 in
theorem w_waitingAt (l : Launch) (Γ : gw_G) (τ μ : gw_S) (o : Nat → Int64) (a1 : Int32) (a2 : Int32) (r : (Int32 ⊕ String)) (hf : f_X3_waitingAt τ a1 a2 = some r) (he : ∀ e, r = .inr e → e = "java/lang/IndexOutOfBoundsException") : gw_M l yL_waitingAt [.codeWith yL_waitingAt cL_waitingAt 5 (some .int) [(0, 10, 13, 21)]] gr_L_waitingAt 2 12 Γ [.ref (gw_a Γ 0), .int a1, .int a2, .ref (gw_a Γ 151)] (gw_W Γ τ μ o) (gw_qi Γ (lw_k ["java/lang/IndexOutOfBoundsException"] r) (gw_W Γ τ μ (lw_o r o))) := by
  refine gw_enterW (by decide) (Nat.le_of_ble_eq_true rfl) (fun K C E ht => ?_)
  refine gj_aload_n C 3 dL_waitingAt_0 rfl ?_
  refine gj_iconst (v := 0) C dL_waitingAt_1 (by decide) ?_
  refine gj_aload_n C 0 dL_waitingAt_2 rfl ?_
  refine gj_iload_n C 1 dL_waitingAt_3 rfl ?_
  refine gj_iload_n C 2 dL_waitingAt_4 rfl ?_
  refine gj_cVI (As := [.int a1, .int a2]) (rest := [.int 0, .ref (gw_a Γ 151)]) C cb_L_94 (s_X3_waitingAt (gw_l K) Γ τ μ o a1 a2 r hf) rfl (Nat.le_of_ble_eq_true rfl) gw_atM rfl rfl dL_waitingAt_5 (gw_rmk rfl) rfl (fun e h => ?_) (fun v h => ?_)
  · have hE := he e h
    subst h
    rcases hE with rfl
    · refine gj_catch C [] ⟨0, 10, 13, 21⟩ [] ht (fun q hq => absurd hq List.not_mem_nil) gw_gX.2.2 (by decide) (by decide) cl_L_21 (name := "java/lang/IndexOutOfBoundsException") ca_IO (fun q => ?_)
      refine gj_astore C 4 [(4, .ref q), (0, .ref (gw_a Γ 0)), (1, .int a1), (2, .int a2), (3, .ref (gw_a Γ 151))] dL_waitingAt_13 (by decide) rfl ?_
      refine gj_iconst (v := 1) C dL_waitingAt_15 (by decide) ?_
      rw [show lw_k ["java/lang/IndexOutOfBoundsException"] (.inr "java/lang/IndexOutOfBoundsException") = 1 from by decide +kernel] at E
      exact gj_iret C E dL_waitingAt_16 (Nat.le_of_ble_eq_true rfl) (Nat.le_of_ble_eq_true rfl)
  · skip
    subst h
    refine gj_i2l C dL_waitingAt_8 ?_
    refine gj_last C (vp_in_nI (n := 0) (N := 1) (by decide) (by decide)) dL_waitingAt_9 ?_
    refine gj_goto C 17 dL_waitingAt_10 (by decide) ?_
    refine gj_iconst (v := 0) C dL_waitingAt_17 (by decide) ?_
    exact gj_iret C E dL_waitingAt_18 (Nat.le_of_ble_eq_true rfl) (Nat.le_of_ble_eq_true rfl)
abbrev gr_L_offerDays : Room := { frames := 8, cells := 2, slots := 12, locals := 127 }
set_option maxRecDepth 100000 in
set_option maxHeartbeats 4000000 in
theorem w_offerDays (l : Launch) (Γ : gw_G) (τ μ : gw_S) (o : Nat → Int64) (a1 : Int32) (a2 : Int32) (r : (Int32 ⊕ String)) (hf : f_X3_offerDays τ a1 a2 = some r) (he : ∀ e, r = .inr e → e = "java/lang/IndexOutOfBoundsException") : gw_M l yL_offerDays [.codeWith yL_offerDays cL_offerDays 5 (some .int) [(0, 10, 13, 21)]] gr_L_offerDays 2 12 Γ [.ref (gw_a Γ 0), .int a1, .int a2, .ref (gw_a Γ 151)] (gw_W Γ τ μ o) (gw_qi Γ (lw_k ["java/lang/IndexOutOfBoundsException"] r) (gw_W Γ τ μ (lw_o r o))) := by
  refine gw_enterW (by decide) (Nat.le_of_ble_eq_true rfl) (fun K C E ht => ?_)
  refine gj_aload_n C 3 dL_offerDays_0 rfl ?_
  refine gj_iconst (v := 0) C dL_offerDays_1 (by decide) ?_
  refine gj_aload_n C 0 dL_offerDays_2 rfl ?_
  refine gj_iload_n C 1 dL_offerDays_3 rfl ?_
  refine gj_iload_n C 2 dL_offerDays_4 rfl ?_
  refine gj_cVI (As := [.int a1, .int a2]) (rest := [.int 0, .ref (gw_a Γ 151)]) C cb_L_97 (s_X3_offerDays (gw_l K) Γ τ μ o a1 a2 r hf) rfl (Nat.le_of_ble_eq_true rfl) gw_atM rfl rfl dL_offerDays_5 (gw_rmk rfl) rfl (fun e h => ?_) (fun v h => ?_)
  · have hE := he e h
    subst h
    rcases hE with rfl
    · refine gj_catch C [] ⟨0, 10, 13, 21⟩ [] ht (fun q hq => absurd hq List.not_mem_nil) gw_gX.2.2 (by decide) (by decide) cl_L_21 (name := "java/lang/IndexOutOfBoundsException") ca_IO (fun q => ?_)
      refine gj_astore C 4 [(4, .ref q), (0, .ref (gw_a Γ 0)), (1, .int a1), (2, .int a2), (3, .ref (gw_a Γ 151))] dL_offerDays_13 (by decide) rfl ?_
      refine gj_iconst (v := 1) C dL_offerDays_15 (by decide) ?_
      rw [show lw_k ["java/lang/IndexOutOfBoundsException"] (.inr "java/lang/IndexOutOfBoundsException") = 1 from by decide +kernel] at E
      exact gj_iret C E dL_offerDays_16 (Nat.le_of_ble_eq_true rfl) (Nat.le_of_ble_eq_true rfl)
  · skip
    subst h
    refine gj_i2l C dL_offerDays_8 ?_
    refine gj_last C (vp_in_nI (n := 0) (N := 1) (by decide) (by decide)) dL_offerDays_9 ?_
    refine gj_goto C 17 dL_offerDays_10 (by decide) ?_
    refine gj_iconst (v := 0) C dL_offerDays_17 (by decide) ?_
    exact gj_iret C E dL_offerDays_18 (Nat.le_of_ble_eq_true rfl) (Nat.le_of_ble_eq_true rfl)
abbrev gr_L_runLottery : Room := { frames := 7, cells := 1, slots := 6, locals := 154 }
set_option maxRecDepth 100000 in
set_option maxHeartbeats 4000000 in
theorem w_runLottery (l : Launch) (Γ : gw_G) (τ μ : gw_S) (o : Nat → Int64) (a1 : Int32) (r : (Int32 ⊕ String) × gw_S) (hf : f_X3_runLottery τ a1 = some r) (he : ∀ e, r.1 = .inr e → e = "java/lang/IllegalArgumentException") : gw_M l yL_runLottery [.codeWith yL_runLottery cL_runLottery 4 (some .int) [(0, 9, 12, 13)]] gr_L_runLottery 1 6 Γ [.ref (gw_a Γ 0), .int a1, .ref (gw_a Γ 151)] (gw_W Γ τ μ o) (gw_qi Γ (lw_k ["java/lang/IllegalArgumentException"] r.1) (gw_W Γ r.2 μ (lw_o r.1 o))) := by
  refine gw_enterW (by decide) (Nat.le_of_ble_eq_true rfl) (fun K C E ht => ?_)
  refine gj_aload_n C 2 dL_runLottery_0 rfl ?_
  refine gj_iconst (v := 0) C dL_runLottery_1 (by decide) ?_
  refine gj_aload_n C 0 dL_runLottery_2 rfl ?_
  refine gj_iload_n C 1 dL_runLottery_3 rfl ?_
  refine gj_cVI (As := [.int a1]) (rest := [.int 0, .ref (gw_a Γ 151)]) C cb_L_100 (s_X3_runLottery (gw_l K) Γ τ μ o a1 r hf) rfl (Nat.le_of_ble_eq_true rfl) gw_atM rfl rfl dL_runLottery_4 (gw_rmk rfl) rfl (fun e h => ?_) (fun v h => ?_)
  · have hE := he e h
    obtain ⟨r1, r2⟩ := r
    dsimp only at h E hE
    subst h
    rcases hE with rfl
    · refine gj_catch C [] ⟨0, 9, 12, 13⟩ [] ht (fun q hq => absurd hq List.not_mem_nil) gw_gX.1 (by decide) (by decide) cl_L_13 (name := "java/lang/IllegalArgumentException") ca_IA (fun q => ?_)
      refine gj_astore_n C 3 [(3, .ref q), (0, .ref (gw_a Γ 0)), (1, .int a1), (2, .ref (gw_a Γ 151))] dL_runLottery_12 rfl (by decide) rfl ?_
      refine gj_iconst (v := 1) C dL_runLottery_13 (by decide) ?_
      rw [show lw_k ["java/lang/IllegalArgumentException"] (.inr "java/lang/IllegalArgumentException") = 1 from by decide +kernel] at E
      exact gj_iret C E dL_runLottery_14 (Nat.le_of_ble_eq_true rfl) (Nat.le_of_ble_eq_true rfl)
  · skip
    obtain ⟨r1, r2⟩ := r
    dsimp only at h E
    subst h
    refine gj_i2l C dL_runLottery_7 ?_
    refine gj_last C (vp_in_nI (n := 0) (N := 1) (by decide) (by decide)) dL_runLottery_8 ?_
    refine gj_goto C 15 dL_runLottery_9 (by decide) ?_
    refine gj_iconst (v := 0) C dL_runLottery_15 (by decide) ?_
    exact gj_iret C E dL_runLottery_16 (Nat.le_of_ble_eq_true rfl) (Nat.le_of_ble_eq_true rfl)
abbrev gr_L_lotteryNumber : Room := { frames := 8, cells := 1, slots := 6, locals := 124 }
set_option maxRecDepth 100000 in
set_option maxHeartbeats 4000000 in
theorem w_lotteryNumber (l : Launch) (Γ : gw_G) (τ μ : gw_S) (o : Nat → Int64) (a1 : Int32) (r : (Int32 ⊕ String)) (hf : f_X3_lotteryNumber τ a1 = some r) (he : ∀ e, r = .inr e → e = "java/lang/IndexOutOfBoundsException") : gw_M l yL_lotteryNumber [.codeWith yL_lotteryNumber cL_lotteryNumber 4 (some .int) [(0, 9, 12, 21)]] gr_L_lotteryNumber 1 6 Γ [.ref (gw_a Γ 0), .int a1, .ref (gw_a Γ 151)] (gw_W Γ τ μ o) (gw_qi Γ (lw_k ["java/lang/IndexOutOfBoundsException"] r) (gw_W Γ τ μ (lw_o r o))) := by
  refine gw_enterW (by decide) (Nat.le_of_ble_eq_true rfl) (fun K C E ht => ?_)
  refine gj_aload_n C 2 dL_lotteryNumber_0 rfl ?_
  refine gj_iconst (v := 0) C dL_lotteryNumber_1 (by decide) ?_
  refine gj_aload_n C 0 dL_lotteryNumber_2 rfl ?_
  refine gj_iload_n C 1 dL_lotteryNumber_3 rfl ?_
  refine gj_cVI (As := [.int a1]) (rest := [.int 0, .ref (gw_a Γ 151)]) C cb_L_103 (s_X3_lotteryNumber (gw_l K) Γ τ μ o a1 r hf) rfl (Nat.le_of_ble_eq_true rfl) gw_atM rfl rfl dL_lotteryNumber_4 (gw_rmk rfl) rfl (fun e h => ?_) (fun v h => ?_)
  · have hE := he e h
    subst h
    rcases hE with rfl
    · refine gj_catch C [] ⟨0, 9, 12, 21⟩ [] ht (fun q hq => absurd hq List.not_mem_nil) gw_gX.2.2 (by decide) (by decide) cl_L_21 (name := "java/lang/IndexOutOfBoundsException") ca_IO (fun q => ?_)
      refine gj_astore_n C 3 [(3, .ref q), (0, .ref (gw_a Γ 0)), (1, .int a1), (2, .ref (gw_a Γ 151))] dL_lotteryNumber_12 rfl (by decide) rfl ?_
      refine gj_iconst (v := 1) C dL_lotteryNumber_13 (by decide) ?_
      rw [show lw_k ["java/lang/IndexOutOfBoundsException"] (.inr "java/lang/IndexOutOfBoundsException") = 1 from by decide +kernel] at E
      exact gj_iret C E dL_lotteryNumber_14 (Nat.le_of_ble_eq_true rfl) (Nat.le_of_ble_eq_true rfl)
  · skip
    subst h
    refine gj_i2l C dL_lotteryNumber_7 ?_
    refine gj_last C (vp_in_nI (n := 0) (N := 1) (by decide) (by decide)) dL_lotteryNumber_8 ?_
    refine gj_goto C 15 dL_lotteryNumber_9 (by decide) ?_
    refine gj_iconst (v := 0) C dL_lotteryNumber_15 (by decide) ?_
    exact gj_iret C E dL_lotteryNumber_16 (Nat.le_of_ble_eq_true rfl) (Nat.le_of_ble_eq_true rfl)
abbrev gr_L_putUp : Room := { frames := 8, cells := 3, slots := 18, locals := 128 }
set_option maxRecDepth 100000 in
set_option maxHeartbeats 4000000 in
theorem w_putUp (l : Launch) (Γ : gw_G) (τ μ : gw_S) (o : Nat → Int64) (a1 : Int32) (a2 : Int32) (r : (Int32 ⊕ String) × gw_S) (hf : f_X3_putUp τ a1 a2 = some r) (he : ∀ e, r.1 = .inr e → e = "java/lang/IndexOutOfBoundsException" ∨ e = "java/lang/IllegalStateException") : gw_M l yL_putUp [.codeWith yL_putUp cL_putUp 5 (some .int) [(0, 10, 13, 21), (0, 10, 17, 15)]] gr_L_putUp 3 18 Γ [.ref (gw_a Γ 0), .int a1, .int a2, .ref (gw_a Γ 151)] (gw_W Γ τ μ o) (gw_qi Γ (lw_k ["java/lang/IndexOutOfBoundsException", "java/lang/IllegalStateException"] r.1) (gw_W Γ r.2 μ (lw_o r.1 o))) := by
  refine gw_enterW (by decide) (Nat.le_of_ble_eq_true rfl) (fun K C E ht => ?_)
  refine gj_aload_n C 3 dL_putUp_0 rfl ?_
  refine gj_iconst (v := 0) C dL_putUp_1 (by decide) ?_
  refine gj_aload_n C 0 dL_putUp_2 rfl ?_
  refine gj_iload_n C 1 dL_putUp_3 rfl ?_
  refine gj_iload_n C 2 dL_putUp_4 rfl ?_
  refine gj_cVI (As := [.int a1, .int a2]) (rest := [.int 0, .ref (gw_a Γ 151)]) C cb_L_106 (s_X3_putUp (gw_l K) Γ τ μ o a1 a2 r hf) rfl (Nat.le_of_ble_eq_true rfl) gw_atM rfl rfl dL_putUp_5 (gw_rmk rfl) rfl (fun e h => ?_) (fun v h => ?_)
  · have hE := he e h
    obtain ⟨r1, r2⟩ := r
    dsimp only at h E hE
    subst h
    rcases hE with rfl | rfl
    · refine gj_catch C [] ⟨0, 10, 13, 21⟩ [⟨0, 10, 17, 15⟩] ht (fun q hq => absurd hq List.not_mem_nil) gw_gX.2.2 (by decide) (by decide) cl_L_21 (name := "java/lang/IndexOutOfBoundsException") ca_IO (fun q => ?_)
      refine gj_astore C 4 [(4, .ref q), (0, .ref (gw_a Γ 0)), (1, .int a1), (2, .int a2), (3, .ref (gw_a Γ 151))] dL_putUp_13 (by decide) rfl ?_
      refine gj_iconst (v := 1) C dL_putUp_15 (by decide) ?_
      rw [show lw_k ["java/lang/IndexOutOfBoundsException", "java/lang/IllegalStateException"] (.inr "java/lang/IndexOutOfBoundsException") = 1 from by decide +kernel] at E
      exact gj_iret C E dL_putUp_16 (Nat.le_of_ble_eq_true rfl) (Nat.le_of_ble_eq_true rfl)
    · refine gj_catch C [⟨0, 10, 13, 21⟩] ⟨0, 10, 17, 15⟩ [] ht (fun q hq => by
        rcases List.mem_cons.mp hq with rfl | hq; · exact ⟨by decide, "java/lang/IndexOutOfBoundsException", cl_L_21, by decide, gw_gX.2.2⟩
        exact absurd hq List.not_mem_nil) gw_gX.2.1 (by decide) (by decide) cl_L_15 (name := "java/lang/IllegalStateException") ca_IS (fun q => ?_)
      refine gj_astore C 4 [(4, .ref q), (0, .ref (gw_a Γ 0)), (1, .int a1), (2, .int a2), (3, .ref (gw_a Γ 151))] dL_putUp_17 (by decide) rfl ?_
      refine gj_iconst (v := 2) C dL_putUp_19 (by decide) ?_
      rw [show lw_k ["java/lang/IndexOutOfBoundsException", "java/lang/IllegalStateException"] (.inr "java/lang/IllegalStateException") = 2 from by decide +kernel] at E
      exact gj_iret C E dL_putUp_20 (Nat.le_of_ble_eq_true rfl) (Nat.le_of_ble_eq_true rfl)
  · skip
    obtain ⟨r1, r2⟩ := r
    dsimp only at h E
    subst h
    refine gj_i2l C dL_putUp_8 ?_
    refine gj_last C (vp_in_nI (n := 0) (N := 1) (by decide) (by decide)) dL_putUp_9 ?_
    refine gj_goto C 21 dL_putUp_10 (by decide) ?_
    refine gj_iconst (v := 0) C dL_putUp_21 (by decide) ?_
    exact gj_iret C E dL_putUp_22 (Nat.le_of_ble_eq_true rfl) (Nat.le_of_ble_eq_true rfl)
abbrev gr_L_withdraw : Room := { frames := 8, cells := 1, slots := 6, locals := 126 }
set_option maxRecDepth 100000 in
set_option maxHeartbeats 4000000 in
theorem w_withdraw (l : Launch) (Γ : gw_G) (τ μ : gw_S) (o : Nat → Int64) (a1 : Int32) (r : (Int32 ⊕ String) × gw_S) (hf : f_X3_withdraw τ a1 = some r) (he : ∀ e, r.1 = .inr e → e = "java/lang/IndexOutOfBoundsException") : gw_M l yL_withdraw [.codeWith yL_withdraw cL_withdraw 4 (some .int) [(0, 9, 12, 21)]] gr_L_withdraw 1 6 Γ [.ref (gw_a Γ 0), .int a1, .ref (gw_a Γ 151)] (gw_W Γ τ μ o) (gw_qi Γ (lw_k ["java/lang/IndexOutOfBoundsException"] r.1) (gw_W Γ r.2 μ (lw_o r.1 o))) := by
  refine gw_enterW (by decide) (Nat.le_of_ble_eq_true rfl) (fun K C E ht => ?_)
  refine gj_aload_n C 2 dL_withdraw_0 rfl ?_
  refine gj_iconst (v := 0) C dL_withdraw_1 (by decide) ?_
  refine gj_aload_n C 0 dL_withdraw_2 rfl ?_
  refine gj_iload_n C 1 dL_withdraw_3 rfl ?_
  refine gj_cVI (As := [.int a1]) (rest := [.int 0, .ref (gw_a Γ 151)]) C cb_L_109 (s_X3_withdraw (gw_l K) Γ τ μ o a1 r hf) rfl (Nat.le_of_ble_eq_true rfl) gw_atM rfl rfl dL_withdraw_4 (gw_rmk rfl) rfl (fun e h => ?_) (fun v h => ?_)
  · have hE := he e h
    obtain ⟨r1, r2⟩ := r
    dsimp only at h E hE
    subst h
    rcases hE with rfl
    · refine gj_catch C [] ⟨0, 9, 12, 21⟩ [] ht (fun q hq => absurd hq List.not_mem_nil) gw_gX.2.2 (by decide) (by decide) cl_L_21 (name := "java/lang/IndexOutOfBoundsException") ca_IO (fun q => ?_)
      refine gj_astore_n C 3 [(3, .ref q), (0, .ref (gw_a Γ 0)), (1, .int a1), (2, .ref (gw_a Γ 151))] dL_withdraw_12 rfl (by decide) rfl ?_
      refine gj_iconst (v := 1) C dL_withdraw_13 (by decide) ?_
      rw [show lw_k ["java/lang/IndexOutOfBoundsException"] (.inr "java/lang/IndexOutOfBoundsException") = 1 from by decide +kernel] at E
      exact gj_iret C E dL_withdraw_14 (Nat.le_of_ble_eq_true rfl) (Nat.le_of_ble_eq_true rfl)
  · skip
    obtain ⟨r1, r2⟩ := r
    dsimp only at h E
    subst h
    refine gj_i2l C dL_withdraw_7 ?_
    refine gj_last C (vp_in_nI (n := 0) (N := 1) (by decide) (by decide)) dL_withdraw_8 ?_
    refine gj_goto C 15 dL_withdraw_9 (by decide) ?_
    refine gj_iconst (v := 0) C dL_withdraw_15 (by decide) ?_
    exact gj_iret C E dL_withdraw_16 (Nat.le_of_ble_eq_true rfl) (Nat.le_of_ble_eq_true rfl)
abbrev gr_L_placeUp : Room := { frames := 8, cells := 1, slots := 6, locals := 124 }
set_option maxRecDepth 100000 in
set_option maxHeartbeats 4000000 in
theorem w_placeUp (l : Launch) (Γ : gw_G) (τ μ : gw_S) (o : Nat → Int64) (a1 : Int32) (r : (Int32 ⊕ String)) (hf : f_X3_placeUp τ a1 = some r) (he : ∀ e, r = .inr e → e = "java/lang/IndexOutOfBoundsException") : gw_M l yL_placeUp [.codeWith yL_placeUp cL_placeUp 4 (some .int) [(0, 9, 12, 21)]] gr_L_placeUp 1 6 Γ [.ref (gw_a Γ 0), .int a1, .ref (gw_a Γ 151)] (gw_W Γ τ μ o) (gw_qi Γ (lw_k ["java/lang/IndexOutOfBoundsException"] r) (gw_W Γ τ μ (lw_o r o))) := by
  refine gw_enterW (by decide) (Nat.le_of_ble_eq_true rfl) (fun K C E ht => ?_)
  refine gj_aload_n C 2 dL_placeUp_0 rfl ?_
  refine gj_iconst (v := 0) C dL_placeUp_1 (by decide) ?_
  refine gj_aload_n C 0 dL_placeUp_2 rfl ?_
  refine gj_iload_n C 1 dL_placeUp_3 rfl ?_
  refine gj_cVI (As := [.int a1]) (rest := [.int 0, .ref (gw_a Γ 151)]) C cb_L_112 (s_X3_placeUp (gw_l K) Γ τ μ o a1 r hf) rfl (Nat.le_of_ble_eq_true rfl) gw_atM rfl rfl dL_placeUp_4 (gw_rmk rfl) rfl (fun e h => ?_) (fun v h => ?_)
  · have hE := he e h
    subst h
    rcases hE with rfl
    · refine gj_catch C [] ⟨0, 9, 12, 21⟩ [] ht (fun q hq => absurd hq List.not_mem_nil) gw_gX.2.2 (by decide) (by decide) cl_L_21 (name := "java/lang/IndexOutOfBoundsException") ca_IO (fun q => ?_)
      refine gj_astore_n C 3 [(3, .ref q), (0, .ref (gw_a Γ 0)), (1, .int a1), (2, .ref (gw_a Γ 151))] dL_placeUp_12 rfl (by decide) rfl ?_
      refine gj_iconst (v := 1) C dL_placeUp_13 (by decide) ?_
      rw [show lw_k ["java/lang/IndexOutOfBoundsException"] (.inr "java/lang/IndexOutOfBoundsException") = 1 from by decide +kernel] at E
      exact gj_iret C E dL_placeUp_14 (Nat.le_of_ble_eq_true rfl) (Nat.le_of_ble_eq_true rfl)
  · skip
    subst h
    refine gj_i2l C dL_placeUp_7 ?_
    refine gj_last C (vp_in_nI (n := 0) (N := 1) (by decide) (by decide)) dL_placeUp_8 ?_
    refine gj_goto C 15 dL_placeUp_9 (by decide) ?_
    refine gj_iconst (v := 0) C dL_placeUp_15 (by decide) ?_
    exact gj_iret C E dL_placeUp_16 (Nat.le_of_ble_eq_true rfl) (Nat.le_of_ble_eq_true rfl)
abbrev gr_L_pointsTo : Room := { frames := 8, cells := 2, slots := 12, locals := 137 }
set_option maxRecDepth 100000 in
set_option maxHeartbeats 4000000 in
theorem w_pointsTo (l : Launch) (Γ : gw_G) (τ μ : gw_S) (o : Nat → Int64) (a1 : Int32) (r : (Int32 ⊕ String)) (hf : f_X3_pointsTo τ a1 = some r) (he : ∀ e, r = .inr e → e = "java/lang/IndexOutOfBoundsException" ∨ e = "java/lang/IllegalStateException") : gw_M l yL_pointsTo [.codeWith yL_pointsTo cL_pointsTo 4 (some .int) [(0, 9, 12, 21), (0, 9, 15, 15)]] gr_L_pointsTo 2 12 Γ [.ref (gw_a Γ 0), .int a1, .ref (gw_a Γ 151)] (gw_W Γ τ μ o) (gw_qi Γ (lw_k ["java/lang/IndexOutOfBoundsException", "java/lang/IllegalStateException"] r) (gw_W Γ τ μ (lw_o r o))) := by
  refine gw_enterW (by decide) (Nat.le_of_ble_eq_true rfl) (fun K C E ht => ?_)
  refine gj_aload_n C 2 dL_pointsTo_0 rfl ?_
  refine gj_iconst (v := 0) C dL_pointsTo_1 (by decide) ?_
  refine gj_aload_n C 0 dL_pointsTo_2 rfl ?_
  refine gj_iload_n C 1 dL_pointsTo_3 rfl ?_
  refine gj_cVI (As := [.int a1]) (rest := [.int 0, .ref (gw_a Γ 151)]) C cb_L_115 (s_X3_pointsTo (gw_l K) Γ τ μ o a1 r hf) rfl (Nat.le_of_ble_eq_true rfl) gw_atM rfl rfl dL_pointsTo_4 (gw_rmk rfl) rfl (fun e h => ?_) (fun v h => ?_)
  · have hE := he e h
    subst h
    rcases hE with rfl | rfl
    · refine gj_catch C [] ⟨0, 9, 12, 21⟩ [⟨0, 9, 15, 15⟩] ht (fun q hq => absurd hq List.not_mem_nil) gw_gX.2.2 (by decide) (by decide) cl_L_21 (name := "java/lang/IndexOutOfBoundsException") ca_IO (fun q => ?_)
      refine gj_astore_n C 3 [(3, .ref q), (0, .ref (gw_a Γ 0)), (1, .int a1), (2, .ref (gw_a Γ 151))] dL_pointsTo_12 rfl (by decide) rfl ?_
      refine gj_iconst (v := 1) C dL_pointsTo_13 (by decide) ?_
      rw [show lw_k ["java/lang/IndexOutOfBoundsException", "java/lang/IllegalStateException"] (.inr "java/lang/IndexOutOfBoundsException") = 1 from by decide +kernel] at E
      exact gj_iret C E dL_pointsTo_14 (Nat.le_of_ble_eq_true rfl) (Nat.le_of_ble_eq_true rfl)
    · refine gj_catch C [⟨0, 9, 12, 21⟩] ⟨0, 9, 15, 15⟩ [] ht (fun q hq => by
        rcases List.mem_cons.mp hq with rfl | hq; · exact ⟨by decide, "java/lang/IndexOutOfBoundsException", cl_L_21, by decide, gw_gX.2.2⟩
        exact absurd hq List.not_mem_nil) gw_gX.2.1 (by decide) (by decide) cl_L_15 (name := "java/lang/IllegalStateException") ca_IS (fun q => ?_)
      refine gj_astore_n C 3 [(3, .ref q), (0, .ref (gw_a Γ 0)), (1, .int a1), (2, .ref (gw_a Γ 151))] dL_pointsTo_15 rfl (by decide) rfl ?_
      refine gj_iconst (v := 2) C dL_pointsTo_16 (by decide) ?_
      rw [show lw_k ["java/lang/IndexOutOfBoundsException", "java/lang/IllegalStateException"] (.inr "java/lang/IllegalStateException") = 2 from by decide +kernel] at E
      exact gj_iret C E dL_pointsTo_17 (Nat.le_of_ble_eq_true rfl) (Nat.le_of_ble_eq_true rfl)
  · skip
    subst h
    refine gj_i2l C dL_pointsTo_7 ?_
    refine gj_last C (vp_in_nI (n := 0) (N := 1) (by decide) (by decide)) dL_pointsTo_8 ?_
    refine gj_goto C 18 dL_pointsTo_9 (by decide) ?_
    refine gj_iconst (v := 0) C dL_pointsTo_18 (by decide) ?_
    exact gj_iret C E dL_pointsTo_19 (Nat.le_of_ble_eq_true rfl) (Nat.le_of_ble_eq_true rfl)
