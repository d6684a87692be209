/-! THE WALKS of the methods, written by program (wip/p40/gen.py) -/
abbrev gr_X3_isOutside : Room := { frames := 0, cells := 0, slots := 0, locals := 0 }
abbrev gr_X3_addCourse : Room := { frames := 6, cells := 1, slots := 6, locals := 82 }
abbrev gr_X3_courseAt : Room := { frames := 6, cells := 1, slots := 6, locals := 82 }
abbrev gr_X3_courseAtr : Room := { frames := 0, cells := 0, slots := 0, locals := 0 }
abbrev gr_X3_isIn : Room := { frames := 0, cells := 0, slots := 0, locals := 0 }
abbrev gr_X3_enrolledIn : Room := { frames := 1, cells := 0, slots := 0, locals := 21 }
abbrev gr_X0_offers : Room := { frames := 0, cells := 0, slots := 0, locals := 0 }
abbrev gr_X3_takenSeats : Room := { frames := 2, cells := 0, slots := 0, locals := 44 }
abbrev gr_X3_freeIn : Room := { frames := 3, cells := 0, slots := 0, locals := 65 }
abbrev gr_X1_size : Room := { frames := 0, cells := 0, slots := 0, locals := 0 }
abbrev gr_X1_at : Room := { frames := 0, cells := 0, slots := 0, locals := 0 }
abbrev gr_X3_studentAt : Room := { frames := 6, cells := 1, slots := 6, locals := 82 }
abbrev gr_X3_studentAtr : Room := { frames := 0, cells := 0, slots := 0, locals := 0 }
abbrev gr_X0_hasOfferFor : Room := { frames := 0, cells := 0, slots := 0, locals := 0 }
abbrev gr_X3_creditsOf : Room := { frames := 1, cells := 0, slots := 0, locals := 21 }
abbrev gr_X3_hoursOf : Room := { frames := 1, cells := 0, slots := 0, locals := 21 }
abbrev gr_X3_obstacleFor : Room := { frames := 2, cells := 0, slots := 0, locals := 44 }
abbrev gr_X3_makeOffersFor : Room := { frames := 4, cells := 0, slots := 0, locals := 86 }
abbrev gr_X3_makeOffers : Room := { frames := 5, cells := 0, slots := 0, locals := 110 }
abbrev gr_X3_setSeats : Room := { frames := 7, cells := 2, slots := 12, locals := 131 }
abbrev gr_X3_bit : Room := { frames := 0, cells := 0, slots := 0, locals := 0 }
abbrev gr_X3_spreadRequired : Room := { frames := 1, cells := 0, slots := 0, locals := 21 }
abbrev gr_J6_bitCount_0f7a4 : Room := { frames := 0, cells := 0, slots := 0, locals := 0 }
abbrev gr_X3_addPrerequisite : Room := { frames := 7, cells := 3, slots := 18, locals := 103 }
abbrev gr_X3_requires : Room := { frames := 7, cells := 2, slots := 12, locals := 103 }
abbrev gr_X3_requiresr : Room := { frames := 1, cells := 0, slots := 0, locals := 21 }
abbrev gr_X3_directOf : Room := { frames := 1, cells := 0, slots := 0, locals := 21 }
abbrev gr_X3_levelOf : Room := { frames := 2, cells := 0, slots := 0, locals := 44 }
abbrev gr_X3_level : Room := { frames := 7, cells := 1, slots := 6, locals := 103 }
abbrev gr_X3_levelr : Room := { frames := 3, cells := 0, slots := 0, locals := 67 }
abbrev gr_X3_courses : Room := { frames := 0, cells := 0, slots := 0, locals := 0 }
abbrev gr_X3_enrolled : Room := { frames := 7, cells := 1, slots := 6, locals := 103 }
abbrev gr_X3_enrolledr : Room := { frames := 2, cells := 0, slots := 0, locals := 44 }
abbrev gr_X3_freeSeats : Room := { frames := 7, cells := 1, slots := 6, locals := 103 }
abbrev gr_X3_freeSeatsr : Room := { frames := 4, cells := 0, slots := 0, locals := 86 }
abbrev gr_X3_addStudent : Room := { frames := 6, cells := 1, slots := 6, locals := 82 }
abbrev gr_X1_placeOf : Room := { frames := 0, cells := 0, slots := 0, locals := 0 }
abbrev gr_X1_remove : Room := { frames := 1, cells := 0, slots := 0, locals := 22 }
abbrev gr_X0_takeOff : Room := { frames := 2, cells := 0, slots := 0, locals := 45 }
abbrev gr_X3_pass : Room := { frames := 7, cells := 3, slots := 18, locals := 131 }
abbrev gr_X3_students : Room := { frames := 0, cells := 0, slots := 0, locals := 0 }
abbrev gr_X3_hasPassed : Room := { frames := 7, cells := 2, slots := 12, locals := 103 }
abbrev gr_X3_hasPassedr : Room := { frames := 1, cells := 0, slots := 0, locals := 21 }
abbrev gr_X3_isEnrolled : Room := { frames := 7, cells := 2, slots := 12, locals := 103 }
abbrev gr_X3_isEnrolledr : Room := { frames := 1, cells := 0, slots := 0, locals := 21 }
abbrev gr_X3_credits : Room := { frames := 7, cells := 1, slots := 6, locals := 103 }
abbrev gr_X3_creditsr : Room := { frames := 2, cells := 0, slots := 0, locals := 44 }
abbrev gr_X3_missing : Room := { frames := 7, cells := 2, slots := 12, locals := 103 }
abbrev gr_X3_missingr : Room := { frames := 1, cells := 0, slots := 0, locals := 21 }
abbrev gr_X3_obstacle : Room := { frames := 7, cells := 2, slots := 12, locals := 103 }
abbrev gr_X3_obstacler : Room := { frames := 3, cells := 0, slots := 0, locals := 67 }
abbrev gr_X1_add : Room := { frames := 0, cells := 0, slots := 0, locals := 0 }
abbrev gr_X3_wish : Room := { frames := 7, cells := 3, slots := 18, locals := 103 }
abbrev gr_X3_dropWish : Room := { frames := 7, cells := 3, slots := 18, locals := 103 }
abbrev gr_X3_wishes : Room := { frames := 7, cells := 1, slots := 6, locals := 103 }
abbrev gr_X3_wishesr : Room := { frames := 1, cells := 0, slots := 0, locals := 21 }
abbrev gr_X3_foundAt : Room := { frames := 6, cells := 1, slots := 6, locals := 82 }
abbrev gr_X3_foundAtr : Room := { frames := 1, cells := 0, slots := 0, locals := 21 }
abbrev gr_X3_wishAt : Room := { frames := 7, cells := 2, slots := 12, locals := 104 }
abbrev gr_X3_wishAtr : Room := { frames := 2, cells := 0, slots := 0, locals := 43 }
abbrev gr_X3_enrol : Room := { frames := 3, cells := 0, slots := 0, locals := 66 }
abbrev gr_X3_request : Room := { frames := 7, cells := 3, slots := 18, locals := 131 }
abbrev gr_X3_endEnrolment : Room := { frames := 1, cells := 0, slots := 0, locals := 20 }
abbrev gr_X3_drop : Room := { frames := 7, cells := 3, slots := 18, locals := 131 }
abbrev gr_X3_change : Room := { frames := 7, cells := 4, slots := 24, locals := 131 }
abbrev gr_X3_accept : Room := { frames := 7, cells := 3, slots := 18, locals := 131 }
abbrev gr_X3_leave : Room := { frames := 7, cells := 3, slots := 18, locals := 131 }
abbrev gr_X3_daysLeft : Room := { frames := 0, cells := 0, slots := 0, locals := 0 }
abbrev gr_X3_endOldOffers : Room := { frames := 3, cells := 0, slots := 0, locals := 66 }
abbrev gr_X3_advance : Room := { frames := 6, cells := 1, slots := 6, locals := 131 }
abbrev gr_X3_day : Room := { frames := 0, cells := 0, slots := 0, locals := 0 }
abbrev gr_X3_waiting : Room := { frames := 7, cells := 1, slots := 6, locals := 103 }
abbrev gr_X3_waitingr : Room := { frames := 1, cells := 0, slots := 0, locals := 21 }
abbrev gr_X3_waitingAt : Room := { frames := 7, cells := 2, slots := 12, locals := 104 }
abbrev gr_X3_waitingAtr : Room := { frames := 2, cells := 0, slots := 0, locals := 43 }
abbrev gr_X3_offerDays : Room := { frames := 7, cells := 2, slots := 12, locals := 103 }
abbrev gr_X3_offerDaysr : Room := { frames := 1, cells := 0, slots := 0, locals := 22 }
abbrev gr_X3_drawNumbers : Room := { frames := 0, cells := 0, slots := 0, locals := 0 }
abbrev gr_X3_turnOf : Room := { frames := 0, cells := 0, slots := 0, locals := 0 }
abbrev gr_X3_orderTurns : Room := { frames := 1, cells := 0, slots := 0, locals := 20 }
abbrev gr_X3_takeTurn : Room := { frames := 4, cells := 0, slots := 0, locals := 88 }
abbrev gr_X3_runLottery : Room := { frames := 6, cells := 1, slots := 6, locals := 131 }
abbrev gr_X3_lotteryNumber : Room := { frames := 7, cells := 1, slots := 6, locals := 103 }
abbrev gr_X3_lotteryNumberr : Room := { frames := 1, cells := 0, slots := 0, locals := 21 }
abbrev gr_X3_putUp : Room := { frames := 7, cells := 3, slots := 18, locals := 103 }
abbrev gr_X3_withdraw : Room := { frames := 7, cells := 1, slots := 6, locals := 103 }
abbrev gr_X3_placeUp : Room := { frames := 7, cells := 1, slots := 6, locals := 103 }
abbrev gr_X3_placeUpr : Room := { frames := 1, cells := 0, slots := 0, locals := 21 }
abbrev gr_X3_participants : Room := { frames := 1, cells := 0, slots := 0, locals := 20 }
abbrev gr_X3_firstWhoPutUp : Room := { frames := 1, cells := 0, slots := 0, locals := 21 }
abbrev gr_X3_isAcceptable : Room := { frames := 3, cells := 0, slots := 0, locals := 67 }
abbrev gr_X3_targetOf : Room := { frames := 4, cells := 0, slots := 0, locals := 90 }
abbrev gr_X3_pointsTo : Room := { frames := 7, cells := 2, slots := 12, locals := 115 }
abbrev gr_X3_pointsTor : Room := { frames := 5, cells := 0, slots := 0, locals := 115 }
abbrev gr_X3_pointAll : Room := { frames := 5, cells := 0, slots := 0, locals := 115 }
abbrev gr_X3_isOnCircle : Room := { frames := 1, cells := 0, slots := 0, locals := 21 }
abbrev gr_X3_onCircles : Room := { frames := 2, cells := 0, slots := 0, locals := 44 }
abbrev gr_X3_movePlaces : Room := { frames := 4, cells := 0, slots := 0, locals := 88 }
abbrev gr_X3_runExchange : Room := { frames := 6, cells := 0, slots := 0, locals := 138 }
theorem gw_xm {ρ σ ε : Type} {r : ρ ⊕ ε} {a : ρ → Option (σ ⊕ ε)} {z : σ} (h : gw_xb r a (fun e => some (.inr e)) = some (.inl z)) : ∃ v, r = .inl v ∧ a v = some (.inl z) := by
  cases r with
  | inl v => exact ⟨v, rfl, h⟩
  | inr e => cases h
set_option maxRecDepth 100000 in
set_option maxHeartbeats 4000000 in
theorem s_X3_isOutside (l : Launch) (Γ : gw_G) (τ μ : gw_S) (o : Nat → Int64) (a0 : Int32) (a1 : Int32) (a2 : Int32) (r : Int32) (hf : f_X3_isOutside τ a0 a1 a2 = some r) : gw_M l yX3_isOutside [.code yX3_isOutside cX3_isOutside 3 (some .boolean)] gr_X3_isOutside 0 0 Γ [.int a0, .int a1, .int a2] (gw_W Γ τ μ o) (gw_qi Γ r (gw_W Γ τ μ o)) := by
  refine gw_enter (by decide) (Nat.le_of_ble_eq_true rfl) (fun K C E => ?_)
  unfold f_X3_isOutside at hf
  refine gj_iload_n C 0 dX3_isOutside_0 rfl ?_
  refine gj_iload_n C 1 dX3_isOutside_1 rfl ?_
  refine gj_ic_lt C 10 dX3_isOutside_2 (by decide) (fun c => ?_) (fun c => ?_)
  · replace hf := gw_ift hf c
    refine gj_iconst (v := 1) C dX3_isOutside_10 (by decide) ?_
    refine gj_goto C 15 dX3_isOutside_11 (by decide) ?_
    cases hf
    exact gj_zret C E (by decide) dX3_isOutside_15 (Nat.le_of_ble_eq_true rfl) (Nat.le_of_ble_eq_true rfl)
  · replace hf := gw_iff hf c
    refine gj_iload_n C 0 dX3_isOutside_5 rfl ?_
    refine gj_iload_n C 2 dX3_isOutside_6 rfl ?_
    refine gj_ic_le C 14 dX3_isOutside_7 (by decide) (fun c => ?_) (fun c => ?_)
    · replace hf := gw_ift hf c
      refine gj_iconst (v := 0) C dX3_isOutside_14 (by decide) ?_
      cases hf
      exact gj_zret C E (by decide) dX3_isOutside_15 (Nat.le_of_ble_eq_true rfl) (Nat.le_of_ble_eq_true rfl)
    · replace hf := gw_iff hf c
      refine gj_iconst (v := 1) C dX3_isOutside_10 (by decide) ?_
      refine gj_goto C 15 dX3_isOutside_11 (by decide) ?_
      cases hf
      exact gj_zret C E (by decide) dX3_isOutside_15 (Nat.le_of_ble_eq_true rfl) (Nat.le_of_ble_eq_true rfl)
set_option maxRecDepth 100000 in
set_option maxHeartbeats 4000000 in
theorem s_X3_addCourse (l : Launch) (Γ : gw_G) (τ μ : gw_S) (o : Nat → Int64) (a1 : Int32) (a2 : Int32) (a3 : Int32) (r : (Int32 ⊕ String) × gw_S) (hf : f_X3_addCourse τ a1 a2 a3 = some r) : gw_MX l yX3_addCourse [.code yX3_addCourse cX3_addCourse 5 (some .int)] gr_X3_addCourse 1 6 Γ [.ref (gw_a Γ 0), .int a1, .int a2, .int a3] (gw_W Γ τ μ o) (gw_qI Γ r.1 (gw_W Γ r.2 μ o)) (gw_x Γ r.1 (gw_W Γ r.2 μ o)) := by
  refine gw_enterX (by decide) (Nat.le_of_ble_eq_true rfl) (fun K C E => ?_)
  unfold f_X3_addCourse at hf
  refine gj_iload_n C 1 dX3_addCourse_0 rfl ?_
  refine gj_iconst (v := 0) C dX3_addCourse_1 (by decide) ?_
  refine gj_bipush (v := 16) C dX3_addCourse_2 (by decide) ?_
  replace hf := gw_bnd hf
  obtain ⟨r1, hr1, hf⟩ := hf
  refine gj_cSi (As := [.int a1, .int (0 : Int32), .int (16 : Int32)]) (rest := []) C cb_X3_39 (s_X3_isOutside (gw_l K) Γ τ μ o a1 (0 : Int32) (16 : Int32) r1 hr1) rfl (Nat.le_of_ble_eq_true rfl) dX3_addCourse_4 (gw_rmk rfl) rfl ?_
  refine gj_if_ne C 30 dX3_addCourse_7 (by decide) (fun c => ?_) (fun c => ?_)
  · replace hf := gw_iff hf c
    cases hf
    exact gj_throw C rfl E (by decide) cl_44 ini_44 st_46 at_48 dX3_addCourse_30 dX3_addCourse_33 dX3_addCourse_34 dX3_addCourse_36 dX3_addCourse_39 ⟨(Nat.le_of_ble_eq_true rfl), (Nat.le_of_ble_eq_true rfl)⟩ ⟨(Nat.le_of_ble_eq_true rfl), (Nat.le_of_ble_eq_true rfl)⟩ (Nat.le_of_ble_eq_true rfl) (Nat.le_of_ble_eq_true rfl)
  · replace hf := gw_ift hf c
    refine gj_iload_n C 2 dX3_addCourse_10 rfl ?_
    refine gj_iconst (v := 1) C dX3_addCourse_11 (by decide) ?_
    refine gj_bipush (v := 12) C dX3_addCourse_12 (by decide) ?_
    replace hf := gw_bnd hf
    obtain ⟨r2, hr2, hf⟩ := hf
    refine gj_cSi (As := [.int a2, .int (1 : Int32), .int (12 : Int32)]) (rest := []) C cb_X3_39 (s_X3_isOutside (gw_l K) Γ τ μ o a2 (1 : Int32) (12 : Int32) r2 hr2) rfl (Nat.le_of_ble_eq_true rfl) dX3_addCourse_14 (gw_rmk rfl) rfl ?_
    refine gj_if_ne C 30 dX3_addCourse_17 (by decide) (fun c => ?_) (fun c => ?_)
    · replace hf := gw_iff hf c
      cases hf
      exact gj_throw C rfl E (by decide) cl_44 ini_44 st_46 at_48 dX3_addCourse_30 dX3_addCourse_33 dX3_addCourse_34 dX3_addCourse_36 dX3_addCourse_39 ⟨(Nat.le_of_ble_eq_true rfl), (Nat.le_of_ble_eq_true rfl)⟩ ⟨(Nat.le_of_ble_eq_true rfl), (Nat.le_of_ble_eq_true rfl)⟩ (Nat.le_of_ble_eq_true rfl) (Nat.le_of_ble_eq_true rfl)
    · replace hf := gw_ift hf c
      refine gj_iload_n C 3 dX3_addCourse_20 rfl ?_
      refine gj_iconst (v := 0) C dX3_addCourse_21 (by decide) ?_
      refine gj_ldc (v := 1073741823) C cst_X3_43 dX3_addCourse_22 ?_
      replace hf := gw_bnd hf
      obtain ⟨r3, hr3, hf⟩ := hf
      refine gj_cSi (As := [.int a3, .int (0 : Int32), .int (1073741823 : Int32)]) (rest := []) C cb_X3_39 (s_X3_isOutside (gw_l K) Γ τ μ o a3 (0 : Int32) (1073741823 : Int32) r3 hr3) rfl (Nat.le_of_ble_eq_true rfl) dX3_addCourse_24 (gw_rmk rfl) rfl ?_
      refine gj_if_eq C 40 dX3_addCourse_27 (by decide) (fun c => ?_) (fun c => ?_)
      · replace hf := gw_ift hf c
        refine gj_aload_n C 0 dX3_addCourse_40 rfl ?_
        refine g_X3_25 C  rfl dX3_addCourse_41 ?_
        refine gj_aload_n C 0 dX3_addCourse_44 rfl ?_
        refine g_X3_11 C  dX3_addCourse_45 ?_
        refine gj_alen1 C dX3_addCourse_48 ?_
        refine gj_ic_lt C 62 dX3_addCourse_49 (by decide) (fun c => ?_) (fun c => ?_)
        · replace hf := gw_ift hf c
          refine gj_aload_n C 0 dX3_addCourse_62 rfl ?_
          refine g_X3_11 C  dX3_addCourse_63 ?_
          refine gj_aload_n C 0 dX3_addCourse_66 rfl ?_
          refine g_X3_25 C  rfl dX3_addCourse_67 ?_
          obtain ⟨g4, hf⟩ := gw_ifs hf
          refine gj_ald1 C (gw_ibv g4) dX3_addCourse_70 ?_
          refine gj_astore C 4 [(4, .ref (gw_a Γ (4 + (τ 0 2).toNatClampNeg))), (0, .ref (gw_a Γ 0)), (1, .int a1), (2, .int a2), (3, .int a3)] dX3_addCourse_71 (by decide) rfl ?_
          refine gj_aload C 0 dX3_addCourse_73 rfl ?_
          refine gj_iload_n C 2 dX3_addCourse_75 rfl ?_
          refine p_X3_56 C (gw_vC (gw_ibv g4)) dX3_addCourse_76 ?_
          refine gj_aload C 0 dX3_addCourse_79 rfl ?_
          refine gj_iload_n C 3 dX3_addCourse_81 rfl ?_
          refine p_X3_59 C (gw_vC (gw_ibv g4)) dX3_addCourse_82 ?_
          refine gj_aload C 0 dX3_addCourse_85 rfl ?_
          refine gj_iload_n C 4 dX3_addCourse_87 rfl ?_
          refine p_X3_62 C (gw_vC (gw_ibv g4)) dX3_addCourse_88 ?_
          refine gj_aload_n C 1 dX3_addCourse_91 rfl ?_
          refine gj_dup C dX3_addCourse_92 rfl ?_
          refine g_X3_25 C  ((gw_up_n (by omega)).trans ((gw_up_n (by omega)).trans (gw_up_n (by omega)))) dX3_addCourse_93 ?_
          refine gj_iconst (v := 1) C dX3_addCourse_96 (by decide) ?_
          refine gj_iadd C dX3_addCourse_97 ?_
          refine p_X3_25 C  dX3_addCourse_98 ?_
          refine gj_aload C 0 dX3_addCourse_101 rfl ?_
          refine g_X3_65 C (gw_vC (gw_ibv g4)) ((gw_up_n (by omega)).trans ((gw_up_n (by omega)).trans ((gw_up_n (by omega)).trans (gw_up_n (by omega))))) dX3_addCourse_103 ?_
          cases hf
          exact gj_iretX C rfl E dX3_addCourse_106 (Nat.le_of_ble_eq_true rfl) (Nat.le_of_ble_eq_true rfl)
        · replace hf := gw_iff hf c
          cases hf
          exact gj_throw C rfl E (by decide) cl_51 ini_51 st_53 at_55 dX3_addCourse_52 dX3_addCourse_55 dX3_addCourse_56 dX3_addCourse_58 dX3_addCourse_61 ⟨(Nat.le_of_ble_eq_true rfl), (Nat.le_of_ble_eq_true rfl)⟩ ⟨(Nat.le_of_ble_eq_true rfl), (Nat.le_of_ble_eq_true rfl)⟩ (Nat.le_of_ble_eq_true rfl) (Nat.le_of_ble_eq_true rfl)
      · replace hf := gw_iff hf c
        cases hf
        exact gj_throw C rfl E (by decide) cl_44 ini_44 st_46 at_48 dX3_addCourse_30 dX3_addCourse_33 dX3_addCourse_34 dX3_addCourse_36 dX3_addCourse_39 ⟨(Nat.le_of_ble_eq_true rfl), (Nat.le_of_ble_eq_true rfl)⟩ ⟨(Nat.le_of_ble_eq_true rfl), (Nat.le_of_ble_eq_true rfl)⟩ (Nat.le_of_ble_eq_true rfl) (Nat.le_of_ble_eq_true rfl)
set_option maxRecDepth 100000 in
set_option maxHeartbeats 4000000 in
theorem s_X3_courseAt (l : Launch) (Γ : gw_G) (τ μ : gw_S) (o : Nat → Int64) (a1 : Int32) (r : (Nat ⊕ String)) (hf : f_X3_courseAt τ a1 = some r) : gw_MX l yX3_courseAt [.code yX3_courseAt cX3_courseAt 2 (some (.object "CourseEnrolment$Course"))] gr_X3_courseAt 1 6 Γ [.ref (gw_a Γ 0), .int a1] (gw_W Γ τ μ o) (gw_qR Γ r (gw_W Γ τ μ o)) (gw_x Γ r (gw_W Γ τ μ o)) := by
  refine gw_enterX (by decide) (Nat.le_of_ble_eq_true rfl) (fun K C E => ?_)
  unfold f_X3_courseAt at hf
  refine gj_iload_n C 1 dX3_courseAt_0 rfl ?_
  refine gj_if_lt C 12 dX3_courseAt_1 (by decide) (fun c => ?_) (fun c => ?_)
  · replace hf := gw_ift hf c
    cases hf
    exact gj_throw C rfl E (by decide) cl_252 ini_252 st_254 at_256 dX3_courseAt_12 dX3_courseAt_15 dX3_courseAt_16 dX3_courseAt_18 dX3_courseAt_21 ⟨(Nat.le_of_ble_eq_true rfl), (Nat.le_of_ble_eq_true rfl)⟩ ⟨(Nat.le_of_ble_eq_true rfl), (Nat.le_of_ble_eq_true rfl)⟩ (Nat.le_of_ble_eq_true rfl) (Nat.le_of_ble_eq_true rfl)
  · replace hf := gw_iff hf c
    refine gj_iload_n C 1 dX3_courseAt_4 rfl ?_
    refine gj_aload_n C 0 dX3_courseAt_5 rfl ?_
    refine g_X3_25 C  rfl dX3_courseAt_6 ?_
    refine gj_ic_lt C 22 dX3_courseAt_9 (by decide) (fun c => ?_) (fun c => ?_)
    · replace hf := gw_ift hf c
      refine gj_aload_n C 0 dX3_courseAt_22 rfl ?_
      refine g_X3_11 C  dX3_courseAt_23 ?_
      refine gj_iload_n C 1 dX3_courseAt_26 rfl ?_
      obtain ⟨g1, hf⟩ := gw_ifs hf
      refine gj_ald1 C (gw_ibv g1) dX3_courseAt_27 ?_
      cases hf
      exact gj_aretX C rfl E dX3_courseAt_28 (Nat.le_of_ble_eq_true rfl) (Nat.le_of_ble_eq_true rfl)
    · replace hf := gw_iff hf c
      cases hf
      exact gj_throw C rfl E (by decide) cl_252 ini_252 st_254 at_256 dX3_courseAt_12 dX3_courseAt_15 dX3_courseAt_16 dX3_courseAt_18 dX3_courseAt_21 ⟨(Nat.le_of_ble_eq_true rfl), (Nat.le_of_ble_eq_true rfl)⟩ ⟨(Nat.le_of_ble_eq_true rfl), (Nat.le_of_ble_eq_true rfl)⟩ (Nat.le_of_ble_eq_true rfl) (Nat.le_of_ble_eq_true rfl)
set_option maxRecDepth 100000 in
set_option maxHeartbeats 4000000 in
theorem sr_X3_courseAt (l : Launch) (Γ : gw_G) (τ μ : gw_S) (o : Nat → Int64) (a1 : Int32) (k : Nat) (hf : f_X3_courseAt τ a1 = some (.inl k)) : gw_M l yX3_courseAt [.code yX3_courseAt cX3_courseAt 2 (some (.object "CourseEnrolment$Course"))] gr_X3_courseAtr 0 0 Γ [.ref (gw_a Γ 0), .int a1] (gw_W Γ τ μ o) (gw_qr Γ k (gw_W Γ τ μ o)) := by
  refine gw_enter (by decide) (Nat.le_of_ble_eq_true rfl) (fun K C E => ?_)
  unfold f_X3_courseAt at hf
  refine gj_iload_n C 1 dX3_courseAt_0 rfl ?_
  refine gj_if_lt C 12 dX3_courseAt_1 (by decide) (fun c => ?_) (fun c => ?_)
  · replace hf := gw_ift hf c
    cases hf
  · replace hf := gw_iff hf c
    refine gj_iload_n C 1 dX3_courseAt_4 rfl ?_
    refine gj_aload_n C 0 dX3_courseAt_5 rfl ?_
    refine g_X3_25 C  rfl dX3_courseAt_6 ?_
    refine gj_ic_lt C 22 dX3_courseAt_9 (by decide) (fun c => ?_) (fun c => ?_)
    · replace hf := gw_ift hf c
      refine gj_aload_n C 0 dX3_courseAt_22 rfl ?_
      refine g_X3_11 C  dX3_courseAt_23 ?_
      refine gj_iload_n C 1 dX3_courseAt_26 rfl ?_
      obtain ⟨g1, hf⟩ := gw_ifs hf
      refine gj_ald1 C (gw_ibv g1) dX3_courseAt_27 ?_
      cases hf
      exact gj_aret C E dX3_courseAt_28 (Nat.le_of_ble_eq_true rfl) (Nat.le_of_ble_eq_true rfl)
    · replace hf := gw_iff hf c
      cases hf
set_option maxRecDepth 100000 in
set_option maxHeartbeats 4000000 in
theorem s_X3_isIn (l : Launch) (Γ : gw_G) (τ μ : gw_S) (o : Nat → Int64) (a0 : Int32) (a1 : Int32) (r : Int32) (hf : f_X3_isIn τ a0 a1 = some r) : gw_M l yX3_isIn [.code yX3_isIn cX3_isIn 2 (some .boolean)] gr_X3_isIn 0 0 Γ [.int a0, .int a1] (gw_W Γ τ μ o) (gw_qi Γ r (gw_W Γ τ μ o)) := by
  refine gw_enter (by decide) (Nat.le_of_ble_eq_true rfl) (fun K C E => ?_)
  unfold f_X3_isIn at hf
  refine gj_iload_n C 0 dX3_isIn_0 rfl ?_
  refine gj_iconst (v := 1) C dX3_isIn_1 (by decide) ?_
  refine gj_iload_n C 1 dX3_isIn_2 rfl ?_
  refine gj_ishl C dX3_isIn_3 ?_
  refine gj_iand C dX3_isIn_4 ?_
  refine gj_if_eq C 12 dX3_isIn_5 (by decide) (fun c => ?_) (fun c => ?_)
  · replace hf := gw_ift hf c
    refine gj_iconst (v := 0) C dX3_isIn_12 (by decide) ?_
    cases hf
    exact gj_zret C E (by decide) dX3_isIn_13 (Nat.le_of_ble_eq_true rfl) (Nat.le_of_ble_eq_true rfl)
  · replace hf := gw_iff hf c
    refine gj_iconst (v := 1) C dX3_isIn_8 (by decide) ?_
    refine gj_goto C 13 dX3_isIn_9 (by decide) ?_
    cases hf
    exact gj_zret C E (by decide) dX3_isIn_13 (Nat.le_of_ble_eq_true rfl) (Nat.le_of_ble_eq_true rfl)
set_option maxRecDepth 100000 in
set_option maxHeartbeats 4000000 in
theorem l_X3_enrolledIn_1 {K : gw_K} {Γ : gw_G} (C : gw_C K Γ cX3_enrolledIn 4 RX3) (τ : gw_S) (μ : gw_S) (o : Nat → Int64) (v1 : Nat) (hk1 : gw_kC v1) : ∀ (n : Nat) (v2 : Int32) (v3 : Int32) (T : Int32 × Int32), gw_it (b_X3_enrolledIn_1 τ v1) n (v2, v3) = some T → (gw_J K Γ gr_X3_enrolledIn 0 0 (gw_W Γ τ μ o) 40 [(0, .ref (gw_a Γ 0)), (1, .ref (gw_a Γ v1)), (2, .int T.1), (3, .int T.2)] []) → gw_J K Γ gr_X3_enrolledIn 0 0 (gw_W Γ τ μ o) 4 [(0, .ref (gw_a Γ 0)), (1, .ref (gw_a Γ v1)), (2, .int v2), (3, .int v3)] [] := by
  intro n
  induction n with
  | zero => intro v2 v3 T  h; cases h
  | succ n ih =>
    intro v2 v3 T  h k
    obtain ⟨q, hf, hr⟩ := gw_it_s h
    rw [b_X3_enrolledIn_1] at hf
    refine gj_iload_n C 3 dX3_enrolledIn_4 rfl ?_
    refine gj_aload_n C 0 dX3_enrolledIn_5 rfl ?_
    refine g_X3_29 C  rfl dX3_enrolledIn_6 ?_
    refine gj_ic_ge C 40 dX3_enrolledIn_9 (by decide) (fun c => ?_) (fun c => ?_)
    · replace hf := gw_ift hf c
      cases hf
      cases gw_ir hr
      exact gj_pick [0, 1, 2, 3] _ rfl (k )
    · replace hf := gw_iff hf c
      refine gj_aload_n C 0 dX3_enrolledIn_12 rfl ?_
      refine g_X3_20 C  dX3_enrolledIn_13 ?_
      refine gj_iload_n C 3 dX3_enrolledIn_16 rfl ?_
      obtain ⟨g1, hf⟩ := gw_ifs hf
      refine gj_ald2 C (gw_ibv g1) dX3_enrolledIn_17 ?_
      refine g_X3_135 C (gw_vS (gw_ibv g1)) rfl dX3_enrolledIn_18 ?_
      refine gj_aload_n C 1 dX3_enrolledIn_21 rfl ?_
      refine g_X3_65 C hk1 rfl dX3_enrolledIn_22 ?_
      replace hf := gw_bnd hf
      obtain ⟨r2, hr2, hf⟩ := hf
      refine gj_cSi (As := [.int (τ (24 + v3.toNatClampNeg) 5), .int (τ v1 0)]) (rest := []) C cb_X3_86 (s_X3_isIn (gw_l K) Γ τ μ o (τ (24 + v3.toNatClampNeg) 5) (τ v1 0) r2 hr2) rfl (Nat.le_of_ble_eq_true rfl) dX3_enrolledIn_25 (gw_rmk rfl) rfl ?_
      refine gj_if_eq C 34 dX3_enrolledIn_28 (by decide) (fun c => ?_) (fun c => ?_)
      · replace hf := gw_ift hf c
        refine gj_iinc C 3 3 (v3 + 1) [(3, .int (v3 + 1)), (0, .ref (gw_a Γ 0)), (1, .ref (gw_a Γ v1)), (2, .int v2)] dX3_enrolledIn_34 rfl rfl (by decide) rfl ?_
        refine gj_goto C 4 dX3_enrolledIn_37 (by decide) ?_
        cases hf
        replace hr := gw_il hr
        exact gj_pick [1, 2, 3, 0] _ rfl (ih _ _ _  hr k)
      · replace hf := gw_iff hf c
        refine gj_iinc C 2 2 (v2 + 1) [(2, .int (v2 + 1)), (0, .ref (gw_a Γ 0)), (1, .ref (gw_a Γ v1)), (3, .int v3)] dX3_enrolledIn_31 rfl rfl (by decide) rfl ?_
        refine gj_iinc C 3 3 (v3 + 1) [(3, .int (v3 + 1)), (2, .int (v2 + 1)), (0, .ref (gw_a Γ 0)), (1, .ref (gw_a Γ v1))] dX3_enrolledIn_34 rfl rfl (by decide) rfl ?_
        refine gj_goto C 4 dX3_enrolledIn_37 (by decide) ?_
        cases hf
        replace hr := gw_il hr
        exact gj_pick [2, 3, 1, 0] _ rfl (ih _ _ _  hr k)
set_option maxRecDepth 100000 in
set_option maxHeartbeats 4000000 in
theorem s_X3_enrolledIn (l : Launch) (Γ : gw_G) (τ μ : gw_S) (o : Nat → Int64) (a1 : Nat) (ha1 : gw_kC a1) (r : Int32) (hf : f_X3_enrolledIn τ a1 = some r) : gw_M l yX3_enrolledIn [.code yX3_enrolledIn cX3_enrolledIn 4 (some .int)] gr_X3_enrolledIn 0 0 Γ [.ref (gw_a Γ 0), .ref (gw_a Γ a1)] (gw_W Γ τ μ o) (gw_qi Γ r (gw_W Γ τ μ o)) := by
  refine gw_enter (by decide) (Nat.le_of_ble_eq_true rfl) (fun K C E => ?_)
  unfold f_X3_enrolledIn at hf
  refine gj_iconst (v := 0) C dX3_enrolledIn_0 (by decide) ?_
  refine gj_istore_n C 2 [(2, .int (0 : Int32)), (0, .ref (gw_a Γ 0)), (1, .ref (gw_a Γ a1))] dX3_enrolledIn_1 rfl (by decide) rfl ?_
  refine gj_iconst (v := 0) C dX3_enrolledIn_2 (by decide) ?_
  refine gj_istore_n C 3 [(3, .int (0 : Int32)), (2, .int (0 : Int32)), (0, .ref (gw_a Γ 0)), (1, .ref (gw_a Γ a1))] dX3_enrolledIn_3 rfl (by decide) rfl ?_
  replace hf := gw_bnd hf
  obtain ⟨t3, ht3, hf⟩ := hf
  refine gj_pick [2, 3, 1, 0] _ rfl (l_X3_enrolledIn_1 C τ μ o a1 ha1 _ _ _ t3  ht3 (?_))
  refine gj_iload_n C 2 dX3_enrolledIn_40 rfl ?_
  cases hf
  exact gj_iret C E dX3_enrolledIn_41 (Nat.le_of_ble_eq_true rfl) (Nat.le_of_ble_eq_true rfl)
set_option maxRecDepth 100000 in
set_option maxHeartbeats 4000000 in
theorem l_X0_offers_1 {K : gw_K} {Γ : gw_G} (C : gw_C K Γ cX0_offers 6 RX0) (τ : gw_S) (μ : gw_S) (o : Nat → Int64) (v0 : Nat) (v2 : Nat) (v3 : Int32) (hk0 : gw_kC v0) (hk2 : gw_kA v2) : ∀ (n : Nat) (v1 : Int32) (v4 : Int32) (T : Int32 × Int32), gw_it (b_X0_offers_1 τ v0 v2 v3) n (v1, v4) = some T → (gw_J K Γ gr_X0_offers 0 0 (gw_W Γ τ μ o) 40 [(0, .ref (gw_a Γ v0)), (1, .int T.1), (2, .ref (gw_a Γ v2)), (3, .int v3), (4, .int T.2)] []) → gw_J K Γ gr_X0_offers 0 0 (gw_W Γ τ μ o) 13 [(0, .ref (gw_a Γ v0)), (1, .int v1), (2, .ref (gw_a Γ v2)), (3, .int v3), (4, .int v4)] [] := by
  intro n
  induction n with
  | zero => intro v1 v4 T  h; cases h
  | succ n ih =>
    intro v1 v4 T  h k
    obtain ⟨q, hf, hr⟩ := gw_it_s h
    rw [b_X0_offers_1] at hf
    refine gj_iload C 4 dX0_offers_13 rfl ?_
    refine gj_iload_n C 3 dX0_offers_15 rfl ?_
    refine gj_ic_ge C 40 dX0_offers_16 (by decide) (fun c => ?_) (fun c => ?_)
    · replace hf := gw_ift hf c
      cases hf
      cases gw_ir hr
      exact gj_pick [0, 1, 2, 3, 4] _ rfl (k )
    · replace hf := gw_iff hf c
      refine gj_aload_n C 2 dX0_offers_19 rfl ?_
      refine gj_iload C 4 dX0_offers_20 rfl ?_
      obtain ⟨g1, hf⟩ := gw_ifs hf
      refine gj_ald C hk2 (gw_ibv g1) dX0_offers_22 ?_
      refine gj_istore C 5 [(5, .int (τ v2 v4.toNatClampNeg)), (0, .ref (gw_a Γ v0)), (1, .int v1), (2, .ref (gw_a Γ v2)), (3, .int v3), (4, .int v4)] dX0_offers_23 (by decide) rfl ?_
      refine gj_iload C 0 dX0_offers_25 rfl ?_
      refine gj_iconst (v := -1) C dX0_offers_27 (by decide) ?_
      refine gj_ic_eq C 34 dX0_offers_28 (by decide) (fun c => ?_) (fun c => ?_)
      · replace hf := gw_ift hf c
        refine gj_iinc C 4 5 (v4 + 1) [(4, .int (v4 + 1)), (5, .int (τ v2 v4.toNatClampNeg)), (0, .ref (gw_a Γ v0)), (1, .int v1), (2, .ref (gw_a Γ v2)), (3, .int v3)] dX0_offers_34 rfl rfl (by decide) rfl ?_
        refine gj_goto C 13 dX0_offers_37 (by decide) ?_
        cases hf
        replace hr := gw_il hr
        exact gj_pick [2, 3, 4, 5, 0] _ rfl (ih _ _ _  hr k)
      · replace hf := gw_iff hf c
        refine gj_iinc C 1 2 (v1 + 1) [(1, .int (v1 + 1)), (5, .int (τ v2 v4.toNatClampNeg)), (0, .ref (gw_a Γ v0)), (2, .ref (gw_a Γ v2)), (3, .int v3), (4, .int v4)] dX0_offers_31 rfl rfl (by decide) rfl ?_
        refine gj_iinc C 4 5 (v4 + 1) [(4, .int (v4 + 1)), (1, .int (v1 + 1)), (5, .int (τ v2 v4.toNatClampNeg)), (0, .ref (gw_a Γ v0)), (2, .ref (gw_a Γ v2)), (3, .int v3)] dX0_offers_34 rfl rfl (by decide) rfl ?_
        refine gj_goto C 13 dX0_offers_37 (by decide) ?_
        cases hf
        replace hr := gw_il hr
        exact gj_pick [3, 1, 4, 5, 0] _ rfl (ih _ _ _  hr k)
set_option maxRecDepth 100000 in
set_option maxHeartbeats 4000000 in
theorem s_X0_offers (l : Launch) (Γ : gw_G) (τ μ : gw_S) (o : Nat → Int64) (a0 : Nat) (ha0 : gw_kC a0) (r : Int32) (hf : f_X0_offers τ a0 = some r) : gw_M l yX0_offers [.code yX0_offers cX0_offers 6 (some .int)] gr_X0_offers 0 0 Γ [.ref (gw_a Γ a0)] (gw_W Γ τ μ o) (gw_qi Γ r (gw_W Γ τ μ o)) := by
  refine gw_enter (by decide) (Nat.le_of_ble_eq_true rfl) (fun K C E => ?_)
  unfold f_X0_offers at hf
  refine gj_iconst (v := 0) C dX0_offers_0 (by decide) ?_
  refine gj_istore_n C 1 [(1, .int (0 : Int32)), (0, .ref (gw_a Γ a0))] dX0_offers_1 rfl (by decide) rfl ?_
  refine gj_aload_n C 1 dX0_offers_2 rfl ?_
  refine g_X0_24 C ha0 dX0_offers_3 ?_
  refine gj_astore_n C 2 [(2, .ref (gw_a Γ (a0 + 108))), (1, .int (0 : Int32)), (0, .ref (gw_a Γ a0))] dX0_offers_6 rfl (by decide) rfl ?_
  refine gj_aload_n C 0 dX0_offers_7 rfl ?_
  refine gj_alen (v := 16) C (gw_kCA ha0) (by rw [gw_lenO ha0]; rfl) dX0_offers_8 ?_
  refine gj_istore_n C 3 [(3, .int (16 : Int32)), (2, .ref (gw_a Γ (a0 + 108))), (1, .int (0 : Int32)), (0, .ref (gw_a Γ a0))] dX0_offers_9 rfl (by decide) rfl ?_
  refine gj_iconst (v := 0) C dX0_offers_10 (by decide) ?_
  refine gj_istore C 4 [(4, .int (0 : Int32)), (3, .int (16 : Int32)), (2, .ref (gw_a Γ (a0 + 108))), (1, .int (0 : Int32)), (0, .ref (gw_a Γ a0))] dX0_offers_11 (by decide) rfl ?_
  replace hf := gw_bnd hf
  obtain ⟨t2, ht2, hf⟩ := hf
  refine gj_pick [4, 3, 2, 1, 0] _ rfl (l_X0_offers_1 C τ μ o a0 (a0 + 108) (16 : Int32) ha0 (gw_kCA ha0) _ _ _ t2  ht2 (?_))
  refine gj_iload_n C 1 dX0_offers_40 rfl ?_
  cases hf
  exact gj_iret C E dX0_offers_41 (Nat.le_of_ble_eq_true rfl) (Nat.le_of_ble_eq_true rfl)
set_option maxRecDepth 100000 in
set_option maxHeartbeats 4000000 in
theorem s_X3_takenSeats (l : Launch) (Γ : gw_G) (τ μ : gw_S) (o : Nat → Int64) (a1 : Nat) (ha1 : gw_kC a1) (r : Int32) (hf : f_X3_takenSeats τ a1 = some r) : gw_M l yX3_takenSeats [.code yX3_takenSeats cX3_takenSeats 2 (some .int)] gr_X3_takenSeats 0 0 Γ [.ref (gw_a Γ 0), .ref (gw_a Γ a1)] (gw_W Γ τ μ o) (gw_qi Γ r (gw_W Γ τ μ o)) := by
  refine gw_enter (by decide) (Nat.le_of_ble_eq_true rfl) (fun K C E => ?_)
  unfold f_X3_takenSeats at hf
  refine gj_aload_n C 0 dX3_takenSeats_0 rfl ?_
  refine gj_aload_n C 1 dX3_takenSeats_1 rfl ?_
  replace hf := gw_bnd hf
  obtain ⟨r1, hr1, hf⟩ := hf
  refine gj_cVi (As := [.ref (gw_a Γ a1)]) (rest := []) C cb_X3_111 (s_X3_enrolledIn (gw_l K) Γ τ μ o a1 ha1 r1 hr1) rfl (Nat.le_of_ble_eq_true rfl) gw_atM rfl rfl dX3_takenSeats_2 (gw_rmk rfl) rfl ?_
  refine gj_aload_n C 1 dX3_takenSeats_5 rfl ?_
  replace hf := gw_bnd hf
  obtain ⟨r2, hr2, hf⟩ := hf
  refine gj_cVi (As := []) (rest := [.int r1]) C cb_X3_267 (s_X0_offers (gw_l K) Γ τ μ o a1 ha1 r2 hr2) rfl (Nat.le_of_ble_eq_true rfl) (gw_atC ha1) rfl rfl dX3_takenSeats_6 (gw_rmk rfl) rfl ?_
  refine gj_iadd C dX3_takenSeats_9 ?_
  cases hf
  exact gj_iret C E dX3_takenSeats_10 (Nat.le_of_ble_eq_true rfl) (Nat.le_of_ble_eq_true rfl)
set_option maxRecDepth 100000 in
set_option maxHeartbeats 4000000 in
theorem s_X3_freeIn (l : Launch) (Γ : gw_G) (τ μ : gw_S) (o : Nat → Int64) (a1 : Nat) (ha1 : gw_kC a1) (r : Int32) (hf : f_X3_freeIn τ a1 = some r) : gw_M l yX3_freeIn [.code yX3_freeIn cX3_freeIn 2 (some .int)] gr_X3_freeIn 0 0 Γ [.ref (gw_a Γ 0), .ref (gw_a Γ a1)] (gw_W Γ τ μ o) (gw_qi Γ r (gw_W Γ τ μ o)) := by
  refine gw_enter (by decide) (Nat.le_of_ble_eq_true rfl) (fun K C E => ?_)
  unfold f_X3_freeIn at hf
  refine gj_aload_n C 1 dX3_freeIn_0 rfl ?_
  refine g_X3_56 C ha1 rfl dX3_freeIn_1 ?_
  refine gj_aload_n C 0 dX3_freeIn_4 rfl ?_
  refine gj_aload_n C 1 dX3_freeIn_5 rfl ?_
  replace hf := gw_bnd hf
  obtain ⟨r1, hr1, hf⟩ := hf
  refine gj_cVi (As := [.ref (gw_a Γ a1)]) (rest := [.int (τ a1 3)]) C cb_X3_74 (s_X3_takenSeats (gw_l K) Γ τ μ o a1 ha1 r1 hr1) rfl (Nat.le_of_ble_eq_true rfl) gw_atM rfl rfl dX3_freeIn_6 (gw_rmk rfl) rfl ?_
  refine gj_isub C dX3_freeIn_9 ?_
  cases hf
  exact gj_iret C E dX3_freeIn_10 (Nat.le_of_ble_eq_true rfl) (Nat.le_of_ble_eq_true rfl)
set_option maxRecDepth 100000 in
set_option maxHeartbeats 4000000 in
theorem s_X1_size (l : Launch) (Γ : gw_G) (τ μ : gw_S) (o : Nat → Int64) (a0 : Nat) (ha0 : gw_kR a0) (r : Int32) (hf : f_X1_size τ a0 = some r) : gw_M l yX1_size [.code yX1_size cX1_size 1 (some .int)] gr_X1_size 0 0 Γ [.ref (gw_a Γ a0)] (gw_W Γ τ μ o) (gw_qi Γ r (gw_W Γ τ μ o)) := by
  refine gw_enter (by decide) (Nat.le_of_ble_eq_true rfl) (fun K C E => ?_)
  unfold f_X1_size at hf
  refine gj_aload_n C 0 dX1_size_0 rfl ?_
  refine g_X1_15 C ha0 rfl dX1_size_1 ?_
  cases hf
  exact gj_iret C E dX1_size_4 (Nat.le_of_ble_eq_true rfl) (Nat.le_of_ble_eq_true rfl)
set_option maxRecDepth 100000 in
set_option maxHeartbeats 4000000 in
theorem s_X1_at (l : Launch) (Γ : gw_G) (τ μ : gw_S) (o : Nat → Int64) (a0 : Nat) (a1 : Int32) (ha0 : gw_kR a0) (r : Int32) (hf : f_X1_at τ a0 a1 = some r) : gw_M l yX1_at [.code yX1_at cX1_at 2 (some .int)] gr_X1_at 0 0 Γ [.ref (gw_a Γ a0), .int a1] (gw_W Γ τ μ o) (gw_qi Γ r (gw_W Γ τ μ o)) := by
  refine gw_enter (by decide) (Nat.le_of_ble_eq_true rfl) (fun K C E => ?_)
  unfold f_X1_at at hf
  refine gj_iload_n C 1 dX1_at_0 rfl ?_
  refine gj_if_lt C 12 dX1_at_1 (by decide) (fun c => ?_) (fun c => ?_)
  · replace hf := gw_ift hf c
    refine gj_iconst (v := -1) C dX1_at_12 (by decide) ?_
    refine gj_goto C 22 dX1_at_13 (by decide) ?_
    cases hf
    exact gj_iret C E dX1_at_22 (Nat.le_of_ble_eq_true rfl) (Nat.le_of_ble_eq_true rfl)
  · replace hf := gw_iff hf c
    refine gj_iload_n C 1 dX1_at_4 rfl ?_
    refine gj_aload_n C 0 dX1_at_5 rfl ?_
    refine g_X1_15 C ha0 rfl dX1_at_6 ?_
    refine gj_ic_lt C 16 dX1_at_9 (by decide) (fun c => ?_) (fun c => ?_)
    · replace hf := gw_ift hf c
      refine gj_aload_n C 0 dX1_at_16 rfl ?_
      refine g_X1_9 C ha0 dX1_at_17 ?_
      refine gj_iload_n C 1 dX1_at_20 rfl ?_
      obtain ⟨g1, hf⟩ := gw_ifs hf
      refine gj_ald C (gw_kRA ha0) (gw_ibv g1) dX1_at_21 ?_
      cases hf
      exact gj_iret C E dX1_at_22 (Nat.le_of_ble_eq_true rfl) (Nat.le_of_ble_eq_true rfl)
    · replace hf := gw_iff hf c
      refine gj_iconst (v := -1) C dX1_at_12 (by decide) ?_
      refine gj_goto C 22 dX1_at_13 (by decide) ?_
      cases hf
      exact gj_iret C E dX1_at_22 (Nat.le_of_ble_eq_true rfl) (Nat.le_of_ble_eq_true rfl)
set_option maxRecDepth 100000 in
set_option maxHeartbeats 4000000 in
theorem s_X3_studentAt (l : Launch) (Γ : gw_G) (τ μ : gw_S) (o : Nat → Int64) (a1 : Int32) (r : (Nat ⊕ String)) (hf : f_X3_studentAt τ a1 = some r) : gw_MX l yX3_studentAt [.code yX3_studentAt cX3_studentAt 2 (some (.object "CourseEnrolment$Student"))] gr_X3_studentAt 1 6 Γ [.ref (gw_a Γ 0), .int a1] (gw_W Γ τ μ o) (gw_qR Γ r (gw_W Γ τ μ o)) (gw_x Γ r (gw_W Γ τ μ o)) := by
  refine gw_enterX (by decide) (Nat.le_of_ble_eq_true rfl) (fun K C E => ?_)
  unfold f_X3_studentAt at hf
  refine gj_iload_n C 1 dX3_studentAt_0 rfl ?_
  refine gj_if_lt C 12 dX3_studentAt_1 (by decide) (fun c => ?_) (fun c => ?_)
  · replace hf := gw_ift hf c
    cases hf
    exact gj_throwW C rfl E (by decide) cl_252 ini_252 st_257 at_256 dX3_studentAt_12 dX3_studentAt_15 dX3_studentAt_16 dX3_studentAt_19 dX3_studentAt_22 ⟨(Nat.le_of_ble_eq_true rfl), (Nat.le_of_ble_eq_true rfl)⟩ ⟨(Nat.le_of_ble_eq_true rfl), (Nat.le_of_ble_eq_true rfl)⟩ (Nat.le_of_ble_eq_true rfl) (Nat.le_of_ble_eq_true rfl)
  · replace hf := gw_iff hf c
    refine gj_iload_n C 1 dX3_studentAt_4 rfl ?_
    refine gj_aload_n C 0 dX3_studentAt_5 rfl ?_
    refine g_X3_29 C  rfl dX3_studentAt_6 ?_
    refine gj_ic_lt C 23 dX3_studentAt_9 (by decide) (fun c => ?_) (fun c => ?_)
    · replace hf := gw_ift hf c
      refine gj_aload_n C 0 dX3_studentAt_23 rfl ?_
      refine g_X3_20 C  dX3_studentAt_24 ?_
      refine gj_iload_n C 1 dX3_studentAt_27 rfl ?_
      obtain ⟨g1, hf⟩ := gw_ifs hf
      refine gj_ald2 C (gw_ibv g1) dX3_studentAt_28 ?_
      cases hf
      exact gj_aretX C rfl E dX3_studentAt_29 (Nat.le_of_ble_eq_true rfl) (Nat.le_of_ble_eq_true rfl)
    · replace hf := gw_iff hf c
      cases hf
      exact gj_throwW C rfl E (by decide) cl_252 ini_252 st_257 at_256 dX3_studentAt_12 dX3_studentAt_15 dX3_studentAt_16 dX3_studentAt_19 dX3_studentAt_22 ⟨(Nat.le_of_ble_eq_true rfl), (Nat.le_of_ble_eq_true rfl)⟩ ⟨(Nat.le_of_ble_eq_true rfl), (Nat.le_of_ble_eq_true rfl)⟩ (Nat.le_of_ble_eq_true rfl) (Nat.le_of_ble_eq_true rfl)
set_option maxRecDepth 100000 in
set_option maxHeartbeats 4000000 in
theorem sr_X3_studentAt (l : Launch) (Γ : gw_G) (τ μ : gw_S) (o : Nat → Int64) (a1 : Int32) (k : Nat) (hf : f_X3_studentAt τ a1 = some (.inl k)) : gw_M l yX3_studentAt [.code yX3_studentAt cX3_studentAt 2 (some (.object "CourseEnrolment$Student"))] gr_X3_studentAtr 0 0 Γ [.ref (gw_a Γ 0), .int a1] (gw_W Γ τ μ o) (gw_qr Γ k (gw_W Γ τ μ o)) := by
  refine gw_enter (by decide) (Nat.le_of_ble_eq_true rfl) (fun K C E => ?_)
  unfold f_X3_studentAt at hf
  refine gj_iload_n C 1 dX3_studentAt_0 rfl ?_
  refine gj_if_lt C 12 dX3_studentAt_1 (by decide) (fun c => ?_) (fun c => ?_)
  · replace hf := gw_ift hf c
    cases hf
  · replace hf := gw_iff hf c
    refine gj_iload_n C 1 dX3_studentAt_4 rfl ?_
    refine gj_aload_n C 0 dX3_studentAt_5 rfl ?_
    refine g_X3_29 C  rfl dX3_studentAt_6 ?_
    refine gj_ic_lt C 23 dX3_studentAt_9 (by decide) (fun c => ?_) (fun c => ?_)
    · replace hf := gw_ift hf c
      refine gj_aload_n C 0 dX3_studentAt_23 rfl ?_
      refine g_X3_20 C  dX3_studentAt_24 ?_
      refine gj_iload_n C 1 dX3_studentAt_27 rfl ?_
      obtain ⟨g1, hf⟩ := gw_ifs hf
      refine gj_ald2 C (gw_ibv g1) dX3_studentAt_28 ?_
      cases hf
      exact gj_aret C E dX3_studentAt_29 (Nat.le_of_ble_eq_true rfl) (Nat.le_of_ble_eq_true rfl)
    · replace hf := gw_iff hf c
      cases hf
set_option maxRecDepth 100000 in
set_option maxHeartbeats 4000000 in
theorem s_X0_hasOfferFor (l : Launch) (Γ : gw_G) (τ μ : gw_S) (o : Nat → Int64) (a0 : Nat) (a1 : Int32) (ha0 : gw_kC a0) (r : Int32) (hf : f_X0_hasOfferFor τ a0 a1 = some r) : gw_M l yX0_hasOfferFor [.code yX0_hasOfferFor cX0_hasOfferFor 2 (some .boolean)] gr_X0_hasOfferFor 0 0 Γ [.ref (gw_a Γ a0), .int a1] (gw_W Γ τ μ o) (gw_qi Γ r (gw_W Γ τ μ o)) := by
  refine gw_enter (by decide) (Nat.le_of_ble_eq_true rfl) (fun K C E => ?_)
  unfold f_X0_hasOfferFor at hf
  refine gj_aload_n C 0 dX0_hasOfferFor_0 rfl ?_
  refine g_X0_24 C ha0 dX0_hasOfferFor_1 ?_
  refine gj_iload_n C 1 dX0_hasOfferFor_4 rfl ?_
  obtain ⟨g1, hf⟩ := gw_ifs hf
  refine gj_ald C (gw_kCA ha0) (gw_ibv g1) dX0_hasOfferFor_5 ?_
  refine gj_iconst (v := -1) C dX0_hasOfferFor_6 (by decide) ?_
  refine gj_ic_eq C 14 dX0_hasOfferFor_7 (by decide) (fun c => ?_) (fun c => ?_)
  · replace hf := gw_ift hf c
    refine gj_iconst (v := 0) C dX0_hasOfferFor_14 (by decide) ?_
    cases hf
    exact gj_zret C E (by decide) dX0_hasOfferFor_15 (Nat.le_of_ble_eq_true rfl) (Nat.le_of_ble_eq_true rfl)
  · replace hf := gw_iff hf c
    refine gj_iconst (v := 1) C dX0_hasOfferFor_10 (by decide) ?_
    refine gj_goto C 15 dX0_hasOfferFor_11 (by decide) ?_
    cases hf
    exact gj_zret C E (by decide) dX0_hasOfferFor_15 (Nat.le_of_ble_eq_true rfl) (Nat.le_of_ble_eq_true rfl)
set_option maxRecDepth 100000 in
set_option maxHeartbeats 4000000 in
theorem l_X3_creditsOf_1 {K : gw_K} {Γ : gw_G} (C : gw_C K Γ cX3_creditsOf 4 RX3) (τ : gw_S) (μ : gw_S) (o : Nat → Int64) (v1 : Int32) : ∀ (n : Nat) (v2 : Int32) (v3 : Int32) (T : Int32 × Int32), gw_it (b_X3_creditsOf_1 τ v1) n (v2, v3) = some T → (gw_J K Γ gr_X3_creditsOf 0 0 (gw_W Γ τ μ o) 38 [(0, .ref (gw_a Γ 0)), (1, .int v1), (2, .int T.1), (3, .int T.2)] []) → gw_J K Γ gr_X3_creditsOf 0 0 (gw_W Γ τ μ o) 4 [(0, .ref (gw_a Γ 0)), (1, .int v1), (2, .int v2), (3, .int v3)] [] := by
  intro n
  induction n with
  | zero => intro v2 v3 T  h; cases h
  | succ n ih =>
    intro v2 v3 T  h k
    obtain ⟨q, hf, hr⟩ := gw_it_s h
    rw [b_X3_creditsOf_1] at hf
    refine gj_iload_n C 3 dX3_creditsOf_4 rfl ?_
    refine gj_aload_n C 0 dX3_creditsOf_5 rfl ?_
    refine g_X3_25 C  rfl dX3_creditsOf_6 ?_
    refine gj_ic_ge C 38 dX3_creditsOf_9 (by decide) (fun c => ?_) (fun c => ?_)
    · replace hf := gw_ift hf c
      cases hf
      cases gw_ir hr
      exact gj_pick [0, 1, 2, 3] _ rfl (k )
    · replace hf := gw_iff hf c
      refine gj_iload_n C 1 dX3_creditsOf_12 rfl ?_
      refine gj_iload_n C 3 dX3_creditsOf_13 rfl ?_
      replace hf := gw_bnd hf
      obtain ⟨r1, hr1, hf⟩ := hf
      refine gj_cSi (As := [.int v1, .int v3]) (rest := []) C cb_X3_86 (s_X3_isIn (gw_l K) Γ τ μ o v1 v3 r1 hr1) rfl (Nat.le_of_ble_eq_true rfl) dX3_creditsOf_14 (gw_rmk rfl) rfl ?_
      refine gj_if_eq C 32 dX3_creditsOf_17 (by decide) (fun c => ?_) (fun c => ?_)
      · replace hf := gw_ift hf c
        refine gj_iinc C 3 3 (v3 + 1) [(3, .int (v3 + 1)), (0, .ref (gw_a Γ 0)), (1, .int v1), (2, .int v2)] dX3_creditsOf_32 rfl rfl (by decide) rfl ?_
        refine gj_goto C 4 dX3_creditsOf_35 (by decide) ?_
        cases hf
        replace hr := gw_il hr
        exact gj_pick [1, 2, 3, 0] _ rfl (ih _ _ _  hr k)
      · replace hf := gw_iff hf c
        refine gj_iload_n C 2 dX3_creditsOf_20 rfl ?_
        refine gj_aload_n C 0 dX3_creditsOf_21 rfl ?_
        refine g_X3_11 C  dX3_creditsOf_22 ?_
        refine gj_iload_n C 3 dX3_creditsOf_25 rfl ?_
        obtain ⟨g2, hf⟩ := gw_ifs hf
        refine gj_ald1 C (gw_ibv g2) dX3_creditsOf_26 ?_
        refine g_X3_59 C (gw_vC (gw_ibv g2)) rfl dX3_creditsOf_27 ?_
        refine gj_iadd C dX3_creditsOf_30 ?_
        refine gj_istore_n C 2 [(2, .int (v2 + (τ (4 + v3.toNatClampNeg) 4))), (0, .ref (gw_a Γ 0)), (1, .int v1), (3, .int v3)] dX3_creditsOf_31 rfl (by decide) rfl ?_
        refine gj_iinc C 3 3 (v3 + 1) [(3, .int (v3 + 1)), (2, .int (v2 + (τ (4 + v3.toNatClampNeg) 4))), (0, .ref (gw_a Γ 0)), (1, .int v1)] dX3_creditsOf_32 rfl rfl (by decide) rfl ?_
        refine gj_goto C 4 dX3_creditsOf_35 (by decide) ?_
        cases hf
        replace hr := gw_il hr
        exact gj_pick [2, 3, 1, 0] _ rfl (ih _ _ _  hr k)
set_option maxRecDepth 100000 in
set_option maxHeartbeats 4000000 in
theorem s_X3_creditsOf (l : Launch) (Γ : gw_G) (τ μ : gw_S) (o : Nat → Int64) (a1 : Int32) (r : Int32) (hf : f_X3_creditsOf τ a1 = some r) : gw_M l yX3_creditsOf [.code yX3_creditsOf cX3_creditsOf 4 (some .int)] gr_X3_creditsOf 0 0 Γ [.ref (gw_a Γ 0), .int a1] (gw_W Γ τ μ o) (gw_qi Γ r (gw_W Γ τ μ o)) := by
  refine gw_enter (by decide) (Nat.le_of_ble_eq_true rfl) (fun K C E => ?_)
  unfold f_X3_creditsOf at hf
  refine gj_iconst (v := 0) C dX3_creditsOf_0 (by decide) ?_
  refine gj_istore_n C 2 [(2, .int (0 : Int32)), (0, .ref (gw_a Γ 0)), (1, .int a1)] dX3_creditsOf_1 rfl (by decide) rfl ?_
  refine gj_iconst (v := 0) C dX3_creditsOf_2 (by decide) ?_
  refine gj_istore_n C 3 [(3, .int (0 : Int32)), (2, .int (0 : Int32)), (0, .ref (gw_a Γ 0)), (1, .int a1)] dX3_creditsOf_3 rfl (by decide) rfl ?_
  replace hf := gw_bnd hf
  obtain ⟨t3, ht3, hf⟩ := hf
  refine gj_pick [2, 3, 1, 0] _ rfl (l_X3_creditsOf_1 C τ μ o a1 _ _ _ t3  ht3 (?_))
  refine gj_iload_n C 2 dX3_creditsOf_38 rfl ?_
  cases hf
  exact gj_iret C E dX3_creditsOf_39 (Nat.le_of_ble_eq_true rfl) (Nat.le_of_ble_eq_true rfl)
set_option maxRecDepth 100000 in
set_option maxHeartbeats 4000000 in
theorem l_X3_hoursOf_1 {K : gw_K} {Γ : gw_G} (C : gw_C K Γ cX3_hoursOf 4 RX3) (τ : gw_S) (μ : gw_S) (o : Nat → Int64) (v1 : Int32) : ∀ (n : Nat) (v2 : Int32) (v3 : Int32) (T : Int32 × Int32), gw_it (b_X3_hoursOf_1 τ v1) n (v2, v3) = some T → (gw_J K Γ gr_X3_hoursOf 0 0 (gw_W Γ τ μ o) 38 [(0, .ref (gw_a Γ 0)), (1, .int v1), (2, .int T.1), (3, .int T.2)] []) → gw_J K Γ gr_X3_hoursOf 0 0 (gw_W Γ τ μ o) 4 [(0, .ref (gw_a Γ 0)), (1, .int v1), (2, .int v2), (3, .int v3)] [] := by
  intro n
  induction n with
  | zero => intro v2 v3 T  h; cases h
  | succ n ih =>
    intro v2 v3 T  h k
    obtain ⟨q, hf, hr⟩ := gw_it_s h
    rw [b_X3_hoursOf_1] at hf
    refine gj_iload_n C 3 dX3_hoursOf_4 rfl ?_
    refine gj_aload_n C 0 dX3_hoursOf_5 rfl ?_
    refine g_X3_25 C  rfl dX3_hoursOf_6 ?_
    refine gj_ic_ge C 38 dX3_hoursOf_9 (by decide) (fun c => ?_) (fun c => ?_)
    · replace hf := gw_ift hf c
      cases hf
      cases gw_ir hr
      exact gj_pick [0, 1, 2, 3] _ rfl (k )
    · replace hf := gw_iff hf c
      refine gj_iload_n C 1 dX3_hoursOf_12 rfl ?_
      refine gj_iload_n C 3 dX3_hoursOf_13 rfl ?_
      replace hf := gw_bnd hf
      obtain ⟨r1, hr1, hf⟩ := hf
      refine gj_cSi (As := [.int v1, .int v3]) (rest := []) C cb_X3_86 (s_X3_isIn (gw_l K) Γ τ μ o v1 v3 r1 hr1) rfl (Nat.le_of_ble_eq_true rfl) dX3_hoursOf_14 (gw_rmk rfl) rfl ?_
      refine gj_if_eq C 32 dX3_hoursOf_17 (by decide) (fun c => ?_) (fun c => ?_)
      · replace hf := gw_ift hf c
        refine gj_iinc C 3 3 (v3 + 1) [(3, .int (v3 + 1)), (0, .ref (gw_a Γ 0)), (1, .int v1), (2, .int v2)] dX3_hoursOf_32 rfl rfl (by decide) rfl ?_
        refine gj_goto C 4 dX3_hoursOf_35 (by decide) ?_
        cases hf
        replace hr := gw_il hr
        exact gj_pick [1, 2, 3, 0] _ rfl (ih _ _ _  hr k)
      · replace hf := gw_iff hf c
        refine gj_iload_n C 2 dX3_hoursOf_20 rfl ?_
        refine gj_aload_n C 0 dX3_hoursOf_21 rfl ?_
        refine g_X3_11 C  dX3_hoursOf_22 ?_
        refine gj_iload_n C 3 dX3_hoursOf_25 rfl ?_
        obtain ⟨g2, hf⟩ := gw_ifs hf
        refine gj_ald1 C (gw_ibv g2) dX3_hoursOf_26 ?_
        refine g_X3_62 C (gw_vC (gw_ibv g2)) rfl dX3_hoursOf_27 ?_
        refine gj_ior C dX3_hoursOf_30 ?_
        refine gj_istore_n C 2 [(2, .int (v2 ||| (τ (4 + v3.toNatClampNeg) 5))), (0, .ref (gw_a Γ 0)), (1, .int v1), (3, .int v3)] dX3_hoursOf_31 rfl (by decide) rfl ?_
        refine gj_iinc C 3 3 (v3 + 1) [(3, .int (v3 + 1)), (2, .int (v2 ||| (τ (4 + v3.toNatClampNeg) 5))), (0, .ref (gw_a Γ 0)), (1, .int v1)] dX3_hoursOf_32 rfl rfl (by decide) rfl ?_
        refine gj_goto C 4 dX3_hoursOf_35 (by decide) ?_
        cases hf
        replace hr := gw_il hr
        exact gj_pick [2, 3, 1, 0] _ rfl (ih _ _ _  hr k)
set_option maxRecDepth 100000 in
set_option maxHeartbeats 4000000 in
theorem s_X3_hoursOf (l : Launch) (Γ : gw_G) (τ μ : gw_S) (o : Nat → Int64) (a1 : Int32) (r : Int32) (hf : f_X3_hoursOf τ a1 = some r) : gw_M l yX3_hoursOf [.code yX3_hoursOf cX3_hoursOf 4 (some .int)] gr_X3_hoursOf 0 0 Γ [.ref (gw_a Γ 0), .int a1] (gw_W Γ τ μ o) (gw_qi Γ r (gw_W Γ τ μ o)) := by
  refine gw_enter (by decide) (Nat.le_of_ble_eq_true rfl) (fun K C E => ?_)
  unfold f_X3_hoursOf at hf
  refine gj_iconst (v := 0) C dX3_hoursOf_0 (by decide) ?_
  refine gj_istore_n C 2 [(2, .int (0 : Int32)), (0, .ref (gw_a Γ 0)), (1, .int a1)] dX3_hoursOf_1 rfl (by decide) rfl ?_
  refine gj_iconst (v := 0) C dX3_hoursOf_2 (by decide) ?_
  refine gj_istore_n C 3 [(3, .int (0 : Int32)), (2, .int (0 : Int32)), (0, .ref (gw_a Γ 0)), (1, .int a1)] dX3_hoursOf_3 rfl (by decide) rfl ?_
  replace hf := gw_bnd hf
  obtain ⟨t3, ht3, hf⟩ := hf
  refine gj_pick [2, 3, 1, 0] _ rfl (l_X3_hoursOf_1 C τ μ o a1 _ _ _ t3  ht3 (?_))
  refine gj_iload_n C 2 dX3_hoursOf_38 rfl ?_
  cases hf
  exact gj_iret C E dX3_hoursOf_39 (Nat.le_of_ble_eq_true rfl) (Nat.le_of_ble_eq_true rfl)
set_option maxRecDepth 100000 in
set_option maxHeartbeats 4000000 in
theorem s_X3_obstacleFor (l : Launch) (Γ : gw_G) (τ μ : gw_S) (o : Nat → Int64) (a1 : Nat) (a2 : Nat) (a3 : Int32) (ha1 : gw_kS a1) (ha2 : gw_kC a2) (r : Int32) (hf : f_X3_obstacleFor τ a1 a2 a3 = some r) : gw_M l yX3_obstacleFor [.code yX3_obstacleFor cX3_obstacleFor 4 (some .int)] gr_X3_obstacleFor 0 0 Γ [.ref (gw_a Γ 0), .ref (gw_a Γ a1), .ref (gw_a Γ a2), .int a3] (gw_W Γ τ μ o) (gw_qi Γ r (gw_W Γ τ μ o)) := by
  refine gw_enter (by decide) (Nat.le_of_ble_eq_true rfl) (fun K C E => ?_)
  unfold f_X3_obstacleFor at hf
  refine gj_aload_n C 1 dX3_obstacleFor_0 rfl ?_
  refine g_X3_132 C ha1 rfl dX3_obstacleFor_1 ?_
  refine gj_aload_n C 2 dX3_obstacleFor_4 rfl ?_
  refine g_X3_65 C ha2 rfl dX3_obstacleFor_5 ?_
  replace hf := gw_bnd hf
  obtain ⟨r1, hr1, hf⟩ := hf
  refine gj_cSi (As := [.int (τ a1 4), .int (τ a2 0)]) (rest := []) C cb_X3_86 (s_X3_isIn (gw_l K) Γ τ μ o (τ a1 4) (τ a2 0) r1 hr1) rfl (Nat.le_of_ble_eq_true rfl) dX3_obstacleFor_8 (gw_rmk rfl) rfl ?_
  refine gj_if_eq C 16 dX3_obstacleFor_11 (by decide) (fun c => ?_) (fun c => ?_)
  · replace hf := gw_ift hf c
    refine gj_iload_n C 3 dX3_obstacleFor_16 rfl ?_
    refine gj_aload_n C 2 dX3_obstacleFor_17 rfl ?_
    refine g_X3_65 C ha2 rfl dX3_obstacleFor_18 ?_
    replace hf := gw_bnd hf
    obtain ⟨r2, hr2, hf⟩ := hf
    refine gj_cSi (As := [.int a3, .int (τ a2 0)]) (rest := []) C cb_X3_86 (s_X3_isIn (gw_l K) Γ τ μ o a3 (τ a2 0) r2 hr2) rfl (Nat.le_of_ble_eq_true rfl) dX3_obstacleFor_21 (gw_rmk rfl) rfl ?_
    refine gj_if_eq C 29 dX3_obstacleFor_24 (by decide) (fun c => ?_) (fun c => ?_)
    · replace hf := gw_ift hf c
      refine gj_aload_n C 2 dX3_obstacleFor_29 rfl ?_
      refine g_X3_90 C ha2 rfl dX3_obstacleFor_30 ?_
      refine gj_aload_n C 1 dX3_obstacleFor_33 rfl ?_
      refine g_X3_132 C ha1 rfl dX3_obstacleFor_34 ?_
      refine gj_iconst (v := -1) C dX3_obstacleFor_37 (by decide) ?_
      refine gj_ixor C dX3_obstacleFor_38 ?_
      refine gj_iand C dX3_obstacleFor_39 ?_
      refine gj_if_eq C 45 dX3_obstacleFor_40 (by decide) (fun c => ?_) (fun c => ?_)
      · replace hf := gw_ift hf c
        refine gj_aload_n C 0 dX3_obstacleFor_45 rfl ?_
        refine gj_iload_n C 3 dX3_obstacleFor_46 rfl ?_
        replace hf := gw_bnd hf
        obtain ⟨r3, hr3, hf⟩ := hf
        refine gj_cVi (As := [.int a3]) (rest := []) C cb_X3_152 (s_X3_creditsOf (gw_l K) Γ τ μ o a3 r3 hr3) rfl (Nat.le_of_ble_eq_true rfl) gw_atM rfl rfl dX3_obstacleFor_47 (gw_rmk rfl) rfl ?_
        refine gj_aload_n C 2 dX3_obstacleFor_50 rfl ?_
        refine g_X3_59 C ha2 rfl dX3_obstacleFor_51 ?_
        refine gj_iadd C dX3_obstacleFor_54 ?_
        refine gj_aload_n C 1 dX3_obstacleFor_55 rfl ?_
        refine g_X3_124 C ha1 rfl dX3_obstacleFor_56 ?_
        refine gj_ic_le C 64 dX3_obstacleFor_59 (by decide) (fun c => ?_) (fun c => ?_)
        · replace hf := gw_ift hf c
          refine gj_aload_n C 0 dX3_obstacleFor_64 rfl ?_
          refine gj_iload_n C 3 dX3_obstacleFor_65 rfl ?_
          replace hf := gw_bnd hf
          obtain ⟨r4, hr4, hf⟩ := hf
          refine gj_cVi (As := [.int a3]) (rest := []) C cb_X3_270 (s_X3_hoursOf (gw_l K) Γ τ μ o a3 r4 hr4) rfl (Nat.le_of_ble_eq_true rfl) gw_atM rfl rfl dX3_obstacleFor_66 (gw_rmk rfl) rfl ?_
          refine gj_aload_n C 2 dX3_obstacleFor_69 rfl ?_
          refine g_X3_62 C ha2 rfl dX3_obstacleFor_70 ?_
          refine gj_iand C dX3_obstacleFor_73 ?_
          refine gj_if_eq C 79 dX3_obstacleFor_74 (by decide) (fun c => ?_) (fun c => ?_)
          · replace hf := gw_ift hf c
            refine gj_iconst (v := 0) C dX3_obstacleFor_79 (by decide) ?_
            cases hf
            exact gj_iret C E dX3_obstacleFor_80 (Nat.le_of_ble_eq_true rfl) (Nat.le_of_ble_eq_true rfl)
          · replace hf := gw_iff hf c
            refine gj_iconst (v := 5) C dX3_obstacleFor_77 (by decide) ?_
            cases hf
            exact gj_iret C E dX3_obstacleFor_78 (Nat.le_of_ble_eq_true rfl) (Nat.le_of_ble_eq_true rfl)
        · replace hf := gw_iff hf c
          refine gj_iconst (v := 4) C dX3_obstacleFor_62 (by decide) ?_
          cases hf
          exact gj_iret C E dX3_obstacleFor_63 (Nat.le_of_ble_eq_true rfl) (Nat.le_of_ble_eq_true rfl)
      · replace hf := gw_iff hf c
        refine gj_iconst (v := 3) C dX3_obstacleFor_43 (by decide) ?_
        cases hf
        exact gj_iret C E dX3_obstacleFor_44 (Nat.le_of_ble_eq_true rfl) (Nat.le_of_ble_eq_true rfl)
    · replace hf := gw_iff hf c
      refine gj_iconst (v := 2) C dX3_obstacleFor_27 (by decide) ?_
      cases hf
      exact gj_iret C E dX3_obstacleFor_28 (Nat.le_of_ble_eq_true rfl) (Nat.le_of_ble_eq_true rfl)
  · replace hf := gw_iff hf c
    refine gj_iconst (v := 1) C dX3_obstacleFor_14 (by decide) ?_
    cases hf
    exact gj_iret C E dX3_obstacleFor_15 (Nat.le_of_ble_eq_true rfl) (Nat.le_of_ble_eq_true rfl)
set_option maxRecDepth 100000 in
set_option maxHeartbeats 4000000 in
theorem l_X3_makeOffersFor_1 {K : gw_K} {Γ : gw_G} (C : gw_C K Γ cX3_makeOffersFor 5 RX3) (μ : gw_S) (o : Nat → Int64) (v1 : Nat) (hk1 : gw_kC v1) : ∀ (n : Nat) (v2 : Int32) (v3 : Int32) (τ : gw_S) (T : Int32 × Int32 × gw_S), gw_it (b_X3_makeOffersFor_1 v1) n (v2, v3, τ) = some T → (gw_J K Γ gr_X3_makeOffersFor 0 0 (gw_W Γ T.2.2 μ o) 87 [(0, .ref (gw_a Γ 0)), (1, .ref (gw_a Γ v1)), (2, .int T.1), (3, .int T.2.1)] []) → gw_J K Γ gr_X3_makeOffersFor 0 0 (gw_W Γ τ μ o) 8 [(0, .ref (gw_a Γ 0)), (1, .ref (gw_a Γ v1)), (2, .int v2), (3, .int v3)] [] := by
  intro n
  induction n with
  | zero => intro v2 v3 τ T  h; cases h
  | succ n ih =>
    intro v2 v3 τ T  h k
    obtain ⟨q, hf, hr⟩ := gw_it_s h
    rw [b_X3_makeOffersFor_1] at hf
    refine gj_iload_n C 3 dX3_makeOffersFor_8 rfl ?_
    refine gj_aload_n C 1 dX3_makeOffersFor_9 rfl ?_
    refine g_X3_179 C hk1 dX3_makeOffersFor_10 ?_
    replace hf := gw_bnd hf
    obtain ⟨r2, hr2, hf⟩ := hf
    refine gj_cVi (As := []) (rest := [.int v3]) C cb_X3_164 (s_X1_size (gw_l K) Γ τ μ o (v1 + 36) (gw_kCR hk1) r2 hr2) rfl (Nat.le_of_ble_eq_true rfl) (gw_atR (gw_kCR hk1)) rfl rfl dX3_makeOffersFor_13 (gw_rmk rfl) rfl ?_
    refine gj_ic_ge C 87 dX3_makeOffersFor_16 (by decide) (fun c => ?_) (fun c => ?_)
    · replace hf := gw_ift hf c
      cases hf
      cases gw_ir hr
      exact gj_pick [0, 1, 2, 3] _ rfl (k )
    · replace hf := gw_iff hf c
      refine gj_iload_n C 2 dX3_makeOffersFor_19 rfl ?_
      refine gj_if_le C 87 dX3_makeOffersFor_20 (by decide) (fun c => ?_) (fun c => ?_)
      · replace hf := gw_ift hf c
        cases hf
        cases gw_ir hr
        exact gj_pick [0, 1, 2, 3] _ rfl (k )
      · replace hf := gw_iff hf c
        refine gj_aload_n C 0 dX3_makeOffersFor_23 rfl ?_
        refine gj_aload_n C 1 dX3_makeOffersFor_24 rfl ?_
        refine g_X3_179 C hk1 dX3_makeOffersFor_25 ?_
        refine gj_iload_n C 3 dX3_makeOffersFor_28 rfl ?_
        replace hf := gw_bnd hf
        obtain ⟨r3, hr3, hf⟩ := hf
        refine gj_cVi (As := [.int v3]) (rest := [.ref (gw_a Γ 0)]) C cb_X3_259 (s_X1_at (gw_l K) Γ τ μ o (v1 + 36) v3 (gw_kCR hk1) r3 hr3) rfl (Nat.le_of_ble_eq_true rfl) (gw_atR (gw_kCR hk1)) rfl rfl dX3_makeOffersFor_29 (gw_rmk rfl) rfl ?_
        replace hf := gw_bnd hf
        obtain ⟨r4, hr4, hf⟩ := hf
        replace hf := gw_xn hf
        obtain ⟨v5, he, hf⟩ := hf
        subst he
        have hk_v5 := k_studentAt hr4
        refine gj_cVr (As := [.int r3]) (rest := []) C cb_X3_128 (sr_X3_studentAt (gw_l K) Γ τ μ o r3 v5 hr4) rfl (Nat.le_of_ble_eq_true rfl) gw_atM rfl rfl dX3_makeOffersFor_32 (gw_rmk rfl) rfl ?_
        refine gj_astore C 4 [(4, .ref (gw_a Γ v5)), (0, .ref (gw_a Γ 0)), (1, .ref (gw_a Γ v1)), (2, .int v2), (3, .int v3)] dX3_makeOffersFor_35 (by decide) rfl ?_
        refine gj_aload_n C 2 dX3_makeOffersFor_37 rfl ?_
        refine gj_aload C 0 dX3_makeOffersFor_38 rfl ?_
        refine g_X3_127 C hk_v5 rfl dX3_makeOffersFor_40 ?_
        replace hf := gw_bnd hf
        obtain ⟨r6, hr6, hf⟩ := hf
        refine gj_cVi (As := [.int (τ v5 0)]) (rest := []) C cb_X3_199 (s_X0_hasOfferFor (gw_l K) Γ τ μ o v1 (τ v5 0) hk1 r6 hr6) rfl (Nat.le_of_ble_eq_true rfl) (gw_atC hk1) rfl rfl dX3_makeOffersFor_43 (gw_rmk rfl) rfl ?_
        refine gj_if_ne C 81 dX3_makeOffersFor_46 (by decide) (fun c => ?_) (fun c => ?_)
        · replace hf := gw_iff hf c
          refine gj_iinc C 3 4 (v3 + 1) [(3, .int (v3 + 1)), (4, .ref (gw_a Γ v5)), (0, .ref (gw_a Γ 0)), (1, .ref (gw_a Γ v1)), (2, .int v2)] dX3_makeOffersFor_81 rfl rfl (by decide) rfl ?_
          refine gj_goto C 8 dX3_makeOffersFor_84 (by decide) ?_
          cases hf
          replace hr := gw_il hr
          exact gj_pick [2, 3, 4, 0] _ rfl (ih _ _ _ _  hr k)
        · replace hf := gw_ift hf c
          refine gj_aload_n C 1 dX3_makeOffersFor_49 rfl ?_
          refine gj_aload C 0 dX3_makeOffersFor_50 rfl ?_
          refine gj_aload_n C 2 dX3_makeOffersFor_52 rfl ?_
          refine gj_aload C 0 dX3_makeOffersFor_53 rfl ?_
          refine g_X3_135 C hk_v5 rfl dX3_makeOffersFor_55 ?_
          replace hf := gw_bnd hf
          obtain ⟨r7, hr7, hf⟩ := hf
          refine gj_cVi (As := [.ref (gw_a Γ v5), .ref (gw_a Γ v1), .int (τ v5 5)]) (rest := []) C cb_X3_155 (s_X3_obstacleFor (gw_l K) Γ τ μ o v5 v1 (τ v5 5) hk_v5 hk1 r7 hr7) rfl (Nat.le_of_ble_eq_true rfl) gw_atM rfl rfl dX3_makeOffersFor_58 (gw_rmk rfl) rfl ?_
          refine gj_if_ne C 81 dX3_makeOffersFor_61 (by decide) (fun c => ?_) (fun c => ?_)
          · replace hf := gw_iff hf c
            refine gj_iinc C 3 4 (v3 + 1) [(3, .int (v3 + 1)), (4, .ref (gw_a Γ v5)), (0, .ref (gw_a Γ 0)), (1, .ref (gw_a Γ v1)), (2, .int v2)] dX3_makeOffersFor_81 rfl rfl (by decide) rfl ?_
            refine gj_goto C 8 dX3_makeOffersFor_84 (by decide) ?_
            cases hf
            replace hr := gw_il hr
            exact gj_pick [2, 3, 4, 0] _ rfl (ih _ _ _ _  hr k)
          · replace hf := gw_ift hf c
            refine gj_aload_n C 2 dX3_makeOffersFor_64 rfl ?_
            refine g_X3_277 C hk1 dX3_makeOffersFor_65 ?_
            refine gj_aload C 0 dX3_makeOffersFor_68 rfl ?_
            refine g_X3_127 C hk_v5 rfl dX3_makeOffersFor_70 ?_
            refine gj_aload_n C 1 dX3_makeOffersFor_73 rfl ?_
            refine g_X3_32 C  rfl dX3_makeOffersFor_74 ?_
            obtain ⟨g8, hf⟩ := gw_ifs hf
            refine gj_ast C (gw_kCA hk1) (gw_ibv g8) dX3_makeOffersFor_77 ?_
            refine gj_iinc C 2 3 (v2 + (-1)) [(2, .int (v2 + (-1))), (4, .ref (gw_a Γ v5)), (0, .ref (gw_a Γ 0)), (1, .ref (gw_a Γ v1)), (3, .int v3)] dX3_makeOffersFor_78 rfl rfl (by decide) rfl ?_
            refine gj_iinc C 3 4 (v3 + 1) [(3, .int (v3 + 1)), (2, .int (v2 + (-1))), (4, .ref (gw_a Γ v5)), (0, .ref (gw_a Γ 0)), (1, .ref (gw_a Γ v1))] dX3_makeOffersFor_81 rfl rfl (by decide) rfl ?_
            refine gj_goto C 8 dX3_makeOffersFor_84 (by decide) ?_
            cases hf
            replace hr := gw_il hr
            exact gj_pick [3, 4, 1, 0] _ rfl (ih _ _ _ _  hr k)
set_option maxRecDepth 100000 in
set_option maxHeartbeats 4000000 in
theorem s_X3_makeOffersFor (l : Launch) (Γ : gw_G) (τ μ : gw_S) (o : Nat → Int64) (a1 : Nat) (ha1 : gw_kC a1) (r : gw_S) (hf : f_X3_makeOffersFor τ a1 = some r) : gw_M l yX3_makeOffersFor [.code yX3_makeOffersFor cX3_makeOffersFor 5 none] gr_X3_makeOffersFor 0 0 Γ [.ref (gw_a Γ 0), .ref (gw_a Γ a1)] (gw_W Γ τ μ o) (gw_qv Γ (gw_W Γ r μ o)) := by
  refine gw_enter (by decide) (Nat.le_of_ble_eq_true rfl) (fun K C E => ?_)
  unfold f_X3_makeOffersFor at hf
  refine gj_aload_n C 0 dX3_makeOffersFor_0 rfl ?_
  refine gj_aload_n C 1 dX3_makeOffersFor_1 rfl ?_
  replace hf := gw_bnd hf
  obtain ⟨r1, hr1, hf⟩ := hf
  refine gj_cVi (As := [.ref (gw_a Γ a1)]) (rest := []) C cb_X3_114 (s_X3_freeIn (gw_l K) Γ τ μ o a1 ha1 r1 hr1) rfl (Nat.le_of_ble_eq_true rfl) gw_atM rfl rfl dX3_makeOffersFor_2 (gw_rmk rfl) rfl ?_
  refine gj_istore_n C 2 [(2, .int r1), (0, .ref (gw_a Γ 0)), (1, .ref (gw_a Γ a1))] dX3_makeOffersFor_5 rfl (by decide) rfl ?_
  refine gj_iconst (v := 0) C dX3_makeOffersFor_6 (by decide) ?_
  refine gj_istore_n C 3 [(3, .int (0 : Int32)), (2, .int r1), (0, .ref (gw_a Γ 0)), (1, .ref (gw_a Γ a1))] dX3_makeOffersFor_7 rfl (by decide) rfl ?_
  replace hf := gw_bnd hf
  obtain ⟨t9, ht9, hf⟩ := hf
  refine gj_pick [2, 3, 1, 0] _ rfl (l_X3_makeOffersFor_1 C μ o a1 ha1 _ _ _ _ t9  ht9 (?_))
  cases hf
  exact gj_vret C E dX3_makeOffersFor_87 (Nat.le_of_ble_eq_true rfl) (Nat.le_of_ble_eq_true rfl)
set_option maxRecDepth 100000 in
set_option maxHeartbeats 4000000 in
theorem l_X3_makeOffers_1 {K : gw_K} {Γ : gw_G} (C : gw_C K Γ cX3_makeOffers 2 RX3) (μ : gw_S) (o : Nat → Int64) : ∀ (n : Nat) (v1 : Int32) (τ : gw_S) (T : Int32 × gw_S), gw_it (b_X3_makeOffers_1) n (v1, τ) = some T → (gw_J K Γ gr_X3_makeOffers 0 0 (gw_W Γ T.2 μ o) 26 [(0, .ref (gw_a Γ 0)), (1, .int T.1)] []) → gw_J K Γ gr_X3_makeOffers 0 0 (gw_W Γ τ μ o) 2 [(0, .ref (gw_a Γ 0)), (1, .int v1)] [] := by
  intro n
  induction n with
  | zero => intro v1 τ T  h; cases h
  | succ n ih =>
    intro v1 τ T  h k
    obtain ⟨q, hf, hr⟩ := gw_it_s h
    rw [b_X3_makeOffers_1] at hf
    refine gj_iload_n C 1 dX3_makeOffers_2 rfl ?_
    refine gj_aload_n C 0 dX3_makeOffers_3 rfl ?_
    refine g_X3_25 C  rfl dX3_makeOffers_4 ?_
    refine gj_ic_ge C 26 dX3_makeOffers_7 (by decide) (fun c => ?_) (fun c => ?_)
    · replace hf := gw_ift hf c
      cases hf
      cases gw_ir hr
      exact gj_pick [0, 1] _ rfl (k )
    · replace hf := gw_iff hf c
      refine gj_aload_n C 0 dX3_makeOffers_10 rfl ?_
      refine gj_aload_n C 0 dX3_makeOffers_11 rfl ?_
      refine g_X3_11 C  dX3_makeOffers_12 ?_
      refine gj_iload_n C 1 dX3_makeOffers_15 rfl ?_
      obtain ⟨g1, hf⟩ := gw_ifs hf
      refine gj_ald1 C (gw_ibv g1) dX3_makeOffers_16 ?_
      replace hf := gw_bnd hf
      obtain ⟨r2, hr2, hf⟩ := hf
      refine gj_cVv (As := [.ref (gw_a Γ (4 + v1.toNatClampNeg))]) (rest := []) C cb_X3_273 (s_X3_makeOffersFor (gw_l K) Γ τ μ o (4 + v1.toNatClampNeg) (gw_vC (gw_ibv g1)) r2 hr2) rfl (Nat.le_of_ble_eq_true rfl) gw_atM rfl rfl dX3_makeOffers_17 (gw_rmk rfl) rfl ?_
      refine gj_iinc C 1 1 (v1 + 1) [(1, .int (v1 + 1)), (0, .ref (gw_a Γ 0))] dX3_makeOffers_20 rfl rfl (by decide) rfl ?_
      refine gj_goto C 2 dX3_makeOffers_23 (by decide) ?_
      cases hf
      replace hr := gw_il hr
      exact gj_pick [1, 0] _ rfl (ih _ _ _  hr k)
set_option maxRecDepth 100000 in
set_option maxHeartbeats 4000000 in
theorem s_X3_makeOffers (l : Launch) (Γ : gw_G) (τ μ : gw_S) (o : Nat → Int64) (r : gw_S) (hf : f_X3_makeOffers τ = some r) : gw_M l yX3_makeOffers [.code yX3_makeOffers cX3_makeOffers 2 none] gr_X3_makeOffers 0 0 Γ [.ref (gw_a Γ 0)] (gw_W Γ τ μ o) (gw_qv Γ (gw_W Γ r μ o)) := by
  refine gw_enter (by decide) (Nat.le_of_ble_eq_true rfl) (fun K C E => ?_)
  unfold f_X3_makeOffers at hf
  refine gj_iconst (v := 0) C dX3_makeOffers_0 (by decide) ?_
  refine gj_istore_n C 1 [(1, .int (0 : Int32)), (0, .ref (gw_a Γ 0))] dX3_makeOffers_1 rfl (by decide) rfl ?_
  replace hf := gw_bnd hf
  obtain ⟨t3, ht3, hf⟩ := hf
  refine gj_pick [1, 0] _ rfl (l_X3_makeOffers_1 C μ o _ _ _ t3  ht3 (?_))
  cases hf
  exact gj_vret C E dX3_makeOffers_26 (Nat.le_of_ble_eq_true rfl) (Nat.le_of_ble_eq_true rfl)
set_option maxRecDepth 100000 in
set_option maxHeartbeats 4000000 in
theorem s_X3_setSeats (l : Launch) (Γ : gw_G) (τ μ : gw_S) (o : Nat → Int64) (a1 : Int32) (a2 : Int32) (r : (Int32 ⊕ String) × gw_S) (hf : f_X3_setSeats τ a1 a2 = some r) : gw_MX l yX3_setSeats [.code yX3_setSeats cX3_setSeats 5 (some .int)] gr_X3_setSeats 2 12 Γ [.ref (gw_a Γ 0), .int a1, .int a2] (gw_W Γ τ μ o) (gw_qI Γ r.1 (gw_W Γ r.2 μ o)) (gw_x Γ r.1 (gw_W Γ r.2 μ o)) := by
  refine gw_enterX (by decide) (Nat.le_of_ble_eq_true rfl) (fun K C E => ?_)
  unfold f_X3_setSeats at hf
  refine gj_aload_n C 0 dX3_setSeats_0 rfl ?_
  refine gj_iload_n C 1 dX3_setSeats_1 rfl ?_
  replace hf := gw_bnd hf
  obtain ⟨r1, hr1, hf⟩ := hf
  refine gj_cVR (As := [.int a1]) (rest := []) C cb_X3_68 (s_X3_courseAt (gw_l K) Γ τ μ o a1 r1 hr1) rfl (Nat.le_of_ble_eq_true rfl) gw_atM rfl rfl dX3_setSeats_2 (gw_rmk rfl) rfl (fun e he => ?_) (fun v2 he => ?_)
  · replace hf := gw_xr hf he
    cases hf
    exact gj_out C rfl E (Nat.le_of_ble_eq_true rfl) (Nat.le_of_ble_eq_true rfl)
  · replace hf := gw_xl hf he
    subst he
    have hk_v2 := k_courseAt hr1
    refine gj_astore_n C 3 [(3, .ref (gw_a Γ v2)), (0, .ref (gw_a Γ 0)), (1, .int a1), (2, .int a2)] dX3_setSeats_5 rfl (by decide) rfl ?_
    refine gj_iload_n C 3 dX3_setSeats_6 rfl ?_
    refine gj_iconst (v := 0) C dX3_setSeats_7 (by decide) ?_
    refine gj_bipush (v := 16) C dX3_setSeats_8 (by decide) ?_
    replace hf := gw_bnd hf
    obtain ⟨r3, hr3, hf⟩ := hf
    refine gj_cSi (As := [.int a2, .int (0 : Int32), .int (16 : Int32)]) (rest := []) C cb_X3_39 (s_X3_isOutside (gw_l K) Γ τ μ o a2 (0 : Int32) (16 : Int32) r3 hr3) rfl (Nat.le_of_ble_eq_true rfl) dX3_setSeats_10 (gw_rmk rfl) rfl ?_
    refine gj_if_eq C 26 dX3_setSeats_13 (by decide) (fun c => ?_) (fun c => ?_)
    · replace hf := gw_ift hf c
      refine gj_iload_n C 3 dX3_setSeats_26 rfl ?_
      refine gj_aload_n C 1 dX3_setSeats_27 rfl ?_
      refine gj_aload_n C 0 dX3_setSeats_28 rfl ?_
      replace hf := gw_bnd hf
      obtain ⟨r4, hr4, hf⟩ := hf
      refine gj_cVi (As := [.ref (gw_a Γ v2)]) (rest := [.int a2]) C cb_X3_74 (s_X3_takenSeats (gw_l K) Γ τ μ o v2 hk_v2 r4 hr4) rfl (Nat.le_of_ble_eq_true rfl) gw_atM rfl rfl dX3_setSeats_29 (gw_rmk rfl) rfl ?_
      refine gj_ic_ge C 45 dX3_setSeats_32 (by decide) (fun c => ?_) (fun c => ?_)
      · replace hf := gw_ift hf c
        refine gj_aload_n C 0 dX3_setSeats_45 rfl ?_
        refine g_X3_56 C hk_v2 rfl dX3_setSeats_46 ?_
        refine gj_istore C 4 [(4, .int (τ v2 3)), (3, .ref (gw_a Γ v2)), (0, .ref (gw_a Γ 0)), (1, .int a1), (2, .int a2)] dX3_setSeats_49 (by decide) rfl ?_
        refine gj_aload_n C 1 dX3_setSeats_51 rfl ?_
        refine gj_iload_n C 4 dX3_setSeats_52 rfl ?_
        refine p_X3_56 C hk_v2 dX3_setSeats_53 ?_
        refine gj_aload_n C 2 dX3_setSeats_56 rfl ?_
        replace hf := gw_bnd hf
        obtain ⟨r5, hr5, hf⟩ := hf
        refine gj_cVv (As := []) (rest := []) C cb_X3_80 (s_X3_makeOffers (gw_l K) Γ (gw_up τ v2 3 a2) μ o  r5 hr5) rfl (Nat.le_of_ble_eq_true rfl) gw_atM rfl rfl dX3_setSeats_57 (gw_rmk rfl) rfl ?_
        refine gj_iload C 0 dX3_setSeats_60 rfl ?_
        cases hf
        exact gj_iretX C rfl E dX3_setSeats_62 (Nat.le_of_ble_eq_true rfl) (Nat.le_of_ble_eq_true rfl)
      · replace hf := gw_iff hf c
        cases hf
        exact gj_throw C rfl E (by decide) cl_51 ini_51 st_78 at_55 dX3_setSeats_35 dX3_setSeats_38 dX3_setSeats_39 dX3_setSeats_41 dX3_setSeats_44 ⟨(Nat.le_of_ble_eq_true rfl), (Nat.le_of_ble_eq_true rfl)⟩ ⟨(Nat.le_of_ble_eq_true rfl), (Nat.le_of_ble_eq_true rfl)⟩ (Nat.le_of_ble_eq_true rfl) (Nat.le_of_ble_eq_true rfl)
    · replace hf := gw_iff hf c
      cases hf
      exact gj_throw C rfl E (by decide) cl_44 ini_44 st_72 at_48 dX3_setSeats_16 dX3_setSeats_19 dX3_setSeats_20 dX3_setSeats_22 dX3_setSeats_25 ⟨(Nat.le_of_ble_eq_true rfl), (Nat.le_of_ble_eq_true rfl)⟩ ⟨(Nat.le_of_ble_eq_true rfl), (Nat.le_of_ble_eq_true rfl)⟩ (Nat.le_of_ble_eq_true rfl) (Nat.le_of_ble_eq_true rfl)
set_option maxRecDepth 100000 in
set_option maxHeartbeats 4000000 in
theorem s_X3_bit (l : Launch) (Γ : gw_G) (τ μ : gw_S) (o : Nat → Int64) (a0 : Int32) (r : Int32) (hf : f_X3_bit τ a0 = some r) : gw_M l yX3_bit [.code yX3_bit cX3_bit 1 (some .int)] gr_X3_bit 0 0 Γ [.int a0] (gw_W Γ τ μ o) (gw_qi Γ r (gw_W Γ τ μ o)) := by
  refine gw_enter (by decide) (Nat.le_of_ble_eq_true rfl) (fun K C E => ?_)
  unfold f_X3_bit at hf
  refine gj_iconst (v := 1) C dX3_bit_0 (by decide) ?_
  refine gj_iload_n C 0 dX3_bit_1 rfl ?_
  refine gj_ishl C dX3_bit_2 ?_
  cases hf
  exact gj_iret C E dX3_bit_3 (Nat.le_of_ble_eq_true rfl) (Nat.le_of_ble_eq_true rfl)
set_option maxRecDepth 100000 in
set_option maxHeartbeats 4000000 in
theorem l_X3_spreadRequired_1 {K : gw_K} {Γ : gw_G} (C : gw_C K Γ cX3_spreadRequired 5 RX3) (μ : gw_S) (o : Nat → Int64) (v1 : Nat) (v2 : Int32) (hk1 : gw_kC v1) : ∀ (n : Nat) (v3 : Int32) (τ : gw_S) (T : Int32 × gw_S), gw_it (b_X3_spreadRequired_1 v1 v2) n (v3, τ) = some T → (gw_J K Γ gr_X3_spreadRequired 0 0 (gw_W Γ T.2 μ o) 56 [(0, .ref (gw_a Γ 0)), (1, .ref (gw_a Γ v1)), (2, .int v2), (3, .int T.1)] []) → gw_J K Γ gr_X3_spreadRequired 0 0 (gw_W Γ τ μ o) 2 [(0, .ref (gw_a Γ 0)), (1, .ref (gw_a Γ v1)), (2, .int v2), (3, .int v3)] [] := by
  intro n
  induction n with
  | zero => intro v3 τ T  h; cases h
  | succ n ih =>
    intro v3 τ T  h k
    obtain ⟨q, hf, hr⟩ := gw_it_s h
    rw [b_X3_spreadRequired_1] at hf
    refine gj_iload_n C 3 dX3_spreadRequired_2 rfl ?_
    refine gj_aload_n C 0 dX3_spreadRequired_3 rfl ?_
    refine g_X3_25 C  rfl dX3_spreadRequired_4 ?_
    refine gj_ic_ge C 56 dX3_spreadRequired_7 (by decide) (fun c => ?_) (fun c => ?_)
    · replace hf := gw_ift hf c
      cases hf
      cases gw_ir hr
      exact gj_pick [0, 1, 2, 3] _ rfl (k )
    · replace hf := gw_iff hf c
      refine gj_aload_n C 0 dX3_spreadRequired_10 rfl ?_
      refine g_X3_11 C  dX3_spreadRequired_11 ?_
      refine gj_iload_n C 3 dX3_spreadRequired_14 rfl ?_
      obtain ⟨g1, hf⟩ := gw_ifs hf
      refine gj_ald1 C (gw_ibv g1) dX3_spreadRequired_15 ?_
      refine gj_astore C 4 [(4, .ref (gw_a Γ (4 + v3.toNatClampNeg))), (0, .ref (gw_a Γ 0)), (1, .ref (gw_a Γ v1)), (2, .int v2), (3, .int v3)] dX3_spreadRequired_16 (by decide) rfl ?_
      refine gj_aload C 0 dX3_spreadRequired_18 rfl ?_
      refine gj_aload_n C 2 dX3_spreadRequired_20 rfl ?_
      refine gj_ac_eq (i := (4 + v3.toNatClampNeg)) (j := v1) C 39 (gw_kCl (gw_vC (gw_ibv g1))) (gw_kCl hk1) dX3_spreadRequired_21 (by decide) (fun c => ?_) (fun c => ?_)
      · replace hf := gw_ift hf c
        refine gj_aload C 0 dX3_spreadRequired_39 rfl ?_
        refine gj_dup C dX3_spreadRequired_41 rfl ?_
        refine g_X3_90 C (gw_vC (gw_ibv g1)) rfl dX3_spreadRequired_42 ?_
        refine gj_iload_n C 3 dX3_spreadRequired_45 rfl ?_
        refine gj_ior C dX3_spreadRequired_46 ?_
        refine p_X3_90 C (gw_vC (gw_ibv g1)) dX3_spreadRequired_47 ?_
        refine gj_iinc C 3 4 (v3 + 1) [(3, .int (v3 + 1)), (4, .ref (gw_a Γ (4 + v3.toNatClampNeg))), (0, .ref (gw_a Γ 0)), (1, .ref (gw_a Γ v1)), (2, .int v2)] dX3_spreadRequired_50 rfl rfl (by decide) rfl ?_
        refine gj_goto C 2 dX3_spreadRequired_53 (by decide) ?_
        cases hf
        replace hr := gw_il hr
        exact gj_pick [2, 3, 4, 0] _ rfl (ih _ _ _  hr k)
      · replace hf := gw_iff hf c
        refine gj_aload C 0 dX3_spreadRequired_24 rfl ?_
        refine g_X3_90 C (gw_vC (gw_ibv g1)) rfl dX3_spreadRequired_26 ?_
        refine gj_aload_n C 2 dX3_spreadRequired_29 rfl ?_
        refine g_X3_65 C hk1 rfl dX3_spreadRequired_30 ?_
        replace hf := gw_bnd hf
        obtain ⟨r2, hr2, hf⟩ := hf
        refine gj_cSi (As := [.int (τ (4 + v3.toNatClampNeg) 7), .int (τ v1 0)]) (rest := []) C cb_X3_86 (s_X3_isIn (gw_l K) Γ τ μ o (τ (4 + v3.toNatClampNeg) 7) (τ v1 0) r2 hr2) rfl (Nat.le_of_ble_eq_true rfl) dX3_spreadRequired_33 (gw_rmk rfl) rfl ?_
        refine gj_if_eq C 50 dX3_spreadRequired_36 (by decide) (fun c => ?_) (fun c => ?_)
        · replace hf := gw_ift hf c
          refine gj_iinc C 3 4 (v3 + 1) [(3, .int (v3 + 1)), (4, .ref (gw_a Γ (4 + v3.toNatClampNeg))), (0, .ref (gw_a Γ 0)), (1, .ref (gw_a Γ v1)), (2, .int v2)] dX3_spreadRequired_50 rfl rfl (by decide) rfl ?_
          refine gj_goto C 2 dX3_spreadRequired_53 (by decide) ?_
          cases hf
          replace hr := gw_il hr
          exact gj_pick [2, 3, 4, 0] _ rfl (ih _ _ _  hr k)
        · replace hf := gw_iff hf c
          refine gj_aload C 0 dX3_spreadRequired_39 rfl ?_
          refine gj_dup C dX3_spreadRequired_41 rfl ?_
          refine g_X3_90 C (gw_vC (gw_ibv g1)) rfl dX3_spreadRequired_42 ?_
          refine gj_iload_n C 3 dX3_spreadRequired_45 rfl ?_
          refine gj_ior C dX3_spreadRequired_46 ?_
          refine p_X3_90 C (gw_vC (gw_ibv g1)) dX3_spreadRequired_47 ?_
          refine gj_iinc C 3 4 (v3 + 1) [(3, .int (v3 + 1)), (4, .ref (gw_a Γ (4 + v3.toNatClampNeg))), (0, .ref (gw_a Γ 0)), (1, .ref (gw_a Γ v1)), (2, .int v2)] dX3_spreadRequired_50 rfl rfl (by decide) rfl ?_
          refine gj_goto C 2 dX3_spreadRequired_53 (by decide) ?_
          cases hf
          replace hr := gw_il hr
          exact gj_pick [2, 3, 4, 0] _ rfl (ih _ _ _  hr k)
set_option maxRecDepth 100000 in
set_option maxHeartbeats 4000000 in
theorem s_X3_spreadRequired (l : Launch) (Γ : gw_G) (τ μ : gw_S) (o : Nat → Int64) (a1 : Nat) (a2 : Int32) (ha1 : gw_kC a1) (r : gw_S) (hf : f_X3_spreadRequired τ a1 a2 = some r) : gw_M l yX3_spreadRequired [.code yX3_spreadRequired cX3_spreadRequired 5 none] gr_X3_spreadRequired 0 0 Γ [.ref (gw_a Γ 0), .ref (gw_a Γ a1), .int a2] (gw_W Γ τ μ o) (gw_qv Γ (gw_W Γ r μ o)) := by
  refine gw_enter (by decide) (Nat.le_of_ble_eq_true rfl) (fun K C E => ?_)
  unfold f_X3_spreadRequired at hf
  refine gj_iconst (v := 0) C dX3_spreadRequired_0 (by decide) ?_
  refine gj_istore_n C 3 [(3, .int (0 : Int32)), (0, .ref (gw_a Γ 0)), (1, .ref (gw_a Γ a1)), (2, .int a2)] dX3_spreadRequired_1 rfl (by decide) rfl ?_
  replace hf := gw_bnd hf
  obtain ⟨t3, ht3, hf⟩ := hf
  refine gj_pick [1, 2, 3, 0] _ rfl (l_X3_spreadRequired_1 C μ o a1 a2 ha1 _ _ _ t3  ht3 (?_))
  cases hf
  exact gj_vret C E dX3_spreadRequired_56 (Nat.le_of_ble_eq_true rfl) (Nat.le_of_ble_eq_true rfl)
set_option maxRecDepth 100000 in
set_option maxHeartbeats 4000000 in
theorem s_J6_bitCount_0f7a4 (l : Launch) (Γ : gw_G) (τ μ : gw_S) (o : Nat → Int64) (a0 : Int32) (r : Int32) (hf : f_J6_bitCount_0f7a4 τ a0 = some r) : gw_M l yJ6_bitCount_0f7a4 [.code yJ6_bitCount_0f7a4 cJ6_bitCount_0f7a4 1 (some .int)] gr_J6_bitCount_0f7a4 0 0 Γ [.int a0] (gw_W Γ τ μ o) (gw_qi Γ r (gw_W Γ τ μ o)) := by
  refine gw_enter (by decide) (Nat.le_of_ble_eq_true rfl) (fun K C E => ?_)
  unfold f_J6_bitCount_0f7a4 at hf
  refine gj_iload_n C 0 dJ6_bitCount_0f7a4_0 rfl ?_
  refine gj_iload_n C 0 dJ6_bitCount_0f7a4_1 rfl ?_
  refine gj_iconst (v := 1) C dJ6_bitCount_0f7a4_2 (by decide) ?_
  refine gj_iushr (v := (a0.toUInt32 >>> ((1 : Int32).toUInt32 &&& Int32.toUInt32 31)).toInt32) C dJ6_bitCount_0f7a4_3 rfl ?_
  refine gj_ldcw (v := 1431655765) C cst_J6_265 dJ6_bitCount_0f7a4_4 ?_
  refine gj_iand C dJ6_bitCount_0f7a4_7 ?_
  refine gj_isub C dJ6_bitCount_0f7a4_8 ?_
  refine gj_istore_n C 0 [(0, .int (a0 - (((a0.toUInt32 >>> ((1 : Int32).toUInt32 &&& Int32.toUInt32 31)).toInt32) &&& (1431655765 : Int32))))] dJ6_bitCount_0f7a4_9 rfl (by decide) rfl ?_
  refine gj_iload_n C 0 dJ6_bitCount_0f7a4_10 rfl ?_
  refine gj_ldcw (v := 858993459) C cst_J6_266 dJ6_bitCount_0f7a4_11 ?_
  refine gj_iand C dJ6_bitCount_0f7a4_14 ?_
  refine gj_iload_n C 0 dJ6_bitCount_0f7a4_15 rfl ?_
  refine gj_iconst (v := 2) C dJ6_bitCount_0f7a4_16 (by decide) ?_
  refine gj_iushr (v := ((a0 - (((a0.toUInt32 >>> ((1 : Int32).toUInt32 &&& Int32.toUInt32 31)).toInt32) &&& (1431655765 : Int32))).toUInt32 >>> ((2 : Int32).toUInt32 &&& Int32.toUInt32 31)).toInt32) C dJ6_bitCount_0f7a4_17 rfl ?_
  refine gj_ldcw (v := 858993459) C cst_J6_266 dJ6_bitCount_0f7a4_18 ?_
  refine gj_iand C dJ6_bitCount_0f7a4_21 ?_
  refine gj_iadd C dJ6_bitCount_0f7a4_22 ?_
  refine gj_istore_n C 0 [(0, .int (((a0 - (((a0.toUInt32 >>> ((1 : Int32).toUInt32 &&& Int32.toUInt32 31)).toInt32) &&& (1431655765 : Int32))) &&& (858993459 : Int32)) + ((((a0 - (((a0.toUInt32 >>> ((1 : Int32).toUInt32 &&& Int32.toUInt32 31)).toInt32) &&& (1431655765 : Int32))).toUInt32 >>> ((2 : Int32).toUInt32 &&& Int32.toUInt32 31)).toInt32) &&& (858993459 : Int32))))] dJ6_bitCount_0f7a4_23 rfl (by decide) rfl ?_
  refine gj_iload_n C 0 dJ6_bitCount_0f7a4_24 rfl ?_
  refine gj_iload_n C 0 dJ6_bitCount_0f7a4_25 rfl ?_
  refine gj_iconst (v := 4) C dJ6_bitCount_0f7a4_26 (by decide) ?_
  refine gj_iushr (v := ((((a0 - (((a0.toUInt32 >>> ((1 : Int32).toUInt32 &&& Int32.toUInt32 31)).toInt32) &&& (1431655765 : Int32))) &&& (858993459 : Int32)) + ((((a0 - (((a0.toUInt32 >>> ((1 : Int32).toUInt32 &&& Int32.toUInt32 31)).toInt32) &&& (1431655765 : Int32))).toUInt32 >>> ((2 : Int32).toUInt32 &&& Int32.toUInt32 31)).toInt32) &&& (858993459 : Int32))).toUInt32 >>> ((4 : Int32).toUInt32 &&& Int32.toUInt32 31)).toInt32) C dJ6_bitCount_0f7a4_27 rfl ?_
  refine gj_iadd C dJ6_bitCount_0f7a4_28 ?_
  refine gj_ldcw (v := 252645135) C cst_J6_267 dJ6_bitCount_0f7a4_29 ?_
  refine gj_iand C dJ6_bitCount_0f7a4_32 ?_
  refine gj_istore_n C 0 [(0, .int (((((a0 - (((a0.toUInt32 >>> ((1 : Int32).toUInt32 &&& Int32.toUInt32 31)).toInt32) &&& (1431655765 : Int32))) &&& (858993459 : Int32)) + ((((a0 - (((a0.toUInt32 >>> ((1 : Int32).toUInt32 &&& Int32.toUInt32 31)).toInt32) &&& (1431655765 : Int32))).toUInt32 >>> ((2 : Int32).toUInt32 &&& Int32.toUInt32 31)).toInt32) &&& (858993459 : Int32))) + (((((a0 - (((a0.toUInt32 >>> ((1 : Int32).toUInt32 &&& Int32.toUInt32 31)).toInt32) &&& (1431655765 : Int32))) &&& (858993459 : Int32)) + ((((a0 - (((a0.toUInt32 >>> ((1 : Int32).toUInt32 &&& Int32.toUInt32 31)).toInt32) &&& (1431655765 : Int32))).toUInt32 >>> ((2 : Int32).toUInt32 &&& Int32.toUInt32 31)).toInt32) &&& (858993459 : Int32))).toUInt32 >>> ((4 : Int32).toUInt32 &&& Int32.toUInt32 31)).toInt32)) &&& (252645135 : Int32)))] dJ6_bitCount_0f7a4_33 rfl (by decide) rfl ?_
  refine gj_iload_n C 0 dJ6_bitCount_0f7a4_34 rfl ?_
  refine gj_iload_n C 0 dJ6_bitCount_0f7a4_35 rfl ?_
  refine gj_bipush (v := 8) C dJ6_bitCount_0f7a4_36 (by decide) ?_
  refine gj_iushr (v := ((((((a0 - (((a0.toUInt32 >>> ((1 : Int32).toUInt32 &&& Int32.toUInt32 31)).toInt32) &&& (1431655765 : Int32))) &&& (858993459 : Int32)) + ((((a0 - (((a0.toUInt32 >>> ((1 : Int32).toUInt32 &&& Int32.toUInt32 31)).toInt32) &&& (1431655765 : Int32))).toUInt32 >>> ((2 : Int32).toUInt32 &&& Int32.toUInt32 31)).toInt32) &&& (858993459 : Int32))) + (((((a0 - (((a0.toUInt32 >>> ((1 : Int32).toUInt32 &&& Int32.toUInt32 31)).toInt32) &&& (1431655765 : Int32))) &&& (858993459 : Int32)) + ((((a0 - (((a0.toUInt32 >>> ((1 : Int32).toUInt32 &&& Int32.toUInt32 31)).toInt32) &&& (1431655765 : Int32))).toUInt32 >>> ((2 : Int32).toUInt32 &&& Int32.toUInt32 31)).toInt32) &&& (858993459 : Int32))).toUInt32 >>> ((4 : Int32).toUInt32 &&& Int32.toUInt32 31)).toInt32)) &&& (252645135 : Int32)).toUInt32 >>> ((8 : Int32).toUInt32 &&& Int32.toUInt32 31)).toInt32) C dJ6_bitCount_0f7a4_38 rfl ?_
  refine gj_iadd C dJ6_bitCount_0f7a4_39 ?_
  refine gj_istore_n C 0 [(0, .int ((((((a0 - (((a0.toUInt32 >>> ((1 : Int32).toUInt32 &&& Int32.toUInt32 31)).toInt32) &&& (1431655765 : Int32))) &&& (858993459 : Int32)) + ((((a0 - (((a0.toUInt32 >>> ((1 : Int32).toUInt32 &&& Int32.toUInt32 31)).toInt32) &&& (1431655765 : Int32))).toUInt32 >>> ((2 : Int32).toUInt32 &&& Int32.toUInt32 31)).toInt32) &&& (858993459 : Int32))) + (((((a0 - (((a0.toUInt32 >>> ((1 : Int32).toUInt32 &&& Int32.toUInt32 31)).toInt32) &&& (1431655765 : Int32))) &&& (858993459 : Int32)) + ((((a0 - (((a0.toUInt32 >>> ((1 : Int32).toUInt32 &&& Int32.toUInt32 31)).toInt32) &&& (1431655765 : Int32))).toUInt32 >>> ((2 : Int32).toUInt32 &&& Int32.toUInt32 31)).toInt32) &&& (858993459 : Int32))).toUInt32 >>> ((4 : Int32).toUInt32 &&& Int32.toUInt32 31)).toInt32)) &&& (252645135 : Int32)) + (((((((a0 - (((a0.toUInt32 >>> ((1 : Int32).toUInt32 &&& Int32.toUInt32 31)).toInt32) &&& (1431655765 : Int32))) &&& (858993459 : Int32)) + ((((a0 - (((a0.toUInt32 >>> ((1 : Int32).toUInt32 &&& Int32.toUInt32 31)).toInt32) &&& (1431655765 : Int32))).toUInt32 >>> ((2 : Int32).toUInt32 &&& Int32.toUInt32 31)).toInt32) &&& (858993459 : Int32))) + (((((a0 - (((a0.toUInt32 >>> ((1 : Int32).toUInt32 &&& Int32.toUInt32 31)).toInt32) &&& (1431655765 : Int32))) &&& (858993459 : Int32)) + ((((a0 - (((a0.toUInt32 >>> ((1 : Int32).toUInt32 &&& Int32.toUInt32 31)).toInt32) &&& (1431655765 : Int32))).toUInt32 >>> ((2 : Int32).toUInt32 &&& Int32.toUInt32 31)).toInt32) &&& (858993459 : Int32))).toUInt32 >>> ((4 : Int32).toUInt32 &&& Int32.toUInt32 31)).toInt32)) &&& (252645135 : Int32)).toUInt32 >>> ((8 : Int32).toUInt32 &&& Int32.toUInt32 31)).toInt32)))] dJ6_bitCount_0f7a4_40 rfl (by decide) rfl ?_
  refine gj_iload_n C 0 dJ6_bitCount_0f7a4_41 rfl ?_
  refine gj_iload_n C 0 dJ6_bitCount_0f7a4_42 rfl ?_
  refine gj_bipush (v := 16) C dJ6_bitCount_0f7a4_43 (by decide) ?_
  refine gj_iushr (v := (((((((a0 - (((a0.toUInt32 >>> ((1 : Int32).toUInt32 &&& Int32.toUInt32 31)).toInt32) &&& (1431655765 : Int32))) &&& (858993459 : Int32)) + ((((a0 - (((a0.toUInt32 >>> ((1 : Int32).toUInt32 &&& Int32.toUInt32 31)).toInt32) &&& (1431655765 : Int32))).toUInt32 >>> ((2 : Int32).toUInt32 &&& Int32.toUInt32 31)).toInt32) &&& (858993459 : Int32))) + (((((a0 - (((a0.toUInt32 >>> ((1 : Int32).toUInt32 &&& Int32.toUInt32 31)).toInt32) &&& (1431655765 : Int32))) &&& (858993459 : Int32)) + ((((a0 - (((a0.toUInt32 >>> ((1 : Int32).toUInt32 &&& Int32.toUInt32 31)).toInt32) &&& (1431655765 : Int32))).toUInt32 >>> ((2 : Int32).toUInt32 &&& Int32.toUInt32 31)).toInt32) &&& (858993459 : Int32))).toUInt32 >>> ((4 : Int32).toUInt32 &&& Int32.toUInt32 31)).toInt32)) &&& (252645135 : Int32)) + (((((((a0 - (((a0.toUInt32 >>> ((1 : Int32).toUInt32 &&& Int32.toUInt32 31)).toInt32) &&& (1431655765 : Int32))) &&& (858993459 : Int32)) + ((((a0 - (((a0.toUInt32 >>> ((1 : Int32).toUInt32 &&& Int32.toUInt32 31)).toInt32) &&& (1431655765 : Int32))).toUInt32 >>> ((2 : Int32).toUInt32 &&& Int32.toUInt32 31)).toInt32) &&& (858993459 : Int32))) + (((((a0 - (((a0.toUInt32 >>> ((1 : Int32).toUInt32 &&& Int32.toUInt32 31)).toInt32) &&& (1431655765 : Int32))) &&& (858993459 : Int32)) + ((((a0 - (((a0.toUInt32 >>> ((1 : Int32).toUInt32 &&& Int32.toUInt32 31)).toInt32) &&& (1431655765 : Int32))).toUInt32 >>> ((2 : Int32).toUInt32 &&& Int32.toUInt32 31)).toInt32) &&& (858993459 : Int32))).toUInt32 >>> ((4 : Int32).toUInt32 &&& Int32.toUInt32 31)).toInt32)) &&& (252645135 : Int32)).toUInt32 >>> ((8 : Int32).toUInt32 &&& Int32.toUInt32 31)).toInt32)).toUInt32 >>> ((16 : Int32).toUInt32 &&& Int32.toUInt32 31)).toInt32) C dJ6_bitCount_0f7a4_45 rfl ?_
  refine gj_iadd C dJ6_bitCount_0f7a4_46 ?_
  refine gj_istore_n C 0 [(0, .int (((((((a0 - (((a0.toUInt32 >>> ((1 : Int32).toUInt32 &&& Int32.toUInt32 31)).toInt32) &&& (1431655765 : Int32))) &&& (858993459 : Int32)) + ((((a0 - (((a0.toUInt32 >>> ((1 : Int32).toUInt32 &&& Int32.toUInt32 31)).toInt32) &&& (1431655765 : Int32))).toUInt32 >>> ((2 : Int32).toUInt32 &&& Int32.toUInt32 31)).toInt32) &&& (858993459 : Int32))) + (((((a0 - (((a0.toUInt32 >>> ((1 : Int32).toUInt32 &&& Int32.toUInt32 31)).toInt32) &&& (1431655765 : Int32))) &&& (858993459 : Int32)) + ((((a0 - (((a0.toUInt32 >>> ((1 : Int32).toUInt32 &&& Int32.toUInt32 31)).toInt32) &&& (1431655765 : Int32))).toUInt32 >>> ((2 : Int32).toUInt32 &&& Int32.toUInt32 31)).toInt32) &&& (858993459 : Int32))).toUInt32 >>> ((4 : Int32).toUInt32 &&& Int32.toUInt32 31)).toInt32)) &&& (252645135 : Int32)) + (((((((a0 - (((a0.toUInt32 >>> ((1 : Int32).toUInt32 &&& Int32.toUInt32 31)).toInt32) &&& (1431655765 : Int32))) &&& (858993459 : Int32)) + ((((a0 - (((a0.toUInt32 >>> ((1 : Int32).toUInt32 &&& Int32.toUInt32 31)).toInt32) &&& (1431655765 : Int32))).toUInt32 >>> ((2 : Int32).toUInt32 &&& Int32.toUInt32 31)).toInt32) &&& (858993459 : Int32))) + (((((a0 - (((a0.toUInt32 >>> ((1 : Int32).toUInt32 &&& Int32.toUInt32 31)).toInt32) &&& (1431655765 : Int32))) &&& (858993459 : Int32)) + ((((a0 - (((a0.toUInt32 >>> ((1 : Int32).toUInt32 &&& Int32.toUInt32 31)).toInt32) &&& (1431655765 : Int32))).toUInt32 >>> ((2 : Int32).toUInt32 &&& Int32.toUInt32 31)).toInt32) &&& (858993459 : Int32))).toUInt32 >>> ((4 : Int32).toUInt32 &&& Int32.toUInt32 31)).toInt32)) &&& (252645135 : Int32)).toUInt32 >>> ((8 : Int32).toUInt32 &&& Int32.toUInt32 31)).toInt32)) + ((((((((a0 - (((a0.toUInt32 >>> ((1 : Int32).toUInt32 &&& Int32.toUInt32 31)).toInt32) &&& (1431655765 : Int32))) &&& (858993459 : Int32)) + ((((a0 - (((a0.toUInt32 >>> ((1 : Int32).toUInt32 &&& Int32.toUInt32 31)).toInt32) &&& (1431655765 : Int32))).toUInt32 >>> ((2 : Int32).toUInt32 &&& Int32.toUInt32 31)).toInt32) &&& (858993459 : Int32))) + (((((a0 - (((a0.toUInt32 >>> ((1 : Int32).toUInt32 &&& Int32.toUInt32 31)).toInt32) &&& (1431655765 : Int32))) &&& (858993459 : Int32)) + ((((a0 - (((a0.toUInt32 >>> ((1 : Int32).toUInt32 &&& Int32.toUInt32 31)).toInt32) &&& (1431655765 : Int32))).toUInt32 >>> ((2 : Int32).toUInt32 &&& Int32.toUInt32 31)).toInt32) &&& (858993459 : Int32))).toUInt32 >>> ((4 : Int32).toUInt32 &&& Int32.toUInt32 31)).toInt32)) &&& (252645135 : Int32)) + (((((((a0 - (((a0.toUInt32 >>> ((1 : Int32).toUInt32 &&& Int32.toUInt32 31)).toInt32) &&& (1431655765 : Int32))) &&& (858993459 : Int32)) + ((((a0 - (((a0.toUInt32 >>> ((1 : Int32).toUInt32 &&& Int32.toUInt32 31)).toInt32) &&& (1431655765 : Int32))).toUInt32 >>> ((2 : Int32).toUInt32 &&& Int32.toUInt32 31)).toInt32) &&& (858993459 : Int32))) + (((((a0 - (((a0.toUInt32 >>> ((1 : Int32).toUInt32 &&& Int32.toUInt32 31)).toInt32) &&& (1431655765 : Int32))) &&& (858993459 : Int32)) + ((((a0 - (((a0.toUInt32 >>> ((1 : Int32).toUInt32 &&& Int32.toUInt32 31)).toInt32) &&& (1431655765 : Int32))).toUInt32 >>> ((2 : Int32).toUInt32 &&& Int32.toUInt32 31)).toInt32) &&& (858993459 : Int32))).toUInt32 >>> ((4 : Int32).toUInt32 &&& Int32.toUInt32 31)).toInt32)) &&& (252645135 : Int32)).toUInt32 >>> ((8 : Int32).toUInt32 &&& Int32.toUInt32 31)).toInt32)).toUInt32 >>> ((16 : Int32).toUInt32 &&& Int32.toUInt32 31)).toInt32)))] dJ6_bitCount_0f7a4_47 rfl (by decide) rfl ?_
  refine gj_iload_n C 0 dJ6_bitCount_0f7a4_48 rfl ?_
  refine gj_bipush (v := 63) C dJ6_bitCount_0f7a4_49 (by decide) ?_
  refine gj_iand C dJ6_bitCount_0f7a4_51 ?_
  cases hf
  exact gj_iret C E dJ6_bitCount_0f7a4_52 (Nat.le_of_ble_eq_true rfl) (Nat.le_of_ble_eq_true rfl)
set_option maxRecDepth 100000 in
set_option maxHeartbeats 4000000 in
theorem s_X3_addPrerequisite (l : Launch) (Γ : gw_G) (τ μ : gw_S) (o : Nat → Int64) (a1 : Int32) (a2 : Int32) (r : (Int32 ⊕ String) × gw_S) (hf : f_X3_addPrerequisite τ a1 a2 = some r) : gw_MX l yX3_addPrerequisite [.code yX3_addPrerequisite cX3_addPrerequisite 5 (some .int)] gr_X3_addPrerequisite 3 18 Γ [.ref (gw_a Γ 0), .int a1, .int a2] (gw_W Γ τ μ o) (gw_qI Γ r.1 (gw_W Γ r.2 μ o)) (gw_x Γ r.1 (gw_W Γ r.2 μ o)) := by
  refine gw_enterX (by decide) (Nat.le_of_ble_eq_true rfl) (fun K C E => ?_)
  unfold f_X3_addPrerequisite at hf
  refine gj_aload_n C 0 dX3_addPrerequisite_0 rfl ?_
  refine gj_iload_n C 1 dX3_addPrerequisite_1 rfl ?_
  replace hf := gw_bnd hf
  obtain ⟨r1, hr1, hf⟩ := hf
  refine gj_cVR (As := [.int a1]) (rest := []) C cb_X3_68 (s_X3_courseAt (gw_l K) Γ τ μ o a1 r1 hr1) rfl (Nat.le_of_ble_eq_true rfl) gw_atM rfl rfl dX3_addPrerequisite_2 (gw_rmk rfl) rfl (fun e he => ?_) (fun v2 he => ?_)
  · replace hf := gw_xr hf he
    cases hf
    exact gj_out C rfl E (Nat.le_of_ble_eq_true rfl) (Nat.le_of_ble_eq_true rfl)
  · replace hf := gw_xl hf he
    subst he
    have hk_v2 := k_courseAt hr1
    refine gj_astore_n C 3 [(3, .ref (gw_a Γ v2)), (0, .ref (gw_a Γ 0)), (1, .int a1), (2, .int a2)] dX3_addPrerequisite_5 rfl (by decide) rfl ?_
    refine gj_aload_n C 1 dX3_addPrerequisite_6 rfl ?_
    refine gj_iload_n C 3 dX3_addPrerequisite_7 rfl ?_
    replace hf := gw_bnd hf
    obtain ⟨r3, hr3, hf⟩ := hf
    refine gj_cVR (As := [.int a2]) (rest := []) C cb_X3_68 (s_X3_courseAt (gw_l K) Γ τ μ o a2 r3 hr3) rfl (Nat.le_of_ble_eq_true rfl) gw_atM rfl rfl dX3_addPrerequisite_8 (gw_rmk rfl) rfl (fun e he => ?_) (fun v4 he => ?_)
    · replace hf := gw_xr hf he
      cases hf
      exact gj_out C rfl E (Nat.le_of_ble_eq_true rfl) (Nat.le_of_ble_eq_true rfl)
    · replace hf := gw_xl hf he
      subst he
      have hk_v4 := k_courseAt hr3
      refine gj_astore C 4 [(4, .ref (gw_a Γ v4)), (3, .ref (gw_a Γ v2)), (0, .ref (gw_a Γ 0)), (1, .int a1), (2, .int a2)] dX3_addPrerequisite_11 (by decide) rfl ?_
      refine gj_iload_n C 3 dX3_addPrerequisite_13 rfl ?_
      refine gj_iload_n C 4 dX3_addPrerequisite_14 rfl ?_
      refine gj_ic_eq C 41 dX3_addPrerequisite_15 (by decide) (fun c => ?_) (fun c => ?_)
      · replace hf := gw_ift hf c
        cases hf
        exact gj_throw C rfl E (by decide) cl_51 ini_51 st_93 at_55 dX3_addPrerequisite_41 dX3_addPrerequisite_44 dX3_addPrerequisite_45 dX3_addPrerequisite_47 dX3_addPrerequisite_50 ⟨(Nat.le_of_ble_eq_true rfl), (Nat.le_of_ble_eq_true rfl)⟩ ⟨(Nat.le_of_ble_eq_true rfl), (Nat.le_of_ble_eq_true rfl)⟩ (Nat.le_of_ble_eq_true rfl) (Nat.le_of_ble_eq_true rfl)
      · replace hf := gw_iff hf c
        refine gj_aload_n C 1 dX3_addPrerequisite_18 rfl ?_
        refine g_X3_83 C hk_v2 rfl dX3_addPrerequisite_19 ?_
        refine gj_iload_n C 4 dX3_addPrerequisite_22 rfl ?_
        replace hf := gw_bnd hf
        obtain ⟨r5, hr5, hf⟩ := hf
        refine gj_cSi (As := [.int (τ v2 6), .int a2]) (rest := []) C cb_X3_86 (s_X3_isIn (gw_l K) Γ τ μ o (τ v2 6) a2 r5 hr5) rfl (Nat.le_of_ble_eq_true rfl) dX3_addPrerequisite_23 (gw_rmk rfl) rfl ?_
        refine gj_if_ne C 41 dX3_addPrerequisite_26 (by decide) (fun c => ?_) (fun c => ?_)
        · replace hf := gw_iff hf c
          cases hf
          exact gj_throw C rfl E (by decide) cl_51 ini_51 st_93 at_55 dX3_addPrerequisite_41 dX3_addPrerequisite_44 dX3_addPrerequisite_45 dX3_addPrerequisite_47 dX3_addPrerequisite_50 ⟨(Nat.le_of_ble_eq_true rfl), (Nat.le_of_ble_eq_true rfl)⟩ ⟨(Nat.le_of_ble_eq_true rfl), (Nat.le_of_ble_eq_true rfl)⟩ (Nat.le_of_ble_eq_true rfl) (Nat.le_of_ble_eq_true rfl)
        · replace hf := gw_ift hf c
          refine gj_aload C 0 dX3_addPrerequisite_29 rfl ?_
          refine g_X3_90 C hk_v4 rfl dX3_addPrerequisite_31 ?_
          refine gj_iload_n C 3 dX3_addPrerequisite_34 rfl ?_
          replace hf := gw_bnd hf
          obtain ⟨r6, hr6, hf⟩ := hf
          refine gj_cSi (As := [.int (τ v4 7), .int a1]) (rest := []) C cb_X3_86 (s_X3_isIn (gw_l K) Γ τ μ o (τ v4 7) a1 r6 hr6) rfl (Nat.le_of_ble_eq_true rfl) dX3_addPrerequisite_35 (gw_rmk rfl) rfl ?_
          refine gj_if_eq C 51 dX3_addPrerequisite_38 (by decide) (fun c => ?_) (fun c => ?_)
          · replace hf := gw_ift hf c
            refine gj_aload_n C 1 dX3_addPrerequisite_51 rfl ?_
            refine gj_dup C dX3_addPrerequisite_52 rfl ?_
            refine g_X3_83 C hk_v2 rfl dX3_addPrerequisite_53 ?_
            refine gj_iload_n C 4 dX3_addPrerequisite_56 rfl ?_
            replace hf := gw_bnd hf
            obtain ⟨r7, hr7, hf⟩ := hf
            refine gj_cSi (As := [.int a2]) (rest := [.int (τ v2 6), .ref (gw_a Γ v2)]) C cb_X3_95 (s_X3_bit (gw_l K) Γ τ μ o a2 r7 hr7) rfl (Nat.le_of_ble_eq_true rfl) dX3_addPrerequisite_57 (gw_rmk rfl) rfl ?_
            refine gj_ior C dX3_addPrerequisite_60 ?_
            refine p_X3_83 C hk_v2 dX3_addPrerequisite_61 ?_
            refine gj_aload_n C 2 dX3_addPrerequisite_64 rfl ?_
            refine gj_aload_n C 1 dX3_addPrerequisite_65 rfl ?_
            refine gj_aload C 0 dX3_addPrerequisite_66 rfl ?_
            refine g_X3_90 C hk_v4 rfl dX3_addPrerequisite_68 ?_
            refine gj_iload_n C 4 dX3_addPrerequisite_71 rfl ?_
            replace hf := gw_bnd hf
            obtain ⟨r8, hr8, hf⟩ := hf
            refine gj_cSi (As := [.int a2]) (rest := [.int ((gw_up τ v2 6 ((τ v2 6) ||| r7)) v4 7), .ref (gw_a Γ v2), .ref (gw_a Γ 0)]) C cb_X3_95 (s_X3_bit (gw_l K) Γ (gw_up τ v2 6 ((τ v2 6) ||| r7)) μ o a2 r8 hr8) rfl (Nat.le_of_ble_eq_true rfl) dX3_addPrerequisite_72 (gw_rmk rfl) rfl ?_
            refine gj_ior C dX3_addPrerequisite_75 ?_
            replace hf := gw_bnd hf
            obtain ⟨r9, hr9, hf⟩ := hf
            refine gj_cVv (As := [.ref (gw_a Γ v2), .int (((gw_up τ v2 6 ((τ v2 6) ||| r7)) v4 7) ||| r8)]) (rest := []) C cb_X3_99 (s_X3_spreadRequired (gw_l K) Γ (gw_up τ v2 6 ((τ v2 6) ||| r7)) μ o v2 (((gw_up τ v2 6 ((τ v2 6) ||| r7)) v4 7) ||| r8) hk_v2 r9 hr9) rfl (Nat.le_of_ble_eq_true rfl) gw_atM rfl rfl dX3_addPrerequisite_76 (gw_rmk rfl) rfl ?_
            refine gj_aload_n C 1 dX3_addPrerequisite_79 rfl ?_
            refine g_X3_90 C hk_v2 rfl dX3_addPrerequisite_80 ?_
            replace hf := gw_bnd hf
            obtain ⟨r10, hr10, hf⟩ := hf
            refine gj_cSi (As := [.int (r9 v2 7)]) (rest := []) C cb_X3_103 (s_J6_bitCount_0f7a4 (gw_l K) Γ r9 μ o (r9 v2 7) r10 hr10) rfl (Nat.le_of_ble_eq_true rfl) dX3_addPrerequisite_83 (gw_rmk rfl) rfl ?_
            cases hf
            exact gj_iretX C rfl E dX3_addPrerequisite_86 (Nat.le_of_ble_eq_true rfl) (Nat.le_of_ble_eq_true rfl)
          · replace hf := gw_iff hf c
            cases hf
            exact gj_throw C rfl E (by decide) cl_51 ini_51 st_93 at_55 dX3_addPrerequisite_41 dX3_addPrerequisite_44 dX3_addPrerequisite_45 dX3_addPrerequisite_47 dX3_addPrerequisite_50 ⟨(Nat.le_of_ble_eq_true rfl), (Nat.le_of_ble_eq_true rfl)⟩ ⟨(Nat.le_of_ble_eq_true rfl), (Nat.le_of_ble_eq_true rfl)⟩ (Nat.le_of_ble_eq_true rfl) (Nat.le_of_ble_eq_true rfl)
set_option maxRecDepth 100000 in
set_option maxHeartbeats 4000000 in
theorem s_X3_requires (l : Launch) (Γ : gw_G) (τ μ : gw_S) (o : Nat → Int64) (a1 : Int32) (a2 : Int32) (r : (Int32 ⊕ String)) (hf : f_X3_requires τ a1 a2 = some r) : gw_MX l yX3_requires [.code yX3_requires cX3_requires 5 (some .boolean)] gr_X3_requires 2 12 Γ [.ref (gw_a Γ 0), .int a1, .int a2] (gw_W Γ τ μ o) (gw_qI Γ r (gw_W Γ τ μ o)) (gw_x Γ r (gw_W Γ τ μ o)) := by
  refine gw_enterX (by decide) (Nat.le_of_ble_eq_true rfl) (fun K C E => ?_)
  unfold f_X3_requires at hf
  refine gj_aload_n C 0 dX3_requires_0 rfl ?_
  refine gj_iload_n C 1 dX3_requires_1 rfl ?_
  replace hf := gw_bnd hf
  obtain ⟨r1, hr1, hf⟩ := hf
  refine gj_cVR (As := [.int a1]) (rest := []) C cb_X3_68 (s_X3_courseAt (gw_l K) Γ τ μ o a1 r1 hr1) rfl (Nat.le_of_ble_eq_true rfl) gw_atM rfl rfl dX3_requires_2 (gw_rmk rfl) rfl (fun e he => ?_) (fun v2 he => ?_)
  · replace hf := gw_xr hf he
    cases hf
    exact gj_out C rfl E (Nat.le_of_ble_eq_true rfl) (Nat.le_of_ble_eq_true rfl)
  · replace hf := gw_xl hf he
    subst he
    have hk_v2 := k_courseAt hr1
    refine gj_astore_n C 3 [(3, .ref (gw_a Γ v2)), (0, .ref (gw_a Γ 0)), (1, .int a1), (2, .int a2)] dX3_requires_5 rfl (by decide) rfl ?_
    refine gj_aload_n C 1 dX3_requires_6 rfl ?_
    refine gj_iload_n C 3 dX3_requires_7 rfl ?_
    replace hf := gw_bnd hf
    obtain ⟨r3, hr3, hf⟩ := hf
    refine gj_cVR (As := [.int a2]) (rest := []) C cb_X3_68 (s_X3_courseAt (gw_l K) Γ τ μ o a2 r3 hr3) rfl (Nat.le_of_ble_eq_true rfl) gw_atM rfl rfl dX3_requires_8 (gw_rmk rfl) rfl (fun e he => ?_) (fun v4 he => ?_)
    · replace hf := gw_xr hf he
      cases hf
      exact gj_out C rfl E (Nat.le_of_ble_eq_true rfl) (Nat.le_of_ble_eq_true rfl)
    · replace hf := gw_xl hf he
      subst he
      have hk_v4 := k_courseAt hr3
      refine gj_astore C 4 [(4, .ref (gw_a Γ v4)), (3, .ref (gw_a Γ v2)), (0, .ref (gw_a Γ 0)), (1, .int a1), (2, .int a2)] dX3_requires_11 (by decide) rfl ?_
      refine gj_aload_n C 1 dX3_requires_13 rfl ?_
      refine g_X3_90 C hk_v2 rfl dX3_requires_14 ?_
      refine gj_aload C 0 dX3_requires_17 rfl ?_
      refine g_X3_65 C hk_v4 rfl dX3_requires_19 ?_
      replace hf := gw_bnd hf
      obtain ⟨r5, hr5, hf⟩ := hf
      refine gj_cSi (As := [.int (τ v2 7), .int (τ v4 0)]) (rest := []) C cb_X3_86 (s_X3_isIn (gw_l K) Γ τ μ o (τ v2 7) (τ v4 0) r5 hr5) rfl (Nat.le_of_ble_eq_true rfl) dX3_requires_22 (gw_rmk rfl) rfl ?_
      cases hf
      exact gj_zretX C rfl E (z_X3_isIn hr5) dX3_requires_25 (Nat.le_of_ble_eq_true rfl) (Nat.le_of_ble_eq_true rfl)
set_option maxRecDepth 100000 in
set_option maxHeartbeats 4000000 in
theorem sr_X3_requires (l : Launch) (Γ : gw_G) (τ μ : gw_S) (o : Nat → Int64) (a1 : Int32) (a2 : Int32) (k : Int32) (hf : f_X3_requires τ a1 a2 = some (.inl k)) : gw_M l yX3_requires [.code yX3_requires cX3_requires 5 (some .boolean)] gr_X3_requiresr 0 0 Γ [.ref (gw_a Γ 0), .int a1, .int a2] (gw_W Γ τ μ o) (gw_qi Γ k (gw_W Γ τ μ o)) := by
  refine gw_enter (by decide) (Nat.le_of_ble_eq_true rfl) (fun K C E => ?_)
  unfold f_X3_requires at hf
  refine gj_aload_n C 0 dX3_requires_0 rfl ?_
  refine gj_iload_n C 1 dX3_requires_1 rfl ?_
  replace hf := gw_bnd hf
  obtain ⟨r1, hr1, hf⟩ := hf
  replace hf := gw_xm hf
  obtain ⟨v2, he, hf⟩ := hf
  subst he
  have hk_v2 := k_courseAt hr1
  refine gj_cVr (As := [.int a1]) (rest := []) C cb_X3_68 (sr_X3_courseAt (gw_l K) Γ τ μ o a1 v2 hr1) rfl (Nat.le_of_ble_eq_true rfl) gw_atM rfl rfl dX3_requires_2 (gw_rmk rfl) rfl ?_
  refine gj_astore_n C 3 [(3, .ref (gw_a Γ v2)), (0, .ref (gw_a Γ 0)), (1, .int a1), (2, .int a2)] dX3_requires_5 rfl (by decide) rfl ?_
  refine gj_aload_n C 1 dX3_requires_6 rfl ?_
  refine gj_iload_n C 3 dX3_requires_7 rfl ?_
  replace hf := gw_bnd hf
  obtain ⟨r3, hr3, hf⟩ := hf
  replace hf := gw_xm hf
  obtain ⟨v4, he, hf⟩ := hf
  subst he
  have hk_v4 := k_courseAt hr3
  refine gj_cVr (As := [.int a2]) (rest := []) C cb_X3_68 (sr_X3_courseAt (gw_l K) Γ τ μ o a2 v4 hr3) rfl (Nat.le_of_ble_eq_true rfl) gw_atM rfl rfl dX3_requires_8 (gw_rmk rfl) rfl ?_
  refine gj_astore C 4 [(4, .ref (gw_a Γ v4)), (3, .ref (gw_a Γ v2)), (0, .ref (gw_a Γ 0)), (1, .int a1), (2, .int a2)] dX3_requires_11 (by decide) rfl ?_
  refine gj_aload_n C 1 dX3_requires_13 rfl ?_
  refine g_X3_90 C hk_v2 rfl dX3_requires_14 ?_
  refine gj_aload C 0 dX3_requires_17 rfl ?_
  refine g_X3_65 C hk_v4 rfl dX3_requires_19 ?_
  replace hf := gw_bnd hf
  obtain ⟨r5, hr5, hf⟩ := hf
  refine gj_cSi (As := [.int (τ v2 7), .int (τ v4 0)]) (rest := []) C cb_X3_86 (s_X3_isIn (gw_l K) Γ τ μ o (τ v2 7) (τ v4 0) r5 hr5) rfl (Nat.le_of_ble_eq_true rfl) dX3_requires_22 (gw_rmk rfl) rfl ?_
  cases hf
  exact gj_zret C E (z_X3_isIn hr5) dX3_requires_25 (Nat.le_of_ble_eq_true rfl) (Nat.le_of_ble_eq_true rfl)
set_option maxRecDepth 100000 in
set_option maxHeartbeats 4000000 in
theorem l_X3_directOf_1 {K : gw_K} {Γ : gw_G} (C : gw_C K Γ cX3_directOf 4 RX3) (τ : gw_S) (μ : gw_S) (o : Nat → Int64) (v1 : Int32) : ∀ (n : Nat) (v2 : Int32) (v3 : Int32) (T : Int32 × Int32), gw_it (b_X3_directOf_1 τ v1) n (v2, v3) = some T → (gw_J K Γ gr_X3_directOf 0 0 (gw_W Γ τ μ o) 38 [(0, .ref (gw_a Γ 0)), (1, .int v1), (2, .int T.1), (3, .int T.2)] []) → gw_J K Γ gr_X3_directOf 0 0 (gw_W Γ τ μ o) 4 [(0, .ref (gw_a Γ 0)), (1, .int v1), (2, .int v2), (3, .int v3)] [] := by
  intro n
  induction n with
  | zero => intro v2 v3 T  h; cases h
  | succ n ih =>
    intro v2 v3 T  h k
    obtain ⟨q, hf, hr⟩ := gw_it_s h
    rw [b_X3_directOf_1] at hf
    refine gj_iload_n C 3 dX3_directOf_4 rfl ?_
    refine gj_aload_n C 0 dX3_directOf_5 rfl ?_
    refine g_X3_25 C  rfl dX3_directOf_6 ?_
    refine gj_ic_ge C 38 dX3_directOf_9 (by decide) (fun c => ?_) (fun c => ?_)
    · replace hf := gw_ift hf c
      cases hf
      cases gw_ir hr
      exact gj_pick [0, 1, 2, 3] _ rfl (k )
    · replace hf := gw_iff hf c
      refine gj_iload_n C 1 dX3_directOf_12 rfl ?_
      refine gj_iload_n C 3 dX3_directOf_13 rfl ?_
      replace hf := gw_bnd hf
      obtain ⟨r1, hr1, hf⟩ := hf
      refine gj_cSi (As := [.int v1, .int v3]) (rest := []) C cb_X3_86 (s_X3_isIn (gw_l K) Γ τ μ o v1 v3 r1 hr1) rfl (Nat.le_of_ble_eq_true rfl) dX3_directOf_14 (gw_rmk rfl) rfl ?_
      refine gj_if_eq C 32 dX3_directOf_17 (by decide) (fun c => ?_) (fun c => ?_)
      · replace hf := gw_ift hf c
        refine gj_iinc C 3 3 (v3 + 1) [(3, .int (v3 + 1)), (0, .ref (gw_a Γ 0)), (1, .int v1), (2, .int v2)] dX3_directOf_32 rfl rfl (by decide) rfl ?_
        refine gj_goto C 4 dX3_directOf_35 (by decide) ?_
        cases hf
        replace hr := gw_il hr
        exact gj_pick [1, 2, 3, 0] _ rfl (ih _ _ _  hr k)
      · replace hf := gw_iff hf c
        refine gj_iload_n C 2 dX3_directOf_20 rfl ?_
        refine gj_aload_n C 0 dX3_directOf_21 rfl ?_
        refine g_X3_11 C  dX3_directOf_22 ?_
        refine gj_iload_n C 3 dX3_directOf_25 rfl ?_
        obtain ⟨g2, hf⟩ := gw_ifs hf
        refine gj_ald1 C (gw_ibv g2) dX3_directOf_26 ?_
        refine g_X3_83 C (gw_vC (gw_ibv g2)) rfl dX3_directOf_27 ?_
        refine gj_ior C dX3_directOf_30 ?_
        refine gj_istore_n C 2 [(2, .int (v2 ||| (τ (4 + v3.toNatClampNeg) 6))), (0, .ref (gw_a Γ 0)), (1, .int v1), (3, .int v3)] dX3_directOf_31 rfl (by decide) rfl ?_
        refine gj_iinc C 3 3 (v3 + 1) [(3, .int (v3 + 1)), (2, .int (v2 ||| (τ (4 + v3.toNatClampNeg) 6))), (0, .ref (gw_a Γ 0)), (1, .int v1)] dX3_directOf_32 rfl rfl (by decide) rfl ?_
        refine gj_goto C 4 dX3_directOf_35 (by decide) ?_
        cases hf
        replace hr := gw_il hr
        exact gj_pick [2, 3, 1, 0] _ rfl (ih _ _ _  hr k)
set_option maxRecDepth 100000 in
set_option maxHeartbeats 4000000 in
theorem s_X3_directOf (l : Launch) (Γ : gw_G) (τ μ : gw_S) (o : Nat → Int64) (a1 : Int32) (r : Int32) (hf : f_X3_directOf τ a1 = some r) : gw_M l yX3_directOf [.code yX3_directOf cX3_directOf 4 (some .int)] gr_X3_directOf 0 0 Γ [.ref (gw_a Γ 0), .int a1] (gw_W Γ τ μ o) (gw_qi Γ r (gw_W Γ τ μ o)) := by
  refine gw_enter (by decide) (Nat.le_of_ble_eq_true rfl) (fun K C E => ?_)
  unfold f_X3_directOf at hf
  refine gj_iconst (v := 0) C dX3_directOf_0 (by decide) ?_
  refine gj_istore_n C 2 [(2, .int (0 : Int32)), (0, .ref (gw_a Γ 0)), (1, .int a1)] dX3_directOf_1 rfl (by decide) rfl ?_
  refine gj_iconst (v := 0) C dX3_directOf_2 (by decide) ?_
  refine gj_istore_n C 3 [(3, .int (0 : Int32)), (2, .int (0 : Int32)), (0, .ref (gw_a Γ 0)), (1, .int a1)] dX3_directOf_3 rfl (by decide) rfl ?_
  replace hf := gw_bnd hf
  obtain ⟨t3, ht3, hf⟩ := hf
  refine gj_pick [2, 3, 1, 0] _ rfl (l_X3_directOf_1 C τ μ o a1 _ _ _ t3  ht3 (?_))
  refine gj_iload_n C 2 dX3_directOf_38 rfl ?_
  cases hf
  exact gj_iret C E dX3_directOf_39 (Nat.le_of_ble_eq_true rfl) (Nat.le_of_ble_eq_true rfl)
set_option maxRecDepth 100000 in
set_option maxHeartbeats 4000000 in
theorem l_X3_levelOf_1 {K : gw_K} {Γ : gw_G} (C : gw_C K Γ cX3_levelOf 4 RX3) (τ : gw_S) (μ : gw_S) (o : Nat → Int64) (v1 : Nat) (hk1 : gw_kC v1) : ∀ (n : Nat) (v2 : Int32) (v3 : Int32) (T : Int32 × Int32), gw_it (b_X3_levelOf_1 τ v1) n (v2, v3) = some T → (gw_J K Γ gr_X3_levelOf 0 0 (gw_W Γ τ μ o) 31 [(0, .ref (gw_a Γ 0)), (1, .ref (gw_a Γ v1)), (2, .int T.1), (3, .int T.2)] []) → gw_J K Γ gr_X3_levelOf 0 0 (gw_W Γ τ μ o) 7 [(0, .ref (gw_a Γ 0)), (1, .ref (gw_a Γ v1)), (2, .int v2), (3, .int v3)] [] := by
  intro n
  induction n with
  | zero => intro v2 v3 T  h; cases h
  | succ n ih =>
    intro v2 v3 T  h k
    obtain ⟨q, hf, hr⟩ := gw_it_s h
    rw [b_X3_levelOf_1] at hf
    refine gj_iload_n C 3 dX3_levelOf_7 rfl ?_
    refine gj_if_eq C 31 dX3_levelOf_8 (by decide) (fun c => ?_) (fun c => ?_)
    · replace hf := gw_ift hf c
      cases hf
      cases gw_ir hr
      exact gj_pick [0, 1, 2, 3] _ rfl (k )
    · replace hf := gw_iff hf c
      refine gj_iload_n C 2 dX3_levelOf_11 rfl ?_
      refine gj_aload_n C 0 dX3_levelOf_12 rfl ?_
      refine g_X3_25 C  rfl dX3_levelOf_13 ?_
      refine gj_ic_ge C 31 dX3_levelOf_16 (by decide) (fun c => ?_) (fun c => ?_)
      · replace hf := gw_ift hf c
        cases hf
        cases gw_ir hr
        exact gj_pick [0, 1, 2, 3] _ rfl (k )
      · replace hf := gw_iff hf c
        refine gj_aload_n C 0 dX3_levelOf_19 rfl ?_
        refine gj_iload_n C 3 dX3_levelOf_20 rfl ?_
        replace hf := gw_bnd hf
        obtain ⟨r1, hr1, hf⟩ := hf
        refine gj_cVi (As := [.int v3]) (rest := []) C cb_X3_264 (s_X3_directOf (gw_l K) Γ τ μ o v3 r1 hr1) rfl (Nat.le_of_ble_eq_true rfl) gw_atM rfl rfl dX3_levelOf_21 (gw_rmk rfl) rfl ?_
        refine gj_istore_n C 3 [(3, .int r1), (0, .ref (gw_a Γ 0)), (1, .ref (gw_a Γ v1)), (2, .int v2)] dX3_levelOf_24 rfl (by decide) rfl ?_
        refine gj_iinc C 2 3 (v2 + 1) [(2, .int (v2 + 1)), (3, .int r1), (0, .ref (gw_a Γ 0)), (1, .ref (gw_a Γ v1))] dX3_levelOf_25 rfl rfl (by decide) rfl ?_
        refine gj_goto C 7 dX3_levelOf_28 (by decide) ?_
        cases hf
        replace hr := gw_il hr
        exact gj_pick [2, 3, 0, 1] _ rfl (ih _ _ _  hr k)
set_option maxRecDepth 100000 in
set_option maxHeartbeats 4000000 in
theorem s_X3_levelOf (l : Launch) (Γ : gw_G) (τ μ : gw_S) (o : Nat → Int64) (a1 : Nat) (ha1 : gw_kC a1) (r : Int32) (hf : f_X3_levelOf τ a1 = some r) : gw_M l yX3_levelOf [.code yX3_levelOf cX3_levelOf 4 (some .int)] gr_X3_levelOf 0 0 Γ [.ref (gw_a Γ 0), .ref (gw_a Γ a1)] (gw_W Γ τ μ o) (gw_qi Γ r (gw_W Γ τ μ o)) := by
  refine gw_enter (by decide) (Nat.le_of_ble_eq_true rfl) (fun K C E => ?_)
  unfold f_X3_levelOf at hf
  refine gj_iconst (v := 0) C dX3_levelOf_0 (by decide) ?_
  refine gj_istore_n C 2 [(2, .int (0 : Int32)), (0, .ref (gw_a Γ 0)), (1, .ref (gw_a Γ a1))] dX3_levelOf_1 rfl (by decide) rfl ?_
  refine gj_aload_n C 2 dX3_levelOf_2 rfl ?_
  refine g_X3_83 C ha1 rfl dX3_levelOf_3 ?_
  refine gj_istore_n C 3 [(3, .int (τ a1 6)), (2, .int (0 : Int32)), (0, .ref (gw_a Γ 0)), (1, .ref (gw_a Γ a1))] dX3_levelOf_6 rfl (by decide) rfl ?_
  replace hf := gw_bnd hf
  obtain ⟨t2, ht2, hf⟩ := hf
  refine gj_pick [2, 3, 1, 0] _ rfl (l_X3_levelOf_1 C τ μ o a1 ha1 _ _ _ t2  ht2 (?_))
  refine gj_iload_n C 2 dX3_levelOf_31 rfl ?_
  cases hf
  exact gj_iret C E dX3_levelOf_32 (Nat.le_of_ble_eq_true rfl) (Nat.le_of_ble_eq_true rfl)
set_option maxRecDepth 100000 in
set_option maxHeartbeats 4000000 in
theorem s_X3_level (l : Launch) (Γ : gw_G) (τ μ : gw_S) (o : Nat → Int64) (a1 : Int32) (r : (Int32 ⊕ String)) (hf : f_X3_level τ a1 = some r) : gw_MX l yX3_level [.code yX3_level cX3_level 2 (some .int)] gr_X3_level 1 6 Γ [.ref (gw_a Γ 0), .int a1] (gw_W Γ τ μ o) (gw_qI Γ r (gw_W Γ τ μ o)) (gw_x Γ r (gw_W Γ τ μ o)) := by
  refine gw_enterX (by decide) (Nat.le_of_ble_eq_true rfl) (fun K C E => ?_)
  unfold f_X3_level at hf
  refine gj_aload_n C 0 dX3_level_0 rfl ?_
  refine gj_aload_n C 0 dX3_level_1 rfl ?_
  refine gj_iload_n C 1 dX3_level_2 rfl ?_
  replace hf := gw_bnd hf
  obtain ⟨r1, hr1, hf⟩ := hf
  refine gj_cVR (As := [.int a1]) (rest := [.ref (gw_a Γ 0)]) C cb_X3_68 (s_X3_courseAt (gw_l K) Γ τ μ o a1 r1 hr1) rfl (Nat.le_of_ble_eq_true rfl) gw_atM rfl rfl dX3_level_3 (gw_rmk rfl) rfl (fun e he => ?_) (fun v2 he => ?_)
  · replace hf := gw_xr hf he
    cases hf
    exact gj_out C rfl E (Nat.le_of_ble_eq_true rfl) (Nat.le_of_ble_eq_true rfl)
  · replace hf := gw_xl hf he
    subst he
    have hk_v2 := k_courseAt hr1
    replace hf := gw_bnd hf
    obtain ⟨r3, hr3, hf⟩ := hf
    refine gj_cVi (As := [.ref (gw_a Γ v2)]) (rest := []) C cb_X3_108 (s_X3_levelOf (gw_l K) Γ τ μ o v2 hk_v2 r3 hr3) rfl (Nat.le_of_ble_eq_true rfl) gw_atM rfl rfl dX3_level_6 (gw_rmk rfl) rfl ?_
    cases hf
    exact gj_iretX C rfl E dX3_level_9 (Nat.le_of_ble_eq_true rfl) (Nat.le_of_ble_eq_true rfl)
set_option maxRecDepth 100000 in
set_option maxHeartbeats 4000000 in
theorem sr_X3_level (l : Launch) (Γ : gw_G) (τ μ : gw_S) (o : Nat → Int64) (a1 : Int32) (k : Int32) (hf : f_X3_level τ a1 = some (.inl k)) : gw_M l yX3_level [.code yX3_level cX3_level 2 (some .int)] gr_X3_levelr 0 0 Γ [.ref (gw_a Γ 0), .int a1] (gw_W Γ τ μ o) (gw_qi Γ k (gw_W Γ τ μ o)) := by
  refine gw_enter (by decide) (Nat.le_of_ble_eq_true rfl) (fun K C E => ?_)
  unfold f_X3_level at hf
  refine gj_aload_n C 0 dX3_level_0 rfl ?_
  refine gj_aload_n C 0 dX3_level_1 rfl ?_
  refine gj_iload_n C 1 dX3_level_2 rfl ?_
  replace hf := gw_bnd hf
  obtain ⟨r1, hr1, hf⟩ := hf
  replace hf := gw_xm hf
  obtain ⟨v2, he, hf⟩ := hf
  subst he
  have hk_v2 := k_courseAt hr1
  refine gj_cVr (As := [.int a1]) (rest := [.ref (gw_a Γ 0)]) C cb_X3_68 (sr_X3_courseAt (gw_l K) Γ τ μ o a1 v2 hr1) rfl (Nat.le_of_ble_eq_true rfl) gw_atM rfl rfl dX3_level_3 (gw_rmk rfl) rfl ?_
  replace hf := gw_bnd hf
  obtain ⟨r3, hr3, hf⟩ := hf
  refine gj_cVi (As := [.ref (gw_a Γ v2)]) (rest := []) C cb_X3_108 (s_X3_levelOf (gw_l K) Γ τ μ o v2 hk_v2 r3 hr3) rfl (Nat.le_of_ble_eq_true rfl) gw_atM rfl rfl dX3_level_6 (gw_rmk rfl) rfl ?_
  cases hf
  exact gj_iret C E dX3_level_9 (Nat.le_of_ble_eq_true rfl) (Nat.le_of_ble_eq_true rfl)
set_option maxRecDepth 100000 in
set_option maxHeartbeats 4000000 in
theorem s_X3_courses (l : Launch) (Γ : gw_G) (τ μ : gw_S) (o : Nat → Int64) (r : Int32) (hf : f_X3_courses τ = some r) : gw_M l yX3_courses [.code yX3_courses cX3_courses 1 (some .int)] gr_X3_courses 0 0 Γ [.ref (gw_a Γ 0)] (gw_W Γ τ μ o) (gw_qi Γ r (gw_W Γ τ μ o)) := by
  refine gw_enter (by decide) (Nat.le_of_ble_eq_true rfl) (fun K C E => ?_)
  unfold f_X3_courses at hf
  refine gj_aload_n C 0 dX3_courses_0 rfl ?_
  refine g_X3_25 C  rfl dX3_courses_1 ?_
  cases hf
  exact gj_iret C E dX3_courses_4 (Nat.le_of_ble_eq_true rfl) (Nat.le_of_ble_eq_true rfl)
set_option maxRecDepth 100000 in
set_option maxHeartbeats 4000000 in
theorem s_X3_enrolled (l : Launch) (Γ : gw_G) (τ μ : gw_S) (o : Nat → Int64) (a1 : Int32) (r : (Int32 ⊕ String)) (hf : f_X3_enrolled τ a1 = some r) : gw_MX l yX3_enrolled [.code yX3_enrolled cX3_enrolled 2 (some .int)] gr_X3_enrolled 1 6 Γ [.ref (gw_a Γ 0), .int a1] (gw_W Γ τ μ o) (gw_qI Γ r (gw_W Γ τ μ o)) (gw_x Γ r (gw_W Γ τ μ o)) := by
  refine gw_enterX (by decide) (Nat.le_of_ble_eq_true rfl) (fun K C E => ?_)
  unfold f_X3_enrolled at hf
  refine gj_aload_n C 0 dX3_enrolled_0 rfl ?_
  refine gj_aload_n C 0 dX3_enrolled_1 rfl ?_
  refine gj_iload_n C 1 dX3_enrolled_2 rfl ?_
  replace hf := gw_bnd hf
  obtain ⟨r1, hr1, hf⟩ := hf
  refine gj_cVR (As := [.int a1]) (rest := [.ref (gw_a Γ 0)]) C cb_X3_68 (s_X3_courseAt (gw_l K) Γ τ μ o a1 r1 hr1) rfl (Nat.le_of_ble_eq_true rfl) gw_atM rfl rfl dX3_enrolled_3 (gw_rmk rfl) rfl (fun e he => ?_) (fun v2 he => ?_)
  · replace hf := gw_xr hf he
    cases hf
    exact gj_out C rfl E (Nat.le_of_ble_eq_true rfl) (Nat.le_of_ble_eq_true rfl)
  · replace hf := gw_xl hf he
    subst he
    have hk_v2 := k_courseAt hr1
    replace hf := gw_bnd hf
    obtain ⟨r3, hr3, hf⟩ := hf
    refine gj_cVi (As := [.ref (gw_a Γ v2)]) (rest := []) C cb_X3_111 (s_X3_enrolledIn (gw_l K) Γ τ μ o v2 hk_v2 r3 hr3) rfl (Nat.le_of_ble_eq_true rfl) gw_atM rfl rfl dX3_enrolled_6 (gw_rmk rfl) rfl ?_
    cases hf
    exact gj_iretX C rfl E dX3_enrolled_9 (Nat.le_of_ble_eq_true rfl) (Nat.le_of_ble_eq_true rfl)
set_option maxRecDepth 100000 in
set_option maxHeartbeats 4000000 in
theorem sr_X3_enrolled (l : Launch) (Γ : gw_G) (τ μ : gw_S) (o : Nat → Int64) (a1 : Int32) (k : Int32) (hf : f_X3_enrolled τ a1 = some (.inl k)) : gw_M l yX3_enrolled [.code yX3_enrolled cX3_enrolled 2 (some .int)] gr_X3_enrolledr 0 0 Γ [.ref (gw_a Γ 0), .int a1] (gw_W Γ τ μ o) (gw_qi Γ k (gw_W Γ τ μ o)) := by
  refine gw_enter (by decide) (Nat.le_of_ble_eq_true rfl) (fun K C E => ?_)
  unfold f_X3_enrolled at hf
  refine gj_aload_n C 0 dX3_enrolled_0 rfl ?_
  refine gj_aload_n C 0 dX3_enrolled_1 rfl ?_
  refine gj_iload_n C 1 dX3_enrolled_2 rfl ?_
  replace hf := gw_bnd hf
  obtain ⟨r1, hr1, hf⟩ := hf
  replace hf := gw_xm hf
  obtain ⟨v2, he, hf⟩ := hf
  subst he
  have hk_v2 := k_courseAt hr1
  refine gj_cVr (As := [.int a1]) (rest := [.ref (gw_a Γ 0)]) C cb_X3_68 (sr_X3_courseAt (gw_l K) Γ τ μ o a1 v2 hr1) rfl (Nat.le_of_ble_eq_true rfl) gw_atM rfl rfl dX3_enrolled_3 (gw_rmk rfl) rfl ?_
  replace hf := gw_bnd hf
  obtain ⟨r3, hr3, hf⟩ := hf
  refine gj_cVi (As := [.ref (gw_a Γ v2)]) (rest := []) C cb_X3_111 (s_X3_enrolledIn (gw_l K) Γ τ μ o v2 hk_v2 r3 hr3) rfl (Nat.le_of_ble_eq_true rfl) gw_atM rfl rfl dX3_enrolled_6 (gw_rmk rfl) rfl ?_
  cases hf
  exact gj_iret C E dX3_enrolled_9 (Nat.le_of_ble_eq_true rfl) (Nat.le_of_ble_eq_true rfl)
set_option maxRecDepth 100000 in
set_option maxHeartbeats 4000000 in
theorem s_X3_freeSeats (l : Launch) (Γ : gw_G) (τ μ : gw_S) (o : Nat → Int64) (a1 : Int32) (r : (Int32 ⊕ String)) (hf : f_X3_freeSeats τ a1 = some r) : gw_MX l yX3_freeSeats [.code yX3_freeSeats cX3_freeSeats 2 (some .int)] gr_X3_freeSeats 1 6 Γ [.ref (gw_a Γ 0), .int a1] (gw_W Γ τ μ o) (gw_qI Γ r (gw_W Γ τ μ o)) (gw_x Γ r (gw_W Γ τ μ o)) := by
  refine gw_enterX (by decide) (Nat.le_of_ble_eq_true rfl) (fun K C E => ?_)
  unfold f_X3_freeSeats at hf
  refine gj_aload_n C 0 dX3_freeSeats_0 rfl ?_
  refine gj_aload_n C 0 dX3_freeSeats_1 rfl ?_
  refine gj_iload_n C 1 dX3_freeSeats_2 rfl ?_
  replace hf := gw_bnd hf
  obtain ⟨r1, hr1, hf⟩ := hf
  refine gj_cVR (As := [.int a1]) (rest := [.ref (gw_a Γ 0)]) C cb_X3_68 (s_X3_courseAt (gw_l K) Γ τ μ o a1 r1 hr1) rfl (Nat.le_of_ble_eq_true rfl) gw_atM rfl rfl dX3_freeSeats_3 (gw_rmk rfl) rfl (fun e he => ?_) (fun v2 he => ?_)
  · replace hf := gw_xr hf he
    cases hf
    exact gj_out C rfl E (Nat.le_of_ble_eq_true rfl) (Nat.le_of_ble_eq_true rfl)
  · replace hf := gw_xl hf he
    subst he
    have hk_v2 := k_courseAt hr1
    replace hf := gw_bnd hf
    obtain ⟨r3, hr3, hf⟩ := hf
    refine gj_cVi (As := [.ref (gw_a Γ v2)]) (rest := []) C cb_X3_114 (s_X3_freeIn (gw_l K) Γ τ μ o v2 hk_v2 r3 hr3) rfl (Nat.le_of_ble_eq_true rfl) gw_atM rfl rfl dX3_freeSeats_6 (gw_rmk rfl) rfl ?_
    cases hf
    exact gj_iretX C rfl E dX3_freeSeats_9 (Nat.le_of_ble_eq_true rfl) (Nat.le_of_ble_eq_true rfl)
set_option maxRecDepth 100000 in
set_option maxHeartbeats 4000000 in
theorem sr_X3_freeSeats (l : Launch) (Γ : gw_G) (τ μ : gw_S) (o : Nat → Int64) (a1 : Int32) (k : Int32) (hf : f_X3_freeSeats τ a1 = some (.inl k)) : gw_M l yX3_freeSeats [.code yX3_freeSeats cX3_freeSeats 2 (some .int)] gr_X3_freeSeatsr 0 0 Γ [.ref (gw_a Γ 0), .int a1] (gw_W Γ τ μ o) (gw_qi Γ k (gw_W Γ τ μ o)) := by
  refine gw_enter (by decide) (Nat.le_of_ble_eq_true rfl) (fun K C E => ?_)
  unfold f_X3_freeSeats at hf
  refine gj_aload_n C 0 dX3_freeSeats_0 rfl ?_
  refine gj_aload_n C 0 dX3_freeSeats_1 rfl ?_
  refine gj_iload_n C 1 dX3_freeSeats_2 rfl ?_
  replace hf := gw_bnd hf
  obtain ⟨r1, hr1, hf⟩ := hf
  replace hf := gw_xm hf
  obtain ⟨v2, he, hf⟩ := hf
  subst he
  have hk_v2 := k_courseAt hr1
  refine gj_cVr (As := [.int a1]) (rest := [.ref (gw_a Γ 0)]) C cb_X3_68 (sr_X3_courseAt (gw_l K) Γ τ μ o a1 v2 hr1) rfl (Nat.le_of_ble_eq_true rfl) gw_atM rfl rfl dX3_freeSeats_3 (gw_rmk rfl) rfl ?_
  replace hf := gw_bnd hf
  obtain ⟨r3, hr3, hf⟩ := hf
  refine gj_cVi (As := [.ref (gw_a Γ v2)]) (rest := []) C cb_X3_114 (s_X3_freeIn (gw_l K) Γ τ μ o v2 hk_v2 r3 hr3) rfl (Nat.le_of_ble_eq_true rfl) gw_atM rfl rfl dX3_freeSeats_6 (gw_rmk rfl) rfl ?_
  cases hf
  exact gj_iret C E dX3_freeSeats_9 (Nat.le_of_ble_eq_true rfl) (Nat.le_of_ble_eq_true rfl)
set_option maxRecDepth 100000 in
set_option maxHeartbeats 4000000 in
theorem s_X3_addStudent (l : Launch) (Γ : gw_G) (τ μ : gw_S) (o : Nat → Int64) (a1 : Int32) (a2 : Int32) (r : (Int32 ⊕ String) × gw_S) (hf : f_X3_addStudent τ a1 a2 = some r) : gw_MX l yX3_addStudent [.code yX3_addStudent cX3_addStudent 4 (some .int)] gr_X3_addStudent 1 6 Γ [.ref (gw_a Γ 0), .int a1, .int a2] (gw_W Γ τ μ o) (gw_qI Γ r.1 (gw_W Γ r.2 μ o)) (gw_x Γ r.1 (gw_W Γ r.2 μ o)) := by
  refine gw_enterX (by decide) (Nat.le_of_ble_eq_true rfl) (fun K C E => ?_)
  unfold f_X3_addStudent at hf
  refine gj_iload_n C 1 dX3_addStudent_0 rfl ?_
  refine gj_iconst (v := 0) C dX3_addStudent_1 (by decide) ?_
  refine gj_iconst (v := 3) C dX3_addStudent_2 (by decide) ?_
  replace hf := gw_bnd hf
  obtain ⟨r1, hr1, hf⟩ := hf
  refine gj_cSi (As := [.int a1, .int (0 : Int32), .int (3 : Int32)]) (rest := []) C cb_X3_39 (s_X3_isOutside (gw_l K) Γ τ μ o a1 (0 : Int32) (3 : Int32) r1 hr1) rfl (Nat.le_of_ble_eq_true rfl) dX3_addStudent_3 (gw_rmk rfl) rfl ?_
  refine gj_if_ne C 19 dX3_addStudent_6 (by decide) (fun c => ?_) (fun c => ?_)
  · replace hf := gw_iff hf c
    cases hf
    exact gj_throw C rfl E (by decide) cl_44 ini_44 st_117 at_48 dX3_addStudent_19 dX3_addStudent_22 dX3_addStudent_23 dX3_addStudent_25 dX3_addStudent_28 ⟨(Nat.le_of_ble_eq_true rfl), (Nat.le_of_ble_eq_true rfl)⟩ ⟨(Nat.le_of_ble_eq_true rfl), (Nat.le_of_ble_eq_true rfl)⟩ (Nat.le_of_ble_eq_true rfl) (Nat.le_of_ble_eq_true rfl)
  · replace hf := gw_ift hf c
    refine gj_iload_n C 2 dX3_addStudent_9 rfl ?_
    refine gj_iconst (v := 1) C dX3_addStudent_10 (by decide) ?_
    refine gj_bipush (v := 40) C dX3_addStudent_11 (by decide) ?_
    replace hf := gw_bnd hf
    obtain ⟨r2, hr2, hf⟩ := hf
    refine gj_cSi (As := [.int a2, .int (1 : Int32), .int (40 : Int32)]) (rest := []) C cb_X3_39 (s_X3_isOutside (gw_l K) Γ τ μ o a2 (1 : Int32) (40 : Int32) r2 hr2) rfl (Nat.le_of_ble_eq_true rfl) dX3_addStudent_13 (gw_rmk rfl) rfl ?_
    refine gj_if_eq C 29 dX3_addStudent_16 (by decide) (fun c => ?_) (fun c => ?_)
    · replace hf := gw_ift hf c
      refine gj_aload_n C 0 dX3_addStudent_29 rfl ?_
      refine g_X3_29 C  rfl dX3_addStudent_30 ?_
      refine gj_aload_n C 0 dX3_addStudent_33 rfl ?_
      refine g_X3_20 C  dX3_addStudent_34 ?_
      refine gj_alen2 C dX3_addStudent_37 ?_
      refine gj_ic_lt C 51 dX3_addStudent_38 (by decide) (fun c => ?_) (fun c => ?_)
      · replace hf := gw_ift hf c
        refine gj_aload_n C 0 dX3_addStudent_51 rfl ?_
        refine g_X3_20 C  dX3_addStudent_52 ?_
        refine gj_aload_n C 0 dX3_addStudent_55 rfl ?_
        refine g_X3_29 C  rfl dX3_addStudent_56 ?_
        obtain ⟨g3, hf⟩ := gw_ifs hf
        refine gj_ald2 C (gw_ibv g3) dX3_addStudent_59 ?_
        refine gj_astore_n C 3 [(3, .ref (gw_a Γ (24 + (τ 0 3).toNatClampNeg))), (0, .ref (gw_a Γ 0)), (1, .int a1), (2, .int a2)] dX3_addStudent_60 rfl (by decide) rfl ?_
        refine gj_aload_n C 0 dX3_addStudent_61 rfl ?_
        refine gj_iload_n C 2 dX3_addStudent_62 rfl ?_
        refine p_X3_121 C (gw_vS (gw_ibv g3)) dX3_addStudent_63 ?_
        refine gj_aload_n C 0 dX3_addStudent_66 rfl ?_
        refine gj_iload_n C 3 dX3_addStudent_67 rfl ?_
        refine p_X3_124 C (gw_vS (gw_ibv g3)) dX3_addStudent_68 ?_
        refine gj_aload_n C 1 dX3_addStudent_71 rfl ?_
        refine gj_dup C dX3_addStudent_72 rfl ?_
        refine g_X3_29 C  ((gw_up_n (by omega)).trans (gw_up_n (by omega))) dX3_addStudent_73 ?_
        refine gj_iconst (v := 1) C dX3_addStudent_76 (by decide) ?_
        refine gj_iadd C dX3_addStudent_77 ?_
        refine p_X3_29 C  dX3_addStudent_78 ?_
        refine gj_aload_n C 0 dX3_addStudent_81 rfl ?_
        refine g_X3_127 C (gw_vS (gw_ibv g3)) ((gw_up_n (by omega)).trans ((gw_up_n (by omega)).trans (gw_up_n (by omega)))) dX3_addStudent_82 ?_
        cases hf
        exact gj_iretX C rfl E dX3_addStudent_85 (Nat.le_of_ble_eq_true rfl) (Nat.le_of_ble_eq_true rfl)
      · replace hf := gw_iff hf c
        cases hf
        exact gj_throw C rfl E (by decide) cl_51 ini_51 st_119 at_55 dX3_addStudent_41 dX3_addStudent_44 dX3_addStudent_45 dX3_addStudent_47 dX3_addStudent_50 ⟨(Nat.le_of_ble_eq_true rfl), (Nat.le_of_ble_eq_true rfl)⟩ ⟨(Nat.le_of_ble_eq_true rfl), (Nat.le_of_ble_eq_true rfl)⟩ (Nat.le_of_ble_eq_true rfl) (Nat.le_of_ble_eq_true rfl)
    · replace hf := gw_iff hf c
      cases hf
      exact gj_throw C rfl E (by decide) cl_44 ini_44 st_117 at_48 dX3_addStudent_19 dX3_addStudent_22 dX3_addStudent_23 dX3_addStudent_25 dX3_addStudent_28 ⟨(Nat.le_of_ble_eq_true rfl), (Nat.le_of_ble_eq_true rfl)⟩ ⟨(Nat.le_of_ble_eq_true rfl), (Nat.le_of_ble_eq_true rfl)⟩ (Nat.le_of_ble_eq_true rfl) (Nat.le_of_ble_eq_true rfl)
set_option maxRecDepth 100000 in
set_option maxHeartbeats 4000000 in
theorem l_X1_placeOf_1 {K : gw_K} {Γ : gw_G} (C : gw_C K Γ cX1_placeOf 3 RX1) (τ : gw_S) (μ : gw_S) (o : Nat → Int64) (v0 : Nat) (v1 : Int32) (hk0 : gw_kR v0) : ∀ (n : Nat) (v2 : Int32) (T : Int32 ⊕ (Int32)), gw_it (b_X1_placeOf_1 τ v0 v1) n v2 = some T → (∀ x : Int32, T = .inl x → gw_J K Γ gr_X1_placeOf 0 0 (gw_W Γ τ μ o) 28 [(0, .ref (gw_a Γ v0)), (1, .int v1), (2, .int x)] []) → (∀ r : Int32, T = .inr r → gw_E K Γ (gw_qi Γ r (gw_W Γ τ μ o)) 0 0 (some .int)) → gw_J K Γ gr_X1_placeOf 0 0 (gw_W Γ τ μ o) 2 [(0, .ref (gw_a Γ v0)), (1, .int v1), (2, .int v2)] [] := by
  intro n
  induction n with
  | zero => intro v2 T  h; cases h
  | succ n ih =>
    intro v2 T  h k ke
    obtain ⟨q, hf, hr⟩ := gw_it_s h
    rw [b_X1_placeOf_1] at hf
    refine gj_iload_n C 2 dX1_placeOf_2 rfl ?_
    refine gj_aload_n C 0 dX1_placeOf_3 rfl ?_
    refine g_X1_15 C hk0 rfl dX1_placeOf_4 ?_
    refine gj_ic_ge C 28 dX1_placeOf_7 (by decide) (fun c => ?_) (fun c => ?_)
    · replace hf := gw_ift hf c
      cases hf
      exact gj_pick [0, 1, 2] _ rfl (k _ (gw_ir hr).symm )
    · replace hf := gw_iff hf c
      refine gj_aload_n C 0 dX1_placeOf_10 rfl ?_
      refine g_X1_9 C hk0 dX1_placeOf_11 ?_
      refine gj_iload_n C 2 dX1_placeOf_14 rfl ?_
      obtain ⟨g1, hf⟩ := gw_ifs hf
      refine gj_ald C (gw_kRA hk0) (gw_ibv g1) dX1_placeOf_15 ?_
      refine gj_iload_n C 1 dX1_placeOf_16 rfl ?_
      refine gj_ic_ne C 22 dX1_placeOf_17 (by decide) (fun c => ?_) (fun c => ?_)
      · replace hf := gw_iff hf c
        refine gj_iinc C 2 2 (v2 + 1) [(2, .int (v2 + 1)), (0, .ref (gw_a Γ v0)), (1, .int v1)] dX1_placeOf_22 rfl rfl (by decide) rfl ?_
        refine gj_goto C 2 dX1_placeOf_25 (by decide) ?_
        cases hf
        replace hr := gw_il hr
        exact gj_pick [1, 2, 0] _ rfl (ih _ _  hr k ke)
      · replace hf := gw_ift hf c
        refine gj_iload_n C 2 dX1_placeOf_20 rfl ?_
        cases hf
        exact gj_iret C (ke _ (gw_ir hr).symm) dX1_placeOf_21 (Nat.le_of_ble_eq_true rfl) (Nat.le_of_ble_eq_true rfl)
set_option maxRecDepth 100000 in
set_option maxHeartbeats 4000000 in
theorem s_X1_placeOf (l : Launch) (Γ : gw_G) (τ μ : gw_S) (o : Nat → Int64) (a0 : Nat) (a1 : Int32) (ha0 : gw_kR a0) (r : Int32) (hf : f_X1_placeOf τ a0 a1 = some r) : gw_M l yX1_placeOf [.code yX1_placeOf cX1_placeOf 3 (some .int)] gr_X1_placeOf 0 0 Γ [.ref (gw_a Γ a0), .int a1] (gw_W Γ τ μ o) (gw_qi Γ r (gw_W Γ τ μ o)) := by
  refine gw_enter (by decide) (Nat.le_of_ble_eq_true rfl) (fun K C E => ?_)
  unfold f_X1_placeOf at hf
  refine gj_iconst (v := 0) C dX1_placeOf_0 (by decide) ?_
  refine gj_istore_n C 2 [(2, .int (0 : Int32)), (0, .ref (gw_a Γ a0)), (1, .int a1)] dX1_placeOf_1 rfl (by decide) rfl ?_
  replace hf := gw_bnd hf
  obtain ⟨t2, ht2, hf⟩ := hf
  refine gj_pick [1, 2, 0] _ rfl (l_X1_placeOf_1 C τ μ o a0 a1 ha0 _ _ t2  ht2 (fun x3 e  => ?_) (fun r e => ?_))
  · replace hf := gw_xl hf e
    refine gj_iconst (v := -1) C dX1_placeOf_28 (by decide) ?_
    cases hf
    exact gj_iret C E dX1_placeOf_29 (Nat.le_of_ble_eq_true rfl) (Nat.le_of_ble_eq_true rfl)
  · replace hf := gw_xr hf e
    cases hf
    exact E
set_option maxRecDepth 100000 in
set_option maxHeartbeats 4000000 in
theorem l_X1_remove_1 {K : gw_K} {Γ : gw_G} (C : gw_C K Γ cX1_remove 4 RX1) (μ : gw_S) (o : Nat → Int64) (v0 : Nat) (v1 : Int32) (v2 : Int32) (hk0 : gw_kR v0) : ∀ (n : Nat) (v3 : Int32) (τ : gw_S) (T : Int32 × gw_S), gw_it (b_X1_remove_1 v0 v1 v2) n (v3, τ) = some T → (gw_J K Γ gr_X1_remove 0 0 (gw_W Γ T.2 μ o) 43 [(0, .ref (gw_a Γ v0)), (1, .int v1), (2, .int v2), (3, .int T.1)] []) → gw_J K Γ gr_X1_remove 0 0 (gw_W Γ τ μ o) 15 [(0, .ref (gw_a Γ v0)), (1, .int v1), (2, .int v2), (3, .int v3)] [] := by
  intro n
  induction n with
  | zero => intro v3 τ T  h; cases h
  | succ n ih =>
    intro v3 τ T  h k
    obtain ⟨q, hf, hr⟩ := gw_it_s h
    rw [b_X1_remove_1] at hf
    refine gj_iload_n C 3 dX1_remove_15 rfl ?_
    refine gj_aload_n C 0 dX1_remove_16 rfl ?_
    refine g_X1_15 C hk0 rfl dX1_remove_17 ?_
    refine gj_ic_ge C 43 dX1_remove_20 (by decide) (fun c => ?_) (fun c => ?_)
    · replace hf := gw_ift hf c
      cases hf
      cases gw_ir hr
      exact gj_pick [0, 1, 2, 3] _ rfl (k )
    · replace hf := gw_iff hf c
      refine gj_aload_n C 0 dX1_remove_23 rfl ?_
      refine g_X1_9 C hk0 dX1_remove_24 ?_
      refine gj_iload_n C 3 dX1_remove_27 rfl ?_
      refine gj_iconst (v := 1) C dX1_remove_28 (by decide) ?_
      refine gj_isub C dX1_remove_29 ?_
      refine gj_aload_n C 0 dX1_remove_30 rfl ?_
      refine g_X1_9 C hk0 dX1_remove_31 ?_
      refine gj_iload_n C 3 dX1_remove_34 rfl ?_
      obtain ⟨g2, hf⟩ := gw_ifs hf
      refine gj_ald C (gw_kRA hk0) (gw_ibv g2) dX1_remove_35 ?_
      obtain ⟨g3, hf⟩ := gw_ifs hf
      refine gj_ast C (gw_kRA hk0) (gw_ibv g3) dX1_remove_36 ?_
      refine gj_iinc C 3 3 (v3 + 1) [(3, .int (v3 + 1)), (0, .ref (gw_a Γ v0)), (1, .int v1), (2, .int v2)] dX1_remove_37 rfl rfl (by decide) rfl ?_
      refine gj_goto C 15 dX1_remove_40 (by decide) ?_
      cases hf
      replace hr := gw_il hr
      exact gj_pick [1, 2, 3, 0] _ rfl (ih _ _ _  hr k)
set_option maxRecDepth 100000 in
set_option maxHeartbeats 4000000 in
theorem s_X1_remove (l : Launch) (Γ : gw_G) (τ μ : gw_S) (o : Nat → Int64) (a0 : Nat) (a1 : Int32) (ha0 : gw_kR a0) (r : gw_S) (hf : f_X1_remove τ a0 a1 = some r) : gw_M l yX1_remove [.code yX1_remove cX1_remove 4 none] gr_X1_remove 0 0 Γ [.ref (gw_a Γ a0), .int a1] (gw_W Γ τ μ o) (gw_qv Γ (gw_W Γ r μ o)) := by
  refine gw_enter (by decide) (Nat.le_of_ble_eq_true rfl) (fun K C E => ?_)
  unfold f_X1_remove at hf
  refine gj_aload_n C 0 dX1_remove_0 rfl ?_
  refine gj_iload_n C 1 dX1_remove_1 rfl ?_
  replace hf := gw_bnd hf
  obtain ⟨r1, hr1, hf⟩ := hf
  refine gj_cVi (As := [.int a1]) (rest := []) C cb_X1_19 (s_X1_placeOf (gw_l K) Γ τ μ o a0 a1 ha0 r1 hr1) rfl (Nat.le_of_ble_eq_true rfl) (gw_atR ha0) rfl rfl dX1_remove_2 (gw_rmk rfl) rfl ?_
  refine gj_istore_n C 2 [(2, .int r1), (0, .ref (gw_a Γ a0)), (1, .int a1)] dX1_remove_5 rfl (by decide) rfl ?_
  refine gj_iload_n C 0 dX1_remove_6 rfl ?_
  refine gj_iconst (v := -1) C dX1_remove_7 (by decide) ?_
  refine gj_ic_eq C 53 dX1_remove_8 (by decide) (fun c => ?_) (fun c => ?_)
  · replace hf := gw_ift hf c
    cases hf
    exact gj_vret C E dX1_remove_53 (Nat.le_of_ble_eq_true rfl) (Nat.le_of_ble_eq_true rfl)
  · replace hf := gw_iff hf c
    refine gj_iload_n C 0 dX1_remove_11 rfl ?_
    refine gj_iconst (v := 1) C dX1_remove_12 (by decide) ?_
    refine gj_iadd C dX1_remove_13 ?_
    refine gj_istore_n C 3 [(3, .int (r1 + (1 : Int32))), (2, .int r1), (0, .ref (gw_a Γ a0)), (1, .int a1)] dX1_remove_14 rfl (by decide) rfl ?_
    replace hf := gw_bnd hf
    obtain ⟨t4, ht4, hf⟩ := hf
    refine gj_pick [2, 3, 1, 0] _ rfl (l_X1_remove_1 C μ o a0 a1 r1 ha0 _ _ _ t4  ht4 (?_))
    refine gj_aload_n C 0 dX1_remove_43 rfl ?_
    refine gj_dup C dX1_remove_44 rfl ?_
    refine g_X1_15 C ha0 rfl dX1_remove_45 ?_
    refine gj_iconst (v := 1) C dX1_remove_48 (by decide) ?_
    refine gj_isub C dX1_remove_49 ?_
    refine p_X1_15 C ha0 dX1_remove_50 ?_
    cases hf
    exact gj_vret C E dX1_remove_53 (Nat.le_of_ble_eq_true rfl) (Nat.le_of_ble_eq_true rfl)
set_option maxRecDepth 100000 in
set_option maxHeartbeats 4000000 in
theorem s_X0_takeOff (l : Launch) (Γ : gw_G) (τ μ : gw_S) (o : Nat → Int64) (a0 : Nat) (a1 : Int32) (ha0 : gw_kC a0) (r : gw_S) (hf : f_X0_takeOff τ a0 a1 = some r) : gw_M l yX0_takeOff [.code yX0_takeOff cX0_takeOff 2 none] gr_X0_takeOff 0 0 Γ [.ref (gw_a Γ a0), .int a1] (gw_W Γ τ μ o) (gw_qv Γ (gw_W Γ r μ o)) := by
  refine gw_enter (by decide) (Nat.le_of_ble_eq_true rfl) (fun K C E => ?_)
  unfold f_X0_takeOff at hf
  refine gj_aload_n C 0 dX0_takeOff_0 rfl ?_
  refine g_X0_20 C ha0 dX0_takeOff_1 ?_
  refine gj_iload_n C 1 dX0_takeOff_4 rfl ?_
  replace hf := gw_bnd hf
  obtain ⟨r1, hr1, hf⟩ := hf
  refine gj_cVv (As := [.int a1]) (rest := []) C cb_X0_28 (s_X1_remove (gw_l K) Γ τ μ o (a0 + 36) a1 (gw_kCR ha0) r1 hr1) rfl (Nat.le_of_ble_eq_true rfl) (gw_atR (gw_kCR ha0)) rfl rfl dX0_takeOff_5 (gw_rmk rfl) rfl ?_
  refine gj_aload_n C 0 dX0_takeOff_8 rfl ?_
  refine g_X0_24 C ha0 dX0_takeOff_9 ?_
  refine gj_iload_n C 1 dX0_takeOff_12 rfl ?_
  refine gj_iconst (v := -1) C dX0_takeOff_13 (by decide) ?_
  obtain ⟨g2, hf⟩ := gw_ifs hf
  refine gj_ast C (gw_kCA ha0) (gw_ibv g2) dX0_takeOff_14 ?_
  cases hf
  exact gj_vret C E dX0_takeOff_15 (Nat.le_of_ble_eq_true rfl) (Nat.le_of_ble_eq_true rfl)
set_option maxRecDepth 100000 in
set_option maxHeartbeats 4000000 in
theorem s_X3_pass (l : Launch) (Γ : gw_G) (τ μ : gw_S) (o : Nat → Int64) (a1 : Int32) (a2 : Int32) (r : (Int32 ⊕ String) × gw_S) (hf : f_X3_pass τ a1 a2 = some r) : gw_MX l yX3_pass [.code yX3_pass cX3_pass 5 (some .int)] gr_X3_pass 3 18 Γ [.ref (gw_a Γ 0), .int a1, .int a2] (gw_W Γ τ μ o) (gw_qI Γ r.1 (gw_W Γ r.2 μ o)) (gw_x Γ r.1 (gw_W Γ r.2 μ o)) := by
  refine gw_enterX (by decide) (Nat.le_of_ble_eq_true rfl) (fun K C E => ?_)
  unfold f_X3_pass at hf
  refine gj_aload_n C 0 dX3_pass_0 rfl ?_
  refine gj_iload_n C 1 dX3_pass_1 rfl ?_
  replace hf := gw_bnd hf
  obtain ⟨r1, hr1, hf⟩ := hf
  refine gj_cVR (As := [.int a1]) (rest := []) C cb_X3_128 (s_X3_studentAt (gw_l K) Γ τ μ o a1 r1 hr1) rfl (Nat.le_of_ble_eq_true rfl) gw_atM rfl rfl dX3_pass_2 (gw_rmk rfl) rfl (fun e he => ?_) (fun v2 he => ?_)
  · replace hf := gw_xr hf he
    cases hf
    exact gj_out C rfl E (Nat.le_of_ble_eq_true rfl) (Nat.le_of_ble_eq_true rfl)
  · replace hf := gw_xl hf he
    subst he
    have hk_v2 := k_studentAt hr1
    refine gj_astore_n C 3 [(3, .ref (gw_a Γ v2)), (0, .ref (gw_a Γ 0)), (1, .int a1), (2, .int a2)] dX3_pass_5 rfl (by decide) rfl ?_
    refine gj_aload_n C 1 dX3_pass_6 rfl ?_
    refine gj_iload_n C 3 dX3_pass_7 rfl ?_
    replace hf := gw_bnd hf
    obtain ⟨r3, hr3, hf⟩ := hf
    refine gj_cVR (As := [.int a2]) (rest := []) C cb_X3_68 (s_X3_courseAt (gw_l K) Γ τ μ o a2 r3 hr3) rfl (Nat.le_of_ble_eq_true rfl) gw_atM rfl rfl dX3_pass_8 (gw_rmk rfl) rfl (fun e he => ?_) (fun v4 he => ?_)
    · replace hf := gw_xr hf he
      cases hf
      exact gj_out C rfl E (Nat.le_of_ble_eq_true rfl) (Nat.le_of_ble_eq_true rfl)
    · replace hf := gw_xl hf he
      subst he
      have hk_v4 := k_courseAt hr3
      refine gj_astore C 4 [(4, .ref (gw_a Γ v4)), (3, .ref (gw_a Γ v2)), (0, .ref (gw_a Γ 0)), (1, .int a1), (2, .int a2)] dX3_pass_11 (by decide) rfl ?_
      refine gj_aload_n C 1 dX3_pass_13 rfl ?_
      refine g_X3_132 C hk_v2 rfl dX3_pass_14 ?_
      refine gj_iload_n C 4 dX3_pass_17 rfl ?_
      replace hf := gw_bnd hf
      obtain ⟨r5, hr5, hf⟩ := hf
      refine gj_cSi (As := [.int (τ v2 4), .int a2]) (rest := []) C cb_X3_86 (s_X3_isIn (gw_l K) Γ τ μ o (τ v2 4) a2 r5 hr5) rfl (Nat.le_of_ble_eq_true rfl) dX3_pass_18 (gw_rmk rfl) rfl ?_
      refine gj_if_ne C 35 dX3_pass_21 (by decide) (fun c => ?_) (fun c => ?_)
      · replace hf := gw_iff hf c
        cases hf
        exact gj_throw C rfl E (by decide) cl_51 ini_51 st_138 at_55 dX3_pass_35 dX3_pass_38 dX3_pass_39 dX3_pass_41 dX3_pass_44 ⟨(Nat.le_of_ble_eq_true rfl), (Nat.le_of_ble_eq_true rfl)⟩ ⟨(Nat.le_of_ble_eq_true rfl), (Nat.le_of_ble_eq_true rfl)⟩ (Nat.le_of_ble_eq_true rfl) (Nat.le_of_ble_eq_true rfl)
      · replace hf := gw_ift hf c
        refine gj_aload_n C 1 dX3_pass_24 rfl ?_
        refine g_X3_135 C hk_v2 rfl dX3_pass_25 ?_
        refine gj_iload_n C 4 dX3_pass_28 rfl ?_
        replace hf := gw_bnd hf
        obtain ⟨r6, hr6, hf⟩ := hf
        refine gj_cSi (As := [.int (τ v2 5), .int a2]) (rest := []) C cb_X3_86 (s_X3_isIn (gw_l K) Γ τ μ o (τ v2 5) a2 r6 hr6) rfl (Nat.le_of_ble_eq_true rfl) dX3_pass_29 (gw_rmk rfl) rfl ?_
        refine gj_if_eq C 45 dX3_pass_32 (by decide) (fun c => ?_) (fun c => ?_)
        · replace hf := gw_ift hf c
          refine gj_aload_n C 1 dX3_pass_45 rfl ?_
          refine gj_dup C dX3_pass_46 rfl ?_
          refine g_X3_132 C hk_v2 rfl dX3_pass_47 ?_
          refine gj_iload_n C 4 dX3_pass_50 rfl ?_
          replace hf := gw_bnd hf
          obtain ⟨r7, hr7, hf⟩ := hf
          refine gj_cSi (As := [.int a2]) (rest := [.int (τ v2 4), .ref (gw_a Γ v2)]) C cb_X3_95 (s_X3_bit (gw_l K) Γ τ μ o a2 r7 hr7) rfl (Nat.le_of_ble_eq_true rfl) dX3_pass_51 (gw_rmk rfl) rfl ?_
          refine gj_ior C dX3_pass_54 ?_
          refine p_X3_132 C hk_v2 dX3_pass_55 ?_
          refine gj_aload_n C 1 dX3_pass_58 rfl ?_
          refine g_X3_140 C hk_v2 dX3_pass_59 ?_
          refine gj_iload_n C 4 dX3_pass_62 rfl ?_
          replace hf := gw_bnd hf
          obtain ⟨r8, hr8, hf⟩ := hf
          refine gj_cVv (As := [.int a2]) (rest := []) C cb_X3_144 (s_X1_remove (gw_l K) Γ (gw_up τ v2 4 ((τ v2 4) ||| r7)) μ o (v2 + 36) a2 (gw_kSR hk_v2) r8 hr8) rfl (Nat.le_of_ble_eq_true rfl) (gw_atR (gw_kSR hk_v2)) rfl rfl dX3_pass_63 (gw_rmk rfl) rfl ?_
          refine gj_aload C 0 dX3_pass_66 rfl ?_
          refine gj_iload_n C 3 dX3_pass_68 rfl ?_
          replace hf := gw_bnd hf
          obtain ⟨r9, hr9, hf⟩ := hf
          refine gj_cVv (As := [.int a1]) (rest := []) C cb_X3_149 (s_X0_takeOff (gw_l K) Γ r8 μ o v4 a1 hk_v4 r9 hr9) rfl (Nat.le_of_ble_eq_true rfl) (gw_atC hk_v4) rfl rfl dX3_pass_69 (gw_rmk rfl) rfl ?_
          refine gj_aload_n C 2 dX3_pass_72 rfl ?_
          replace hf := gw_bnd hf
          obtain ⟨r10, hr10, hf⟩ := hf
          refine gj_cVv (As := []) (rest := []) C cb_X3_80 (s_X3_makeOffers (gw_l K) Γ r9 μ o  r10 hr10) rfl (Nat.le_of_ble_eq_true rfl) gw_atM rfl rfl dX3_pass_73 (gw_rmk rfl) rfl ?_
          refine gj_aload_n C 1 dX3_pass_76 rfl ?_
          refine g_X3_132 C hk_v2 rfl dX3_pass_77 ?_
          replace hf := gw_bnd hf
          obtain ⟨r11, hr11, hf⟩ := hf
          refine gj_cSi (As := [.int (r10 v2 4)]) (rest := []) C cb_X3_103 (s_J6_bitCount_0f7a4 (gw_l K) Γ r10 μ o (r10 v2 4) r11 hr11) rfl (Nat.le_of_ble_eq_true rfl) dX3_pass_80 (gw_rmk rfl) rfl ?_
          cases hf
          exact gj_iretX C rfl E dX3_pass_83 (Nat.le_of_ble_eq_true rfl) (Nat.le_of_ble_eq_true rfl)
        · replace hf := gw_iff hf c
          cases hf
          exact gj_throw C rfl E (by decide) cl_51 ini_51 st_138 at_55 dX3_pass_35 dX3_pass_38 dX3_pass_39 dX3_pass_41 dX3_pass_44 ⟨(Nat.le_of_ble_eq_true rfl), (Nat.le_of_ble_eq_true rfl)⟩ ⟨(Nat.le_of_ble_eq_true rfl), (Nat.le_of_ble_eq_true rfl)⟩ (Nat.le_of_ble_eq_true rfl) (Nat.le_of_ble_eq_true rfl)
set_option maxRecDepth 100000 in
set_option maxHeartbeats 4000000 in
theorem s_X3_students (l : Launch) (Γ : gw_G) (τ μ : gw_S) (o : Nat → Int64) (r : Int32) (hf : f_X3_students τ = some r) : gw_M l yX3_students [.code yX3_students cX3_students 1 (some .int)] gr_X3_students 0 0 Γ [.ref (gw_a Γ 0)] (gw_W Γ τ μ o) (gw_qi Γ r (gw_W Γ τ μ o)) := by
  refine gw_enter (by decide) (Nat.le_of_ble_eq_true rfl) (fun K C E => ?_)
  unfold f_X3_students at hf
  refine gj_aload_n C 0 dX3_students_0 rfl ?_
  refine g_X3_29 C  rfl dX3_students_1 ?_
  cases hf
  exact gj_iret C E dX3_students_4 (Nat.le_of_ble_eq_true rfl) (Nat.le_of_ble_eq_true rfl)
set_option maxRecDepth 100000 in
set_option maxHeartbeats 4000000 in
theorem s_X3_hasPassed (l : Launch) (Γ : gw_G) (τ μ : gw_S) (o : Nat → Int64) (a1 : Int32) (a2 : Int32) (r : (Int32 ⊕ String)) (hf : f_X3_hasPassed τ a1 a2 = some r) : gw_MX l yX3_hasPassed [.code yX3_hasPassed cX3_hasPassed 4 (some .boolean)] gr_X3_hasPassed 2 12 Γ [.ref (gw_a Γ 0), .int a1, .int a2] (gw_W Γ τ μ o) (gw_qI Γ r (gw_W Γ τ μ o)) (gw_x Γ r (gw_W Γ τ μ o)) := by
  refine gw_enterX (by decide) (Nat.le_of_ble_eq_true rfl) (fun K C E => ?_)
  unfold f_X3_hasPassed at hf
  refine gj_aload_n C 0 dX3_hasPassed_0 rfl ?_
  refine gj_iload_n C 1 dX3_hasPassed_1 rfl ?_
  replace hf := gw_bnd hf
  obtain ⟨r1, hr1, hf⟩ := hf
  refine gj_cVR (As := [.int a1]) (rest := []) C cb_X3_128 (s_X3_studentAt (gw_l K) Γ τ μ o a1 r1 hr1) rfl (Nat.le_of_ble_eq_true rfl) gw_atM rfl rfl dX3_hasPassed_2 (gw_rmk rfl) rfl (fun e he => ?_) (fun v2 he => ?_)
  · replace hf := gw_xr hf he
    cases hf
    exact gj_out C rfl E (Nat.le_of_ble_eq_true rfl) (Nat.le_of_ble_eq_true rfl)
  · replace hf := gw_xl hf he
    subst he
    have hk_v2 := k_studentAt hr1
    refine gj_astore_n C 3 [(3, .ref (gw_a Γ v2)), (0, .ref (gw_a Γ 0)), (1, .int a1), (2, .int a2)] dX3_hasPassed_5 rfl (by decide) rfl ?_
    refine gj_aload_n C 0 dX3_hasPassed_6 rfl ?_
    refine g_X3_132 C hk_v2 rfl dX3_hasPassed_7 ?_
    refine gj_aload_n C 1 dX3_hasPassed_10 rfl ?_
    refine gj_iload_n C 3 dX3_hasPassed_11 rfl ?_
    replace hf := gw_bnd hf
    obtain ⟨r3, hr3, hf⟩ := hf
    refine gj_cVR (As := [.int a2]) (rest := [.int (τ v2 4)]) C cb_X3_68 (s_X3_courseAt (gw_l K) Γ τ μ o a2 r3 hr3) rfl (Nat.le_of_ble_eq_true rfl) gw_atM rfl rfl dX3_hasPassed_12 (gw_rmk rfl) rfl (fun e he => ?_) (fun v4 he => ?_)
    · replace hf := gw_xr hf he
      cases hf
      exact gj_out C rfl E (Nat.le_of_ble_eq_true rfl) (Nat.le_of_ble_eq_true rfl)
    · replace hf := gw_xl hf he
      subst he
      have hk_v4 := k_courseAt hr3
      refine g_X3_65 C hk_v4 rfl dX3_hasPassed_15 ?_
      replace hf := gw_bnd hf
      obtain ⟨r5, hr5, hf⟩ := hf
      refine gj_cSi (As := [.int (τ v2 4), .int (τ v4 0)]) (rest := []) C cb_X3_86 (s_X3_isIn (gw_l K) Γ τ μ o (τ v2 4) (τ v4 0) r5 hr5) rfl (Nat.le_of_ble_eq_true rfl) dX3_hasPassed_18 (gw_rmk rfl) rfl ?_
      cases hf
      exact gj_zretX C rfl E (z_X3_isIn hr5) dX3_hasPassed_21 (Nat.le_of_ble_eq_true rfl) (Nat.le_of_ble_eq_true rfl)
set_option maxRecDepth 100000 in
set_option maxHeartbeats 4000000 in
theorem sr_X3_hasPassed (l : Launch) (Γ : gw_G) (τ μ : gw_S) (o : Nat → Int64) (a1 : Int32) (a2 : Int32) (k : Int32) (hf : f_X3_hasPassed τ a1 a2 = some (.inl k)) : gw_M l yX3_hasPassed [.code yX3_hasPassed cX3_hasPassed 4 (some .boolean)] gr_X3_hasPassedr 0 0 Γ [.ref (gw_a Γ 0), .int a1, .int a2] (gw_W Γ τ μ o) (gw_qi Γ k (gw_W Γ τ μ o)) := by
  refine gw_enter (by decide) (Nat.le_of_ble_eq_true rfl) (fun K C E => ?_)
  unfold f_X3_hasPassed at hf
  refine gj_aload_n C 0 dX3_hasPassed_0 rfl ?_
  refine gj_iload_n C 1 dX3_hasPassed_1 rfl ?_
  replace hf := gw_bnd hf
  obtain ⟨r1, hr1, hf⟩ := hf
  replace hf := gw_xm hf
  obtain ⟨v2, he, hf⟩ := hf
  subst he
  have hk_v2 := k_studentAt hr1
  refine gj_cVr (As := [.int a1]) (rest := []) C cb_X3_128 (sr_X3_studentAt (gw_l K) Γ τ μ o a1 v2 hr1) rfl (Nat.le_of_ble_eq_true rfl) gw_atM rfl rfl dX3_hasPassed_2 (gw_rmk rfl) rfl ?_
  refine gj_astore_n C 3 [(3, .ref (gw_a Γ v2)), (0, .ref (gw_a Γ 0)), (1, .int a1), (2, .int a2)] dX3_hasPassed_5 rfl (by decide) rfl ?_
  refine gj_aload_n C 0 dX3_hasPassed_6 rfl ?_
  refine g_X3_132 C hk_v2 rfl dX3_hasPassed_7 ?_
  refine gj_aload_n C 1 dX3_hasPassed_10 rfl ?_
  refine gj_iload_n C 3 dX3_hasPassed_11 rfl ?_
  replace hf := gw_bnd hf
  obtain ⟨r3, hr3, hf⟩ := hf
  replace hf := gw_xm hf
  obtain ⟨v4, he, hf⟩ := hf
  subst he
  have hk_v4 := k_courseAt hr3
  refine gj_cVr (As := [.int a2]) (rest := [.int (τ v2 4)]) C cb_X3_68 (sr_X3_courseAt (gw_l K) Γ τ μ o a2 v4 hr3) rfl (Nat.le_of_ble_eq_true rfl) gw_atM rfl rfl dX3_hasPassed_12 (gw_rmk rfl) rfl ?_
  refine g_X3_65 C hk_v4 rfl dX3_hasPassed_15 ?_
  replace hf := gw_bnd hf
  obtain ⟨r5, hr5, hf⟩ := hf
  refine gj_cSi (As := [.int (τ v2 4), .int (τ v4 0)]) (rest := []) C cb_X3_86 (s_X3_isIn (gw_l K) Γ τ μ o (τ v2 4) (τ v4 0) r5 hr5) rfl (Nat.le_of_ble_eq_true rfl) dX3_hasPassed_18 (gw_rmk rfl) rfl ?_
  cases hf
  exact gj_zret C E (z_X3_isIn hr5) dX3_hasPassed_21 (Nat.le_of_ble_eq_true rfl) (Nat.le_of_ble_eq_true rfl)
set_option maxRecDepth 100000 in
set_option maxHeartbeats 4000000 in
theorem s_X3_isEnrolled (l : Launch) (Γ : gw_G) (τ μ : gw_S) (o : Nat → Int64) (a1 : Int32) (a2 : Int32) (r : (Int32 ⊕ String)) (hf : f_X3_isEnrolled τ a1 a2 = some r) : gw_MX l yX3_isEnrolled [.code yX3_isEnrolled cX3_isEnrolled 4 (some .boolean)] gr_X3_isEnrolled 2 12 Γ [.ref (gw_a Γ 0), .int a1, .int a2] (gw_W Γ τ μ o) (gw_qI Γ r (gw_W Γ τ μ o)) (gw_x Γ r (gw_W Γ τ μ o)) := by
  refine gw_enterX (by decide) (Nat.le_of_ble_eq_true rfl) (fun K C E => ?_)
  unfold f_X3_isEnrolled at hf
  refine gj_aload_n C 0 dX3_isEnrolled_0 rfl ?_
  refine gj_iload_n C 1 dX3_isEnrolled_1 rfl ?_
  replace hf := gw_bnd hf
  obtain ⟨r1, hr1, hf⟩ := hf
  refine gj_cVR (As := [.int a1]) (rest := []) C cb_X3_128 (s_X3_studentAt (gw_l K) Γ τ μ o a1 r1 hr1) rfl (Nat.le_of_ble_eq_true rfl) gw_atM rfl rfl dX3_isEnrolled_2 (gw_rmk rfl) rfl (fun e he => ?_) (fun v2 he => ?_)
  · replace hf := gw_xr hf he
    cases hf
    exact gj_out C rfl E (Nat.le_of_ble_eq_true rfl) (Nat.le_of_ble_eq_true rfl)
  · replace hf := gw_xl hf he
    subst he
    have hk_v2 := k_studentAt hr1
    refine gj_astore_n C 3 [(3, .ref (gw_a Γ v2)), (0, .ref (gw_a Γ 0)), (1, .int a1), (2, .int a2)] dX3_isEnrolled_5 rfl (by decide) rfl ?_
    refine gj_aload_n C 0 dX3_isEnrolled_6 rfl ?_
    refine g_X3_135 C hk_v2 rfl dX3_isEnrolled_7 ?_
    refine gj_aload_n C 1 dX3_isEnrolled_10 rfl ?_
    refine gj_iload_n C 3 dX3_isEnrolled_11 rfl ?_
    replace hf := gw_bnd hf
    obtain ⟨r3, hr3, hf⟩ := hf
    refine gj_cVR (As := [.int a2]) (rest := [.int (τ v2 5)]) C cb_X3_68 (s_X3_courseAt (gw_l K) Γ τ μ o a2 r3 hr3) rfl (Nat.le_of_ble_eq_true rfl) gw_atM rfl rfl dX3_isEnrolled_12 (gw_rmk rfl) rfl (fun e he => ?_) (fun v4 he => ?_)
    · replace hf := gw_xr hf he
      cases hf
      exact gj_out C rfl E (Nat.le_of_ble_eq_true rfl) (Nat.le_of_ble_eq_true rfl)
    · replace hf := gw_xl hf he
      subst he
      have hk_v4 := k_courseAt hr3
      refine g_X3_65 C hk_v4 rfl dX3_isEnrolled_15 ?_
      replace hf := gw_bnd hf
      obtain ⟨r5, hr5, hf⟩ := hf
      refine gj_cSi (As := [.int (τ v2 5), .int (τ v4 0)]) (rest := []) C cb_X3_86 (s_X3_isIn (gw_l K) Γ τ μ o (τ v2 5) (τ v4 0) r5 hr5) rfl (Nat.le_of_ble_eq_true rfl) dX3_isEnrolled_18 (gw_rmk rfl) rfl ?_
      cases hf
      exact gj_zretX C rfl E (z_X3_isIn hr5) dX3_isEnrolled_21 (Nat.le_of_ble_eq_true rfl) (Nat.le_of_ble_eq_true rfl)
set_option maxRecDepth 100000 in
set_option maxHeartbeats 4000000 in
theorem sr_X3_isEnrolled (l : Launch) (Γ : gw_G) (τ μ : gw_S) (o : Nat → Int64) (a1 : Int32) (a2 : Int32) (k : Int32) (hf : f_X3_isEnrolled τ a1 a2 = some (.inl k)) : gw_M l yX3_isEnrolled [.code yX3_isEnrolled cX3_isEnrolled 4 (some .boolean)] gr_X3_isEnrolledr 0 0 Γ [.ref (gw_a Γ 0), .int a1, .int a2] (gw_W Γ τ μ o) (gw_qi Γ k (gw_W Γ τ μ o)) := by
  refine gw_enter (by decide) (Nat.le_of_ble_eq_true rfl) (fun K C E => ?_)
  unfold f_X3_isEnrolled at hf
  refine gj_aload_n C 0 dX3_isEnrolled_0 rfl ?_
  refine gj_iload_n C 1 dX3_isEnrolled_1 rfl ?_
  replace hf := gw_bnd hf
  obtain ⟨r1, hr1, hf⟩ := hf
  replace hf := gw_xm hf
  obtain ⟨v2, he, hf⟩ := hf
  subst he
  have hk_v2 := k_studentAt hr1
  refine gj_cVr (As := [.int a1]) (rest := []) C cb_X3_128 (sr_X3_studentAt (gw_l K) Γ τ μ o a1 v2 hr1) rfl (Nat.le_of_ble_eq_true rfl) gw_atM rfl rfl dX3_isEnrolled_2 (gw_rmk rfl) rfl ?_
  refine gj_astore_n C 3 [(3, .ref (gw_a Γ v2)), (0, .ref (gw_a Γ 0)), (1, .int a1), (2, .int a2)] dX3_isEnrolled_5 rfl (by decide) rfl ?_
  refine gj_aload_n C 0 dX3_isEnrolled_6 rfl ?_
  refine g_X3_135 C hk_v2 rfl dX3_isEnrolled_7 ?_
  refine gj_aload_n C 1 dX3_isEnrolled_10 rfl ?_
  refine gj_iload_n C 3 dX3_isEnrolled_11 rfl ?_
  replace hf := gw_bnd hf
  obtain ⟨r3, hr3, hf⟩ := hf
  replace hf := gw_xm hf
  obtain ⟨v4, he, hf⟩ := hf
  subst he
  have hk_v4 := k_courseAt hr3
  refine gj_cVr (As := [.int a2]) (rest := [.int (τ v2 5)]) C cb_X3_68 (sr_X3_courseAt (gw_l K) Γ τ μ o a2 v4 hr3) rfl (Nat.le_of_ble_eq_true rfl) gw_atM rfl rfl dX3_isEnrolled_12 (gw_rmk rfl) rfl ?_
  refine g_X3_65 C hk_v4 rfl dX3_isEnrolled_15 ?_
  replace hf := gw_bnd hf
  obtain ⟨r5, hr5, hf⟩ := hf
  refine gj_cSi (As := [.int (τ v2 5), .int (τ v4 0)]) (rest := []) C cb_X3_86 (s_X3_isIn (gw_l K) Γ τ μ o (τ v2 5) (τ v4 0) r5 hr5) rfl (Nat.le_of_ble_eq_true rfl) dX3_isEnrolled_18 (gw_rmk rfl) rfl ?_
  cases hf
  exact gj_zret C E (z_X3_isIn hr5) dX3_isEnrolled_21 (Nat.le_of_ble_eq_true rfl) (Nat.le_of_ble_eq_true rfl)
set_option maxRecDepth 100000 in
set_option maxHeartbeats 4000000 in
theorem s_X3_credits (l : Launch) (Γ : gw_G) (τ μ : gw_S) (o : Nat → Int64) (a1 : Int32) (r : (Int32 ⊕ String)) (hf : f_X3_credits τ a1 = some r) : gw_MX l yX3_credits [.code yX3_credits cX3_credits 2 (some .int)] gr_X3_credits 1 6 Γ [.ref (gw_a Γ 0), .int a1] (gw_W Γ τ μ o) (gw_qI Γ r (gw_W Γ τ μ o)) (gw_x Γ r (gw_W Γ τ μ o)) := by
  refine gw_enterX (by decide) (Nat.le_of_ble_eq_true rfl) (fun K C E => ?_)
  unfold f_X3_credits at hf
  refine gj_aload_n C 0 dX3_credits_0 rfl ?_
  refine gj_aload_n C 0 dX3_credits_1 rfl ?_
  refine gj_iload_n C 1 dX3_credits_2 rfl ?_
  replace hf := gw_bnd hf
  obtain ⟨r1, hr1, hf⟩ := hf
  refine gj_cVR (As := [.int a1]) (rest := [.ref (gw_a Γ 0)]) C cb_X3_128 (s_X3_studentAt (gw_l K) Γ τ μ o a1 r1 hr1) rfl (Nat.le_of_ble_eq_true rfl) gw_atM rfl rfl dX3_credits_3 (gw_rmk rfl) rfl (fun e he => ?_) (fun v2 he => ?_)
  · replace hf := gw_xr hf he
    cases hf
    exact gj_out C rfl E (Nat.le_of_ble_eq_true rfl) (Nat.le_of_ble_eq_true rfl)
  · replace hf := gw_xl hf he
    subst he
    have hk_v2 := k_studentAt hr1
    refine g_X3_135 C hk_v2 rfl dX3_credits_6 ?_
    replace hf := gw_bnd hf
    obtain ⟨r3, hr3, hf⟩ := hf
    refine gj_cVi (As := [.int (τ v2 5)]) (rest := []) C cb_X3_152 (s_X3_creditsOf (gw_l K) Γ τ μ o (τ v2 5) r3 hr3) rfl (Nat.le_of_ble_eq_true rfl) gw_atM rfl rfl dX3_credits_9 (gw_rmk rfl) rfl ?_
    cases hf
    exact gj_iretX C rfl E dX3_credits_12 (Nat.le_of_ble_eq_true rfl) (Nat.le_of_ble_eq_true rfl)
set_option maxRecDepth 100000 in
set_option maxHeartbeats 4000000 in
theorem sr_X3_credits (l : Launch) (Γ : gw_G) (τ μ : gw_S) (o : Nat → Int64) (a1 : Int32) (k : Int32) (hf : f_X3_credits τ a1 = some (.inl k)) : gw_M l yX3_credits [.code yX3_credits cX3_credits 2 (some .int)] gr_X3_creditsr 0 0 Γ [.ref (gw_a Γ 0), .int a1] (gw_W Γ τ μ o) (gw_qi Γ k (gw_W Γ τ μ o)) := by
  refine gw_enter (by decide) (Nat.le_of_ble_eq_true rfl) (fun K C E => ?_)
  unfold f_X3_credits at hf
  refine gj_aload_n C 0 dX3_credits_0 rfl ?_
  refine gj_aload_n C 0 dX3_credits_1 rfl ?_
  refine gj_iload_n C 1 dX3_credits_2 rfl ?_
  replace hf := gw_bnd hf
  obtain ⟨r1, hr1, hf⟩ := hf
  replace hf := gw_xm hf
  obtain ⟨v2, he, hf⟩ := hf
  subst he
  have hk_v2 := k_studentAt hr1
  refine gj_cVr (As := [.int a1]) (rest := [.ref (gw_a Γ 0)]) C cb_X3_128 (sr_X3_studentAt (gw_l K) Γ τ μ o a1 v2 hr1) rfl (Nat.le_of_ble_eq_true rfl) gw_atM rfl rfl dX3_credits_3 (gw_rmk rfl) rfl ?_
  refine g_X3_135 C hk_v2 rfl dX3_credits_6 ?_
  replace hf := gw_bnd hf
  obtain ⟨r3, hr3, hf⟩ := hf
  refine gj_cVi (As := [.int (τ v2 5)]) (rest := []) C cb_X3_152 (s_X3_creditsOf (gw_l K) Γ τ μ o (τ v2 5) r3 hr3) rfl (Nat.le_of_ble_eq_true rfl) gw_atM rfl rfl dX3_credits_9 (gw_rmk rfl) rfl ?_
  cases hf
  exact gj_iret C E dX3_credits_12 (Nat.le_of_ble_eq_true rfl) (Nat.le_of_ble_eq_true rfl)
set_option maxRecDepth 100000 in
set_option maxHeartbeats 4000000 in
theorem s_X3_missing (l : Launch) (Γ : gw_G) (τ μ : gw_S) (o : Nat → Int64) (a1 : Int32) (a2 : Int32) (r : (Int32 ⊕ String)) (hf : f_X3_missing τ a1 a2 = some r) : gw_MX l yX3_missing [.code yX3_missing cX3_missing 4 (some .int)] gr_X3_missing 2 12 Γ [.ref (gw_a Γ 0), .int a1, .int a2] (gw_W Γ τ μ o) (gw_qI Γ r (gw_W Γ τ μ o)) (gw_x Γ r (gw_W Γ τ μ o)) := by
  refine gw_enterX (by decide) (Nat.le_of_ble_eq_true rfl) (fun K C E => ?_)
  unfold f_X3_missing at hf
  refine gj_aload_n C 0 dX3_missing_0 rfl ?_
  refine gj_iload_n C 1 dX3_missing_1 rfl ?_
  replace hf := gw_bnd hf
  obtain ⟨r1, hr1, hf⟩ := hf
  refine gj_cVR (As := [.int a1]) (rest := []) C cb_X3_128 (s_X3_studentAt (gw_l K) Γ τ μ o a1 r1 hr1) rfl (Nat.le_of_ble_eq_true rfl) gw_atM rfl rfl dX3_missing_2 (gw_rmk rfl) rfl (fun e he => ?_) (fun v2 he => ?_)
  · replace hf := gw_xr hf he
    cases hf
    exact gj_out C rfl E (Nat.le_of_ble_eq_true rfl) (Nat.le_of_ble_eq_true rfl)
  · replace hf := gw_xl hf he
    subst he
    have hk_v2 := k_studentAt hr1
    refine gj_astore_n C 3 [(3, .ref (gw_a Γ v2)), (0, .ref (gw_a Γ 0)), (1, .int a1), (2, .int a2)] dX3_missing_5 rfl (by decide) rfl ?_
    refine gj_aload_n C 1 dX3_missing_6 rfl ?_
    refine gj_iload_n C 3 dX3_missing_7 rfl ?_
    replace hf := gw_bnd hf
    obtain ⟨r3, hr3, hf⟩ := hf
    refine gj_cVR (As := [.int a2]) (rest := []) C cb_X3_68 (s_X3_courseAt (gw_l K) Γ τ μ o a2 r3 hr3) rfl (Nat.le_of_ble_eq_true rfl) gw_atM rfl rfl dX3_missing_8 (gw_rmk rfl) rfl (fun e he => ?_) (fun v4 he => ?_)
    · replace hf := gw_xr hf he
      cases hf
      exact gj_out C rfl E (Nat.le_of_ble_eq_true rfl) (Nat.le_of_ble_eq_true rfl)
    · replace hf := gw_xl hf he
      subst he
      have hk_v4 := k_courseAt hr3
      refine g_X3_90 C hk_v4 rfl dX3_missing_11 ?_
      refine gj_aload_n C 0 dX3_missing_14 rfl ?_
      refine g_X3_132 C hk_v2 rfl dX3_missing_15 ?_
      refine gj_iconst (v := -1) C dX3_missing_18 (by decide) ?_
      refine gj_ixor C dX3_missing_19 ?_
      refine gj_iand C dX3_missing_20 ?_
      replace hf := gw_bnd hf
      obtain ⟨r5, hr5, hf⟩ := hf
      refine gj_cSi (As := [.int ((τ v4 7) &&& ((τ v2 4) ^^^ (-1 : Int32)))]) (rest := []) C cb_X3_103 (s_J6_bitCount_0f7a4 (gw_l K) Γ τ μ o ((τ v4 7) &&& ((τ v2 4) ^^^ (-1 : Int32))) r5 hr5) rfl (Nat.le_of_ble_eq_true rfl) dX3_missing_21 (gw_rmk rfl) rfl ?_
      cases hf
      exact gj_iretX C rfl E dX3_missing_24 (Nat.le_of_ble_eq_true rfl) (Nat.le_of_ble_eq_true rfl)
set_option maxRecDepth 100000 in
set_option maxHeartbeats 4000000 in
theorem sr_X3_missing (l : Launch) (Γ : gw_G) (τ μ : gw_S) (o : Nat → Int64) (a1 : Int32) (a2 : Int32) (k : Int32) (hf : f_X3_missing τ a1 a2 = some (.inl k)) : gw_M l yX3_missing [.code yX3_missing cX3_missing 4 (some .int)] gr_X3_missingr 0 0 Γ [.ref (gw_a Γ 0), .int a1, .int a2] (gw_W Γ τ μ o) (gw_qi Γ k (gw_W Γ τ μ o)) := by
  refine gw_enter (by decide) (Nat.le_of_ble_eq_true rfl) (fun K C E => ?_)
  unfold f_X3_missing at hf
  refine gj_aload_n C 0 dX3_missing_0 rfl ?_
  refine gj_iload_n C 1 dX3_missing_1 rfl ?_
  replace hf := gw_bnd hf
  obtain ⟨r1, hr1, hf⟩ := hf
  replace hf := gw_xm hf
  obtain ⟨v2, he, hf⟩ := hf
  subst he
  have hk_v2 := k_studentAt hr1
  refine gj_cVr (As := [.int a1]) (rest := []) C cb_X3_128 (sr_X3_studentAt (gw_l K) Γ τ μ o a1 v2 hr1) rfl (Nat.le_of_ble_eq_true rfl) gw_atM rfl rfl dX3_missing_2 (gw_rmk rfl) rfl ?_
  refine gj_astore_n C 3 [(3, .ref (gw_a Γ v2)), (0, .ref (gw_a Γ 0)), (1, .int a1), (2, .int a2)] dX3_missing_5 rfl (by decide) rfl ?_
  refine gj_aload_n C 1 dX3_missing_6 rfl ?_
  refine gj_iload_n C 3 dX3_missing_7 rfl ?_
  replace hf := gw_bnd hf
  obtain ⟨r3, hr3, hf⟩ := hf
  replace hf := gw_xm hf
  obtain ⟨v4, he, hf⟩ := hf
  subst he
  have hk_v4 := k_courseAt hr3
  refine gj_cVr (As := [.int a2]) (rest := []) C cb_X3_68 (sr_X3_courseAt (gw_l K) Γ τ μ o a2 v4 hr3) rfl (Nat.le_of_ble_eq_true rfl) gw_atM rfl rfl dX3_missing_8 (gw_rmk rfl) rfl ?_
  refine g_X3_90 C hk_v4 rfl dX3_missing_11 ?_
  refine gj_aload_n C 0 dX3_missing_14 rfl ?_
  refine g_X3_132 C hk_v2 rfl dX3_missing_15 ?_
  refine gj_iconst (v := -1) C dX3_missing_18 (by decide) ?_
  refine gj_ixor C dX3_missing_19 ?_
  refine gj_iand C dX3_missing_20 ?_
  replace hf := gw_bnd hf
  obtain ⟨r5, hr5, hf⟩ := hf
  refine gj_cSi (As := [.int ((τ v4 7) &&& ((τ v2 4) ^^^ (-1 : Int32)))]) (rest := []) C cb_X3_103 (s_J6_bitCount_0f7a4 (gw_l K) Γ τ μ o ((τ v4 7) &&& ((τ v2 4) ^^^ (-1 : Int32))) r5 hr5) rfl (Nat.le_of_ble_eq_true rfl) dX3_missing_21 (gw_rmk rfl) rfl ?_
  cases hf
  exact gj_iret C E dX3_missing_24 (Nat.le_of_ble_eq_true rfl) (Nat.le_of_ble_eq_true rfl)
set_option maxRecDepth 100000 in
set_option maxHeartbeats 4000000 in
theorem s_X3_obstacle (l : Launch) (Γ : gw_G) (τ μ : gw_S) (o : Nat → Int64) (a1 : Int32) (a2 : Int32) (r : (Int32 ⊕ String)) (hf : f_X3_obstacle τ a1 a2 = some r) : gw_MX l yX3_obstacle [.code yX3_obstacle cX3_obstacle 4 (some .int)] gr_X3_obstacle 2 12 Γ [.ref (gw_a Γ 0), .int a1, .int a2] (gw_W Γ τ μ o) (gw_qI Γ r (gw_W Γ τ μ o)) (gw_x Γ r (gw_W Γ τ μ o)) := by
  refine gw_enterX (by decide) (Nat.le_of_ble_eq_true rfl) (fun K C E => ?_)
  unfold f_X3_obstacle at hf
  refine gj_aload_n C 0 dX3_obstacle_0 rfl ?_
  refine gj_iload_n C 1 dX3_obstacle_1 rfl ?_
  replace hf := gw_bnd hf
  obtain ⟨r1, hr1, hf⟩ := hf
  refine gj_cVR (As := [.int a1]) (rest := []) C cb_X3_128 (s_X3_studentAt (gw_l K) Γ τ μ o a1 r1 hr1) rfl (Nat.le_of_ble_eq_true rfl) gw_atM rfl rfl dX3_obstacle_2 (gw_rmk rfl) rfl (fun e he => ?_) (fun v2 he => ?_)
  · replace hf := gw_xr hf he
    cases hf
    exact gj_out C rfl E (Nat.le_of_ble_eq_true rfl) (Nat.le_of_ble_eq_true rfl)
  · replace hf := gw_xl hf he
    subst he
    have hk_v2 := k_studentAt hr1
    refine gj_astore_n C 3 [(3, .ref (gw_a Γ v2)), (0, .ref (gw_a Γ 0)), (1, .int a1), (2, .int a2)] dX3_obstacle_5 rfl (by decide) rfl ?_
    refine gj_aload_n C 1 dX3_obstacle_6 rfl ?_
    refine gj_aload_n C 0 dX3_obstacle_7 rfl ?_
    refine gj_aload_n C 1 dX3_obstacle_8 rfl ?_
    refine gj_iload_n C 3 dX3_obstacle_9 rfl ?_
    replace hf := gw_bnd hf
    obtain ⟨r3, hr3, hf⟩ := hf
    refine gj_cVR (As := [.int a2]) (rest := [.ref (gw_a Γ v2), .ref (gw_a Γ 0)]) C cb_X3_68 (s_X3_courseAt (gw_l K) Γ τ μ o a2 r3 hr3) rfl (Nat.le_of_ble_eq_true rfl) gw_atM rfl rfl dX3_obstacle_10 (gw_rmk rfl) rfl (fun e he => ?_) (fun v4 he => ?_)
    · replace hf := gw_xr hf he
      cases hf
      exact gj_out C rfl E (Nat.le_of_ble_eq_true rfl) (Nat.le_of_ble_eq_true rfl)
    · replace hf := gw_xl hf he
      subst he
      have hk_v4 := k_courseAt hr3
      refine gj_aload_n C 0 dX3_obstacle_13 rfl ?_
      refine g_X3_135 C hk_v2 rfl dX3_obstacle_14 ?_
      replace hf := gw_bnd hf
      obtain ⟨r5, hr5, hf⟩ := hf
      refine gj_cVi (As := [.ref (gw_a Γ v2), .ref (gw_a Γ v4), .int (τ v2 5)]) (rest := []) C cb_X3_155 (s_X3_obstacleFor (gw_l K) Γ τ μ o v2 v4 (τ v2 5) hk_v2 hk_v4 r5 hr5) rfl (Nat.le_of_ble_eq_true rfl) gw_atM rfl rfl dX3_obstacle_17 (gw_rmk rfl) rfl ?_
      cases hf
      exact gj_iretX C rfl E dX3_obstacle_20 (Nat.le_of_ble_eq_true rfl) (Nat.le_of_ble_eq_true rfl)
set_option maxRecDepth 100000 in
set_option maxHeartbeats 4000000 in
theorem sr_X3_obstacle (l : Launch) (Γ : gw_G) (τ μ : gw_S) (o : Nat → Int64) (a1 : Int32) (a2 : Int32) (k : Int32) (hf : f_X3_obstacle τ a1 a2 = some (.inl k)) : gw_M l yX3_obstacle [.code yX3_obstacle cX3_obstacle 4 (some .int)] gr_X3_obstacler 0 0 Γ [.ref (gw_a Γ 0), .int a1, .int a2] (gw_W Γ τ μ o) (gw_qi Γ k (gw_W Γ τ μ o)) := by
  refine gw_enter (by decide) (Nat.le_of_ble_eq_true rfl) (fun K C E => ?_)
  unfold f_X3_obstacle at hf
  refine gj_aload_n C 0 dX3_obstacle_0 rfl ?_
  refine gj_iload_n C 1 dX3_obstacle_1 rfl ?_
  replace hf := gw_bnd hf
  obtain ⟨r1, hr1, hf⟩ := hf
  replace hf := gw_xm hf
  obtain ⟨v2, he, hf⟩ := hf
  subst he
  have hk_v2 := k_studentAt hr1
  refine gj_cVr (As := [.int a1]) (rest := []) C cb_X3_128 (sr_X3_studentAt (gw_l K) Γ τ μ o a1 v2 hr1) rfl (Nat.le_of_ble_eq_true rfl) gw_atM rfl rfl dX3_obstacle_2 (gw_rmk rfl) rfl ?_
  refine gj_astore_n C 3 [(3, .ref (gw_a Γ v2)), (0, .ref (gw_a Γ 0)), (1, .int a1), (2, .int a2)] dX3_obstacle_5 rfl (by decide) rfl ?_
  refine gj_aload_n C 1 dX3_obstacle_6 rfl ?_
  refine gj_aload_n C 0 dX3_obstacle_7 rfl ?_
  refine gj_aload_n C 1 dX3_obstacle_8 rfl ?_
  refine gj_iload_n C 3 dX3_obstacle_9 rfl ?_
  replace hf := gw_bnd hf
  obtain ⟨r3, hr3, hf⟩ := hf
  replace hf := gw_xm hf
  obtain ⟨v4, he, hf⟩ := hf
  subst he
  have hk_v4 := k_courseAt hr3
  refine gj_cVr (As := [.int a2]) (rest := [.ref (gw_a Γ v2), .ref (gw_a Γ 0)]) C cb_X3_68 (sr_X3_courseAt (gw_l K) Γ τ μ o a2 v4 hr3) rfl (Nat.le_of_ble_eq_true rfl) gw_atM rfl rfl dX3_obstacle_10 (gw_rmk rfl) rfl ?_
  refine gj_aload_n C 0 dX3_obstacle_13 rfl ?_
  refine g_X3_135 C hk_v2 rfl dX3_obstacle_14 ?_
  replace hf := gw_bnd hf
  obtain ⟨r5, hr5, hf⟩ := hf
  refine gj_cVi (As := [.ref (gw_a Γ v2), .ref (gw_a Γ v4), .int (τ v2 5)]) (rest := []) C cb_X3_155 (s_X3_obstacleFor (gw_l K) Γ τ μ o v2 v4 (τ v2 5) hk_v2 hk_v4 r5 hr5) rfl (Nat.le_of_ble_eq_true rfl) gw_atM rfl rfl dX3_obstacle_17 (gw_rmk rfl) rfl ?_
  cases hf
  exact gj_iret C E dX3_obstacle_20 (Nat.le_of_ble_eq_true rfl) (Nat.le_of_ble_eq_true rfl)
set_option maxRecDepth 100000 in
set_option maxHeartbeats 4000000 in
theorem s_X1_add (l : Launch) (Γ : gw_G) (τ μ : gw_S) (o : Nat → Int64) (a0 : Nat) (a1 : Int32) (ha0 : gw_kR a0) (r : gw_S) (hf : f_X1_add τ a0 a1 = some r) : gw_M l yX1_add [.code yX1_add cX1_add 2 none] gr_X1_add 0 0 Γ [.ref (gw_a Γ a0), .int a1] (gw_W Γ τ μ o) (gw_qv Γ (gw_W Γ r μ o)) := by
  refine gw_enter (by decide) (Nat.le_of_ble_eq_true rfl) (fun K C E => ?_)
  unfold f_X1_add at hf
  refine gj_aload_n C 0 dX1_add_0 rfl ?_
  refine g_X1_15 C ha0 rfl dX1_add_1 ?_
  refine gj_aload_n C 0 dX1_add_4 rfl ?_
  refine g_X1_9 C ha0 dX1_add_5 ?_
  refine gj_alen (v := Int32.ofNat (gw_len (a0 + 36))) C (gw_kRA ha0) rfl dX1_add_8 ?_
  refine gj_ic_ge C 32 dX1_add_9 (by decide) (fun c => ?_) (fun c => ?_)
  · replace hf := gw_ift hf c
    cases hf
    exact gj_vret C E dX1_add_32 (Nat.le_of_ble_eq_true rfl) (Nat.le_of_ble_eq_true rfl)
  · replace hf := gw_iff hf c
    refine gj_aload_n C 0 dX1_add_12 rfl ?_
    refine g_X1_9 C ha0 dX1_add_13 ?_
    refine gj_aload_n C 0 dX1_add_16 rfl ?_
    refine g_X1_15 C ha0 rfl dX1_add_17 ?_
    refine gj_iload_n C 1 dX1_add_20 rfl ?_
    obtain ⟨g1, hf⟩ := gw_ifs hf
    refine gj_ast C (gw_kRA ha0) (gw_ibv g1) dX1_add_21 ?_
    refine gj_aload_n C 0 dX1_add_22 rfl ?_
    refine gj_dup C dX1_add_23 rfl ?_
    refine g_X1_15 C ha0 (gw_up_n (by omega)) dX1_add_24 ?_
    refine gj_iconst (v := 1) C dX1_add_27 (by decide) ?_
    refine gj_iadd C dX1_add_28 ?_
    refine p_X1_15 C ha0 dX1_add_29 ?_
    cases hf
    exact gj_vret C E dX1_add_32 (Nat.le_of_ble_eq_true rfl) (Nat.le_of_ble_eq_true rfl)
set_option maxRecDepth 100000 in
set_option maxHeartbeats 4000000 in
theorem s_X3_wish (l : Launch) (Γ : gw_G) (τ μ : gw_S) (o : Nat → Int64) (a1 : Int32) (a2 : Int32) (r : (Int32 ⊕ String) × gw_S) (hf : f_X3_wish τ a1 a2 = some r) : gw_MX l yX3_wish [.code yX3_wish cX3_wish 5 (some .int)] gr_X3_wish 3 18 Γ [.ref (gw_a Γ 0), .int a1, .int a2] (gw_W Γ τ μ o) (gw_qI Γ r.1 (gw_W Γ r.2 μ o)) (gw_x Γ r.1 (gw_W Γ r.2 μ o)) := by
  refine gw_enterX (by decide) (Nat.le_of_ble_eq_true rfl) (fun K C E => ?_)
  unfold f_X3_wish at hf
  refine gj_aload_n C 0 dX3_wish_0 rfl ?_
  refine gj_iload_n C 1 dX3_wish_1 rfl ?_
  replace hf := gw_bnd hf
  obtain ⟨r1, hr1, hf⟩ := hf
  refine gj_cVR (As := [.int a1]) (rest := []) C cb_X3_128 (s_X3_studentAt (gw_l K) Γ τ μ o a1 r1 hr1) rfl (Nat.le_of_ble_eq_true rfl) gw_atM rfl rfl dX3_wish_2 (gw_rmk rfl) rfl (fun e he => ?_) (fun v2 he => ?_)
  · replace hf := gw_xr hf he
    cases hf
    exact gj_out C rfl E (Nat.le_of_ble_eq_true rfl) (Nat.le_of_ble_eq_true rfl)
  · replace hf := gw_xl hf he
    subst he
    have hk_v2 := k_studentAt hr1
    refine gj_astore_n C 3 [(3, .ref (gw_a Γ v2)), (0, .ref (gw_a Γ 0)), (1, .int a1), (2, .int a2)] dX3_wish_5 rfl (by decide) rfl ?_
    refine gj_aload_n C 1 dX3_wish_6 rfl ?_
    refine gj_iload_n C 3 dX3_wish_7 rfl ?_
    replace hf := gw_bnd hf
    obtain ⟨r3, hr3, hf⟩ := hf
    refine gj_cVR (As := [.int a2]) (rest := []) C cb_X3_68 (s_X3_courseAt (gw_l K) Γ τ μ o a2 r3 hr3) rfl (Nat.le_of_ble_eq_true rfl) gw_atM rfl rfl dX3_wish_8 (gw_rmk rfl) rfl (fun e he => ?_) (fun v4 he => ?_)
    · replace hf := gw_xr hf he
      cases hf
      exact gj_out C rfl E (Nat.le_of_ble_eq_true rfl) (Nat.le_of_ble_eq_true rfl)
    · replace hf := gw_xl hf he
      subst he
      have hk_v4 := k_courseAt hr3
      refine gj_astore C 4 [(4, .ref (gw_a Γ v4)), (3, .ref (gw_a Γ v2)), (0, .ref (gw_a Γ 0)), (1, .int a1), (2, .int a2)] dX3_wish_11 (by decide) rfl ?_
      refine gj_aload_n C 1 dX3_wish_13 rfl ?_
      refine g_X3_132 C hk_v2 rfl dX3_wish_14 ?_
      refine gj_aload C 0 dX3_wish_17 rfl ?_
      refine g_X3_65 C hk_v4 rfl dX3_wish_19 ?_
      replace hf := gw_bnd hf
      obtain ⟨r5, hr5, hf⟩ := hf
      refine gj_cSi (As := [.int (τ v2 4), .int (τ v4 0)]) (rest := []) C cb_X3_86 (s_X3_isIn (gw_l K) Γ τ μ o (τ v2 4) (τ v4 0) r5 hr5) rfl (Nat.le_of_ble_eq_true rfl) dX3_wish_22 (gw_rmk rfl) rfl ?_
      refine gj_if_ne C 43 dX3_wish_25 (by decide) (fun c => ?_) (fun c => ?_)
      · replace hf := gw_iff hf c
        cases hf
        exact gj_throw C rfl E (by decide) cl_51 ini_51 st_159 at_55 dX3_wish_43 dX3_wish_46 dX3_wish_47 dX3_wish_49 dX3_wish_52 ⟨(Nat.le_of_ble_eq_true rfl), (Nat.le_of_ble_eq_true rfl)⟩ ⟨(Nat.le_of_ble_eq_true rfl), (Nat.le_of_ble_eq_true rfl)⟩ (Nat.le_of_ble_eq_true rfl) (Nat.le_of_ble_eq_true rfl)
      · replace hf := gw_ift hf c
        refine gj_aload_n C 1 dX3_wish_28 rfl ?_
        refine g_X3_135 C hk_v2 rfl dX3_wish_29 ?_
        refine gj_aload C 0 dX3_wish_32 rfl ?_
        refine g_X3_65 C hk_v4 rfl dX3_wish_34 ?_
        replace hf := gw_bnd hf
        obtain ⟨r6, hr6, hf⟩ := hf
        refine gj_cSi (As := [.int (τ v2 5), .int (τ v4 0)]) (rest := []) C cb_X3_86 (s_X3_isIn (gw_l K) Γ τ μ o (τ v2 5) (τ v4 0) r6 hr6) rfl (Nat.le_of_ble_eq_true rfl) dX3_wish_37 (gw_rmk rfl) rfl ?_
        refine gj_if_eq C 53 dX3_wish_40 (by decide) (fun c => ?_) (fun c => ?_)
        · replace hf := gw_ift hf c
          refine gj_aload_n C 1 dX3_wish_53 rfl ?_
          refine g_X3_140 C hk_v2 dX3_wish_54 ?_
          refine gj_iload_n C 4 dX3_wish_57 rfl ?_
          replace hf := gw_bnd hf
          obtain ⟨r7, hr7, hf⟩ := hf
          refine gj_cVi (As := [.int a2]) (rest := []) C cb_X3_161 (s_X1_placeOf (gw_l K) Γ τ μ o (v2 + 36) a2 (gw_kSR hk_v2) r7 hr7) rfl (Nat.le_of_ble_eq_true rfl) (gw_atR (gw_kSR hk_v2)) rfl rfl dX3_wish_58 (gw_rmk rfl) rfl ?_
          refine gj_iconst (v := -1) C dX3_wish_61 (by decide) ?_
          refine gj_ic_ne C 77 dX3_wish_62 (by decide) (fun c => ?_) (fun c => ?_)
          · replace hf := gw_iff hf c
            cases hf
            exact gj_throw C rfl E (by decide) cl_51 ini_51 st_168 at_55 dX3_wish_77 dX3_wish_80 dX3_wish_81 dX3_wish_83 dX3_wish_86 ⟨(Nat.le_of_ble_eq_true rfl), (Nat.le_of_ble_eq_true rfl)⟩ ⟨(Nat.le_of_ble_eq_true rfl), (Nat.le_of_ble_eq_true rfl)⟩ (Nat.le_of_ble_eq_true rfl) (Nat.le_of_ble_eq_true rfl)
          · replace hf := gw_ift hf c
            refine gj_aload_n C 1 dX3_wish_65 rfl ?_
            refine g_X3_140 C hk_v2 dX3_wish_66 ?_
            replace hf := gw_bnd hf
            obtain ⟨r8, hr8, hf⟩ := hf
            refine gj_cVi (As := []) (rest := []) C cb_X3_164 (s_X1_size (gw_l K) Γ τ μ o (v2 + 36) (gw_kSR hk_v2) r8 hr8) rfl (Nat.le_of_ble_eq_true rfl) (gw_atR (gw_kSR hk_v2)) rfl rfl dX3_wish_69 (gw_rmk rfl) rfl ?_
            refine gj_bipush (v := 6) C dX3_wish_72 (by decide) ?_
            refine gj_ic_lt C 87 dX3_wish_74 (by decide) (fun c => ?_) (fun c => ?_)
            · replace hf := gw_ift hf c
              refine gj_aload_n C 1 dX3_wish_87 rfl ?_
              refine g_X3_140 C hk_v2 dX3_wish_88 ?_
              refine gj_iload_n C 4 dX3_wish_91 rfl ?_
              replace hf := gw_bnd hf
              obtain ⟨r9, hr9, hf⟩ := hf
              refine gj_cVv (As := [.int a2]) (rest := []) C cb_X3_170 (s_X1_add (gw_l K) Γ τ μ o (v2 + 36) a2 (gw_kSR hk_v2) r9 hr9) rfl (Nat.le_of_ble_eq_true rfl) (gw_atR (gw_kSR hk_v2)) rfl rfl dX3_wish_92 (gw_rmk rfl) rfl ?_
              refine gj_aload_n C 1 dX3_wish_95 rfl ?_
              refine g_X3_140 C hk_v2 dX3_wish_96 ?_
              replace hf := gw_bnd hf
              obtain ⟨r10, hr10, hf⟩ := hf
              refine gj_cVi (As := []) (rest := []) C cb_X3_164 (s_X1_size (gw_l K) Γ r9 μ o (v2 + 36) (gw_kSR hk_v2) r10 hr10) rfl (Nat.le_of_ble_eq_true rfl) (gw_atR (gw_kSR hk_v2)) rfl rfl dX3_wish_99 (gw_rmk rfl) rfl ?_
              refine gj_iconst (v := 1) C dX3_wish_102 (by decide) ?_
              refine gj_isub C dX3_wish_103 ?_
              cases hf
              exact gj_iretX C rfl E dX3_wish_104 (Nat.le_of_ble_eq_true rfl) (Nat.le_of_ble_eq_true rfl)
            · replace hf := gw_iff hf c
              cases hf
              exact gj_throw C rfl E (by decide) cl_51 ini_51 st_168 at_55 dX3_wish_77 dX3_wish_80 dX3_wish_81 dX3_wish_83 dX3_wish_86 ⟨(Nat.le_of_ble_eq_true rfl), (Nat.le_of_ble_eq_true rfl)⟩ ⟨(Nat.le_of_ble_eq_true rfl), (Nat.le_of_ble_eq_true rfl)⟩ (Nat.le_of_ble_eq_true rfl) (Nat.le_of_ble_eq_true rfl)
        · replace hf := gw_iff hf c
          cases hf
          exact gj_throw C rfl E (by decide) cl_51 ini_51 st_159 at_55 dX3_wish_43 dX3_wish_46 dX3_wish_47 dX3_wish_49 dX3_wish_52 ⟨(Nat.le_of_ble_eq_true rfl), (Nat.le_of_ble_eq_true rfl)⟩ ⟨(Nat.le_of_ble_eq_true rfl), (Nat.le_of_ble_eq_true rfl)⟩ (Nat.le_of_ble_eq_true rfl) (Nat.le_of_ble_eq_true rfl)
set_option maxRecDepth 100000 in
set_option maxHeartbeats 4000000 in
theorem s_X3_dropWish (l : Launch) (Γ : gw_G) (τ μ : gw_S) (o : Nat → Int64) (a1 : Int32) (a2 : Int32) (r : (Int32 ⊕ String) × gw_S) (hf : f_X3_dropWish τ a1 a2 = some r) : gw_MX l yX3_dropWish [.code yX3_dropWish cX3_dropWish 5 (some .int)] gr_X3_dropWish 3 18 Γ [.ref (gw_a Γ 0), .int a1, .int a2] (gw_W Γ τ μ o) (gw_qI Γ r.1 (gw_W Γ r.2 μ o)) (gw_x Γ r.1 (gw_W Γ r.2 μ o)) := by
  refine gw_enterX (by decide) (Nat.le_of_ble_eq_true rfl) (fun K C E => ?_)
  unfold f_X3_dropWish at hf
  refine gj_aload_n C 0 dX3_dropWish_0 rfl ?_
  refine gj_iload_n C 1 dX3_dropWish_1 rfl ?_
  replace hf := gw_bnd hf
  obtain ⟨r1, hr1, hf⟩ := hf
  refine gj_cVR (As := [.int a1]) (rest := []) C cb_X3_128 (s_X3_studentAt (gw_l K) Γ τ μ o a1 r1 hr1) rfl (Nat.le_of_ble_eq_true rfl) gw_atM rfl rfl dX3_dropWish_2 (gw_rmk rfl) rfl (fun e he => ?_) (fun v2 he => ?_)
  · replace hf := gw_xr hf he
    cases hf
    exact gj_out C rfl E (Nat.le_of_ble_eq_true rfl) (Nat.le_of_ble_eq_true rfl)
  · replace hf := gw_xl hf he
    subst he
    have hk_v2 := k_studentAt hr1
    refine gj_astore_n C 3 [(3, .ref (gw_a Γ v2)), (0, .ref (gw_a Γ 0)), (1, .int a1), (2, .int a2)] dX3_dropWish_5 rfl (by decide) rfl ?_
    refine gj_aload_n C 1 dX3_dropWish_6 rfl ?_
    refine gj_iload_n C 3 dX3_dropWish_7 rfl ?_
    replace hf := gw_bnd hf
    obtain ⟨r3, hr3, hf⟩ := hf
    refine gj_cVR (As := [.int a2]) (rest := []) C cb_X3_68 (s_X3_courseAt (gw_l K) Γ τ μ o a2 r3 hr3) rfl (Nat.le_of_ble_eq_true rfl) gw_atM rfl rfl dX3_dropWish_8 (gw_rmk rfl) rfl (fun e he => ?_) (fun v4 he => ?_)
    · replace hf := gw_xr hf he
      cases hf
      exact gj_out C rfl E (Nat.le_of_ble_eq_true rfl) (Nat.le_of_ble_eq_true rfl)
    · replace hf := gw_xl hf he
      subst he
      have hk_v4 := k_courseAt hr3
      refine gj_astore C 4 [(4, .ref (gw_a Γ v4)), (3, .ref (gw_a Γ v2)), (0, .ref (gw_a Γ 0)), (1, .int a1), (2, .int a2)] dX3_dropWish_11 (by decide) rfl ?_
      refine gj_aload_n C 1 dX3_dropWish_13 rfl ?_
      refine g_X3_140 C hk_v2 dX3_dropWish_14 ?_
      refine gj_aload C 0 dX3_dropWish_17 rfl ?_
      refine g_X3_65 C hk_v4 rfl dX3_dropWish_19 ?_
      replace hf := gw_bnd hf
      obtain ⟨r5, hr5, hf⟩ := hf
      refine gj_cVi (As := [.int (τ v4 0)]) (rest := []) C cb_X3_161 (s_X1_placeOf (gw_l K) Γ τ μ o (v2 + 36) (τ v4 0) (gw_kSR hk_v2) r5 hr5) rfl (Nat.le_of_ble_eq_true rfl) (gw_atR (gw_kSR hk_v2)) rfl rfl dX3_dropWish_22 (gw_rmk rfl) rfl ?_
      refine gj_iconst (v := -1) C dX3_dropWish_25 (by decide) ?_
      refine gj_ic_ne C 39 dX3_dropWish_26 (by decide) (fun c => ?_) (fun c => ?_)
      · replace hf := gw_iff hf c
        refine gj_aload_n C 1 dX3_dropWish_39 rfl ?_
        refine g_X3_140 C hk_v2 dX3_dropWish_40 ?_
        refine gj_iload_n C 4 dX3_dropWish_43 rfl ?_
        replace hf := gw_bnd hf
        obtain ⟨r6, hr6, hf⟩ := hf
        refine gj_cVv (As := [.int a2]) (rest := []) C cb_X3_144 (s_X1_remove (gw_l K) Γ τ μ o (v2 + 36) a2 (gw_kSR hk_v2) r6 hr6) rfl (Nat.le_of_ble_eq_true rfl) (gw_atR (gw_kSR hk_v2)) rfl rfl dX3_dropWish_44 (gw_rmk rfl) rfl ?_
        refine gj_aload_n C 1 dX3_dropWish_47 rfl ?_
        refine g_X3_140 C hk_v2 dX3_dropWish_48 ?_
        replace hf := gw_bnd hf
        obtain ⟨r7, hr7, hf⟩ := hf
        refine gj_cVi (As := []) (rest := []) C cb_X3_164 (s_X1_size (gw_l K) Γ r6 μ o (v2 + 36) (gw_kSR hk_v2) r7 hr7) rfl (Nat.le_of_ble_eq_true rfl) (gw_atR (gw_kSR hk_v2)) rfl rfl dX3_dropWish_51 (gw_rmk rfl) rfl ?_
        cases hf
        exact gj_iretX C rfl E dX3_dropWish_54 (Nat.le_of_ble_eq_true rfl) (Nat.le_of_ble_eq_true rfl)
      · replace hf := gw_ift hf c
        cases hf
        exact gj_throw C rfl E (by decide) cl_51 ini_51 st_173 at_55 dX3_dropWish_29 dX3_dropWish_32 dX3_dropWish_33 dX3_dropWish_35 dX3_dropWish_38 ⟨(Nat.le_of_ble_eq_true rfl), (Nat.le_of_ble_eq_true rfl)⟩ ⟨(Nat.le_of_ble_eq_true rfl), (Nat.le_of_ble_eq_true rfl)⟩ (Nat.le_of_ble_eq_true rfl) (Nat.le_of_ble_eq_true rfl)
set_option maxRecDepth 100000 in
set_option maxHeartbeats 4000000 in
theorem s_X3_wishes (l : Launch) (Γ : gw_G) (τ μ : gw_S) (o : Nat → Int64) (a1 : Int32) (r : (Int32 ⊕ String)) (hf : f_X3_wishes τ a1 = some r) : gw_MX l yX3_wishes [.code yX3_wishes cX3_wishes 2 (some .int)] gr_X3_wishes 1 6 Γ [.ref (gw_a Γ 0), .int a1] (gw_W Γ τ μ o) (gw_qI Γ r (gw_W Γ τ μ o)) (gw_x Γ r (gw_W Γ τ μ o)) := by
  refine gw_enterX (by decide) (Nat.le_of_ble_eq_true rfl) (fun K C E => ?_)
  unfold f_X3_wishes at hf
  refine gj_aload_n C 0 dX3_wishes_0 rfl ?_
  refine gj_iload_n C 1 dX3_wishes_1 rfl ?_
  replace hf := gw_bnd hf
  obtain ⟨r1, hr1, hf⟩ := hf
  refine gj_cVR (As := [.int a1]) (rest := []) C cb_X3_128 (s_X3_studentAt (gw_l K) Γ τ μ o a1 r1 hr1) rfl (Nat.le_of_ble_eq_true rfl) gw_atM rfl rfl dX3_wishes_2 (gw_rmk rfl) rfl (fun e he => ?_) (fun v2 he => ?_)
  · replace hf := gw_xr hf he
    cases hf
    exact gj_out C rfl E (Nat.le_of_ble_eq_true rfl) (Nat.le_of_ble_eq_true rfl)
  · replace hf := gw_xl hf he
    subst he
    have hk_v2 := k_studentAt hr1
    refine g_X3_140 C hk_v2 dX3_wishes_5 ?_
    replace hf := gw_bnd hf
    obtain ⟨r3, hr3, hf⟩ := hf
    refine gj_cVi (As := []) (rest := []) C cb_X3_164 (s_X1_size (gw_l K) Γ τ μ o (v2 + 36) (gw_kSR hk_v2) r3 hr3) rfl (Nat.le_of_ble_eq_true rfl) (gw_atR (gw_kSR hk_v2)) rfl rfl dX3_wishes_8 (gw_rmk rfl) rfl ?_
    cases hf
    exact gj_iretX C rfl E dX3_wishes_11 (Nat.le_of_ble_eq_true rfl) (Nat.le_of_ble_eq_true rfl)
set_option maxRecDepth 100000 in
set_option maxHeartbeats 4000000 in
theorem sr_X3_wishes (l : Launch) (Γ : gw_G) (τ μ : gw_S) (o : Nat → Int64) (a1 : Int32) (k : Int32) (hf : f_X3_wishes τ a1 = some (.inl k)) : gw_M l yX3_wishes [.code yX3_wishes cX3_wishes 2 (some .int)] gr_X3_wishesr 0 0 Γ [.ref (gw_a Γ 0), .int a1] (gw_W Γ τ μ o) (gw_qi Γ k (gw_W Γ τ μ o)) := by
  refine gw_enter (by decide) (Nat.le_of_ble_eq_true rfl) (fun K C E => ?_)
  unfold f_X3_wishes at hf
  refine gj_aload_n C 0 dX3_wishes_0 rfl ?_
  refine gj_iload_n C 1 dX3_wishes_1 rfl ?_
  replace hf := gw_bnd hf
  obtain ⟨r1, hr1, hf⟩ := hf
  replace hf := gw_xm hf
  obtain ⟨v2, he, hf⟩ := hf
  subst he
  have hk_v2 := k_studentAt hr1
  refine gj_cVr (As := [.int a1]) (rest := []) C cb_X3_128 (sr_X3_studentAt (gw_l K) Γ τ μ o a1 v2 hr1) rfl (Nat.le_of_ble_eq_true rfl) gw_atM rfl rfl dX3_wishes_2 (gw_rmk rfl) rfl ?_
  refine g_X3_140 C hk_v2 dX3_wishes_5 ?_
  replace hf := gw_bnd hf
  obtain ⟨r3, hr3, hf⟩ := hf
  refine gj_cVi (As := []) (rest := []) C cb_X3_164 (s_X1_size (gw_l K) Γ τ μ o (v2 + 36) (gw_kSR hk_v2) r3 hr3) rfl (Nat.le_of_ble_eq_true rfl) (gw_atR (gw_kSR hk_v2)) rfl rfl dX3_wishes_8 (gw_rmk rfl) rfl ?_
  cases hf
  exact gj_iret C E dX3_wishes_11 (Nat.le_of_ble_eq_true rfl) (Nat.le_of_ble_eq_true rfl)
set_option maxRecDepth 100000 in
set_option maxHeartbeats 4000000 in
theorem s_X3_foundAt (l : Launch) (Γ : gw_G) (τ μ : gw_S) (o : Nat → Int64) (a0 : Nat) (a1 : Int32) (ha0 : gw_kR a0) (r : (Int32 ⊕ String)) (hf : f_X3_foundAt τ a0 a1 = some r) : gw_MX l yX3_foundAt [.code yX3_foundAt cX3_foundAt 3 (some .int)] gr_X3_foundAt 1 6 Γ [.ref (gw_a Γ a0), .int a1] (gw_W Γ τ μ o) (gw_qI Γ r (gw_W Γ τ μ o)) (gw_x Γ r (gw_W Γ τ μ o)) := by
  refine gw_enterX (by decide) (Nat.le_of_ble_eq_true rfl) (fun K C E => ?_)
  unfold f_X3_foundAt at hf
  refine gj_aload_n C 0 dX3_foundAt_0 rfl ?_
  refine gj_iload_n C 1 dX3_foundAt_1 rfl ?_
  replace hf := gw_bnd hf
  obtain ⟨r1, hr1, hf⟩ := hf
  refine gj_cVi (As := [.int a1]) (rest := []) C cb_X3_259 (s_X1_at (gw_l K) Γ τ μ o a0 a1 ha0 r1 hr1) rfl (Nat.le_of_ble_eq_true rfl) (gw_atR ha0) rfl rfl dX3_foundAt_2 (gw_rmk rfl) rfl ?_
  refine gj_istore_n C 2 [(2, .int r1), (0, .ref (gw_a Γ a0)), (1, .int a1)] dX3_foundAt_5 rfl (by decide) rfl ?_
  refine gj_iload_n C 0 dX3_foundAt_6 rfl ?_
  refine gj_iconst (v := -1) C dX3_foundAt_7 (by decide) ?_
  refine gj_ic_ne C 22 dX3_foundAt_8 (by decide) (fun c => ?_) (fun c => ?_)
  · replace hf := gw_iff hf c
    refine gj_iload_n C 0 dX3_foundAt_22 rfl ?_
    cases hf
    exact gj_iretX C rfl E dX3_foundAt_23 (Nat.le_of_ble_eq_true rfl) (Nat.le_of_ble_eq_true rfl)
  · replace hf := gw_ift hf c
    cases hf
    exact gj_throwW C rfl E (by decide) cl_252 ini_252 st_262 at_256 dX3_foundAt_11 dX3_foundAt_14 dX3_foundAt_15 dX3_foundAt_18 dX3_foundAt_21 ⟨(Nat.le_of_ble_eq_true rfl), (Nat.le_of_ble_eq_true rfl)⟩ ⟨(Nat.le_of_ble_eq_true rfl), (Nat.le_of_ble_eq_true rfl)⟩ (Nat.le_of_ble_eq_true rfl) (Nat.le_of_ble_eq_true rfl)
set_option maxRecDepth 100000 in
set_option maxHeartbeats 4000000 in
theorem sr_X3_foundAt (l : Launch) (Γ : gw_G) (τ μ : gw_S) (o : Nat → Int64) (a0 : Nat) (a1 : Int32) (ha0 : gw_kR a0) (k : Int32) (hf : f_X3_foundAt τ a0 a1 = some (.inl k)) : gw_M l yX3_foundAt [.code yX3_foundAt cX3_foundAt 3 (some .int)] gr_X3_foundAtr 0 0 Γ [.ref (gw_a Γ a0), .int a1] (gw_W Γ τ μ o) (gw_qi Γ k (gw_W Γ τ μ o)) := by
  refine gw_enter (by decide) (Nat.le_of_ble_eq_true rfl) (fun K C E => ?_)
  unfold f_X3_foundAt at hf
  refine gj_aload_n C 0 dX3_foundAt_0 rfl ?_
  refine gj_iload_n C 1 dX3_foundAt_1 rfl ?_
  replace hf := gw_bnd hf
  obtain ⟨r1, hr1, hf⟩ := hf
  refine gj_cVi (As := [.int a1]) (rest := []) C cb_X3_259 (s_X1_at (gw_l K) Γ τ μ o a0 a1 ha0 r1 hr1) rfl (Nat.le_of_ble_eq_true rfl) (gw_atR ha0) rfl rfl dX3_foundAt_2 (gw_rmk rfl) rfl ?_
  refine gj_istore_n C 2 [(2, .int r1), (0, .ref (gw_a Γ a0)), (1, .int a1)] dX3_foundAt_5 rfl (by decide) rfl ?_
  refine gj_iload_n C 0 dX3_foundAt_6 rfl ?_
  refine gj_iconst (v := -1) C dX3_foundAt_7 (by decide) ?_
  refine gj_ic_ne C 22 dX3_foundAt_8 (by decide) (fun c => ?_) (fun c => ?_)
  · replace hf := gw_iff hf c
    refine gj_iload_n C 0 dX3_foundAt_22 rfl ?_
    cases hf
    exact gj_iret C E dX3_foundAt_23 (Nat.le_of_ble_eq_true rfl) (Nat.le_of_ble_eq_true rfl)
  · replace hf := gw_ift hf c
    cases hf
set_option maxRecDepth 100000 in
set_option maxHeartbeats 4000000 in
theorem s_X3_wishAt (l : Launch) (Γ : gw_G) (τ μ : gw_S) (o : Nat → Int64) (a1 : Int32) (a2 : Int32) (r : (Int32 ⊕ String)) (hf : f_X3_wishAt τ a1 a2 = some r) : gw_MX l yX3_wishAt [.code yX3_wishAt cX3_wishAt 3 (some .int)] gr_X3_wishAt 2 12 Γ [.ref (gw_a Γ 0), .int a1, .int a2] (gw_W Γ τ μ o) (gw_qI Γ r (gw_W Γ τ μ o)) (gw_x Γ r (gw_W Γ τ μ o)) := by
  refine gw_enterX (by decide) (Nat.le_of_ble_eq_true rfl) (fun K C E => ?_)
  unfold f_X3_wishAt at hf
  refine gj_aload_n C 0 dX3_wishAt_0 rfl ?_
  refine gj_iload_n C 1 dX3_wishAt_1 rfl ?_
  replace hf := gw_bnd hf
  obtain ⟨r1, hr1, hf⟩ := hf
  refine gj_cVR (As := [.int a1]) (rest := []) C cb_X3_128 (s_X3_studentAt (gw_l K) Γ τ μ o a1 r1 hr1) rfl (Nat.le_of_ble_eq_true rfl) gw_atM rfl rfl dX3_wishAt_2 (gw_rmk rfl) rfl (fun e he => ?_) (fun v2 he => ?_)
  · replace hf := gw_xr hf he
    cases hf
    exact gj_out C rfl E (Nat.le_of_ble_eq_true rfl) (Nat.le_of_ble_eq_true rfl)
  · replace hf := gw_xl hf he
    subst he
    have hk_v2 := k_studentAt hr1
    refine g_X3_140 C hk_v2 dX3_wishAt_5 ?_
    refine gj_iload_n C 2 dX3_wishAt_8 rfl ?_
    replace hf := gw_bnd hf
    obtain ⟨r3, hr3, hf⟩ := hf
    refine gj_cSI (As := [.ref (gw_a Γ (v2 + 36)), .int a2]) (rest := []) C cb_X3_175 (s_X3_foundAt (gw_l K) Γ τ μ o (v2 + 36) a2 (gw_kSR hk_v2) r3 hr3) rfl (Nat.le_of_ble_eq_true rfl) dX3_wishAt_9 (gw_rmk rfl) rfl (fun e he => ?_) (fun v4 he => ?_)
    · replace hf := gw_xr hf he
      cases hf
      exact gj_out C rfl E (Nat.le_of_ble_eq_true rfl) (Nat.le_of_ble_eq_true rfl)
    · replace hf := gw_xl hf he
      subst he
      cases hf
      exact gj_iretX C rfl E dX3_wishAt_12 (Nat.le_of_ble_eq_true rfl) (Nat.le_of_ble_eq_true rfl)
set_option maxRecDepth 100000 in
set_option maxHeartbeats 4000000 in
theorem sr_X3_wishAt (l : Launch) (Γ : gw_G) (τ μ : gw_S) (o : Nat → Int64) (a1 : Int32) (a2 : Int32) (k : Int32) (hf : f_X3_wishAt τ a1 a2 = some (.inl k)) : gw_M l yX3_wishAt [.code yX3_wishAt cX3_wishAt 3 (some .int)] gr_X3_wishAtr 0 0 Γ [.ref (gw_a Γ 0), .int a1, .int a2] (gw_W Γ τ μ o) (gw_qi Γ k (gw_W Γ τ μ o)) := by
  refine gw_enter (by decide) (Nat.le_of_ble_eq_true rfl) (fun K C E => ?_)
  unfold f_X3_wishAt at hf
  refine gj_aload_n C 0 dX3_wishAt_0 rfl ?_
  refine gj_iload_n C 1 dX3_wishAt_1 rfl ?_
  replace hf := gw_bnd hf
  obtain ⟨r1, hr1, hf⟩ := hf
  replace hf := gw_xm hf
  obtain ⟨v2, he, hf⟩ := hf
  subst he
  have hk_v2 := k_studentAt hr1
  refine gj_cVr (As := [.int a1]) (rest := []) C cb_X3_128 (sr_X3_studentAt (gw_l K) Γ τ μ o a1 v2 hr1) rfl (Nat.le_of_ble_eq_true rfl) gw_atM rfl rfl dX3_wishAt_2 (gw_rmk rfl) rfl ?_
  refine g_X3_140 C hk_v2 dX3_wishAt_5 ?_
  refine gj_iload_n C 2 dX3_wishAt_8 rfl ?_
  replace hf := gw_bnd hf
  obtain ⟨r3, hr3, hf⟩ := hf
  replace hf := gw_xm hf
  obtain ⟨v4, he, hf⟩ := hf
  subst he
  refine gj_cSi (As := [.ref (gw_a Γ (v2 + 36)), .int a2]) (rest := []) C cb_X3_175 (sr_X3_foundAt (gw_l K) Γ τ μ o (v2 + 36) a2 (gw_kSR hk_v2) v4 hr3) rfl (Nat.le_of_ble_eq_true rfl) dX3_wishAt_9 (gw_rmk rfl) rfl ?_
  cases hf
  exact gj_iret C E dX3_wishAt_12 (Nat.le_of_ble_eq_true rfl) (Nat.le_of_ble_eq_true rfl)
set_option maxRecDepth 100000 in
set_option maxHeartbeats 4000000 in
theorem s_X3_enrol (l : Launch) (Γ : gw_G) (τ μ : gw_S) (o : Nat → Int64) (a1 : Nat) (a2 : Nat) (ha1 : gw_kS a1) (ha2 : gw_kC a2) (r : gw_S) (hf : f_X3_enrol τ a1 a2 = some r) : gw_M l yX3_enrol [.code yX3_enrol cX3_enrol 3 none] gr_X3_enrol 0 0 Γ [.ref (gw_a Γ 0), .ref (gw_a Γ a1), .ref (gw_a Γ a2)] (gw_W Γ τ μ o) (gw_qv Γ (gw_W Γ r μ o)) := by
  refine gw_enter (by decide) (Nat.le_of_ble_eq_true rfl) (fun K C E => ?_)
  unfold f_X3_enrol at hf
  refine gj_aload_n C 1 dX3_enrol_0 rfl ?_
  refine gj_dup C dX3_enrol_1 rfl ?_
  refine g_X3_135 C ha1 rfl dX3_enrol_2 ?_
  refine gj_aload_n C 2 dX3_enrol_5 rfl ?_
  refine g_X3_65 C ha2 rfl dX3_enrol_6 ?_
  replace hf := gw_bnd hf
  obtain ⟨r1, hr1, hf⟩ := hf
  refine gj_cSi (As := [.int (τ a2 0)]) (rest := [.int (τ a1 5), .ref (gw_a Γ a1)]) C cb_X3_95 (s_X3_bit (gw_l K) Γ τ μ o (τ a2 0) r1 hr1) rfl (Nat.le_of_ble_eq_true rfl) dX3_enrol_9 (gw_rmk rfl) rfl ?_
  refine gj_ior C dX3_enrol_12 ?_
  refine p_X3_135 C ha1 dX3_enrol_13 ?_
  refine gj_aload_n C 1 dX3_enrol_16 rfl ?_
  refine g_X3_140 C ha1 dX3_enrol_17 ?_
  refine gj_aload_n C 2 dX3_enrol_20 rfl ?_
  refine g_X3_65 C ha2 rfl dX3_enrol_21 ?_
  replace hf := gw_bnd hf
  obtain ⟨r2, hr2, hf⟩ := hf
  refine gj_cVv (As := [.int ((gw_up τ a1 5 ((τ a1 5) ||| r1)) a2 0)]) (rest := []) C cb_X3_144 (s_X1_remove (gw_l K) Γ (gw_up τ a1 5 ((τ a1 5) ||| r1)) μ o (a1 + 36) ((gw_up τ a1 5 ((τ a1 5) ||| r1)) a2 0) (gw_kSR ha1) r2 hr2) rfl (Nat.le_of_ble_eq_true rfl) (gw_atR (gw_kSR ha1)) rfl rfl dX3_enrol_24 (gw_rmk rfl) rfl ?_
  refine gj_aload_n C 2 dX3_enrol_27 rfl ?_
  refine gj_aload_n C 1 dX3_enrol_28 rfl ?_
  refine g_X3_127 C ha1 rfl dX3_enrol_29 ?_
  replace hf := gw_bnd hf
  obtain ⟨r3, hr3, hf⟩ := hf
  refine gj_cVv (As := [.int (r2 a1 0)]) (rest := []) C cb_X3_149 (s_X0_takeOff (gw_l K) Γ r2 μ o a2 (r2 a1 0) ha2 r3 hr3) rfl (Nat.le_of_ble_eq_true rfl) (gw_atC ha2) rfl rfl dX3_enrol_32 (gw_rmk rfl) rfl ?_
  cases hf
  exact gj_vret C E dX3_enrol_35 (Nat.le_of_ble_eq_true rfl) (Nat.le_of_ble_eq_true rfl)
set_option maxRecDepth 100000 in
set_option maxHeartbeats 4000000 in
theorem s_X3_request (l : Launch) (Γ : gw_G) (τ μ : gw_S) (o : Nat → Int64) (a1 : Int32) (a2 : Int32) (r : (Int32 ⊕ String) × gw_S) (hf : f_X3_request τ a1 a2 = some r) : gw_MX l yX3_request [.code yX3_request cX3_request 6 (some .int)] gr_X3_request 3 18 Γ [.ref (gw_a Γ 0), .int a1, .int a2] (gw_W Γ τ μ o) (gw_qI Γ r.1 (gw_W Γ r.2 μ o)) (gw_x Γ r.1 (gw_W Γ r.2 μ o)) := by
  refine gw_enterX (by decide) (Nat.le_of_ble_eq_true rfl) (fun K C E => ?_)
  unfold f_X3_request at hf
  refine gj_aload_n C 0 dX3_request_0 rfl ?_
  refine gj_iload_n C 1 dX3_request_1 rfl ?_
  replace hf := gw_bnd hf
  obtain ⟨r1, hr1, hf⟩ := hf
  refine gj_cVR (As := [.int a1]) (rest := []) C cb_X3_128 (s_X3_studentAt (gw_l K) Γ τ μ o a1 r1 hr1) rfl (Nat.le_of_ble_eq_true rfl) gw_atM rfl rfl dX3_request_2 (gw_rmk rfl) rfl (fun e he => ?_) (fun v2 he => ?_)
  · replace hf := gw_xr hf he
    cases hf
    exact gj_out C rfl E (Nat.le_of_ble_eq_true rfl) (Nat.le_of_ble_eq_true rfl)
  · replace hf := gw_xl hf he
    subst he
    have hk_v2 := k_studentAt hr1
    refine gj_astore_n C 3 [(3, .ref (gw_a Γ v2)), (0, .ref (gw_a Γ 0)), (1, .int a1), (2, .int a2)] dX3_request_5 rfl (by decide) rfl ?_
    refine gj_aload_n C 1 dX3_request_6 rfl ?_
    refine gj_iload_n C 3 dX3_request_7 rfl ?_
    replace hf := gw_bnd hf
    obtain ⟨r3, hr3, hf⟩ := hf
    refine gj_cVR (As := [.int a2]) (rest := []) C cb_X3_68 (s_X3_courseAt (gw_l K) Γ τ μ o a2 r3 hr3) rfl (Nat.le_of_ble_eq_true rfl) gw_atM rfl rfl dX3_request_8 (gw_rmk rfl) rfl (fun e he => ?_) (fun v4 he => ?_)
    · replace hf := gw_xr hf he
      cases hf
      exact gj_out C rfl E (Nat.le_of_ble_eq_true rfl) (Nat.le_of_ble_eq_true rfl)
    · replace hf := gw_xl hf he
      subst he
      have hk_v4 := k_courseAt hr3
      refine gj_astore C 4 [(4, .ref (gw_a Γ v4)), (3, .ref (gw_a Γ v2)), (0, .ref (gw_a Γ 0)), (1, .int a1), (2, .int a2)] dX3_request_11 (by decide) rfl ?_
      refine gj_aload C 0 dX3_request_13 rfl ?_
      refine g_X3_179 C hk_v4 dX3_request_15 ?_
      refine gj_iload_n C 3 dX3_request_18 rfl ?_
      replace hf := gw_bnd hf
      obtain ⟨r5, hr5, hf⟩ := hf
      refine gj_cVi (As := [.int a1]) (rest := []) C cb_X3_161 (s_X1_placeOf (gw_l K) Γ τ μ o (v4 + 36) a1 (gw_kCR hk_v4) r5 hr5) rfl (Nat.le_of_ble_eq_true rfl) (gw_atR (gw_kCR hk_v4)) rfl rfl dX3_request_19 (gw_rmk rfl) rfl ?_
      refine gj_iconst (v := -1) C dX3_request_22 (by decide) ?_
      refine gj_ic_eq C 36 dX3_request_23 (by decide) (fun c => ?_) (fun c => ?_)
      · replace hf := gw_ift hf c
        refine gj_aload_n C 2 dX3_request_36 rfl ?_
        refine gj_aload_n C 1 dX3_request_37 rfl ?_
        refine gj_aload C 0 dX3_request_38 rfl ?_
        refine gj_aload_n C 1 dX3_request_40 rfl ?_
        refine g_X3_135 C hk_v2 rfl dX3_request_41 ?_
        replace hf := gw_bnd hf
        obtain ⟨r6, hr6, hf⟩ := hf
        refine gj_cVi (As := [.ref (gw_a Γ v2), .ref (gw_a Γ v4), .int (τ v2 5)]) (rest := []) C cb_X3_155 (s_X3_obstacleFor (gw_l K) Γ τ μ o v2 v4 (τ v2 5) hk_v2 hk_v4 r6 hr6) rfl (Nat.le_of_ble_eq_true rfl) gw_atM rfl rfl dX3_request_44 (gw_rmk rfl) rfl ?_
        refine gj_if_eq C 60 dX3_request_47 (by decide) (fun c => ?_) (fun c => ?_)
        · replace hf := gw_ift hf c
          refine gj_iconst (v := 0) C dX3_request_60 (by decide) ?_
          refine gj_istore C 5 [(5, .int (0 : Int32)), (4, .ref (gw_a Γ v4)), (3, .ref (gw_a Γ v2)), (0, .ref (gw_a Γ 0)), (1, .int a1), (2, .int a2)] dX3_request_61 (by decide) rfl ?_
          refine gj_aload_n C 3 dX3_request_63 rfl ?_
          refine gj_aload C 1 dX3_request_64 rfl ?_
          replace hf := gw_bnd hf
          obtain ⟨r7, hr7, hf⟩ := hf
          refine gj_cVi (As := [.ref (gw_a Γ v4)]) (rest := []) C cb_X3_114 (s_X3_freeIn (gw_l K) Γ τ μ o v4 hk_v4 r7 hr7) rfl (Nat.le_of_ble_eq_true rfl) gw_atM rfl rfl dX3_request_66 (gw_rmk rfl) rfl ?_
          refine gj_if_le C 82 dX3_request_69 (by decide) (fun c => ?_) (fun c => ?_)
          · replace hf := gw_ift hf c
            refine gj_aload C 1 dX3_request_82 rfl ?_
            refine g_X3_179 C hk_v4 dX3_request_84 ?_
            refine gj_iload_n C 4 dX3_request_87 rfl ?_
            replace hf := gw_bnd hf
            obtain ⟨r8, hr8, hf⟩ := hf
            refine gj_cVv (As := [.int a1]) (rest := []) C cb_X3_170 (s_X1_add (gw_l K) Γ τ μ o (v4 + 36) a1 (gw_kCR hk_v4) r8 hr8) rfl (Nat.le_of_ble_eq_true rfl) (gw_atR (gw_kCR hk_v4)) rfl rfl dX3_request_88 (gw_rmk rfl) rfl ?_
            refine gj_aload C 1 dX3_request_91 rfl ?_
            refine g_X3_179 C hk_v4 dX3_request_93 ?_
            replace hf := gw_bnd hf
            obtain ⟨r9, hr9, hf⟩ := hf
            refine gj_cVi (As := []) (rest := []) C cb_X3_164 (s_X1_size (gw_l K) Γ r8 μ o (v4 + 36) (gw_kCR hk_v4) r9 hr9) rfl (Nat.le_of_ble_eq_true rfl) (gw_atR (gw_kCR hk_v4)) rfl rfl dX3_request_96 (gw_rmk rfl) rfl ?_
            refine gj_istore C 5 [(5, .int r9), (4, .ref (gw_a Γ v4)), (3, .ref (gw_a Γ v2)), (0, .ref (gw_a Γ 0)), (1, .int a1), (2, .int a2)] dX3_request_99 (by decide) rfl ?_
            refine gj_aload_n C 3 dX3_request_101 rfl ?_
            replace hf := gw_bnd hf
            obtain ⟨r10, hr10, hf⟩ := hf
            refine gj_cVv (As := []) (rest := []) C cb_X3_80 (s_X3_makeOffers (gw_l K) Γ r8 μ o  r10 hr10) rfl (Nat.le_of_ble_eq_true rfl) gw_atM rfl rfl dX3_request_102 (gw_rmk rfl) rfl ?_
            refine gj_iload C 0 dX3_request_105 rfl ?_
            cases hf
            exact gj_iretX C rfl E dX3_request_107 (Nat.le_of_ble_eq_true rfl) (Nat.le_of_ble_eq_true rfl)
          · replace hf := gw_iff hf c
            refine gj_aload_n C 3 dX3_request_72 rfl ?_
            refine gj_aload_n C 2 dX3_request_73 rfl ?_
            refine gj_aload C 1 dX3_request_74 rfl ?_
            replace hf := gw_bnd hf
            obtain ⟨r11, hr11, hf⟩ := hf
            refine gj_cVv (As := [.ref (gw_a Γ v2), .ref (gw_a Γ v4)]) (rest := []) C cb_X3_186 (s_X3_enrol (gw_l K) Γ τ μ o v2 v4 hk_v2 hk_v4 r11 hr11) rfl (Nat.le_of_ble_eq_true rfl) gw_atM rfl rfl dX3_request_76 (gw_rmk rfl) rfl ?_
            refine gj_goto C 101 dX3_request_79 (by decide) ?_
            refine gj_aload_n C 3 dX3_request_101 rfl ?_
            replace hf := gw_bnd hf
            obtain ⟨r12, hr12, hf⟩ := hf
            refine gj_cVv (As := []) (rest := []) C cb_X3_80 (s_X3_makeOffers (gw_l K) Γ r11 μ o  r12 hr12) rfl (Nat.le_of_ble_eq_true rfl) gw_atM rfl rfl dX3_request_102 (gw_rmk rfl) rfl ?_
            refine gj_iload C 0 dX3_request_105 rfl ?_
            cases hf
            exact gj_iretX C rfl E dX3_request_107 (Nat.le_of_ble_eq_true rfl) (Nat.le_of_ble_eq_true rfl)
        · replace hf := gw_iff hf c
          cases hf
          exact gj_throw C rfl E (by decide) cl_51 ini_51 st_184 at_55 dX3_request_50 dX3_request_53 dX3_request_54 dX3_request_56 dX3_request_59 ⟨(Nat.le_of_ble_eq_true rfl), (Nat.le_of_ble_eq_true rfl)⟩ ⟨(Nat.le_of_ble_eq_true rfl), (Nat.le_of_ble_eq_true rfl)⟩ (Nat.le_of_ble_eq_true rfl) (Nat.le_of_ble_eq_true rfl)
      · replace hf := gw_iff hf c
        cases hf
        exact gj_throw C rfl E (by decide) cl_51 ini_51 st_182 at_55 dX3_request_26 dX3_request_29 dX3_request_30 dX3_request_32 dX3_request_35 ⟨(Nat.le_of_ble_eq_true rfl), (Nat.le_of_ble_eq_true rfl)⟩ ⟨(Nat.le_of_ble_eq_true rfl), (Nat.le_of_ble_eq_true rfl)⟩ (Nat.le_of_ble_eq_true rfl) (Nat.le_of_ble_eq_true rfl)
set_option maxRecDepth 100000 in
set_option maxHeartbeats 4000000 in
theorem s_X3_endEnrolment (l : Launch) (Γ : gw_G) (τ μ : gw_S) (o : Nat → Int64) (a1 : Nat) (a2 : Nat) (ha1 : gw_kS a1) (ha2 : gw_kC a2) (r : gw_S) (hf : f_X3_endEnrolment τ a1 a2 = some r) : gw_M l yX3_endEnrolment [.code yX3_endEnrolment cX3_endEnrolment 3 none] gr_X3_endEnrolment 0 0 Γ [.ref (gw_a Γ 0), .ref (gw_a Γ a1), .ref (gw_a Γ a2)] (gw_W Γ τ μ o) (gw_qv Γ (gw_W Γ r μ o)) := by
  refine gw_enter (by decide) (Nat.le_of_ble_eq_true rfl) (fun K C E => ?_)
  unfold f_X3_endEnrolment at hf
  refine gj_aload_n C 1 dX3_endEnrolment_0 rfl ?_
  refine gj_dup C dX3_endEnrolment_1 rfl ?_
  refine g_X3_135 C ha1 rfl dX3_endEnrolment_2 ?_
  refine gj_aload_n C 2 dX3_endEnrolment_5 rfl ?_
  refine g_X3_65 C ha2 rfl dX3_endEnrolment_6 ?_
  replace hf := gw_bnd hf
  obtain ⟨r1, hr1, hf⟩ := hf
  refine gj_cSi (As := [.int (τ a2 0)]) (rest := [.int (τ a1 5), .ref (gw_a Γ a1)]) C cb_X3_95 (s_X3_bit (gw_l K) Γ τ μ o (τ a2 0) r1 hr1) rfl (Nat.le_of_ble_eq_true rfl) dX3_endEnrolment_9 (gw_rmk rfl) rfl ?_
  refine gj_iconst (v := -1) C dX3_endEnrolment_12 (by decide) ?_
  refine gj_ixor C dX3_endEnrolment_13 ?_
  refine gj_iand C dX3_endEnrolment_14 ?_
  refine p_X3_135 C ha1 dX3_endEnrolment_15 ?_
  refine gj_aload_n C 1 dX3_endEnrolment_18 rfl ?_
  refine g_X3_231 C ha1 (gw_up_n (by omega)) dX3_endEnrolment_19 ?_
  refine gj_aload_n C 2 dX3_endEnrolment_22 rfl ?_
  refine g_X3_65 C ha2 rfl dX3_endEnrolment_23 ?_
  refine gj_ic_ne C 34 dX3_endEnrolment_26 (by decide) (fun c => ?_) (fun c => ?_)
  · replace hf := gw_iff hf c
    cases hf
    exact gj_vret C E dX3_endEnrolment_34 (Nat.le_of_ble_eq_true rfl) (Nat.le_of_ble_eq_true rfl)
  · replace hf := gw_ift hf c
    refine gj_aload_n C 1 dX3_endEnrolment_29 rfl ?_
    refine gj_iconst (v := -1) C dX3_endEnrolment_30 (by decide) ?_
    refine p_X3_231 C ha1 dX3_endEnrolment_31 ?_
    cases hf
    exact gj_vret C E dX3_endEnrolment_34 (Nat.le_of_ble_eq_true rfl) (Nat.le_of_ble_eq_true rfl)
set_option maxRecDepth 100000 in
set_option maxHeartbeats 4000000 in
theorem s_X3_drop (l : Launch) (Γ : gw_G) (τ μ : gw_S) (o : Nat → Int64) (a1 : Int32) (a2 : Int32) (r : (Int32 ⊕ String) × gw_S) (hf : f_X3_drop τ a1 a2 = some r) : gw_MX l yX3_drop [.code yX3_drop cX3_drop 5 (some .int)] gr_X3_drop 3 18 Γ [.ref (gw_a Γ 0), .int a1, .int a2] (gw_W Γ τ μ o) (gw_qI Γ r.1 (gw_W Γ r.2 μ o)) (gw_x Γ r.1 (gw_W Γ r.2 μ o)) := by
  refine gw_enterX (by decide) (Nat.le_of_ble_eq_true rfl) (fun K C E => ?_)
  unfold f_X3_drop at hf
  refine gj_aload_n C 0 dX3_drop_0 rfl ?_
  refine gj_iload_n C 1 dX3_drop_1 rfl ?_
  replace hf := gw_bnd hf
  obtain ⟨r1, hr1, hf⟩ := hf
  refine gj_cVR (As := [.int a1]) (rest := []) C cb_X3_128 (s_X3_studentAt (gw_l K) Γ τ μ o a1 r1 hr1) rfl (Nat.le_of_ble_eq_true rfl) gw_atM rfl rfl dX3_drop_2 (gw_rmk rfl) rfl (fun e he => ?_) (fun v2 he => ?_)
  · replace hf := gw_xr hf he
    cases hf
    exact gj_out C rfl E (Nat.le_of_ble_eq_true rfl) (Nat.le_of_ble_eq_true rfl)
  · replace hf := gw_xl hf he
    subst he
    have hk_v2 := k_studentAt hr1
    refine gj_astore_n C 3 [(3, .ref (gw_a Γ v2)), (0, .ref (gw_a Γ 0)), (1, .int a1), (2, .int a2)] dX3_drop_5 rfl (by decide) rfl ?_
    refine gj_aload_n C 1 dX3_drop_6 rfl ?_
    refine gj_iload_n C 3 dX3_drop_7 rfl ?_
    replace hf := gw_bnd hf
    obtain ⟨r3, hr3, hf⟩ := hf
    refine gj_cVR (As := [.int a2]) (rest := []) C cb_X3_68 (s_X3_courseAt (gw_l K) Γ τ μ o a2 r3 hr3) rfl (Nat.le_of_ble_eq_true rfl) gw_atM rfl rfl dX3_drop_8 (gw_rmk rfl) rfl (fun e he => ?_) (fun v4 he => ?_)
    · replace hf := gw_xr hf he
      cases hf
      exact gj_out C rfl E (Nat.le_of_ble_eq_true rfl) (Nat.le_of_ble_eq_true rfl)
    · replace hf := gw_xl hf he
      subst he
      have hk_v4 := k_courseAt hr3
      refine gj_astore C 4 [(4, .ref (gw_a Γ v4)), (3, .ref (gw_a Γ v2)), (0, .ref (gw_a Γ 0)), (1, .int a1), (2, .int a2)] dX3_drop_11 (by decide) rfl ?_
      refine gj_aload_n C 1 dX3_drop_13 rfl ?_
      refine g_X3_135 C hk_v2 rfl dX3_drop_14 ?_
      refine gj_iload_n C 4 dX3_drop_17 rfl ?_
      replace hf := gw_bnd hf
      obtain ⟨r5, hr5, hf⟩ := hf
      refine gj_cSi (As := [.int (τ v2 5), .int a2]) (rest := []) C cb_X3_86 (s_X3_isIn (gw_l K) Γ τ μ o (τ v2 5) a2 r5 hr5) rfl (Nat.le_of_ble_eq_true rfl) dX3_drop_18 (gw_rmk rfl) rfl ?_
      refine gj_if_ne C 34 dX3_drop_21 (by decide) (fun c => ?_) (fun c => ?_)
      · replace hf := gw_iff hf c
        refine gj_aload_n C 2 dX3_drop_34 rfl ?_
        refine gj_aload_n C 1 dX3_drop_35 rfl ?_
        refine gj_aload C 0 dX3_drop_36 rfl ?_
        replace hf := gw_bnd hf
        obtain ⟨r6, hr6, hf⟩ := hf
        refine gj_cVv (As := [.ref (gw_a Γ v2), .ref (gw_a Γ v4)]) (rest := []) C cb_X3_192 (s_X3_endEnrolment (gw_l K) Γ τ μ o v2 v4 hk_v2 hk_v4 r6 hr6) rfl (Nat.le_of_ble_eq_true rfl) gw_atM rfl rfl dX3_drop_38 (gw_rmk rfl) rfl ?_
        refine gj_aload_n C 2 dX3_drop_41 rfl ?_
        replace hf := gw_bnd hf
        obtain ⟨r7, hr7, hf⟩ := hf
        refine gj_cVv (As := []) (rest := []) C cb_X3_80 (s_X3_makeOffers (gw_l K) Γ r6 μ o  r7 hr7) rfl (Nat.le_of_ble_eq_true rfl) gw_atM rfl rfl dX3_drop_42 (gw_rmk rfl) rfl ?_
        refine gj_aload_n C 2 dX3_drop_45 rfl ?_
        refine gj_aload_n C 1 dX3_drop_46 rfl ?_
        refine g_X3_135 C hk_v2 rfl dX3_drop_47 ?_
        replace hf := gw_bnd hf
        obtain ⟨r8, hr8, hf⟩ := hf
        refine gj_cVi (As := [.int (r7 v2 5)]) (rest := []) C cb_X3_152 (s_X3_creditsOf (gw_l K) Γ r7 μ o (r7 v2 5) r8 hr8) rfl (Nat.le_of_ble_eq_true rfl) gw_atM rfl rfl dX3_drop_50 (gw_rmk rfl) rfl ?_
        cases hf
        exact gj_iretX C rfl E dX3_drop_53 (Nat.le_of_ble_eq_true rfl) (Nat.le_of_ble_eq_true rfl)
      · replace hf := gw_ift hf c
        cases hf
        exact gj_throw C rfl E (by decide) cl_51 ini_51 st_190 at_55 dX3_drop_24 dX3_drop_27 dX3_drop_28 dX3_drop_30 dX3_drop_33 ⟨(Nat.le_of_ble_eq_true rfl), (Nat.le_of_ble_eq_true rfl)⟩ ⟨(Nat.le_of_ble_eq_true rfl), (Nat.le_of_ble_eq_true rfl)⟩ (Nat.le_of_ble_eq_true rfl) (Nat.le_of_ble_eq_true rfl)
set_option maxRecDepth 100000 in
set_option maxHeartbeats 4000000 in
theorem s_X3_change (l : Launch) (Γ : gw_G) (τ μ : gw_S) (o : Nat → Int64) (a1 : Int32) (a2 : Int32) (a3 : Int32) (r : (Int32 ⊕ String) × gw_S) (hf : f_X3_change τ a1 a2 a3 = some r) : gw_MX l yX3_change [.code yX3_change cX3_change 7 (some .int)] gr_X3_change 4 24 Γ [.ref (gw_a Γ 0), .int a1, .int a2, .int a3] (gw_W Γ τ μ o) (gw_qI Γ r.1 (gw_W Γ r.2 μ o)) (gw_x Γ r.1 (gw_W Γ r.2 μ o)) := by
  refine gw_enterX (by decide) (Nat.le_of_ble_eq_true rfl) (fun K C E => ?_)
  unfold f_X3_change at hf
  refine gj_aload_n C 0 dX3_change_0 rfl ?_
  refine gj_iload_n C 1 dX3_change_1 rfl ?_
  replace hf := gw_bnd hf
  obtain ⟨r1, hr1, hf⟩ := hf
  refine gj_cVR (As := [.int a1]) (rest := []) C cb_X3_128 (s_X3_studentAt (gw_l K) Γ τ μ o a1 r1 hr1) rfl (Nat.le_of_ble_eq_true rfl) gw_atM rfl rfl dX3_change_2 (gw_rmk rfl) rfl (fun e he => ?_) (fun v2 he => ?_)
  · replace hf := gw_xr hf he
    cases hf
    exact gj_out C rfl E (Nat.le_of_ble_eq_true rfl) (Nat.le_of_ble_eq_true rfl)
  · replace hf := gw_xl hf he
    subst he
    have hk_v2 := k_studentAt hr1
    refine gj_astore C 4 [(4, .ref (gw_a Γ v2)), (0, .ref (gw_a Γ 0)), (1, .int a1), (2, .int a2), (3, .int a3)] dX3_change_5 (by decide) rfl ?_
    refine gj_aload_n C 1 dX3_change_7 rfl ?_
    refine gj_iload_n C 3 dX3_change_8 rfl ?_
    replace hf := gw_bnd hf
    obtain ⟨r3, hr3, hf⟩ := hf
    refine gj_cVR (As := [.int a2]) (rest := []) C cb_X3_68 (s_X3_courseAt (gw_l K) Γ τ μ o a2 r3 hr3) rfl (Nat.le_of_ble_eq_true rfl) gw_atM rfl rfl dX3_change_9 (gw_rmk rfl) rfl (fun e he => ?_) (fun v4 he => ?_)
    · replace hf := gw_xr hf he
      cases hf
      exact gj_out C rfl E (Nat.le_of_ble_eq_true rfl) (Nat.le_of_ble_eq_true rfl)
    · replace hf := gw_xl hf he
      subst he
      have hk_v4 := k_courseAt hr3
      refine gj_astore C 5 [(5, .ref (gw_a Γ v4)), (4, .ref (gw_a Γ v2)), (0, .ref (gw_a Γ 0)), (1, .int a1), (2, .int a2), (3, .int a3)] dX3_change_12 (by decide) rfl ?_
      refine gj_aload_n C 2 dX3_change_14 rfl ?_
      refine gj_iload_n C 5 dX3_change_15 rfl ?_
      replace hf := gw_bnd hf
      obtain ⟨r5, hr5, hf⟩ := hf
      refine gj_cVR (As := [.int a3]) (rest := []) C cb_X3_68 (s_X3_courseAt (gw_l K) Γ τ μ o a3 r5 hr5) rfl (Nat.le_of_ble_eq_true rfl) gw_atM rfl rfl dX3_change_16 (gw_rmk rfl) rfl (fun e he => ?_) (fun v6 he => ?_)
      · replace hf := gw_xr hf he
        cases hf
        exact gj_out C rfl E (Nat.le_of_ble_eq_true rfl) (Nat.le_of_ble_eq_true rfl)
      · replace hf := gw_xl hf he
        subst he
        have hk_v6 := k_courseAt hr5
        refine gj_astore C 6 [(6, .ref (gw_a Γ v6)), (5, .ref (gw_a Γ v4)), (4, .ref (gw_a Γ v2)), (0, .ref (gw_a Γ 0)), (1, .int a1), (2, .int a2), (3, .int a3)] dX3_change_19 (by decide) rfl ?_
        refine gj_aload C 2 dX3_change_21 rfl ?_
        refine g_X3_135 C hk_v2 rfl dX3_change_23 ?_
        refine gj_iload_n C 5 dX3_change_26 rfl ?_
        replace hf := gw_bnd hf
        obtain ⟨r7, hr7, hf⟩ := hf
        refine gj_cSi (As := [.int (τ v2 5), .int a2]) (rest := []) C cb_X3_86 (s_X3_isIn (gw_l K) Γ τ μ o (τ v2 5) a2 r7 hr7) rfl (Nat.le_of_ble_eq_true rfl) dX3_change_27 (gw_rmk rfl) rfl ?_
        refine gj_if_eq C 38 dX3_change_30 (by decide) (fun c => ?_) (fun c => ?_)
        · replace hf := gw_ift hf c
          cases hf
          exact gj_throw C rfl E (by decide) cl_51 ini_51 st_195 at_55 dX3_change_38 dX3_change_41 dX3_change_42 dX3_change_44 dX3_change_47 ⟨(Nat.le_of_ble_eq_true rfl), (Nat.le_of_ble_eq_true rfl)⟩ ⟨(Nat.le_of_ble_eq_true rfl), (Nat.le_of_ble_eq_true rfl)⟩ (Nat.le_of_ble_eq_true rfl) (Nat.le_of_ble_eq_true rfl)
        · replace hf := gw_iff hf c
          refine gj_iload_n C 5 dX3_change_33 rfl ?_
          refine gj_iload_n C 6 dX3_change_34 rfl ?_
          refine gj_ic_ne C 48 dX3_change_35 (by decide) (fun c => ?_) (fun c => ?_)
          · replace hf := gw_iff hf c
            refine gj_aload_n C 3 dX3_change_48 rfl ?_
            refine gj_aload C 2 dX3_change_49 rfl ?_
            refine gj_aload C 0 dX3_change_51 rfl ?_
            refine gj_aload C 2 dX3_change_53 rfl ?_
            refine g_X3_135 C hk_v2 rfl dX3_change_55 ?_
            refine gj_iload_n C 5 dX3_change_58 rfl ?_
            replace hf := gw_bnd hf
            obtain ⟨r8, hr8, hf⟩ := hf
            refine gj_cSi (As := [.int a2]) (rest := [.int (τ v2 5), .ref (gw_a Γ v6), .ref (gw_a Γ v2), .ref (gw_a Γ 0)]) C cb_X3_95 (s_X3_bit (gw_l K) Γ τ μ o a2 r8 hr8) rfl (Nat.le_of_ble_eq_true rfl) dX3_change_59 (gw_rmk rfl) rfl ?_
            refine gj_iconst (v := -1) C dX3_change_62 (by decide) ?_
            refine gj_ixor C dX3_change_63 ?_
            refine gj_iand C dX3_change_64 ?_
            replace hf := gw_bnd hf
            obtain ⟨r9, hr9, hf⟩ := hf
            refine gj_cVi (As := [.ref (gw_a Γ v2), .ref (gw_a Γ v6), .int ((τ v2 5) &&& (r8 ^^^ (-1 : Int32)))]) (rest := []) C cb_X3_155 (s_X3_obstacleFor (gw_l K) Γ τ μ o v2 v6 ((τ v2 5) &&& (r8 ^^^ (-1 : Int32))) hk_v2 hk_v6 r9 hr9) rfl (Nat.le_of_ble_eq_true rfl) gw_atM rfl rfl dX3_change_65 (gw_rmk rfl) rfl ?_
            refine gj_if_eq C 81 dX3_change_68 (by decide) (fun c => ?_) (fun c => ?_)
            · replace hf := gw_ift hf c
              refine gj_aload_n C 3 dX3_change_81 rfl ?_
              refine gj_aload C 0 dX3_change_82 rfl ?_
              replace hf := gw_bnd hf
              obtain ⟨r10, hr10, hf⟩ := hf
              refine gj_cVi (As := [.ref (gw_a Γ v6)]) (rest := []) C cb_X3_114 (s_X3_freeIn (gw_l K) Γ τ μ o v6 hk_v6 r10 hr10) rfl (Nat.le_of_ble_eq_true rfl) gw_atM rfl rfl dX3_change_84 (gw_rmk rfl) rfl ?_
              refine gj_if_gt C 100 dX3_change_87 (by decide) (fun c => ?_) (fun c => ?_)
              · replace hf := gw_ift hf c
                refine gj_aload_n C 3 dX3_change_100 rfl ?_
                refine gj_aload C 2 dX3_change_101 rfl ?_
                refine gj_aload C 1 dX3_change_103 rfl ?_
                replace hf := gw_bnd hf
                obtain ⟨r11, hr11, hf⟩ := hf
                refine gj_cVv (As := [.ref (gw_a Γ v2), .ref (gw_a Γ v4)]) (rest := []) C cb_X3_192 (s_X3_endEnrolment (gw_l K) Γ τ μ o v2 v4 hk_v2 hk_v4 r11 hr11) rfl (Nat.le_of_ble_eq_true rfl) gw_atM rfl rfl dX3_change_105 (gw_rmk rfl) rfl ?_
                refine gj_aload_n C 3 dX3_change_108 rfl ?_
                refine gj_aload C 2 dX3_change_109 rfl ?_
                refine gj_aload C 0 dX3_change_111 rfl ?_
                replace hf := gw_bnd hf
                obtain ⟨r12, hr12, hf⟩ := hf
                refine gj_cVv (As := [.ref (gw_a Γ v2), .ref (gw_a Γ v6)]) (rest := []) C cb_X3_186 (s_X3_enrol (gw_l K) Γ r11 μ o v2 v6 hk_v2 hk_v6 r12 hr12) rfl (Nat.le_of_ble_eq_true rfl) gw_atM rfl rfl dX3_change_113 (gw_rmk rfl) rfl ?_
                refine gj_aload_n C 3 dX3_change_116 rfl ?_
                replace hf := gw_bnd hf
                obtain ⟨r13, hr13, hf⟩ := hf
                refine gj_cVv (As := []) (rest := []) C cb_X3_80 (s_X3_makeOffers (gw_l K) Γ r12 μ o  r13 hr13) rfl (Nat.le_of_ble_eq_true rfl) gw_atM rfl rfl dX3_change_117 (gw_rmk rfl) rfl ?_
                refine gj_aload_n C 3 dX3_change_120 rfl ?_
                refine gj_aload C 2 dX3_change_121 rfl ?_
                refine g_X3_135 C hk_v2 rfl dX3_change_123 ?_
                replace hf := gw_bnd hf
                obtain ⟨r14, hr14, hf⟩ := hf
                refine gj_cVi (As := [.int (r13 v2 5)]) (rest := []) C cb_X3_152 (s_X3_creditsOf (gw_l K) Γ r13 μ o (r13 v2 5) r14 hr14) rfl (Nat.le_of_ble_eq_true rfl) gw_atM rfl rfl dX3_change_126 (gw_rmk rfl) rfl ?_
                cases hf
                exact gj_iretX C rfl E dX3_change_129 (Nat.le_of_ble_eq_true rfl) (Nat.le_of_ble_eq_true rfl)
              · replace hf := gw_iff hf c
                cases hf
                exact gj_throw C rfl E (by decide) cl_51 ini_51 st_197 at_55 dX3_change_90 dX3_change_93 dX3_change_94 dX3_change_96 dX3_change_99 ⟨(Nat.le_of_ble_eq_true rfl), (Nat.le_of_ble_eq_true rfl)⟩ ⟨(Nat.le_of_ble_eq_true rfl), (Nat.le_of_ble_eq_true rfl)⟩ (Nat.le_of_ble_eq_true rfl) (Nat.le_of_ble_eq_true rfl)
            · replace hf := gw_iff hf c
              cases hf
              exact gj_throw C rfl E (by decide) cl_51 ini_51 st_184 at_55 dX3_change_71 dX3_change_74 dX3_change_75 dX3_change_77 dX3_change_80 ⟨(Nat.le_of_ble_eq_true rfl), (Nat.le_of_ble_eq_true rfl)⟩ ⟨(Nat.le_of_ble_eq_true rfl), (Nat.le_of_ble_eq_true rfl)⟩ (Nat.le_of_ble_eq_true rfl) (Nat.le_of_ble_eq_true rfl)
          · replace hf := gw_ift hf c
            cases hf
            exact gj_throw C rfl E (by decide) cl_51 ini_51 st_195 at_55 dX3_change_38 dX3_change_41 dX3_change_42 dX3_change_44 dX3_change_47 ⟨(Nat.le_of_ble_eq_true rfl), (Nat.le_of_ble_eq_true rfl)⟩ ⟨(Nat.le_of_ble_eq_true rfl), (Nat.le_of_ble_eq_true rfl)⟩ (Nat.le_of_ble_eq_true rfl) (Nat.le_of_ble_eq_true rfl)
set_option maxRecDepth 100000 in
set_option maxHeartbeats 4000000 in
theorem s_X3_accept (l : Launch) (Γ : gw_G) (τ μ : gw_S) (o : Nat → Int64) (a1 : Int32) (a2 : Int32) (r : (Int32 ⊕ String) × gw_S) (hf : f_X3_accept τ a1 a2 = some r) : gw_MX l yX3_accept [.code yX3_accept cX3_accept 5 (some .int)] gr_X3_accept 3 18 Γ [.ref (gw_a Γ 0), .int a1, .int a2] (gw_W Γ τ μ o) (gw_qI Γ r.1 (gw_W Γ r.2 μ o)) (gw_x Γ r.1 (gw_W Γ r.2 μ o)) := by
  refine gw_enterX (by decide) (Nat.le_of_ble_eq_true rfl) (fun K C E => ?_)
  unfold f_X3_accept at hf
  refine gj_aload_n C 0 dX3_accept_0 rfl ?_
  refine gj_iload_n C 1 dX3_accept_1 rfl ?_
  replace hf := gw_bnd hf
  obtain ⟨r1, hr1, hf⟩ := hf
  refine gj_cVR (As := [.int a1]) (rest := []) C cb_X3_128 (s_X3_studentAt (gw_l K) Γ τ μ o a1 r1 hr1) rfl (Nat.le_of_ble_eq_true rfl) gw_atM rfl rfl dX3_accept_2 (gw_rmk rfl) rfl (fun e he => ?_) (fun v2 he => ?_)
  · replace hf := gw_xr hf he
    cases hf
    exact gj_out C rfl E (Nat.le_of_ble_eq_true rfl) (Nat.le_of_ble_eq_true rfl)
  · replace hf := gw_xl hf he
    subst he
    have hk_v2 := k_studentAt hr1
    refine gj_astore_n C 3 [(3, .ref (gw_a Γ v2)), (0, .ref (gw_a Γ 0)), (1, .int a1), (2, .int a2)] dX3_accept_5 rfl (by decide) rfl ?_
    refine gj_aload_n C 1 dX3_accept_6 rfl ?_
    refine gj_iload_n C 3 dX3_accept_7 rfl ?_
    replace hf := gw_bnd hf
    obtain ⟨r3, hr3, hf⟩ := hf
    refine gj_cVR (As := [.int a2]) (rest := []) C cb_X3_68 (s_X3_courseAt (gw_l K) Γ τ μ o a2 r3 hr3) rfl (Nat.le_of_ble_eq_true rfl) gw_atM rfl rfl dX3_accept_8 (gw_rmk rfl) rfl (fun e he => ?_) (fun v4 he => ?_)
    · replace hf := gw_xr hf he
      cases hf
      exact gj_out C rfl E (Nat.le_of_ble_eq_true rfl) (Nat.le_of_ble_eq_true rfl)
    · replace hf := gw_xl hf he
      subst he
      have hk_v4 := k_courseAt hr3
      refine gj_astore C 4 [(4, .ref (gw_a Γ v4)), (3, .ref (gw_a Γ v2)), (0, .ref (gw_a Γ 0)), (1, .int a1), (2, .int a2)] dX3_accept_11 (by decide) rfl ?_
      refine gj_aload C 0 dX3_accept_13 rfl ?_
      refine gj_iload_n C 3 dX3_accept_15 rfl ?_
      replace hf := gw_bnd hf
      obtain ⟨r5, hr5, hf⟩ := hf
      refine gj_cVi (As := [.int a1]) (rest := []) C cb_X3_199 (s_X0_hasOfferFor (gw_l K) Γ τ μ o v4 a1 hk_v4 r5 hr5) rfl (Nat.le_of_ble_eq_true rfl) (gw_atC hk_v4) rfl rfl dX3_accept_16 (gw_rmk rfl) rfl ?_
      refine gj_if_ne C 32 dX3_accept_19 (by decide) (fun c => ?_) (fun c => ?_)
      · replace hf := gw_iff hf c
        refine gj_aload_n C 2 dX3_accept_32 rfl ?_
        refine gj_aload_n C 1 dX3_accept_33 rfl ?_
        refine gj_aload C 0 dX3_accept_34 rfl ?_
        refine gj_aload_n C 1 dX3_accept_36 rfl ?_
        refine g_X3_135 C hk_v2 rfl dX3_accept_37 ?_
        replace hf := gw_bnd hf
        obtain ⟨r6, hr6, hf⟩ := hf
        refine gj_cVi (As := [.ref (gw_a Γ v2), .ref (gw_a Γ v4), .int (τ v2 5)]) (rest := []) C cb_X3_155 (s_X3_obstacleFor (gw_l K) Γ τ μ o v2 v4 (τ v2 5) hk_v2 hk_v4 r6 hr6) rfl (Nat.le_of_ble_eq_true rfl) gw_atM rfl rfl dX3_accept_40 (gw_rmk rfl) rfl ?_
        refine gj_if_eq C 56 dX3_accept_43 (by decide) (fun c => ?_) (fun c => ?_)
        · replace hf := gw_ift hf c
          refine gj_aload_n C 2 dX3_accept_56 rfl ?_
          refine gj_aload_n C 1 dX3_accept_57 rfl ?_
          refine gj_aload C 0 dX3_accept_58 rfl ?_
          replace hf := gw_bnd hf
          obtain ⟨r7, hr7, hf⟩ := hf
          refine gj_cVv (As := [.ref (gw_a Γ v2), .ref (gw_a Γ v4)]) (rest := []) C cb_X3_186 (s_X3_enrol (gw_l K) Γ τ μ o v2 v4 hk_v2 hk_v4 r7 hr7) rfl (Nat.le_of_ble_eq_true rfl) gw_atM rfl rfl dX3_accept_60 (gw_rmk rfl) rfl ?_
          refine gj_aload_n C 2 dX3_accept_63 rfl ?_
          replace hf := gw_bnd hf
          obtain ⟨r8, hr8, hf⟩ := hf
          refine gj_cVv (As := []) (rest := []) C cb_X3_80 (s_X3_makeOffers (gw_l K) Γ r7 μ o  r8 hr8) rfl (Nat.le_of_ble_eq_true rfl) gw_atM rfl rfl dX3_accept_64 (gw_rmk rfl) rfl ?_
          refine gj_aload_n C 2 dX3_accept_67 rfl ?_
          refine gj_aload_n C 1 dX3_accept_68 rfl ?_
          refine g_X3_135 C hk_v2 rfl dX3_accept_69 ?_
          replace hf := gw_bnd hf
          obtain ⟨r9, hr9, hf⟩ := hf
          refine gj_cVi (As := [.int (r8 v2 5)]) (rest := []) C cb_X3_152 (s_X3_creditsOf (gw_l K) Γ r8 μ o (r8 v2 5) r9 hr9) rfl (Nat.le_of_ble_eq_true rfl) gw_atM rfl rfl dX3_accept_72 (gw_rmk rfl) rfl ?_
          cases hf
          exact gj_iretX C rfl E dX3_accept_75 (Nat.le_of_ble_eq_true rfl) (Nat.le_of_ble_eq_true rfl)
        · replace hf := gw_iff hf c
          cases hf
          exact gj_throw C rfl E (by decide) cl_51 ini_51 st_184 at_55 dX3_accept_46 dX3_accept_49 dX3_accept_50 dX3_accept_52 dX3_accept_55 ⟨(Nat.le_of_ble_eq_true rfl), (Nat.le_of_ble_eq_true rfl)⟩ ⟨(Nat.le_of_ble_eq_true rfl), (Nat.le_of_ble_eq_true rfl)⟩ (Nat.le_of_ble_eq_true rfl) (Nat.le_of_ble_eq_true rfl)
      · replace hf := gw_ift hf c
        cases hf
        exact gj_throw C rfl E (by decide) cl_51 ini_51 st_203 at_55 dX3_accept_22 dX3_accept_25 dX3_accept_26 dX3_accept_28 dX3_accept_31 ⟨(Nat.le_of_ble_eq_true rfl), (Nat.le_of_ble_eq_true rfl)⟩ ⟨(Nat.le_of_ble_eq_true rfl), (Nat.le_of_ble_eq_true rfl)⟩ (Nat.le_of_ble_eq_true rfl) (Nat.le_of_ble_eq_true rfl)
set_option maxRecDepth 100000 in
set_option maxHeartbeats 4000000 in
theorem s_X3_leave (l : Launch) (Γ : gw_G) (τ μ : gw_S) (o : Nat → Int64) (a1 : Int32) (a2 : Int32) (r : (Int32 ⊕ String) × gw_S) (hf : f_X3_leave τ a1 a2 = some r) : gw_MX l yX3_leave [.code yX3_leave cX3_leave 6 (some .boolean)] gr_X3_leave 3 18 Γ [.ref (gw_a Γ 0), .int a1, .int a2] (gw_W Γ τ μ o) (gw_qI Γ r.1 (gw_W Γ r.2 μ o)) (gw_x Γ r.1 (gw_W Γ r.2 μ o)) := by
  refine gw_enterX (by decide) (Nat.le_of_ble_eq_true rfl) (fun K C E => ?_)
  unfold f_X3_leave at hf
  refine gj_aload_n C 0 dX3_leave_0 rfl ?_
  refine gj_iload_n C 1 dX3_leave_1 rfl ?_
  replace hf := gw_bnd hf
  obtain ⟨r1, hr1, hf⟩ := hf
  refine gj_cVR (As := [.int a1]) (rest := []) C cb_X3_128 (s_X3_studentAt (gw_l K) Γ τ μ o a1 r1 hr1) rfl (Nat.le_of_ble_eq_true rfl) gw_atM rfl rfl dX3_leave_2 (gw_rmk rfl) rfl (fun e he => ?_) (fun v2 he => ?_)
  · replace hf := gw_xr hf he
    cases hf
    exact gj_out C rfl E (Nat.le_of_ble_eq_true rfl) (Nat.le_of_ble_eq_true rfl)
  · replace hf := gw_xl hf he
    subst he
    have hk_v2 := k_studentAt hr1
    refine gj_astore_n C 3 [(3, .ref (gw_a Γ v2)), (0, .ref (gw_a Γ 0)), (1, .int a1), (2, .int a2)] dX3_leave_5 rfl (by decide) rfl ?_
    refine gj_aload_n C 1 dX3_leave_6 rfl ?_
    refine gj_iload_n C 3 dX3_leave_7 rfl ?_
    replace hf := gw_bnd hf
    obtain ⟨r3, hr3, hf⟩ := hf
    refine gj_cVR (As := [.int a2]) (rest := []) C cb_X3_68 (s_X3_courseAt (gw_l K) Γ τ μ o a2 r3 hr3) rfl (Nat.le_of_ble_eq_true rfl) gw_atM rfl rfl dX3_leave_8 (gw_rmk rfl) rfl (fun e he => ?_) (fun v4 he => ?_)
    · replace hf := gw_xr hf he
      cases hf
      exact gj_out C rfl E (Nat.le_of_ble_eq_true rfl) (Nat.le_of_ble_eq_true rfl)
    · replace hf := gw_xl hf he
      subst he
      have hk_v4 := k_courseAt hr3
      refine gj_astore C 4 [(4, .ref (gw_a Γ v4)), (3, .ref (gw_a Γ v2)), (0, .ref (gw_a Γ 0)), (1, .int a1), (2, .int a2)] dX3_leave_11 (by decide) rfl ?_
      refine gj_aload C 0 dX3_leave_13 rfl ?_
      refine g_X3_179 C hk_v4 dX3_leave_15 ?_
      refine gj_aload_n C 1 dX3_leave_18 rfl ?_
      refine g_X3_127 C hk_v2 rfl dX3_leave_19 ?_
      replace hf := gw_bnd hf
      obtain ⟨r5, hr5, hf⟩ := hf
      refine gj_cVi (As := [.int (τ v2 0)]) (rest := []) C cb_X3_161 (s_X1_placeOf (gw_l K) Γ τ μ o (v4 + 36) (τ v2 0) (gw_kCR hk_v4) r5 hr5) rfl (Nat.le_of_ble_eq_true rfl) (gw_atR (gw_kCR hk_v4)) rfl rfl dX3_leave_22 (gw_rmk rfl) rfl ?_
      refine gj_iconst (v := -1) C dX3_leave_25 (by decide) ?_
      refine gj_ic_ne C 39 dX3_leave_26 (by decide) (fun c => ?_) (fun c => ?_)
      · replace hf := gw_iff hf c
        refine gj_aload C 0 dX3_leave_39 rfl ?_
        refine gj_iload_n C 3 dX3_leave_41 rfl ?_
        replace hf := gw_bnd hf
        obtain ⟨r6, hr6, hf⟩ := hf
        refine gj_cVi (As := [.int a1]) (rest := []) C cb_X3_199 (s_X0_hasOfferFor (gw_l K) Γ τ μ o v4 a1 hk_v4 r6 hr6) rfl (Nat.le_of_ble_eq_true rfl) (gw_atC hk_v4) rfl rfl dX3_leave_42 (gw_rmk rfl) rfl ?_
        refine gj_istore C 5 [(5, .int r6), (4, .ref (gw_a Γ v4)), (3, .ref (gw_a Γ v2)), (0, .ref (gw_a Γ 0)), (1, .int a1), (2, .int a2)] dX3_leave_45 (by decide) rfl ?_
        refine gj_aload C 1 dX3_leave_47 rfl ?_
        refine gj_iload_n C 4 dX3_leave_49 rfl ?_
        replace hf := gw_bnd hf
        obtain ⟨r7, hr7, hf⟩ := hf
        refine gj_cVv (As := [.int a1]) (rest := []) C cb_X3_149 (s_X0_takeOff (gw_l K) Γ τ μ o v4 a1 hk_v4 r7 hr7) rfl (Nat.le_of_ble_eq_true rfl) (gw_atC hk_v4) rfl rfl dX3_leave_50 (gw_rmk rfl) rfl ?_
        refine gj_aload_n C 3 dX3_leave_53 rfl ?_
        replace hf := gw_bnd hf
        obtain ⟨r8, hr8, hf⟩ := hf
        refine gj_cVv (As := []) (rest := []) C cb_X3_80 (s_X3_makeOffers (gw_l K) Γ r7 μ o  r8 hr8) rfl (Nat.le_of_ble_eq_true rfl) gw_atM rfl rfl dX3_leave_54 (gw_rmk rfl) rfl ?_
        refine gj_iload C 0 dX3_leave_57 rfl ?_
        cases hf
        exact gj_zretX C rfl E (z_X0_hasOfferFor hr6) dX3_leave_59 (Nat.le_of_ble_eq_true rfl) (Nat.le_of_ble_eq_true rfl)
      · replace hf := gw_ift hf c
        cases hf
        exact gj_throw C rfl E (by decide) cl_51 ini_51 st_205 at_55 dX3_leave_29 dX3_leave_32 dX3_leave_33 dX3_leave_35 dX3_leave_38 ⟨(Nat.le_of_ble_eq_true rfl), (Nat.le_of_ble_eq_true rfl)⟩ ⟨(Nat.le_of_ble_eq_true rfl), (Nat.le_of_ble_eq_true rfl)⟩ (Nat.le_of_ble_eq_true rfl) (Nat.le_of_ble_eq_true rfl)
set_option maxRecDepth 100000 in
set_option maxHeartbeats 4000000 in
theorem s_X3_daysLeft (l : Launch) (Γ : gw_G) (τ μ : gw_S) (o : Nat → Int64) (a1 : Nat) (a2 : Int32) (ha1 : gw_kC a1) (r : Int32) (hf : f_X3_daysLeft τ a1 a2 = some r) : gw_M l yX3_daysLeft [.code yX3_daysLeft cX3_daysLeft 3 (some .int)] gr_X3_daysLeft 0 0 Γ [.ref (gw_a Γ 0), .ref (gw_a Γ a1), .int a2] (gw_W Γ τ μ o) (gw_qi Γ r (gw_W Γ τ μ o)) := by
  refine gw_enter (by decide) (Nat.le_of_ble_eq_true rfl) (fun K C E => ?_)
  unfold f_X3_daysLeft at hf
  refine gj_iconst (v := 3) C dX3_daysLeft_0 (by decide) ?_
  refine gj_aload_n C 0 dX3_daysLeft_1 rfl ?_
  refine g_X3_32 C  rfl dX3_daysLeft_2 ?_
  refine gj_aload_n C 1 dX3_daysLeft_5 rfl ?_
  refine g_X3_277 C ha1 dX3_daysLeft_6 ?_
  refine gj_iload_n C 2 dX3_daysLeft_9 rfl ?_
  obtain ⟨g1, hf⟩ := gw_ifs hf
  refine gj_ald C (gw_kCA ha1) (gw_ibv g1) dX3_daysLeft_10 ?_
  refine gj_isub C dX3_daysLeft_11 ?_
  refine gj_isub C dX3_daysLeft_12 ?_
  cases hf
  exact gj_iret C E dX3_daysLeft_13 (Nat.le_of_ble_eq_true rfl) (Nat.le_of_ble_eq_true rfl)
set_option maxRecDepth 100000 in
set_option maxHeartbeats 4000000 in
theorem l_X3_endOldOffers_2 {K : gw_K} {Γ : gw_G} (C : gw_C K Γ cX3_endOldOffers 5 RX3) (μ : gw_S) (o : Nat → Int64) (v2 : Int32) (v3 : Nat) (hk3 : gw_kC v3) : ∀ (n : Nat) (v1 : Int32) (v4 : Int32) (τ : gw_S) (T : Int32 × Int32 × gw_S), gw_it (b_X3_endOldOffers_2 v2 v3) n (v1, v4, τ) = some T → (gw_J K Γ gr_X3_endOldOffers 0 0 (gw_W Γ T.2.2 μ o) 65 [(0, .ref (gw_a Γ 0)), (1, .int T.1), (2, .int v2), (3, .ref (gw_a Γ v3)), (4, .int T.2.1)] []) → gw_J K Γ gr_X3_endOldOffers 0 0 (gw_W Γ τ μ o) 22 [(0, .ref (gw_a Γ 0)), (1, .int v1), (2, .int v2), (3, .ref (gw_a Γ v3)), (4, .int v4)] [] := by
  intro n
  induction n with
  | zero => intro v1 v4 τ T  h; cases h
  | succ n ih =>
    intro v1 v4 τ T  h k
    obtain ⟨q, hf, hr⟩ := gw_it_s h
    rw [b_X3_endOldOffers_2] at hf
    refine gj_iload C 4 dX3_endOldOffers_22 rfl ?_
    refine gj_aload_n C 0 dX3_endOldOffers_24 rfl ?_
    refine g_X3_29 C  rfl dX3_endOldOffers_25 ?_
    refine gj_ic_ge C 65 dX3_endOldOffers_28 (by decide) (fun c => ?_) (fun c => ?_)
    · replace hf := gw_ift hf c
      cases hf
      cases gw_ir hr
      exact gj_pick [0, 1, 2, 3, 4] _ rfl (k )
    · replace hf := gw_iff hf c
      refine gj_aload_n C 3 dX3_endOldOffers_31 rfl ?_
      refine gj_iload C 4 dX3_endOldOffers_32 rfl ?_
      replace hf := gw_bnd hf
      obtain ⟨r2, hr2, hf⟩ := hf
      refine gj_cVi (As := [.int v4]) (rest := []) C cb_X3_199 (s_X0_hasOfferFor (gw_l K) Γ τ μ o v3 v4 hk3 r2 hr2) rfl (Nat.le_of_ble_eq_true rfl) (gw_atC hk3) rfl rfl dX3_endOldOffers_34 (gw_rmk rfl) rfl ?_
      refine gj_if_eq C 59 dX3_endOldOffers_37 (by decide) (fun c => ?_) (fun c => ?_)
      · replace hf := gw_ift hf c
        refine gj_iinc C 4 4 (v4 + 1) [(4, .int (v4 + 1)), (0, .ref (gw_a Γ 0)), (1, .int v1), (2, .int v2), (3, .ref (gw_a Γ v3))] dX3_endOldOffers_59 rfl rfl (by decide) rfl ?_
        refine gj_goto C 22 dX3_endOldOffers_62 (by decide) ?_
        cases hf
        replace hr := gw_il hr
        exact gj_pick [1, 2, 3, 4, 0] _ rfl (ih _ _ _ _  hr k)
      · replace hf := gw_iff hf c
        refine gj_aload_n C 0 dX3_endOldOffers_40 rfl ?_
        refine gj_aload_n C 3 dX3_endOldOffers_41 rfl ?_
        refine gj_iload C 4 dX3_endOldOffers_42 rfl ?_
        replace hf := gw_bnd hf
        obtain ⟨r3, hr3, hf⟩ := hf
        refine gj_cVi (As := [.ref (gw_a Γ v3), .int v4]) (rest := []) C cb_X3_212 (s_X3_daysLeft (gw_l K) Γ τ μ o v3 v4 hk3 r3 hr3) rfl (Nat.le_of_ble_eq_true rfl) gw_atM rfl rfl dX3_endOldOffers_44 (gw_rmk rfl) rfl ?_
        refine gj_if_gt C 59 dX3_endOldOffers_47 (by decide) (fun c => ?_) (fun c => ?_)
        · replace hf := gw_ift hf c
          refine gj_iinc C 4 4 (v4 + 1) [(4, .int (v4 + 1)), (0, .ref (gw_a Γ 0)), (1, .int v1), (2, .int v2), (3, .ref (gw_a Γ v3))] dX3_endOldOffers_59 rfl rfl (by decide) rfl ?_
          refine gj_goto C 22 dX3_endOldOffers_62 (by decide) ?_
          cases hf
          replace hr := gw_il hr
          exact gj_pick [1, 2, 3, 4, 0] _ rfl (ih _ _ _ _  hr k)
        · replace hf := gw_iff hf c
          refine gj_aload_n C 3 dX3_endOldOffers_50 rfl ?_
          refine gj_iload C 4 dX3_endOldOffers_51 rfl ?_
          replace hf := gw_bnd hf
          obtain ⟨r4, hr4, hf⟩ := hf
          refine gj_cVv (As := [.int v4]) (rest := []) C cb_X3_149 (s_X0_takeOff (gw_l K) Γ τ μ o v3 v4 hk3 r4 hr4) rfl (Nat.le_of_ble_eq_true rfl) (gw_atC hk3) rfl rfl dX3_endOldOffers_53 (gw_rmk rfl) rfl ?_
          refine gj_iinc C 1 1 (v1 + 1) [(1, .int (v1 + 1)), (0, .ref (gw_a Γ 0)), (2, .int v2), (3, .ref (gw_a Γ v3)), (4, .int v4)] dX3_endOldOffers_56 rfl rfl (by decide) rfl ?_
          refine gj_iinc C 4 4 (v4 + 1) [(4, .int (v4 + 1)), (1, .int (v1 + 1)), (0, .ref (gw_a Γ 0)), (2, .int v2), (3, .ref (gw_a Γ v3))] dX3_endOldOffers_59 rfl rfl (by decide) rfl ?_
          refine gj_goto C 22 dX3_endOldOffers_62 (by decide) ?_
          cases hf
          replace hr := gw_il hr
          exact gj_pick [2, 1, 3, 4, 0] _ rfl (ih _ _ _ _  hr k)
set_option maxRecDepth 100000 in
set_option maxHeartbeats 4000000 in
theorem l_X3_endOldOffers_1 {K : gw_K} {Γ : gw_G} (C : gw_C K Γ cX3_endOldOffers 5 RX3) (μ : gw_S) (o : Nat → Int64) : ∀ (n : Nat) (v1 : Int32) (v2 : Int32) (τ : gw_S) (T : Int32 × Int32 × gw_S), gw_it (b_X3_endOldOffers_1) n (v1, v2, τ) = some T → (gw_J K Γ gr_X3_endOldOffers 0 0 (gw_W Γ T.2.2 μ o) 71 [(0, .ref (gw_a Γ 0)), (1, .int T.1), (2, .int T.2.1)] []) → gw_J K Γ gr_X3_endOldOffers 0 0 (gw_W Γ τ μ o) 4 [(0, .ref (gw_a Γ 0)), (1, .int v1), (2, .int v2)] [] := by
  intro n
  induction n with
  | zero => intro v1 v2 τ T  h; cases h
  | succ n ih =>
    intro v1 v2 τ T  h k
    obtain ⟨q, hf, hr⟩ := gw_it_s h
    rw [b_X3_endOldOffers_1] at hf
    refine gj_iload_n C 2 dX3_endOldOffers_4 rfl ?_
    refine gj_aload_n C 0 dX3_endOldOffers_5 rfl ?_
    refine g_X3_25 C  rfl dX3_endOldOffers_6 ?_
    refine gj_ic_ge C 71 dX3_endOldOffers_9 (by decide) (fun c => ?_) (fun c => ?_)
    · replace hf := gw_ift hf c
      cases hf
      cases gw_ir hr
      exact gj_pick [0, 1, 2] _ rfl (k )
    · replace hf := gw_iff hf c
      refine gj_aload_n C 0 dX3_endOldOffers_12 rfl ?_
      refine g_X3_11 C  dX3_endOldOffers_13 ?_
      refine gj_iload_n C 2 dX3_endOldOffers_16 rfl ?_
      obtain ⟨g1, hf⟩ := gw_ifs hf
      refine gj_ald1 C (gw_ibv g1) dX3_endOldOffers_17 ?_
      refine gj_astore_n C 3 [(3, .ref (gw_a Γ (4 + v2.toNatClampNeg))), (0, .ref (gw_a Γ 0)), (1, .int v1), (2, .int v2)] dX3_endOldOffers_18 rfl (by decide) rfl ?_
      refine gj_iconst (v := 0) C dX3_endOldOffers_19 (by decide) ?_
      refine gj_istore C 4 [(4, .int (0 : Int32)), (3, .ref (gw_a Γ (4 + v2.toNatClampNeg))), (0, .ref (gw_a Γ 0)), (1, .int v1), (2, .int v2)] dX3_endOldOffers_20 (by decide) rfl ?_
      replace hf := gw_bnd hf
      obtain ⟨t5, ht5, hf⟩ := hf
      refine gj_pick [2, 3, 4, 1, 0] _ rfl (l_X3_endOldOffers_2 C μ o v2 (4 + v2.toNatClampNeg) (gw_vC (gw_ibv g1)) _ _ _ _ t5  ht5 (?_))
      refine gj_iinc C 2 2 (v2 + 1) [(2, .int (v2 + 1)), (0, .ref (gw_a Γ 0)), (1, .int t5.1), (3, .ref (gw_a Γ (4 + v2.toNatClampNeg))), (4, .int t5.2.1)] dX3_endOldOffers_65 rfl rfl (by decide) rfl ?_
      refine gj_goto C 4 dX3_endOldOffers_68 (by decide) ?_
      cases hf
      replace hr := gw_il hr
      exact gj_pick [1, 2, 0] _ rfl (ih _ _ _ _  hr k)
set_option maxRecDepth 100000 in
set_option maxHeartbeats 4000000 in
theorem s_X3_endOldOffers (l : Launch) (Γ : gw_G) (τ μ : gw_S) (o : Nat → Int64) (r : Int32 × gw_S) (hf : f_X3_endOldOffers τ = some r) : gw_M l yX3_endOldOffers [.code yX3_endOldOffers cX3_endOldOffers 5 (some .int)] gr_X3_endOldOffers 0 0 Γ [.ref (gw_a Γ 0)] (gw_W Γ τ μ o) (gw_qi Γ r.1 (gw_W Γ r.2 μ o)) := by
  refine gw_enter (by decide) (Nat.le_of_ble_eq_true rfl) (fun K C E => ?_)
  unfold f_X3_endOldOffers at hf
  refine gj_iconst (v := 0) C dX3_endOldOffers_0 (by decide) ?_
  refine gj_istore_n C 1 [(1, .int (0 : Int32)), (0, .ref (gw_a Γ 0))] dX3_endOldOffers_1 rfl (by decide) rfl ?_
  refine gj_iconst (v := 0) C dX3_endOldOffers_2 (by decide) ?_
  refine gj_istore_n C 2 [(2, .int (0 : Int32)), (1, .int (0 : Int32)), (0, .ref (gw_a Γ 0))] dX3_endOldOffers_3 rfl (by decide) rfl ?_
  replace hf := gw_bnd hf
  obtain ⟨t6, ht6, hf⟩ := hf
  refine gj_pick [2, 1, 0] _ rfl (l_X3_endOldOffers_1 C μ o _ _ _ _ t6  ht6 (?_))
  refine gj_iload_n C 1 dX3_endOldOffers_71 rfl ?_
  cases hf
  exact gj_iret C E dX3_endOldOffers_72 (Nat.le_of_ble_eq_true rfl) (Nat.le_of_ble_eq_true rfl)
set_option maxRecDepth 100000 in
set_option maxHeartbeats 4000000 in
theorem l_X3_advance_1 {K : gw_K} {Γ : gw_G} (C : gw_C K Γ cX3_advance 4 RX3) (μ : gw_S) (o : Nat → Int64) (v1 : Int32) : ∀ (n : Nat) (v2 : Int32) (v3 : Int32) (τ : gw_S) (T : Int32 × Int32 × gw_S), gw_it (b_X3_advance_1 v1) n (v2, v3, τ) = some T → (gw_J K Γ gr_X3_advance 0 0 (gw_W Γ T.2.2 μ o) 56 [(0, .ref (gw_a Γ 0)), (1, .int v1), (2, .int T.1), (3, .int T.2.1)] []) → gw_J K Γ gr_X3_advance 0 0 (gw_W Γ τ μ o) 24 [(0, .ref (gw_a Γ 0)), (1, .int v1), (2, .int v2), (3, .int v3)] [] := by
  intro n
  induction n with
  | zero => intro v2 v3 τ T  h; cases h
  | succ n ih =>
    intro v2 v3 τ T  h k
    obtain ⟨q, hf, hr⟩ := gw_it_s h
    rw [b_X3_advance_1] at hf
    refine gj_iload_n C 3 dX3_advance_24 rfl ?_
    refine gj_iload_n C 1 dX3_advance_25 rfl ?_
    refine gj_ic_ge C 56 dX3_advance_26 (by decide) (fun c => ?_) (fun c => ?_)
    · replace hf := gw_ift hf c
      cases hf
      cases gw_ir hr
      exact gj_pick [0, 1, 2, 3] _ rfl (k )
    · replace hf := gw_iff hf c
      refine gj_aload_n C 0 dX3_advance_29 rfl ?_
      refine gj_dup C dX3_advance_30 rfl ?_
      refine g_X3_32 C  rfl dX3_advance_31 ?_
      refine gj_iconst (v := 1) C dX3_advance_34 (by decide) ?_
      refine gj_iadd C dX3_advance_35 ?_
      refine p_X3_32 C  dX3_advance_36 ?_
      refine gj_iload_n C 2 dX3_advance_39 rfl ?_
      refine gj_aload_n C 0 dX3_advance_40 rfl ?_
      replace hf := gw_bnd hf
      obtain ⟨r2, hr2, hf⟩ := hf
      refine gj_cVi (As := []) (rest := [.int v2]) C cb_X3_209 (s_X3_endOldOffers (gw_l K) Γ (gw_up τ 0 4 ((τ 0 4) + (1 : Int32))) μ o  r2 hr2) rfl (Nat.le_of_ble_eq_true rfl) gw_atM rfl rfl dX3_advance_41 (gw_rmk rfl) rfl ?_
      refine gj_iadd C dX3_advance_44 ?_
      refine gj_istore_n C 2 [(2, .int (v2 + r2.1)), (0, .ref (gw_a Γ 0)), (1, .int v1), (3, .int v3)] dX3_advance_45 rfl (by decide) rfl ?_
      refine gj_aload_n C 1 dX3_advance_46 rfl ?_
      replace hf := gw_bnd hf
      obtain ⟨r3, hr3, hf⟩ := hf
      refine gj_cVv (As := []) (rest := []) C cb_X3_80 (s_X3_makeOffers (gw_l K) Γ r2.2 μ o  r3 hr3) rfl (Nat.le_of_ble_eq_true rfl) gw_atM rfl rfl dX3_advance_47 (gw_rmk rfl) rfl ?_
      refine gj_iinc C 3 3 (v3 + 1) [(3, .int (v3 + 1)), (2, .int (v2 + r2.1)), (0, .ref (gw_a Γ 0)), (1, .int v1)] dX3_advance_50 rfl rfl (by decide) rfl ?_
      refine gj_goto C 24 dX3_advance_53 (by decide) ?_
      cases hf
      replace hr := gw_il hr
      exact gj_pick [2, 3, 1, 0] _ rfl (ih _ _ _ _  hr k)
set_option maxRecDepth 100000 in
set_option maxHeartbeats 4000000 in
theorem s_X3_advance (l : Launch) (Γ : gw_G) (τ μ : gw_S) (o : Nat → Int64) (a1 : Int32) (r : (Int32 ⊕ String) × gw_S) (hf : f_X3_advance τ a1 = some r) : gw_MX l yX3_advance [.code yX3_advance cX3_advance 4 (some .int)] gr_X3_advance 1 6 Γ [.ref (gw_a Γ 0), .int a1] (gw_W Γ τ μ o) (gw_qI Γ r.1 (gw_W Γ r.2 μ o)) (gw_x Γ r.1 (gw_W Γ r.2 μ o)) := by
  refine gw_enterX (by decide) (Nat.le_of_ble_eq_true rfl) (fun K C E => ?_)
  unfold f_X3_advance at hf
  refine gj_iload_n C 1 dX3_advance_0 rfl ?_
  refine gj_iconst (v := 1) C dX3_advance_1 (by decide) ?_
  refine gj_bipush (v := 7) C dX3_advance_2 (by decide) ?_
  replace hf := gw_bnd hf
  obtain ⟨r1, hr1, hf⟩ := hf
  refine gj_cSi (As := [.int a1, .int (1 : Int32), .int (7 : Int32)]) (rest := []) C cb_X3_39 (s_X3_isOutside (gw_l K) Γ τ μ o a1 (1 : Int32) (7 : Int32) r1 hr1) rfl (Nat.le_of_ble_eq_true rfl) dX3_advance_4 (gw_rmk rfl) rfl ?_
  refine gj_if_eq C 20 dX3_advance_7 (by decide) (fun c => ?_) (fun c => ?_)
  · replace hf := gw_ift hf c
    refine gj_iconst (v := 0) C dX3_advance_20 (by decide) ?_
    refine gj_istore_n C 2 [(2, .int (0 : Int32)), (0, .ref (gw_a Γ 0)), (1, .int a1)] dX3_advance_21 rfl (by decide) rfl ?_
    refine gj_iconst (v := 0) C dX3_advance_22 (by decide) ?_
    refine gj_istore_n C 3 [(3, .int (0 : Int32)), (2, .int (0 : Int32)), (0, .ref (gw_a Γ 0)), (1, .int a1)] dX3_advance_23 rfl (by decide) rfl ?_
    replace hf := gw_bnd hf
    obtain ⟨t4, ht4, hf⟩ := hf
    refine gj_pick [2, 3, 1, 0] _ rfl (l_X3_advance_1 C μ o a1 _ _ _ _ t4  ht4 (?_))
    refine gj_iload_n C 2 dX3_advance_56 rfl ?_
    cases hf
    exact gj_iretX C rfl E dX3_advance_57 (Nat.le_of_ble_eq_true rfl) (Nat.le_of_ble_eq_true rfl)
  · replace hf := gw_iff hf c
    cases hf
    exact gj_throw C rfl E (by decide) cl_44 ini_44 st_207 at_48 dX3_advance_10 dX3_advance_13 dX3_advance_14 dX3_advance_16 dX3_advance_19 ⟨(Nat.le_of_ble_eq_true rfl), (Nat.le_of_ble_eq_true rfl)⟩ ⟨(Nat.le_of_ble_eq_true rfl), (Nat.le_of_ble_eq_true rfl)⟩ (Nat.le_of_ble_eq_true rfl) (Nat.le_of_ble_eq_true rfl)
set_option maxRecDepth 100000 in
set_option maxHeartbeats 4000000 in
theorem s_X3_day (l : Launch) (Γ : gw_G) (τ μ : gw_S) (o : Nat → Int64) (r : Int32) (hf : f_X3_day τ = some r) : gw_M l yX3_day [.code yX3_day cX3_day 1 (some .int)] gr_X3_day 0 0 Γ [.ref (gw_a Γ 0)] (gw_W Γ τ μ o) (gw_qi Γ r (gw_W Γ τ μ o)) := by
  refine gw_enter (by decide) (Nat.le_of_ble_eq_true rfl) (fun K C E => ?_)
  unfold f_X3_day at hf
  refine gj_aload_n C 0 dX3_day_0 rfl ?_
  refine g_X3_32 C  rfl dX3_day_1 ?_
  cases hf
  exact gj_iret C E dX3_day_4 (Nat.le_of_ble_eq_true rfl) (Nat.le_of_ble_eq_true rfl)
set_option maxRecDepth 100000 in
set_option maxHeartbeats 4000000 in
theorem s_X3_waiting (l : Launch) (Γ : gw_G) (τ μ : gw_S) (o : Nat → Int64) (a1 : Int32) (r : (Int32 ⊕ String)) (hf : f_X3_waiting τ a1 = some r) : gw_MX l yX3_waiting [.code yX3_waiting cX3_waiting 2 (some .int)] gr_X3_waiting 1 6 Γ [.ref (gw_a Γ 0), .int a1] (gw_W Γ τ μ o) (gw_qI Γ r (gw_W Γ τ μ o)) (gw_x Γ r (gw_W Γ τ μ o)) := by
  refine gw_enterX (by decide) (Nat.le_of_ble_eq_true rfl) (fun K C E => ?_)
  unfold f_X3_waiting at hf
  refine gj_aload_n C 0 dX3_waiting_0 rfl ?_
  refine gj_iload_n C 1 dX3_waiting_1 rfl ?_
  replace hf := gw_bnd hf
  obtain ⟨r1, hr1, hf⟩ := hf
  refine gj_cVR (As := [.int a1]) (rest := []) C cb_X3_68 (s_X3_courseAt (gw_l K) Γ τ μ o a1 r1 hr1) rfl (Nat.le_of_ble_eq_true rfl) gw_atM rfl rfl dX3_waiting_2 (gw_rmk rfl) rfl (fun e he => ?_) (fun v2 he => ?_)
  · replace hf := gw_xr hf he
    cases hf
    exact gj_out C rfl E (Nat.le_of_ble_eq_true rfl) (Nat.le_of_ble_eq_true rfl)
  · replace hf := gw_xl hf he
    subst he
    have hk_v2 := k_courseAt hr1
    refine g_X3_179 C hk_v2 dX3_waiting_5 ?_
    replace hf := gw_bnd hf
    obtain ⟨r3, hr3, hf⟩ := hf
    refine gj_cVi (As := []) (rest := []) C cb_X3_164 (s_X1_size (gw_l K) Γ τ μ o (v2 + 36) (gw_kCR hk_v2) r3 hr3) rfl (Nat.le_of_ble_eq_true rfl) (gw_atR (gw_kCR hk_v2)) rfl rfl dX3_waiting_8 (gw_rmk rfl) rfl ?_
    cases hf
    exact gj_iretX C rfl E dX3_waiting_11 (Nat.le_of_ble_eq_true rfl) (Nat.le_of_ble_eq_true rfl)
set_option maxRecDepth 100000 in
set_option maxHeartbeats 4000000 in
theorem sr_X3_waiting (l : Launch) (Γ : gw_G) (τ μ : gw_S) (o : Nat → Int64) (a1 : Int32) (k : Int32) (hf : f_X3_waiting τ a1 = some (.inl k)) : gw_M l yX3_waiting [.code yX3_waiting cX3_waiting 2 (some .int)] gr_X3_waitingr 0 0 Γ [.ref (gw_a Γ 0), .int a1] (gw_W Γ τ μ o) (gw_qi Γ k (gw_W Γ τ μ o)) := by
  refine gw_enter (by decide) (Nat.le_of_ble_eq_true rfl) (fun K C E => ?_)
  unfold f_X3_waiting at hf
  refine gj_aload_n C 0 dX3_waiting_0 rfl ?_
  refine gj_iload_n C 1 dX3_waiting_1 rfl ?_
  replace hf := gw_bnd hf
  obtain ⟨r1, hr1, hf⟩ := hf
  replace hf := gw_xm hf
  obtain ⟨v2, he, hf⟩ := hf
  subst he
  have hk_v2 := k_courseAt hr1
  refine gj_cVr (As := [.int a1]) (rest := []) C cb_X3_68 (sr_X3_courseAt (gw_l K) Γ τ μ o a1 v2 hr1) rfl (Nat.le_of_ble_eq_true rfl) gw_atM rfl rfl dX3_waiting_2 (gw_rmk rfl) rfl ?_
  refine g_X3_179 C hk_v2 dX3_waiting_5 ?_
  replace hf := gw_bnd hf
  obtain ⟨r3, hr3, hf⟩ := hf
  refine gj_cVi (As := []) (rest := []) C cb_X3_164 (s_X1_size (gw_l K) Γ τ μ o (v2 + 36) (gw_kCR hk_v2) r3 hr3) rfl (Nat.le_of_ble_eq_true rfl) (gw_atR (gw_kCR hk_v2)) rfl rfl dX3_waiting_8 (gw_rmk rfl) rfl ?_
  cases hf
  exact gj_iret C E dX3_waiting_11 (Nat.le_of_ble_eq_true rfl) (Nat.le_of_ble_eq_true rfl)
set_option maxRecDepth 100000 in
set_option maxHeartbeats 4000000 in
theorem s_X3_waitingAt (l : Launch) (Γ : gw_G) (τ μ : gw_S) (o : Nat → Int64) (a1 : Int32) (a2 : Int32) (r : (Int32 ⊕ String)) (hf : f_X3_waitingAt τ a1 a2 = some r) : gw_MX l yX3_waitingAt [.code yX3_waitingAt cX3_waitingAt 3 (some .int)] gr_X3_waitingAt 2 12 Γ [.ref (gw_a Γ 0), .int a1, .int a2] (gw_W Γ τ μ o) (gw_qI Γ r (gw_W Γ τ μ o)) (gw_x Γ r (gw_W Γ τ μ o)) := by
  refine gw_enterX (by decide) (Nat.le_of_ble_eq_true rfl) (fun K C E => ?_)
  unfold f_X3_waitingAt at hf
  refine gj_aload_n C 0 dX3_waitingAt_0 rfl ?_
  refine gj_iload_n C 1 dX3_waitingAt_1 rfl ?_
  replace hf := gw_bnd hf
  obtain ⟨r1, hr1, hf⟩ := hf
  refine gj_cVR (As := [.int a1]) (rest := []) C cb_X3_68 (s_X3_courseAt (gw_l K) Γ τ μ o a1 r1 hr1) rfl (Nat.le_of_ble_eq_true rfl) gw_atM rfl rfl dX3_waitingAt_2 (gw_rmk rfl) rfl (fun e he => ?_) (fun v2 he => ?_)
  · replace hf := gw_xr hf he
    cases hf
    exact gj_out C rfl E (Nat.le_of_ble_eq_true rfl) (Nat.le_of_ble_eq_true rfl)
  · replace hf := gw_xl hf he
    subst he
    have hk_v2 := k_courseAt hr1
    refine g_X3_179 C hk_v2 dX3_waitingAt_5 ?_
    refine gj_iload_n C 2 dX3_waitingAt_8 rfl ?_
    replace hf := gw_bnd hf
    obtain ⟨r3, hr3, hf⟩ := hf
    refine gj_cSI (As := [.ref (gw_a Γ (v2 + 36)), .int a2]) (rest := []) C cb_X3_175 (s_X3_foundAt (gw_l K) Γ τ μ o (v2 + 36) a2 (gw_kCR hk_v2) r3 hr3) rfl (Nat.le_of_ble_eq_true rfl) dX3_waitingAt_9 (gw_rmk rfl) rfl (fun e he => ?_) (fun v4 he => ?_)
    · replace hf := gw_xr hf he
      cases hf
      exact gj_out C rfl E (Nat.le_of_ble_eq_true rfl) (Nat.le_of_ble_eq_true rfl)
    · replace hf := gw_xl hf he
      subst he
      cases hf
      exact gj_iretX C rfl E dX3_waitingAt_12 (Nat.le_of_ble_eq_true rfl) (Nat.le_of_ble_eq_true rfl)
set_option maxRecDepth 100000 in
set_option maxHeartbeats 4000000 in
theorem sr_X3_waitingAt (l : Launch) (Γ : gw_G) (τ μ : gw_S) (o : Nat → Int64) (a1 : Int32) (a2 : Int32) (k : Int32) (hf : f_X3_waitingAt τ a1 a2 = some (.inl k)) : gw_M l yX3_waitingAt [.code yX3_waitingAt cX3_waitingAt 3 (some .int)] gr_X3_waitingAtr 0 0 Γ [.ref (gw_a Γ 0), .int a1, .int a2] (gw_W Γ τ μ o) (gw_qi Γ k (gw_W Γ τ μ o)) := by
  refine gw_enter (by decide) (Nat.le_of_ble_eq_true rfl) (fun K C E => ?_)
  unfold f_X3_waitingAt at hf
  refine gj_aload_n C 0 dX3_waitingAt_0 rfl ?_
  refine gj_iload_n C 1 dX3_waitingAt_1 rfl ?_
  replace hf := gw_bnd hf
  obtain ⟨r1, hr1, hf⟩ := hf
  replace hf := gw_xm hf
  obtain ⟨v2, he, hf⟩ := hf
  subst he
  have hk_v2 := k_courseAt hr1
  refine gj_cVr (As := [.int a1]) (rest := []) C cb_X3_68 (sr_X3_courseAt (gw_l K) Γ τ μ o a1 v2 hr1) rfl (Nat.le_of_ble_eq_true rfl) gw_atM rfl rfl dX3_waitingAt_2 (gw_rmk rfl) rfl ?_
  refine g_X3_179 C hk_v2 dX3_waitingAt_5 ?_
  refine gj_iload_n C 2 dX3_waitingAt_8 rfl ?_
  replace hf := gw_bnd hf
  obtain ⟨r3, hr3, hf⟩ := hf
  replace hf := gw_xm hf
  obtain ⟨v4, he, hf⟩ := hf
  subst he
  refine gj_cSi (As := [.ref (gw_a Γ (v2 + 36)), .int a2]) (rest := []) C cb_X3_175 (sr_X3_foundAt (gw_l K) Γ τ μ o (v2 + 36) a2 (gw_kCR hk_v2) v4 hr3) rfl (Nat.le_of_ble_eq_true rfl) dX3_waitingAt_9 (gw_rmk rfl) rfl ?_
  cases hf
  exact gj_iret C E dX3_waitingAt_12 (Nat.le_of_ble_eq_true rfl) (Nat.le_of_ble_eq_true rfl)
set_option maxRecDepth 100000 in
set_option maxHeartbeats 4000000 in
theorem s_X3_offerDays (l : Launch) (Γ : gw_G) (τ μ : gw_S) (o : Nat → Int64) (a1 : Int32) (a2 : Int32) (r : (Int32 ⊕ String)) (hf : f_X3_offerDays τ a1 a2 = some r) : gw_MX l yX3_offerDays [.code yX3_offerDays cX3_offerDays 5 (some .int)] gr_X3_offerDays 2 12 Γ [.ref (gw_a Γ 0), .int a1, .int a2] (gw_W Γ τ μ o) (gw_qI Γ r (gw_W Γ τ μ o)) (gw_x Γ r (gw_W Γ τ μ o)) := by
  refine gw_enterX (by decide) (Nat.le_of_ble_eq_true rfl) (fun K C E => ?_)
  unfold f_X3_offerDays at hf
  refine gj_aload_n C 0 dX3_offerDays_0 rfl ?_
  refine gj_iload_n C 1 dX3_offerDays_1 rfl ?_
  replace hf := gw_bnd hf
  obtain ⟨r1, hr1, hf⟩ := hf
  refine gj_cVR (As := [.int a1]) (rest := []) C cb_X3_128 (s_X3_studentAt (gw_l K) Γ τ μ o a1 r1 hr1) rfl (Nat.le_of_ble_eq_true rfl) gw_atM rfl rfl dX3_offerDays_2 (gw_rmk rfl) rfl (fun e he => ?_) (fun v2 he => ?_)
  · replace hf := gw_xr hf he
    cases hf
    exact gj_out C rfl E (Nat.le_of_ble_eq_true rfl) (Nat.le_of_ble_eq_true rfl)
  · replace hf := gw_xl hf he
    subst he
    have hk_v2 := k_studentAt hr1
    refine gj_astore_n C 3 [(3, .ref (gw_a Γ v2)), (0, .ref (gw_a Γ 0)), (1, .int a1), (2, .int a2)] dX3_offerDays_5 rfl (by decide) rfl ?_
    refine gj_aload_n C 1 dX3_offerDays_6 rfl ?_
    refine gj_iload_n C 3 dX3_offerDays_7 rfl ?_
    replace hf := gw_bnd hf
    obtain ⟨r3, hr3, hf⟩ := hf
    refine gj_cVR (As := [.int a2]) (rest := []) C cb_X3_68 (s_X3_courseAt (gw_l K) Γ τ μ o a2 r3 hr3) rfl (Nat.le_of_ble_eq_true rfl) gw_atM rfl rfl dX3_offerDays_8 (gw_rmk rfl) rfl (fun e he => ?_) (fun v4 he => ?_)
    · replace hf := gw_xr hf he
      cases hf
      exact gj_out C rfl E (Nat.le_of_ble_eq_true rfl) (Nat.le_of_ble_eq_true rfl)
    · replace hf := gw_xl hf he
      subst he
      have hk_v4 := k_courseAt hr3
      refine gj_astore C 4 [(4, .ref (gw_a Γ v4)), (3, .ref (gw_a Γ v2)), (0, .ref (gw_a Γ 0)), (1, .int a1), (2, .int a2)] dX3_offerDays_11 (by decide) rfl ?_
      refine gj_aload C 0 dX3_offerDays_13 rfl ?_
      refine gj_aload_n C 1 dX3_offerDays_15 rfl ?_
      refine g_X3_127 C hk_v2 rfl dX3_offerDays_16 ?_
      replace hf := gw_bnd hf
      obtain ⟨r5, hr5, hf⟩ := hf
      refine gj_cVi (As := [.int (τ v2 0)]) (rest := []) C cb_X3_199 (s_X0_hasOfferFor (gw_l K) Γ τ μ o v4 (τ v2 0) hk_v4 r5 hr5) rfl (Nat.le_of_ble_eq_true rfl) (gw_atC hk_v4) rfl rfl dX3_offerDays_19 (gw_rmk rfl) rfl ?_
      refine gj_if_eq C 38 dX3_offerDays_22 (by decide) (fun c => ?_) (fun c => ?_)
      · replace hf := gw_ift hf c
        refine gj_iconst (v := 0) C dX3_offerDays_38 (by decide) ?_
        cases hf
        exact gj_iretX C rfl E dX3_offerDays_39 (Nat.le_of_ble_eq_true rfl) (Nat.le_of_ble_eq_true rfl)
      · replace hf := gw_iff hf c
        refine gj_aload_n C 2 dX3_offerDays_25 rfl ?_
        refine gj_aload C 0 dX3_offerDays_26 rfl ?_
        refine gj_aload_n C 1 dX3_offerDays_28 rfl ?_
        refine g_X3_127 C hk_v2 rfl dX3_offerDays_29 ?_
        replace hf := gw_bnd hf
        obtain ⟨r6, hr6, hf⟩ := hf
        refine gj_cVi (As := [.ref (gw_a Γ v4), .int (τ v2 0)]) (rest := []) C cb_X3_212 (s_X3_daysLeft (gw_l K) Γ τ μ o v4 (τ v2 0) hk_v4 r6 hr6) rfl (Nat.le_of_ble_eq_true rfl) gw_atM rfl rfl dX3_offerDays_32 (gw_rmk rfl) rfl ?_
        refine gj_goto C 39 dX3_offerDays_35 (by decide) ?_
        cases hf
        exact gj_iretX C rfl E dX3_offerDays_39 (Nat.le_of_ble_eq_true rfl) (Nat.le_of_ble_eq_true rfl)
set_option maxRecDepth 100000 in
set_option maxHeartbeats 4000000 in
theorem sr_X3_offerDays (l : Launch) (Γ : gw_G) (τ μ : gw_S) (o : Nat → Int64) (a1 : Int32) (a2 : Int32) (k : Int32) (hf : f_X3_offerDays τ a1 a2 = some (.inl k)) : gw_M l yX3_offerDays [.code yX3_offerDays cX3_offerDays 5 (some .int)] gr_X3_offerDaysr 0 0 Γ [.ref (gw_a Γ 0), .int a1, .int a2] (gw_W Γ τ μ o) (gw_qi Γ k (gw_W Γ τ μ o)) := by
  refine gw_enter (by decide) (Nat.le_of_ble_eq_true rfl) (fun K C E => ?_)
  unfold f_X3_offerDays at hf
  refine gj_aload_n C 0 dX3_offerDays_0 rfl ?_
  refine gj_iload_n C 1 dX3_offerDays_1 rfl ?_
  replace hf := gw_bnd hf
  obtain ⟨r1, hr1, hf⟩ := hf
  replace hf := gw_xm hf
  obtain ⟨v2, he, hf⟩ := hf
  subst he
  have hk_v2 := k_studentAt hr1
  refine gj_cVr (As := [.int a1]) (rest := []) C cb_X3_128 (sr_X3_studentAt (gw_l K) Γ τ μ o a1 v2 hr1) rfl (Nat.le_of_ble_eq_true rfl) gw_atM rfl rfl dX3_offerDays_2 (gw_rmk rfl) rfl ?_
  refine gj_astore_n C 3 [(3, .ref (gw_a Γ v2)), (0, .ref (gw_a Γ 0)), (1, .int a1), (2, .int a2)] dX3_offerDays_5 rfl (by decide) rfl ?_
  refine gj_aload_n C 1 dX3_offerDays_6 rfl ?_
  refine gj_iload_n C 3 dX3_offerDays_7 rfl ?_
  replace hf := gw_bnd hf
  obtain ⟨r3, hr3, hf⟩ := hf
  replace hf := gw_xm hf
  obtain ⟨v4, he, hf⟩ := hf
  subst he
  have hk_v4 := k_courseAt hr3
  refine gj_cVr (As := [.int a2]) (rest := []) C cb_X3_68 (sr_X3_courseAt (gw_l K) Γ τ μ o a2 v4 hr3) rfl (Nat.le_of_ble_eq_true rfl) gw_atM rfl rfl dX3_offerDays_8 (gw_rmk rfl) rfl ?_
  refine gj_astore C 4 [(4, .ref (gw_a Γ v4)), (3, .ref (gw_a Γ v2)), (0, .ref (gw_a Γ 0)), (1, .int a1), (2, .int a2)] dX3_offerDays_11 (by decide) rfl ?_
  refine gj_aload C 0 dX3_offerDays_13 rfl ?_
  refine gj_aload_n C 1 dX3_offerDays_15 rfl ?_
  refine g_X3_127 C hk_v2 rfl dX3_offerDays_16 ?_
  replace hf := gw_bnd hf
  obtain ⟨r5, hr5, hf⟩ := hf
  refine gj_cVi (As := [.int (τ v2 0)]) (rest := []) C cb_X3_199 (s_X0_hasOfferFor (gw_l K) Γ τ μ o v4 (τ v2 0) hk_v4 r5 hr5) rfl (Nat.le_of_ble_eq_true rfl) (gw_atC hk_v4) rfl rfl dX3_offerDays_19 (gw_rmk rfl) rfl ?_
  refine gj_if_eq C 38 dX3_offerDays_22 (by decide) (fun c => ?_) (fun c => ?_)
  · replace hf := gw_ift hf c
    refine gj_iconst (v := 0) C dX3_offerDays_38 (by decide) ?_
    cases hf
    exact gj_iret C E dX3_offerDays_39 (Nat.le_of_ble_eq_true rfl) (Nat.le_of_ble_eq_true rfl)
  · replace hf := gw_iff hf c
    refine gj_aload_n C 2 dX3_offerDays_25 rfl ?_
    refine gj_aload C 0 dX3_offerDays_26 rfl ?_
    refine gj_aload_n C 1 dX3_offerDays_28 rfl ?_
    refine g_X3_127 C hk_v2 rfl dX3_offerDays_29 ?_
    replace hf := gw_bnd hf
    obtain ⟨r6, hr6, hf⟩ := hf
    refine gj_cVi (As := [.ref (gw_a Γ v4), .int (τ v2 0)]) (rest := []) C cb_X3_212 (s_X3_daysLeft (gw_l K) Γ τ μ o v4 (τ v2 0) hk_v4 r6 hr6) rfl (Nat.le_of_ble_eq_true rfl) gw_atM rfl rfl dX3_offerDays_32 (gw_rmk rfl) rfl ?_
    refine gj_goto C 39 dX3_offerDays_35 (by decide) ?_
    cases hf
    exact gj_iret C E dX3_offerDays_39 (Nat.le_of_ble_eq_true rfl) (Nat.le_of_ble_eq_true rfl)
set_option maxRecDepth 100000 in
set_option maxHeartbeats 4000000 in
theorem l_X3_drawNumbers_1 {K : gw_K} {Γ : gw_G} (C : gw_C K Γ cX3_drawNumbers 5 RX3) (μ : gw_S) (o : Nat → Int64) (v1 : Int32) : ∀ (n : Nat) (v2 : Int64) (v4 : Int32) (τ : gw_S) (T : Int64 × Int32 × gw_S), gw_it (b_X3_drawNumbers_1 v1) n (v2, v4, τ) = some T → (gw_J K Γ gr_X3_drawNumbers 0 0 (gw_W Γ T.2.2 μ o) 51 [(0, .ref (gw_a Γ 0)), (1, .int v1), (2, .long T.1), (4, .int T.2.1)] []) → gw_J K Γ gr_X3_drawNumbers 0 0 (gw_W Γ τ μ o) 6 [(0, .ref (gw_a Γ 0)), (1, .int v1), (2, .long v2), (4, .int v4)] [] := by
  intro n
  induction n with
  | zero => intro v2 v4 τ T  h; cases h
  | succ n ih =>
    intro v2 v4 τ T  h k
    obtain ⟨q, hf, hr⟩ := gw_it_s h
    rw [b_X3_drawNumbers_1] at hf
    refine gj_iload C 3 dX3_drawNumbers_6 rfl ?_
    refine gj_aload_n C 0 dX3_drawNumbers_8 rfl ?_
    refine g_X3_29 C  rfl dX3_drawNumbers_9 ?_
    refine gj_ic_ge C 51 dX3_drawNumbers_12 (by decide) (fun c => ?_) (fun c => ?_)
    · replace hf := gw_ift hf c
      cases hf
      cases gw_ir hr
      exact gj_pick [0, 1, 2, 3] _ rfl (k )
    · replace hf := gw_iff hf c
      refine gj_ldc2 (v := 1103515245) C cst_X3_280 dX3_drawNumbers_15 ?_
      refine gj_lload_n C 2 dX3_drawNumbers_18 rfl ?_
      refine gj_lmul C dX3_drawNumbers_19 ?_
      refine gj_ldc2 (v := 12345) C cst_X3_282 dX3_drawNumbers_20 ?_
      refine gj_ladd C dX3_drawNumbers_23 ?_
      refine gj_ldc2 (v := 2147483648) C cst_X3_284 dX3_drawNumbers_24 ?_
      refine gj_lrem C dX3_drawNumbers_27 (by decide) ?_
      refine gj_lstore_n C 2 [(2, .long ((((1103515245 : Int64) * v2) + (12345 : Int64)) - (((1103515245 : Int64) * v2) + (12345 : Int64)) / (2147483648 : Int64) * (2147483648 : Int64))), (0, .ref (gw_a Γ 0)), (1, .int v1), (4, .int v4)] dX3_drawNumbers_28 rfl (by decide) rfl ?_
      refine gj_aload_n C 1 dX3_drawNumbers_29 rfl ?_
      refine g_X3_20 C  dX3_drawNumbers_30 ?_
      refine gj_iload C 3 dX3_drawNumbers_33 rfl ?_
      obtain ⟨g1, hf⟩ := gw_ifs hf
      refine gj_ald2 C (gw_ibv g1) dX3_drawNumbers_35 ?_
      refine gj_lload_n C 0 dX3_drawNumbers_36 rfl ?_
      refine gj_ldc2 (v := 65536) C cst_X3_286 dX3_drawNumbers_37 ?_
      refine gj_ldiv C dX3_drawNumbers_40 (by decide) ?_
      refine gj_l2i C dX3_drawNumbers_41 ?_
      refine p_X3_228 C (gw_vS (gw_ibv g1)) dX3_drawNumbers_42 ?_
      refine gj_iinc C 4 3 (v4 + 1) [(4, .int (v4 + 1)), (2, .long ((((1103515245 : Int64) * v2) + (12345 : Int64)) - (((1103515245 : Int64) * v2) + (12345 : Int64)) / (2147483648 : Int64) * (2147483648 : Int64))), (0, .ref (gw_a Γ 0)), (1, .int v1)] dX3_drawNumbers_45 rfl rfl (by decide) rfl ?_
      refine gj_goto C 6 dX3_drawNumbers_48 (by decide) ?_
      cases hf
      replace hr := gw_il hr
      exact gj_pick [2, 3, 1, 0] _ rfl (ih _ _ _ _  hr k)
set_option maxRecDepth 100000 in
set_option maxHeartbeats 4000000 in
theorem s_X3_drawNumbers (l : Launch) (Γ : gw_G) (τ μ : gw_S) (o : Nat → Int64) (a1 : Int32) (r : gw_S) (hf : f_X3_drawNumbers τ a1 = some r) : gw_M l yX3_drawNumbers [.code yX3_drawNumbers cX3_drawNumbers 5 none] gr_X3_drawNumbers 0 0 Γ [.ref (gw_a Γ 0), .int a1] (gw_W Γ τ μ o) (gw_qv Γ (gw_W Γ r μ o)) := by
  refine gw_enter (by decide) (Nat.le_of_ble_eq_true rfl) (fun K C E => ?_)
  unfold f_X3_drawNumbers at hf
  refine gj_iload_n C 1 dX3_drawNumbers_0 rfl ?_
  refine gj_i2l C dX3_drawNumbers_1 ?_
  refine gj_lstore_n C 2 [(2, .long a1.toInt64), (0, .ref (gw_a Γ 0)), (1, .int a1)] dX3_drawNumbers_2 rfl (by decide) rfl ?_
  refine gj_iconst (v := 0) C dX3_drawNumbers_3 (by decide) ?_
  refine gj_istore C 4 [(4, .int (0 : Int32)), (2, .long a1.toInt64), (0, .ref (gw_a Γ 0)), (1, .int a1)] dX3_drawNumbers_4 (by decide) rfl ?_
  replace hf := gw_bnd hf
  obtain ⟨t2, ht2, hf⟩ := hf
  refine gj_pick [2, 3, 1, 0] _ rfl (l_X3_drawNumbers_1 C μ o a1 _ _ _ _ t2  ht2 (?_))
  cases hf
  exact gj_vret C E dX3_drawNumbers_51 (Nat.le_of_ble_eq_true rfl) (Nat.le_of_ble_eq_true rfl)
set_option maxRecDepth 100000 in
set_option maxHeartbeats 4000000 in
theorem s_X3_turnOf (l : Launch) (Γ : gw_G) (τ μ : gw_S) (o : Nat → Int64) (a0 : Nat) (ha0 : gw_kS a0) (r : Int32) (hf : f_X3_turnOf τ a0 = some r) : gw_M l yX3_turnOf [.code yX3_turnOf cX3_turnOf 1 (some .int)] gr_X3_turnOf 0 0 Γ [.ref (gw_a Γ a0)] (gw_W Γ τ μ o) (gw_qi Γ r (gw_W Γ τ μ o)) := by
  refine gw_enter (by decide) (Nat.le_of_ble_eq_true rfl) (fun K C E => ?_)
  unfold f_X3_turnOf at hf
  refine gj_aload_n C 0 dX3_turnOf_0 rfl ?_
  refine g_X3_121 C ha0 rfl dX3_turnOf_1 ?_
  refine gj_ldcw (v := 32768) C cst_X3_288 dX3_turnOf_4 ?_
  refine gj_imul C dX3_turnOf_7 ?_
  refine gj_aload_n C 0 dX3_turnOf_8 rfl ?_
  refine g_X3_228 C ha0 rfl dX3_turnOf_9 ?_
  refine gj_iadd C dX3_turnOf_12 ?_
  refine gj_bipush (v := 16) C dX3_turnOf_13 (by decide) ?_
  refine gj_imul C dX3_turnOf_15 ?_
  refine gj_aload_n C 0 dX3_turnOf_16 rfl ?_
  refine g_X3_127 C ha0 rfl dX3_turnOf_17 ?_
  refine gj_iadd C dX3_turnOf_20 ?_
  cases hf
  exact gj_iret C E dX3_turnOf_21 (Nat.le_of_ble_eq_true rfl) (Nat.le_of_ble_eq_true rfl)
set_option maxRecDepth 100000 in
set_option maxHeartbeats 4000000 in
theorem l_X3_orderTurns_2 {K : gw_K} {Γ : gw_G} (C : gw_C K Γ cX3_orderTurns 4 RX3) (μ : gw_S) (o : Nat → Int64) (v1 : Int32) (v2 : Int32) : ∀ (n : Nat) (v3 : Int32) (τ : gw_S) (T : Int32 × gw_S), gw_it (b_X3_orderTurns_2 v1 v2) n (v3, τ) = some T → (gw_J K Γ gr_X3_orderTurns 0 0 (gw_W Γ T.2 μ o) 58 [(0, .ref (gw_a Γ 0)), (1, .int v1), (2, .int v2), (3, .int T.1)] []) → gw_J K Γ gr_X3_orderTurns 0 0 (gw_W Γ τ μ o) 22 [(0, .ref (gw_a Γ 0)), (1, .int v1), (2, .int v2), (3, .int v3)] [] := by
  intro n
  induction n with
  | zero => intro v3 τ T  h; cases h
  | succ n ih =>
    intro v3 τ T  h k
    obtain ⟨q, hf, hr⟩ := gw_it_s h
    rw [b_X3_orderTurns_2] at hf
    refine gj_iload_n C 3 dX3_orderTurns_22 rfl ?_
    refine gj_if_le C 58 dX3_orderTurns_23 (by decide) (fun c => ?_) (fun c => ?_)
    · replace hf := gw_ift hf c
      cases hf
      cases gw_ir hr
      exact gj_pick [0, 1, 2, 3] _ rfl (k )
    · replace hf := gw_iff hf c
      refine gj_aload_n C 0 dX3_orderTurns_26 rfl ?_
      refine g_X3_35 C  dX3_orderTurns_27 ?_
      refine gj_iload_n C 3 dX3_orderTurns_30 rfl ?_
      refine gj_iconst (v := 1) C dX3_orderTurns_31 (by decide) ?_
      refine gj_isub C dX3_orderTurns_32 ?_
      obtain ⟨g3, hf⟩ := gw_ifs hf
      refine gj_ald C (Or.inl rfl) (gw_ibv g3) dX3_orderTurns_33 ?_
      refine gj_iload_n C 2 dX3_orderTurns_34 rfl ?_
      refine gj_ic_le C 58 dX3_orderTurns_35 (by decide) (fun c => ?_) (fun c => ?_)
      · replace hf := gw_ift hf c
        cases hf
        cases gw_ir hr
        exact gj_pick [0, 1, 2, 3] _ rfl (k )
      · replace hf := gw_iff hf c
        refine gj_aload_n C 0 dX3_orderTurns_38 rfl ?_
        refine g_X3_35 C  dX3_orderTurns_39 ?_
        refine gj_iload_n C 3 dX3_orderTurns_42 rfl ?_
        refine gj_aload_n C 0 dX3_orderTurns_43 rfl ?_
        refine g_X3_35 C  dX3_orderTurns_44 ?_
        refine gj_iload_n C 3 dX3_orderTurns_47 rfl ?_
        refine gj_iconst (v := 1) C dX3_orderTurns_48 (by decide) ?_
        refine gj_isub C dX3_orderTurns_49 ?_
        obtain ⟨g4, hf⟩ := gw_ifs hf
        refine gj_ald C (Or.inl rfl) (gw_ibv g4) dX3_orderTurns_50 ?_
        obtain ⟨g5, hf⟩ := gw_ifs hf
        refine gj_ast C (Or.inl rfl) (gw_ibv g5) dX3_orderTurns_51 ?_
        refine gj_iinc C 3 3 (v3 + (-1)) [(3, .int (v3 + (-1))), (0, .ref (gw_a Γ 0)), (1, .int v1), (2, .int v2)] dX3_orderTurns_52 rfl rfl (by decide) rfl ?_
        refine gj_goto C 22 dX3_orderTurns_55 (by decide) ?_
        cases hf
        replace hr := gw_il hr
        exact gj_pick [1, 2, 3, 0] _ rfl (ih _ _ _  hr k)
set_option maxRecDepth 100000 in
set_option maxHeartbeats 4000000 in
theorem l_X3_orderTurns_1 {K : gw_K} {Γ : gw_G} (C : gw_C K Γ cX3_orderTurns 4 RX3) (μ : gw_S) (o : Nat → Int64) : ∀ (n : Nat) (v1 : Int32) (τ : gw_S) (T : Int32 × gw_S), gw_it (b_X3_orderTurns_1) n (v1, τ) = some T → (gw_J K Γ gr_X3_orderTurns 0 0 (gw_W Γ T.2 μ o) 71 [(0, .ref (gw_a Γ 0)), (1, .int T.1)] []) → gw_J K Γ gr_X3_orderTurns 0 0 (gw_W Γ τ μ o) 2 [(0, .ref (gw_a Γ 0)), (1, .int v1)] [] := by
  intro n
  induction n with
  | zero => intro v1 τ T  h; cases h
  | succ n ih =>
    intro v1 τ T  h k
    obtain ⟨q, hf, hr⟩ := gw_it_s h
    rw [b_X3_orderTurns_1] at hf
    refine gj_iload_n C 1 dX3_orderTurns_2 rfl ?_
    refine gj_aload_n C 0 dX3_orderTurns_3 rfl ?_
    refine g_X3_29 C  rfl dX3_orderTurns_4 ?_
    refine gj_ic_ge C 71 dX3_orderTurns_7 (by decide) (fun c => ?_) (fun c => ?_)
    · replace hf := gw_ift hf c
      cases hf
      cases gw_ir hr
      exact gj_pick [0, 1] _ rfl (k )
    · replace hf := gw_iff hf c
      refine gj_aload_n C 0 dX3_orderTurns_10 rfl ?_
      refine g_X3_20 C  dX3_orderTurns_11 ?_
      refine gj_iload_n C 1 dX3_orderTurns_14 rfl ?_
      obtain ⟨g1, hf⟩ := gw_ifs hf
      refine gj_ald2 C (gw_ibv g1) dX3_orderTurns_15 ?_
      replace hf := gw_bnd hf
      obtain ⟨r2, hr2, hf⟩ := hf
      refine gj_cSi (As := [.ref (gw_a Γ (24 + v1.toNatClampNeg))]) (rest := []) C cb_X3_289 (s_X3_turnOf (gw_l K) Γ τ μ o (24 + v1.toNatClampNeg) (gw_vS (gw_ibv g1)) r2 hr2) rfl (Nat.le_of_ble_eq_true rfl) dX3_orderTurns_16 (gw_rmk rfl) rfl ?_
      refine gj_istore_n C 2 [(2, .int r2), (0, .ref (gw_a Γ 0)), (1, .int v1)] dX3_orderTurns_19 rfl (by decide) rfl ?_
      refine gj_iload_n C 2 dX3_orderTurns_20 rfl ?_
      refine gj_istore_n C 3 [(3, .int v1), (2, .int r2), (0, .ref (gw_a Γ 0)), (1, .int v1)] dX3_orderTurns_21 rfl (by decide) rfl ?_
      replace hf := gw_bnd hf
      obtain ⟨t6, ht6, hf⟩ := hf
      refine gj_pick [2, 3, 1, 0] _ rfl (l_X3_orderTurns_2 C μ o v1 r2 _ _ _ t6  ht6 (?_))
      refine gj_aload_n C 0 dX3_orderTurns_58 rfl ?_
      refine g_X3_35 C  dX3_orderTurns_59 ?_
      refine gj_iload_n C 3 dX3_orderTurns_62 rfl ?_
      refine gj_iload_n C 2 dX3_orderTurns_63 rfl ?_
      obtain ⟨g7, hf⟩ := gw_ifs hf
      refine gj_ast C (Or.inl rfl) (gw_ibv g7) dX3_orderTurns_64 ?_
      refine gj_iinc C 1 1 (v1 + 1) [(1, .int (v1 + 1)), (0, .ref (gw_a Γ 0)), (2, .int r2), (3, .int t6.1)] dX3_orderTurns_65 rfl rfl (by decide) rfl ?_
      refine gj_goto C 2 dX3_orderTurns_68 (by decide) ?_
      cases hf
      replace hr := gw_il hr
      exact gj_pick [1, 0] _ rfl (ih _ _ _  hr k)
set_option maxRecDepth 100000 in
set_option maxHeartbeats 4000000 in
theorem s_X3_orderTurns (l : Launch) (Γ : gw_G) (τ μ : gw_S) (o : Nat → Int64) (r : gw_S) (hf : f_X3_orderTurns τ = some r) : gw_M l yX3_orderTurns [.code yX3_orderTurns cX3_orderTurns 4 none] gr_X3_orderTurns 0 0 Γ [.ref (gw_a Γ 0)] (gw_W Γ τ μ o) (gw_qv Γ (gw_W Γ r μ o)) := by
  refine gw_enter (by decide) (Nat.le_of_ble_eq_true rfl) (fun K C E => ?_)
  unfold f_X3_orderTurns at hf
  refine gj_iconst (v := 0) C dX3_orderTurns_0 (by decide) ?_
  refine gj_istore_n C 1 [(1, .int (0 : Int32)), (0, .ref (gw_a Γ 0))] dX3_orderTurns_1 rfl (by decide) rfl ?_
  replace hf := gw_bnd hf
  obtain ⟨t8, ht8, hf⟩ := hf
  refine gj_pick [1, 0] _ rfl (l_X3_orderTurns_1 C μ o _ _ _ t8  ht8 (?_))
  cases hf
  exact gj_vret C E dX3_orderTurns_71 (Nat.le_of_ble_eq_true rfl) (Nat.le_of_ble_eq_true rfl)
set_option maxRecDepth 100000 in
set_option maxHeartbeats 4000000 in
theorem l_X3_takeTurn_1 {K : gw_K} {Γ : gw_G} (C : gw_C K Γ cX3_takeTurn 4 RX3) (μ : gw_S) (o : Nat → Int64) (v1 : Nat) (hk1 : gw_kS v1) : ∀ (n : Nat) (v2 : Int32) (τ : gw_S) (T : (Int32 × gw_S) ⊕ (Int32 × gw_S)), gw_it (b_X3_takeTurn_1 v1) n (v2, τ) = some T → (∀ x : Int32 × gw_S, T = .inl x → gw_J K Γ gr_X3_takeTurn 0 0 (gw_W Γ x.2 μ o) 61 [(0, .ref (gw_a Γ 0)), (1, .ref (gw_a Γ v1)), (2, .int x.1)] []) → (∀ r : Int32 × gw_S, T = .inr r → gw_E K Γ (gw_qi Γ r.1 (gw_W Γ r.2 μ o)) 0 0 (some .boolean)) → gw_J K Γ gr_X3_takeTurn 0 0 (gw_W Γ τ μ o) 2 [(0, .ref (gw_a Γ 0)), (1, .ref (gw_a Γ v1)), (2, .int v2)] [] := by
  intro n
  induction n with
  | zero => intro v2 τ T  h; cases h
  | succ n ih =>
    intro v2 τ T  h k ke
    obtain ⟨q, hf, hr⟩ := gw_it_s h
    rw [b_X3_takeTurn_1] at hf
    refine gj_iload_n C 2 dX3_takeTurn_2 rfl ?_
    refine gj_aload_n C 1 dX3_takeTurn_3 rfl ?_
    refine g_X3_140 C hk1 dX3_takeTurn_4 ?_
    replace hf := gw_bnd hf
    obtain ⟨r1, hr1, hf⟩ := hf
    refine gj_cVi (As := []) (rest := [.int v2]) C cb_X3_164 (s_X1_size (gw_l K) Γ τ μ o (v1 + 36) (gw_kSR hk1) r1 hr1) rfl (Nat.le_of_ble_eq_true rfl) (gw_atR (gw_kSR hk1)) rfl rfl dX3_takeTurn_7 (gw_rmk rfl) rfl ?_
    refine gj_ic_ge C 61 dX3_takeTurn_10 (by decide) (fun c => ?_) (fun c => ?_)
    · replace hf := gw_ift hf c
      cases hf
      exact gj_pick [0, 1, 2] _ rfl (k _ (gw_ir hr).symm )
    · replace hf := gw_iff hf c
      refine gj_aload_n C 0 dX3_takeTurn_13 rfl ?_
      refine gj_aload_n C 1 dX3_takeTurn_14 rfl ?_
      refine g_X3_140 C hk1 dX3_takeTurn_15 ?_
      refine gj_iload_n C 2 dX3_takeTurn_18 rfl ?_
      replace hf := gw_bnd hf
      obtain ⟨r2, hr2, hf⟩ := hf
      refine gj_cVi (As := [.int v2]) (rest := [.ref (gw_a Γ 0)]) C cb_X3_259 (s_X1_at (gw_l K) Γ τ μ o (v1 + 36) v2 (gw_kSR hk1) r2 hr2) rfl (Nat.le_of_ble_eq_true rfl) (gw_atR (gw_kSR hk1)) rfl rfl dX3_takeTurn_19 (gw_rmk rfl) rfl ?_
      replace hf := gw_bnd hf
      obtain ⟨r3, hr3, hf⟩ := hf
      replace hf := gw_xn hf
      obtain ⟨v4, he, hf⟩ := hf
      subst he
      have hk_v4 := k_courseAt hr3
      refine gj_cVr (As := [.int r2]) (rest := []) C cb_X3_68 (sr_X3_courseAt (gw_l K) Γ τ μ o r2 v4 hr3) rfl (Nat.le_of_ble_eq_true rfl) gw_atM rfl rfl dX3_takeTurn_22 (gw_rmk rfl) rfl ?_
      refine gj_astore_n C 3 [(3, .ref (gw_a Γ v4)), (0, .ref (gw_a Γ 0)), (1, .ref (gw_a Γ v1)), (2, .int v2)] dX3_takeTurn_25 rfl (by decide) rfl ?_
      refine gj_aload_n C 1 dX3_takeTurn_26 rfl ?_
      refine gj_aload_n C 0 dX3_takeTurn_27 rfl ?_
      replace hf := gw_bnd hf
      obtain ⟨r5, hr5, hf⟩ := hf
      refine gj_cVi (As := [.ref (gw_a Γ v4)]) (rest := []) C cb_X3_114 (s_X3_freeIn (gw_l K) Γ τ μ o v4 hk_v4 r5 hr5) rfl (Nat.le_of_ble_eq_true rfl) gw_atM rfl rfl dX3_takeTurn_28 (gw_rmk rfl) rfl ?_
      refine gj_if_le C 55 dX3_takeTurn_31 (by decide) (fun c => ?_) (fun c => ?_)
      · replace hf := gw_ift hf c
        refine gj_iinc C 2 3 (v2 + 1) [(2, .int (v2 + 1)), (3, .ref (gw_a Γ v4)), (0, .ref (gw_a Γ 0)), (1, .ref (gw_a Γ v1))] dX3_takeTurn_55 rfl rfl (by decide) rfl ?_
        refine gj_goto C 2 dX3_takeTurn_58 (by decide) ?_
        cases hf
        replace hr := gw_il hr
        exact gj_pick [2, 3, 0] _ rfl (ih _ _ _  hr k ke)
      · replace hf := gw_iff hf c
        refine gj_aload_n C 1 dX3_takeTurn_34 rfl ?_
        refine gj_aload_n C 2 dX3_takeTurn_35 rfl ?_
        refine gj_aload_n C 0 dX3_takeTurn_36 rfl ?_
        refine gj_aload_n C 2 dX3_takeTurn_37 rfl ?_
        refine g_X3_135 C hk1 rfl dX3_takeTurn_38 ?_
        replace hf := gw_bnd hf
        obtain ⟨r6, hr6, hf⟩ := hf
        refine gj_cVi (As := [.ref (gw_a Γ v1), .ref (gw_a Γ v4), .int (τ v1 5)]) (rest := []) C cb_X3_155 (s_X3_obstacleFor (gw_l K) Γ τ μ o v1 v4 (τ v1 5) hk1 hk_v4 r6 hr6) rfl (Nat.le_of_ble_eq_true rfl) gw_atM rfl rfl dX3_takeTurn_41 (gw_rmk rfl) rfl ?_
        refine gj_if_ne C 55 dX3_takeTurn_44 (by decide) (fun c => ?_) (fun c => ?_)
        · replace hf := gw_iff hf c
          refine gj_iinc C 2 3 (v2 + 1) [(2, .int (v2 + 1)), (3, .ref (gw_a Γ v4)), (0, .ref (gw_a Γ 0)), (1, .ref (gw_a Γ v1))] dX3_takeTurn_55 rfl rfl (by decide) rfl ?_
          refine gj_goto C 2 dX3_takeTurn_58 (by decide) ?_
          cases hf
          replace hr := gw_il hr
          exact gj_pick [2, 3, 0] _ rfl (ih _ _ _  hr k ke)
        · replace hf := gw_ift hf c
          refine gj_aload_n C 1 dX3_takeTurn_47 rfl ?_
          refine gj_aload_n C 2 dX3_takeTurn_48 rfl ?_
          refine gj_aload_n C 0 dX3_takeTurn_49 rfl ?_
          replace hf := gw_bnd hf
          obtain ⟨r7, hr7, hf⟩ := hf
          refine gj_cVv (As := [.ref (gw_a Γ v1), .ref (gw_a Γ v4)]) (rest := []) C cb_X3_186 (s_X3_enrol (gw_l K) Γ τ μ o v1 v4 hk1 hk_v4 r7 hr7) rfl (Nat.le_of_ble_eq_true rfl) gw_atM rfl rfl dX3_takeTurn_50 (gw_rmk rfl) rfl ?_
          refine gj_iconst (v := 1) C dX3_takeTurn_53 (by decide) ?_
          cases hf
          exact gj_zret C (ke _ (gw_ir hr).symm) (by decide) dX3_takeTurn_54 (Nat.le_of_ble_eq_true rfl) (Nat.le_of_ble_eq_true rfl)
set_option maxRecDepth 100000 in
set_option maxHeartbeats 4000000 in
theorem s_X3_takeTurn (l : Launch) (Γ : gw_G) (τ μ : gw_S) (o : Nat → Int64) (a1 : Nat) (ha1 : gw_kS a1) (r : Int32 × gw_S) (hf : f_X3_takeTurn τ a1 = some r) : gw_M l yX3_takeTurn [.code yX3_takeTurn cX3_takeTurn 4 (some .boolean)] gr_X3_takeTurn 0 0 Γ [.ref (gw_a Γ 0), .ref (gw_a Γ a1)] (gw_W Γ τ μ o) (gw_qi Γ r.1 (gw_W Γ r.2 μ o)) := by
  refine gw_enter (by decide) (Nat.le_of_ble_eq_true rfl) (fun K C E => ?_)
  unfold f_X3_takeTurn at hf
  refine gj_iconst (v := 0) C dX3_takeTurn_0 (by decide) ?_
  refine gj_istore_n C 2 [(2, .int (0 : Int32)), (0, .ref (gw_a Γ 0)), (1, .ref (gw_a Γ a1))] dX3_takeTurn_1 rfl (by decide) rfl ?_
  replace hf := gw_bnd hf
  obtain ⟨t8, ht8, hf⟩ := hf
  refine gj_pick [1, 2, 0] _ rfl (l_X3_takeTurn_1 C μ o a1 ha1 _ _ _ t8  ht8 (fun x9 e  => ?_) (fun r e => ?_))
  · replace hf := gw_xl hf e
    refine gj_iconst (v := 0) C dX3_takeTurn_61 (by decide) ?_
    cases hf
    exact gj_zret C E (by decide) dX3_takeTurn_62 (Nat.le_of_ble_eq_true rfl) (Nat.le_of_ble_eq_true rfl)
  · replace hf := gw_xr hf e
    cases hf
    exact E
set_option maxRecDepth 100000 in
set_option maxHeartbeats 4000000 in
theorem l_X3_runLottery_1 {K : gw_K} {Γ : gw_G} (C : gw_C K Γ cX3_runLottery 4 RX3) (μ : gw_S) (o : Nat → Int64) (v1 : Int32) : ∀ (n : Nat) (v2 : Int32) (v3 : Int32) (τ : gw_S) (T : Int32 × Int32 × gw_S), gw_it (b_X3_runLottery_1 v1) n (v2, v3, τ) = some T → (gw_J K Γ gr_X3_runLottery 0 0 (gw_W Γ T.2.2 μ o) 64 [(0, .ref (gw_a Γ 0)), (1, .int v1), (2, .int T.1), (3, .int T.2.1)] []) → gw_J K Γ gr_X3_runLottery 0 0 (gw_W Γ τ μ o) 27 [(0, .ref (gw_a Γ 0)), (1, .int v1), (2, .int v2), (3, .int v3)] [] := by
  intro n
  induction n with
  | zero => intro v2 v3 τ T  h; cases h
  | succ n ih =>
    intro v2 v3 τ T  h k
    obtain ⟨q, hf, hr⟩ := gw_it_s h
    rw [b_X3_runLottery_1] at hf
    refine gj_iload_n C 3 dX3_runLottery_27 rfl ?_
    refine gj_aload_n C 0 dX3_runLottery_28 rfl ?_
    refine g_X3_29 C  rfl dX3_runLottery_29 ?_
    refine gj_ic_ge C 64 dX3_runLottery_32 (by decide) (fun c => ?_) (fun c => ?_)
    · replace hf := gw_ift hf c
      cases hf
      cases gw_ir hr
      exact gj_pick [0, 1, 2, 3] _ rfl (k )
    · replace hf := gw_iff hf c
      refine gj_aload_n C 0 dX3_runLottery_35 rfl ?_
      refine gj_aload_n C 0 dX3_runLottery_36 rfl ?_
      refine gj_aload_n C 0 dX3_runLottery_37 rfl ?_
      refine g_X3_35 C  dX3_runLottery_38 ?_
      refine gj_iload_n C 3 dX3_runLottery_41 rfl ?_
      obtain ⟨g3, hf⟩ := gw_ifs hf
      refine gj_ald C (Or.inl rfl) (gw_ibv g3) dX3_runLottery_42 ?_
      refine gj_bipush (v := 16) C dX3_runLottery_43 (by decide) ?_
      refine gj_irem C dX3_runLottery_45 (by decide) ?_
      replace hf := gw_bnd hf
      obtain ⟨r4, hr4, hf⟩ := hf
      replace hf := gw_xn hf
      obtain ⟨v5, he, hf⟩ := hf
      subst he
      have hk_v5 := k_studentAt hr4
      refine gj_cVr (As := [.int ((τ 3 v3.toNatClampNeg) - (τ 3 v3.toNatClampNeg) / (16 : Int32) * (16 : Int32))]) (rest := [.ref (gw_a Γ 0)]) C cb_X3_128 (sr_X3_studentAt (gw_l K) Γ τ μ o ((τ 3 v3.toNatClampNeg) - (τ 3 v3.toNatClampNeg) / (16 : Int32) * (16 : Int32)) v5 hr4) rfl (Nat.le_of_ble_eq_true rfl) gw_atM rfl rfl dX3_runLottery_46 (gw_rmk rfl) rfl ?_
      replace hf := gw_bnd hf
      obtain ⟨r6, hr6, hf⟩ := hf
      refine gj_cVi (As := [.ref (gw_a Γ v5)]) (rest := []) C cb_X3_224 (s_X3_takeTurn (gw_l K) Γ τ μ o v5 hk_v5 r6 hr6) rfl (Nat.le_of_ble_eq_true rfl) gw_atM rfl rfl dX3_runLottery_49 (gw_rmk rfl) rfl ?_
      refine gj_if_eq C 58 dX3_runLottery_52 (by decide) (fun c => ?_) (fun c => ?_)
      · replace hf := gw_ift hf c
        refine gj_iinc C 3 3 (v3 + 1) [(3, .int (v3 + 1)), (0, .ref (gw_a Γ 0)), (1, .int v1), (2, .int v2)] dX3_runLottery_58 rfl rfl (by decide) rfl ?_
        refine gj_goto C 27 dX3_runLottery_61 (by decide) ?_
        cases hf
        replace hr := gw_il hr
        exact gj_pick [1, 2, 3, 0] _ rfl (ih _ _ _ _  hr k)
      · replace hf := gw_iff hf c
        refine gj_iinc C 2 2 (v2 + 1) [(2, .int (v2 + 1)), (0, .ref (gw_a Γ 0)), (1, .int v1), (3, .int v3)] dX3_runLottery_55 rfl rfl (by decide) rfl ?_
        refine gj_iinc C 3 3 (v3 + 1) [(3, .int (v3 + 1)), (2, .int (v2 + 1)), (0, .ref (gw_a Γ 0)), (1, .int v1)] dX3_runLottery_58 rfl rfl (by decide) rfl ?_
        refine gj_goto C 27 dX3_runLottery_61 (by decide) ?_
        cases hf
        replace hr := gw_il hr
        exact gj_pick [2, 3, 1, 0] _ rfl (ih _ _ _ _  hr k)
set_option maxRecDepth 100000 in
set_option maxHeartbeats 4000000 in
theorem s_X3_runLottery (l : Launch) (Γ : gw_G) (τ μ : gw_S) (o : Nat → Int64) (a1 : Int32) (r : (Int32 ⊕ String) × gw_S) (hf : f_X3_runLottery τ a1 = some r) : gw_MX l yX3_runLottery [.code yX3_runLottery cX3_runLottery 4 (some .int)] gr_X3_runLottery 1 6 Γ [.ref (gw_a Γ 0), .int a1] (gw_W Γ τ μ o) (gw_qI Γ r.1 (gw_W Γ r.2 μ o)) (gw_x Γ r.1 (gw_W Γ r.2 μ o)) := by
  refine gw_enterX (by decide) (Nat.le_of_ble_eq_true rfl) (fun K C E => ?_)
  unfold f_X3_runLottery at hf
  refine gj_iload_n C 1 dX3_runLottery_0 rfl ?_
  refine gj_if_ge C 14 dX3_runLottery_1 (by decide) (fun c => ?_) (fun c => ?_)
  · replace hf := gw_ift hf c
    refine gj_aload_n C 0 dX3_runLottery_14 rfl ?_
    refine gj_iload_n C 1 dX3_runLottery_15 rfl ?_
    replace hf := gw_bnd hf
    obtain ⟨r1, hr1, hf⟩ := hf
    refine gj_cVv (As := [.int a1]) (rest := []) C cb_X3_218 (s_X3_drawNumbers (gw_l K) Γ τ μ o a1 r1 hr1) rfl (Nat.le_of_ble_eq_true rfl) gw_atM rfl rfl dX3_runLottery_16 (gw_rmk rfl) rfl ?_
    refine gj_aload_n C 0 dX3_runLottery_19 rfl ?_
    replace hf := gw_bnd hf
    obtain ⟨r2, hr2, hf⟩ := hf
    refine gj_cVv (As := []) (rest := []) C cb_X3_221 (s_X3_orderTurns (gw_l K) Γ r1 μ o  r2 hr2) rfl (Nat.le_of_ble_eq_true rfl) gw_atM rfl rfl dX3_runLottery_20 (gw_rmk rfl) rfl ?_
    refine gj_iconst (v := 0) C dX3_runLottery_23 (by decide) ?_
    refine gj_istore_n C 2 [(2, .int (0 : Int32)), (0, .ref (gw_a Γ 0)), (1, .int a1)] dX3_runLottery_24 rfl (by decide) rfl ?_
    refine gj_iconst (v := 0) C dX3_runLottery_25 (by decide) ?_
    refine gj_istore_n C 3 [(3, .int (0 : Int32)), (2, .int (0 : Int32)), (0, .ref (gw_a Γ 0)), (1, .int a1)] dX3_runLottery_26 rfl (by decide) rfl ?_
    replace hf := gw_bnd hf
    obtain ⟨t7, ht7, hf⟩ := hf
    refine gj_pick [2, 3, 1, 0] _ rfl (l_X3_runLottery_1 C μ o a1 _ _ _ _ t7  ht7 (?_))
    refine gj_aload_n C 0 dX3_runLottery_64 rfl ?_
    replace hf := gw_bnd hf
    obtain ⟨r8, hr8, hf⟩ := hf
    refine gj_cVv (As := []) (rest := []) C cb_X3_80 (s_X3_makeOffers (gw_l K) Γ t7.2.2 μ o  r8 hr8) rfl (Nat.le_of_ble_eq_true rfl) gw_atM rfl rfl dX3_runLottery_65 (gw_rmk rfl) rfl ?_
    refine gj_iload_n C 2 dX3_runLottery_68 rfl ?_
    cases hf
    exact gj_iretX C rfl E dX3_runLottery_69 (Nat.le_of_ble_eq_true rfl) (Nat.le_of_ble_eq_true rfl)
  · replace hf := gw_iff hf c
    cases hf
    exact gj_throw C rfl E (by decide) cl_44 ini_44 st_216 at_48 dX3_runLottery_4 dX3_runLottery_7 dX3_runLottery_8 dX3_runLottery_10 dX3_runLottery_13 ⟨(Nat.le_of_ble_eq_true rfl), (Nat.le_of_ble_eq_true rfl)⟩ ⟨(Nat.le_of_ble_eq_true rfl), (Nat.le_of_ble_eq_true rfl)⟩ (Nat.le_of_ble_eq_true rfl) (Nat.le_of_ble_eq_true rfl)
set_option maxRecDepth 100000 in
set_option maxHeartbeats 4000000 in
theorem s_X3_lotteryNumber (l : Launch) (Γ : gw_G) (τ μ : gw_S) (o : Nat → Int64) (a1 : Int32) (r : (Int32 ⊕ String)) (hf : f_X3_lotteryNumber τ a1 = some r) : gw_MX l yX3_lotteryNumber [.code yX3_lotteryNumber cX3_lotteryNumber 2 (some .int)] gr_X3_lotteryNumber 1 6 Γ [.ref (gw_a Γ 0), .int a1] (gw_W Γ τ μ o) (gw_qI Γ r (gw_W Γ τ μ o)) (gw_x Γ r (gw_W Γ τ μ o)) := by
  refine gw_enterX (by decide) (Nat.le_of_ble_eq_true rfl) (fun K C E => ?_)
  unfold f_X3_lotteryNumber at hf
  refine gj_aload_n C 0 dX3_lotteryNumber_0 rfl ?_
  refine gj_iload_n C 1 dX3_lotteryNumber_1 rfl ?_
  replace hf := gw_bnd hf
  obtain ⟨r1, hr1, hf⟩ := hf
  refine gj_cVR (As := [.int a1]) (rest := []) C cb_X3_128 (s_X3_studentAt (gw_l K) Γ τ μ o a1 r1 hr1) rfl (Nat.le_of_ble_eq_true rfl) gw_atM rfl rfl dX3_lotteryNumber_2 (gw_rmk rfl) rfl (fun e he => ?_) (fun v2 he => ?_)
  · replace hf := gw_xr hf he
    cases hf
    exact gj_out C rfl E (Nat.le_of_ble_eq_true rfl) (Nat.le_of_ble_eq_true rfl)
  · replace hf := gw_xl hf he
    subst he
    have hk_v2 := k_studentAt hr1
    refine g_X3_228 C hk_v2 rfl dX3_lotteryNumber_5 ?_
    cases hf
    exact gj_iretX C rfl E dX3_lotteryNumber_8 (Nat.le_of_ble_eq_true rfl) (Nat.le_of_ble_eq_true rfl)
set_option maxRecDepth 100000 in
set_option maxHeartbeats 4000000 in
theorem sr_X3_lotteryNumber (l : Launch) (Γ : gw_G) (τ μ : gw_S) (o : Nat → Int64) (a1 : Int32) (k : Int32) (hf : f_X3_lotteryNumber τ a1 = some (.inl k)) : gw_M l yX3_lotteryNumber [.code yX3_lotteryNumber cX3_lotteryNumber 2 (some .int)] gr_X3_lotteryNumberr 0 0 Γ [.ref (gw_a Γ 0), .int a1] (gw_W Γ τ μ o) (gw_qi Γ k (gw_W Γ τ μ o)) := by
  refine gw_enter (by decide) (Nat.le_of_ble_eq_true rfl) (fun K C E => ?_)
  unfold f_X3_lotteryNumber at hf
  refine gj_aload_n C 0 dX3_lotteryNumber_0 rfl ?_
  refine gj_iload_n C 1 dX3_lotteryNumber_1 rfl ?_
  replace hf := gw_bnd hf
  obtain ⟨r1, hr1, hf⟩ := hf
  replace hf := gw_xm hf
  obtain ⟨v2, he, hf⟩ := hf
  subst he
  have hk_v2 := k_studentAt hr1
  refine gj_cVr (As := [.int a1]) (rest := []) C cb_X3_128 (sr_X3_studentAt (gw_l K) Γ τ μ o a1 v2 hr1) rfl (Nat.le_of_ble_eq_true rfl) gw_atM rfl rfl dX3_lotteryNumber_2 (gw_rmk rfl) rfl ?_
  refine g_X3_228 C hk_v2 rfl dX3_lotteryNumber_5 ?_
  cases hf
  exact gj_iret C E dX3_lotteryNumber_8 (Nat.le_of_ble_eq_true rfl) (Nat.le_of_ble_eq_true rfl)
set_option maxRecDepth 100000 in
set_option maxHeartbeats 4000000 in
theorem s_X3_putUp (l : Launch) (Γ : gw_G) (τ μ : gw_S) (o : Nat → Int64) (a1 : Int32) (a2 : Int32) (r : (Int32 ⊕ String) × gw_S) (hf : f_X3_putUp τ a1 a2 = some r) : gw_MX l yX3_putUp [.code yX3_putUp cX3_putUp 6 (some .int)] gr_X3_putUp 3 18 Γ [.ref (gw_a Γ 0), .int a1, .int a2] (gw_W Γ τ μ o) (gw_qI Γ r.1 (gw_W Γ r.2 μ o)) (gw_x Γ r.1 (gw_W Γ r.2 μ o)) := by
  refine gw_enterX (by decide) (Nat.le_of_ble_eq_true rfl) (fun K C E => ?_)
  unfold f_X3_putUp at hf
  refine gj_aload_n C 0 dX3_putUp_0 rfl ?_
  refine gj_iload_n C 1 dX3_putUp_1 rfl ?_
  replace hf := gw_bnd hf
  obtain ⟨r1, hr1, hf⟩ := hf
  refine gj_cVR (As := [.int a1]) (rest := []) C cb_X3_128 (s_X3_studentAt (gw_l K) Γ τ μ o a1 r1 hr1) rfl (Nat.le_of_ble_eq_true rfl) gw_atM rfl rfl dX3_putUp_2 (gw_rmk rfl) rfl (fun e he => ?_) (fun v2 he => ?_)
  · replace hf := gw_xr hf he
    cases hf
    exact gj_out C rfl E (Nat.le_of_ble_eq_true rfl) (Nat.le_of_ble_eq_true rfl)
  · replace hf := gw_xl hf he
    subst he
    have hk_v2 := k_studentAt hr1
    refine gj_astore_n C 3 [(3, .ref (gw_a Γ v2)), (0, .ref (gw_a Γ 0)), (1, .int a1), (2, .int a2)] dX3_putUp_5 rfl (by decide) rfl ?_
    refine gj_aload_n C 1 dX3_putUp_6 rfl ?_
    refine gj_iload_n C 3 dX3_putUp_7 rfl ?_
    replace hf := gw_bnd hf
    obtain ⟨r3, hr3, hf⟩ := hf
    refine gj_cVR (As := [.int a2]) (rest := []) C cb_X3_68 (s_X3_courseAt (gw_l K) Γ τ μ o a2 r3 hr3) rfl (Nat.le_of_ble_eq_true rfl) gw_atM rfl rfl dX3_putUp_8 (gw_rmk rfl) rfl (fun e he => ?_) (fun v4 he => ?_)
    · replace hf := gw_xr hf he
      cases hf
      exact gj_out C rfl E (Nat.le_of_ble_eq_true rfl) (Nat.le_of_ble_eq_true rfl)
    · replace hf := gw_xl hf he
      subst he
      have hk_v4 := k_courseAt hr3
      refine gj_astore C 4 [(4, .ref (gw_a Γ v4)), (3, .ref (gw_a Γ v2)), (0, .ref (gw_a Γ 0)), (1, .int a1), (2, .int a2)] dX3_putUp_11 (by decide) rfl ?_
      refine gj_aload_n C 1 dX3_putUp_13 rfl ?_
      refine g_X3_135 C hk_v2 rfl dX3_putUp_14 ?_
      refine gj_aload C 0 dX3_putUp_17 rfl ?_
      refine g_X3_65 C hk_v4 rfl dX3_putUp_19 ?_
      replace hf := gw_bnd hf
      obtain ⟨r5, hr5, hf⟩ := hf
      refine gj_cSi (As := [.int (τ v2 5), .int (τ v4 0)]) (rest := []) C cb_X3_86 (s_X3_isIn (gw_l K) Γ τ μ o (τ v2 5) (τ v4 0) r5 hr5) rfl (Nat.le_of_ble_eq_true rfl) dX3_putUp_22 (gw_rmk rfl) rfl ?_
      refine gj_if_ne C 38 dX3_putUp_25 (by decide) (fun c => ?_) (fun c => ?_)
      · replace hf := gw_iff hf c
        refine gj_aload_n C 1 dX3_putUp_38 rfl ?_
        refine g_X3_231 C hk_v2 rfl dX3_putUp_39 ?_
        refine gj_istore C 5 [(5, .int (τ v2 7)), (4, .ref (gw_a Γ v4)), (3, .ref (gw_a Γ v2)), (0, .ref (gw_a Γ 0)), (1, .int a1), (2, .int a2)] dX3_putUp_42 (by decide) rfl ?_
        refine gj_aload_n C 2 dX3_putUp_44 rfl ?_
        refine gj_iload_n C 5 dX3_putUp_45 rfl ?_
        refine p_X3_231 C hk_v2 dX3_putUp_46 ?_
        refine gj_iload C 0 dX3_putUp_49 rfl ?_
        cases hf
        exact gj_iretX C rfl E dX3_putUp_51 (Nat.le_of_ble_eq_true rfl) (Nat.le_of_ble_eq_true rfl)
      · replace hf := gw_ift hf c
        cases hf
        exact gj_throw C rfl E (by decide) cl_51 ini_51 st_190 at_55 dX3_putUp_28 dX3_putUp_31 dX3_putUp_32 dX3_putUp_34 dX3_putUp_37 ⟨(Nat.le_of_ble_eq_true rfl), (Nat.le_of_ble_eq_true rfl)⟩ ⟨(Nat.le_of_ble_eq_true rfl), (Nat.le_of_ble_eq_true rfl)⟩ (Nat.le_of_ble_eq_true rfl) (Nat.le_of_ble_eq_true rfl)
set_option maxRecDepth 100000 in
set_option maxHeartbeats 4000000 in
theorem s_X3_withdraw (l : Launch) (Γ : gw_G) (τ μ : gw_S) (o : Nat → Int64) (a1 : Int32) (r : (Int32 ⊕ String) × gw_S) (hf : f_X3_withdraw τ a1 = some r) : gw_MX l yX3_withdraw [.code yX3_withdraw cX3_withdraw 4 (some .int)] gr_X3_withdraw 1 6 Γ [.ref (gw_a Γ 0), .int a1] (gw_W Γ τ μ o) (gw_qI Γ r.1 (gw_W Γ r.2 μ o)) (gw_x Γ r.1 (gw_W Γ r.2 μ o)) := by
  refine gw_enterX (by decide) (Nat.le_of_ble_eq_true rfl) (fun K C E => ?_)
  unfold f_X3_withdraw at hf
  refine gj_aload_n C 0 dX3_withdraw_0 rfl ?_
  refine gj_iload_n C 1 dX3_withdraw_1 rfl ?_
  replace hf := gw_bnd hf
  obtain ⟨r1, hr1, hf⟩ := hf
  refine gj_cVR (As := [.int a1]) (rest := []) C cb_X3_128 (s_X3_studentAt (gw_l K) Γ τ μ o a1 r1 hr1) rfl (Nat.le_of_ble_eq_true rfl) gw_atM rfl rfl dX3_withdraw_2 (gw_rmk rfl) rfl (fun e he => ?_) (fun v2 he => ?_)
  · replace hf := gw_xr hf he
    cases hf
    exact gj_out C rfl E (Nat.le_of_ble_eq_true rfl) (Nat.le_of_ble_eq_true rfl)
  · replace hf := gw_xl hf he
    subst he
    have hk_v2 := k_studentAt hr1
    refine gj_astore_n C 2 [(2, .ref (gw_a Γ v2)), (0, .ref (gw_a Γ 0)), (1, .int a1)] dX3_withdraw_5 rfl (by decide) rfl ?_
    refine gj_aload_n C 0 dX3_withdraw_6 rfl ?_
    refine g_X3_231 C hk_v2 rfl dX3_withdraw_7 ?_
    refine gj_istore_n C 3 [(3, .int (τ v2 7)), (2, .ref (gw_a Γ v2)), (0, .ref (gw_a Γ 0)), (1, .int a1)] dX3_withdraw_10 rfl (by decide) rfl ?_
    refine gj_aload_n C 1 dX3_withdraw_11 rfl ?_
    refine gj_iconst (v := -1) C dX3_withdraw_12 (by decide) ?_
    refine p_X3_231 C hk_v2 dX3_withdraw_13 ?_
    refine gj_iload_n C 0 dX3_withdraw_16 rfl ?_
    cases hf
    exact gj_iretX C rfl E dX3_withdraw_17 (Nat.le_of_ble_eq_true rfl) (Nat.le_of_ble_eq_true rfl)
set_option maxRecDepth 100000 in
set_option maxHeartbeats 4000000 in
theorem s_X3_placeUp (l : Launch) (Γ : gw_G) (τ μ : gw_S) (o : Nat → Int64) (a1 : Int32) (r : (Int32 ⊕ String)) (hf : f_X3_placeUp τ a1 = some r) : gw_MX l yX3_placeUp [.code yX3_placeUp cX3_placeUp 2 (some .int)] gr_X3_placeUp 1 6 Γ [.ref (gw_a Γ 0), .int a1] (gw_W Γ τ μ o) (gw_qI Γ r (gw_W Γ τ μ o)) (gw_x Γ r (gw_W Γ τ μ o)) := by
  refine gw_enterX (by decide) (Nat.le_of_ble_eq_true rfl) (fun K C E => ?_)
  unfold f_X3_placeUp at hf
  refine gj_aload_n C 0 dX3_placeUp_0 rfl ?_
  refine gj_iload_n C 1 dX3_placeUp_1 rfl ?_
  replace hf := gw_bnd hf
  obtain ⟨r1, hr1, hf⟩ := hf
  refine gj_cVR (As := [.int a1]) (rest := []) C cb_X3_128 (s_X3_studentAt (gw_l K) Γ τ μ o a1 r1 hr1) rfl (Nat.le_of_ble_eq_true rfl) gw_atM rfl rfl dX3_placeUp_2 (gw_rmk rfl) rfl (fun e he => ?_) (fun v2 he => ?_)
  · replace hf := gw_xr hf he
    cases hf
    exact gj_out C rfl E (Nat.le_of_ble_eq_true rfl) (Nat.le_of_ble_eq_true rfl)
  · replace hf := gw_xl hf he
    subst he
    have hk_v2 := k_studentAt hr1
    refine g_X3_231 C hk_v2 rfl dX3_placeUp_5 ?_
    cases hf
    exact gj_iretX C rfl E dX3_placeUp_8 (Nat.le_of_ble_eq_true rfl) (Nat.le_of_ble_eq_true rfl)
set_option maxRecDepth 100000 in
set_option maxHeartbeats 4000000 in
theorem sr_X3_placeUp (l : Launch) (Γ : gw_G) (τ μ : gw_S) (o : Nat → Int64) (a1 : Int32) (k : Int32) (hf : f_X3_placeUp τ a1 = some (.inl k)) : gw_M l yX3_placeUp [.code yX3_placeUp cX3_placeUp 2 (some .int)] gr_X3_placeUpr 0 0 Γ [.ref (gw_a Γ 0), .int a1] (gw_W Γ τ μ o) (gw_qi Γ k (gw_W Γ τ μ o)) := by
  refine gw_enter (by decide) (Nat.le_of_ble_eq_true rfl) (fun K C E => ?_)
  unfold f_X3_placeUp at hf
  refine gj_aload_n C 0 dX3_placeUp_0 rfl ?_
  refine gj_iload_n C 1 dX3_placeUp_1 rfl ?_
  replace hf := gw_bnd hf
  obtain ⟨r1, hr1, hf⟩ := hf
  replace hf := gw_xm hf
  obtain ⟨v2, he, hf⟩ := hf
  subst he
  have hk_v2 := k_studentAt hr1
  refine gj_cVr (As := [.int a1]) (rest := []) C cb_X3_128 (sr_X3_studentAt (gw_l K) Γ τ μ o a1 v2 hr1) rfl (Nat.le_of_ble_eq_true rfl) gw_atM rfl rfl dX3_placeUp_2 (gw_rmk rfl) rfl ?_
  refine g_X3_231 C hk_v2 rfl dX3_placeUp_5 ?_
  cases hf
  exact gj_iret C E dX3_placeUp_8 (Nat.le_of_ble_eq_true rfl) (Nat.le_of_ble_eq_true rfl)
set_option maxRecDepth 100000 in
set_option maxHeartbeats 4000000 in
theorem l_X3_participants_1 {K : gw_K} {Γ : gw_G} (C : gw_C K Γ cX3_participants 3 RX3) (τ : gw_S) (μ : gw_S) (o : Nat → Int64) : ∀ (n : Nat) (v1 : Int32) (v2 : Int32) (T : Int32 × Int32), gw_it (b_X3_participants_1 τ) n (v1, v2) = some T → (gw_J K Γ gr_X3_participants 0 0 (gw_W Γ τ μ o) 38 [(0, .ref (gw_a Γ 0)), (1, .int T.1), (2, .int T.2)] []) → gw_J K Γ gr_X3_participants 0 0 (gw_W Γ τ μ o) 4 [(0, .ref (gw_a Γ 0)), (1, .int v1), (2, .int v2)] [] := by
  intro n
  induction n with
  | zero => intro v1 v2 T  h; cases h
  | succ n ih =>
    intro v1 v2 T  h k
    obtain ⟨q, hf, hr⟩ := gw_it_s h
    rw [b_X3_participants_1] at hf
    refine gj_iload_n C 2 dX3_participants_4 rfl ?_
    refine gj_aload_n C 0 dX3_participants_5 rfl ?_
    refine g_X3_29 C  rfl dX3_participants_6 ?_
    refine gj_ic_ge C 38 dX3_participants_9 (by decide) (fun c => ?_) (fun c => ?_)
    · replace hf := gw_ift hf c
      cases hf
      cases gw_ir hr
      exact gj_pick [0, 1, 2] _ rfl (k )
    · replace hf := gw_iff hf c
      refine gj_aload_n C 0 dX3_participants_12 rfl ?_
      refine g_X3_20 C  dX3_participants_13 ?_
      refine gj_iload_n C 2 dX3_participants_16 rfl ?_
      obtain ⟨g1, hf⟩ := gw_ifs hf
      refine gj_ald2 C (gw_ibv g1) dX3_participants_17 ?_
      refine g_X3_231 C (gw_vS (gw_ibv g1)) rfl dX3_participants_18 ?_
      refine gj_iconst (v := -1) C dX3_participants_21 (by decide) ?_
      refine gj_ic_eq C 32 dX3_participants_22 (by decide) (fun c => ?_) (fun c => ?_)
      · replace hf := gw_ift hf c
        refine gj_iinc C 2 2 (v2 + 1) [(2, .int (v2 + 1)), (0, .ref (gw_a Γ 0)), (1, .int v1)] dX3_participants_32 rfl rfl (by decide) rfl ?_
        refine gj_goto C 4 dX3_participants_35 (by decide) ?_
        cases hf
        replace hr := gw_il hr
        exact gj_pick [1, 2, 0] _ rfl (ih _ _ _  hr k)
      · replace hf := gw_iff hf c
        refine gj_iload_n C 1 dX3_participants_25 rfl ?_
        refine gj_iload_n C 2 dX3_participants_26 rfl ?_
        replace hf := gw_bnd hf
        obtain ⟨r2, hr2, hf⟩ := hf
        refine gj_cSi (As := [.int v2]) (rest := [.int v1]) C cb_X3_95 (s_X3_bit (gw_l K) Γ τ μ o v2 r2 hr2) rfl (Nat.le_of_ble_eq_true rfl) dX3_participants_27 (gw_rmk rfl) rfl ?_
        refine gj_ior C dX3_participants_30 ?_
        refine gj_istore_n C 1 [(1, .int (v1 ||| r2)), (0, .ref (gw_a Γ 0)), (2, .int v2)] dX3_participants_31 rfl (by decide) rfl ?_
        refine gj_iinc C 2 2 (v2 + 1) [(2, .int (v2 + 1)), (1, .int (v1 ||| r2)), (0, .ref (gw_a Γ 0))] dX3_participants_32 rfl rfl (by decide) rfl ?_
        refine gj_goto C 4 dX3_participants_35 (by decide) ?_
        cases hf
        replace hr := gw_il hr
        exact gj_pick [2, 1, 0] _ rfl (ih _ _ _  hr k)
set_option maxRecDepth 100000 in
set_option maxHeartbeats 4000000 in
theorem s_X3_participants (l : Launch) (Γ : gw_G) (τ μ : gw_S) (o : Nat → Int64) (r : Int32) (hf : f_X3_participants τ = some r) : gw_M l yX3_participants [.code yX3_participants cX3_participants 3 (some .int)] gr_X3_participants 0 0 Γ [.ref (gw_a Γ 0)] (gw_W Γ τ μ o) (gw_qi Γ r (gw_W Γ τ μ o)) := by
  refine gw_enter (by decide) (Nat.le_of_ble_eq_true rfl) (fun K C E => ?_)
  unfold f_X3_participants at hf
  refine gj_iconst (v := 0) C dX3_participants_0 (by decide) ?_
  refine gj_istore_n C 1 [(1, .int (0 : Int32)), (0, .ref (gw_a Γ 0))] dX3_participants_1 rfl (by decide) rfl ?_
  refine gj_iconst (v := 0) C dX3_participants_2 (by decide) ?_
  refine gj_istore_n C 2 [(2, .int (0 : Int32)), (1, .int (0 : Int32)), (0, .ref (gw_a Γ 0))] dX3_participants_3 rfl (by decide) rfl ?_
  replace hf := gw_bnd hf
  obtain ⟨t3, ht3, hf⟩ := hf
  refine gj_pick [2, 1, 0] _ rfl (l_X3_participants_1 C τ μ o _ _ _ t3  ht3 (?_))
  refine gj_iload_n C 1 dX3_participants_38 rfl ?_
  cases hf
  exact gj_iret C E dX3_participants_39 (Nat.le_of_ble_eq_true rfl) (Nat.le_of_ble_eq_true rfl)
set_option maxRecDepth 100000 in
set_option maxHeartbeats 4000000 in
theorem l_X3_firstWhoPutUp_1 {K : gw_K} {Γ : gw_G} (C : gw_C K Γ cX3_firstWhoPutUp 4 RX3) (τ : gw_S) (μ : gw_S) (o : Nat → Int64) (v1 : Int32) (v2 : Int32) : ∀ (n : Nat) (v3 : Int32) (T : Int32 ⊕ (Int32)), gw_it (b_X3_firstWhoPutUp_1 τ v1 v2) n v3 = some T → (∀ x : Int32, T = .inl x → gw_J K Γ gr_X3_firstWhoPutUp 0 0 (gw_W Γ τ μ o) 39 [(0, .ref (gw_a Γ 0)), (1, .int v1), (2, .int v2), (3, .int x)] []) → (∀ r : Int32, T = .inr r → gw_E K Γ (gw_qi Γ r (gw_W Γ τ μ o)) 0 0 (some .int)) → gw_J K Γ gr_X3_firstWhoPutUp 0 0 (gw_W Γ τ μ o) 2 [(0, .ref (gw_a Γ 0)), (1, .int v1), (2, .int v2), (3, .int v3)] [] := by
  intro n
  induction n with
  | zero => intro v3 T  h; cases h
  | succ n ih =>
    intro v3 T  h k ke
    obtain ⟨q, hf, hr⟩ := gw_it_s h
    rw [b_X3_firstWhoPutUp_1] at hf
    refine gj_iload_n C 3 dX3_firstWhoPutUp_2 rfl ?_
    refine gj_aload_n C 0 dX3_firstWhoPutUp_3 rfl ?_
    refine g_X3_29 C  rfl dX3_firstWhoPutUp_4 ?_
    refine gj_ic_ge C 39 dX3_firstWhoPutUp_7 (by decide) (fun c => ?_) (fun c => ?_)
    · replace hf := gw_ift hf c
      cases hf
      exact gj_pick [0, 1, 2, 3] _ rfl (k _ (gw_ir hr).symm )
    · replace hf := gw_iff hf c
      refine gj_iload_n C 2 dX3_firstWhoPutUp_10 rfl ?_
      refine gj_iload_n C 3 dX3_firstWhoPutUp_11 rfl ?_
      replace hf := gw_bnd hf
      obtain ⟨r1, hr1, hf⟩ := hf
      refine gj_cSi (As := [.int v2, .int v3]) (rest := []) C cb_X3_86 (s_X3_isIn (gw_l K) Γ τ μ o v2 v3 r1 hr1) rfl (Nat.le_of_ble_eq_true rfl) dX3_firstWhoPutUp_12 (gw_rmk rfl) rfl ?_
      refine gj_if_eq C 33 dX3_firstWhoPutUp_15 (by decide) (fun c => ?_) (fun c => ?_)
      · replace hf := gw_ift hf c
        refine gj_iinc C 3 3 (v3 + 1) [(3, .int (v3 + 1)), (0, .ref (gw_a Γ 0)), (1, .int v1), (2, .int v2)] dX3_firstWhoPutUp_33 rfl rfl (by decide) rfl ?_
        refine gj_goto C 2 dX3_firstWhoPutUp_36 (by decide) ?_
        cases hf
        replace hr := gw_il hr
        exact gj_pick [1, 2, 3, 0] _ rfl (ih _ _  hr k ke)
      · replace hf := gw_iff hf c
        refine gj_aload_n C 0 dX3_firstWhoPutUp_18 rfl ?_
        refine g_X3_20 C  dX3_firstWhoPutUp_19 ?_
        refine gj_iload_n C 3 dX3_firstWhoPutUp_22 rfl ?_
        obtain ⟨g2, hf⟩ := gw_ifs hf
        refine gj_ald2 C (gw_ibv g2) dX3_firstWhoPutUp_23 ?_
        refine g_X3_231 C (gw_vS (gw_ibv g2)) rfl dX3_firstWhoPutUp_24 ?_
        refine gj_iload_n C 1 dX3_firstWhoPutUp_27 rfl ?_
        refine gj_ic_ne C 33 dX3_firstWhoPutUp_28 (by decide) (fun c => ?_) (fun c => ?_)
        · replace hf := gw_iff hf c
          refine gj_iinc C 3 3 (v3 + 1) [(3, .int (v3 + 1)), (0, .ref (gw_a Γ 0)), (1, .int v1), (2, .int v2)] dX3_firstWhoPutUp_33 rfl rfl (by decide) rfl ?_
          refine gj_goto C 2 dX3_firstWhoPutUp_36 (by decide) ?_
          cases hf
          replace hr := gw_il hr
          exact gj_pick [1, 2, 3, 0] _ rfl (ih _ _  hr k ke)
        · replace hf := gw_ift hf c
          refine gj_iload_n C 3 dX3_firstWhoPutUp_31 rfl ?_
          cases hf
          exact gj_iret C (ke _ (gw_ir hr).symm) dX3_firstWhoPutUp_32 (Nat.le_of_ble_eq_true rfl) (Nat.le_of_ble_eq_true rfl)
set_option maxRecDepth 100000 in
set_option maxHeartbeats 4000000 in
theorem s_X3_firstWhoPutUp (l : Launch) (Γ : gw_G) (τ μ : gw_S) (o : Nat → Int64) (a1 : Int32) (a2 : Int32) (r : Int32) (hf : f_X3_firstWhoPutUp τ a1 a2 = some r) : gw_M l yX3_firstWhoPutUp [.code yX3_firstWhoPutUp cX3_firstWhoPutUp 4 (some .int)] gr_X3_firstWhoPutUp 0 0 Γ [.ref (gw_a Γ 0), .int a1, .int a2] (gw_W Γ τ μ o) (gw_qi Γ r (gw_W Γ τ μ o)) := by
  refine gw_enter (by decide) (Nat.le_of_ble_eq_true rfl) (fun K C E => ?_)
  unfold f_X3_firstWhoPutUp at hf
  refine gj_iconst (v := 0) C dX3_firstWhoPutUp_0 (by decide) ?_
  refine gj_istore_n C 3 [(3, .int (0 : Int32)), (0, .ref (gw_a Γ 0)), (1, .int a1), (2, .int a2)] dX3_firstWhoPutUp_1 rfl (by decide) rfl ?_
  replace hf := gw_bnd hf
  obtain ⟨t3, ht3, hf⟩ := hf
  refine gj_pick [1, 2, 3, 0] _ rfl (l_X3_firstWhoPutUp_1 C τ μ o a1 a2 _ _ t3  ht3 (fun x4 e  => ?_) (fun r e => ?_))
  · replace hf := gw_xl hf e
    refine gj_iconst (v := -1) C dX3_firstWhoPutUp_39 (by decide) ?_
    cases hf
    exact gj_iret C E dX3_firstWhoPutUp_40 (Nat.le_of_ble_eq_true rfl) (Nat.le_of_ble_eq_true rfl)
  · replace hf := gw_xr hf e
    cases hf
    exact E
set_option maxRecDepth 100000 in
set_option maxHeartbeats 4000000 in
theorem s_X3_isAcceptable (l : Launch) (Γ : gw_G) (τ μ : gw_S) (o : Nat → Int64) (a1 : Nat) (a2 : Nat) (ha1 : gw_kS a1) (ha2 : gw_kC a2) (r : Int32) (hf : f_X3_isAcceptable τ a1 a2 = some r) : gw_M l yX3_isAcceptable [.code yX3_isAcceptable cX3_isAcceptable 4 (some .boolean)] gr_X3_isAcceptable 0 0 Γ [.ref (gw_a Γ 0), .ref (gw_a Γ a1), .ref (gw_a Γ a2)] (gw_W Γ τ μ o) (gw_qi Γ r (gw_W Γ τ μ o)) := by
  refine gw_enter (by decide) (Nat.le_of_ble_eq_true rfl) (fun K C E => ?_)
  unfold f_X3_isAcceptable at hf
  refine gj_aload_n C 1 dX3_isAcceptable_0 rfl ?_
  refine g_X3_135 C ha1 rfl dX3_isAcceptable_1 ?_
  refine gj_aload_n C 1 dX3_isAcceptable_4 rfl ?_
  refine g_X3_231 C ha1 rfl dX3_isAcceptable_5 ?_
  replace hf := gw_bnd hf
  obtain ⟨r1, hr1, hf⟩ := hf
  refine gj_cSi (As := [.int (τ a1 7)]) (rest := [.int (τ a1 5)]) C cb_X3_95 (s_X3_bit (gw_l K) Γ τ μ o (τ a1 7) r1 hr1) rfl (Nat.le_of_ble_eq_true rfl) dX3_isAcceptable_8 (gw_rmk rfl) rfl ?_
  refine gj_iconst (v := -1) C dX3_isAcceptable_11 (by decide) ?_
  refine gj_ixor C dX3_isAcceptable_12 ?_
  refine gj_iand C dX3_isAcceptable_13 ?_
  refine gj_istore_n C 3 [(3, .int ((τ a1 5) &&& (r1 ^^^ (-1 : Int32)))), (0, .ref (gw_a Γ 0)), (1, .ref (gw_a Γ a1)), (2, .ref (gw_a Γ a2))] dX3_isAcceptable_14 rfl (by decide) rfl ?_
  refine gj_aload_n C 1 dX3_isAcceptable_15 rfl ?_
  refine gj_aload_n C 2 dX3_isAcceptable_16 rfl ?_
  refine gj_aload_n C 3 dX3_isAcceptable_17 rfl ?_
  refine gj_iload_n C 0 dX3_isAcceptable_18 rfl ?_
  replace hf := gw_bnd hf
  obtain ⟨r2, hr2, hf⟩ := hf
  refine gj_cVi (As := [.ref (gw_a Γ a1), .ref (gw_a Γ a2), .int ((τ a1 5) &&& (r1 ^^^ (-1 : Int32)))]) (rest := []) C cb_X3_155 (s_X3_obstacleFor (gw_l K) Γ τ μ o a1 a2 ((τ a1 5) &&& (r1 ^^^ (-1 : Int32))) ha1 ha2 r2 hr2) rfl (Nat.le_of_ble_eq_true rfl) gw_atM rfl rfl dX3_isAcceptable_19 (gw_rmk rfl) rfl ?_
  refine gj_if_ne C 29 dX3_isAcceptable_22 (by decide) (fun c => ?_) (fun c => ?_)
  · replace hf := gw_iff hf c
    refine gj_iconst (v := 0) C dX3_isAcceptable_29 (by decide) ?_
    cases hf
    exact gj_zret C E (by decide) dX3_isAcceptable_30 (Nat.le_of_ble_eq_true rfl) (Nat.le_of_ble_eq_true rfl)
  · replace hf := gw_ift hf c
    refine gj_iconst (v := 1) C dX3_isAcceptable_25 (by decide) ?_
    refine gj_goto C 30 dX3_isAcceptable_26 (by decide) ?_
    cases hf
    exact gj_zret C E (by decide) dX3_isAcceptable_30 (Nat.le_of_ble_eq_true rfl) (Nat.le_of_ble_eq_true rfl)
set_option maxRecDepth 100000 in
set_option maxHeartbeats 4000000 in
theorem l_X3_targetOf_1 {K : gw_K} {Γ : gw_G} (C : gw_C K Γ cX3_targetOf 6 RX3) (τ : gw_S) (μ : gw_S) (o : Nat → Int64) (v1 : Nat) (v2 : Int32) (hk1 : gw_kS v1) : ∀ (n : Nat) (v3 : Int32) (T : Int32 ⊕ (Int32)), gw_it (b_X3_targetOf_1 τ v1 v2) n v3 = some T → (∀ x : Int32, T = .inl x → gw_J K Γ gr_X3_targetOf 0 0 (gw_W Γ τ μ o) 64 [(0, .ref (gw_a Γ 0)), (1, .ref (gw_a Γ v1)), (2, .int v2), (3, .int x)] []) → (∀ r : Int32, T = .inr r → gw_E K Γ (gw_qi Γ r (gw_W Γ τ μ o)) 0 0 (some .int)) → gw_J K Γ gr_X3_targetOf 0 0 (gw_W Γ τ μ o) 2 [(0, .ref (gw_a Γ 0)), (1, .ref (gw_a Γ v1)), (2, .int v2), (3, .int v3)] [] := by
  intro n
  induction n with
  | zero => intro v3 T  h; cases h
  | succ n ih =>
    intro v3 T  h k ke
    obtain ⟨q, hf, hr⟩ := gw_it_s h
    rw [b_X3_targetOf_1] at hf
    refine gj_iload_n C 3 dX3_targetOf_2 rfl ?_
    refine gj_aload_n C 1 dX3_targetOf_3 rfl ?_
    refine g_X3_140 C hk1 dX3_targetOf_4 ?_
    replace hf := gw_bnd hf
    obtain ⟨r1, hr1, hf⟩ := hf
    refine gj_cVi (As := []) (rest := [.int v3]) C cb_X3_164 (s_X1_size (gw_l K) Γ τ μ o (v1 + 36) (gw_kSR hk1) r1 hr1) rfl (Nat.le_of_ble_eq_true rfl) (gw_atR (gw_kSR hk1)) rfl rfl dX3_targetOf_7 (gw_rmk rfl) rfl ?_
    refine gj_ic_ge C 64 dX3_targetOf_10 (by decide) (fun c => ?_) (fun c => ?_)
    · replace hf := gw_ift hf c
      cases hf
      exact gj_pick [0, 1, 2, 3] _ rfl (k _ (gw_ir hr).symm )
    · replace hf := gw_iff hf c
      refine gj_aload_n C 0 dX3_targetOf_13 rfl ?_
      refine gj_aload_n C 1 dX3_targetOf_14 rfl ?_
      refine g_X3_140 C hk1 dX3_targetOf_15 ?_
      refine gj_iload_n C 3 dX3_targetOf_18 rfl ?_
      replace hf := gw_bnd hf
      obtain ⟨r2, hr2, hf⟩ := hf
      refine gj_cVi (As := [.int v3]) (rest := [.ref (gw_a Γ 0)]) C cb_X3_259 (s_X1_at (gw_l K) Γ τ μ o (v1 + 36) v3 (gw_kSR hk1) r2 hr2) rfl (Nat.le_of_ble_eq_true rfl) (gw_atR (gw_kSR hk1)) rfl rfl dX3_targetOf_19 (gw_rmk rfl) rfl ?_
      replace hf := gw_bnd hf
      obtain ⟨r3, hr3, hf⟩ := hf
      replace hf := gw_xn hf
      obtain ⟨v4, he, hf⟩ := hf
      subst he
      have hk_v4 := k_courseAt hr3
      refine gj_cVr (As := [.int r2]) (rest := []) C cb_X3_68 (sr_X3_courseAt (gw_l K) Γ τ μ o r2 v4 hr3) rfl (Nat.le_of_ble_eq_true rfl) gw_atM rfl rfl dX3_targetOf_22 (gw_rmk rfl) rfl ?_
      refine gj_astore C 4 [(4, .ref (gw_a Γ v4)), (0, .ref (gw_a Γ 0)), (1, .ref (gw_a Γ v1)), (2, .int v2), (3, .int v3)] dX3_targetOf_25 (by decide) rfl ?_
      refine gj_aload_n C 1 dX3_targetOf_27 rfl ?_
      refine gj_aload C 0 dX3_targetOf_28 rfl ?_
      refine g_X3_65 C hk_v4 rfl dX3_targetOf_30 ?_
      refine gj_iload_n C 3 dX3_targetOf_33 rfl ?_
      replace hf := gw_bnd hf
      obtain ⟨r5, hr5, hf⟩ := hf
      refine gj_cVi (As := [.int (τ v4 0), .int v2]) (rest := []) C cb_X3_293 (s_X3_firstWhoPutUp (gw_l K) Γ τ μ o (τ v4 0) v2 r5 hr5) rfl (Nat.le_of_ble_eq_true rfl) gw_atM rfl rfl dX3_targetOf_34 (gw_rmk rfl) rfl ?_
      refine gj_istore C 5 [(5, .int r5), (4, .ref (gw_a Γ v4)), (0, .ref (gw_a Γ 0)), (1, .ref (gw_a Γ v1)), (2, .int v2), (3, .int v3)] dX3_targetOf_37 (by decide) rfl ?_
      refine gj_iload C 0 dX3_targetOf_39 rfl ?_
      refine gj_iconst (v := -1) C dX3_targetOf_41 (by decide) ?_
      refine gj_ic_eq C 58 dX3_targetOf_42 (by decide) (fun c => ?_) (fun c => ?_)
      · replace hf := gw_ift hf c
        refine gj_iinc C 3 5 (v3 + 1) [(3, .int (v3 + 1)), (5, .int r5), (4, .ref (gw_a Γ v4)), (0, .ref (gw_a Γ 0)), (1, .ref (gw_a Γ v1)), (2, .int v2)] dX3_targetOf_58 rfl rfl (by decide) rfl ?_
        refine gj_goto C 2 dX3_targetOf_61 (by decide) ?_
        cases hf
        replace hr := gw_il hr
        exact gj_pick [3, 4, 5, 0] _ rfl (ih _ _  hr k ke)
      · replace hf := gw_iff hf c
        refine gj_aload_n C 2 dX3_targetOf_45 rfl ?_
        refine gj_aload_n C 3 dX3_targetOf_46 rfl ?_
        refine gj_aload C 1 dX3_targetOf_47 rfl ?_
        replace hf := gw_bnd hf
        obtain ⟨r6, hr6, hf⟩ := hf
        refine gj_cVi (As := [.ref (gw_a Γ v1), .ref (gw_a Γ v4)]) (rest := []) C cb_X3_297 (s_X3_isAcceptable (gw_l K) Γ τ μ o v1 v4 hk1 hk_v4 r6 hr6) rfl (Nat.le_of_ble_eq_true rfl) gw_atM rfl rfl dX3_targetOf_49 (gw_rmk rfl) rfl ?_
        refine gj_if_eq C 58 dX3_targetOf_52 (by decide) (fun c => ?_) (fun c => ?_)
        · replace hf := gw_ift hf c
          refine gj_iinc C 3 5 (v3 + 1) [(3, .int (v3 + 1)), (5, .int r5), (4, .ref (gw_a Γ v4)), (0, .ref (gw_a Γ 0)), (1, .ref (gw_a Γ v1)), (2, .int v2)] dX3_targetOf_58 rfl rfl (by decide) rfl ?_
          refine gj_goto C 2 dX3_targetOf_61 (by decide) ?_
          cases hf
          replace hr := gw_il hr
          exact gj_pick [3, 4, 5, 0] _ rfl (ih _ _  hr k ke)
        · replace hf := gw_iff hf c
          refine gj_iload C 0 dX3_targetOf_55 rfl ?_
          cases hf
          exact gj_iret C (ke _ (gw_ir hr).symm) dX3_targetOf_57 (Nat.le_of_ble_eq_true rfl) (Nat.le_of_ble_eq_true rfl)
set_option maxRecDepth 100000 in
set_option maxHeartbeats 4000000 in
theorem s_X3_targetOf (l : Launch) (Γ : gw_G) (τ μ : gw_S) (o : Nat → Int64) (a1 : Nat) (a2 : Int32) (ha1 : gw_kS a1) (r : Int32) (hf : f_X3_targetOf τ a1 a2 = some r) : gw_M l yX3_targetOf [.code yX3_targetOf cX3_targetOf 6 (some .int)] gr_X3_targetOf 0 0 Γ [.ref (gw_a Γ 0), .ref (gw_a Γ a1), .int a2] (gw_W Γ τ μ o) (gw_qi Γ r (gw_W Γ τ μ o)) := by
  refine gw_enter (by decide) (Nat.le_of_ble_eq_true rfl) (fun K C E => ?_)
  unfold f_X3_targetOf at hf
  refine gj_iconst (v := 0) C dX3_targetOf_0 (by decide) ?_
  refine gj_istore_n C 3 [(3, .int (0 : Int32)), (0, .ref (gw_a Γ 0)), (1, .ref (gw_a Γ a1)), (2, .int a2)] dX3_targetOf_1 rfl (by decide) rfl ?_
  replace hf := gw_bnd hf
  obtain ⟨t7, ht7, hf⟩ := hf
  refine gj_pick [1, 2, 3, 0] _ rfl (l_X3_targetOf_1 C τ μ o a1 a2 ha1 _ _ t7  ht7 (fun x8 e  => ?_) (fun r e => ?_))
  · replace hf := gw_xl hf e
    refine gj_aload_n C 1 dX3_targetOf_64 rfl ?_
    refine g_X3_127 C ha1 rfl dX3_targetOf_65 ?_
    cases hf
    exact gj_iret C E dX3_targetOf_68 (Nat.le_of_ble_eq_true rfl) (Nat.le_of_ble_eq_true rfl)
  · replace hf := gw_xr hf e
    cases hf
    exact E
set_option maxRecDepth 100000 in
set_option maxHeartbeats 4000000 in
theorem s_X3_pointsTo (l : Launch) (Γ : gw_G) (τ μ : gw_S) (o : Nat → Int64) (a1 : Int32) (r : (Int32 ⊕ String)) (hf : f_X3_pointsTo τ a1 = some r) : gw_MX l yX3_pointsTo [.code yX3_pointsTo cX3_pointsTo 3 (some .int)] gr_X3_pointsTo 2 12 Γ [.ref (gw_a Γ 0), .int a1] (gw_W Γ τ μ o) (gw_qI Γ r (gw_W Γ τ μ o)) (gw_x Γ r (gw_W Γ τ μ o)) := by
  refine gw_enterX (by decide) (Nat.le_of_ble_eq_true rfl) (fun K C E => ?_)
  unfold f_X3_pointsTo at hf
  refine gj_aload_n C 0 dX3_pointsTo_0 rfl ?_
  refine gj_iload_n C 1 dX3_pointsTo_1 rfl ?_
  replace hf := gw_bnd hf
  obtain ⟨r1, hr1, hf⟩ := hf
  refine gj_cVR (As := [.int a1]) (rest := []) C cb_X3_128 (s_X3_studentAt (gw_l K) Γ τ μ o a1 r1 hr1) rfl (Nat.le_of_ble_eq_true rfl) gw_atM rfl rfl dX3_pointsTo_2 (gw_rmk rfl) rfl (fun e he => ?_) (fun v2 he => ?_)
  · replace hf := gw_xr hf he
    cases hf
    exact gj_out C rfl E (Nat.le_of_ble_eq_true rfl) (Nat.le_of_ble_eq_true rfl)
  · replace hf := gw_xl hf he
    subst he
    have hk_v2 := k_studentAt hr1
    refine gj_astore_n C 2 [(2, .ref (gw_a Γ v2)), (0, .ref (gw_a Γ 0)), (1, .int a1)] dX3_pointsTo_5 rfl (by decide) rfl ?_
    refine gj_aload_n C 0 dX3_pointsTo_6 rfl ?_
    refine g_X3_231 C hk_v2 rfl dX3_pointsTo_7 ?_
    refine gj_iconst (v := -1) C dX3_pointsTo_10 (by decide) ?_
    refine gj_ic_ne C 24 dX3_pointsTo_11 (by decide) (fun c => ?_) (fun c => ?_)
    · replace hf := gw_iff hf c
      refine gj_aload_n C 1 dX3_pointsTo_24 rfl ?_
      refine gj_aload_n C 0 dX3_pointsTo_25 rfl ?_
      refine gj_aload_n C 1 dX3_pointsTo_26 rfl ?_
      replace hf := gw_bnd hf
      obtain ⟨r3, hr3, hf⟩ := hf
      refine gj_cVi (As := []) (rest := [.ref (gw_a Γ v2), .ref (gw_a Γ 0)]) C cb_X3_236 (s_X3_participants (gw_l K) Γ τ μ o  r3 hr3) rfl (Nat.le_of_ble_eq_true rfl) gw_atM rfl rfl dX3_pointsTo_27 (gw_rmk rfl) rfl ?_
      replace hf := gw_bnd hf
      obtain ⟨r4, hr4, hf⟩ := hf
      refine gj_cVi (As := [.ref (gw_a Γ v2), .int r3]) (rest := []) C cb_X3_239 (s_X3_targetOf (gw_l K) Γ τ μ o v2 r3 hk_v2 r4 hr4) rfl (Nat.le_of_ble_eq_true rfl) gw_atM rfl rfl dX3_pointsTo_30 (gw_rmk rfl) rfl ?_
      cases hf
      exact gj_iretX C rfl E dX3_pointsTo_33 (Nat.le_of_ble_eq_true rfl) (Nat.le_of_ble_eq_true rfl)
    · replace hf := gw_ift hf c
      cases hf
      exact gj_throw C rfl E (by decide) cl_51 ini_51 st_234 at_55 dX3_pointsTo_14 dX3_pointsTo_17 dX3_pointsTo_18 dX3_pointsTo_20 dX3_pointsTo_23 ⟨(Nat.le_of_ble_eq_true rfl), (Nat.le_of_ble_eq_true rfl)⟩ ⟨(Nat.le_of_ble_eq_true rfl), (Nat.le_of_ble_eq_true rfl)⟩ (Nat.le_of_ble_eq_true rfl) (Nat.le_of_ble_eq_true rfl)
set_option maxRecDepth 100000 in
set_option maxHeartbeats 4000000 in
theorem sr_X3_pointsTo (l : Launch) (Γ : gw_G) (τ μ : gw_S) (o : Nat → Int64) (a1 : Int32) (k : Int32) (hf : f_X3_pointsTo τ a1 = some (.inl k)) : gw_M l yX3_pointsTo [.code yX3_pointsTo cX3_pointsTo 3 (some .int)] gr_X3_pointsTor 0 0 Γ [.ref (gw_a Γ 0), .int a1] (gw_W Γ τ μ o) (gw_qi Γ k (gw_W Γ τ μ o)) := by
  refine gw_enter (by decide) (Nat.le_of_ble_eq_true rfl) (fun K C E => ?_)
  unfold f_X3_pointsTo at hf
  refine gj_aload_n C 0 dX3_pointsTo_0 rfl ?_
  refine gj_iload_n C 1 dX3_pointsTo_1 rfl ?_
  replace hf := gw_bnd hf
  obtain ⟨r1, hr1, hf⟩ := hf
  replace hf := gw_xm hf
  obtain ⟨v2, he, hf⟩ := hf
  subst he
  have hk_v2 := k_studentAt hr1
  refine gj_cVr (As := [.int a1]) (rest := []) C cb_X3_128 (sr_X3_studentAt (gw_l K) Γ τ μ o a1 v2 hr1) rfl (Nat.le_of_ble_eq_true rfl) gw_atM rfl rfl dX3_pointsTo_2 (gw_rmk rfl) rfl ?_
  refine gj_astore_n C 2 [(2, .ref (gw_a Γ v2)), (0, .ref (gw_a Γ 0)), (1, .int a1)] dX3_pointsTo_5 rfl (by decide) rfl ?_
  refine gj_aload_n C 0 dX3_pointsTo_6 rfl ?_
  refine g_X3_231 C hk_v2 rfl dX3_pointsTo_7 ?_
  refine gj_iconst (v := -1) C dX3_pointsTo_10 (by decide) ?_
  refine gj_ic_ne C 24 dX3_pointsTo_11 (by decide) (fun c => ?_) (fun c => ?_)
  · replace hf := gw_iff hf c
    refine gj_aload_n C 1 dX3_pointsTo_24 rfl ?_
    refine gj_aload_n C 0 dX3_pointsTo_25 rfl ?_
    refine gj_aload_n C 1 dX3_pointsTo_26 rfl ?_
    replace hf := gw_bnd hf
    obtain ⟨r3, hr3, hf⟩ := hf
    refine gj_cVi (As := []) (rest := [.ref (gw_a Γ v2), .ref (gw_a Γ 0)]) C cb_X3_236 (s_X3_participants (gw_l K) Γ τ μ o  r3 hr3) rfl (Nat.le_of_ble_eq_true rfl) gw_atM rfl rfl dX3_pointsTo_27 (gw_rmk rfl) rfl ?_
    replace hf := gw_bnd hf
    obtain ⟨r4, hr4, hf⟩ := hf
    refine gj_cVi (As := [.ref (gw_a Γ v2), .int r3]) (rest := []) C cb_X3_239 (s_X3_targetOf (gw_l K) Γ τ μ o v2 r3 hk_v2 r4 hr4) rfl (Nat.le_of_ble_eq_true rfl) gw_atM rfl rfl dX3_pointsTo_30 (gw_rmk rfl) rfl ?_
    cases hf
    exact gj_iret C E dX3_pointsTo_33 (Nat.le_of_ble_eq_true rfl) (Nat.le_of_ble_eq_true rfl)
  · replace hf := gw_ift hf c
    cases hf
set_option maxRecDepth 100000 in
set_option maxHeartbeats 4000000 in
theorem l_X3_pointAll_1 {K : gw_K} {Γ : gw_G} (C : gw_C K Γ cX3_pointAll 4 RX3) (μ : gw_S) (o : Nat → Int64) (v1 : Int32) : ∀ (n : Nat) (v2 : Int32) (τ : gw_S) (T : Int32 × gw_S), gw_it (b_X3_pointAll_1 v1) n (v2, τ) = some T → (gw_J K Γ gr_X3_pointAll 0 0 (gw_W Γ T.2 μ o) 41 [(0, .ref (gw_a Γ 0)), (1, .int v1), (2, .int T.1)] []) → gw_J K Γ gr_X3_pointAll 0 0 (gw_W Γ τ μ o) 2 [(0, .ref (gw_a Γ 0)), (1, .int v1), (2, .int v2)] [] := by
  intro n
  induction n with
  | zero => intro v2 τ T  h; cases h
  | succ n ih =>
    intro v2 τ T  h k
    obtain ⟨q, hf, hr⟩ := gw_it_s h
    rw [b_X3_pointAll_1] at hf
    refine gj_iload_n C 2 dX3_pointAll_2 rfl ?_
    refine gj_aload_n C 0 dX3_pointAll_3 rfl ?_
    refine g_X3_29 C  rfl dX3_pointAll_4 ?_
    refine gj_ic_ge C 41 dX3_pointAll_7 (by decide) (fun c => ?_) (fun c => ?_)
    · replace hf := gw_ift hf c
      cases hf
      cases gw_ir hr
      exact gj_pick [0, 1, 2] _ rfl (k )
    · replace hf := gw_iff hf c
      refine gj_iload_n C 1 dX3_pointAll_10 rfl ?_
      refine gj_iload_n C 2 dX3_pointAll_11 rfl ?_
      replace hf := gw_bnd hf
      obtain ⟨r1, hr1, hf⟩ := hf
      refine gj_cSi (As := [.int v1, .int v2]) (rest := []) C cb_X3_86 (s_X3_isIn (gw_l K) Γ τ μ o v1 v2 r1 hr1) rfl (Nat.le_of_ble_eq_true rfl) dX3_pointAll_12 (gw_rmk rfl) rfl ?_
      refine gj_if_eq C 35 dX3_pointAll_15 (by decide) (fun c => ?_) (fun c => ?_)
      · replace hf := gw_ift hf c
        refine gj_iinc C 2 2 (v2 + 1) [(2, .int (v2 + 1)), (0, .ref (gw_a Γ 0)), (1, .int v1)] dX3_pointAll_35 rfl rfl (by decide) rfl ?_
        refine gj_goto C 2 dX3_pointAll_38 (by decide) ?_
        cases hf
        replace hr := gw_il hr
        exact gj_pick [1, 2, 0] _ rfl (ih _ _ _  hr k)
      · replace hf := gw_iff hf c
        refine gj_aload_n C 0 dX3_pointAll_18 rfl ?_
        refine g_X3_20 C  dX3_pointAll_19 ?_
        refine gj_iload_n C 2 dX3_pointAll_22 rfl ?_
        obtain ⟨g2, hf⟩ := gw_ifs hf
        refine gj_ald2 C (gw_ibv g2) dX3_pointAll_23 ?_
        refine gj_astore_n C 3 [(3, .ref (gw_a Γ (24 + v2.toNatClampNeg))), (0, .ref (gw_a Γ 0)), (1, .int v1), (2, .int v2)] dX3_pointAll_24 rfl (by decide) rfl ?_
        refine gj_aload_n C 0 dX3_pointAll_25 rfl ?_
        refine gj_aload_n C 1 dX3_pointAll_26 rfl ?_
        refine gj_aload_n C 0 dX3_pointAll_27 rfl ?_
        refine gj_iload_n C 2 dX3_pointAll_28 rfl ?_
        replace hf := gw_bnd hf
        obtain ⟨r3, hr3, hf⟩ := hf
        refine gj_cVi (As := [.ref (gw_a Γ (24 + v2.toNatClampNeg)), .int v1]) (rest := [.ref (gw_a Γ (24 + v2.toNatClampNeg))]) C cb_X3_239 (s_X3_targetOf (gw_l K) Γ τ μ o (24 + v2.toNatClampNeg) v1 (gw_vS (gw_ibv g2)) r3 hr3) rfl (Nat.le_of_ble_eq_true rfl) gw_atM rfl rfl dX3_pointAll_29 (gw_rmk rfl) rfl ?_
        refine p_X3_301 C (gw_vS (gw_ibv g2)) dX3_pointAll_32 ?_
        refine gj_iinc C 2 3 (v2 + 1) [(2, .int (v2 + 1)), (3, .ref (gw_a Γ (24 + v2.toNatClampNeg))), (0, .ref (gw_a Γ 0)), (1, .int v1)] dX3_pointAll_35 rfl rfl (by decide) rfl ?_
        refine gj_goto C 2 dX3_pointAll_38 (by decide) ?_
        cases hf
        replace hr := gw_il hr
        exact gj_pick [2, 3, 0] _ rfl (ih _ _ _  hr k)
set_option maxRecDepth 100000 in
set_option maxHeartbeats 4000000 in
theorem s_X3_pointAll (l : Launch) (Γ : gw_G) (τ μ : gw_S) (o : Nat → Int64) (a1 : Int32) (r : gw_S) (hf : f_X3_pointAll τ a1 = some r) : gw_M l yX3_pointAll [.code yX3_pointAll cX3_pointAll 4 none] gr_X3_pointAll 0 0 Γ [.ref (gw_a Γ 0), .int a1] (gw_W Γ τ μ o) (gw_qv Γ (gw_W Γ r μ o)) := by
  refine gw_enter (by decide) (Nat.le_of_ble_eq_true rfl) (fun K C E => ?_)
  unfold f_X3_pointAll at hf
  refine gj_iconst (v := 0) C dX3_pointAll_0 (by decide) ?_
  refine gj_istore_n C 2 [(2, .int (0 : Int32)), (0, .ref (gw_a Γ 0)), (1, .int a1)] dX3_pointAll_1 rfl (by decide) rfl ?_
  replace hf := gw_bnd hf
  obtain ⟨t4, ht4, hf⟩ := hf
  refine gj_pick [1, 2, 0] _ rfl (l_X3_pointAll_1 C μ o a1 _ _ _ t4  ht4 (?_))
  cases hf
  exact gj_vret C E dX3_pointAll_41 (Nat.le_of_ble_eq_true rfl) (Nat.le_of_ble_eq_true rfl)
set_option maxRecDepth 100000 in
set_option maxHeartbeats 4000000 in
theorem l_X3_isOnCircle_1 {K : gw_K} {Γ : gw_G} (C : gw_C K Γ cX3_isOnCircle 4 RX3) (τ : gw_S) (μ : gw_S) (o : Nat → Int64) (v1 : Nat) (hk1 : gw_kS v1) : ∀ (n : Nat) (v2 : Nat) (v3 : Int32) (T : Nat × Int32), gw_kS v2 → gw_it (b_X3_isOnCircle_1 τ v1) n (v2, v3) = some T → (gw_kS T.1 → gw_J K Γ gr_X3_isOnCircle 0 0 (gw_W Γ τ μ o) 39 [(0, .ref (gw_a Γ 0)), (1, .ref (gw_a Γ v1)), (2, .ref (gw_a Γ T.1)), (3, .int T.2)] []) → gw_J K Γ gr_X3_isOnCircle 0 0 (gw_W Γ τ μ o) 11 [(0, .ref (gw_a Γ 0)), (1, .ref (gw_a Γ v1)), (2, .ref (gw_a Γ v2)), (3, .int v3)] [] := by
  intro n
  induction n with
  | zero => intro v2 v3 T hk2 h; cases h
  | succ n ih =>
    intro v2 v3 T hk2 h k
    obtain ⟨q, hf, hr⟩ := gw_it_s h
    rw [b_X3_isOnCircle_1] at hf
    refine gj_iload_n C 3 dX3_isOnCircle_11 rfl ?_
    refine gj_aload_n C 0 dX3_isOnCircle_12 rfl ?_
    refine g_X3_29 C  rfl dX3_isOnCircle_13 ?_
    refine gj_ic_ge C 39 dX3_isOnCircle_16 (by decide) (fun c => ?_) (fun c => ?_)
    · replace hf := gw_ift hf c
      cases hf
      cases gw_ir hr
      exact gj_pick [0, 1, 2, 3] _ rfl (k hk2)
    · replace hf := gw_iff hf c
      refine gj_aload_n C 2 dX3_isOnCircle_19 rfl ?_
      refine gj_aload_n C 1 dX3_isOnCircle_20 rfl ?_
      refine gj_ac_eq (i := v2) (j := v1) C 39 (gw_kSl hk2) (gw_kSl hk1) dX3_isOnCircle_21 (by decide) (fun c => ?_) (fun c => ?_)
      · replace hf := gw_ift hf c
        cases hf
        cases gw_ir hr
        exact gj_pick [0, 1, 2, 3] _ rfl (k hk2)
      · replace hf := gw_iff hf c
        refine gj_aload_n C 0 dX3_isOnCircle_24 rfl ?_
        refine gj_aload_n C 2 dX3_isOnCircle_25 rfl ?_
        refine g_X3_301 C hk2 rfl dX3_isOnCircle_26 ?_
        replace hf := gw_bnd hf
        obtain ⟨r3, hr3, hf⟩ := hf
        replace hf := gw_xn hf
        obtain ⟨v4, he, hf⟩ := hf
        subst he
        have hk_v4 := k_studentAt hr3
        refine gj_cVr (As := [.int (τ v2 8)]) (rest := []) C cb_X3_128 (sr_X3_studentAt (gw_l K) Γ τ μ o (τ v2 8) v4 hr3) rfl (Nat.le_of_ble_eq_true rfl) gw_atM rfl rfl dX3_isOnCircle_29 (gw_rmk rfl) rfl ?_
        refine gj_astore_n C 2 [(2, .ref (gw_a Γ v4)), (0, .ref (gw_a Γ 0)), (1, .ref (gw_a Γ v1)), (3, .int v3)] dX3_isOnCircle_32 rfl (by decide) rfl ?_
        refine gj_iinc C 3 3 (v3 + 1) [(3, .int (v3 + 1)), (2, .ref (gw_a Γ v4)), (0, .ref (gw_a Γ 0)), (1, .ref (gw_a Γ v1))] dX3_isOnCircle_33 rfl rfl (by decide) rfl ?_
        refine gj_goto C 11 dX3_isOnCircle_36 (by decide) ?_
        cases hf
        replace hr := gw_il hr
        exact gj_pick [2, 3, 1, 0] _ rfl (ih _ _ _ hk_v4 hr k)
set_option maxRecDepth 100000 in
set_option maxHeartbeats 4000000 in
theorem s_X3_isOnCircle (l : Launch) (Γ : gw_G) (τ μ : gw_S) (o : Nat → Int64) (a1 : Nat) (ha1 : gw_kS a1) (r : Int32) (hf : f_X3_isOnCircle τ a1 = some r) : gw_M l yX3_isOnCircle [.code yX3_isOnCircle cX3_isOnCircle 4 (some .boolean)] gr_X3_isOnCircle 0 0 Γ [.ref (gw_a Γ 0), .ref (gw_a Γ a1)] (gw_W Γ τ μ o) (gw_qi Γ r (gw_W Γ τ μ o)) := by
  refine gw_enter (by decide) (Nat.le_of_ble_eq_true rfl) (fun K C E => ?_)
  unfold f_X3_isOnCircle at hf
  refine gj_aload_n C 0 dX3_isOnCircle_0 rfl ?_
  refine gj_aload_n C 1 dX3_isOnCircle_1 rfl ?_
  refine g_X3_301 C ha1 rfl dX3_isOnCircle_2 ?_
  replace hf := gw_bnd hf
  obtain ⟨r1, hr1, hf⟩ := hf
  replace hf := gw_xn hf
  obtain ⟨v2, he, hf⟩ := hf
  subst he
  have hk_v2 := k_studentAt hr1
  refine gj_cVr (As := [.int (τ a1 8)]) (rest := []) C cb_X3_128 (sr_X3_studentAt (gw_l K) Γ τ μ o (τ a1 8) v2 hr1) rfl (Nat.le_of_ble_eq_true rfl) gw_atM rfl rfl dX3_isOnCircle_5 (gw_rmk rfl) rfl ?_
  refine gj_astore_n C 2 [(2, .ref (gw_a Γ v2)), (0, .ref (gw_a Γ 0)), (1, .ref (gw_a Γ a1))] dX3_isOnCircle_8 rfl (by decide) rfl ?_
  refine gj_iconst (v := 1) C dX3_isOnCircle_9 (by decide) ?_
  refine gj_istore_n C 3 [(3, .int (1 : Int32)), (2, .ref (gw_a Γ v2)), (0, .ref (gw_a Γ 0)), (1, .ref (gw_a Γ a1))] dX3_isOnCircle_10 rfl (by decide) rfl ?_
  replace hf := gw_bnd hf
  obtain ⟨t5, ht5, hf⟩ := hf
  refine gj_pick [2, 3, 1, 0] _ rfl (l_X3_isOnCircle_1 C τ μ o a1 ha1 _ _ _ t5 hk_v2 ht5 (fun hx2_t5 => ?_))
  refine gj_aload_n C 2 dX3_isOnCircle_39 rfl ?_
  refine gj_aload_n C 1 dX3_isOnCircle_40 rfl ?_
  refine gj_ac_ne (i := t5.1) (j := a1) C 48 (gw_kSl hx2_t5) (gw_kSl ha1) dX3_isOnCircle_41 (by decide) (fun c => ?_) (fun c => ?_)
  · replace hf := gw_iff hf c
    refine gj_iconst (v := 0) C dX3_isOnCircle_48 (by decide) ?_
    cases hf
    exact gj_zret C E (by decide) dX3_isOnCircle_49 (Nat.le_of_ble_eq_true rfl) (Nat.le_of_ble_eq_true rfl)
  · replace hf := gw_ift hf c
    refine gj_iconst (v := 1) C dX3_isOnCircle_44 (by decide) ?_
    refine gj_goto C 49 dX3_isOnCircle_45 (by decide) ?_
    cases hf
    exact gj_zret C E (by decide) dX3_isOnCircle_49 (Nat.le_of_ble_eq_true rfl) (Nat.le_of_ble_eq_true rfl)
set_option maxRecDepth 100000 in
set_option maxHeartbeats 4000000 in
theorem l_X3_onCircles_1 {K : gw_K} {Γ : gw_G} (C : gw_C K Γ cX3_onCircles 4 RX3) (τ : gw_S) (μ : gw_S) (o : Nat → Int64) (v1 : Int32) : ∀ (n : Nat) (v2 : Int32) (v3 : Int32) (T : Int32 × Int32), gw_it (b_X3_onCircles_1 τ v1) n (v2, v3) = some T → (gw_J K Γ gr_X3_onCircles 0 0 (gw_W Γ τ μ o) 46 [(0, .ref (gw_a Γ 0)), (1, .int v1), (2, .int T.1), (3, .int T.2)] []) → gw_J K Γ gr_X3_onCircles 0 0 (gw_W Γ τ μ o) 4 [(0, .ref (gw_a Γ 0)), (1, .int v1), (2, .int v2), (3, .int v3)] [] := by
  intro n
  induction n with
  | zero => intro v2 v3 T  h; cases h
  | succ n ih =>
    intro v2 v3 T  h k
    obtain ⟨q, hf, hr⟩ := gw_it_s h
    rw [b_X3_onCircles_1] at hf
    refine gj_iload_n C 3 dX3_onCircles_4 rfl ?_
    refine gj_aload_n C 0 dX3_onCircles_5 rfl ?_
    refine g_X3_29 C  rfl dX3_onCircles_6 ?_
    refine gj_ic_ge C 46 dX3_onCircles_9 (by decide) (fun c => ?_) (fun c => ?_)
    · replace hf := gw_ift hf c
      cases hf
      cases gw_ir hr
      exact gj_pick [0, 1, 2, 3] _ rfl (k )
    · replace hf := gw_iff hf c
      refine gj_iload_n C 1 dX3_onCircles_12 rfl ?_
      refine gj_iload_n C 3 dX3_onCircles_13 rfl ?_
      replace hf := gw_bnd hf
      obtain ⟨r1, hr1, hf⟩ := hf
      refine gj_cSi (As := [.int v1, .int v3]) (rest := []) C cb_X3_86 (s_X3_isIn (gw_l K) Γ τ μ o v1 v3 r1 hr1) rfl (Nat.le_of_ble_eq_true rfl) dX3_onCircles_14 (gw_rmk rfl) rfl ?_
      refine gj_if_eq C 40 dX3_onCircles_17 (by decide) (fun c => ?_) (fun c => ?_)
      · replace hf := gw_ift hf c
        refine gj_iinc C 3 3 (v3 + 1) [(3, .int (v3 + 1)), (0, .ref (gw_a Γ 0)), (1, .int v1), (2, .int v2)] dX3_onCircles_40 rfl rfl (by decide) rfl ?_
        refine gj_goto C 4 dX3_onCircles_43 (by decide) ?_
        cases hf
        replace hr := gw_il hr
        exact gj_pick [1, 2, 3, 0] _ rfl (ih _ _ _  hr k)
      · replace hf := gw_iff hf c
        refine gj_aload_n C 0 dX3_onCircles_20 rfl ?_
        refine gj_aload_n C 0 dX3_onCircles_21 rfl ?_
        refine g_X3_20 C  dX3_onCircles_22 ?_
        refine gj_iload_n C 3 dX3_onCircles_25 rfl ?_
        obtain ⟨g2, hf⟩ := gw_ifs hf
        refine gj_ald2 C (gw_ibv g2) dX3_onCircles_26 ?_
        replace hf := gw_bnd hf
        obtain ⟨r3, hr3, hf⟩ := hf
        refine gj_cVi (As := [.ref (gw_a Γ (24 + v3.toNatClampNeg))]) (rest := []) C cb_X3_304 (s_X3_isOnCircle (gw_l K) Γ τ μ o (24 + v3.toNatClampNeg) (gw_vS (gw_ibv g2)) r3 hr3) rfl (Nat.le_of_ble_eq_true rfl) gw_atM rfl rfl dX3_onCircles_27 (gw_rmk rfl) rfl ?_
        refine gj_if_eq C 40 dX3_onCircles_30 (by decide) (fun c => ?_) (fun c => ?_)
        · replace hf := gw_ift hf c
          refine gj_iinc C 3 3 (v3 + 1) [(3, .int (v3 + 1)), (0, .ref (gw_a Γ 0)), (1, .int v1), (2, .int v2)] dX3_onCircles_40 rfl rfl (by decide) rfl ?_
          refine gj_goto C 4 dX3_onCircles_43 (by decide) ?_
          cases hf
          replace hr := gw_il hr
          exact gj_pick [1, 2, 3, 0] _ rfl (ih _ _ _  hr k)
        · replace hf := gw_iff hf c
          refine gj_iload_n C 2 dX3_onCircles_33 rfl ?_
          refine gj_iload_n C 3 dX3_onCircles_34 rfl ?_
          replace hf := gw_bnd hf
          obtain ⟨r4, hr4, hf⟩ := hf
          refine gj_cSi (As := [.int v3]) (rest := [.int v2]) C cb_X3_95 (s_X3_bit (gw_l K) Γ τ μ o v3 r4 hr4) rfl (Nat.le_of_ble_eq_true rfl) dX3_onCircles_35 (gw_rmk rfl) rfl ?_
          refine gj_ior C dX3_onCircles_38 ?_
          refine gj_istore_n C 2 [(2, .int (v2 ||| r4)), (0, .ref (gw_a Γ 0)), (1, .int v1), (3, .int v3)] dX3_onCircles_39 rfl (by decide) rfl ?_
          refine gj_iinc C 3 3 (v3 + 1) [(3, .int (v3 + 1)), (2, .int (v2 ||| r4)), (0, .ref (gw_a Γ 0)), (1, .int v1)] dX3_onCircles_40 rfl rfl (by decide) rfl ?_
          refine gj_goto C 4 dX3_onCircles_43 (by decide) ?_
          cases hf
          replace hr := gw_il hr
          exact gj_pick [2, 3, 1, 0] _ rfl (ih _ _ _  hr k)
set_option maxRecDepth 100000 in
set_option maxHeartbeats 4000000 in
theorem s_X3_onCircles (l : Launch) (Γ : gw_G) (τ μ : gw_S) (o : Nat → Int64) (a1 : Int32) (r : Int32) (hf : f_X3_onCircles τ a1 = some r) : gw_M l yX3_onCircles [.code yX3_onCircles cX3_onCircles 4 (some .int)] gr_X3_onCircles 0 0 Γ [.ref (gw_a Γ 0), .int a1] (gw_W Γ τ μ o) (gw_qi Γ r (gw_W Γ τ μ o)) := by
  refine gw_enter (by decide) (Nat.le_of_ble_eq_true rfl) (fun K C E => ?_)
  unfold f_X3_onCircles at hf
  refine gj_iconst (v := 0) C dX3_onCircles_0 (by decide) ?_
  refine gj_istore_n C 2 [(2, .int (0 : Int32)), (0, .ref (gw_a Γ 0)), (1, .int a1)] dX3_onCircles_1 rfl (by decide) rfl ?_
  refine gj_iconst (v := 0) C dX3_onCircles_2 (by decide) ?_
  refine gj_istore_n C 3 [(3, .int (0 : Int32)), (2, .int (0 : Int32)), (0, .ref (gw_a Γ 0)), (1, .int a1)] dX3_onCircles_3 rfl (by decide) rfl ?_
  replace hf := gw_bnd hf
  obtain ⟨t5, ht5, hf⟩ := hf
  refine gj_pick [2, 3, 1, 0] _ rfl (l_X3_onCircles_1 C τ μ o a1 _ _ _ t5  ht5 (?_))
  refine gj_iload_n C 2 dX3_onCircles_46 rfl ?_
  cases hf
  exact gj_iret C E dX3_onCircles_47 (Nat.le_of_ble_eq_true rfl) (Nat.le_of_ble_eq_true rfl)
set_option maxRecDepth 100000 in
set_option maxHeartbeats 4000000 in
theorem l_X3_movePlaces_1 {K : gw_K} {Γ : gw_G} (C : gw_C K Γ cX3_movePlaces 5 RX3) (μ : gw_S) (o : Nat → Int64) (v1 : Int32) : ∀ (n : Nat) (v2 : Int32) (τ : gw_S) (T : Int32 × gw_S), gw_it (b_X3_movePlaces_1 v1) n (v2, τ) = some T → (gw_J K Γ gr_X3_movePlaces 0 0 (gw_W Γ T.2 μ o) 70 [(0, .ref (gw_a Γ 0)), (1, .int v1), (2, .int T.1)] []) → gw_J K Γ gr_X3_movePlaces 0 0 (gw_W Γ τ μ o) 2 [(0, .ref (gw_a Γ 0)), (1, .int v1), (2, .int v2)] [] := by
  intro n
  induction n with
  | zero => intro v2 τ T  h; cases h
  | succ n ih =>
    intro v2 τ T  h k
    obtain ⟨q, hf, hr⟩ := gw_it_s h
    rw [b_X3_movePlaces_1] at hf
    refine gj_iload_n C 2 dX3_movePlaces_2 rfl ?_
    refine gj_aload_n C 0 dX3_movePlaces_3 rfl ?_
    refine g_X3_29 C  rfl dX3_movePlaces_4 ?_
    refine gj_ic_ge C 70 dX3_movePlaces_7 (by decide) (fun c => ?_) (fun c => ?_)
    · replace hf := gw_ift hf c
      cases hf
      cases gw_ir hr
      exact gj_pick [0, 1, 2] _ rfl (k )
    · replace hf := gw_iff hf c
      refine gj_aload_n C 0 dX3_movePlaces_10 rfl ?_
      refine g_X3_20 C  dX3_movePlaces_11 ?_
      refine gj_iload_n C 2 dX3_movePlaces_14 rfl ?_
      obtain ⟨g1, hf⟩ := gw_ifs hf
      refine gj_ald2 C (gw_ibv g1) dX3_movePlaces_15 ?_
      refine gj_astore_n C 3 [(3, .ref (gw_a Γ (24 + v2.toNatClampNeg))), (0, .ref (gw_a Γ 0)), (1, .int v1), (2, .int v2)] dX3_movePlaces_16 rfl (by decide) rfl ?_
      refine gj_iload_n C 2 dX3_movePlaces_17 rfl ?_
      refine gj_iload_n C 3 dX3_movePlaces_18 rfl ?_
      replace hf := gw_bnd hf
      obtain ⟨r2, hr2, hf⟩ := hf
      refine gj_cSi (As := [.int v1, .int v2]) (rest := []) C cb_X3_86 (s_X3_isIn (gw_l K) Γ τ μ o v1 v2 r2 hr2) rfl (Nat.le_of_ble_eq_true rfl) dX3_movePlaces_19 (gw_rmk rfl) rfl ?_
      refine gj_if_eq C 37 dX3_movePlaces_22 (by decide) (fun c => ?_) (fun c => ?_)
      · replace hf := gw_ift hf c
        refine gj_iconst (v := 0) C dX3_movePlaces_37 (by decide) ?_
        refine gj_istore C 4 [(4, .int (0 : Int32)), (3, .ref (gw_a Γ (24 + v2.toNatClampNeg))), (0, .ref (gw_a Γ 0)), (1, .int v1), (2, .int v2)] dX3_movePlaces_38 (by decide) rfl ?_
        refine gj_aload_n C 1 dX3_movePlaces_40 rfl ?_
        refine gj_iload C 0 dX3_movePlaces_41 rfl ?_
        refine gj_if_eq C 60 dX3_movePlaces_43 (by decide) (fun _ => ?_) (fun c => absurd (by decide) c)
        refine gj_iconst (v := -1) C dX3_movePlaces_60 (by decide) ?_
        refine p_X3_307 C (gw_vS (gw_ibv g1)) dX3_movePlaces_61 ?_
        refine gj_iinc C 2 4 (v2 + 1) [(2, .int (v2 + 1)), (4, .int (0 : Int32)), (3, .ref (gw_a Γ (24 + v2.toNatClampNeg))), (0, .ref (gw_a Γ 0)), (1, .int v1)] dX3_movePlaces_64 rfl rfl (by decide) rfl ?_
        refine gj_goto C 2 dX3_movePlaces_67 (by decide) ?_
        cases hf
        replace hr := gw_il hr
        exact gj_pick [3, 4, 0] _ rfl (ih _ _ _  hr k)
      · replace hf := gw_iff hf c
        refine gj_aload_n C 0 dX3_movePlaces_25 rfl ?_
        refine g_X3_301 C (gw_vS (gw_ibv g1)) rfl dX3_movePlaces_26 ?_
        refine gj_iload_n C 3 dX3_movePlaces_29 rfl ?_
        refine gj_ic_eq C 37 dX3_movePlaces_30 (by decide) (fun c => ?_) (fun c => ?_)
        · replace hf := gw_ift hf c
          refine gj_iconst (v := 0) C dX3_movePlaces_37 (by decide) ?_
          refine gj_istore C 4 [(4, .int (0 : Int32)), (3, .ref (gw_a Γ (24 + v2.toNatClampNeg))), (0, .ref (gw_a Γ 0)), (1, .int v1), (2, .int v2)] dX3_movePlaces_38 (by decide) rfl ?_
          refine gj_aload_n C 1 dX3_movePlaces_40 rfl ?_
          refine gj_iload C 0 dX3_movePlaces_41 rfl ?_
          refine gj_if_eq C 60 dX3_movePlaces_43 (by decide) (fun _ => ?_) (fun c => absurd (by decide) c)
          refine gj_iconst (v := -1) C dX3_movePlaces_60 (by decide) ?_
          refine p_X3_307 C (gw_vS (gw_ibv g1)) dX3_movePlaces_61 ?_
          refine gj_iinc C 2 4 (v2 + 1) [(2, .int (v2 + 1)), (4, .int (0 : Int32)), (3, .ref (gw_a Γ (24 + v2.toNatClampNeg))), (0, .ref (gw_a Γ 0)), (1, .int v1)] dX3_movePlaces_64 rfl rfl (by decide) rfl ?_
          refine gj_goto C 2 dX3_movePlaces_67 (by decide) ?_
          cases hf
          replace hr := gw_il hr
          exact gj_pick [3, 4, 0] _ rfl (ih _ _ _  hr k)
        · replace hf := gw_iff hf c
          refine gj_iconst (v := 1) C dX3_movePlaces_33 (by decide) ?_
          refine gj_goto C 38 dX3_movePlaces_34 (by decide) ?_
          refine gj_istore C 4 [(4, .int (1 : Int32)), (3, .ref (gw_a Γ (24 + v2.toNatClampNeg))), (0, .ref (gw_a Γ 0)), (1, .int v1), (2, .int v2)] dX3_movePlaces_38 (by decide) rfl ?_
          refine gj_aload_n C 1 dX3_movePlaces_40 rfl ?_
          refine gj_iload C 0 dX3_movePlaces_41 rfl ?_
          refine gj_if_eq C 60 dX3_movePlaces_43 (by decide) (fun c => absurd c (by decide)) (fun _ => ?_)
          refine gj_aload_n C 2 dX3_movePlaces_46 rfl ?_
          refine gj_aload_n C 1 dX3_movePlaces_47 rfl ?_
          refine g_X3_301 C (gw_vS (gw_ibv g1)) rfl dX3_movePlaces_48 ?_
          replace hf := gw_bnd hf
          obtain ⟨r3, hr3, hf⟩ := hf
          replace hf := gw_xn hf
          obtain ⟨v4, he, hf⟩ := hf
          subst he
          have hk_v4 := k_studentAt hr3
          refine gj_cVr (As := [.int (τ (24 + v2.toNatClampNeg) 8)]) (rest := [.ref (gw_a Γ (24 + v2.toNatClampNeg))]) C cb_X3_128 (sr_X3_studentAt (gw_l K) Γ τ μ o (τ (24 + v2.toNatClampNeg) 8) v4 hr3) rfl (Nat.le_of_ble_eq_true rfl) gw_atM rfl rfl dX3_movePlaces_51 (gw_rmk rfl) rfl ?_
          refine g_X3_231 C hk_v4 rfl dX3_movePlaces_54 ?_
          refine gj_goto C 61 dX3_movePlaces_57 (by decide) ?_
          refine p_X3_307 C (gw_vS (gw_ibv g1)) dX3_movePlaces_61 ?_
          refine gj_iinc C 2 4 (v2 + 1) [(2, .int (v2 + 1)), (4, .int (1 : Int32)), (3, .ref (gw_a Γ (24 + v2.toNatClampNeg))), (0, .ref (gw_a Γ 0)), (1, .int v1)] dX3_movePlaces_64 rfl rfl (by decide) rfl ?_
          refine gj_goto C 2 dX3_movePlaces_67 (by decide) ?_
          cases hf
          replace hr := gw_il hr
          exact gj_pick [3, 4, 0] _ rfl (ih _ _ _  hr k)
set_option maxRecDepth 100000 in
set_option maxHeartbeats 4000000 in
theorem l_X3_movePlaces_2 {K : gw_K} {Γ : gw_G} (C : gw_C K Γ cX3_movePlaces 5 RX3) (μ : gw_S) (o : Nat → Int64) (v1 : Int32) : ∀ (n : Nat) (v2 : Int32) (v3 : Int32) (τ : gw_S) (T : Int32 × Int32 × gw_S), gw_it (b_X3_movePlaces_2 v1) n (v2, v3, τ) = some T → (gw_J K Γ gr_X3_movePlaces 0 0 (gw_W Γ T.2.2 μ o) 138 [(0, .ref (gw_a Γ 0)), (1, .int v1), (2, .int T.1), (3, .int T.2.1)] []) → gw_J K Γ gr_X3_movePlaces 0 0 (gw_W Γ τ μ o) 74 [(0, .ref (gw_a Γ 0)), (1, .int v1), (2, .int v2), (3, .int v3)] [] := by
  intro n
  induction n with
  | zero => intro v2 v3 τ T  h; cases h
  | succ n ih =>
    intro v2 v3 τ T  h k
    obtain ⟨q, hf, hr⟩ := gw_it_s h
    rw [b_X3_movePlaces_2] at hf
    refine gj_iload_n C 3 dX3_movePlaces_74 rfl ?_
    refine gj_aload_n C 0 dX3_movePlaces_75 rfl ?_
    refine g_X3_29 C  rfl dX3_movePlaces_76 ?_
    refine gj_ic_ge C 138 dX3_movePlaces_79 (by decide) (fun c => ?_) (fun c => ?_)
    · replace hf := gw_ift hf c
      cases hf
      cases gw_ir hr
      exact gj_pick [0, 1, 2, 3] _ rfl (k )
    · replace hf := gw_iff hf c
      refine gj_aload_n C 0 dX3_movePlaces_82 rfl ?_
      refine g_X3_20 C  dX3_movePlaces_83 ?_
      refine gj_iload_n C 3 dX3_movePlaces_86 rfl ?_
      obtain ⟨g6, hf⟩ := gw_ifs hf
      refine gj_ald2 C (gw_ibv g6) dX3_movePlaces_87 ?_
      refine gj_astore C 4 [(4, .ref (gw_a Γ (24 + v3.toNatClampNeg))), (0, .ref (gw_a Γ 0)), (1, .int v1), (2, .int v2), (3, .int v3)] dX3_movePlaces_88 (by decide) rfl ?_
      refine gj_aload C 0 dX3_movePlaces_90 rfl ?_
      refine g_X3_307 C (gw_vS (gw_ibv g6)) rfl dX3_movePlaces_92 ?_
      refine gj_iconst (v := -1) C dX3_movePlaces_95 (by decide) ?_
      refine gj_ic_eq C 132 dX3_movePlaces_96 (by decide) (fun c => ?_) (fun c => ?_)
      · replace hf := gw_ift hf c
        refine gj_iinc C 3 4 (v3 + 1) [(3, .int (v3 + 1)), (4, .ref (gw_a Γ (24 + v3.toNatClampNeg))), (0, .ref (gw_a Γ 0)), (1, .int v1), (2, .int v2)] dX3_movePlaces_132 rfl rfl (by decide) rfl ?_
        refine gj_goto C 74 dX3_movePlaces_135 (by decide) ?_
        cases hf
        replace hr := gw_il hr
        exact gj_pick [2, 3, 4, 0] _ rfl (ih _ _ _ _  hr k)
      · replace hf := gw_iff hf c
        refine gj_aload_n C 1 dX3_movePlaces_99 rfl ?_
        refine gj_aload C 0 dX3_movePlaces_100 rfl ?_
        refine gj_aload_n C 1 dX3_movePlaces_102 rfl ?_
        refine gj_aload C 0 dX3_movePlaces_103 rfl ?_
        refine g_X3_231 C (gw_vS (gw_ibv g6)) rfl dX3_movePlaces_105 ?_
        replace hf := gw_bnd hf
        obtain ⟨r7, hr7, hf⟩ := hf
        replace hf := gw_xn hf
        obtain ⟨v8, he, hf⟩ := hf
        subst he
        have hk_v8 := k_courseAt hr7
        refine gj_cVr (As := [.int (τ (24 + v3.toNatClampNeg) 7)]) (rest := [.ref (gw_a Γ (24 + v3.toNatClampNeg)), .ref (gw_a Γ 0)]) C cb_X3_68 (sr_X3_courseAt (gw_l K) Γ τ μ o (τ (24 + v3.toNatClampNeg) 7) v8 hr7) rfl (Nat.le_of_ble_eq_true rfl) gw_atM rfl rfl dX3_movePlaces_108 (gw_rmk rfl) rfl ?_
        replace hf := gw_bnd hf
        obtain ⟨r9, hr9, hf⟩ := hf
        refine gj_cVv (As := [.ref (gw_a Γ (24 + v3.toNatClampNeg)), .ref (gw_a Γ v8)]) (rest := []) C cb_X3_192 (s_X3_endEnrolment (gw_l K) Γ τ μ o (24 + v3.toNatClampNeg) v8 (gw_vS (gw_ibv g6)) hk_v8 r9 hr9) rfl (Nat.le_of_ble_eq_true rfl) gw_atM rfl rfl dX3_movePlaces_111 (gw_rmk rfl) rfl ?_
        refine gj_aload_n C 1 dX3_movePlaces_114 rfl ?_
        refine gj_aload C 0 dX3_movePlaces_115 rfl ?_
        refine gj_aload_n C 1 dX3_movePlaces_117 rfl ?_
        refine gj_aload C 0 dX3_movePlaces_118 rfl ?_
        refine g_X3_307 C (gw_vS (gw_ibv g6)) rfl dX3_movePlaces_120 ?_
        replace hf := gw_bnd hf
        obtain ⟨r10, hr10, hf⟩ := hf
        replace hf := gw_xn hf
        obtain ⟨v11, he, hf⟩ := hf
        subst he
        have hk_v11 := k_courseAt hr10
        refine gj_cVr (As := [.int (r9 (24 + v3.toNatClampNeg) 9)]) (rest := [.ref (gw_a Γ (24 + v3.toNatClampNeg)), .ref (gw_a Γ 0)]) C cb_X3_68 (sr_X3_courseAt (gw_l K) Γ r9 μ o (r9 (24 + v3.toNatClampNeg) 9) v11 hr10) rfl (Nat.le_of_ble_eq_true rfl) gw_atM rfl rfl dX3_movePlaces_123 (gw_rmk rfl) rfl ?_
        replace hf := gw_bnd hf
        obtain ⟨r12, hr12, hf⟩ := hf
        refine gj_cVv (As := [.ref (gw_a Γ (24 + v3.toNatClampNeg)), .ref (gw_a Γ v11)]) (rest := []) C cb_X3_186 (s_X3_enrol (gw_l K) Γ r9 μ o (24 + v3.toNatClampNeg) v11 (gw_vS (gw_ibv g6)) hk_v11 r12 hr12) rfl (Nat.le_of_ble_eq_true rfl) gw_atM rfl rfl dX3_movePlaces_126 (gw_rmk rfl) rfl ?_
        refine gj_iinc C 2 3 (v2 + 1) [(2, .int (v2 + 1)), (4, .ref (gw_a Γ (24 + v3.toNatClampNeg))), (0, .ref (gw_a Γ 0)), (1, .int v1), (3, .int v3)] dX3_movePlaces_129 rfl rfl (by decide) rfl ?_
        refine gj_iinc C 3 4 (v3 + 1) [(3, .int (v3 + 1)), (2, .int (v2 + 1)), (4, .ref (gw_a Γ (24 + v3.toNatClampNeg))), (0, .ref (gw_a Γ 0)), (1, .int v1)] dX3_movePlaces_132 rfl rfl (by decide) rfl ?_
        refine gj_goto C 74 dX3_movePlaces_135 (by decide) ?_
        cases hf
        replace hr := gw_il hr
        exact gj_pick [3, 4, 1, 0] _ rfl (ih _ _ _ _  hr k)
set_option maxRecDepth 100000 in
set_option maxHeartbeats 4000000 in
theorem s_X3_movePlaces (l : Launch) (Γ : gw_G) (τ μ : gw_S) (o : Nat → Int64) (a1 : Int32) (r : Int32 × gw_S) (hf : f_X3_movePlaces τ a1 = some r) : gw_M l yX3_movePlaces [.code yX3_movePlaces cX3_movePlaces 5 (some .int)] gr_X3_movePlaces 0 0 Γ [.ref (gw_a Γ 0), .int a1] (gw_W Γ τ μ o) (gw_qi Γ r.1 (gw_W Γ r.2 μ o)) := by
  refine gw_enter (by decide) (Nat.le_of_ble_eq_true rfl) (fun K C E => ?_)
  unfold f_X3_movePlaces at hf
  refine gj_iconst (v := 0) C dX3_movePlaces_0 (by decide) ?_
  refine gj_istore_n C 2 [(2, .int (0 : Int32)), (0, .ref (gw_a Γ 0)), (1, .int a1)] dX3_movePlaces_1 rfl (by decide) rfl ?_
  replace hf := gw_bnd hf
  obtain ⟨t5, ht5, hf⟩ := hf
  refine gj_pick [1, 2, 0] _ rfl (l_X3_movePlaces_1 C μ o a1 _ _ _ t5  ht5 (?_))
  refine gj_iconst (v := 0) C dX3_movePlaces_70 (by decide) ?_
  refine gj_istore_n C 2 [(2, .int (0 : Int32)), (0, .ref (gw_a Γ 0)), (1, .int a1)] dX3_movePlaces_71 rfl (by decide) rfl ?_
  refine gj_iconst (v := 0) C dX3_movePlaces_72 (by decide) ?_
  refine gj_istore_n C 3 [(3, .int (0 : Int32)), (2, .int (0 : Int32)), (0, .ref (gw_a Γ 0)), (1, .int a1)] dX3_movePlaces_73 rfl (by decide) rfl ?_
  replace hf := gw_bnd hf
  obtain ⟨t13, ht13, hf⟩ := hf
  refine gj_pick [2, 3, 1, 0] _ rfl (l_X3_movePlaces_2 C μ o a1 _ _ _ _ t13  ht13 (?_))
  refine gj_iload_n C 2 dX3_movePlaces_138 rfl ?_
  cases hf
  exact gj_iret C E dX3_movePlaces_139 (Nat.le_of_ble_eq_true rfl) (Nat.le_of_ble_eq_true rfl)
set_option maxRecDepth 100000 in
set_option maxHeartbeats 4000000 in
theorem l_X3_runExchange_1 {K : gw_K} {Γ : gw_G} (C : gw_C K Γ cX3_runExchange 4 RX3) (μ : gw_S) (o : Nat → Int64) (v1 : Int32) : ∀ (n : Nat) (v2 : Int32) (v3 : Int32) (τ : gw_S) (T : Int32 × Int32 × gw_S), gw_it (b_X3_runExchange_1 v1) n (v2, v3, τ) = some T → (gw_J K Γ gr_X3_runExchange 0 0 (gw_W Γ T.2.2 μ o) 42 [(0, .ref (gw_a Γ 0)), (1, .int v1), (2, .int T.1), (3, .int T.2.1)] []) → gw_J K Γ gr_X3_runExchange 0 0 (gw_W Γ τ μ o) 9 [(0, .ref (gw_a Γ 0)), (1, .int v1), (2, .int v2), (3, .int v3)] [] := by
  intro n
  induction n with
  | zero => intro v2 v3 τ T  h; cases h
  | succ n ih =>
    intro v2 v3 τ T  h k
    obtain ⟨q, hf, hr⟩ := gw_it_s h
    rw [b_X3_runExchange_1] at hf
    refine gj_iload_n C 3 dX3_runExchange_9 rfl ?_
    refine gj_aload_n C 0 dX3_runExchange_10 rfl ?_
    refine g_X3_29 C  rfl dX3_runExchange_11 ?_
    refine gj_ic_ge C 42 dX3_runExchange_14 (by decide) (fun c => ?_) (fun c => ?_)
    · replace hf := gw_ift hf c
      cases hf
      cases gw_ir hr
      exact gj_pick [0, 1, 2, 3] _ rfl (k )
    · replace hf := gw_iff hf c
      refine gj_iload_n C 2 dX3_runExchange_17 rfl ?_
      refine gj_if_eq C 42 dX3_runExchange_18 (by decide) (fun c => ?_) (fun c => ?_)
      · replace hf := gw_ift hf c
        cases hf
        cases gw_ir hr
        exact gj_pick [0, 1, 2, 3] _ rfl (k )
      · replace hf := gw_iff hf c
        refine gj_aload_n C 0 dX3_runExchange_21 rfl ?_
        refine gj_iload_n C 2 dX3_runExchange_22 rfl ?_
        replace hf := gw_bnd hf
        obtain ⟨r2, hr2, hf⟩ := hf
        refine gj_cVv (As := [.int v2]) (rest := []) C cb_X3_243 (s_X3_pointAll (gw_l K) Γ τ μ o v2 r2 hr2) rfl (Nat.le_of_ble_eq_true rfl) gw_atM rfl rfl dX3_runExchange_23 (gw_rmk rfl) rfl ?_
        refine gj_iload_n C 2 dX3_runExchange_26 rfl ?_
        refine gj_aload_n C 0 dX3_runExchange_27 rfl ?_
        refine gj_iload_n C 2 dX3_runExchange_28 rfl ?_
        replace hf := gw_bnd hf
        obtain ⟨r3, hr3, hf⟩ := hf
        refine gj_cVi (As := [.int v2]) (rest := [.int v2]) C cb_X3_246 (s_X3_onCircles (gw_l K) Γ r2 μ o v2 r3 hr3) rfl (Nat.le_of_ble_eq_true rfl) gw_atM rfl rfl dX3_runExchange_29 (gw_rmk rfl) rfl ?_
        refine gj_iconst (v := -1) C dX3_runExchange_32 (by decide) ?_
        refine gj_ixor C dX3_runExchange_33 ?_
        refine gj_iand C dX3_runExchange_34 ?_
        refine gj_istore_n C 2 [(2, .int (v2 &&& (r3 ^^^ (-1 : Int32)))), (0, .ref (gw_a Γ 0)), (1, .int v1), (3, .int v3)] dX3_runExchange_35 rfl (by decide) rfl ?_
        refine gj_iinc C 3 3 (v3 + 1) [(3, .int (v3 + 1)), (2, .int (v2 &&& (r3 ^^^ (-1 : Int32)))), (0, .ref (gw_a Γ 0)), (1, .int v1)] dX3_runExchange_36 rfl rfl (by decide) rfl ?_
        refine gj_goto C 9 dX3_runExchange_39 (by decide) ?_
        cases hf
        replace hr := gw_il hr
        exact gj_pick [2, 3, 1, 0] _ rfl (ih _ _ _ _  hr k)
set_option maxRecDepth 100000 in
set_option maxHeartbeats 4000000 in
theorem s_X3_runExchange (l : Launch) (Γ : gw_G) (τ μ : gw_S) (o : Nat → Int64) (r : Int32 × gw_S) (hf : f_X3_runExchange τ = some r) : gw_M l yX3_runExchange [.code yX3_runExchange cX3_runExchange 4 (some .int)] gr_X3_runExchange 0 0 Γ [.ref (gw_a Γ 0)] (gw_W Γ τ μ o) (gw_qi Γ r.1 (gw_W Γ r.2 μ o)) := by
  refine gw_enter (by decide) (Nat.le_of_ble_eq_true rfl) (fun K C E => ?_)
  unfold f_X3_runExchange at hf
  refine gj_aload_n C 0 dX3_runExchange_0 rfl ?_
  replace hf := gw_bnd hf
  obtain ⟨r1, hr1, hf⟩ := hf
  refine gj_cVi (As := []) (rest := []) C cb_X3_236 (s_X3_participants (gw_l K) Γ τ μ o  r1 hr1) rfl (Nat.le_of_ble_eq_true rfl) gw_atM rfl rfl dX3_runExchange_1 (gw_rmk rfl) rfl ?_
  refine gj_istore_n C 1 [(1, .int r1), (0, .ref (gw_a Γ 0))] dX3_runExchange_4 rfl (by decide) rfl ?_
  refine gj_iload_n C 0 dX3_runExchange_5 rfl ?_
  refine gj_istore_n C 2 [(2, .int r1), (1, .int r1), (0, .ref (gw_a Γ 0))] dX3_runExchange_6 rfl (by decide) rfl ?_
  refine gj_iconst (v := 0) C dX3_runExchange_7 (by decide) ?_
  refine gj_istore_n C 3 [(3, .int (0 : Int32)), (2, .int r1), (1, .int r1), (0, .ref (gw_a Γ 0))] dX3_runExchange_8 rfl (by decide) rfl ?_
  replace hf := gw_bnd hf
  obtain ⟨t4, ht4, hf⟩ := hf
  refine gj_pick [3, 2, 1, 0] _ rfl (l_X3_runExchange_1 C μ o r1 _ _ _ _ t4  ht4 (?_))
  refine gj_aload_n C 0 dX3_runExchange_42 rfl ?_
  refine gj_iload_n C 1 dX3_runExchange_43 rfl ?_
  replace hf := gw_bnd hf
  obtain ⟨r5, hr5, hf⟩ := hf
  refine gj_cVi (As := [.int r1]) (rest := []) C cb_X3_249 (s_X3_movePlaces (gw_l K) Γ t4.2.2 μ o r1 r5 hr5) rfl (Nat.le_of_ble_eq_true rfl) gw_atM rfl rfl dX3_runExchange_44 (gw_rmk rfl) rfl ?_
  refine gj_istore_n C 3 [(3, .int r5.1), (0, .ref (gw_a Γ 0)), (1, .int r1), (2, .int t4.1)] dX3_runExchange_47 rfl (by decide) rfl ?_
  refine gj_aload_n C 1 dX3_runExchange_48 rfl ?_
  replace hf := gw_bnd hf
  obtain ⟨r6, hr6, hf⟩ := hf
  refine gj_cVv (As := []) (rest := []) C cb_X3_80 (s_X3_makeOffers (gw_l K) Γ r5.2 μ o  r6 hr6) rfl (Nat.le_of_ble_eq_true rfl) gw_atM rfl rfl dX3_runExchange_49 (gw_rmk rfl) rfl ?_
  refine gj_iload_n C 0 dX3_runExchange_52 rfl ?_
  cases hf
  exact gj_iret C E dX3_runExchange_53 (Nat.le_of_ble_eq_true rfl) (Nat.le_of_ble_eq_true rfl)
