theorem Inv_mono {j : Nat} {τ μ : gw_S} (h : Inv j τ μ) : Inv (j + 1) τ μ := by
  obtain ⟨cm, sm, td, h1, h2⟩ := h
  exact ⟨cm, sm, td, by omega, h2⟩
theorem op_addCourse {j : Nat} {τ μ : gw_S} (h : Inv j τ μ) (hj : j < 512) (a1 a2 a3 : Int32) : ∃ r q, f_X3_addCourse τ a1 a2 a3 = some r ∧ f_X4_addCourse μ a1 a2 a3 = some q ∧ (∀ e, r.1 = .inr e → e = "java/lang/IllegalArgumentException" ∨ e = "java/lang/IllegalStateException") ∧ q.2 0 18 = lw_k ["java/lang/IllegalArgumentException", "java/lang/IllegalStateException"] r.1 ∧ (∀ v, r.1 = .inl v → v = q.1) ∧ Inv (j + 1) r.2 q.2 := by
  sorry
theorem op_setSeats {j : Nat} {τ μ : gw_S} (h : Inv j τ μ) (hj : j < 512) (a1 a2 : Int32) : ∃ r q, f_X3_setSeats τ a1 a2 = some r ∧ f_X4_setSeats μ a1 a2 = some q ∧ (∀ e, r.1 = .inr e → e = "java/lang/IndexOutOfBoundsException" ∨ e = "java/lang/IllegalArgumentException" ∨ e = "java/lang/IllegalStateException") ∧ q.2 0 18 = lw_k ["java/lang/IndexOutOfBoundsException", "java/lang/IllegalArgumentException", "java/lang/IllegalStateException"] r.1 ∧ (∀ v, r.1 = .inl v → v = q.1) ∧ Inv (j + 1) r.2 q.2 := by
  sorry
theorem op_addPrerequisite {j : Nat} {τ μ : gw_S} (h : Inv j τ μ) (hj : j < 512) (a1 a2 : Int32) : ∃ r q, f_X3_addPrerequisite τ a1 a2 = some r ∧ f_X4_addPrerequisite μ a1 a2 = some q ∧ (∀ e, r.1 = .inr e → e = "java/lang/IndexOutOfBoundsException" ∨ e = "java/lang/IllegalStateException") ∧ q.2 0 18 = lw_k ["java/lang/IndexOutOfBoundsException", "java/lang/IllegalStateException"] r.1 ∧ (∀ v, r.1 = .inl v → v = q.1) ∧ Inv (j + 1) r.2 q.2 := by
  sorry
theorem op_requires {j : Nat} {τ μ : gw_S} (h : Inv j τ μ) (hj : j < 512) (a1 a2 : Int32) : ∃ r q, f_X3_requires τ a1 a2 = some r ∧ f_X4_requires μ a1 a2 = some q ∧ (∀ e, r = .inr e → e = "java/lang/IndexOutOfBoundsException") ∧ q.2 0 18 = lw_k ["java/lang/IndexOutOfBoundsException"] r ∧ (∀ v, r = .inl v → (v = 0 ↔ q.1 = 0)) ∧ Inv (j + 1) τ q.2 := by
  sorry
theorem op_level {j : Nat} {τ μ : gw_S} (h : Inv j τ μ) (hj : j < 512) (a1 : Int32) : ∃ r q, f_X3_level τ a1 = some r ∧ f_X4_level μ a1 = some q ∧ (∀ e, r = .inr e → e = "java/lang/IndexOutOfBoundsException") ∧ q.2 0 18 = lw_k ["java/lang/IndexOutOfBoundsException"] r ∧ (∀ v, r = .inl v → v = q.1) ∧ Inv (j + 1) τ q.2 := by
  sorry
theorem op_courses {j : Nat} {τ μ : gw_S} (h : Inv j τ μ) (hj : j < 512) : ∃ r q, f_X3_courses τ = some r ∧ f_X4_courses μ = some q ∧ r = q.1 ∧ Inv (j + 1) τ q.2 := by
  sorry
theorem op_enrolled {j : Nat} {τ μ : gw_S} (h : Inv j τ μ) (hj : j < 512) (a1 : Int32) : ∃ r q, f_X3_enrolled τ a1 = some r ∧ f_X4_enrolled μ a1 = some q ∧ (∀ e, r = .inr e → e = "java/lang/IndexOutOfBoundsException") ∧ q.2 0 18 = lw_k ["java/lang/IndexOutOfBoundsException"] r ∧ (∀ v, r = .inl v → v = q.1) ∧ Inv (j + 1) τ q.2 := by
  sorry
theorem op_freeSeats {j : Nat} {τ μ : gw_S} (h : Inv j τ μ) (hj : j < 512) (a1 : Int32) : ∃ r q, f_X3_freeSeats τ a1 = some r ∧ f_X4_freeSeats μ a1 = some q ∧ (∀ e, r = .inr e → e = "java/lang/IndexOutOfBoundsException") ∧ q.2 0 18 = lw_k ["java/lang/IndexOutOfBoundsException"] r ∧ (∀ v, r = .inl v → v = q.1) ∧ Inv (j + 1) τ q.2 := by
  sorry
theorem op_addStudent {j : Nat} {τ μ : gw_S} (h : Inv j τ μ) (hj : j < 512) (a1 a2 : Int32) : ∃ r q, f_X3_addStudent τ a1 a2 = some r ∧ f_X4_addStudent μ a1 a2 = some q ∧ (∀ e, r.1 = .inr e → e = "java/lang/IllegalArgumentException" ∨ e = "java/lang/IllegalStateException") ∧ q.2 0 18 = lw_k ["java/lang/IllegalArgumentException", "java/lang/IllegalStateException"] r.1 ∧ (∀ v, r.1 = .inl v → v = q.1) ∧ Inv (j + 1) r.2 q.2 := by
  sorry
theorem op_pass {j : Nat} {τ μ : gw_S} (h : Inv j τ μ) (hj : j < 512) (a1 a2 : Int32) : ∃ r q, f_X3_pass τ a1 a2 = some r ∧ f_X4_pass μ a1 a2 = some q ∧ (∀ e, r.1 = .inr e → e = "java/lang/IndexOutOfBoundsException" ∨ e = "java/lang/IllegalStateException") ∧ q.2 0 18 = lw_k ["java/lang/IndexOutOfBoundsException", "java/lang/IllegalStateException"] r.1 ∧ (∀ v, r.1 = .inl v → v = q.1) ∧ Inv (j + 1) r.2 q.2 := by
  sorry
theorem op_students {j : Nat} {τ μ : gw_S} (h : Inv j τ μ) (hj : j < 512) : ∃ r q, f_X3_students τ = some r ∧ f_X4_students μ = some q ∧ r = q.1 ∧ Inv (j + 1) τ q.2 := by
  sorry
theorem op_hasPassed {j : Nat} {τ μ : gw_S} (h : Inv j τ μ) (hj : j < 512) (a1 a2 : Int32) : ∃ r q, f_X3_hasPassed τ a1 a2 = some r ∧ f_X4_hasPassed μ a1 a2 = some q ∧ (∀ e, r = .inr e → e = "java/lang/IndexOutOfBoundsException") ∧ q.2 0 18 = lw_k ["java/lang/IndexOutOfBoundsException"] r ∧ (∀ v, r = .inl v → (v = 0 ↔ q.1 = 0)) ∧ Inv (j + 1) τ q.2 := by
  sorry
theorem op_isEnrolled {j : Nat} {τ μ : gw_S} (h : Inv j τ μ) (hj : j < 512) (a1 a2 : Int32) : ∃ r q, f_X3_isEnrolled τ a1 a2 = some r ∧ f_X4_isEnrolled μ a1 a2 = some q ∧ (∀ e, r = .inr e → e = "java/lang/IndexOutOfBoundsException") ∧ q.2 0 18 = lw_k ["java/lang/IndexOutOfBoundsException"] r ∧ (∀ v, r = .inl v → (v = 0 ↔ q.1 = 0)) ∧ Inv (j + 1) τ q.2 := by
  sorry
theorem op_credits {j : Nat} {τ μ : gw_S} (h : Inv j τ μ) (hj : j < 512) (a1 : Int32) : ∃ r q, f_X3_credits τ a1 = some r ∧ f_X4_credits μ a1 = some q ∧ (∀ e, r = .inr e → e = "java/lang/IndexOutOfBoundsException") ∧ q.2 0 18 = lw_k ["java/lang/IndexOutOfBoundsException"] r ∧ (∀ v, r = .inl v → v = q.1) ∧ Inv (j + 1) τ q.2 := by
  sorry
theorem op_missing {j : Nat} {τ μ : gw_S} (h : Inv j τ μ) (hj : j < 512) (a1 a2 : Int32) : ∃ r q, f_X3_missing τ a1 a2 = some r ∧ f_X4_missing μ a1 a2 = some q ∧ (∀ e, r = .inr e → e = "java/lang/IndexOutOfBoundsException") ∧ q.2 0 18 = lw_k ["java/lang/IndexOutOfBoundsException"] r ∧ (∀ v, r = .inl v → v = q.1) ∧ Inv (j + 1) τ q.2 := by
  sorry
theorem op_obstacle {j : Nat} {τ μ : gw_S} (h : Inv j τ μ) (hj : j < 512) (a1 a2 : Int32) : ∃ r q, f_X3_obstacle τ a1 a2 = some r ∧ f_X4_obstacle μ a1 a2 = some q ∧ (∀ e, r = .inr e → e = "java/lang/IndexOutOfBoundsException") ∧ q.2 0 18 = lw_k ["java/lang/IndexOutOfBoundsException"] r ∧ (∀ v, r = .inl v → v = q.1) ∧ Inv (j + 1) τ q.2 := by
  sorry
theorem op_wish {j : Nat} {τ μ : gw_S} (h : Inv j τ μ) (hj : j < 512) (a1 a2 : Int32) : ∃ r q, f_X3_wish τ a1 a2 = some r ∧ f_X4_wish μ a1 a2 = some q ∧ (∀ e, r.1 = .inr e → e = "java/lang/IndexOutOfBoundsException" ∨ e = "java/lang/IllegalStateException") ∧ q.2 0 18 = lw_k ["java/lang/IndexOutOfBoundsException", "java/lang/IllegalStateException"] r.1 ∧ (∀ v, r.1 = .inl v → v = q.1) ∧ Inv (j + 1) r.2 q.2 := by
  sorry
theorem op_dropWish {j : Nat} {τ μ : gw_S} (h : Inv j τ μ) (hj : j < 512) (a1 a2 : Int32) : ∃ r q, f_X3_dropWish τ a1 a2 = some r ∧ f_X4_dropWish μ a1 a2 = some q ∧ (∀ e, r.1 = .inr e → e = "java/lang/IndexOutOfBoundsException" ∨ e = "java/lang/IllegalStateException") ∧ q.2 0 18 = lw_k ["java/lang/IndexOutOfBoundsException", "java/lang/IllegalStateException"] r.1 ∧ (∀ v, r.1 = .inl v → v = q.1) ∧ Inv (j + 1) r.2 q.2 := by
  sorry
theorem op_wishes {j : Nat} {τ μ : gw_S} (h : Inv j τ μ) (hj : j < 512) (a1 : Int32) : ∃ r q, f_X3_wishes τ a1 = some r ∧ f_X4_wishes μ a1 = some q ∧ (∀ e, r = .inr e → e = "java/lang/IndexOutOfBoundsException") ∧ q.2 0 18 = lw_k ["java/lang/IndexOutOfBoundsException"] r ∧ (∀ v, r = .inl v → v = q.1) ∧ Inv (j + 1) τ q.2 := by
  sorry
theorem op_wishAt {j : Nat} {τ μ : gw_S} (h : Inv j τ μ) (hj : j < 512) (a1 a2 : Int32) : ∃ r q, f_X3_wishAt τ a1 a2 = some r ∧ f_X4_wishAt μ a1 a2 = some q ∧ (∀ e, r = .inr e → e = "java/lang/IndexOutOfBoundsException") ∧ q.2 0 18 = lw_k ["java/lang/IndexOutOfBoundsException"] r ∧ (∀ v, r = .inl v → v = q.1) ∧ Inv (j + 1) τ q.2 := by
  sorry
theorem op_request {j : Nat} {τ μ : gw_S} (h : Inv j τ μ) (hj : j < 512) (a1 a2 : Int32) : ∃ r q, f_X3_request τ a1 a2 = some r ∧ f_X4_request μ a1 a2 = some q ∧ (∀ e, r.1 = .inr e → e = "java/lang/IndexOutOfBoundsException" ∨ e = "java/lang/IllegalStateException") ∧ q.2 0 18 = lw_k ["java/lang/IndexOutOfBoundsException", "java/lang/IllegalStateException"] r.1 ∧ (∀ v, r.1 = .inl v → v = q.1) ∧ Inv (j + 1) r.2 q.2 := by
  sorry
theorem op_drop {j : Nat} {τ μ : gw_S} (h : Inv j τ μ) (hj : j < 512) (a1 a2 : Int32) : ∃ r q, f_X3_drop τ a1 a2 = some r ∧ f_X4_drop μ a1 a2 = some q ∧ (∀ e, r.1 = .inr e → e = "java/lang/IndexOutOfBoundsException" ∨ e = "java/lang/IllegalStateException") ∧ q.2 0 18 = lw_k ["java/lang/IndexOutOfBoundsException", "java/lang/IllegalStateException"] r.1 ∧ (∀ v, r.1 = .inl v → v = q.1) ∧ Inv (j + 1) r.2 q.2 := by
  sorry
theorem op_change {j : Nat} {τ μ : gw_S} (h : Inv j τ μ) (hj : j < 512) (a1 a2 a3 : Int32) : ∃ r q, f_X3_change τ a1 a2 a3 = some r ∧ f_X4_change μ a1 a2 a3 = some q ∧ (∀ e, r.1 = .inr e → e = "java/lang/IndexOutOfBoundsException" ∨ e = "java/lang/IllegalStateException") ∧ q.2 0 18 = lw_k ["java/lang/IndexOutOfBoundsException", "java/lang/IllegalStateException"] r.1 ∧ (∀ v, r.1 = .inl v → v = q.1) ∧ Inv (j + 1) r.2 q.2 := by
  sorry
theorem op_accept {j : Nat} {τ μ : gw_S} (h : Inv j τ μ) (hj : j < 512) (a1 a2 : Int32) : ∃ r q, f_X3_accept τ a1 a2 = some r ∧ f_X4_accept μ a1 a2 = some q ∧ (∀ e, r.1 = .inr e → e = "java/lang/IndexOutOfBoundsException" ∨ e = "java/lang/IllegalStateException") ∧ q.2 0 18 = lw_k ["java/lang/IndexOutOfBoundsException", "java/lang/IllegalStateException"] r.1 ∧ (∀ v, r.1 = .inl v → v = q.1) ∧ Inv (j + 1) r.2 q.2 := by
  sorry
theorem op_leave {j : Nat} {τ μ : gw_S} (h : Inv j τ μ) (hj : j < 512) (a1 a2 : Int32) : ∃ r q, f_X3_leave τ a1 a2 = some r ∧ f_X4_leave μ a1 a2 = some q ∧ (∀ e, r.1 = .inr e → e = "java/lang/IndexOutOfBoundsException" ∨ e = "java/lang/IllegalStateException") ∧ q.2 0 18 = lw_k ["java/lang/IndexOutOfBoundsException", "java/lang/IllegalStateException"] r.1 ∧ (∀ v, r.1 = .inl v → (v = 0 ↔ q.1 = 0)) ∧ Inv (j + 1) r.2 q.2 := by
  sorry
theorem op_advance {j : Nat} {τ μ : gw_S} (h : Inv j τ μ) (hj : j < 512) (a1 : Int32) : ∃ r q, f_X3_advance τ a1 = some r ∧ f_X4_advance μ a1 = some q ∧ (∀ e, r.1 = .inr e → e = "java/lang/IllegalArgumentException") ∧ q.2 0 18 = lw_k ["java/lang/IllegalArgumentException"] r.1 ∧ (∀ v, r.1 = .inl v → v = q.1) ∧ Inv (j + 1) r.2 q.2 := by
  sorry
theorem op_day {j : Nat} {τ μ : gw_S} (h : Inv j τ μ) (hj : j < 512) : ∃ r q, f_X3_day τ = some r ∧ f_X4_day μ = some q ∧ r = q.1 ∧ Inv (j + 1) τ q.2 := by
  sorry
theorem op_waiting {j : Nat} {τ μ : gw_S} (h : Inv j τ μ) (hj : j < 512) (a1 : Int32) : ∃ r q, f_X3_waiting τ a1 = some r ∧ f_X4_waiting μ a1 = some q ∧ (∀ e, r = .inr e → e = "java/lang/IndexOutOfBoundsException") ∧ q.2 0 18 = lw_k ["java/lang/IndexOutOfBoundsException"] r ∧ (∀ v, r = .inl v → v = q.1) ∧ Inv (j + 1) τ q.2 := by
  sorry
theorem op_waitingAt {j : Nat} {τ μ : gw_S} (h : Inv j τ μ) (hj : j < 512) (a1 a2 : Int32) : ∃ r q, f_X3_waitingAt τ a1 a2 = some r ∧ f_X4_waitingAt μ a1 a2 = some q ∧ (∀ e, r = .inr e → e = "java/lang/IndexOutOfBoundsException") ∧ q.2 0 18 = lw_k ["java/lang/IndexOutOfBoundsException"] r ∧ (∀ v, r = .inl v → v = q.1) ∧ Inv (j + 1) τ q.2 := by
  sorry
theorem op_offerDays {j : Nat} {τ μ : gw_S} (h : Inv j τ μ) (hj : j < 512) (a1 a2 : Int32) : ∃ r q, f_X3_offerDays τ a1 a2 = some r ∧ f_X4_offerDays μ a1 a2 = some q ∧ (∀ e, r = .inr e → e = "java/lang/IndexOutOfBoundsException") ∧ q.2 0 18 = lw_k ["java/lang/IndexOutOfBoundsException"] r ∧ (∀ v, r = .inl v → v = q.1) ∧ Inv (j + 1) τ q.2 := by
  sorry
theorem op_runLottery {j : Nat} {τ μ : gw_S} (h : Inv j τ μ) (hj : j < 512) (a1 : Int32) : ∃ r q, f_X3_runLottery τ a1 = some r ∧ f_X4_runLottery μ a1 = some q ∧ (∀ e, r.1 = .inr e → e = "java/lang/IllegalArgumentException") ∧ q.2 0 18 = lw_k ["java/lang/IllegalArgumentException"] r.1 ∧ (∀ v, r.1 = .inl v → v = q.1) ∧ Inv (j + 1) r.2 q.2 := by
  sorry
theorem op_lotteryNumber {j : Nat} {τ μ : gw_S} (h : Inv j τ μ) (hj : j < 512) (a1 : Int32) : ∃ r q, f_X3_lotteryNumber τ a1 = some r ∧ f_X4_lotteryNumber μ a1 = some q ∧ (∀ e, r = .inr e → e = "java/lang/IndexOutOfBoundsException") ∧ q.2 0 18 = lw_k ["java/lang/IndexOutOfBoundsException"] r ∧ (∀ v, r = .inl v → v = q.1) ∧ Inv (j + 1) τ q.2 := by
  sorry
theorem op_putUp {j : Nat} {τ μ : gw_S} (h : Inv j τ μ) (hj : j < 512) (a1 a2 : Int32) : ∃ r q, f_X3_putUp τ a1 a2 = some r ∧ f_X4_putUp μ a1 a2 = some q ∧ (∀ e, r.1 = .inr e → e = "java/lang/IndexOutOfBoundsException" ∨ e = "java/lang/IllegalStateException") ∧ q.2 0 18 = lw_k ["java/lang/IndexOutOfBoundsException", "java/lang/IllegalStateException"] r.1 ∧ (∀ v, r.1 = .inl v → v = q.1) ∧ Inv (j + 1) r.2 q.2 := by
  sorry
theorem op_withdraw {j : Nat} {τ μ : gw_S} (h : Inv j τ μ) (hj : j < 512) (a1 : Int32) : ∃ r q, f_X3_withdraw τ a1 = some r ∧ f_X4_withdraw μ a1 = some q ∧ (∀ e, r.1 = .inr e → e = "java/lang/IndexOutOfBoundsException") ∧ q.2 0 18 = lw_k ["java/lang/IndexOutOfBoundsException"] r.1 ∧ (∀ v, r.1 = .inl v → v = q.1) ∧ Inv (j + 1) r.2 q.2 := by
  sorry
theorem op_placeUp {j : Nat} {τ μ : gw_S} (h : Inv j τ μ) (hj : j < 512) (a1 : Int32) : ∃ r q, f_X3_placeUp τ a1 = some r ∧ f_X4_placeUp μ a1 = some q ∧ (∀ e, r = .inr e → e = "java/lang/IndexOutOfBoundsException") ∧ q.2 0 18 = lw_k ["java/lang/IndexOutOfBoundsException"] r ∧ (∀ v, r = .inl v → v = q.1) ∧ Inv (j + 1) τ q.2 := by
  sorry
theorem op_pointsTo {j : Nat} {τ μ : gw_S} (h : Inv j τ μ) (hj : j < 512) (a1 : Int32) : ∃ r q, f_X3_pointsTo τ a1 = some r ∧ f_X4_pointsTo μ a1 = some q ∧ (∀ e, r = .inr e → e = "java/lang/IndexOutOfBoundsException" ∨ e = "java/lang/IllegalStateException") ∧ q.2 0 18 = lw_k ["java/lang/IndexOutOfBoundsException", "java/lang/IllegalStateException"] r ∧ (∀ v, r = .inl v → v = q.1) ∧ Inv (j + 1) τ q.2 := by
  sorry
theorem op_runExchange {j : Nat} {τ μ : gw_S} (h : Inv j τ μ) (hj : j < 512) : ∃ r q, f_X3_runExchange τ = some r ∧ f_X4_runExchange μ = some q ∧ r.1 = q.1 ∧ Inv (j + 1) r.2 q.2 := by
  sorry
