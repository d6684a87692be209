/-! THE EXCHANGE -/
theorem op_runExchange {j : Nat} {τ μ : gw_S} (h : Inv j τ μ) (hj : j < 512) : ∃ r q, f_X3_runExchange τ = some r ∧ f_X4_runExchange μ = some q ∧ r.1 = q.1 ∧ Inv (j + 1) r.2 q.2 := by
  sorry
