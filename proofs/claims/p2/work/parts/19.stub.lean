theorem rows_all (M : Nat) (h : M < 322) : rowsM M = true := by
  sorry
