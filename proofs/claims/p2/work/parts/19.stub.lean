theorem rows_all (M : Nat) (h : M < 310) : rowsM M = true := by
  sorry
