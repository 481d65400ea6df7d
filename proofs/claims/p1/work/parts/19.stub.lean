theorem rows_all (M : Nat) (h : M < 213) : rowsM M = true := by
  sorry
theorem rows_L : rowsB 16 false code ft_L 2205 = true := by
  sorry
