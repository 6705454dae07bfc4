theorem st_pure : st_PURE := by
  sorry
