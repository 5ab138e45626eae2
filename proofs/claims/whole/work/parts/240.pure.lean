/-- THE PURE THEOREM: for every script of at most 3584 ints the class and the model answer alike -/
theorem pure_all (Ln : Nat) (xs : Nat → Int32) (h : Ln ≤ 3584) : fL_law Ln xs 600 0 zMG = some () := by
  sorry
