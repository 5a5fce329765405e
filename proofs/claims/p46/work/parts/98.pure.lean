/-! THE PURE PART -/
theorem law_pure (xs : Nat → Int32) (L : Nat) : ∃ τ : PvS, f_law xs L pvS0 = some (1, τ) := sorry
