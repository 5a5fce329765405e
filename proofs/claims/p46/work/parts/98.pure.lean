/-! PURE: the law answers, always -/
theorem law_pure (xs : Nat → Int32) (L : Nat) : ∃ τ, f_law xs L pvS0 = some (1, τ) := by
  obtain ⟨⟨a, τ⟩, e, h⟩ := t_law xs L
  have h : a = 1 := h
  exact ⟨τ, by rw [e, h]⟩
