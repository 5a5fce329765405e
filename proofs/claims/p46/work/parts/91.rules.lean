/-! PURE: a rule and its part -/
def PT (r : Nat) (σ τ : PvS) : Prop := τ.1 = σ.1 ∧ (∀ κ q i, ¬ (κ = 5 ∧ i = r ∧ (q = 7 ∨ q = 8)) → τ.2.1 κ q i = σ.2.1 κ q i) ∧ τ.2.1 5 7 r = 1 ∧ τ.2.2.1 = σ.2.2.1 ∧ (∀ κ i j, (κ < 38 ∨ 41 < κ) → τ.2.2.2.1 κ i j = σ.2.2.2.1 κ i j) ∧ τ.2.2.2.2 = σ.2.2.2.2
theorem f_takePart {σ : PvS} {r : Nat} {tag : Int32} (h7 : σ.2.1 5 7 r = 0) : ∃ τ, f_X5_takePart σ r tag (-1) 0 0 = some τ ∧ PT r σ τ := by
  have s109 : ∀ (τ : PvS) (a b c : Int32), (τ.1 = σ.1 ∧ (∀ κ q i, ¬ (κ = 5 ∧ i = r ∧ (q = 7 ∨ q = 8)) → τ.2.1 κ q i = σ.2.1 κ q i) ∧ τ.2.1 5 7 r = 1 ∧ τ.2.2.1 = σ.2.2.1 ∧ (∀ κ i j, (κ < 38 ∨ 41 < κ) → τ.2.2.2.1 κ i j = σ.2.2.2.1 κ i j) ∧ τ.2.2.2.2 = σ.2.2.2.2) → ∃ ρ, f_X5_takePart_109 τ tag a b c r = some ρ ∧ PT r σ ρ := fun τ a b c h => by
    have p8 : ∀ v, PT r σ (pvI τ 5 8 r v) := fun v => ⟨h.1, fun κ q i z => by rw [pvI_at, if_neg (fun e => z ⟨e.1, e.2.2, Or.inr e.2.1⟩)]; exact h.2.1 κ q i z, by rw [pvI_at, if_neg (by omega)]; exact h.2.2.1, h.2.2.2.1, h.2.2.2.2.1, h.2.2.2.2.2⟩
    unfold f_X5_takePart_109
    split
    · exact ⟨_, rfl, p8 _⟩
    · exact ⟨_, rfl, p8 _⟩
  unfold f_X5_takePart
  rw [if_neg (by rw [h7]; decide), if_pos (by rw [h7]; decide), gd_t (by rw [h7]; exact show vin 0 3 from by decide), nm_t, if_pos (by decide)]
  unfold f_X5_takePart_50
  have e7 : (pvA σ 38 r ((σ.2.1 5 7 r).toNatClampNeg) tag).2.1 5 7 r = 0 := h7
  have b1 : (pvA σ 38 r ((σ.2.1 5 7 r).toNatClampNeg) tag).1 = σ.1 ∧ (pvA σ 38 r ((σ.2.1 5 7 r).toNatClampNeg) tag).2.1 = σ.2.1 ∧ (pvA σ 38 r ((σ.2.1 5 7 r).toNatClampNeg) tag).2.2.1 = σ.2.2.1 ∧ (∀ κ i j, (κ < 38 ∨ 41 < κ) → (pvA σ 38 r ((σ.2.1 5 7 r).toNatClampNeg) tag).2.2.2.1 κ i j = σ.2.2.2.1 κ i j) ∧ (pvA σ 38 r ((σ.2.1 5 7 r).toNatClampNeg) tag).2.2.2.2 = σ.2.2.2.2 := ⟨rfl, rfl, rfl, fun κ i j z => by rw [pvA_at, if_neg (by omega)], rfl⟩
  generalize pvA σ 38 r ((σ.2.1 5 7 r).toNatClampNeg) tag = A at *
  rw [e7]
  unfold f_X5_takePart_51
  have e7b : (pvA A 39 r ((0 : Int32).toNatClampNeg) 0).2.1 5 7 r = 0 := e7
  have b2 : (pvA A 39 r ((0 : Int32).toNatClampNeg) 0).1 = σ.1 ∧ (pvA A 39 r ((0 : Int32).toNatClampNeg) 0).2.1 = σ.2.1 ∧ (pvA A 39 r ((0 : Int32).toNatClampNeg) 0).2.2.1 = σ.2.2.1 ∧ (∀ κ i j, (κ < 38 ∨ 41 < κ) → (pvA A 39 r ((0 : Int32).toNatClampNeg) 0).2.2.2.1 κ i j = σ.2.2.2.1 κ i j) ∧ (pvA A 39 r ((0 : Int32).toNatClampNeg) 0).2.2.2.2 = σ.2.2.2.2 := ⟨b1.1, b1.2.1, b1.2.2.1, fun κ i j z => by rw [pvA_at, if_neg (by omega)]; exact b1.2.2.2.1 κ i j z, b1.2.2.2.2⟩
  rw [gd_t (show vin 0 (pvLen A 39 r) from show vin 0 3 from by decide), nm_t]
  clear e7 b1
  generalize pvA A 39 r ((0 : Int32).toNatClampNeg) 0 = B at *
  rw [gd_t (show vin (B.2.1 5 7 r) (pvLen B 40 r) from by rw [e7b]; exact show vin 0 3 from by decide), nm_t]
  have e7c : (pvA B 40 r ((B.2.1 5 7 r).toNatClampNeg) 0).2.1 5 7 r = 0 := e7b
  have b3 : (pvA B 40 r ((B.2.1 5 7 r).toNatClampNeg) 0).1 = σ.1 ∧ (pvA B 40 r ((B.2.1 5 7 r).toNatClampNeg) 0).2.1 = σ.2.1 ∧ (pvA B 40 r ((B.2.1 5 7 r).toNatClampNeg) 0).2.2.1 = σ.2.2.1 ∧ (∀ κ i j, (κ < 38 ∨ 41 < κ) → (pvA B 40 r ((B.2.1 5 7 r).toNatClampNeg) 0).2.2.2.1 κ i j = σ.2.2.2.1 κ i j) ∧ (pvA B 40 r ((B.2.1 5 7 r).toNatClampNeg) 0).2.2.2.2 = σ.2.2.2.2 := ⟨b2.1, b2.2.1, b2.2.2.1, fun κ i j z => by rw [pvA_at, if_neg (by omega)]; exact b2.2.2.2.1 κ i j z, b2.2.2.2.2⟩
  clear b2
  generalize pvA B 40 r ((B.2.1 5 7 r).toNatClampNeg) 0 = C at *
  rw [gd_t (show vin (C.2.1 5 7 r) 3 from by rw [e7c]; decide), gd_t (show is01 0 from Or.inl rfl), nm_t]
  have e7d : (pvA C 41 r ((C.2.1 5 7 r).toNatClampNeg) 0).2.1 5 7 r = 0 := e7c
  have b4 : (pvA C 41 r ((C.2.1 5 7 r).toNatClampNeg) 0).1 = σ.1 ∧ (pvA C 41 r ((C.2.1 5 7 r).toNatClampNeg) 0).2.1 = σ.2.1 ∧ (pvA C 41 r ((C.2.1 5 7 r).toNatClampNeg) 0).2.2.1 = σ.2.2.1 ∧ (∀ κ i j, (κ < 38 ∨ 41 < κ) → (pvA C 41 r ((C.2.1 5 7 r).toNatClampNeg) 0).2.2.2.1 κ i j = σ.2.2.2.1 κ i j) ∧ (pvA C 41 r ((C.2.1 5 7 r).toNatClampNeg) 0).2.2.2.2 = σ.2.2.2.2 := ⟨b3.1, b3.2.1, b3.2.2.1, fun κ i j z => by rw [pvA_at, if_neg (by omega)]; exact b3.2.2.2.1 κ i j z, b3.2.2.2.2⟩
  clear b3
  generalize pvA C 41 r ((C.2.1 5 7 r).toNatClampNeg) 0 = D at *
  rw [nm_t, if_pos rfl]
  unfold f_X5_takePart_98
  rw [if_pos rfl, e7d]
  refine s109 _ _ _ _ ⟨b4.1, fun κ q i z => by rw [pvI_at, if_neg (fun e => z ⟨e.1, e.2.2, Or.inl e.2.1⟩), b4.2.1], by rw [pvI_self]; rfl, b4.2.2.1, b4.2.2.2.1, b4.2.2.2.2⟩
