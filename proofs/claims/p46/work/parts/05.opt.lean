/-! PARTIAL FUNCTIONS: what the methods are turned into -/
def nm {α β : Type} (a : α) (K : α → Option β) : Option β := K a
def gd {β : Type} (c : Prop) [Decidable c] (X : Option β) : Option β := if c then X else none
def ob1 {α β : Type} (o : Option α) (K : α → Option β) : Option β := match o with
  | none => none
  | some a => K a
def ob2 {α β γ : Type} (o : Option (α × γ)) (K : α → γ → Option β) : Option β := match o with
  | none => none
  | some a => K a.1 a.2
def oc {β : Type} (o : Option Nat) (X : Option β) (K : Nat → Option β) : Option β := match o with
  | none => X
  | some j => K j
theorem nq_e {α β : Type} {a : α} {K : α → Option β} {r : β} (h : nm a K = some r) : ∃ x, x = a ∧ K x = some r := ⟨a, rfl, h⟩
theorem gd_e {β : Type} {c : Prop} [Decidable c] {X : Option β} {r : β} (h : gd c X = some r) : c ∧ X = some r := by
  unfold gd at h
  by_cases hc : c
  · rw [if_pos hc] at h; exact ⟨hc, h⟩
  · rw [if_neg hc] at h; cases h
theorem ob1_e {α β : Type} {o : Option α} {K : α → Option β} {r : β} (h : ob1 o K = some r) : ∃ a, o = some a ∧ K a = some r := by
  cases o with
  | none => cases h
  | some a => exact ⟨a, rfl, h⟩
theorem ob2_e {α β γ : Type} {o : Option (α × γ)} {K : α → γ → Option β} {r : β} (h : ob2 o K = some r) : ∃ a b, o = some (a, b) ∧ K a b = some r := by
  cases o with
  | none => cases h
  | some a => exact ⟨a.1, a.2, rfl, h⟩
theorem ite_p {β : Type} {c : Prop} [Decidable c] {X Y : Option β} {r : β} (q : c) (h : (if c then X else Y) = some r) : X = some r := by rwa [if_pos q] at h
theorem ite_n {β : Type} {c : Prop} [Decidable c] {X Y : Option β} {r : β} (q : ¬ c) (h : (if c then X else Y) = some r) : Y = some r := by rwa [if_neg q] at h
theorem oc_n {β : Type} {X : Option β} {K : Nat → Option β} {r : β} (h : oc none X K = some r) : X = some r := h
theorem oc_s {β : Type} {X : Option β} {K : Nat → Option β} {j : Nat} {r : β} (h : oc (some j) X K = some r) : K j = some r := h
abbrev vin (i : Int32) (n : Nat) : Prop := ¬ (i < 0 ∨ n ≤ i.toNatClampNeg)
abbrev is01 (v : Int32) : Prop := v = 0 ∨ v = 1
theorem is01_nar {v : Int32} (h : is01 v) : narrow .boolean (.int v) = .int v := by rcases h with rfl | rfl <;> rfl
theorem is01_fit {v : Int32} (h : is01 v) : fits .boolean (.int v) = true := by rcases h with rfl | rfl <;> rfl
theorem is01_vp {v : Int32} (h : is01 v) : vp_nar .boolean v = v := by rcases h with rfl | rfl <;> rfl
theorem row80 {t : Nat} {x : Int32} (ht : t < 2) (hx : vin x 40) : 40 * t + x.toNatClampNeg < 80 := by
  have : x.toNatClampNeg < 40 := Nat.not_le.mp fun q => hx (Or.inr q)
  omega
theorem pst {α : Type} {e r : α} {τ σ σ1 : PvS} (h : some (e, τ) = some (r, σ1)) (hc : τ.1 = σ.1) : e = r ∧ τ = σ1 ∧ τ.1 = σ.1 := by
  cases h
  exact ⟨rfl, rfl, hc⟩
theorem psv {τ σ σ1 : PvS} (h : some τ = some σ1) (hc : τ.1 = σ.1) : τ = σ1 ∧ τ.1 = σ.1 := by
  cases h
  exact ⟨rfl, hc⟩
abbrev imax (x y : Int32) : Int32 := if x < y then y else x
abbrev imin (x y : Int32) : Int32 := if y < x then y else x
def fu : Nat := 3000
