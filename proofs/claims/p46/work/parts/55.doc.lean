/-! PURE: the document of a state -/
def dkI (κ : Nat) : Bool := κ == 3 || κ == 5 || κ == 7
def dkA (κ : Nat) : Bool := κ == 30 || κ == 31 || κ == 38 || κ == 39 || κ == 40 || κ == 41
def dc (σ : PvS) : PvS := (σ.1, fun κ k i => if dkI κ then σ.2.1 κ k i else 0, fun κ k i => if κ = 3 then σ.2.2.1 κ k i else none, fun κ i j => if dkA κ then σ.2.2.2.1 κ i j else 0, σ.2.2.2.2)
theorem dc_eq {σ τ : PvS} (h1 : τ.1 = σ.1) (hI : ∀ κ k i, dkI κ = true → τ.2.1 κ k i = σ.2.1 κ k i) (hR : ∀ k i, τ.2.2.1 3 k i = σ.2.2.1 3 k i) (hA : ∀ κ i j, dkA κ = true → τ.2.2.2.1 κ i j = σ.2.2.2.1 κ i j) (hL : τ.2.2.2.2 = σ.2.2.2.2) : dc τ = dc σ := by
  unfold dc
  rw [h1, hL]
  have e1 : (fun κ k i => if dkI κ then τ.2.1 κ k i else 0) = (fun κ k i => if dkI κ then σ.2.1 κ k i else 0) := by
    funext κ k i
    by_cases h : dkI κ = true
    · rw [if_pos h, if_pos h, hI κ k i h]
    · rw [if_neg h, if_neg h]
  have e2 : (fun κ k i => if κ = 3 then τ.2.2.1 κ k i else none) = (fun κ k i => if κ = 3 then σ.2.2.1 κ k i else none) := by
    funext κ k i
    by_cases h : κ = 3
    · rw [if_pos h, if_pos h, h, hR k i]
    · rw [if_neg h, if_neg h]
  have e3 : (fun κ i j => if dkA κ then τ.2.2.2.1 κ i j else 0) = (fun κ i j => if dkA κ then σ.2.2.2.1 κ i j else 0) := by
    funext κ k i
    by_cases h : dkA κ = true
    · rw [if_pos h, if_pos h, hA κ k i h]
    · rw [if_neg h, if_neg h]
  rw [e1, e2, e3]
section DC
variable {σ τ : PvS}
theorem dc_1 (h : dc τ = dc σ) : τ.1 = σ.1 := congrArg (fun z => z.1) h
theorem dc_L (h : dc τ = dc σ) : τ.2.2.2.2 = σ.2.2.2.2 := congrArg (fun z => z.2.2.2.2) h
theorem dc_I (h : dc τ = dc σ) {κ : Nat} (hk : dkI κ = true) (k i : Nat) : τ.2.1 κ k i = σ.2.1 κ k i := by
  have e : (dc τ).2.1 κ k i = (dc σ).2.1 κ k i := by rw [h]
  have e1 : (if dkI κ then τ.2.1 κ k i else 0) = (if dkI κ then σ.2.1 κ k i else 0) := e
  rwa [if_pos hk, if_pos hk] at e1
theorem dc_A (h : dc τ = dc σ) {κ : Nat} (hk : dkA κ = true) (i j : Nat) : τ.2.2.2.1 κ i j = σ.2.2.2.1 κ i j := by
  have e : (dc τ).2.2.2.1 κ i j = (dc σ).2.2.2.1 κ i j := by rw [h]
  have e1 : (if dkA κ then τ.2.2.2.1 κ i j else 0) = (if dkA κ then σ.2.2.2.1 κ i j else 0) := e
  rwa [if_pos hk, if_pos hk] at e1
theorem dc_R (h : dc τ = dc σ) (k i : Nat) : τ.2.2.1 3 k i = σ.2.2.1 3 k i := by
  have e : (dc τ).2.2.1 3 k i = (dc σ).2.2.1 3 k i := by rw [h]
  exact e
theorem dc_par (h : dc τ = dc σ) : par τ = par σ := by funext v; exact dc_R h 8 v
theorem dc_chl (h : dc τ = dc σ) : chl τ = chl σ := by unfold chl; rw [dc_L h]
theorem dc_dc (σ : PvS) : dc (dc σ) = dc σ := dc_eq rfl (fun κ k i h => if_pos h) (fun _ _ => rfl) (fun κ i j h => if_pos h) rfl
end DC
/-- the ranges of the law's values, the first ones too -/
def slo : Nat → Int
  | 0 => 1 | 1 => -1 | 2 => -1 | 9 => 1 | 12 => -30 | _ => 0
def shi : Nat → Int
  | 0 => 2 | 1 => 149 | 2 => 59 | 3 => 11 | 4 => 8 | 5 => 4 | 6 => 2 | 7 => 3 | 9 => 12 | 10 => 2 | 11 => 1 | 12 => 30 | _ => 0
def srg (p : Nat) (v : Int32) : Prop := slo p ≤ v.toInt ∧ v.toInt ≤ shi p
def WFw (σ : PvS) : Prop := ∀ u, u < σ.1 0 → (0 ≤ (σ.2.1 3 9 u).toInt ∧ (σ.2.1 3 9 u).toInt ≤ 20) ∧ (σ.2.1 3 1 u = 0 → σ.2.1 3 9 u = 0) ∧ (∀ j, 0 ≤ (σ.2.2.2.1 30 u j).toInt ∧ (σ.2.2.2.1 30 u j).toInt ≤ 12) ∧ (0 ≤ (σ.2.1 3 12 u).toInt ∧ (σ.2.1 3 12 u).toInt ≤ 5000) ∧ (σ.2.1 3 1 u = 0 → ∀ p, p < 14 → σ.2.2.2.1 31 u p = 9998 ∨ srg p (σ.2.2.2.1 31 u p))
def WFr (σ : PvS) : Prop := σ.1 1 ≤ 24 ∧ σ.2.2.2.2 2 = List.range (σ.1 1) ∧ ∀ r, r < σ.1 1 → (∃ p, p < 14 ∧ σ.2.1 5 0 r = nI p ∧ srg p (σ.2.1 5 1 r)) ∧ is01 (σ.2.1 5 2 r) ∧ σ.2.1 5 7 r = 1 ∧ is01 (σ.2.1 5 9 r)
def WF (σ : PvS) : Prop := WFt σ ∧ WFw σ ∧ WFr σ
theorem WF.t {σ : PvS} (h : WF σ) : WFt σ := h.1
theorem WF.w {σ : PvS} (h : WF σ) : WFw σ := h.2.1
theorem WF.r {σ : PvS} (h : WF σ) : WFr σ := h.2.2
theorem WFw.congr {σ τ : PvS} (h : WFw σ) (h0 : τ.1 0 = σ.1 0) (i1 : ∀ i, τ.2.1 3 1 i = σ.2.1 3 1 i) (i9 : ∀ i, τ.2.1 3 9 i = σ.2.1 3 9 i) (i12 : ∀ i, τ.2.1 3 12 i = σ.2.1 3 12 i) (a30 : ∀ i j, τ.2.2.2.1 30 i j = σ.2.2.2.1 30 i j) (a31 : ∀ i j, τ.2.2.2.1 31 i j = σ.2.2.2.1 31 i j) : WFw τ := by
  intro u hu
  simp only [i1, i9, i12, a30, a31]
  exact h u (by rw [← h0]; exact hu)
theorem WFr.congr {σ τ : PvS} (h : WFr σ) (h0 : τ.1 1 = σ.1 1) (hl : τ.2.2.2.2 2 = σ.2.2.2.2 2) (hi : ∀ k i, τ.2.1 5 k i = σ.2.1 5 k i) : WFr τ := by
  unfold WFr
  simp only [h0, hl, hi]
  exact h
theorem WF_dc {σ τ : PvS} (h : WF σ) (e : dc τ = dc σ) : WF τ :=
  ⟨h.t.congr (by rw [dc_1 e]) (dc_L e) (dc_par e) (fun i => dc_I e rfl 0 i) (fun i => dc_I e rfl 1 i) (fun i => dc_I e rfl 13 i),
   h.w.congr (by rw [dc_1 e]) (fun i => dc_I e rfl 1 i) (fun i => dc_I e rfl 9 i) (fun i => dc_I e rfl 12 i) (fun i j => dc_A e rfl i j) (fun i j => dc_A e rfl i j),
   h.r.congr (by rw [dc_1 e]) (by rw [dc_L e]) (fun k i => dc_I e rfl k i)⟩
theorem fgt_dc (σ : PvS) : dc (fgt σ) = dc σ := dc_eq rfl (fun κ k i h => fgt_I σ (fun z => by rw [z] at h; cases h) (fun z => by rw [z] at h; cases h)) (fun _ _ => rfl) (fun _ _ _ _ => rfl) rfl
