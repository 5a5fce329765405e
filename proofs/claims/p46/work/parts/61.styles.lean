/-! PURE: styles -/
theorem frf_spec {σ : PvS} {t : Int32} {n : Nat} : ∀ {i p : Nat}, frf σ t n i p = -1 ∨ ∃ j, j < i ∧ frf σ t n i p = nI j ∧ selv σ j n ≠ 0 ∧ σ.2.1 5 0 j = nI p := by
  intro i
  induction i with
  | zero => intro p; exact Or.inl rfl
  | succ i ih =>
    intro p
    have e : frf σ t n (i + 1) p = if σ.2.1 5 9 i ≠ (if nI i = t then 1 else 0) ∧ selv σ i n ≠ 0 ∧ σ.2.1 5 0 i = nI p ∧ ahd σ i (frf σ t n i p) ≠ 0 then nI i else frf σ t n i p := rfl
    rw [e]
    by_cases q : σ.2.1 5 9 i ≠ (if nI i = t then 1 else 0) ∧ selv σ i n ≠ 0 ∧ σ.2.1 5 0 i = nI p ∧ ahd σ i (frf σ t n i p) ≠ 0
    · rw [if_pos q]
      exact Or.inr ⟨i, Nat.lt_succ_self i, rfl, q.2.1, q.2.2.1⟩
    · rw [if_neg q]
      rcases ih (p := p) with e | ⟨j, h1, h2, h3⟩
      · exact Or.inl e
      · exact Or.inr ⟨j, by omega, h2, h3⟩
theorem frf_dc (σ : PvS) (t : Int32) (n : Nat) : ∀ i, frf (dc σ) t n i = frf σ t n i := by
  intro i
  induction i with
  | zero => rfl
  | succ i ih =>
    funext p
    show (if _ ∧ _ ∧ _ ∧ ahd (dc σ) i (frf (dc σ) t n i p) ≠ 0 then nI i else frf (dc σ) t n i p) = _
    rw [ih]
    rfl
def ownv (σ : PvS) (n p : Nat) : Int32 := if σ.2.1 3 1 n = 0 then σ.2.2.2.1 31 n p else 9998
/-- what the rules say: value, strong -/
def rlv (σ : PvS) (t : Int32) (n p : Nat) : Int32 := if frf σ t n (σ.1 1) p < 0 then 9998 else σ.2.1 5 1 (frf σ t n (σ.1 1) p).toNatClampNeg
def rls (σ : PvS) (t : Int32) (n p : Nat) : Int32 := if frf σ t n (σ.1 1) p < 0 then 0 else σ.2.1 5 2 (frf σ t n (σ.1 1) p).toNatClampNeg
/-- with the element's own: value, reason -/
def owv (σ : PvS) (t : Int32) (n p : Nat) : Int32 := if ownv σ n p ≠ 9998 ∧ rls σ t n p = 0 then ownv σ n p else rlv σ t n p
def owr (σ : PvS) (t : Int32) (n p : Nat) : Int32 := if ownv σ n p ≠ 9998 ∧ rls σ t n p = 0 then -1 else frf σ t n (σ.1 1) p
/-- what is not declared: value, reason -/
def ndv (σ : PvS) (t : Int32) (n p : Nat) : Int32 := if owv σ t n p = 9998 then (if (p = 8 ∨ p = 9 ∨ p = 10) ∧ par σ n ≠ none then 9999 else tb3 p) else owv σ t n p
def str (σ : PvS) (t : Int32) (n p : Nat) : Int32 := if owv σ t n p = 9998 then (if (p = 8 ∨ p = 9 ∨ p = 10) ∧ par σ n ≠ none then -2 else -3) else owr σ t n p
/-- and with what the parent has -/
def stv (σ : PvS) (t : Int32) (n p : Nat) (pv : Int32) : Int32 := if ndv σ t n p = 9999 then (match par σ n with | none => tb3 p | some _ => pv) else ndv σ t n p
theorem ndv_dc (σ : PvS) (t : Int32) (n p : Nat) : ndv (dc σ) t n p = ndv σ t n p := by
  unfold ndv owv rls rlv
  rw [show (dc σ).1 1 = σ.1 1 from rfl, frf_dc]
  rfl
theorem str_dc (σ : PvS) (t : Int32) (n p : Nat) : str (dc σ) t n p = str σ t n p := by
  unfold str owv owr rls rlv
  rw [show (dc σ).1 1 = σ.1 1 from rfl, frf_dc]
  rfl
theorem stv_dc (σ : PvS) (t : Int32) (n p : Nat) (pv : Int32) : stv (dc σ) t n p pv = stv σ t n p pv := by
  unfold stv
  rw [ndv_dc]
  rfl
theorem f_of {σ : PvS} {k u p : Nat} (hu : σ.2.1 3 0 u = nI u) (h40 : u < 40) (hp : p < 14) : f_X6_of σ k u (nI p) = some (σ.2.2.2.1 36 (40 * k + u) p) := by
  unfold f_X6_of f_X6_of_30
  rw [hu, if_neg (nI_pos (s31 (by omega))), if_neg (show ¬ 40 ≤ nI u from nI_ge (b := 40) h40 (by decide)), if_neg (nI_pos (s31 (by omega))), if_neg (show ¬ 14 ≤ nI p from nI_ge (b := 14) hp (by decide)), if_neg (by decide), gd_t (vin_n h40 (by decide)), pvLen_36, gd_t (vin_n hp (by decide)), nI_clamp (s31 (by omega)), nI_clamp (s31 (by omega))]
theorem f_own {σ : PvS} {n p : Nat} (hp : p < 14) : f_X3_declaredOf σ n (nI p) = some (ownv σ n p) := by
  unfold f_X3_declaredOf ownv
  rw [if_neg (nI_pos (s31 (by omega))), pvLen_31]
  by_cases h : σ.2.1 3 1 n = 0
  · rw [if_pos h, if_pos h, if_neg (nI_ge (by omega) (by decide)), gd_t (vin_n hp (by decide)), nI_clamp (s31 (by omega))]
  · rw [if_neg h, if_neg h, if_pos (nI_le (Nat.zero_le _) (s31 (by omega)))]
theorem f_inh (σ : PvS) {p : Nat} (hp : p < 14) : f_X9_isInherited σ (nI p) = some (if p = 8 ∨ p = 9 ∨ p = 10 then 1 else 0) := by
  have key : ∀ q : Fin 14, f_X9_isInherited σ (nI q.1) = some (if q.1 = 8 ∨ q.1 = 9 ∨ q.1 = 10 then 1 else 0) := by
    unfold f_X9_isInherited
    decide +kernel
  exact key ⟨p, hp⟩
def put2 (σ : PvS) (R p : Nat) (v r : Int32) : PvS := pvA (pvA σ 36 R p v) 37 R p r
theorem f_settle {σ : PvS} {k n p : Nat} {t : Int32} (hr : WFr σ) (hn : σ.2.1 3 0 n = nI n) (h40 : n < 40) (hp : p < 14) (hpar : ∀ u, par σ n = some u → σ.2.1 3 0 u = nI u ∧ u < 40) (hf : σ.2.2.2.1 37 (40 * k + n) p = frf σ t n (σ.1 1) p) : f_X6_settle σ k n (nI p) = some (put2 σ (40 * k + n) p (stv σ t n p (match par σ n with | none => 0 | some u => σ.2.2.2.1 36 (40 * k + u) p)) (str σ t n p)) := by
  obtain ⟨h24, hl, hw⟩ := hr
  have v40 := vin_n h40 (show 40 < 2 ^ 31 by decide)
  have v14 := vin_n hp (show 14 < 2 ^ 31 by decide)
  have cn : (nI n).toNatClampNeg = n := nI_clamp (s31 (by omega))
  have cp : (nI p).toNatClampNeg = p := nI_clamp (s31 (by omega))
  have s185 : ∀ r v : Int32, f_X6_settle_185 σ k n (nI p) r v = some (put2 σ (40 * k + n) p v r) := fun r v => by
    unfold f_X6_settle_185
    simp only [hn, cn, cp, pvLen_36]
    rw [gd_t v40, gd_t v14, nm_t]
    show gd (vin (σ.2.1 3 0 n) 40) (gd (vin (nI p) 14) (nm (pvA _ 37 (40 * k + (σ.2.1 3 0 n).toNatClampNeg) p r) _)) = _
    simp only [hn, cn]
    rw [gd_t v40, gd_t v14, nm_t]
    rfl
  have s151 : ∀ r v : Int32, f_X6_settle_151 σ k n (nI p) r v = some (put2 σ (40 * k + n) p (if v = 9999 then (match par σ n with | none => tb3 p | some u => σ.2.2.2.1 36 (40 * k + u) p) else v) r) := fun r v => by
    unfold f_X6_settle_151 f_X6_settle_183
    by_cases hv : v = 9999
    · rw [if_pos hv, if_pos hv, nm_t]
      show oc (par σ n) (gd (vin (nI p) 14) (f_X6_settle_185 σ k n (nI p) r (tb3 (nI p).toNatClampNeg))) (fun jo10 => nm (par σ n) (fun o12 => oc o12 none (fun jo12 => ob1 (f_X6_of σ k jo12 (nI p)) (fun r13 => f_X6_settle_185 σ k n (nI p) r r13)))) = _
      cases e : par σ n with
      | none => rw [oc_nt, gd_t v14, s185, cp]
      | some u =>
        obtain ⟨u1, u2⟩ := hpar u e
        rw [oc_st, nm_t, oc_st, ob1_t (f_of u1 u2 hp), s185]
    · rw [if_neg hv, if_neg hv, s185]
  have s135 : ∀ b v : Int32, f_X6_settle_135 σ k n (nI p) b v = some (put2 σ (40 * k + n) p (if v = 9999 then (match par σ n with | none => tb3 p | some u => σ.2.2.2.1 36 (40 * k + u) p) else v) (if b = 0 then -3 else -2)) := fun b v => by
    unfold f_X6_settle_135 f_X6_settle_149
    by_cases hb : b = 0
    · rw [if_pos hb, if_pos hb, s151]
    · rw [if_neg hb, if_neg hb, s151]
  have s117 : ∀ b : Int32, f_X6_settle_117 σ k n (nI p) b = some (put2 σ (40 * k + n) p (if (if b = 0 then tb3 p else 9999) = 9999 then (match par σ n with | none => tb3 p | some u => σ.2.2.2.1 36 (40 * k + u) p) else (if b = 0 then tb3 p else 9999)) (if b = 0 then -3 else -2)) := fun b => by
    unfold f_X6_settle_117
    by_cases hb : b = 0
    · simp only [if_pos hb, cp]
      rw [gd_t v14, s135, if_pos hb]
    · simp only [if_neg hb, s135]
  have s90 : ∀ r v : Int32, f_X6_settle_90 σ k n (nI p) r v = some (put2 σ (40 * k + n) p (if (if v = 9998 then (if (p = 8 ∨ p = 9 ∨ p = 10) ∧ par σ n ≠ none then 9999 else tb3 p) else v) = 9999 then (match par σ n with | none => tb3 p | some u => σ.2.2.2.1 36 (40 * k + u) p) else (if v = 9998 then (if (p = 8 ∨ p = 9 ∨ p = 10) ∧ par σ n ≠ none then 9999 else tb3 p) else v)) (if v = 9998 then (if (p = 8 ∨ p = 9 ∨ p = 10) ∧ par σ n ≠ none then -2 else -3) else r)) := fun r v => by
    unfold f_X6_settle_90 f_X6_settle_116
    by_cases hv : v = 9998
    · simp only [if_pos hv]
      rw [ob1_t (f_inh σ hp)]
      by_cases hi : p = 8 ∨ p = 9 ∨ p = 10
      · rw [if_pos hi, if_neg (by decide), nm_t]
        show oc (par σ n) _ _ = _
        cases e : par σ n with
        | none =>
          rw [oc_nt, s117]
          simp only [e, ne_eq, not_true_eq_false, and_false, if_false, if_true]
        | some u =>
          rw [oc_st, s117]
          simp [e, hi]
      · rw [if_neg hi, if_pos rfl, s117]
        simp only [if_true, if_neg (show ¬ ((p = 8 ∨ p = 9 ∨ p = 10) ∧ par σ n ≠ none) from fun q => hi q.1)]
    · simp only [if_neg hv]
      exact s151 r v
  have s63 : ∀ r v s : Int32, f_X6_settle_63 σ k n (nI p) r v s = if ownv σ n p ≠ 9998 ∧ s = 0 then f_X6_settle_90 σ k n (nI p) (-1) (ownv σ n p) else f_X6_settle_90 σ k n (nI p) r v := fun r v s => by
    unfold f_X6_settle_63
    rw [ob1_t (f_own hp)]
    by_cases h1 : ownv σ n p = 9998
    · rw [if_pos h1, if_neg (fun q => q.1 h1)]
    · rw [if_neg h1]
      by_cases h2 : s = 0
      · rw [if_pos h2, if_pos ⟨h1, h2⟩]
      · rw [if_neg h2, if_neg (fun q => h2 q.2)]
  have fin : f_X6_settle_63 σ k n (nI p) (frf σ t n (σ.1 1) p) (rlv σ t n p) (rls σ t n p) = some (put2 σ (40 * k + n) p (stv σ t n p (match par σ n with | none => 0 | some u => σ.2.2.2.1 36 (40 * k + u) p)) (str σ t n p)) := by
    have e1 : (match par σ n with | none => tb3 p | some u => σ.2.2.2.1 36 (40 * k + u) p) = (match par σ n with | none => tb3 p | some _ => (match par σ n with | none => 0 | some u => σ.2.2.2.1 36 (40 * k + u) p)) := by
      cases par σ n <;> rfl
    rw [s63]
    by_cases h1 : ownv σ n p ≠ 9998 ∧ rls σ t n p = 0
    · rw [if_pos h1, s90, e1]
      unfold stv str ndv owv owr
      simp only [if_pos h1]
    · rw [if_neg h1, s90, e1]
      unfold stv str ndv owv owr
      simp only [if_neg h1]
  unfold f_X6_settle
  simp only [hn, cn, cp, pvLen_37, hf]
  rw [gd_t v40, gd_t v14, hl, List.length_range]
  rcases frf_spec (σ := σ) (t := t) (n := n) (i := σ.1 1) (p := p) with q | ⟨j, j1, j2, -⟩
  · rw [if_pos (by rw [q]; decide), ← fin]
    unfold rlv rls
    rw [if_pos (by rw [q]; decide), if_pos (by rw [q]; decide)]
  · rw [← fin]
    unfold rlv rls
    rw [j2, if_neg (nI_pos (s31 (by omega))), if_neg (nI_ge j1 (s31 (by omega))), gd_t (vin_n j1 (s31 (by omega))), nm_t, gd_t (vin_n j1 (s31 (by omega))), nm_t, if_neg (nI_pos (s31 (by omega))), if_neg (nI_pos (s31 (by omega))), nI_clamp (s31 (by omega)), getD_at (range_at j1)]
