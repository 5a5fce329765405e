/-! PURE: rules and what matches -/
theorem pvLen_37 {σ : PvS} {i : Nat} : pvLen σ 37 i = 14 := rfl
theorem pvLen_36 {σ : PvS} {i : Nat} : pvLen σ 36 i = 14 := rfl
theorem pvLen_38 {σ : PvS} {i : Nat} : pvLen σ 38 i = 3 := rfl
theorem pvLen_39 {σ : PvS} {i : Nat} : pvLen σ 39 i = 3 := rfl
theorem pvLen_40 {σ : PvS} {i : Nat} : pvLen σ 40 i = 3 := rfl
theorem pvLen_31 {σ : PvS} {i : Nat} : pvLen σ 31 i = if σ.2.1 3 1 i = 0 then 14 else 0 := rfl
theorem pvLen_30 {σ : PvS} {i : Nat} : pvLen σ 30 i = if σ.2.1 3 1 i = 0 then 0 else 20 := rfl
theorem pvLen_32 {σ : PvS} {i : Nat} : pvLen σ 32 i = if σ.2.1 3 1 i = 0 then 0 else 20 := rfl
theorem pvLen_33 {σ : PvS} {i : Nat} : pvLen σ 33 i = if σ.2.1 3 1 i = 0 then 0 else 20 := rfl
/-- whether the one part fits -/
def fitv (σ : PvS) (r n : Nat) : Int32 := if (σ.2.2.2.1 38 r 0 = -1 ∨ σ.2.2.2.1 38 r 0 = σ.2.1 3 2 n) ∧ σ.2.1 3 11 n &&& σ.2.2.2.1 39 r 0 = σ.2.2.2.1 39 r 0 ∧ (σ.2.2.2.1 40 r 0 = 0 ∨ σ.2.2.2.1 40 r 0 = σ.2.1 3 10 n) then 1 else 0
def selv (σ : PvS) (r n : Nat) : Int32 := if σ.2.1 3 1 n = 0 then fitv σ r n else 0
theorem fitv01 (σ : PvS) (r n : Nat) : is01 (fitv σ r n) := by
  unfold fitv
  split
  · exact Or.inr rfl
  · exact Or.inl rfl
theorem selv01 (σ : PvS) (r n : Nat) : is01 (selv σ r n) := by
  unfold selv
  split
  · exact fitv01 σ r n
  · exact Or.inl rfl
theorem f_fits {σ : PvS} {r n : Nat} (h : σ.2.1 5 7 r = 1) : f_X5_fits σ r 0 n = some (fitv σ r n) := by
  have v3 : vin (0 : Int32) 3 := by decide
  have h73 : ∀ a b : Int32, f_X5_fits_73 σ r 0 n a b = some (if a = 0 ∨ b = 0 ∨ ¬ (σ.2.2.2.1 40 r 0 = 0 ∨ σ.2.2.2.1 40 r 0 = σ.2.1 3 10 n) then 0 else 1) := fun a b => by
    unfold f_X5_fits_73 f_X5_fits_97 f_X5_fits_102
    rw [pvLen_40, gd_t v3, gd_t v3]
    show (if σ.2.2.2.1 40 r 0 = 0 then _ else if σ.2.2.2.1 40 r 0 = σ.2.1 3 10 n then _ else _) = _
    by_cases ha : a = 0 <;> by_cases hb : b = 0 <;> by_cases h1 : σ.2.2.2.1 40 r 0 = 0 <;> by_cases h2 : σ.2.2.2.1 40 r 0 = σ.2.1 3 10 n <;> simp [ha, hb, h1, h2]
  have h47 : ∀ a : Int32, f_X5_fits_47 σ r 0 n a = some (if a = 0 ∨ ¬ σ.2.1 3 11 n &&& σ.2.2.2.1 39 r 0 = σ.2.2.2.1 39 r 0 ∨ ¬ (σ.2.2.2.1 40 r 0 = 0 ∨ σ.2.2.2.1 40 r 0 = σ.2.1 3 10 n) then 0 else 1) := fun a => by
    unfold f_X5_fits_47
    rw [pvLen_39, gd_t v3, gd_t v3, h73, h73]
    show (if σ.2.1 3 11 n &&& σ.2.2.2.1 39 r 0 = σ.2.2.2.1 39 r 0 then _ else _) = _
    by_cases h1 : σ.2.1 3 11 n &&& σ.2.2.2.1 39 r 0 = σ.2.2.2.1 39 r 0
    · rw [if_pos h1]
      by_cases ha : a = 0 <;> simp [ha, h1]
    · rw [if_neg h1]
      simp [h1]
  unfold f_X5_fits f_X5_fits_42
  rw [h, if_neg (by decide), if_neg (by decide), if_pos (by decide), pvLen_38, gd_t v3, gd_t v3, h47, h47]
  show (if σ.2.2.2.1 38 r 0 = -1 then _ else if σ.2.2.2.1 38 r 0 = σ.2.1 3 2 n then _ else _) = _
  unfold fitv
  by_cases h1 : σ.2.2.2.1 38 r 0 = -1
  · rw [if_pos h1]
    by_cases h2 : σ.2.1 3 11 n &&& σ.2.2.2.1 39 r 0 = σ.2.2.2.1 39 r 0 <;> by_cases h3 : (σ.2.2.2.1 40 r 0 = 0 ∨ σ.2.2.2.1 40 r 0 = σ.2.1 3 10 n) <;> simp [h1, h2, h3]
  · rw [if_neg h1]
    by_cases h4 : σ.2.2.2.1 38 r 0 = σ.2.1 3 2 n
    · rw [if_pos h4]
      by_cases h2 : σ.2.1 3 11 n &&& σ.2.2.2.1 39 r 0 = σ.2.2.2.1 39 r 0 <;> by_cases h3 : (σ.2.2.2.1 40 r 0 = 0 ∨ σ.2.2.2.1 40 r 0 = σ.2.1 3 10 n) <;> simp [h4, h2, h3]
    · rw [if_neg h4, if_pos (Or.inl rfl), if_neg (fun q => q.1.elim h1 h4)]
theorem f_selects {σ : PvS} {r n : Nat} (h : σ.2.1 5 7 r = 1) : f_X5_selects σ r n = some (selv σ r n) := by
  unfold f_X5_selects selv
  by_cases ht : σ.2.1 3 1 n = 0
  · rw [if_pos ht, if_pos ht, h, if_neg (by decide)]
    have hu : f_X5_fitsUpTo 4 σ r (1 - 1) n = some (fitv σ r n) := by
      show ob1 (f_X5_fits σ r 0 n) (fun r10 => if r10 = 0 then some 0 else if (0 : Int32) = 0 then some 1 else _) = _
      rw [ob1_t (f_fits h)]
      rcases fitv01 σ r n with q | q
      · rw [q, if_pos rfl]
      · rw [q, if_neg (by decide), if_pos rfl]
    rw [ob1_t hu]
    rcases fitv01 σ r n with q | q
    · rw [q, if_pos rfl]
    · rw [q, if_neg (by decide)]
  · rw [if_neg ht, if_neg ht]
/-- whether a rule comes ahead of another -/
def ahd (σ : PvS) (r : Nat) (x : Int32) : Int32 := if x < 0 then 1 else if x < nI (σ.1 1) then (if σ.2.1 5 2 r = σ.2.1 5 2 x.toNatClampNeg then (if σ.2.1 5 8 r < σ.2.1 5 8 x.toNatClampNeg then 0 else 1) else σ.2.1 5 2 r) else 1
theorem ahd01 {σ : PvS} {r : Nat} {x : Int32} (h : is01 (σ.2.1 5 2 r)) : is01 (ahd σ r x) := by
  unfold ahd
  split
  · exact Or.inr rfl
  split
  · split
    · split
      · exact Or.inl rfl
      · exact Or.inr rfl
    · exact h
  · exact Or.inr rfl
theorem f_ahead {σ : PvS} (hr : WFr σ) {r : Nat} (hrr : r < σ.1 1) (x : Int32) : f_X6_comesAheadOf σ r x = some (ahd σ r x) := by
  unfold f_X6_comesAheadOf ahd
  obtain ⟨h24, hl, hw⟩ := hr
  rw [hl, List.length_range]
  by_cases h0 : x < 0
  · rw [if_pos h0, if_pos h0]
  rw [if_neg h0, if_neg h0]
  by_cases h1 : x < nI (σ.1 1)
  · have e1 := ti_lt.mp h1
    rw [ti_n (s31 (by omega))] at e1
    have e0 : 0 ≤ x.toInt := by
      rcases Int.lt_or_le x.toInt 0 with q | q
      · exact absurd (ti_lt.mpr q) h0
      · exact q
    have ec := Int32.toNat_toInt x
    rw [if_pos h1, if_pos h1, gd_t (vin_i e0 e1), nm_t, getD_at (range_at (show x.toNatClampNeg < σ.1 1 by omega))]
    split
    · split <;> rfl
    · rw [gd_t (hw r hrr).2.1]
  · rw [if_neg h1, if_neg h1]
/-- which rule comes first, of so many -/
def frf (σ : PvS) (t : Int32) (n : Nat) : Nat → Nat → Int32
  | 0 => fun _ => -1
  | i + 1 => fun p => if σ.2.1 5 9 i ≠ (if nI i = t then 1 else 0) ∧ selv σ i n ≠ 0 ∧ σ.2.1 5 0 i = nI p ∧ ahd σ i (frf σ t n i p) ≠ 0 then nI i else frf σ t n i p
/-- the first fourteen of a row -/
def row (σ : PvS) (κ r : Nat) (f : Nat → Int32) : PvS := (σ.1, σ.2.1, σ.2.2.1, fun κ' i j => if κ' = κ ∧ i = r ∧ j < 14 then f j else σ.2.2.2.1 κ' i j, σ.2.2.2.2)
theorem row_at (σ : PvS) (κ r : Nat) (f : Nat → Int32) {p : Nat} (hp : p < 14) : (row σ κ r f).2.2.2.1 κ r p = f p := if_pos ⟨rfl, rfl, hp⟩
theorem row_ne (σ : PvS) (κ r : Nat) (f : Nat → Int32) {κ' i j : Nat} (h : ¬ (κ' = κ ∧ i = r)) : (row σ κ r f).2.2.2.1 κ' i j = σ.2.2.2.1 κ' i j := if_neg (fun q => h ⟨q.1, q.2.1⟩)
theorem row_congr {σ : PvS} {κ r : Nat} {f g : Nat → Int32} (h : ∀ j, j < 14 → f j = g j) : row σ κ r f = row σ κ r g := by
  unfold row
  have : (fun κ' i j => if κ' = κ ∧ i = r ∧ j < 14 then f j else σ.2.2.2.1 κ' i j) = (fun κ' i j => if κ' = κ ∧ i = r ∧ j < 14 then g j else σ.2.2.2.1 κ' i j) := by
    funext κ' i j
    by_cases q : κ' = κ ∧ i = r ∧ j < 14
    · rw [if_pos q, if_pos q, h j q.2.2]
    · rw [if_neg q, if_neg q]
  rw [this]
theorem row_set {σ : PvS} {κ r p : Nat} {f : Nat → Int32} {v : Int32} (hp : p < 14) : pvA (row σ κ r f) κ r p v = row σ κ r (fun j => if j = p then v else f j) := by
  unfold pvA row up3
  have : (fun x y z => if x = κ ∧ y = r ∧ z = p then v else if x = κ ∧ y = r ∧ z < 14 then f z else σ.2.2.2.1 x y z) = (fun κ' i j => if κ' = κ ∧ i = r ∧ j < 14 then (if j = p then v else f j) else σ.2.2.2.1 κ' i j) := by
    funext x y z
    by_cases q : x = κ ∧ y = r
    · obtain ⟨rfl, rfl⟩ := q
      by_cases q2 : z = p
      · rw [if_pos ⟨rfl, rfl, q2⟩, if_pos ⟨rfl, rfl, by omega⟩, if_pos q2]
      · rw [if_neg (fun w => q2 w.2.2)]
        by_cases q3 : z < 14
        · rw [if_pos ⟨rfl, rfl, q3⟩, if_pos ⟨rfl, rfl, q3⟩, if_neg q2]
        · rw [if_neg (fun w => q3 w.2.2), if_neg (fun w => q3 w.2.2)]
    · rw [if_neg (fun w => q ⟨w.1, w.2.1⟩), if_neg (fun w => q ⟨w.1, w.2.1⟩), if_neg (fun w => q ⟨w.1, w.2.1⟩)]
  show (σ.1, σ.2.1, σ.2.2.1, _, σ.2.2.2.2) = _
  rw [← this]
theorem row_id (σ : PvS) (κ r : Nat) : row σ κ r (fun j => σ.2.2.2.1 κ r j) = σ := by
  unfold row
  have : (fun κ' i j => if κ' = κ ∧ i = r ∧ j < 14 then σ.2.2.2.1 κ r j else σ.2.2.2.1 κ' i j) = σ.2.2.2.1 := by
    funext x y z
    by_cases q : x = κ ∧ y = r ∧ z < 14
    · rw [if_pos q, q.1, q.2.1]
    · rw [if_neg q]
  rw [this]
/-- the row is filled -/
theorem f_fill (σ : PvS) (r : Nat) : f_J7_fill_53178 σ r (-1) = some (row σ 37 r (fun _ => -1)) := by
  have key : ∀ (d i n : Nat) (f : Nat → Int32), i + d = 14 → d < n → (∀ j, j < i → f j = -1) → f_J7_fill_53178_5 n (row σ 37 r f) r (-1) (nI i) (nI 14) = some (row σ 37 r (fun _ => -1)) := by
    intro d
    induction d with
    | zero =>
      intro i n f hi hn hf
      obtain ⟨n, rfl⟩ : ∃ m, n = m + 1 := ⟨n - 1, by omega⟩
      show (if nI 14 ≤ nI i then some (row σ 37 r f) else _) = _
      rw [if_pos (nI_le (by omega) (s31 (by omega))), row_congr (fun j hj => hf j (by omega))]
    | succ d ih =>
      intro i n f hi hn hf
      obtain ⟨n, rfl⟩ : ∃ m, n = m + 1 := ⟨n - 1, by omega⟩
      show (if nI 14 ≤ nI i then some (row σ 37 r f) else gd (vin (nI i) 14) (nm (pvA (row σ 37 r f) 37 r (nI i).toNatClampNeg (-1)) (fun σ3 => f_J7_fill_53178_5 n σ3 r (-1) (nI i + 1) (nI 14)))) = _
      rw [if_neg (nI_ge (by omega) (by decide)), gd_t (vin_n (by omega) (by decide)), nm_t, nI_clamp (s31 (by omega)), row_set (by omega), nI_1]
      exact ih (i + 1) n _ (by omega) (by omega) (fun j hj => by
        by_cases q : j = i
        · exact if_pos q
        · exact (if_neg q).trans (hf j (by omega)))
  unfold f_J7_fill_53178
  have := key 14 0 fu (fun j => σ.2.2.2.1 37 r j) rfl (by unfold fu; omega) (fun j hj => absurd hj (Nat.not_lt_zero j))
  rw [row_id] at this
  exact this
theorem row_row (σ : PvS) (κ r : Nat) (f g : Nat → Int32) : row (row σ κ r f) κ r g = row σ κ r g := by
  unfold row
  have : (fun κ' i j => if κ' = κ ∧ i = r ∧ j < 14 then g j else if κ' = κ ∧ i = r ∧ j < 14 then f j else σ.2.2.2.1 κ' i j) = (fun κ' i j => if κ' = κ ∧ i = r ∧ j < 14 then g j else σ.2.2.2.1 κ' i j) := by
    funext x y z
    by_cases q : x = κ ∧ y = r ∧ z < 14
    · rw [if_pos q, if_pos q]
    · rw [if_neg q, if_neg q, if_neg q]
  rw [← this]
/-- the rules are gone through -/
theorem f_findRules {σ : PvS} (h : WF σ) {k n : Nat} (t : Int32) (hn : n < σ.1 0) : f_X6_findRules σ k n t = some (row σ 37 (40 * k + n) (frf σ t n (σ.1 1))) := by
  obtain ⟨h24, hl, hw⟩ := h.r
  have hn15 := h.t.n
  have key : ∀ (d i m : Nat), i + d = σ.1 1 → d < m → f_X6_findRules_20 m (row σ 37 (40 * k + n) (frf σ t n i)) n t (40 * k + n) (nI i) = some (row σ 37 (40 * k + n) (frf σ t n (σ.1 1))) := by
    intro d
    induction d with
    | zero =>
      intro i m hi hm
      obtain ⟨m, rfl⟩ : ∃ q, m = q + 1 := ⟨m - 1, by omega⟩
      show (if nI (σ.2.2.2.2 2).length ≤ nI i then some _ else _) = _
      rw [hl, List.length_range, if_pos (nI_le (by omega) (s31 (by omega))), show i = σ.1 1 by omega]
    | succ d ih =>
      intro i m hi hm
      obtain ⟨m, rfl⟩ : ∃ q, m = q + 1 := ⟨m - 1, by omega⟩
      obtain ⟨⟨p0, hp0, ep, -⟩, hs, hpt, hon⟩ := hw i (by omega)
      have nxt := ih (i + 1) m (by omega) (by omega)
      generalize hρ : row σ 37 (40 * k + n) (frf σ t n i) = ρ
      have I5 : ∀ q z, ρ.2.1 5 q z = σ.2.1 5 q z := fun q z => by rw [← hρ]; rfl
      have sel : f_X5_selects ρ i n = some (selv σ i n) := by rw [f_selects (by rw [I5]; exact hpt), ← hρ]; rfl
      have same : (¬ (σ.2.1 5 9 i ≠ (if nI i = t then 1 else 0) ∧ selv σ i n ≠ 0)) → row σ 37 (40 * k + n) (frf σ t n i) = row σ 37 (40 * k + n) (frf σ t n (i + 1)) := fun q => row_congr (fun j _ => (if_neg (fun w => q ⟨w.1, w.2.1⟩)).symm)
      have s84 : f_X6_findRules_84 (f_X6_findRules_20 m) ρ n t (40 * k + n) (nI i) i 0 = f_X6_findRules_20 m ρ n t (40 * k + n) (nI (i + 1)) := by
        unfold f_X6_findRules_84; rw [if_pos rfl, nI_1]
      have s56 : ∀ b : Int32, b = (if nI i = t then 1 else 0) → f_X6_findRules_56 (f_X6_findRules_20 m) ρ n t (40 * k + n) (nI i) i b (ρ.2.1 5 9 i) = some (row σ 37 (40 * k + n) (frf σ t n (σ.1 1))) := fun b hb => by
        unfold f_X6_findRules_56 f_X6_findRules_83
        rw [I5, s84]
        by_cases c1 : σ.2.1 5 9 i = b
        · rw [if_pos c1, ← hρ, same (fun q => q.1 (c1.trans hb))]
          exact nxt
        rw [if_neg c1]
        have pr : f_X9_isProperty ρ (ρ.2.1 5 0 i) = some 1 := by
          rw [I5, ep]
          unfold f_X9_isProperty
          rw [if_neg (nI_pos (s31 (by omega))), if_neg (show ¬ 14 ≤ nI p0 from nI_ge (b := 14) hp0 (by decide))]
        rw [ob1_t pr, if_neg (by decide), ob1_t sel]
        by_cases c2 : selv σ i n = 0
        · rw [if_pos c2, ← hρ, same (fun q => q.2 c2)]
          exact nxt
        rw [if_neg c2]
        unfold f_X6_findRules_84
        rw [if_neg (by decide), pvLen_37, I5, ep, gd_t (vin_n hp0 (by decide))]
        simp only [nI_clamp (s31 (show p0 ≤ 3000 by omega))]
        have er : ρ.2.2.2.1 37 (40 * k + n) p0 = frf σ t n i p0 := by rw [← hρ]; exact row_at _ _ _ _ hp0
        have ah : f_X6_comesAheadOf ρ i (ρ.2.2.2.1 37 (40 * k + n) p0) = some (ahd σ i (frf σ t n i p0)) := by
          rw [f_ahead (σ := ρ) (h.r.congr (by rw [← hρ]; rfl) (by rw [← hρ]; rfl) (fun q z => I5 q z)) (by rw [← hρ]; show i < σ.1 1; omega), er, ← hρ]; rfl
        rw [ob1_t ah]
        have on : σ.2.1 5 9 i ≠ (if nI i = t then 1 else 0) := fun q => c1 (q.trans hb.symm)
        by_cases c3 : ahd σ i (frf σ t n i p0) = 0
        · rw [if_pos c3, nI_1, ← hρ, row_congr (g := frf σ t n (i + 1)) (fun j hj => (if_neg (fun w => by
            have e : p0 = j := (nI_eq (s31 (by omega)) (s31 (by omega))).mp (ep.symm.trans w.2.2.1)
            rw [← e] at w
            exact w.2.2.2 c3)).symm)]
          exact nxt
        · rw [if_neg c3, gd_t (vin_n hp0 (by decide)), nm_t, nI_1, ← hρ, row_set hp0, row_congr (g := frf σ t n (i + 1)) (fun j hj => ?_)]
          · exact nxt
          · by_cases e : j = p0
            · rw [if_pos e, e]
              exact (if_pos ⟨on, c2, ep, c3⟩).symm
            · rw [if_neg e]
              exact (if_neg (fun w => e ((nI_eq (s31 (by omega)) (s31 (by omega))).mp (ep.symm.trans w.2.2.1)).symm)).symm
      show (if nI (ρ.2.2.2.2 2).length ≤ nI i then some ρ else gd (vin (nI i) (ρ.2.2.2.2 2).length) (nm ((ρ.2.2.2.2 2).getD (nI i).toNatClampNeg 0) (fun y27 => if nI i = t then f_X6_findRules_56 (f_X6_findRules_20 m) ρ n t (40 * k + n) (nI i) y27 1 (ρ.2.1 5 9 y27) else f_X6_findRules_56 (f_X6_findRules_20 m) ρ n t (40 * k + n) (nI i) y27 0 (ρ.2.1 5 9 y27)))) = _
      have eL : ρ.2.2.2.2 2 = List.range (σ.1 1) := by rw [← hρ]; exact hl
      rw [eL, List.length_range, if_neg (nI_ge (by omega) (s31 (by omega))), gd_t (vin_n (by omega) (s31 (by omega))), nm_t, nI_clamp (s31 (by omega)), getD_at (range_at (show i < σ.1 1 by omega))]
      by_cases ct : nI i = t
      · rw [if_pos ct]; exact s56 1 (if_pos ct).symm
      · rw [if_neg ct]; exact s56 0 (if_neg ct).symm
  unfold f_X6_findRules
  rw [h.t.num hn, gd_t (vin_n (by omega) (by decide)), nI_clamp (s31 (by omega)), ob1_t (f_fill σ _)]
  exact key (σ.1 1) 0 fu (Nat.zero_add _) (by unfold fu; omega)
