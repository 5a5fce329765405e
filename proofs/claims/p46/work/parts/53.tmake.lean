/-! PURE: the tree is changed -/
theorem imax_n {a b : Nat} (ha : a < 2 ^ 31) (hb : b < 2 ^ 31) : imax (nI a) (nI b) = nI (max a b) := by
  by_cases h : a < b
  · rw [show imax (nI a) (nI b) = nI b from if_pos (nI_lt h hb), Nat.max_eq_right (by omega)]
  · rw [show imax (nI a) (nI b) = nI a from if_neg (nI_nlt (by omega) ha), Nat.max_eq_left (by omega)]
/-- levels below -/
theorem f_levels {σ : PvS} (h : WFc σ) : ∀ {d x u : Nat}, d + x = 11 → u < σ.1 0 → ∃ r, f_X7_levelsBelow (d + 1) σ u (nI x) = some (nI r) ∧ ∃ v, v < σ.1 0 ∧ upk (par σ) r v = some u := by
  obtain ⟨dp, d1, d2, d3⟩ := h.dp
  intro d
  induction d with
  | zero =>
    intro x u hx hu
    refine ⟨0, ?_, u, hu, rfl⟩
    show (if nI x ≤ 10 then _ else some 0) = _
    rw [if_neg (by rw [show x = 11 by omega]; decide +kernel)]; rfl
  | succ d ih =>
    intro x u hx hu
    have hl := h.chlen hu
    have hn := h.n
    have key : ∀ (ys xs : List Nat) (n m : Nat), chl σ u = xs ++ ys → ys.length < n → (∃ v, v < σ.1 0 ∧ upk (par σ) m v = some u) → ∃ r, f_X7_levelsBelow_12 (f_X7_levelsBelow (d + 1)) σ n u (nI x) (nI m) (nI xs.length) = some (nI r) ∧ ∃ v, v < σ.1 0 ∧ upk (par σ) r v = some u := by
      intro ys
      induction ys with
      | nil =>
        intro xs n m e hn hm
        obtain ⟨n, rfl⟩ : ∃ m, n = m + 1 := ⟨n - 1, by omega⟩
        refine ⟨m, ?_, hm⟩
        show (if nI (chl σ u).length ≤ nI xs.length then some (nI m) else _) = _
        rw [e, List.append_nil]
        exact if_pos (nI_le (Nat.le_refl _) (s31 (by rw [e, List.append_nil] at hl; omega)))
      | cons c ys ihy =>
        intro xs n m e hn hm
        obtain ⟨n, rfl⟩ : ∃ m, n = m + 1 := ⟨n - 1, by have := hn; omega⟩
        have hxs : xs.length < (chl σ u).length := by rw [e, List.length_append, List.length_cons]; omega
        have hc := stepN e rfl
        obtain ⟨c1, c2⟩ := (h.ch hu).mp (List.mem_of_getElem? hc)
        obtain ⟨r', e', v', v1, v2⟩ := ih (x := x + 1) (by omega) c1
        obtain ⟨v, hv1, hv2⟩ := hm
        have q1 := up_dp h d3 hv1 hv2
        have q2 := up_dp h d3 v1 v2
        have q3 := d1 v hv1
        have q4 := d1 v' v1
        have m2 : ∃ w, w < σ.1 0 ∧ upk (par σ) (max m (1 + r')) w = some u := by
          rcases Nat.le_total m (1 + r') with q | q
          · rw [Nat.max_eq_right q, Nat.add_comm]; exact ⟨v', v1, upk_last.mpr ⟨c, v2, c2⟩⟩
          · rw [Nat.max_eq_left q]; exact ⟨v, hv1, hv2⟩
        obtain ⟨r, er, hr⟩ := ihy (xs ++ [c]) n (max m (1 + r')) (by rw [e, List.append_assoc]; rfl) (by have := hn; simp only [List.length_cons] at this; omega) m2
        refine ⟨r, ?_, hr⟩
        show (if nI (chl σ u).length ≤ nI xs.length then some (nI m) else gd (vin (nI xs.length) (chl σ u).length) (nm ((chl σ u).getD (nI xs.length).toNatClampNeg 0) (fun y4 => ob1 (f_X7_levelsBelow (d + 1) σ y4 (nI x + 1)) (fun r5 => f_X7_levelsBelow_12 (f_X7_levelsBelow (d + 1)) σ n u (nI x) (imax (nI m) (1 + r5)) (nI xs.length + 1))))) = _
        rw [if_neg (nI_ge hxs (s31 (by omega))), gd_t (vin_n hxs (s31 (by omega))), nm_t, nI_clamp (s31 (by omega)), getD_at hc, nI_1, ob1_t e', show (1 : Int32) = nI 1 from rfl, nI_add, nI_add, imax_n (s31 (by omega)) (s31 (by omega)), ← er, List.length_append]
        rfl
    obtain ⟨r, e, hr⟩ := key (chl σ u) [] fu 0 rfl (by unfold fu; omega) ⟨u, hu, rfl⟩
    refine ⟨r, ?_, hr⟩
    show (if nI x ≤ 10 then f_X7_levelsBelow_12 (f_X7_levelsBelow (d + 1)) σ fu u (nI x) (nI 0) (nI 0) else _) = _
    rw [if_pos (show nI x ≤ 10 from nI_le (b := 10) (by omega) (by decide))]
    exact e
/-- states that differ in a list, or in who is gone -/
theorem pvL_LL (σ : PvS) (j : Nat) (a b : List Nat) : pvL (pvL σ j a) j b = pvL σ j b := by
  unfold pvL va_up
  congr 4
  funext x
  by_cases h : x = j
  · simp [h]
  · simp [h]
theorem pvL_id (σ : PvS) (j : Nat) : pvL σ j (σ.2.2.2.2 j) = σ := by
  unfold pvL
  have : va_up σ.2.2.2.2 j (σ.2.2.2.2 j) = σ.2.2.2.2 := by
    funext x
    unfold va_up
    by_cases h : x = j
    · simp [h]
    · simp [h]
  rw [this]
theorem chl_L1 (σ : PvS) (a : List Nat) : chl (pvL σ 1 a) = chl σ := by
  funext u
  show va_up σ.2.2.2.2 1 a (u + 3) = _
  unfold va_up
  rw [if_neg (by omega)]
  rfl
theorem L1_L1 (σ : PvS) (a : List Nat) : (pvL σ 1 a).2.2.2.2 1 = a := by rw [pvL_at]; exact if_pos rfl
def gon (σ : PvS) (l : List Nat) : PvS := (σ.1, fun κ k i => if κ = 3 ∧ k = 13 ∧ i ∈ l then 1 else σ.2.1 κ k i, σ.2.2)
theorem gon_nil (σ : PvS) : gon σ [] = σ := by
  unfold gon
  have : (fun κ k i => if κ = 3 ∧ k = 13 ∧ i ∈ ([] : List Nat) then (1 : Int32) else σ.2.1 κ k i) = σ.2.1 := by
    funext κ k i
    exact if_neg (fun q => nomatch q.2.2)
  rw [this]
theorem gon_app (σ : PvS) (a b : List Nat) : gon (gon σ a) b = gon σ (a ++ b) := by
  unfold gon
  refine congrArg (fun z => (σ.1, z, σ.2.2)) ?_
  funext κ k i
  by_cases h : κ = 3 ∧ k = 13
  · obtain ⟨rfl, rfl⟩ := h
    by_cases h2 : i ∈ b
    · simp [h2]
    · by_cases h3 : i ∈ a
      · simp [h2, h3]
      · simp [h2, h3]
  · have h1 : ∀ l : List Nat, ¬ (κ = 3 ∧ k = 13 ∧ i ∈ l) := fun l q => h ⟨q.1, q.2.1⟩
    simp only [if_neg (h1 _)]
theorem gon_one (σ : PvS) (u : Nat) : pvI σ 3 13 u 1 = gon σ [u] := by
  unfold pvI gon up3
  refine congrArg (fun z => (σ.1, z, σ.2.2)) ?_
  funext κ k i
  simp only [List.mem_singleton]
theorem chl_gon (σ : PvS) (a : List Nat) : chl (gon σ a) = chl σ := rfl
/-- the list from a node on -/
theorem f_list {σ : PvS} (h : WFc σ) : ∀ {d x u : Nat} {acc : List Nat}, d + x = 11 → u < σ.1 0 → acc.length + (pre (chl σ) d u).length ≤ 64 → f_X7_listFrom (d + 1) (pvL σ 1 acc) u (nI x) = some (pvL σ 1 (acc ++ pre (chl σ) d u)) := by
  intro d
  induction d with
  | zero =>
    intro x u acc hx hu hl
    show (if nI x ≤ 10 then _ else some _) = _
    rw [if_neg (by rw [show x = 11 by omega]; decide +kernel), show pre (chl σ) 0 u = [] from rfl, List.append_nil]
  | succ d ih =>
    intro x u acc hx hu hl
    have hcl := h.chlen hu
    have hn := h.n
    have key : ∀ (ys xs : List Nat) (n : Nat) (acc : List Nat), chl σ u = xs ++ ys → ys.length < n → acc.length + (ys.flatMap (pre (chl σ) d)).length ≤ 64 → f_X7_listFrom_15 (f_X7_listFrom (d + 1)) n (pvL σ 1 acc) u (nI x) (nI xs.length) = some (pvL σ 1 (acc ++ ys.flatMap (pre (chl σ) d))) := by
      intro ys
      induction ys with
      | nil =>
        intro xs n acc e hn hl
        obtain ⟨n, rfl⟩ : ∃ m, n = m + 1 := ⟨n - 1, by omega⟩
        show (if nI (chl (pvL σ 1 acc) u).length ≤ nI xs.length then some (pvL σ 1 acc) else _) = _
        rw [chl_L1, e, List.append_nil, if_pos (nI_le (Nat.le_refl _) (s31 (by rw [e, List.append_nil] at hcl; omega))), List.flatMap_nil, List.append_nil]
      | cons c ys ihy =>
        intro xs n acc e hn hl
        obtain ⟨n, rfl⟩ : ∃ m, n = m + 1 := ⟨n - 1, by omega⟩
        have hxs : xs.length < (chl σ u).length := by rw [e, List.length_append, List.length_cons]; omega
        have hc := stepN e rfl
        have c1 := ((h.ch hu).mp (List.mem_of_getElem? hc)).1
        rw [List.flatMap_cons, List.length_append] at hl
        show (if nI (chl (pvL σ 1 acc) u).length ≤ nI xs.length then some (pvL σ 1 acc) else gd (vin (nI xs.length) (chl (pvL σ 1 acc) u).length) (nm ((chl (pvL σ 1 acc) u).getD (nI xs.length).toNatClampNeg 0) (fun y4 => ob1 (f_X7_listFrom (d + 1) (pvL σ 1 acc) y4 (nI x + 1)) (fun σ6 => f_X7_listFrom_15 (f_X7_listFrom (d + 1)) n σ6 u (nI x) (nI xs.length + 1))))) = _
        rw [chl_L1, if_neg (nI_ge hxs (s31 (by omega))), gd_t (vin_n hxs (s31 (by omega))), nm_t, nI_clamp (s31 (by omega)), getD_at hc, nI_1, ob1_t (ih (by omega) c1 (by omega)), nI_1]
        have := ihy (xs ++ [c]) n (acc ++ pre (chl σ) d c) (by rw [e, List.append_assoc]; rfl) (by simp only [List.length_cons] at hn; omega) (by rw [List.length_append]; omega)
        rw [List.length_append] at this
        rw [List.flatMap_cons, ← List.append_assoc]
        exact this
    have hp : pre (chl σ) (d + 1) u = u :: (chl σ u).flatMap (pre (chl σ) d) := rfl
    rw [hp, List.length_cons] at hl
    show (if nI x ≤ 10 then gd (((pvL σ 1 acc).2.2.2.2 1).length < 64) (nm (pvL (pvL σ 1 acc) 1 ((pvL σ 1 acc).2.2.2.2 1 ++ [u])) (fun σ12 => f_X7_listFrom_15 (f_X7_listFrom (d + 1)) fu σ12 u (nI x) (nI 0))) else _) = _
    rw [if_pos (show nI x ≤ 10 from nI_le (b := 10) (by omega) (by decide)), L1_L1, gd_t (by omega), nm_t, pvL_LL, hp]
    have := key (chl σ u) [] fu (acc ++ [u]) rfl (by unfold fu; omega) (by rw [List.length_append, List.length_singleton]; omega)
    rw [List.append_assoc] at this
    exact this
theorem f_listAnew {σ : PvS} (h : WFc σ) : f_X7_listAnew σ = some (pvL σ 1 (pre (chl σ) 11 0)) := by
  have hn := h.n
  have hl := h.len_pre (d := 11) (u := 0) (by omega)
  unfold f_X7_listAnew
  rw [nm_t]
  show ob1 (f_X7_listFrom (11 + 1) (pvL σ 1 []) 0 (nI 0)) _ = _
  rw [ob1_t (f_list h rfl (by omega) (by rw [List.length_nil]; omega))]
  rfl
/-- who is gone -/
theorem f_mark {σ : PvS} (h : WFc σ) : ∀ {d x u : Nat} {acc : List Nat}, d + x = 11 → u < σ.1 0 → f_X7_markGone (d + 1) (gon σ acc) u (nI x) = some (gon σ (acc ++ pre (chl σ) d u)) := by
  intro d
  induction d with
  | zero =>
    intro x u acc hx hu
    show (if nI x ≤ 10 then _ else some _) = _
    rw [if_neg (by rw [show x = 11 by omega]; decide +kernel), show pre (chl σ) 0 u = [] from rfl, List.append_nil]
  | succ d ih =>
    intro x u acc hx hu
    have hcl := h.chlen hu
    have hn := h.n
    have key : ∀ (ys xs : List Nat) (n : Nat) (acc : List Nat), chl σ u = xs ++ ys → ys.length < n → f_X7_markGone_14 (f_X7_markGone (d + 1)) n (gon σ acc) u (nI x) (nI xs.length) = some (gon σ (acc ++ ys.flatMap (pre (chl σ) d))) := by
      intro ys
      induction ys with
      | nil =>
        intro xs n acc e hn
        obtain ⟨n, rfl⟩ : ∃ m, n = m + 1 := ⟨n - 1, by omega⟩
        show (if nI (chl σ u).length ≤ nI xs.length then some (gon σ acc) else _) = _
        rw [e, List.append_nil, if_pos (nI_le (Nat.le_refl _) (s31 (by rw [e, List.append_nil] at hcl; omega))), List.flatMap_nil, List.append_nil]
      | cons c ys ihy =>
        intro xs n acc e hn
        obtain ⟨n, rfl⟩ : ∃ m, n = m + 1 := ⟨n - 1, by omega⟩
        have hxs : xs.length < (chl σ u).length := by rw [e, List.length_append, List.length_cons]; omega
        have hc := stepN e rfl
        have c1 := ((h.ch hu).mp (List.mem_of_getElem? hc)).1
        show (if nI (chl σ u).length ≤ nI xs.length then some (gon σ acc) else gd (vin (nI xs.length) (chl σ u).length) (nm ((chl σ u).getD (nI xs.length).toNatClampNeg 0) (fun y4 => ob1 (f_X7_markGone (d + 1) (gon σ acc) y4 (nI x + 1)) (fun σ6 => f_X7_markGone_14 (f_X7_markGone (d + 1)) n σ6 u (nI x) (nI xs.length + 1))))) = _
        rw [if_neg (nI_ge hxs (s31 (by omega))), gd_t (vin_n hxs (s31 (by omega))), nm_t, nI_clamp (s31 (by omega)), getD_at hc, nI_1, ob1_t (ih (by omega) c1), nI_1]
        have := ihy (xs ++ [c]) n (acc ++ pre (chl σ) d c) (by rw [e, List.append_assoc]; rfl) (by simp only [List.length_cons] at hn; omega)
        rw [List.length_append] at this
        rw [List.flatMap_cons, ← List.append_assoc]
        exact this
    have hp : pre (chl σ) (d + 1) u = u :: (chl σ u).flatMap (pre (chl σ) d) := rfl
    show (if nI x ≤ 10 then nm (pvI (gon σ acc) 3 13 u 1) (fun σ12 => f_X7_markGone_14 (f_X7_markGone (d + 1)) fu σ12 u (nI x) (nI 0)) else _) = _
    rw [if_pos (show nI x ≤ 10 from nI_le (b := 10) (by omega) (by decide)), nm_t, gon_one, gon_app, hp]
    have := key (chl σ u) [] fu (acc ++ [u]) rfl (by unfold fu; omega)
    rw [List.append_assoc] at this
    exact this
