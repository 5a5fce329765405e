/-! PURE: what is so of styles -/
theorem srg_tb3 {p : Nat} (hp : p < 14) : srg p (tb3 p) := by
  have key : ∀ q : Fin 14, slo q.1 ≤ (tb3 q.1).toInt ∧ (tb3 q.1).toInt ≤ shi q.1 := by decide +kernel
  exact key ⟨p, hp⟩
theorem srg_lt {p : Nat} (hp : p < 14) : -30 ≤ slo p ∧ shi p ≤ 149 := by
  have key : ∀ q : Fin 14, -30 ≤ slo q.1 ∧ shi q.1 ≤ 149 := by decide +kernel
  exact key ⟨p, hp⟩
theorem srg_ne {p : Nat} {v : Int32} (hp : p < 14) (h : srg p v) : v ≠ 9998 ∧ v ≠ 9999 := by
  have := srg_lt hp
  have e1 : (9998 : Int32).toInt = 9998 := rfl
  have e2 : (9999 : Int32).toInt = 9999 := rfl
  unfold srg at h
  exact ⟨fun q => by rw [q, e1] at h; omega, fun q => by rw [q, e2] at h; omega⟩
theorem nI_ne_neg {j : Nat} (hj : j ≤ 3000) {v : Int32} (hv : v.toInt < 0) : nI j ≠ v := fun q => by
  have := ti_n (s31 hj)
  rw [q] at this
  omega
theorem own_cases {σ : PvS} (h : WF σ) {n p : Nat} (hn : n < σ.1 0) (hp : p < 14) : ownv σ n p = 9998 ∨ srg p (ownv σ n p) := by
  unfold ownv
  by_cases ht : σ.2.1 3 1 n = 0
  · rw [if_pos ht]; exact (h.w n hn).2.2.2.2 ht p hp
  · rw [if_neg ht]; exact Or.inl rfl
theorem rl_cases {σ : PvS} (h : WF σ) {t : Int32} {n p : Nat} (hp : p < 14) : rlv σ t n p = 9998 ∨ srg p (rlv σ t n p) := by
  unfold rlv
  obtain ⟨h24, hl, hw⟩ := h.r
  rcases frf_spec (σ := σ) (t := t) (n := n) (i := σ.1 1) (p := p) with q | ⟨j, j1, j2, -, j4⟩
  · rw [if_pos (by rw [q]; decide)]; exact Or.inl rfl
  · rw [j2, if_neg (nI_pos (s31 (by omega))), nI_clamp (s31 (by omega))]
    obtain ⟨⟨p0, p1, p2, p3⟩, -⟩ := hw j j1
    have e : p0 = p := (nI_eq (s31 (by omega)) (s31 (by omega))).mp (p2.symm.trans j4)
    rw [e] at p3
    exact Or.inr p3
theorem ow_cases {σ : PvS} (h : WF σ) {t : Int32} {n p : Nat} (hn : n < σ.1 0) (hp : p < 14) : owv σ t n p = 9998 ∨ srg p (owv σ t n p) := by
  unfold owv
  split
  · exact own_cases h hn hp
  · exact rl_cases h hp
theorem stv_rng {σ : PvS} (h : WF σ) {t : Int32} {n p : Nat} {pv : Int32} (hn : n < σ.1 0) (hp : p < 14) (hpv : ∀ u, par σ n = some u → srg p pv) : srg p (stv σ t n p pv) := by
  have inh : srg p (match par σ n with | none => tb3 p | some _ => pv) := by
    cases e : par σ n with
    | none => exact srg_tb3 hp
    | some u => exact hpv u e
  unfold stv ndv
  rcases ow_cases h (t := t) hn hp with q | q
  · rw [if_pos q]
    by_cases c : (p = 8 ∨ p = 9 ∨ p = 10) ∧ par σ n ≠ none
    · rw [if_pos c, if_pos rfl]; exact inh
    · rw [if_neg c]
      split
      · exact inh
      · exact srg_tb3 hp
  · have hne := srg_ne hp q
    rw [if_neg hne.1, if_neg hne.2]; exact q
theorem str_spec {σ : PvS} (h : WF σ) {t : Int32} {n p : Nat} (pv : Int32) (hn : n < σ.1 0) (hp : p < 14) : (str σ t n p = -1) ∨ (∃ j, j < σ.1 1 ∧ str σ t n p = nI j ∧ selv σ j n ≠ 0) ∨ (str σ t n p = -2 ∧ par σ n ≠ none ∧ stv σ t n p pv = (match par σ n with | none => tb3 p | some _ => pv)) ∨ (str σ t n p = -3 ∧ stv σ t n p pv = tb3 p) := by
  unfold str stv ndv
  rcases ow_cases h (t := t) hn hp with q | q
  · rw [if_pos q, if_pos q]
    by_cases c : (p = 8 ∨ p = 9 ∨ p = 10) ∧ par σ n ≠ none
    · rw [if_pos c, if_pos c, if_pos rfl]
      exact Or.inr (Or.inr (Or.inl ⟨rfl, c.2, rfl⟩))
    · rw [if_neg c, if_neg c, if_neg (srg_ne hp (srg_tb3 hp)).2]
      exact Or.inr (Or.inr (Or.inr ⟨rfl, rfl⟩))
  · have hne := srg_ne hp q
    rw [if_neg hne.1]
    unfold owr
    by_cases c : ownv σ n p ≠ 9998 ∧ rls σ t n p = 0
    · rw [if_pos c]; exact Or.inl rfl
    · rw [if_neg c]
      rcases frf_spec (σ := σ) (t := t) (n := n) (i := σ.1 1) (p := p) with w | ⟨j, j1, j2, j3, -⟩
      · exact Or.inl w
      · exact Or.inr (Or.inl ⟨j, j1, j2, j3⟩)
/-- the rows are determined by the document -/
theorem sty_det {d σ τ : PvS} {k k' : Nat} {t : Int32} (h : WF d) (e1 : dc σ = dc d) (e2 : dc τ = dc d) (s1 : Sty k t (dc d) σ (d.2.2.2.2 1)) (s2 : Sty k' t (dc d) τ (d.2.2.2.2 1)) : ∀ n, alive d n → ∀ p, p < 14 → σ.2.2.2.1 36 (40 * k + n) p = τ.2.2.2.1 36 (40 * k' + n) p ∧ σ.2.2.2.1 37 (40 * k + n) p = τ.2.2.2.1 37 (40 * k' + n) p := by
  obtain ⟨dp, d1, d2, d3⟩ := h.t.dp
  have key : ∀ m n, alive d n → dp n = m → ∀ p, p < 14 → σ.2.2.2.1 36 (40 * k + n) p = τ.2.2.2.1 36 (40 * k' + n) p := by
    intro m
    induction m with
    | zero =>
      intro n a e p hp
      rw [(s1 n a p hp).1, (s2 n a p hp).1]
      unfold pvv
      rw [dc_par e1, dc_par e2]
      cases q : par d n with
      | none => rfl
      | some u => have := d3 n u (h.t.alive_lt a) q; omega
    | succ m ih =>
      intro n a e p hp
      rw [(s1 n a p hp).1, (s2 n a p hp).1]
      unfold pvv
      rw [dc_par e1, dc_par e2]
      cases q : par d n with
      | none => rfl
      | some u =>
        have := d3 n u (h.t.alive_lt a) q
        show stv (dc d) t n p (σ.2.2.2.1 36 (40 * k + u) p) = stv (dc d) t n p (τ.2.2.2.1 36 (40 * k' + u) p)
        rw [ih u (h.t.alive_par a q) (by omega) p hp]
  exact fun n a p hp => ⟨key _ n a rfl p hp, by rw [(s1 n a p hp).2, (s2 n a p hp).2]⟩
theorem sty_rng {d σ : PvS} {k : Nat} {t : Int32} (h : WF d) (e1 : dc σ = dc d) (s1 : Sty k t (dc d) σ (d.2.2.2.2 1)) : ∀ n, alive d n → ∀ p, p < 14 → srg p (σ.2.2.2.1 36 (40 * k + n) p) := by
  obtain ⟨dp, d1, d2, d3⟩ := h.t.dp
  have key : ∀ m n, alive d n → dp n = m → ∀ p, p < 14 → srg p (σ.2.2.2.1 36 (40 * k + n) p) := by
    intro m
    induction m with
    | zero =>
      intro n a e p hp
      rw [(s1 n a p hp).1, stv_dc]
      refine stv_rng h (h.t.alive_lt a) hp (fun u q => ?_)
      have := d3 n u (h.t.alive_lt a) q
      omega
    | succ m ih =>
      intro n a e p hp
      rw [(s1 n a p hp).1, stv_dc]
      refine stv_rng h (h.t.alive_lt a) hp (fun u q => ?_)
      have := d3 n u (h.t.alive_lt a) q
      unfold pvv
      rw [dc_par e1, q]
      exact ih u (h.t.alive_par a q) (by omega) p hp
  exact fun n a p hp => key _ n a rfl p hp
