/-! PURE: floats, in two runs -/
theorem pvLen_20 {σ : PvS} : pvLen σ 20 0 = 40 := rfl
theorem pvLen_21 {σ : PvS} : pvLen σ 21 0 = 40 := rfl
theorem pvLen_22 {σ : PvS} : pvLen σ 22 0 = 40 := rfl
theorem pvLen_23 {σ : PvS} : pvLen σ 23 0 = 40 := rfl
theorem pvLen_24 {σ : PvS} : pvLen σ 24 0 = 40 := rfl
theorem pvLen_25 {σ : PvS} : pvLen σ 25 0 = 40 := rfl
def FLa (σ σ' : PvS) : Prop := σ'.2.1 0 6 0 = σ.2.1 0 6 0 ∧ ∀ κ, 20 ≤ κ ∧ κ ≤ 25 → ∀ j : Nat, (j : Int) < (σ.2.1 0 6 0).toInt → σ'.2.2.2.1 κ 0 j = σ.2.2.2.1 κ 0 j
def VF (σ : PvS) (Y : Int) : Prop := (0 ≤ (σ.2.1 0 6 0).toInt ∧ (σ.2.1 0 6 0).toInt ≤ 40) ∧ ∀ j : Nat, (j : Int) < (σ.2.1 0 6 0).toInt → (-2600 ≤ (σ.2.2.2.1 22 0 j).toInt ∧ (σ.2.2.2.1 22 0 j).toInt ≤ 60000) ∧ (-2600 ≤ (σ.2.2.2.1 23 0 j).toInt ∧ (σ.2.2.2.1 23 0 j).toInt ≤ 60000) ∧ (0 ≤ (σ.2.2.2.1 24 0 j).toInt ∧ (σ.2.2.2.1 24 0 j).toInt ≤ Y) ∧ (0 ≤ (σ.2.2.2.1 25 0 j).toInt ∧ (σ.2.2.2.1 25 0 j).toInt ≤ Y)
theorem ncount {σ : PvS} {Y : Int} (v : VF σ Y) : ∃ c : Nat, c ≤ 40 ∧ σ.2.1 0 6 0 = nI c ∧ (c : Int) = (σ.2.1 0 6 0).toInt := by
  obtain ⟨c, c1, c2, -⟩ := cl_n v.1.1
  exact ⟨c, by have := v.1.2; omega, c1, c2⟩
theorem r_bb {σ σ' : PvS} {Y : Int} (v : VF σ Y) (g : FLa σ σ') {c : Nat} (hc : c ≤ 40) (ec : σ.2.1 0 6 0 = nI c) (room w : Int32) : ∀ {d i m : Nat} {acc : Int32}, i + d = c → d < m → rel (f_X0_belowBottoms_6 σ m room w acc (nI i)) (f_X0_belowBottoms_6 σ' m room w acc (nI i)) (fun r r' => r' = r ∧ acc.toInt ≤ r.toInt ∧ r.toInt ≤ max acc.toInt Y) := by
  intro d
  induction d with
  | zero =>
    intro i m acc hi hm
    obtain ⟨m, rfl⟩ : ∃ q, m = q + 1 := ⟨m - 1, by omega⟩
    have q : nI c ≤ nI i := nI_le (by omega) (s31 (by omega))
    exact rel_itp (by rw [ec]; exact q) (by rw [g.1, ec]; exact q) (rel_some ⟨rfl, by omega, by omega⟩)
  | succ d ih =>
    intro i m acc hi hm
    obtain ⟨m, rfl⟩ : ∃ q, m = q + 1 := ⟨m - 1, by omega⟩
    have hji : (i : Int) < (σ.2.1 0 6 0).toInt := by rw [ec, ti_n (s31 (by omega))]; omega
    have v40 := vin_n (show i < 40 by omega) (show 40 < 2 ^ 31 by decide)
    have vi := v.2 i hji
    show rel (if σ.2.1 0 6 0 ≤ nI i then some acc else if 40 ≤ nI i then some acc else gd (vin (nI i) 40) (if σ.2.2.2.1 20 0 (nI i).toNatClampNeg = room then gd (vin (nI i) 40) (if σ.2.2.2.1 21 0 (nI i).toNatClampNeg &&& w = 0 then f_X0_belowBottoms_6 σ m room w acc (nI i + 1) else gd (vin (nI i) 40) (f_X0_belowBottoms_6 σ m room w (imax acc (σ.2.2.2.1 25 0 (nI i).toNatClampNeg)) (nI i + 1))) else f_X0_belowBottoms_6 σ m room w acc (nI i + 1))) (if σ'.2.1 0 6 0 ≤ nI i then some acc else if 40 ≤ nI i then some acc else gd (vin (nI i) 40) (if σ'.2.2.2.1 20 0 (nI i).toNatClampNeg = room then gd (vin (nI i) 40) (if σ'.2.2.2.1 21 0 (nI i).toNatClampNeg &&& w = 0 then f_X0_belowBottoms_6 σ' m room w acc (nI i + 1) else gd (vin (nI i) 40) (f_X0_belowBottoms_6 σ' m room w (imax acc (σ'.2.2.2.1 25 0 (nI i).toNatClampNeg)) (nI i + 1))) else f_X0_belowBottoms_6 σ' m room w acc (nI i + 1))) _
    have c1 : ¬ nI c ≤ nI i := nI_ge (by omega) (s31 (by omega))
    have c2 : ¬ 40 ≤ nI i := nI_ge (b := 40) (by omega) (by decide)
    simp only [gd_t v40, nI_clamp (s31 (show i ≤ 3000 by omega)), g.2 20 (by omega) i hji, g.2 21 (by omega) i hji, g.2 25 (by omega) i hji, nI_1]
    refine rel_itn (by rw [ec]; exact c1) (by rw [g.1, ec]; exact c1) (rel_itn c2 c2 (rel_ite Iff.rfl (fun _ => rel_ite Iff.rfl (fun _ => ih (by omega) (by omega)) (fun _ => ?_)) (fun _ => ih (by omega) (by omega))))
    refine rel_mono (ih (i := i + 1) (m := m) (acc := imax acc (σ.2.2.2.1 25 0 i)) (by omega) (by omega)) (fun r r' q => ?_)
    have e := ti_max (a := acc) (b := σ.2.2.2.1 25 0 i)
    exact ⟨q.1, by omega, by omega⟩
theorem r_belowBottoms {σ σ' : PvS} {Y : Int} (v : VF σ Y) (g : FLa σ σ') (room w y : Int32) : rel (f_X0_belowBottoms σ room w y) (f_X0_belowBottoms σ' room w y) (fun r r' => r' = r ∧ y.toInt ≤ r.toInt ∧ r.toInt ≤ max y.toInt Y) := by
  obtain ⟨c, hc, ec, -⟩ := ncount v
  exact r_bb v g hc ec room w (i := 0) (Nat.zero_add c) (by unfold fu; omega)
theorem r_bt {σ σ' : PvS} {Y : Int} (v : VF σ Y) (g : FLa σ σ') {c : Nat} (hc : c ≤ 40) (ec : σ.2.1 0 6 0 = nI c) (room : Int32) : ∀ {d i m : Nat} {acc : Int32}, i + d = c → d < m → rel (f_X0_belowTops_5 σ m room acc (nI i)) (f_X0_belowTops_5 σ' m room acc (nI i)) (fun r r' => r' = r ∧ acc.toInt ≤ r.toInt ∧ r.toInt ≤ max acc.toInt Y) := by
  intro d
  induction d with
  | zero =>
    intro i m acc hi hm
    obtain ⟨m, rfl⟩ : ∃ q, m = q + 1 := ⟨m - 1, by omega⟩
    have q : nI c ≤ nI i := nI_le (by omega) (s31 (by omega))
    exact rel_itp (by rw [ec]; exact q) (by rw [g.1, ec]; exact q) (rel_some ⟨rfl, by omega, by omega⟩)
  | succ d ih =>
    intro i m acc hi hm
    obtain ⟨m, rfl⟩ : ∃ q, m = q + 1 := ⟨m - 1, by omega⟩
    have hji : (i : Int) < (σ.2.1 0 6 0).toInt := by rw [ec, ti_n (s31 (by omega))]; omega
    have v40 := vin_n (show i < 40 by omega) (show 40 < 2 ^ 31 by decide)
    have vi := v.2 i hji
    show rel (if σ.2.1 0 6 0 ≤ nI i then some acc else if 40 ≤ nI i then some acc else gd (vin (nI i) 40) (if σ.2.2.2.1 20 0 (nI i).toNatClampNeg = room then gd (vin (nI i) 40) (f_X0_belowTops_5 σ m room (imax acc (σ.2.2.2.1 24 0 (nI i).toNatClampNeg)) (nI i + 1)) else f_X0_belowTops_5 σ m room acc (nI i + 1))) (if σ'.2.1 0 6 0 ≤ nI i then some acc else if 40 ≤ nI i then some acc else gd (vin (nI i) 40) (if σ'.2.2.2.1 20 0 (nI i).toNatClampNeg = room then gd (vin (nI i) 40) (f_X0_belowTops_5 σ' m room (imax acc (σ'.2.2.2.1 24 0 (nI i).toNatClampNeg)) (nI i + 1)) else f_X0_belowTops_5 σ' m room acc (nI i + 1))) _
    have c1 : ¬ nI c ≤ nI i := nI_ge (by omega) (s31 (by omega))
    have c2 : ¬ 40 ≤ nI i := nI_ge (b := 40) (by omega) (by decide)
    simp only [gd_t v40, nI_clamp (s31 (show i ≤ 3000 by omega)), g.2 20 (by omega) i hji, g.2 24 (by omega) i hji, nI_1]
    refine rel_itn (by rw [ec]; exact c1) (by rw [g.1, ec]; exact c1) (rel_itn c2 c2 (rel_ite Iff.rfl (fun _ => ?_) (fun _ => ih (by omega) (by omega))))
    refine rel_mono (ih (i := i + 1) (m := m) (acc := imax acc (σ.2.2.2.1 24 0 i)) (by omega) (by omega)) (fun r r' q => ?_)
    have e := ti_max (a := acc) (b := σ.2.2.2.1 24 0 i)
    exact ⟨q.1, by omega, by omega⟩
theorem r_belowTops {σ σ' : PvS} {Y : Int} (v : VF σ Y) (g : FLa σ σ') (room y : Int32) : rel (f_X0_belowTops σ room y) (f_X0_belowTops σ' room y) (fun r r' => r' = r ∧ y.toInt ≤ r.toInt ∧ r.toInt ≤ max y.toInt Y) := by
  obtain ⟨c, hc, ec, -⟩ := ncount v
  exact r_bt v g hc ec room (i := 0) (Nat.zero_add c) (by unfold fu; omega)
/-- a state after a look -/
def spn (σ : PvS) (B E N : Int32) : PvS := (σ.1, fun κ k i => if κ = 0 ∧ i = 0 ∧ k = 7 then B else if κ = 0 ∧ i = 0 ∧ k = 8 then E else if κ = 0 ∧ i = 0 ∧ k = 9 then N else σ.2.1 κ k i, σ.2.2)
theorem spn_I (σ : PvS) (B E N : Int32) {κ k i : Nat} (h : ¬ (κ = 0 ∧ i = 0 ∧ (k = 7 ∨ k = 8 ∨ k = 9))) : (spn σ B E N).2.1 κ k i = σ.2.1 κ k i := by
  show (if κ = 0 ∧ i = 0 ∧ k = 7 then B else if κ = 0 ∧ i = 0 ∧ k = 8 then E else if κ = 0 ∧ i = 0 ∧ k = 9 then N else σ.2.1 κ k i) = _
  rw [if_neg (fun z => h ⟨z.1, z.2.1, by omega⟩), if_neg (fun z => h ⟨z.1, z.2.1, by omega⟩), if_neg (fun z => h ⟨z.1, z.2.1, by omega⟩)]
theorem spn_at (σ : PvS) (B E N : Int32) : (spn σ B E N).2.1 0 7 0 = B ∧ (spn σ B E N).2.1 0 8 0 = E ∧ (spn σ B E N).2.1 0 9 0 = N := ⟨rfl, rfl, rfl⟩
theorem spn_mk (σ : PvS) (B E N : Int32) : pvI (pvI (pvI σ 0 7 0 B) 0 8 0 E) 0 9 0 N = spn σ B E N := by
  unfold pvI spn up3
  refine congrArg (fun z => (σ.1, z, σ.2.2)) ?_
  funext κ k i
  by_cases h : κ = 0 ∧ i = 0
  · obtain ⟨rfl, rfl⟩ := h
    by_cases h7 : k = 7
    · subst h7; simp
    · by_cases h8 : k = 8
      · subst h8; simp
      · simp [h7, h8]
  · simp only [if_neg (show ¬ (κ = 0 ∧ k = 9 ∧ i = 0) from fun z => h ⟨z.1, z.2.2⟩), if_neg (show ¬ (κ = 0 ∧ k = 8 ∧ i = 0) from fun z => h ⟨z.1, z.2.2⟩), if_neg (show ¬ (κ = 0 ∧ k = 7 ∧ i = 0) from fun z => h ⟨z.1, z.2.2⟩), if_neg (show ¬ (κ = 0 ∧ i = 0 ∧ k = 7) from fun z => h ⟨z.1, z.2.1⟩), if_neg (show ¬ (κ = 0 ∧ i = 0 ∧ k = 8) from fun z => h ⟨z.1, z.2.1⟩), if_neg (show ¬ (κ = 0 ∧ i = 0 ∧ k = 9) from fun z => h ⟨z.1, z.2.1⟩)]
theorem spn_p (σ : PvS) (B E N : Int32) {k : Nat} {v : Int32} {B' E' N' : Int32} (h7 : B' = if k = 7 then v else B) (h8 : E' = if k = 8 then v else E) (h9 : N' = if k = 9 then v else N) (hk : k = 7 ∨ k = 8 ∨ k = 9) : pvI (spn σ B E N) 0 k 0 v = spn σ B' E' N' := by
  unfold pvI spn up3
  refine congrArg (fun z => (σ.1, z, σ.2.2)) ?_
  funext κ q i
  rw [h7, h8, h9]
  by_cases h : κ = 0 ∧ i = 0
  · obtain ⟨rfl, rfl⟩ := h
    rcases hk with rfl | rfl | rfl
    · by_cases q7 : q = 7
      · subst q7; simp
      · simp [q7]
    · by_cases q8 : q = 8
      · subst q8; simp
      · simp [q8]
    · by_cases q9 : q = 9
      · subst q9; simp
      · simp [q9]
  · simp only [if_neg (show ¬ (κ = 0 ∧ q = k ∧ i = 0) from fun z => h ⟨z.1, z.2.2⟩), if_neg (show ¬ (κ = 0 ∧ i = 0 ∧ q = 7) from fun z => h ⟨z.1, z.2.1⟩), if_neg (show ¬ (κ = 0 ∧ i = 0 ∧ q = 8) from fun z => h ⟨z.1, z.2.1⟩), if_neg (show ¬ (κ = 0 ∧ i = 0 ∧ q = 9) from fun z => h ⟨z.1, z.2.1⟩)]
theorem spn_spn (σ : PvS) (B E N B' E' N' : Int32) : spn (spn σ B E N) B' E' N' = spn σ B' E' N' := by
  unfold spn
  refine congrArg (fun z => (σ.1, z, σ.2.2)) ?_
  funext κ q i
  by_cases h7 : κ = 0 ∧ i = 0 ∧ q = 7
  · simp only [if_pos h7]
  · by_cases h8 : κ = 0 ∧ i = 0 ∧ q = 8
    · simp only [if_neg h7, if_pos h8]
    · by_cases h9 : κ = 0 ∧ i = 0 ∧ q = 9
      · simp only [if_neg h7, if_neg h8, if_pos h9]
      · simp only [if_neg h7, if_neg h8, if_neg h9]
/-- what a look finds at y, of the floats up to i -/
def LK (σ : PvS) (u : Nat) (y : Int32) (i : Nat) (B E N : Int32) : Prop :=
  ((σ.2.1 2 5 u).toInt ≤ B.toInt ∧ B.toInt ≤ max (σ.2.1 2 5 u).toInt 60000) ∧ (E.toInt ≤ (σ.2.1 2 5 u).toInt + (σ.2.1 2 7 u).toInt ∧ min ((σ.2.1 2 5 u).toInt + (σ.2.1 2 7 u).toInt) (-2600) ≤ E.toInt) ∧
  ((N = y ∧ B.toInt = (σ.2.1 2 5 u).toInt ∧ E.toInt = (σ.2.1 2 5 u).toInt + (σ.2.1 2 7 u).toInt) ∨ ∃ j : Nat, j < i ∧ N = σ.2.2.2.1 25 0 j ∧ y.toInt < N.toInt)
theorem r_look {σ σ' : PvS} {Y : Int} (v : VF σ Y) (g : FLa σ σ') {u : Nat} (e0 : σ'.2.1 1 0 u = σ.2.1 1 0 u) (e5 : σ'.2.1 2 5 u = σ.2.1 2 5 u) (e7 : σ'.2.1 2 7 u = σ.2.1 2 7 u) (b5 : -2600 ≤ (σ.2.1 2 5 u).toInt ∧ (σ.2.1 2 5 u).toInt ≤ 60000) (b7 : 0 ≤ (σ.2.1 2 7 u).toInt ∧ (σ.2.1 2 7 u).toInt ≤ 2000) (y : Int32) {c : Nat} (hc : c ≤ 40) (ec : σ.2.1 0 6 0 = nI c) : rel (f_X0_look σ u y) (f_X0_look σ' u y) (fun τ τ' => ∃ B E N, τ = spn σ B E N ∧ τ' = spn σ' B E N ∧ LK σ u y c B E N) := by
  have key : ∀ (d i m : Nat) (B E N : Int32), i + d = c → d < m → LK σ u y i B E N → rel (f_X0_look_37 m (spn σ B E N) u y (nI i)) (f_X0_look_37 m (spn σ' B E N) u y (nI i)) (fun τ τ' => ∃ B E N, τ = spn σ B E N ∧ τ' = spn σ' B E N ∧ LK σ u y c B E N) := by
    intro d
    induction d with
    | zero =>
      intro i m B E N hi hm hk
      obtain ⟨m, rfl⟩ : ∃ q, m = q + 1 := ⟨m - 1, by omega⟩
      have q : nI c ≤ nI i := nI_le (by omega) (s31 (by omega))
      have : i = c := by omega
      subst this
      exact rel_itp (by rw [spn_I _ _ _ _ (by omega), ec]; exact q) (by rw [spn_I _ _ _ _ (by omega), g.1, ec]; exact q) (rel_some ⟨B, E, N, rfl, rfl, hk⟩)
    | succ d ih =>
      intro i m B E N hi hm hk
      obtain ⟨m, rfl⟩ : ∃ q, m = q + 1 := ⟨m - 1, by omega⟩
      have hji : (i : Int) < (σ.2.1 0 6 0).toInt := by rw [ec, ti_n (s31 (by omega))]; omega
      have v40 := vin_n (show i < 40 by omega) (show 40 < 2 ^ 31 by decide)
      obtain ⟨v22, v23, v24, v25⟩ := v.2 i hji
      have c1 : ¬ nI c ≤ nI i := nI_ge (by omega) (s31 (by omega))
      have c2 : ¬ 40 ≤ nI i := nI_ge (b := 40) (by omega) (by decide)
      have cl : (nI i).toNatClampNeg = i := nI_clamp (s31 (by omega))
      have kept : LK σ u y (i + 1) B E N := ⟨hk.1, hk.2.1, hk.2.2.elim Or.inl (fun ⟨j, j1, j2⟩ => Or.inr ⟨j, by omega, j2⟩)⟩
      have nxt := fun B E N h => ih (i + 1) m B E N (by omega) (by omega) h
      -- a float that is there
      have s118 : ∀ x : Int32, (y.toInt < x.toInt ∧ ∃ j, j < i + 1 ∧ x = σ.2.2.2.1 25 0 j) → rel (f_X0_look_118 (f_X0_look_37 m) (spn σ B E N) u y (nI i) x) (f_X0_look_118 (f_X0_look_37 m) (spn σ' B E N) u y (nI i) x) (fun τ τ' => ∃ B E N, τ = spn σ B E N ∧ τ' = spn σ' B E N ∧ LK σ u y c B E N) := fun x hx => by
        unfold f_X0_look_118
        rw [nm_t, nm_t, spn_p σ B E N (k := 9) (v := x) (B' := B) (E' := E) (N' := x) rfl rfl rfl (by omega), spn_p σ' B E N (k := 9) (v := x) (B' := B) (E' := E) (N' := x) rfl rfl rfl (by omega)]
        show rel (gd (vin (nI i) 40) (if σ.2.2.2.1 21 0 (nI i).toNatClampNeg = 1 then gd (vin (nI i) 40) (nm (pvI (spn σ B E x) 0 7 0 (imax B (σ.2.2.2.1 23 0 (nI i).toNatClampNeg))) (fun σ7 => f_X0_look_37 m σ7 u y (nI i + 1))) else gd (vin (nI i) 40) (nm (pvI (spn σ B E x) 0 8 0 (imin E (σ.2.2.2.1 22 0 (nI i).toNatClampNeg))) (fun σ5 => f_X0_look_37 m σ5 u y (nI i + 1))))) (gd (vin (nI i) 40) (if σ'.2.2.2.1 21 0 (nI i).toNatClampNeg = 1 then gd (vin (nI i) 40) (nm (pvI (spn σ' B E x) 0 7 0 (imax B (σ'.2.2.2.1 23 0 (nI i).toNatClampNeg))) (fun σ7 => f_X0_look_37 m σ7 u y (nI i + 1))) else gd (vin (nI i) 40) (nm (pvI (spn σ' B E x) 0 8 0 (imin E (σ'.2.2.2.1 22 0 (nI i).toNatClampNeg))) (fun σ5 => f_X0_look_37 m σ5 u y (nI i + 1))))) _
        simp only [gd_t v40, cl, nm_t, g.2 21 (by omega) i hji, g.2 22 (by omega) i hji, g.2 23 (by omega) i hji, nI_1]
        have bB := hk.1
        have bE := hk.2.1
        obtain ⟨x1, j, j1, j2⟩ := hx
        refine rel_ite Iff.rfl (fun _ => ?_) (fun _ => ?_)
        · rw [spn_p σ B E x (k := 7) (v := imax B (σ.2.2.2.1 23 0 i)) (B' := imax B (σ.2.2.2.1 23 0 i)) (E' := E) (N' := x) rfl rfl rfl (by omega), spn_p σ' B E x (k := 7) (v := imax B (σ.2.2.2.1 23 0 i)) (B' := imax B (σ.2.2.2.1 23 0 i)) (E' := E) (N' := x) rfl rfl rfl (by omega)]
          have e := ti_max (a := B) (b := σ.2.2.2.1 23 0 i)
          exact nxt _ _ _ ⟨by omega, bE, Or.inr ⟨j, j1, j2, x1⟩⟩
        · rw [spn_p σ B E x (k := 8) (v := imin E (σ.2.2.2.1 22 0 i)) (B' := B) (E' := imin E (σ.2.2.2.1 22 0 i)) (N' := x) rfl rfl rfl (by omega), spn_p σ' B E x (k := 8) (v := imin E (σ.2.2.2.1 22 0 i)) (B' := B) (E' := imin E (σ.2.2.2.1 22 0 i)) (N' := x) rfl rfl rfl (by omega)]
          have e := ti_min (a := E) (b := σ.2.2.2.1 22 0 i)
          exact nxt _ _ _ ⟨bB, by omega, Or.inr ⟨j, j1, j2, x1⟩⟩
      show rel (if (spn σ B E N).2.1 0 6 0 ≤ nI i then some (spn σ B E N) else if 40 ≤ nI i then some (spn σ B E N) else gd (vin (nI i) 40) (if σ.2.2.2.1 20 0 (nI i).toNatClampNeg = (spn σ B E N).2.1 1 0 u then gd (vin (nI i) 40) (if y < σ.2.2.2.1 24 0 (nI i).toNatClampNeg then f_X0_look_37 m (spn σ B E N) u y (nI i + 1) else gd (vin (nI i) 40) (if σ.2.2.2.1 25 0 (nI i).toNatClampNeg ≤ y then f_X0_look_37 m (spn σ B E N) u y (nI i + 1) else if N = y then gd (vin (nI i) 40) (f_X0_look_118 (f_X0_look_37 m) (spn σ B E N) u y (nI i) (σ.2.2.2.1 25 0 (nI i).toNatClampNeg)) else gd (vin (nI i) 40) (f_X0_look_118 (f_X0_look_37 m) (spn σ B E N) u y (nI i) (imin N (σ.2.2.2.1 25 0 (nI i).toNatClampNeg))))) else f_X0_look_37 m (spn σ B E N) u y (nI i + 1))) (if (spn σ' B E N).2.1 0 6 0 ≤ nI i then some (spn σ' B E N) else if 40 ≤ nI i then some (spn σ' B E N) else gd (vin (nI i) 40) (if σ'.2.2.2.1 20 0 (nI i).toNatClampNeg = (spn σ' B E N).2.1 1 0 u then gd (vin (nI i) 40) (if y < σ'.2.2.2.1 24 0 (nI i).toNatClampNeg then f_X0_look_37 m (spn σ' B E N) u y (nI i + 1) else gd (vin (nI i) 40) (if σ'.2.2.2.1 25 0 (nI i).toNatClampNeg ≤ y then f_X0_look_37 m (spn σ' B E N) u y (nI i + 1) else if N = y then gd (vin (nI i) 40) (f_X0_look_118 (f_X0_look_37 m) (spn σ' B E N) u y (nI i) (σ'.2.2.2.1 25 0 (nI i).toNatClampNeg)) else gd (vin (nI i) 40) (f_X0_look_118 (f_X0_look_37 m) (spn σ' B E N) u y (nI i) (imin N (σ'.2.2.2.1 25 0 (nI i).toNatClampNeg))))) else f_X0_look_37 m (spn σ' B E N) u y (nI i + 1))) _
      simp only [gd_t v40, cl, g.2 20 (by omega) i hji, g.2 24 (by omega) i hji, g.2 25 (by omega) i hji, nI_1]
      rw [spn_I σ _ _ _ (κ := 0) (k := 6) (by omega), spn_I σ' _ _ _ (κ := 0) (k := 6) (by omega), spn_I σ _ _ _ (κ := 1) (k := 0) (by omega), spn_I σ' _ _ _ (κ := 1) (k := 0) (by omega), g.1, e0, ec]
      refine rel_itn c1 c1 (rel_itn c2 c2 (rel_ite Iff.rfl (fun _ => rel_ite Iff.rfl (fun _ => nxt B E N kept) (fun _ => rel_ite Iff.rfl (fun _ => nxt B E N kept) (fun cb => ?_))) (fun _ => nxt B E N kept)))
      have cb' : y.toInt < (σ.2.2.2.1 25 0 i).toInt := by
        rcases Int.lt_or_le y.toInt (σ.2.2.2.1 25 0 i).toInt with q | q
        · exact q
        · exact absurd (ti_le.mpr q) cb
      refine rel_ite Iff.rfl (fun _ => s118 _ ⟨cb', i, by omega, rfl⟩) (fun cN => s118 _ ?_)
      rcases hk.2.2 with q | ⟨j, j1, j2, j3⟩
      · exact absurd q.1 cN
      · by_cases z : σ.2.2.2.1 25 0 i < N
        · rw [show imin N (σ.2.2.2.1 25 0 i) = σ.2.2.2.1 25 0 i from if_pos z]; exact ⟨cb', i, by omega, rfl⟩
        · rw [show imin N (σ.2.2.2.1 25 0 i) = N from if_neg z]; exact ⟨j3, j, by omega, j2⟩
  unfold f_X0_look
  rw [nm_t, nm_t, nm_t, nm_t, nm_t, nm_t]
  have i5 : ∀ (ρ : PvS) (B : Int32), (pvI ρ 0 7 0 B).2.1 2 5 u = ρ.2.1 2 5 u := fun ρ B => by rw [pvI_at, if_neg (by omega)]
  have i7 : ∀ (ρ : PvS) (B : Int32), (pvI ρ 0 7 0 B).2.1 2 7 u = ρ.2.1 2 7 u := fun ρ B => by rw [pvI_at, if_neg (by omega)]
  rw [i5, i7, i5, i7, e5, e7, spn_mk, spn_mk]
  refine key c 0 fu _ _ _ (Nat.zero_add c) (by unfold fu; omega) ?_
  have e := ti_add (a := σ.2.1 2 5 u) (b := σ.2.1 2 7 u) (by omega) (by omega)
  exact ⟨by omega, by omega, Or.inl ⟨rfl, rfl, e⟩⟩
