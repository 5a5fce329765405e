/-! PURE: a place for a float -/
theorem countP_le {p q : Nat → Bool} (h : ∀ x, p x = true → q x = true) : ∀ l : List Nat, l.countP p ≤ l.countP q := by
  intro l
  induction l with
  | nil => exact Nat.le_refl _
  | cons x l ih =>
    by_cases hp : p x = true
    · rw [List.countP_cons_of_pos hp, List.countP_cons_of_pos (h x hp)]; omega
    · rw [List.countP_cons_of_neg hp]
      by_cases hq : q x = true
      · rw [List.countP_cons_of_pos hq]; omega
      · rw [List.countP_cons_of_neg hq]; exact ih
theorem countP_lt {p q : Nat → Bool} (h : ∀ x, p x = true → q x = true) {w : Nat} (hw : q w = true) (hw2 : ¬ p w = true) : ∀ l : List Nat, w ∈ l → l.countP p < l.countP q := by
  intro l
  induction l with
  | nil => intro hm; cases hm
  | cons x l ih =>
    intro hm
    rcases List.mem_cons.mp hm with e | hm
    · subst e
      rw [List.countP_cons_of_neg hw2, List.countP_cons_of_pos hw]
      have := countP_le h l
      omega
    · have := ih hm
      by_cases hp : p x = true
      · rw [List.countP_cons_of_pos hp, List.countP_cons_of_pos (h x hp)]; omega
      · rw [List.countP_cons_of_neg hp]
        by_cases hq : q x = true
        · rw [List.countP_cons_of_pos hq]; omega
        · rw [List.countP_cons_of_neg hq]; exact this
/-- how many floats end below y -/
def cbe (σ : PvS) (c : Nat) (y : Int32) : Nat := (List.range c).countP (fun j => decide (y.toInt < (σ.2.2.2.1 25 0 j).toInt))
theorem r_findRoom {σ σ' : PvS} {Y : Int} (v : VF σ Y) (g : FLa σ σ') {u : Nat} (e0 : σ'.2.1 1 0 u = σ.2.1 1 0 u) (e5 : σ'.2.1 2 5 u = σ.2.1 2 5 u) (e7 : σ'.2.1 2 7 u = σ.2.1 2 7 u) (b5 : -2600 ≤ (σ.2.1 2 5 u).toInt ∧ (σ.2.1 2 5 u).toInt ≤ 60000) (b7 : 0 ≤ (σ.2.1 2 7 u).toInt ∧ (σ.2.1 2 7 u).toInt ≤ 2000) (w y : Int32) (hY : y.toInt ≤ Y) : rel (f_X0_findRoom σ w u y) (f_X0_findRoom σ' w u y) (fun p p' => p'.1 = p.1 ∧ (y.toInt ≤ p.1.toInt ∧ p.1.toInt ≤ Y) ∧ ∃ B E N, p.2 = spn σ B E N ∧ p'.2 = spn σ' B E N ∧ ((σ.2.1 2 5 u).toInt ≤ B.toInt ∧ B.toInt ≤ 60000) ∧ (E.toInt ≤ (σ.2.1 2 5 u).toInt + (σ.2.1 2 7 u).toInt ∧ -2600 ≤ E.toInt) ∧ (w.toInt ≤ E.toInt - B.toInt ∨ (B.toInt = (σ.2.1 2 5 u).toInt ∧ E.toInt = (σ.2.1 2 5 u).toInt + (σ.2.1 2 7 u).toInt))) := by
  obtain ⟨c, hc, ec, hcI⟩ := ncount v
  have key : ∀ (d i m : Nat) (y1 : Int32) (B E N : Int32), i + d = 40 → d < m → cbe σ c y1 + i ≤ 40 → y.toInt ≤ y1.toInt → y1.toInt ≤ Y → LK σ u y1 c B E N → rel (f_X0_findRoom_13 m (spn σ B E N) w u y1 (nI i)) (f_X0_findRoom_13 m (spn σ' B E N) w u y1 (nI i)) (fun p p' => p'.1 = p.1 ∧ (y.toInt ≤ p.1.toInt ∧ p.1.toInt ≤ Y) ∧ ∃ B E N, p.2 = spn σ B E N ∧ p'.2 = spn σ' B E N ∧ ((σ.2.1 2 5 u).toInt ≤ B.toInt ∧ B.toInt ≤ 60000) ∧ (E.toInt ≤ (σ.2.1 2 5 u).toInt + (σ.2.1 2 7 u).toInt ∧ -2600 ≤ E.toInt) ∧ (w.toInt ≤ E.toInt - B.toInt ∨ (B.toInt = (σ.2.1 2 5 u).toInt ∧ E.toInt = (σ.2.1 2 5 u).toInt + (σ.2.1 2 7 u).toInt))) := by
    intro d
    induction d with
    | zero =>
      intro i m y1 B E N hi hm hcb h1 h2 hk
      obtain ⟨m, rfl⟩ : ∃ q, m = q + 1 := ⟨m - 1, by omega⟩
      have q : (40 : Int32) ≤ nI i := nI_le (a := 40) (by omega) (s31 (by omega))
      refine rel_itp q q (rel_some ⟨rfl, ⟨h1, h2⟩, B, E, N, rfl, rfl, by have := hk.1; omega, by have := hk.2.1; omega, ?_⟩)
      rcases hk.2.2 with z | ⟨j, j1, j2, j3⟩
      · exact Or.inr z.2
      · exfalso
        have : 0 < cbe σ c y1 := List.countP_pos_iff.mpr ⟨j, List.mem_range.mpr j1, by rw [decide_eq_true_eq, ← j2]; exact j3⟩
        omega
    | succ d ih =>
      intro i m y1 B E N hi hm hcb h1 h2 hk
      obtain ⟨m, rfl⟩ : ∃ q, m = q + 1 := ⟨m - 1, by omega⟩
      have c40 : ¬ (40 : Int32) ≤ nI i := nI_ge (b := 40) (by omega) (by decide)
      have bB := hk.1
      have bE := hk.2.1
      have eEB := ti_sub (a := E) (b := B) (by omega) (by omega)
      show rel (if 40 ≤ nI i then some (y1, spn σ B E N) else if w ≤ E - B then some (y1, spn σ B E N) else if N ≤ y1 then some (y1, spn σ B E N) else ob1 (f_X0_look (spn σ B E N) u N) (fun σ5 => f_X0_findRoom_13 m σ5 w u N (nI i + 1))) (if 40 ≤ nI i then some (y1, spn σ' B E N) else if w ≤ E - B then some (y1, spn σ' B E N) else if N ≤ y1 then some (y1, spn σ' B E N) else ob1 (f_X0_look (spn σ' B E N) u N) (fun σ5 => f_X0_findRoom_13 m σ5 w u N (nI i + 1))) _
      refine rel_itn c40 c40 (rel_ite Iff.rfl (fun cw => ?_) (fun cw => rel_ite Iff.rfl (fun cN => ?_) (fun cN => ?_)))
      · have := ti_le.mp cw
        exact rel_some ⟨rfl, ⟨h1, h2⟩, B, E, N, rfl, rfl, by omega, by omega, Or.inl (by omega)⟩
      · have cN := ti_le.mp cN
        refine rel_some ⟨rfl, ⟨h1, h2⟩, B, E, N, rfl, rfl, by omega, by omega, ?_⟩
        rcases hk.2.2 with z | ⟨j, j1, j2, j3⟩
        · exact Or.inr z.2
        · omega
      · have cN' : y1.toInt < N.toInt := by
          rcases Int.lt_or_le y1.toInt N.toInt with q | q
          · exact q
          · exact absurd (ti_le.mpr q) cN
        obtain ⟨j, j1, j2, -⟩ : ∃ j : Nat, j < c ∧ N = σ.2.2.2.1 25 0 j ∧ y1.toInt < N.toInt := by
          rcases hk.2.2 with z | z
          · rw [z.1] at cN'; omega
          · exact z
        have vj := v.2 j (by rw [← hcI]; omega)
        have hN : N.toInt ≤ Y := by rw [j2]; exact vj.2.2.2.2
        have vs : VF (spn σ B E N) Y := by
          unfold VF
          rw [spn_I _ _ _ _ (by omega)]
          exact v
        have gs : FLa (spn σ B E N) (spn σ' B E N) := by
          unfold FLa
          rw [spn_I _ _ _ _ (by omega), spn_I _ _ _ _ (by omega)]
          exact g
        have es : ∀ (ρ : PvS) {κ k i : Nat}, κ ≠ 0 → (spn ρ B E N).2.1 κ k i = ρ.2.1 κ k i := fun ρ {κ k i} z => spn_I _ _ _ _ (fun q => z q.1)
        refine rel_ob1 (r_look vs gs (u := u) (by rw [es _ (by decide), es _ (by decide)]; exact e0) (by rw [es _ (by decide), es _ (by decide)]; exact e5) (by rw [es _ (by decide), es _ (by decide)]; exact e7) (by rw [es _ (by decide)]; exact b5) (by rw [es _ (by decide)]; exact b7) N (c := c) hc (by rw [spn_I _ _ _ _ (by omega)]; exact ec)) (fun τ τ' q => ?_)
        obtain ⟨B2, E2, N2, q1, q2, q3⟩ := q
        rw [q1, q2, spn_spn, spn_spn, nI_1]
        refine ih (i + 1) m N B2 E2 N2 (by omega) (by omega) ?_ (by omega) hN ?_
        · have : cbe σ c N < cbe σ c y1 := countP_lt (w := j) (fun x hx => by
            rw [decide_eq_true_eq] at hx ⊢; omega) (by rw [decide_eq_true_eq, ← j2]; exact cN') (by rw [decide_eq_true_eq, ← j2]; omega) _ (List.mem_range.mpr j1)
          omega
        · unfold LK at q3 ⊢
          rw [es _ (by decide), es _ (by decide)] at q3
          exact q3
  unfold f_X0_findRoom
  refine rel_ob1 (r_look v g e0 e5 e7 b5 b7 y hc ec) (fun τ τ' q => ?_)
  obtain ⟨B, E, N, q1, q2, q3⟩ := q
  rw [q1, q2]
  have hcb : cbe σ c y ≤ c := by
    have := List.countP_le_length (p := fun j => decide (y.toInt < (σ.2.2.2.1 25 0 j).toInt)) (l := List.range c)
    rw [List.length_range] at this
    exact this
  exact key 40 0 fu y B E N rfl (by unfold fu; omega) (by omega) (Int.le_refl _) hY q3
/-- a float is put down -/
theorem r_put {σ σ' : PvS} {Y Y2 : Int} (v : VF σ Y) (g : FLa σ σ') (hY : Y ≤ Y2) (x1 x2 x3 x4 x5 x6 : Int32) (b3 : -2600 ≤ x3.toInt ∧ x3.toInt ≤ 60000) (b35 : -2600 ≤ x3.toInt + x5.toInt ∧ x3.toInt + x5.toInt ≤ 60000) (b4 : 0 ≤ x4.toInt ∧ x4.toInt ≤ Y2) (b46 : 0 ≤ x4.toInt + x6.toInt ∧ x4.toInt + x6.toInt ≤ Y2) (hY2 : Y2 ≤ 1000000) : rel (f_X0_put σ x1 x2 x3 x4 x5 x6) (f_X0_put σ' x1 x2 x3 x4 x5 x6) (fun τ τ' => VF τ Y2 ∧ FLa τ τ' ∧ fz σ τ ∧ fz σ' τ' ∧ mn σ σ' τ τ' ∧ (∀ κ q i, κ ≠ 0 → τ.2.1 κ q i = σ.2.1 κ q i) ∧ τ.2.2.1 = σ.2.2.1 ∧ ∀ κ i j, (κ < 20 ∨ 25 < κ) → τ.2.2.2.1 κ i j = σ.2.2.2.1 κ i j) := by
  obtain ⟨c, hc, ec, hcI⟩ := ncount v
  have wid : VF σ Y2 := ⟨v.1, fun j hj => by have := v.2 j hj; omega⟩
  have e35 := ti_add (a := x3) (b := x5) (by omega) (by omega)
  have e46 := ti_add (a := x4) (b := x6) (by omega) (by omega)
  by_cases h40 : c < 40
  · have c0 : ¬ σ.2.1 0 6 0 < 0 := by rw [ec]; exact nI_pos (s31 (by omega))
    have c1 : σ.2.1 0 6 0 < 40 := by rw [ec]; exact nI_lt (b := 40) h40 (by decide)
    have v40 := vin_n h40 (show 40 < 2 ^ 31 by decide)
    have cl : (nI c).toNatClampNeg = c := nI_clamp (s31 (by omega))
    have ex : ∀ ρ : PvS, ρ.2.1 0 6 0 = nI c → f_X0_put ρ x1 x2 x3 x4 x5 x6 = some (pvI (pvA (pvA (pvA (pvA (pvA (pvA ρ 20 0 c x1) 21 0 c x2) 22 0 c x3) 23 0 c (x3 + x5)) 24 0 c x4) 25 0 c (x4 + x6)) 0 6 0 (nI c + 1)) := fun ρ er => by
      unfold f_X0_put
      have k0 : ¬ ρ.2.1 0 6 0 < 0 := by rw [er]; exact nI_pos (s31 (by omega))
      have k1 : ρ.2.1 0 6 0 < 40 := by rw [er]; exact nI_lt (b := 40) h40 (by decide)
      rw [if_neg k0, if_pos k1]
      have I6 : ∀ (ρ : PvS) (κ j : Nat) (z : Int32), (pvA ρ κ 0 j z).2.1 0 6 0 = ρ.2.1 0 6 0 := fun _ _ _ _ => rfl
      simp only [nm_t, I6, er, cl, pvLen_20, pvLen_21, pvLen_22, pvLen_23, pvLen_24, pvLen_25, gd_t v40]
    refine ⟨_, _, ex σ ec, ex σ' (by rw [g.1, ec]), ?_⟩
    have a : ∀ (ρ : PvS) (κ j : Nat), 20 ≤ κ ∧ κ ≤ 25 → (pvI (pvA (pvA (pvA (pvA (pvA (pvA ρ 20 0 c x1) 21 0 c x2) 22 0 c x3) 23 0 c (x3 + x5)) 24 0 c x4) 25 0 c (x4 + x6)) 0 6 0 (nI c + 1)).2.2.2.1 κ 0 j = if j = c then (if κ = 20 then x1 else if κ = 21 then x2 else if κ = 22 then x3 else if κ = 23 then x3 + x5 else if κ = 24 then x4 else x4 + x6) else ρ.2.2.2.1 κ 0 j := fun ρ κ j hκ => by
      show (pvA _ 25 0 c (x4 + x6)).2.2.2.1 κ 0 j = _
      rw [pvA_at, pvA_at, pvA_at, pvA_at, pvA_at, pvA_at]
      by_cases e : j = c
      · rw [if_pos e]
        rcases (show κ = 20 ∨ κ = 21 ∨ κ = 22 ∨ κ = 23 ∨ κ = 24 ∨ κ = 25 by omega) with rfl | rfl | rfl | rfl | rfl | rfl <;> simp [e]
      · rw [if_neg e, if_neg (fun z => e z.2.2), if_neg (fun z => e z.2.2), if_neg (fun z => e z.2.2), if_neg (fun z => e z.2.2), if_neg (fun z => e z.2.2), if_neg (fun z => e z.2.2)]
    have n1 : (nI c + 1).toInt = (c : Int) + 1 := by rw [nI_1, ti_n (s31 (by omega))]; omega
    refine ⟨⟨?_, fun j hj => ?_⟩, ⟨by rw [pvI_self, pvI_self], fun κ hκ j hj => ?_⟩, ?_, ?_, ?_, fun κ q i hκ => ?_, rfl, fun κ i j hκ => ?_⟩
    · rw [pvI_self, n1]; omega
    · rw [pvI_self, n1] at hj
      rw [a σ 22 j (by omega), a σ 23 j (by omega), a σ 24 j (by omega), a σ 25 j (by omega)]
      by_cases e : j = c
      · simp only [if_pos e]
        refine ⟨b3, ?_, b4, ?_⟩
        · show -2600 ≤ (x3 + x5).toInt ∧ (x3 + x5).toInt ≤ 60000; rw [e35]; exact b35
        · show 0 ≤ (x4 + x6).toInt ∧ (x4 + x6).toInt ≤ Y2; rw [e46]; exact b46
      · simp only [if_neg e]
        exact wid.2 j (by omega)
    · rw [pvI_self, n1] at hj
      rw [a σ κ j hκ, a σ' κ j hκ]
      by_cases e : j = c
      · rw [if_pos e, if_pos e]
      · rw [if_neg e, if_neg e]; exact g.2 κ hκ j (by omega)
    · exact (((((((fz_A rfl (by decide)).trans (fz_A rfl (by decide))).trans (fz_A rfl (by decide))).trans (fz_A rfl (by decide))).trans (fz_A rfl (by decide))).trans (fz_A rfl (by decide))).trans (fz_I rfl (fun q => absurd q (by decide))))
    · exact (((((((fz_A rfl (by decide)).trans (fz_A rfl (by decide))).trans (fz_A rfl (by decide))).trans (fz_A rfl (by decide))).trans (fz_A rfl (by decide))).trans (fz_A rfl (by decide))).trans (fz_I rfl (fun q => absurd q (by decide))))
    · exact (((((((mn_A rfl).trans (mn_A rfl)).trans (mn_A rfl)).trans (mn_A rfl)).trans (mn_A rfl)).trans (mn_A rfl)).trans (mn_I rfl))
    · rw [pvI_at, if_neg (fun z => hκ z.1)]; rfl
    · show (pvA _ 25 0 c (x4 + x6)).2.2.2.1 κ i j = _
      rw [pvA_at, if_neg (fun z => by omega), pvA_at, if_neg (fun z => by omega), pvA_at, if_neg (fun z => by omega), pvA_at, if_neg (fun z => by omega), pvA_at, if_neg (fun z => by omega), pvA_at, if_neg (fun z => by omega)]
  · have ex : ∀ ρ : PvS, ρ.2.1 0 6 0 = nI c → f_X0_put ρ x1 x2 x3 x4 x5 x6 = some ρ := fun ρ er => by
      unfold f_X0_put
      have k0 : ¬ ρ.2.1 0 6 0 < 0 := by rw [er]; exact nI_pos (s31 (by omega))
      have k1 : ¬ ρ.2.1 0 6 0 < 40 := by rw [er]; exact nI_nlt (a := c) (b := 40) (by omega) (s31 (by omega))
      rw [if_neg k0, if_neg k1]
    exact ⟨σ, σ', ex σ ec, ex σ' (by rw [g.1, ec]), wid, g, fz.refl, fz.refl, mn.refl, fun _ _ _ _ => rfl, rfl, fun _ _ _ _ => rfl⟩
