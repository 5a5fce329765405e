/-! PURE: what is read of a layout -/
section READS
variable {C τ : PvS}
theorem LA.s0 (L : LA C τ) {n : Nat} (a : alive C n) : τ.2.1 2 0 n = C.2.1 2 0 n := (L.1.2.2 n a).1
theorem LA.al (L : LA C τ) {n : Nat} (a : alive C n) : alive τ n := by show n ∈ τ.2.2.2.2 1; rw [dc_L L.1.1]; exact a
theorem LA.g (L : LA C τ) {n q : Nat} (a : alive C n) (hb : isbx (C.2.1 2 0 n)) (h5 : 5 ≤ q) (h10 : q ≤ 10) : τ.2.1 2 q n = C.2.1 2 q n := (L.2.1 n a).1.1 hb q h5 h10
theorem q_bX (L : LA C τ) (v : LV C) {n : Nat} (a : alive C n) : rel (f_X2_borderX C n) (f_X2_borderX τ n) (fun x y => y = x ∧ (isbx (C.2.1 2 0 n) → -3000 ≤ x.toInt) ∧ (¬ isbx (C.2.1 2 0 n) → x = -9999)) := by
  unfold f_X2_borderX
  rw [ob1_t (f_isBox C n), ob1_t (f_isBox τ n), L.s0 a]
  by_cases hb : isbx (C.2.1 2 0 n)
  · rw [if_pos hb]
    refine rel_itn (by decide) (by decide) (rel_some ?_)
    rw [L.g a hb (q := 5) (by omega) (by omega), (L.1.2.2 n a).2.2.1, (L.2.1 n a).2.1]
    refine ⟨rfl, fun _ => ?_, fun h => absurd hb h⟩
    obtain ⟨hx, -, hs, -⟩ := v.2.2.2.2 n a
    have hi := v.1.inset a
    have n1 := ti_sub (a := C.2.1 2 5 n) (b := C.2.1 2 2 n) (by omega) (by omega)
    have n2 := ti_add (a := C.2.1 2 5 n - C.2.1 2 2 n) (b := C.2.1 2 11 n) (by omega) (by omega)
    omega
  · rw [if_neg hb]
    exact rel_itp rfl rfl (rel_some ⟨rfl, fun h => absurd h hb, fun _ => rfl⟩)
theorem q_bY (L : LA C τ) {n : Nat} (a : alive C n) : rel (f_X2_borderY C n) (f_X2_borderY τ n) (fun x y => y = x) := by
  unfold f_X2_borderY
  rw [ob1_t (f_isBox C n), ob1_t (f_isBox τ n), L.s0 a]
  by_cases hb : isbx (C.2.1 2 0 n)
  · rw [if_pos hb]
    refine rel_itn (by decide) (by decide) (rel_some ?_)
    rw [L.g a hb (q := 6) (by omega) (by omega), (L.1.2.2 n a).2.2.1, (L.2.1 n a).2.2.1]
  · rw [if_neg hb]
    exact rel_itp rfl rfl (rel_some rfl)
theorem q_bW (L : LA C τ) (v : LV C) {n : Nat} (a : alive C n) : rel (f_X2_borderWide C n) (f_X2_borderWide τ n) (fun x y => y = x ∧ (isbx (C.2.1 2 0 n) → 0 ≤ x.toInt) ∧ (¬ isbx (C.2.1 2 0 n) → x = -1)) := by
  unfold f_X2_borderWide
  rw [ob1_t (f_isBox C n), ob1_t (f_isBox τ n), L.s0 a]
  by_cases hb : isbx (C.2.1 2 0 n)
  · rw [if_pos hb]
    refine rel_itn (by decide) (by decide) (rel_some ?_)
    rw [L.g a hb (q := 7) (by omega) (by omega), (L.1.2.2 n a).2.2.1]
    refine ⟨rfl, fun _ => ?_, fun h => absurd hb h⟩
    obtain ⟨hx, -, -, -⟩ := v.2.2.2.2 n a
    have hi := v.1.inset a
    have n1 := ti_dbl (a := C.2.1 2 2 n) (by omega) (by omega)
    have n2 := ti_add (a := C.2.1 2 7 n) (b := 2 * C.2.1 2 2 n) (by omega) (by omega)
    omega
  · rw [if_neg hb]
    exact rel_itp rfl rfl (rel_some ⟨rfl, fun h => absurd h hb, fun _ => rfl⟩)
theorem q_bH (L : LA C τ) (v : LV C) {n : Nat} (a : alive C n) : rel (f_X2_borderHigh C n) (f_X2_borderHigh τ n) (fun x y => y = x ∧ (isbx (C.2.1 2 0 n) → 0 ≤ x.toInt) ∧ (¬ isbx (C.2.1 2 0 n) → x = -1)) := by
  unfold f_X2_borderHigh
  rw [ob1_t (f_isBox C n), ob1_t (f_isBox τ n), L.s0 a]
  by_cases hb : isbx (C.2.1 2 0 n)
  · rw [if_pos hb]
    refine rel_itn (by decide) (by decide) (rel_some ?_)
    rw [L.g a hb (q := 8) (by omega) (by omega), (L.1.2.2 n a).2.2.1]
    refine ⟨rfl, fun _ => ?_, fun h => absurd hb h⟩
    obtain ⟨-, ⟨h9, h8, -⟩, -⟩ := v.2.2.2.2 n a
    have hi := v.1.inset a
    have n1 := ti_dbl (a := C.2.1 2 2 n) (by omega) (by omega)
    have n2 := ti_add (a := C.2.1 2 8 n) (b := 2 * C.2.1 2 2 n) (by omega) (by omega)
    omega
  · rw [if_neg hb]
    exact rel_itp rfl rfl (rel_some ⟨rfl, fun h => absurd h hb, fun _ => rfl⟩)
theorem q_re (L : LA C τ) (v : LV C) {n : Nat} (a : alive C n) : rel (f_X2_reachOrNone C n) (f_X2_reachOrNone τ n) (fun x y => y = x ∧ (isbx (C.2.1 2 0 n) → 0 ≤ x.toInt ∧ x = C.2.1 2 9 n) ∧ (¬ isbx (C.2.1 2 0 n) → x = -1)) := by
  unfold f_X2_reachOrNone
  rw [ob1_t (f_isBox C n), ob1_t (f_isBox τ n), L.s0 a]
  by_cases hb : isbx (C.2.1 2 0 n)
  · rw [if_pos hb]
    refine rel_itn (by decide) (by decide) (rel_some ?_)
    rw [L.g a hb (q := 9) (by omega) (by omega)]
    obtain ⟨-, ⟨h9, -, -⟩, -⟩ := v.2.2.2.2 n a
    exact ⟨rfl, fun _ => ⟨h9.1, rfl⟩, fun h => absurd hb h⟩
  · rw [if_neg hb]
    exact rel_itp rfl rfl (rel_some ⟨rfl, fun h => absurd h hb, fun _ => rfl⟩)
theorem q_li (L : LA C τ) {n : Nat} (a : alive C n) : rel (f_X2_linesOrNone C n) (f_X2_linesOrNone τ n) (fun x y => y = x ∧ (¬ isbx (C.2.1 2 0 n) → x = 0)) := by
  unfold f_X2_linesOrNone
  rw [ob1_t (f_isBox C n), ob1_t (f_isBox τ n), L.s0 a]
  by_cases hb : isbx (C.2.1 2 0 n)
  · rw [if_pos hb]
    refine rel_itn (by decide) (by decide) (rel_some ?_)
    rw [L.g a hb (q := 10) (by omega) (by omega)]
    exact ⟨rfl, fun h => absurd hb h⟩
  · rw [if_neg hb]
    exact rel_itp rfl rfl (rel_some ⟨rfl, fun _ => rfl⟩)
theorem q_hwe (L : LA C τ) (v : LV C) : rel (f_X2_highWithEdges C 0) (f_X2_highWithEdges τ 0) (fun x y => y = x ∧ 0 ≤ x.toInt) := by
  have a := v.1.f.t.alive0
  have hb : isbx (C.2.1 2 0 0) := by rw [v.1.root.1]; exact Or.inl rfl
  unfold f_X2_highWithEdges
  refine rel_some ?_
  rw [L.g a hb (q := 8) (by omega) (by omega), (L.1.2.2 0 a).2.2.2.1]
  refine ⟨rfl, ?_⟩
  obtain ⟨-, ⟨-, h8, -⟩, -⟩ := v.2.2.2.2 0 a
  have he := v.1.edge a
  have n1 := ti_dbl (a := C.2.1 2 3 0) (by omega) (by omega)
  have n2 := ti_add (a := C.2.1 2 8 0) (b := 2 * C.2.1 2 3 0) (by omega) (by omega)
  omega
/-- sorts -/
theorem LV.text (v : LV C) {n : Nat} (a : alive C n) : C.2.1 2 0 n = 1 ↔ C.2.1 3 1 n ≠ 0 := by
  rw [v.1.sort a]
  unfold srtv
  cases e : par C n with
  | none =>
    have n0 : n = 0 := by
      by_cases q : n = 0
      · exact q
      · obtain ⟨u, z⟩ := v.1.f.t.alive_has a q
        rw [z] at e; cases e
    subst n0
    have := v.1.f.t.root.1
    show (3 : Int32) = 1 ↔ _
    constructor
    · intro q; exact absurd q (by decide)
    · intro q; exact absurd this q
  | some u =>
    show (if C.2.1 3 1 n = 0 then _ else (1 : Int32)) = 1 ↔ _
    by_cases h : C.2.1 3 1 n = 0
    · rw [if_pos h]
      constructor
      · intro q
        split at q
        · split at q
          · exact absurd q (by decide)
          · exact absurd q (by decide)
        · exact absurd q (by decide)
      · intro q; exact absurd h q
    · rw [if_neg h]; exact ⟨fun _ => h, fun _ => rfl⟩
theorem q_wl (L : LA C τ) (v : LV C) {n j : Nat} (a : alive C n) (ht : C.2.1 2 0 n = 1) (hj : (j : Int) < (C.2.1 3 9 n).toInt) : rel (f_X2_wordLeft C n (nI j)) (f_X2_wordLeft τ n (nI j)) (fun x y => y = x ∧ -4000 ≤ x.toInt ∧ x.toInt ≤ 1000500) := by
  have w20 := (v.1.f.w n (v.1.f.t.alive_lt a)).1
  have t1 := (v.text a).mp ht
  have t1' : τ.2.1 3 1 n ≠ 0 := by rw [dc_I L.1.1 rfl]; exact t1
  have hj20 : j < 20 := by omega
  have cl : (nI j).toNatClampNeg = j := nI_clamp (s31 (by omega))
  have ex : ∀ ρ : PvS, ρ.2.1 3 1 n ≠ 0 → ρ.2.1 2 0 n = 1 → f_X2_wordLeft ρ n (nI j) = some (ρ.2.2.2.1 32 n j + ρ.2.1 2 11 n) := fun ρ h1 h2 => by
    unfold f_X2_wordLeft f_X2_wordLeft_26
    rw [if_pos h2, if_neg (nI_pos (s31 (by omega))), pvLen_32, if_neg h1, if_neg (nI_ge hj20 (by decide)), if_neg (by decide), gd_t (vin_n hj20 (by decide)), cl]
  rw [ex C t1 ht, ex τ t1' (by rw [L.s0 a]; exact ht)]
  refine rel_some ?_
  rw [((L.2.1 n a).1.2 ht j (by omega)).1, (L.2.1 n a).2.1]
  refine ⟨rfl, ?_⟩
  obtain ⟨-, -, hs, -⟩ := v.2.2.2.2 n a
  have hg := v.2.1 n j
  have n2 := ti_add (a := C.2.2.2.1 32 n j) (b := C.2.1 2 11 n) (by omega) (by omega)
  omega
theorem q_wt (L : LA C τ) (v : LV C) {n j : Nat} (a : alive C n) (ht : C.2.1 2 0 n = 1) (hj : (j : Int) < (C.2.1 3 9 n).toInt) : rel (f_X2_wordTop C n (nI j)) (f_X2_wordTop τ n (nI j)) (fun x y => y = x) := by
  have w20 := (v.1.f.w n (v.1.f.t.alive_lt a)).1
  have t1 := (v.text a).mp ht
  have t1' : τ.2.1 3 1 n ≠ 0 := by rw [dc_I L.1.1 rfl]; exact t1
  have hj20 : j < 20 := by omega
  have cl : (nI j).toNatClampNeg = j := nI_clamp (s31 (by omega))
  have ex : ∀ ρ : PvS, ρ.2.1 3 1 n ≠ 0 → ρ.2.1 2 0 n = 1 → f_X2_wordTop ρ n (nI j) = some (ρ.2.2.2.1 33 n j + ρ.2.1 2 12 n) := fun ρ h1 h2 => by
    unfold f_X2_wordTop f_X2_wordTop_26
    rw [if_pos h2, if_neg (nI_pos (s31 (by omega))), pvLen_33, if_neg h1, if_neg (nI_ge hj20 (by decide)), if_neg (by decide), gd_t (vin_n hj20 (by decide)), cl]
  rw [ex C t1 ht, ex τ t1' (by rw [L.s0 a]; exact ht)]
  refine rel_some ?_
  rw [((L.2.1 n a).1.2 ht j (by omega)).2, (L.2.1 n a).2.2.1]
theorem f_within (σ : PvS) (x b l : Int32) : f_X2_isWithin σ x b l = some (if x < b then 0 else if b + l ≤ x then 0 else 1) := by
  unfold f_X2_isWithin
  split
  · rfl
  · split <;> rfl
theorem q_cuts (L : LA C τ) (v : LV C) {u : Nat} (a : alive C u) (x y : Int32) : rel (f_X2_cutsOffAt C u x y) (f_X2_cutsOffAt τ u x y) (fun p q => q = p) := by
  by_cases h4 : C.2.1 2 4 u = 0
  · have h4' : τ.2.1 2 4 u = 0 := by rw [(L.1.2.2 u a).2.2.2.2]; exact h4
    have ex : ∀ ρ : PvS, ρ.2.1 2 4 u = 0 → f_X2_cutsOffAt ρ u x y = some 0 := fun ρ h => by
      have e45 : ∀ z, f_X2_cutsOffAt_45 ρ u z = some 0 := fun z => by unfold f_X2_cutsOffAt_45; rw [if_pos h]
      unfold f_X2_cutsOffAt f_X2_cutsOffAt_44
      rw [ob1_t (f_within _ _ _ _), e45, e45, ob1_t (f_within _ _ _ _)]
      repeat' split
      all_goals rfl
    rw [ex C h4, ex τ h4']
    exact rel_some rfl
  · have hb : isbx (C.2.1 2 0 u) := by
      have s4 := (v.1.p a).2.2.2.2
      rw [v.1.sort a]
      unfold scrv at s4
      by_cases q : isbx (srtv C u) ∧ sty C u 11 = 1
      · exact q.1
      · rw [if_neg q] at s4; exact absurd s4 h4
    unfold f_X2_cutsOffAt f_X2_cutsOffAt_44 f_X2_cutsOffAt_45
    rw [ob1_t (f_within _ _ _ _), ob1_t (f_within _ _ _ _), ob1_t (f_within _ _ _ _), ob1_t (f_within _ _ _ _), L.g a hb (q := 5) (by omega) (by omega), L.g a hb (q := 6) (by omega) (by omega), L.g a hb (q := 7) (by omega) (by omega), L.g a hb (q := 8) (by omega) (by omega), (L.2.1 u a).2.1, (L.2.1 u a).2.2.1, (L.1.2.2 u a).2.2.2.2]
    have r1 : ∀ o : Option Int32, (∃ z, o = some z) → rel o o (fun p q => q = p) := fun o ⟨z, hz⟩ => ⟨z, z, hz, hz, rfl⟩
    refine r1 _ ?_
    repeat' split
    all_goals exact ⟨_, rfl⟩
theorem q_cut (L : LA C τ) (v : LV C) {n : Nat} (a : alive C n) (x y : Int32) : rel (f_X4_isCutAt C n x y) (f_X4_isCutAt τ n x y) (fun p q => q = p) := by
  obtain ⟨dp, d1, d2, d3⟩ := v.1.f.t.dp
  have key : ∀ (d u m : Nat), alive C u → dp u = d → d < m → rel (f_X4_isCutAt_6 C m x y (par C u)) (f_X4_isCutAt_6 τ m x y (par C u)) (fun p q => q = p) := by
    intro d
    induction d with
    | zero =>
      intro u m au e hm
      obtain ⟨m, rfl⟩ : ∃ q, m = q + 1 := ⟨m - 1, by omega⟩
      cases z : par C u with
      | none => exact rel_some rfl
      | some w => have := d3 u w (v.1.f.t.alive_lt au) z; omega
    | succ d ih =>
      intro u m au e hm
      obtain ⟨m, rfl⟩ : ∃ q, m = q + 1 := ⟨m - 1, by omega⟩
      cases z : par C u with
      | none => exact rel_some rfl
      | some w =>
        have hd := d3 u w (v.1.f.t.alive_lt au) z
        have aw := v.1.f.t.alive_par au z
        show rel (ob1 (f_X2_cutsOffAt C w x y) (fun r1 => if r1 = 0 then (nm (C.2.2.1 3 8 w) (fun o7 => f_X4_isCutAt_6 C m x y o7)) else (some 1))) (ob1 (f_X2_cutsOffAt τ w x y) (fun r1 => if r1 = 0 then (nm (τ.2.2.1 3 8 w) (fun o7 => f_X4_isCutAt_6 τ m x y o7)) else (some 1))) _
        have ep : τ.2.2.1 3 8 w = par C w := congrFun (dc_par L.1.1) w
        rw [ep]
        refine rel_ob1 (q_cuts L v aw x y) (fun r r' q => ?_)
        subst q
        exact rel_ite Iff.rfl (fun _ => ih w m aw (by omega) (by omega)) (fun _ => rel_some rfl)
  unfold f_X4_isCutAt
  have ep : τ.2.2.1 3 8 n = par C n := congrFun (dc_par L.1.1) n
  rw [ep]
  have := d1 n (v.1.f.t.alive_lt a)
  exact key (dp n) n fu a rfl (by unfold fu; omega)
theorem q_seen (L : LA C τ) (v : LV C) {n : Nat} (a : alive C n) (ht : C.2.1 2 0 n = 1) : rel (f_X4_wordsSeen C n) (f_X4_wordsSeen τ n) (fun x y => y = x ∧ x.toInt ≤ (C.2.1 3 9 n).toInt) := by
  have w20 := (v.1.f.w n (v.1.f.t.alive_lt a)).1
  have ht' : τ.2.1 2 0 n = 1 := by rw [L.s0 a]; exact ht
  obtain ⟨W, hW, hWi, -⟩ := cl_n w20.1
  have hW' : τ.2.1 3 9 n = nI W := (dc_I L.1.1 rfl 9 n).trans hW
  have key : ∀ (d j m c : Nat), j + d = W → d < m → c ≤ j → rel (f_X4_wordsSeen_4 C m n (nI c) (nI j)) (f_X4_wordsSeen_4 τ m n (nI c) (nI j)) (fun x y => y = x ∧ x.toInt ≤ (C.2.1 3 9 n).toInt) := by
    intro d
    induction d with
    | zero =>
      intro j m c e hm hc
      obtain ⟨m, rfl⟩ : ∃ q, m = q + 1 := ⟨m - 1, by omega⟩
      have q : nI W ≤ nI j := nI_le (by omega) (s31 (by omega))
      refine rel_itp (by rw [hW]; exact q) (by rw [hW']; exact q) (rel_some ⟨rfl, ?_⟩)
      rw [ti_n (s31 (by omega))]; omega
    | succ d ih =>
      intro j m c e hm hc
      obtain ⟨m, rfl⟩ : ∃ q, m = q + 1 := ⟨m - 1, by omega⟩
      have q : ¬ nI W ≤ nI j := nI_ge (by omega) (s31 (by omega))
      refine rel_itn (by rw [hW]; exact q) (by rw [hW']; exact q) (rel_itp ht ht' ?_)
      refine rel_ob1 (q_wl L v a ht (j := j) (by omega)) (fun x x' hx => ?_)
      obtain ⟨rfl, -⟩ := hx
      refine rel_ob1 (q_wt L v a ht (j := j) (by omega)) (fun y y' hy => ?_)
      subst hy
      refine rel_ob1 (q_cut L v a x' y') (fun r r' hr => ?_)
      subst hr
      rw [nI_1, nI_1]
      exact rel_ite Iff.rfl (fun _ => ih (j + 1) m (c + 1) (by omega) (by omega) (by omega)) (fun _ => ih (j + 1) m c (by omega) (by omega) (by omega))
  unfold f_X4_wordsSeen
  exact key W 0 fu 0 (by omega) (by unfold fu; omega) (Nat.le_refl _)
end READS
