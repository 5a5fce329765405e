/-! THE ENTRY: what the start gives -/

theorem lw_arr {args : Array Value} {s : State} {ty : FieldType} (h : (Cond.arrayClass ty).before args s = true) : ∃ cA : ClassId, ArrOfT s cA ty ∧ s.vm.findClass ("[" ++ ty.toString) = some cA := by
  obtain ⟨c, k, comp, h1, h2, h3⟩ := Cond.arrayClass_spec h
  exact ⟨c, fun n z => ⟨fun k h => (by cases h), k, h2, comp, h3⟩, h1⟩
theorem lw_arO {args : Array Value} {s : State} {n : String} (h : (Cond.arrayOver (.object n)).before args s = true) : ∃ cA : ClassId, ArrOfT s cA (.object n) ∧ va_RA s cA (.object n) := by
  obtain ⟨comp, c, k, h1, h2, h3, h4, h5⟩ := Cond.arrayOver_spec h
  exact ⟨c, fun n z => ⟨fun k h => (by cases h), k, h3, comp, h4⟩, k, comp, h3, h4, h1, h5⟩
theorem lw_arA {args : Array Value} {s : State} {t : FieldType} (h : (Cond.arrayOver (.array t)).before args s = true) : ∃ cA : ClassId, ArrOfT s cA (.array t) ∧ va_RA s cA (.array t) := by
  obtain ⟨comp, c, k, h1, h2, h3, h4, h5⟩ := arrayOverA_spec h
  exact ⟨c, fun n z => ⟨fun k h => (by cases h), k, h3, comp, h4⟩, h5⟩
/-- a table of the class -/
theorem lw_tab {args : Array Value} {s : State} {C n d : String} {ty : FieldType} {N : Nat} {f : Nat → Value} {A : Nat → Prop} (hN : N < 2 ^ 31) (hl : (Cond.laysStatic C n d).before args s = true) (hini : (Cond.initialized C).before args s = true) (harr : (Cond.arrayOf (.static C n d) ty).before args s = true) (hlen : (Cond.eq (.length (.static C n d)) (.int (Int32.ofNat N))).before args s = true) (hel : ∀ j : Nat, j < N → (Term.elem (.static C n d) (.int (Int32.ofNat j))).eval args s none [] s = some (f j)) (hA : ∀ a : Nat, a < s.heap.size → ¬ A a) : ∃ t : Nat, va_Z C n d (.ref t) A s s.heap ∧ va_T ty t N f A s s.heap := by
  obtain ⟨t, h1, h2⟩ := va_Tof hN harr (va_eqt hlen) hel hA
  exact ⟨t, va_Zof hl hini h1 hA, h2⟩

/-- LEAST_VALUES -/
theorem lw_tab1 {args : Array Value} {s : State} {A : Nat → Prop} (hts : ∀ w ∈ lw_tbl, w.before args s = true) (hs : ∀ c ∈ flatC (Cond.and given_1 narrow_1), c.before args s = true) (hA : ∀ a : Nat, a < s.heap.size → ¬ A a) : ∃ t : Nat, va_Z RX9 "LEAST_VALUES" "[I" (.ref t) A s s.heap ∧ va_T .int t 14 (fun j => .int (tb1 j)) A s s.heap := by
  refine lw_tab (N := 14) (by decide) (hts _ (by decide +kernel)) (hts _ (by decide +kernel)) (hs _ (by decide +kernel)) (hs _ (by decide +kernel)) (fun j hj => ?_) hA
  rcases (show j = 0 ∨ j = 1 ∨ j = 2 ∨ j = 3 ∨ j = 4 ∨ j = 5 ∨ j = 6 ∨ j = 7 ∨ j = 8 ∨ j = 9 ∨ j = 10 ∨ j = 11 ∨ j = 12 ∨ j = 13 by omega) with rfl | rfl | rfl | rfl | rfl | rfl | rfl | rfl | rfl | rfl | rfl | rfl | rfl | rfl <;> exact va_eqt (hs _ (by decide +kernel))
/-- GREATEST_VALUES -/
theorem lw_tab2 {args : Array Value} {s : State} {A : Nat → Prop} (hts : ∀ w ∈ lw_tbl, w.before args s = true) (hs : ∀ c ∈ flatC (Cond.and given_1 narrow_1), c.before args s = true) (hA : ∀ a : Nat, a < s.heap.size → ¬ A a) : ∃ t : Nat, va_Z RX9 "GREATEST_VALUES" "[I" (.ref t) A s s.heap ∧ va_T .int t 14 (fun j => .int (tb2 j)) A s s.heap := by
  refine lw_tab (N := 14) (by decide) (hts _ (by decide +kernel)) (hts _ (by decide +kernel)) (hs _ (by decide +kernel)) (hs _ (by decide +kernel)) (fun j hj => ?_) hA
  rcases (show j = 0 ∨ j = 1 ∨ j = 2 ∨ j = 3 ∨ j = 4 ∨ j = 5 ∨ j = 6 ∨ j = 7 ∨ j = 8 ∨ j = 9 ∨ j = 10 ∨ j = 11 ∨ j = 12 ∨ j = 13 by omega) with rfl | rfl | rfl | rfl | rfl | rfl | rfl | rfl | rfl | rfl | rfl | rfl | rfl | rfl <;> exact va_eqt (hs _ (by decide +kernel))
/-- FIRST_VALUES -/
theorem lw_tab3 {args : Array Value} {s : State} {A : Nat → Prop} (hts : ∀ w ∈ lw_tbl, w.before args s = true) (hs : ∀ c ∈ flatC (Cond.and given_1 narrow_1), c.before args s = true) (hA : ∀ a : Nat, a < s.heap.size → ¬ A a) : ∃ t : Nat, va_Z RX9 "FIRST_VALUES" "[I" (.ref t) A s s.heap ∧ va_T .int t 14 (fun j => .int (tb3 j)) A s s.heap := by
  refine lw_tab (N := 14) (by decide) (hts _ (by decide +kernel)) (hts _ (by decide +kernel)) (hs _ (by decide +kernel)) (hs _ (by decide +kernel)) (fun j hj => ?_) hA
  rcases (show j = 0 ∨ j = 1 ∨ j = 2 ∨ j = 3 ∨ j = 4 ∨ j = 5 ∨ j = 6 ∨ j = 7 ∨ j = 8 ∨ j = 9 ∨ j = 10 ∨ j = 11 ∨ j = 12 ∨ j = 13 by omega) with rfl | rfl | rfl | rfl | rfl | rfl | rfl | rfl | rfl | rfl | rfl | rfl | rfl | rfl <;> exact va_eqt (hs _ (by decide +kernel))
/-- the shared empty array -/
theorem lw_tab0 {args : Array Value} {s : State} {A : Nat → Prop} (hts : ∀ w ∈ lw_tbl, w.before args s = true) (hs : ∀ c ∈ flatC (Cond.and given_1 narrow_1), c.before args s = true) (hA : ∀ a : Nat, a < s.heap.size → ¬ A a) : ∃ t : Nat, va_Z RJx4a65c "DEFAULTCAPACITY_EMPTY_ELEMENTDATA" "[Ljava/lang/Object;" (.ref t) A s s.heap ∧ va_T (.object "java/lang/Object") t 0 (fun _ => .null) A s s.heap :=
  lw_tab (N := 0) (by decide) (hts _ (by decide +kernel)) (hts _ (by decide +kernel)) (hs _ (by decide +kernel)) (hs _ (by decide +kernel)) (fun j hj => absurd hj (Nat.not_lt_zero j)) hA
/-- the classes and array classes -/
theorem lw_K {args : Array Value} {s : State} (htw : ∀ w ∈ WA, w.before args s = true) (hts : ∀ w ∈ lw_tbl, w.before args s = true) : ∃ (cy : Nat → ClassId) (D : va_G), va_K D pvC [(cy 0, .int), (cy 1, .boolean), (cy 2, .object "PinnaceView$Node"), (cy 3, .object "java/lang/Object"), (cy 4, .array .int)] s := by
  obtain ⟨c0, i0, k0⟩ := u_known (C := RJx4a65c) (T := TJx4a65c) (N := 3) (n := 3) htw inF_Jx4a65c (htw _ wm12)
  obtain ⟨c1, i1, k1⟩ := u_known (C := RX0) (T := TX0) (N := 10) (n := 10) htw inF_X0 (htw _ wm173)
  obtain ⟨c2, i2, k2⟩ := u_known (C := RX1) (T := TX1) (N := 5) (n := 5) htw inF_X1 (htw _ wm65)
  obtain ⟨c3, i3, k3⟩ := u_known (C := RX2) (T := TX2) (N := 16) (n := 16) htw inF_X2 (htw _ wm80)
  obtain ⟨c4, i4, k4⟩ := u_known (C := RX3) (T := TX3) (N := 14) (n := 14) htw inF_X3 (htw _ wm41)
  obtain ⟨c5, i5, k5⟩ := u_known (C := RX4) (T := TX4) (N := 6) (n := 6) htw inF_X4 (htw _ wm16)
  obtain ⟨c6, i6, k6⟩ := u_known (C := RX5) (T := TX5) (N := 10) (n := 10) htw inF_X5 (htw _ wm358)
  obtain ⟨c7, i7, k7⟩ := u_known (C := RX6) (T := TX6) (N := 3) (n := 3) htw inF_X6 (htw _ wm22)
  obtain ⟨c8, i8, k8⟩ := u_known (C := RX7) (T := TX7) (N := 3) (n := 3) htw inF_X7 (htw _ wm31)
  obtain ⟨c9, i9, k9⟩ := u_known (C := RX8) (T := TX8) (N := 7) (n := 7) htw inF_X8 (htw _ wm177)
  obtain ⟨c10, i10, k10⟩ := u_known (C := RX9) (T := TX9) (N := 6) (n := 6) htw inF_X9 (htw _ wm1)
  obtain ⟨a0, p0, r0⟩ := lw_arr (ty := .int) (hts _ (by decide +kernel))
  obtain ⟨a1, p1, r1⟩ := lw_arr (ty := .boolean) (hts _ (by decide +kernel))
  obtain ⟨a2, p2, r2⟩ := lw_arO (n := "PinnaceView$Node") (hts _ (by decide +kernel))
  obtain ⟨a3, p3, r3⟩ := lw_arO (n := "java/lang/Object") (hts _ (by decide +kernel))
  obtain ⟨a4, p4, r4⟩ := lw_arA (t := .int) (hts _ (by decide +kernel))
  refine ⟨fun k => if k = 0 then a0 else if k = 1 then a1 else if k = 2 then a2 else if k = 3 then a3 else a4, (fun k => if k = 0 then c0 else if k = 1 then c1 else if k = 2 then c2 else if k = 3 then c3 else if k = 4 then c4 else if k = 5 then c5 else if k = 6 then c6 else if k = 7 then c7 else if k = 8 then c8 else if k = 9 then c9 else c10, fun k => if k = 0 then i0 else if k = 1 then i1 else if k = 2 then i2 else if k = 3 then i3 else if k = 4 then i4 else if k = 5 then i5 else if k = 6 then i6 else if k = 7 then i7 else if k = 8 then i8 else if k = 9 then i9 else i10), fun k q hq => ?_, fun k q hq => ?_⟩
  · match k, hq with
    | 0, hq => cases hq; exact k0
    | 1, hq => cases hq; exact k1
    | 2, hq => cases hq; exact k2
    | 3, hq => cases hq; exact k3
    | 4, hq => cases hq; exact k4
    | 5, hq => cases hq; exact k5
    | 6, hq => cases hq; exact k6
    | 7, hq => cases hq; exact k7
    | 8, hq => cases hq; exact k8
    | 9, hq => cases hq; exact k9
    | 10, hq => cases hq; exact k10
    | k + 11, hq => simp [pvC] at hq
  · match k, hq with
    | 0, hq => cases hq; exact ⟨p0, r0⟩
    | 1, hq => cases hq; exact ⟨p1, r1⟩
    | 2, hq => cases hq; exact ⟨p2, r2⟩
    | 3, hq => cases hq; exact ⟨p3, r3⟩
    | 4, hq => cases hq; exact ⟨p4, r4⟩
    | k + 5, hq => simp at hq
theorem lw_Nw {args : Array Value} {s : State} (hts : ∀ w ∈ lw_tbl, w.before args s = true) (hs : ∀ c ∈ flatC (Cond.and given_1 narrow_1), c.before args s = true) : pvNw s :=
  ⟨va_Nw.of rfl (hts (.methodLinkNest RX3 20 yX1_init RX9) (by decide +kernel)), va_Nw.of rfl (hts (.methodLinkNest RX9 28 yX4_init RX9) (by decide +kernel)), va_Nw.of rfl (hts (.methodLinkNest RX4 11 yX6_init RX9) (by decide +kernel)), va_Nw.of rfl (hts (.methodLinkNest RX4 20 yX0_init RX9) (by decide +kernel)), va_Nw.of rfl (hts (.methodLinkNest RX4 27 yX8_init RX9) (by decide +kernel)), va_Nw.of rfl (hts (.methodLinkNest RX9 40 yX6_init RX9) (by decide +kernel)), va_Nw.of rfl (hts (.methodLinkNest RX6 55 yX9_isProperty RX9) (by decide +kernel)), va_Nw.of rfl (hts (.methodLinkNest RX6 94 yX9_isInherited RX9) (by decide +kernel)), va_Nw.of rfl (hts (.fieldLinkNest RX6 101 RX9 "FIRST_VALUES" "[I" RX9) (by decide +kernel)), va_Nw.of rfl (hts (.castable RX3 "java/lang/Object") (by decide +kernel)), va_Nw.of rfl (hts (.castable RX5 "java/lang/Object") (by decide +kernel)), va_AO.of (hts (.arrayOver (.object "java/lang/Object")) (by decide +kernel)), va_Dc.of (hts (.declares ⟨"java/lang/Object", "getClass", "()Ljava/lang/Class;"⟩) (by decide +kernel)), va_Mi.of (hs (.isRef (.mirror "[Ljava/lang/Object;")) (by decide +kernel))⟩
theorem lw_N2 {args : Array Value} {s : State} (hts : ∀ w ∈ lw_tbl, w.before args s = true) : pvN2 s :=
  ⟨va_AO.of (hts (.arrayOver (.object "PinnaceView$Node")) (by decide +kernel)), va_AOA.of (hts (.arrayOver (.array .int)) (by decide +kernel))⟩
