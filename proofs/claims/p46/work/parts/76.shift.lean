/-! PURE: shifts, in two runs -/
def frH (σ τ : PvS) : Prop := (∀ κ q i, ¬ (κ = 2 ∧ (q = 11 ∨ q = 12 ∨ q = 13)) → τ.2.1 κ q i = σ.2.1 κ q i) ∧ τ.2.2.1 = σ.2.2.1 ∧ τ.2.2.2.1 = σ.2.2.2.1 ∧ fz σ τ
theorem frH.refl {σ : PvS} : frH σ σ := ⟨fun _ _ _ _ => rfl, rfl, rfl, fz.refl⟩
theorem frH.trans {σ τ ρ : PvS} (h : frH σ τ) (g : frH τ ρ) : frH σ ρ := ⟨fun κ q i z => (g.1 κ q i z).trans (h.1 κ q i z), g.2.1.trans h.2.1, g.2.2.1.trans h.2.2.1, h.2.2.2.trans g.2.2.2⟩
theorem frH_I {σ : PvS} {q i : Nat} {v : Int32} (h : q = 11 ∨ q = 12 ∨ q = 13) : frH σ (pvI σ 2 q i v) :=
  ⟨fun κ2 q2 i2 z => by rw [pvI_at, if_neg (by omega)], rfl, rfl, fz_I rfl (fun _ => by omega)⟩
def AG3 (σ σ' : PvS) (n : Nat) : Prop := σ'.2.1 2 11 n = σ.2.1 2 11 n ∧ σ'.2.1 2 12 n = σ.2.1 2 12 n ∧ σ'.2.1 2 13 n = σ.2.1 2 13 n
def mup (σ : PvS) (n : Nat) (c : Int32) : Prop := c = 0 ∨ (isbx (σ.2.1 2 0 n) ∧ sty σ n 11 = 1 ∧ sty σ n 2 ≠ -1 ∧ c.toInt ≤ (σ.2.1 2 9 n).toInt)
theorem mup.fr {σ τ : PvS} {n : Nat} {c : Int32} (h : mup σ n c) (f : frH σ τ) : mup τ n c := by
  unfold mup
  rw [f.1 2 0 n (by omega), f.1 2 9 n (by omega), fz_sty f.2.2.2, fz_sty f.2.2.2]
  exact h
def SV (σ : PvS) (n k : Nat) : Prop := (-(30 * (k : Int)) ≤ (σ.2.1 2 11 n).toInt ∧ (σ.2.1 2 11 n).toInt ≤ 30 * (k : Int)) ∧ mup σ n (σ.2.1 2 13 n)
theorem r_shift {σ σ' : PvS} (h : ST σ) (h' : ST σ') (g : AGp σ σ') (hg : ∀ n, alive σ n → gdn σ σ' n) (hv : ∀ n, alive σ n → VH σ n) : rel (f_X4_shift σ) (f_X4_shift σ') (fun τ τ' => frH σ τ ∧ frH σ' τ' ∧ mn σ σ' τ τ' ∧ ∀ n, alive σ n → AG3 τ τ' n ∧ SV τ n 15) := by
  have hn15 := h.f.t.n
  have hlen := h.f.t.len
  have key : ∀ (ys xs : List Nat) (m : Nat) (ρ ρ' : PvS), σ.2.2.2.2 1 = xs ++ ys → ys.length < m → frH σ ρ → frH σ' ρ' → mn σ σ' ρ ρ' → (∀ n ∈ xs, AG3 ρ ρ' n ∧ SV ρ n xs.length) → rel (f_X4_shift_2 m ρ (nI xs.length)) (f_X4_shift_2 m ρ' (nI xs.length)) (fun τ τ' => frH σ τ ∧ frH σ' τ' ∧ mn σ σ' τ τ' ∧ ∀ n, alive σ n → AG3 τ τ' n ∧ SV τ n 15) := by
    intro ys
    induction ys with
    | nil =>
      intro xs m ρ ρ' hO hm f f' mm hx
      obtain ⟨m, rfl⟩ : ∃ q, m = q + 1 := ⟨m - 1, by omega⟩
      rw [List.append_nil] at hO
      have c : nI (σ.2.2.2.2 1).length ≤ nI xs.length := by rw [hO]; exact nI_le (Nat.le_refl _) (s31 (by rw [← hO]; omega))
      refine rel_itp (by rw [dc_L f.2.2.2.1]; exact c) (by rw [dc_L f'.2.2.2.1, dc_L g.1]; exact c) (rel_some ⟨f, f', mm, fun n a => ?_⟩)
      have := hx n (by rw [← hO]; exact a)
      have l15 : xs.length ≤ 15 := by rw [← hO]; omega
      exact ⟨this.1, ⟨by have := this.2.1; omega, this.2.2⟩⟩
    | cons n ys ih =>
      intro xs m ρ ρ' hO hm f f' mm hx
      obtain ⟨m, rfl⟩ : ∃ q, m = q + 1 := ⟨m - 1, by omega⟩
      have hat := stepN hO rfl
      have hxs := at_lt hat
      have an : alive σ n := List.mem_of_getElem? hat
      have nod : (xs ++ n :: ys).Nodup := by rw [← hO]; exact h.f.t.nodup
      have nxs : ∀ v ∈ xs, v ≠ n := fun v hv => (List.nodup_append.mp nod).2.2 v hv n List.mem_cons_self
      have nxt := fun ρ ρ' => ih (xs ++ [n]) m ρ ρ' (by rw [hO, List.append_assoc]; rfl) (by simp only [List.length_cons] at hm; omega)
      have lX : (xs ++ [n]).length = xs.length + 1 := by rw [List.length_append]; rfl
      rw [lX] at nxt
      have hρ := h.fz f.2.2.2
      have hρ' := h'.fz f'.2.2.2
      have gρ := g.fz f.2.2.2 f'.2.2.2
      have anρ : alive ρ n := (fz_alive f.2.2.2).mpr an
      have anρ' : alive ρ' n := by show n ∈ ρ'.2.2.2.2 1; rw [dc_L gρ.1]; exact anρ
      -- what is put
      have s115 : ∀ (A A' : PvS) (c : Int32), frH ρ A → frH ρ' A' → mn ρ ρ' A A' → (∀ v ∈ xs, ∀ q, A.2.1 2 q v = ρ.2.1 2 q v) → A'.2.1 2 11 n = A.2.1 2 11 n → A'.2.1 2 12 n = A.2.1 2 12 n → (-30 ≤ (A.2.1 2 11 n).toInt ∧ (A.2.1 2 11 n).toInt ≤ 30) → mup ρ n c → rel (f_X4_shift_115 (f_X4_shift_2 m) A (nI xs.length) n n c n) (f_X4_shift_115 (f_X4_shift_2 m) A' (nI xs.length) n n c n) (fun τ τ' => frH σ τ ∧ frH σ' τ' ∧ mn σ σ' τ τ' ∧ ∀ n, alive σ n → AG3 τ τ' n ∧ SV τ n 15) := fun A A' c fA fA' mA zA a11 a12 b11 hc => by
        unfold f_X4_shift_115
        have m1 := mA.trans (mn_I (σ := A) (σ' := A') (κ := 2) (q := 13) (i := n) (v := c) rfl)
        have f1 : frH ρ (pvI A 2 13 n c) := fA.trans (frH_I (by omega))
        have f1' : frH ρ' (pvI A' 2 13 n c) := fA'.trans (frH_I (by omega))
        have z1 : ∀ v ∈ xs, ∀ q, (pvI A 2 13 n c).2.1 2 q v = ρ.2.1 2 q v := fun v hv q => by rw [pvI_at, if_neg (fun e => nxs v hv e.2.2)]; exact zA v hv q
        have e11 : (pvI A' 2 13 n c).2.1 2 11 n = (pvI A 2 13 n c).2.1 2 11 n := by rw [pvI_at, if_neg (by omega), pvI_at, if_neg (by omega)]; exact a11
        have e12 : (pvI A' 2 13 n c).2.1 2 12 n = (pvI A 2 13 n c).2.1 2 12 n := by rw [pvI_at, if_neg (by omega), pvI_at, if_neg (by omega)]; exact a12
        have e13 : (pvI A 2 13 n c).2.1 2 13 n = c := pvI_self _ _ _ _ _
        have e13' : (pvI A' 2 13 n c).2.1 2 13 n = c := pvI_self _ _ _ _ _
        have v11 : (pvI A 2 13 n c).2.1 2 11 n = A.2.1 2 11 n := by rw [pvI_at, if_neg (by omega)]
        have pA : (pvI A 2 13 n c).2.2.1 3 8 n = par σ n := congrFun (dc_par (f1.2.2.2.1.trans f.2.2.2.1)) n
        have pA' : (pvI A' 2 13 n c).2.2.1 3 8 n = par σ n := congrFun (dc_par (f1'.2.2.2.1.trans (f'.2.2.2.1.trans g.1))) n
        rw [← v11] at b11
        refine rel_nm ?_
        clear v11 zA a11 a12
        generalize pvI A 2 13 n c = B at *
        generalize pvI A' 2 13 n c = B' at *
        rw [pA, pA', nm_t, nm_t]
        refine rel_oc rfl (fun e => ?_) (fun u e => ?_)
        · rw [nI_1]
          refine nxt B B' (f.trans f1) (f'.trans f1') (mm.trans m1) (fun v hv => ?_)
          rcases List.mem_append.mp hv with q | q
          · have := hx v q
            refine ⟨⟨m1.1 _ _ _ this.1.1, m1.1 _ _ _ this.1.2.1, m1.1 _ _ _ this.1.2.2⟩, ⟨?_, ?_⟩⟩
            · rw [z1 v q]; have := this.2.1; omega
            · rw [z1 v q]; exact this.2.2.fr f1
          · rw [List.mem_singleton] at q
            subst q
            refine ⟨⟨e11, e12, by rw [e13, e13']⟩, ⟨by omega, by rw [e13]; exact hc.fr f1⟩⟩
        · have ux : u ∈ xs := h.f.t.first hO e
          have un := nxs u ux
          have gu := hx u ux
          have u11 : B'.2.1 2 11 u = B.2.1 2 11 u := m1.1 _ _ _ gu.1.1
          have u12 : B'.2.1 2 12 u = B.2.1 2 12 u := m1.1 _ _ _ gu.1.2.1
          have u13 : B'.2.1 2 13 u = B.2.1 2 13 u := m1.1 _ _ _ gu.1.2.2
          have k11 : B.2.1 2 11 u = ρ.2.1 2 11 u := z1 u ux 11
          have hsx := gu.2.1
          rw [e, nm_t, oc_st, oc_st, e11, u11]
          have n1 := ti_add (a := B.2.1 2 11 n) (b := B.2.1 2 11 u) (by rw [k11]; omega) (by rw [k11]; omega)
          have m2 := m1.trans (mn_I (σ := B) (σ' := B') (κ := 2) (q := 11) (i := n) (v := B.2.1 2 11 n + B.2.1 2 11 u) rfl)
          have f2 : frH ρ (pvI B 2 11 n (B.2.1 2 11 n + B.2.1 2 11 u)) := f1.trans (frH_I (by omega))
          have f2' : frH ρ' (pvI B' 2 11 n (B.2.1 2 11 n + B.2.1 2 11 u)) := f1'.trans (frH_I (by omega))
          have z2 : ∀ v ∈ xs, ∀ q, (pvI B 2 11 n (B.2.1 2 11 n + B.2.1 2 11 u)).2.1 2 q v = ρ.2.1 2 q v := fun v hv q => by rw [pvI_at, if_neg (fun e => nxs v hv e.2.2)]; exact z1 v hv q
          have w11 : (pvI B 2 11 n (B.2.1 2 11 n + B.2.1 2 11 u)).2.1 2 11 n = B.2.1 2 11 n + B.2.1 2 11 u := pvI_self _ _ _ _ _
          have w11' : (pvI B' 2 11 n (B.2.1 2 11 n + B.2.1 2 11 u)).2.1 2 11 n = B.2.1 2 11 n + B.2.1 2 11 u := pvI_self _ _ _ _ _
          have mI := mn_I (σ := B) (σ' := B') (κ := 2) (q := 11) (i := n) (v := B.2.1 2 11 n + B.2.1 2 11 u) rfl
          have w12 := mI.1 2 12 n e12
          have x12 := mI.1 2 12 u u12
          have x13 := mI.1 2 13 u u13
          have w13 : (pvI B 2 11 n (B.2.1 2 11 n + B.2.1 2 11 u)).2.1 2 13 n = c := by rw [pvI_at, if_neg (by omega)]; exact e13
          have w13' : (pvI B' 2 11 n (B.2.1 2 11 n + B.2.1 2 11 u)).2.1 2 13 n = c := by rw [pvI_at, if_neg (by omega)]; exact e13'
          have pB : (pvI B 2 11 n (B.2.1 2 11 n + B.2.1 2 11 u)).2.2.1 3 8 n = some u := by rw [← e]; exact congrFun (dc_par (f2.2.2.2.1.trans f.2.2.2.1)) n
          have pB' : (pvI B' 2 11 n (B.2.1 2 11 n + B.2.1 2 11 u)).2.2.1 3 8 n = some u := by rw [← e]; exact congrFun (dc_par (f2'.2.2.2.1.trans (f'.2.2.2.1.trans g.1))) n
          refine rel_nm ?_
          have n1 : (B.2.1 2 11 n + B.2.1 2 11 u).toInt = (B.2.1 2 11 n).toInt + (ρ.2.1 2 11 u).toInt := by rw [n1, k11]
          clear mI
          generalize B.2.1 2 11 n + B.2.1 2 11 u = w at *
          generalize pvI B 2 11 n w = C at *
          generalize pvI B' 2 11 n w = C' at *
          rw [pB, pB', nm_t, nm_t, oc_st, oc_st, nm_t, nm_t, oc_st, oc_st, w12, x12, x13]
          have m3 := m2.trans (mn_I (σ := C) (σ' := C') (κ := 2) (q := 12) (i := n) (v := C.2.1 2 12 n + (C.2.1 2 12 u - C.2.1 2 13 u)) rfl)
          have f3 : frH ρ (pvI C 2 12 n (C.2.1 2 12 n + (C.2.1 2 12 u - C.2.1 2 13 u))) := f2.trans (frH_I (by omega))
          have f3' : frH ρ' (pvI C' 2 12 n (C.2.1 2 12 n + (C.2.1 2 12 u - C.2.1 2 13 u))) := f2'.trans (frH_I (by omega))
          have z3 : ∀ v ∈ xs, ∀ q, (pvI C 2 12 n (C.2.1 2 12 n + (C.2.1 2 12 u - C.2.1 2 13 u))).2.1 2 q v = ρ.2.1 2 q v := fun v hv q => by rw [pvI_at, if_neg (fun e => nxs v hv e.2.2)]; exact z2 v hv q
          rw [nm_t, nm_t, nI_1]
          refine nxt _ _ (f.trans f3) (f'.trans f3') (mm.trans m3) (fun v hv => ?_)
          rcases List.mem_append.mp hv with q | q
          · have := hx v q
            refine ⟨⟨m3.1 _ _ _ this.1.1, m3.1 _ _ _ this.1.2.1, m3.1 _ _ _ this.1.2.2⟩, ⟨?_, ?_⟩⟩
            · rw [z3 v q]; have := this.2.1; omega
            · rw [z3 v q]; exact this.2.2.fr f3
          · rw [List.mem_singleton] at q
            subst q
            refine ⟨⟨?_, by rw [pvI_self, pvI_self], ?_⟩, ⟨?_, ?_⟩⟩
            · rw [pvI_at, if_neg (by omega), pvI_at, if_neg (by omega), w11, w11']
            · rw [pvI_at, if_neg (by omega), pvI_at, if_neg (by omega), w13, w13']
            · rw [pvI_at, if_neg (by omega), w11, n1]; omega
            · rw [pvI_at, if_neg (by omega), w13]; exact hc.fr f3
      obtain ⟨t1, -, -, -, t5⟩ := gρ.2.2 n anρ
      have s76 : ∀ (A A' : PvS) (b : Int32), frH ρ A → frH ρ' A' → mn ρ ρ' A A' → (∀ v ∈ xs, ∀ q, A.2.1 2 q v = ρ.2.1 2 q v) → A'.2.1 2 11 n = A.2.1 2 11 n → (-30 ≤ (A.2.1 2 11 n).toInt ∧ (A.2.1 2 11 n).toInt ≤ 30) → rel (f_X4_shift_76 (f_X4_shift_2 m) A (nI xs.length) n n b n) (f_X4_shift_76 (f_X4_shift_2 m) A' (nI xs.length) n n b n) (fun τ τ' => frH σ τ ∧ frH σ' τ' ∧ mn σ σ' τ τ' ∧ ∀ n, alive σ n → AG3 τ τ' n ∧ SV τ n 15) := fun A A' b fA fA' mA zA a11 b11 => by
        unfold f_X4_shift_76
        have m1 := mA.trans (mn_I (σ := A) (σ' := A') (κ := 2) (q := 12) (i := n) (v := b) rfl)
        have f1 : frH ρ (pvI A 2 12 n b) := fA.trans (frH_I (by omega))
        have f1' : frH ρ' (pvI A' 2 12 n b) := fA'.trans (frH_I (by omega))
        have z1 : ∀ v ∈ xs, ∀ q, (pvI A 2 12 n b).2.1 2 q v = ρ.2.1 2 q v := fun v hv q => by rw [pvI_at, if_neg (fun e => nxs v hv e.2.2)]; exact zA v hv q
        have e11 : (pvI A' 2 12 n b).2.1 2 11 n = (pvI A 2 12 n b).2.1 2 11 n := by rw [pvI_at, if_neg (by omega), pvI_at, if_neg (by omega)]; exact a11
        have e12 : (pvI A' 2 12 n b).2.1 2 12 n = (pvI A 2 12 n b).2.1 2 12 n := by rw [pvI_self, pvI_self]
        have v11 : (pvI A 2 12 n b).2.1 2 11 n = A.2.1 2 11 n := by rw [pvI_at, if_neg (by omega)]
        rw [← v11] at b11
        refine rel_nm ?_
        clear v11 zA a11
        generalize pvI A 2 12 n b = B at *
        generalize pvI A' 2 12 n b = B' at *
        have k4 : B.2.1 2 4 n = ρ.2.1 2 4 n := f1.1 2 4 n (by omega)
        have k4' : B'.2.1 2 4 n = ρ.2.1 2 4 n := (f1'.1 2 4 n (by omega)).trans t5
        rw [k4, k4']
        refine rel_ite Iff.rfl (fun _ => s115 B B' 0 f1 f1' m1 z1 e11 e12 b11 (Or.inl rfl)) (fun hs => ?_)
        -- it scrolls
        have s4 : σ.2.1 2 4 n = scrv σ n := (h.p an).2.2.2.2
        have r4 : ρ.2.1 2 4 n = σ.2.1 2 4 n := f.1 2 4 n (by omega)
        have sc : isbx (srtv σ n) ∧ sty σ n 11 = 1 := by
          rw [r4, s4] at hs
          unfold scrv at hs
          split at hs
          · assumption
          · exact absurd rfl hs
        have hb : isbx (σ.2.1 2 0 n) := by rw [h.sort an]; exact sc.1
        have gn := (hg n an).1 hb
        have d12 : B'.2.1 3 12 n = B.2.1 3 12 n := (dc_I (f1'.2.2.2.1.trans gρ.1) rfl 12 n).trans (dc_I f1.2.2.2.1 rfl 12 n).symm
        have d9 : B.2.1 2 9 n = σ.2.1 2 9 n := (f1.1 2 9 n (by omega)).trans (f.1 2 9 n (by omega))
        have d8 : B.2.1 2 8 n = σ.2.1 2 8 n := (f1.1 2 8 n (by omega)).trans (f.1 2 8 n (by omega))
        have d9' : B'.2.1 2 9 n = σ.2.1 2 9 n := (f1'.1 2 9 n (by omega)).trans ((f'.1 2 9 n (by omega)).trans (gn 9 (by omega) (by omega)))
        have d8' : B'.2.1 2 8 n = σ.2.1 2 8 n := (f1'.1 2 8 n (by omega)).trans ((f'.1 2 8 n (by omega)).trans (gn 8 (by omega) (by omega)))
        have b12 : B.2.1 3 12 n = σ.2.1 3 12 n := (dc_I f1.2.2.2.1 rfl 12 n).trans (dc_I f.2.2.2.1 rfl 12 n)
        rw [d12, d9, d8, d9', d8', b12]
        refine s115 B B' _ f1 f1' m1 z1 e11 e12 b11 ?_
        have w12 := (h.f.w n (h.f.t.alive_lt an)).2.2.2.1
        obtain ⟨v9, v8, vq⟩ := hv n an
        have n1 := ti_sub (a := σ.2.1 2 9 n) (b := σ.2.1 2 8 n) (by omega) (by omega)
        have n2 := ti_max (a := 0) (b := σ.2.1 2 9 n - σ.2.1 2 8 n)
        have n3 := ti_min (a := σ.2.1 3 12 n) (b := imax 0 (σ.2.1 2 9 n - σ.2.1 2 8 n))
        rw [show (0 : Int32).toInt = 0 from rfl] at n2
        by_cases hq : sty σ n 2 = -1
        · have := vq hq
          refine Or.inl (Int32.toInt_inj.mp ?_)
          rw [show (0 : Int32).toInt = 0 from rfl]
          omega
        · refine Or.inr ⟨?_, ?_, ?_, ?_⟩
          · rw [f.1 2 0 n (by omega)]; exact hb
          · rw [fz_sty f.2.2.2]; exact sc.2
          · rw [fz_sty f.2.2.2]; exact hq
          · rw [f.1 2 9 n (by omega)]; omega
      have s49 : ∀ a : Int32, (-30 ≤ a.toInt ∧ a.toInt ≤ 30) → rel (f_X4_shift_49 (f_X4_shift_2 m) ρ (nI xs.length) n n a n) (f_X4_shift_49 (f_X4_shift_2 m) ρ' (nI xs.length) n n a n) (fun τ τ' => frH σ τ ∧ frH σ' τ' ∧ mn σ σ' τ τ' ∧ ∀ n, alive σ n → AG3 τ τ' n ∧ SV τ n 15) := fun a ha => by
        unfold f_X4_shift_49
        have m1 : mn ρ ρ' (pvI ρ 2 11 n a) (pvI ρ' 2 11 n a) := mn_I rfl
        have f1 : frH ρ (pvI ρ 2 11 n a) := frH_I (by omega)
        have f1' : frH ρ' (pvI ρ' 2 11 n a) := frH_I (by omega)
        have z1 : ∀ v ∈ xs, ∀ q, (pvI ρ 2 11 n a).2.1 2 q v = ρ.2.1 2 q v := fun v hv q => by rw [pvI_at, if_neg (fun e => nxs v hv e.2.2)]
        have e11 : (pvI ρ 2 11 n a).2.1 2 11 n = a := pvI_self _ _ _ _ _
        have e11' : (pvI ρ' 2 11 n a).2.1 2 11 n = a := pvI_self _ _ _ _ _
        refine rel_nm ?_
        generalize pvI ρ 2 11 n a = B at *
        generalize pvI ρ' 2 11 n a = B' at *
        have k0 : B.2.1 2 0 n = ρ.2.1 2 0 n := f1.1 2 0 n (by omega)
        have k0' : B'.2.1 2 0 n = ρ.2.1 2 0 n := (f1'.1 2 0 n (by omega)).trans t1
        rw [ob1_t (f_isBox B n), ob1_t (f_isBox B' n), k0, k0']
        refine rel_ite Iff.rfl (fun _ => s76 B B' 0 f1 f1' m1 z1 (by rw [e11, e11']) (by rw [e11]; exact ha)) (fun _ => ?_)
        have aB : alive B n := (fz_alive f1.2.2.2).mpr anρ
        have aB' : alive B' n := (fz_alive f1'.2.2.2).mpr anρ'
        rw [ob1_t (show f_X6_of B 0 n 13 = _ from f_ofS (hρ.fz f1.2.2.2).f.t aB (p := 13) (by decide)), ob1_t (show f_X6_of B' 0 n 13 = _ from f_ofS (hρ'.fz f1'.2.2.2).f.t aB' (p := 13) (by decide)), fz_sty f1.2.2.2, fz_sty f1'.2.2.2, gρ.2.1 n anρ 13 (by decide)]
        exact s76 B B' _ f1 f1' m1 z1 (by rw [e11, e11']) (by rw [e11]; exact ha)
      have e1 : f_X4_shift_2 (m + 1) ρ (nI xs.length) = (ob1 (f_X2_isBox ρ n) (fun r26 => if r26 = 0 then (f_X4_shift_49 (f_X4_shift_2 m) ρ (nI xs.length) n n 0 n) else (ob1 (f_X6_of ρ 0 n 12) (fun r32 => f_X4_shift_49 (f_X4_shift_2 m) ρ (nI xs.length) n n r32 n)))) := by
        show (if (nI (ρ.2.2.2.2 1).length) ≤ nI xs.length then (some ρ) else (gd (vin (nI xs.length) (ρ.2.2.2.2 1).length) (nm ((ρ.2.2.2.2 1).getD (nI xs.length).toNatClampNeg 0) (fun y25 => ob1 (f_X2_isBox ρ y25) (fun r26 => if r26 = 0 then (f_X4_shift_49 (f_X4_shift_2 m) ρ (nI xs.length) y25 y25 0 y25) else (ob1 (f_X6_of ρ 0 y25 12) (fun r32 => f_X4_shift_49 (f_X4_shift_2 m) ρ (nI xs.length) y25 y25 r32 y25))))))) = _
        rw [dc_L f.2.2.2.1, if_neg (nI_ge hxs (s31 (by omega))), gd_t (vin_n hxs (s31 (by omega))), nm_t, nI_clamp (s31 (by omega)), getD_at hat]
      have e1' : f_X4_shift_2 (m + 1) ρ' (nI xs.length) = (ob1 (f_X2_isBox ρ' n) (fun r26 => if r26 = 0 then (f_X4_shift_49 (f_X4_shift_2 m) ρ' (nI xs.length) n n 0 n) else (ob1 (f_X6_of ρ' 0 n 12) (fun r32 => f_X4_shift_49 (f_X4_shift_2 m) ρ' (nI xs.length) n n r32 n)))) := by
        show (if (nI (ρ'.2.2.2.2 1).length) ≤ nI xs.length then (some ρ') else (gd (vin (nI xs.length) (ρ'.2.2.2.2 1).length) (nm ((ρ'.2.2.2.2 1).getD (nI xs.length).toNatClampNeg 0) (fun y25 => ob1 (f_X2_isBox ρ' y25) (fun r26 => if r26 = 0 then (f_X4_shift_49 (f_X4_shift_2 m) ρ' (nI xs.length) y25 y25 0 y25) else (ob1 (f_X6_of ρ' 0 y25 12) (fun r32 => f_X4_shift_49 (f_X4_shift_2 m) ρ' (nI xs.length) y25 y25 r32 y25))))))) = _
        rw [dc_L f'.2.2.2.1, dc_L g.1, if_neg (nI_ge hxs (s31 (by omega))), gd_t (vin_n hxs (s31 (by omega))), nm_t, nI_clamp (s31 (by omega)), getD_at hat]
      rw [e1, e1', ob1_t (f_isBox ρ n), ob1_t (f_isBox ρ' n), t1]
      refine rel_ite Iff.rfl (fun _ => s49 0 (by decide)) (fun _ => ?_)
      rw [ob1_t (show f_X6_of ρ 0 n 12 = _ from f_ofS hρ.f.t anρ (p := 12) (by decide)), ob1_t (show f_X6_of ρ' 0 n 12 = _ from f_ofS hρ'.f.t anρ' (p := 12) (by decide)), gρ.2.1 n anρ 12 (by decide)]
      have r12 : -30 ≤ (sty ρ n 12).toInt ∧ (sty ρ n 12).toInt ≤ 30 := hρ.s anρ (p := 12) (by decide)
      exact s49 _ r12
  exact key (σ.2.2.2.2 1) [] fu σ σ' rfl (by unfold fu; omega) frH.refl frH.refl mn.refl (fun n hn => nomatch hn)
