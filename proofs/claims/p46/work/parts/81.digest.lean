/-! PURE: means and digests -/
theorem mean_ok {a b : Int32} (ha : 0 ≤ a.toInt) (hb : 0 < b.toInt) : (FP.ddiv (FP.i2d a) (FP.i2d b) &&& 0x7fffffffffffffff ≤ 0x7ff0000000000000) ∧ ¬ (Op.cmpValue (FP.dcmp (FP.ddiv (FP.i2d a) (FP.i2d b)) FP.dconst0) CmpOp.l) < 0 := by
  have sg : ∀ z : Int32, 0 ≤ z.toInt → FP.Core.sgn (FP.Core.val64 (FP.i2d z)) = false := fun z hz => by
    rw [show FP.Core.val64 (FP.i2d z) = FP.Core.round FP.Core.b64 (FP.Core.ofInt z.toInt) from FP.Core.val64_i2d z]
    show FP.Core.sgn (FP.Core.roundRatio FP.Core.b64 (decide (z.toInt < 0)) z.toInt.natAbs 1 0) = false
    rw [FP.Core.sgn_roundRatio]
    exact decide_eq_false (by omega)
  obtain ⟨s, c, q, e1⟩ := FP.Core.i2d_fin a
  obtain ⟨t, d, r, e2⟩ := FP.Core.i2d_fin b
  have s0 : s = false := by have := sg a ha; rw [show FP.Core.val64 (FP.i2d a) = _ from e1] at this; exact this
  have t0 : t = false := by have := sg b (by omega); rw [show FP.Core.val64 (FP.i2d b) = _ from e2] at this; exact this
  have b0 : b ≠ 0 := fun z => by rw [z] at hb; exact absurd hb (by decide)
  have d0 : d ≠ 0 := fun z => FP.Core.i2d_ne_zero b0 ((FP.Core.zero_bits2 _).mp ⟨t, r, by rw [e2, z]⟩)
  have ev : FP.Core.val64 (FP.ddiv (FP.i2d a) (FP.i2d b)) = FP.Core.roundRatio FP.Core.b64 (s != t) c d (q - r) := by
    rw [show FP.Core.val64 (FP.ddiv (FP.i2d a) (FP.i2d b)) = FP.Core.quotient FP.Core.b64 (FP.Core.val64 (FP.i2d a)) (FP.Core.val64 (FP.i2d b)) from FP.Core.val64_ddiv _ _, show FP.Core.val64 (FP.i2d a) = _ from e1, show FP.Core.val64 (FP.i2d b) = _ from e2]
    exact if_neg d0
  have nn : FP.Core.val64 (FP.ddiv (FP.i2d a) (FP.i2d b)) ≠ .nan := by rw [ev]; exact FP.Core.roundRatio_ne_nan _ _ _ _ _
  refine ⟨Jvm.Free.Fl.val64_no.mpr nn, fun h => ?_⟩
  have z0 : FP.Core.zval FP.Core.b64 (FP.Core.val64 FP.dconst0) = 0 := by decide +kernel
  have zn : FP.Core.val64 FP.dconst0 ≠ .nan := by decide +kernel
  have zs : 0 ≤ FP.Core.zval FP.Core.b64 (FP.Core.val64 (FP.ddiv (FP.i2d a) (FP.i2d b))) := by
    unfold FP.Core.zval
    rw [show FP.Core.sgn (FP.Core.val64 (FP.ddiv (FP.i2d a) (FP.i2d b))) = false by rw [ev, FP.Core.sgn_roundRatio, s0, t0]; rfl]
    unfold FP.Core.signed
    rw [if_neg (by decide)]
    omega
  cases e : FP.dcmp (FP.ddiv (FP.i2d a) (FP.i2d b)) FP.dconst0 with
  | none =>
    rcases (FP.Core.dcmp_none _ _).mp e with w | w
    · exact nn w
    · exact zn w
  | some o =>
    rw [e] at h
    cases o with
    | lt =>
      have := (FP.Core.dcmp_lt.mp e).2.2
      rw [z0] at this
      omega
    | eq => exact absurd h (by decide)
    | gt => exact absurd h (by decide)
theorem a_mean {d σ : PvS} {vw : Int32} (K : KS d vw σ) : tot (f_X9_meanLine σ) (fun p => ¬ (Op.cmpValue (FP.dcmp p.1 FP.dconst0) CmpOp.l) < 0 ∧ KS d vw p.2) := by
  unfold f_X9_meanLine
  rw [K.vw]
  obtain ⟨τ, e, Kτ, L⟩ := f_laid K K.wf.t.alive0 K.w20
  rw [ob2_t (show f_X9_laidOut σ 0 vw = _ from e)]
  have v := (K.c K.w20).1
  refine tot_ite (fun h => tot_some ⟨show ¬ (Op.cmpValue (FP.dcmp FP.dconst0 FP.dconst0) CmpOp.l) < 0 from by decide +kernel, Kτ⟩) (fun h => ?_)
  rw [L.2.2.1] at h ⊢
  rw [L.2.2.2]
  have h44 := v.2.2.1
  have h45 := v.2.2.2.1
  have hn : ((cL d vw).2.1 4 4 0).toInt ≠ 0 := fun z => h (Int32.toInt_inj.mp z)
  have m := mean_ok (a := (cL d vw).2.1 4 5 0) (b := (cL d vw).2.1 4 4 0) (by omega) (by omega)
  exact tot_gd m.1 (tot_some ⟨m.2, Kτ⟩)
section DIGEST
variable {C τ : PvS}
theorem q_par (L : LA C τ) (v : LV C) {n : Nat} (a : alive C n) : rel (f_X9_parent C (nI n)) (f_X9_parent τ (nI n)) (fun x y => y = x) :=
  ⟨_, _, f_parent v.1.f.t a, f_parent (WF_dc v.1.f L.1.1).t (L.al a), by rw [dc_par L.1.1]⟩
theorem q_size (L : LA C τ) (v : LV C) {n : Nat} (a : alive C n) : rel (f_X9_size C (nI n)) (f_X9_size τ (nI n)) (fun x y => y = x) :=
  ⟨_, _, f_size v.1.f.t a, f_size (WF_dc v.1.f L.1.1).t (L.al a), by rw [dc_chl L.1.1, dc_I L.1.1 rfl, dc_I L.1.1 rfl]⟩
theorem q_place (L : LA C τ) (v : LV C) {n : Nat} (a : alive C n) (x : Int64) : rel (f_X9_digestOfPlace C x n) (f_X9_digestOfPlace τ x n) (fun x y => y = x) := by
  have e30 : C.2.1 3 0 n = nI n := v.1.f.t.num (v.1.f.t.alive_lt a)
  have s35 : ∀ z y, rel (f_X9_digestOfPlace_35 C n z y) (f_X9_digestOfPlace_35 τ n z y) (fun x y => y = x) := fun z y => by
    unfold f_X9_digestOfPlace_35
    rw [dc_I L.1.1 rfl, e30]
    refine rel_ob1 (q_par L v a) (fun r r' q => ?_)
    subst q
    refine rel_ob1 (q_size L v a) (fun r r' q => ?_)
    subst q
    exact rel_some rfl
  unfold f_X9_digestOfPlace
  rw [dc_I L.1.1 rfl 1 n, dc_I L.1.1 rfl 0 n]
  exact rel_ite Iff.rfl (fun _ => s35 _ _) (fun _ => s35 _ _)
theorem q_dbox (L : LA C τ) (v : LV C) {n : Nat} (a : alive C n) (x : Int64) : rel (f_X9_digestOfBox C x n) (f_X9_digestOfBox τ x n) (fun x y => y = x) := by
  unfold f_X9_digestOfBox
  refine rel_ob1 (q_bX L v a) (fun r r' q => ?_)
  obtain ⟨rfl, -⟩ := q
  refine rel_ob1 (q_bY L a) (fun r r' q => ?_)
  subst q
  refine rel_ob1 (q_bW L v a) (fun r r' q => ?_)
  obtain ⟨rfl, -⟩ := q
  refine rel_ob1 (q_bH L v a) (fun r r' q => ?_)
  obtain ⟨rfl, -⟩ := q
  refine rel_ob1 (q_re L v a) (fun r r' q => ?_)
  obtain ⟨rfl, -⟩ := q
  refine rel_ob1 (q_li L a) (fun r r' q => ?_)
  obtain ⟨rfl, -⟩ := q
  refine rel_some ?_
  rw [L.s0 a, (L.2.1 n a).2.2.2]
theorem q_dsty (L : LA C τ) (v : LV C) {n : Nat} (a : alive C n) (x : Int64) : rel (f_X9_digestOfStyles C x n) (f_X9_digestOfStyles τ x n) (fun x y => y = x) := by
  have key : ∀ (k j m : Nat) (x : Int64), j + k = 14 → k < m → rel (f_X9_digestOfStyles_6 C m n x (nI j)) (f_X9_digestOfStyles_6 τ m n x (nI j)) (fun x y => y = x) := by
    intro k
    induction k with
    | zero =>
      intro j m x e hm
      obtain ⟨m, rfl⟩ : ∃ q, m = q + 1 := ⟨m - 1, by omega⟩
      have q : 14 ≤ nI j := nI_le (a := 14) (by omega) (s31 (by omega))
      exact rel_itp q q (rel_some rfl)
    | succ k ih =>
      intro j m x e hm
      obtain ⟨m, rfl⟩ : ∃ q, m = q + 1 := ⟨m - 1, by omega⟩
      have q : ¬ 14 ≤ nI j := nI_ge (b := 14) (by omega) (by decide)
      refine rel_itn q q ?_
      rw [ob1_t (f_ofS v.1.f.t a (p := j) (by omega)), ob1_t (f_ofS (WF_dc v.1.f L.1.1).t (L.al a) (p := j) (by omega)), L.1.2.1 n a j (by omega), nI_1]
      exact ih (j + 1) m _ (by omega) (by omega)
  exact key 14 0 fu x rfl (by unfold fu; omega)
theorem q_dwords (L : LA C τ) (v : LV C) {n : Nat} (a : alive C n) (x : Int64) : rel (f_X9_digestOfWords C x n) (f_X9_digestOfWords τ x n) (fun x y => y = x) := by
  unfold f_X9_digestOfWords
  rw [dc_I L.1.1 rfl 1 n]
  refine rel_ite Iff.rfl (fun _ => rel_some rfl) (fun ht => ?_)
  have ht := (v.text a).mpr ht
  have w20 := (v.1.f.w n (v.1.f.t.alive_lt a)).1
  obtain ⟨W, hW, hWi, -⟩ := cl_n w20.1
  have hW' : τ.2.1 3 9 n = nI W := (dc_I L.1.1 rfl 9 n).trans hW
  have key : ∀ (k j m : Nat) (x : Int64), j + k = W → k < m → rel (f_X9_digestOfWords_15 C m n x (nI j)) (f_X9_digestOfWords_15 τ m n x (nI j)) (fun x y => y = x) := by
    intro k
    induction k with
    | zero =>
      intro j m x e hm
      obtain ⟨m, rfl⟩ : ∃ q, m = q + 1 := ⟨m - 1, by omega⟩
      have q : nI W ≤ nI j := nI_le (by omega) (s31 (by omega))
      refine rel_itp (by rw [hW]; exact q) (by rw [hW']; exact q) ?_
      refine rel_ob1 (q_seen L v a ht) (fun r r' q => ?_)
      obtain ⟨rfl, -⟩ := q
      exact rel_some rfl
    | succ k ih =>
      intro j m x e hm
      obtain ⟨m, rfl⟩ : ∃ q, m = q + 1 := ⟨m - 1, by omega⟩
      have q : ¬ nI W ≤ nI j := nI_ge (by omega) (s31 (by omega))
      refine rel_itn (by rw [hW]; exact q) (by rw [hW']; exact q) ?_
      refine rel_ob1 (q_wl L v a ht (j := j) (by omega)) (fun r r' q => ?_)
      obtain ⟨rfl, -⟩ := q
      refine rel_ob1 (q_wt L v a ht (j := j) (by omega)) (fun r r' q => ?_)
      subst q
      rw [nI_1]
      exact ih (j + 1) m _ (by omega) (by omega)
  exact key W 0 fu x (by omega) (by unfold fu; omega)
end DIGEST
