/-! PURE: the tree is built -/
def frB (σ τ : PvS) : Prop := (τ.1 0 = σ.1 0 ∧ τ.1 1 = σ.1 1) ∧ (∀ κ q i, κ < 50 → τ.2.1 κ q i = σ.2.1 κ q i) ∧ (∀ q i, τ.2.2.1 3 q i = σ.2.2.1 3 q i) ∧ (∀ κ i j, κ < 50 → τ.2.2.2.1 κ i j = σ.2.2.2.1 κ i j) ∧ τ.2.2.2.2 = σ.2.2.2.2
theorem frB.refl {σ : PvS} : frB σ σ := ⟨⟨rfl, rfl⟩, fun _ _ _ _ => rfl, fun _ _ => rfl, fun _ _ _ _ => rfl, rfl⟩
theorem frB.trans {σ τ ρ : PvS} (h : frB σ τ) (g : frB τ ρ) : frB σ ρ := ⟨⟨g.1.1.trans h.1.1, g.1.2.trans h.1.2⟩, fun κ q i z => (g.2.1 κ q i z).trans (h.2.1 κ q i z), fun q i => (g.2.2.1 q i).trans (h.2.2.1 q i), fun κ i j z => (g.2.2.2.1 κ i j z).trans (h.2.2.2.1 κ i j z), g.2.2.2.2.trans h.2.2.2.2⟩
theorem frB.par {σ τ : PvS} (f : frB σ τ) : par τ = par σ := by funext v; exact f.2.2.1 8 v
theorem frB.WF {σ τ : PvS} (h : WF σ) (f : frB σ τ) : WF τ :=
  ⟨h.t.congr f.1.1 f.2.2.2.2 f.par (fun i => f.2.1 3 0 i (by decide)) (fun i => f.2.1 3 1 i (by decide)) (fun i => f.2.1 3 13 i (by decide)),
   h.w.congr f.1.1 (fun i => f.2.1 3 1 i (by decide)) (fun i => f.2.1 3 9 i (by decide)) (fun i => f.2.1 3 12 i (by decide)) (fun i j => f.2.2.2.1 30 i j (by decide)) (fun i j => f.2.2.2.1 31 i j (by decide)),
   h.r.congr f.1.2 (by rw [f.2.2.2.2]) (fun k i => f.2.1 5 k i (by decide))⟩
theorem frB_arr {σ : PvS} {t : Nat} {x : Int32} {g : Nat → Int32} (ht : 50 < t ∧ t ≤ 54) : frB σ (pvArr σ t x g) := by
  have hne : ∀ j, j ≠ t - 49 → (pvArr σ t x g).1 j = σ.1 j := fun j hj => va_up_ne _ _ hj
  refine ⟨⟨hne 0 (by omega), hne 1 (by omega)⟩, fun κ q i z => ?_, fun q i => ?_, fun κ i j z => ?_, rfl⟩
  · exact if_neg (fun e => by omega)
  · show (if (3 : Nat) = 51 ∧ t = 51 ∧ i = σ.1 2 then none else σ.2.2.1 3 q i) = _
    exact if_neg (fun e => absurd e.1 (by decide))
  · exact if_neg (fun e => by omega)
theorem frB_A {σ : PvS} {κ i j : Nat} {v : Int32} (h : 50 < κ) : frB σ (pvA σ κ i j v) :=
  ⟨⟨rfl, rfl⟩, fun _ _ _ _ => rfl, fun _ _ => rfl, fun κ2 i2 j2 z => by rw [pvA_at, if_neg (fun e => by omega)], rfl⟩
theorem frB_R {σ : PvS} {k i : Nat} {v : Option Nat} : frB σ (pvR σ 51 k i v) :=
  ⟨⟨rfl, rfl⟩, fun _ _ _ _ => rfl, fun q2 i2 => by rw [pvR_at, if_neg (fun e => absurd e.1 (by decide))], fun _ _ _ _ => rfl, rfl⟩
theorem app_R51 (σ : PvS) (u : Nat) (t g : Int32) (k i : Nat) : (app σ u t g).2.2.1 51 k i = σ.2.2.1 51 k i := by
  show (if (51 : Nat) = 3 ∧ k = 8 ∧ i = σ.1 0 then some u else _) = _
  rw [if_neg (fun z => absurd z.1 (by decide))]
  exact if_neg (fun z => absurd z.2 (by decide))
def row3 (σ : PvS) (a j o : Nat) : Prop := σ.2.2.1 51 j a = some o ∧ o < σ.1 3 ∧ σ.2.2.2.1 52 o 0 = (match par σ j with | none => -1 | some u => nI u) ∧ σ.2.2.2.1 52 o 1 = σ.2.1 3 1 j ∧ 0 ≤ (σ.2.2.2.1 52 o 2).toInt ∧ (σ.2.2.2.1 52 o 2).toInt ≤ 3
theorem row3.same {σ τ : PvS} {a j o : Nat} (r : row3 σ a j o) (h3 : σ.1 3 ≤ τ.1 3) (hR : τ.2.2.1 51 j a = σ.2.2.1 51 j a) (hA : ∀ q, q < 3 → τ.2.2.2.1 52 o q = σ.2.2.2.1 52 o q) (hp : par τ j = par σ j) (h1 : τ.2.1 3 1 j = σ.2.1 3 1 j) : row3 τ a j o := by
  unfold row3
  rw [hR, hA 0 (by decide), hA 1 (by decide), hA 2 (by decide), hp, h1]
  exact ⟨r.1, by have := r.2.1; omega, r.2.2⟩
def BI (N a k : Nat) (σ : PvS) : Prop :=
  WF σ ∧ (σ.1 0 = k ∧ σ.1 1 = 0) ∧ (σ.2.1 6 2 0 = 0 ∧ σ.2.1 4 3 0 = 0 ∧ σ.2.1 9 5 0 = 400) ∧ σ.2.1 51 0 a = nI N ∧ (∀ v, v < k → alive σ v) ∧ (∃ dp : Nat → Nat, (∀ v, v < k → dp v ≤ 8) ∧ (∀ v, v < k → par σ v = none → dp v = 0) ∧ ∀ v u, v < k → par σ v = some u → dp v = dp u + 1) ∧ ∀ j, j < k → ∃ o, row3 σ a j o
theorem BI.same {N a k : Nat} {σ τ : PvS} (b : BI N a k σ) (f : frB σ τ) (h3 : σ.1 3 ≤ τ.1 3) (h51 : τ.2.1 51 0 a = σ.2.1 51 0 a) (hr : ∀ j o, j < k → row3 σ a j o → row3 τ a j o) : BI N a k τ := by
  obtain ⟨b1, b2, b3, b4, b5, b6, b7⟩ := b
  refine ⟨f.WF b1, ⟨f.1.1.trans b2.1, f.1.2.trans b2.2⟩, ⟨(f.2.1 6 2 0 (by decide)).trans b3.1, (f.2.1 4 3 0 (by decide)).trans b3.2.1, (f.2.1 9 5 0 (by decide)).trans b3.2.2⟩, h51.trans b4, fun v hv => by show v ∈ τ.2.2.2.2 1; rw [f.2.2.2.2]; exact b5 v hv, ?_, fun j hj => ?_⟩
  · rw [f.par]; exact b6
  · obtain ⟨o, ho⟩ := b7 j hj
    exact ⟨o, hr j o hj ho⟩
/-- a name or classes are set -/
theorem BI.put {N a k : Nat} {σ : PvS} (b : BI N a k σ) {q i : Nat} {v : Int32} (hq : q = 10 ∨ q = 11) : BI N a k (pvI (fgt σ) 3 q i v) := by
  obtain ⟨b1, b2, b3, b4, b5, b6, b7⟩ := b
  have I : ∀ κ p j, κ ≠ 4 → κ ≠ 6 → ¬ (κ = 3 ∧ (p = 10 ∨ p = 11)) → (pvI (fgt σ) 3 q i v).2.1 κ p j = σ.2.1 κ p j := fun κ p j h4 h6 h3 => by
    rw [pvI_at, if_neg (fun e => h3 ⟨e.1, by omega⟩)]; exact fgt_I σ h4 h6
  have n3 : ∀ κ p j, κ ≠ 3 → (pvI (fgt σ) 3 q i v).2.1 κ p j = (fgt σ).2.1 κ p j := fun κ p j h3 => by rw [pvI_at, if_neg (fun e => h3 e.1)]
  refine ⟨⟨b1.t.congr rfl rfl rfl (fun i => I 3 0 i (by decide) (by decide) (by omega)) (fun i => I 3 1 i (by decide) (by decide) (by omega)) (fun i => I 3 13 i (by decide) (by decide) (by omega)), b1.w.congr rfl (fun i => I 3 1 i (by decide) (by decide) (by omega)) (fun i => I 3 9 i (by decide) (by decide) (by omega)) (fun i => I 3 12 i (by decide) (by decide) (by omega)) (fun _ _ => rfl) (fun _ _ => rfl), b1.r.congr rfl rfl (fun k i => I 5 k i (by decide) (by decide) (by omega))⟩, b2, ⟨(n3 6 2 0 (by decide)).trans (fgt_64 σ).1, (n3 4 3 0 (by decide)).trans (fgt_64 σ).2, (I 9 5 0 (by decide) (by decide) (by omega)).trans b3.2.2⟩, (I 51 0 a (by decide) (by decide) (by omega)).trans b4, b5, b6, fun j hj => ?_⟩
  obtain ⟨o, ho⟩ := b7 j hj
  exact ⟨o, ho.same (Nat.le_refl _) rfl (fun _ _ => rfl) rfl (I 3 1 j (by decide) (by decide) (by omega))⟩
/-- what is noted of a node that is made -/
theorem BI.note {N a k : Nat} {σ : PvS} (b : BI N a k σ) {o q : Nat} {v : Int32} (hq : q = 3 ∨ q = 4) : BI N a k (pvA σ 52 o q v) :=
  b.same (frB_A (by decide)) (Nat.le_refl _) rfl (fun j o2 hj r => r.same (Nat.le_refl _) rfl (fun p hp => by rw [pvA_at, if_neg (by omega)]) rfl rfl)
/-- a node is added -/
theorem BI.add {N a k : Nat} {σ : PvS} (b : BI N a k σ) (hk : k < 15) {u : Nat} (hu : u < k) (tu : σ.2.1 3 1 u = 0) {t g : Int32} (ht : is01 t) {dp : Nat → Nat} (d1 : ∀ v, v < k → dp v ≤ 8) (d2 : ∀ v, v < k → par σ v = none → dp v = 0) (d3 : ∀ v w, v < k → par σ v = some w → dp v = dp w + 1) (hd : dp u ≤ 7) {o : Nat} (hR : σ.2.2.1 51 k a = some o) (ho : o < σ.1 3) (h0 : σ.2.2.2.1 52 o 0 = nI u) (h1 : σ.2.2.2.1 52 o 1 = t) (h2 : 0 ≤ (σ.2.2.2.1 52 o 2).toInt ∧ (σ.2.2.2.1 52 o 2).toInt ≤ 3) : BI N a (k + 1) (app (fgt σ) u t g) := by
  obtain ⟨b1, b2, b3, b4, b5, b6, b7⟩ := b
  have ek : (fgt σ).1 0 = k := b2.1
  have hf := b1.t.fgt
  have tu' : (fgt σ).2.1 3 1 u = 0 := (fgt_I σ (by decide) (by decide)).trans tu
  have d1' : ∀ v, v < (fgt σ).1 0 → dp v ≤ 10 := fun v hv => by have := d1 v (by omega); omega
  have d2' : ∀ v, v < (fgt σ).1 0 → par (fgt σ) v = none → dp v = 0 := fun v hv => d2 v (by omega)
  have d3' : ∀ v w, v < (fgt σ).1 0 → par (fgt σ) v = some w → dp v = dp w + 1 := fun v w hv => d3 v w (by omega)
  obtain ⟨w1, w2⟩ := app_WFt hf (g := g) (show alive (fgt σ) u from b5 u hu) (by rw [ek]; exact hk) tu' ht d1' d2' d3' (by omega)
  obtain ⟨e1, e2, e3⟩ := app_dp hf (u := u) (t := t) (g := g) (by rw [ek]; exact hu) d1' d2' d3' (by omega)
  have n0 : (app (fgt σ) u t g).1 0 = k + 1 := by rw [app_n, ek]
  have I : ∀ κ q i, i ≠ k → κ ≠ 4 → κ ≠ 6 → (app (fgt σ) u t g).2.1 κ q i = σ.2.1 κ q i := fun κ q i hi h4 h6 => (app_I (fgt σ) u t g (by rw [ek]; exact hi)).trans (fgt_I σ h4 h6)
  have I5 : ∀ κ q i, 3 < κ → (app (fgt σ) u t g).2.1 κ q i = (fgt σ).2.1 κ q i := fun κ q i h => app_I5 _ _ _ _ h
  have In : ∀ q, (app (fgt σ) u t g).2.1 3 q k = if q = 0 then nI k else if q = 1 then t else if q = 2 then g else 0 := fun q => by
    have := app_In (fgt σ) u t g q
    rw [ek] at this
    exact this
  have An : ∀ κ j, κ = 30 ∨ κ = 31 → (app (fgt σ) u t g).2.2.2.1 κ k j = if κ = 31 ∧ t = 0 then dcl 14 j else 0 := fun κ j h => by
    have := app_An (fgt σ) u t g j h
    rw [ek] at this
    exact this
  have Ak : ∀ i j, (app (fgt σ) u t g).2.2.2.1 52 i j = σ.2.2.2.1 52 i j := fun i j => app_Ak _ _ _ _ (by omega)
  have m3 : (app (fgt σ) u t g).1 3 = σ.1 3 := app_m _ _ _ _ (by decide)
  have m1 : (app (fgt σ) u t g).1 1 = 0 := (app_m _ _ _ _ (by decide)).trans b2.2
  have pr : ∀ v, par (app (fgt σ) u t g) v = if v = k then some u else par σ v := fun v => by
    have := app_par (σ := fgt σ) (u := u) (t := t) (g := g) v
    rw [ek] at this
    exact this
  refine ⟨⟨w1, fun v hv => ?_, by rw [m1]; decide, ?_, fun r hr => by rw [m1] at hr; exact absurd hr (Nat.not_lt_zero _)⟩, ⟨n0, m1⟩, ⟨(I5 6 2 0 (by decide)).trans (fgt_64 σ).1, (I5 4 3 0 (by decide)).trans (fgt_64 σ).2, (I5 9 5 0 (by decide)).trans ((fgt_I σ (by decide) (by decide)).trans b3.2.2)⟩, (I5 51 0 a (by decide)).trans ((fgt_I σ (by decide) (by decide)).trans b4), fun v hv => ?_, ⟨fun v => if v = k then dp u + 1 else dp v, fun v hv => ?_, fun v hv q => ?_, fun v w hv q => ?_⟩, fun j hj => ?_⟩
  · rw [n0] at hv
    by_cases q : v = k
    · subst q
      have i9 : (app (fgt σ) u t g).2.1 3 9 v = 0 := In 9
      have i1 : (app (fgt σ) u t g).2.1 3 1 v = t := In 1
      have i12 : (app (fgt σ) u t g).2.1 3 12 v = 0 := In 12
      rw [i9, i1, i12]
      refine ⟨by decide, fun _ => rfl, fun j => ?_, by decide, fun z p hp => Or.inl ?_⟩
      · rw [An 30 j (Or.inl rfl), if_neg (fun z => absurd z.1 (by decide))]; decide
      · rw [An 31 p (Or.inr rfl), if_pos ⟨rfl, z⟩]
        exact if_pos hp
    · obtain ⟨c1, c2, c3, c4, c5⟩ := b1.w v (by rw [b2.1]; omega)
      have A : ∀ κ j, (app (fgt σ) u t g).2.2.2.1 κ v j = σ.2.2.2.1 κ v j := fun κ j => app_A _ _ _ _ (by rw [ek]; exact q)
      rw [I 3 9 v q (by decide) (by decide), I 3 1 v q (by decide) (by decide), I 3 12 v q (by decide) (by decide)]
      exact ⟨c1, c2, fun j => by rw [A]; exact c3 j, c4, fun z p hp => by rw [A]; exact c5 z p hp⟩
  · rw [app_L2, m1]
    have := b1.r.2.1
    rw [b2.2] at this
    exact this
  · refine (w2 v).mpr ?_
    by_cases q : v = k
    · exact Or.inr (by rw [ek]; exact q)
    · exact Or.inl (b5 v (by omega))
  · show (if v = k then dp u + 1 else dp v) ≤ 8
    split
    · omega
    · exact d1 v (by omega)
  · have := e2 v (by rw [ek]; exact hv) q
    rw [ek] at this
    exact this
  · have := e3 v w (by rw [ek]; exact hv) q
    rw [ek] at this
    exact this
  · by_cases q : j = k
    · subst q
      refine ⟨o, (app_R51 _ _ _ _ _ _).trans hR, by rw [m3]; exact ho, ?_, ?_, ?_⟩
      · rw [Ak, h0, pr, if_pos rfl]
      · rw [Ak, h1, In 1]; rfl
      · rw [Ak]; exact h2
    · obtain ⟨o2, ho2⟩ := b7 j (by omega)
      exact ⟨o2, ho2.same (by rw [m3]; exact Nat.le_refl _) (app_R51 _ _ _ _ _ _) (fun q _ => Ak o2 q) (by rw [pr, if_neg q]) (I 3 1 j q (by decide) (by decide))⟩
section BUILD
variable {N a k : Nat} {xs : Nat → Int32} {nn : Nat} {k34 : PvS → Int32 → Nat → Int32 → Option (Nat × PvS)} {Q : Nat × PvS → Prop}
theorem BI.len {σ : PvS} (b : BI N a k σ) (hN : N ≤ 15) : pvLen σ 51 a = N := by
  show (σ.2.1 51 0 a).toNatClampNeg = N
  rw [b.2.2.2.1, nI_clamp (s31 (by omega))]
theorem BI.isT {σ : PvS} (b : BI N a k σ) {j : Nat} (hj : j < k) : is01 (σ.2.1 3 1 j) := b.1.t.tx (by rw [b.2.1.1]; exact hj)
theorem below_n (σ : PvS) (x : Int32) {m : Nat} (h0 : 0 < m) (hm : m ≤ 3000) : ∃ r, f_L_below σ x (nI m) = some (nI r) ∧ r < m := by
  have tm := ti_n (n := m) (s31 hm)
  obtain ⟨r, e, q0, q1⟩ := f_below (σ := σ) (x := x) (b := nI m) (by omega)
  obtain ⟨i, rfl, hi, -⟩ := cl_n q0
  exact ⟨i, e, by omega⟩
theorem t_251 (hN : N ≤ 15) (hk : k + 1 ≤ N) (nx : ∀ τ, BI N a (k + 1) τ → tot (k34 τ (nI N) a (nI (k + 1))) Q) {σ : PvS} (b : BI N a (k + 1) σ) (tx : σ.2.1 3 1 k = 0) (m5 : Int32) : tot (f_L_build_251 k34 xs nn σ (nI N) a (nI k) m5) Q := by
  unfold f_L_build_251
  obtain ⟨r1, e1, h1⟩ := below_n σ (m5 >>> (5 &&& 31)) (m := 2) (by decide) (by decide)
  rw [ob1_t (show f_L_below σ (m5 >>> (5 &&& 31)) 2 = _ from e1), nI_1]
  refine tot_ite (fun _ => ?_) (fun _ => nx σ b)
  obtain ⟨o, ho⟩ := b.2.2.2.2.2.2 k (by omega)
  refine tot_gd (by rw [b.len hN]; exact vin_n (show k < N by omega) (s31 (by omega))) (tot_nm ?_)
  rw [show σ.2.2.1 51 (nI k).toNatClampNeg a = some o by rw [nI_clamp (s31 (by omega))]; exact ho.1, oc_st]
  obtain ⟨r2, e2, h2⟩ := below_n σ (m5 >>> (6 &&& 31)) (m := 3) (by decide) (by decide)
  rw [ob1_t (show f_L_below σ (m5 >>> (6 &&& 31)) 3 = _ from e2)]
  refine tot_gd (show vin 4 5 from by decide) (tot_nm ?_)
  have b2 : BI N a (k + 1) (pvA σ 52 o 4 (1 <<< (nI r2 &&& 31))) := b.note (Or.inr rfl)
  rw [show pvA σ 52 o ((4 : Int32).toNatClampNeg) (1 <<< (nI r2 &&& 31)) = pvA σ 52 o 4 (1 <<< (nI r2 &&& 31)) from rfl]
  have tx2 : (pvA σ 52 o 4 (1 <<< (nI r2 &&& 31))).2.1 3 1 k = 0 := tx
  generalize pvA σ 52 o 4 (1 <<< (nI r2 &&& 31)) = A at *
  obtain ⟨r3, e3, h3⟩ := below_n A (m5 >>> (6 &&& 31)) (m := 3) (by decide) (by decide)
  rw [ob1_t (show f_L_below A (m5 >>> (6 &&& 31)) 3 = _ from e3)]
  have ec : ∃ z, f_X3_hasClass (fgt A) k (nI r3) = some z := by
    unfold f_X3_hasClass
    rw [if_neg (nI_pos (s31 (by omega))), if_neg (show ¬ 7 < nI r3 from fun q => by have := ti_lt.mp q; rw [ti_n (s31 (by omega)), show (7 : Int32).toInt = 7 from rfl] at this; omega)]
    split <;> exact ⟨_, rfl⟩
  obtain ⟨z, ez⟩ := ec
  have es : f_X9_setClass A (nI k) (nI r3) 1 = some (z, pvI (fgt A) 3 11 k ((fgt A).2.1 3 11 k ||| (1 <<< (nI r3 &&& 31)))) := by
    unfold f_X9_setClass
    rw [ob1_t (f_nodeAt b2.1.t (b2.2.2.2.2.1 k (by omega))), if_pos tx2, if_neg (nI_pos (s31 (by omega))), if_pos (show nI r3 ≤ 7 from nI_le (b := 7) (by omega) (by decide)), ob1_t (f_fgt A), ob1_t ez, if_neg (by decide)]
    rfl
  rw [ob2_t es]
  exact nx _ (b2.put (Or.inr rfl))
theorem t_205 (hN : N ≤ 15) (hk : k + 1 ≤ N) (nx : ∀ τ, BI N a (k + 1) τ → tot (k34 τ (nI N) a (nI (k + 1))) Q) {σ : PvS} (b : BI N a (k + 1) σ) {t : Int32} (tx : σ.2.1 3 1 k = t) (m5 : Int32) : tot (f_L_build_205 k34 xs nn σ (nI N) a (nI k) m5 t) Q := by
  unfold f_L_build_205
  rw [nI_1]
  refine tot_ite (fun ht => ?_) (fun _ => nx σ b)
  rw [ht] at tx
  obtain ⟨r1, e1, h1⟩ := below_n σ (m5 >>> (4 &&& 31)) (m := 4) (by decide) (by decide)
  rw [ob1_t (show f_L_below σ (m5 >>> (4 &&& 31)) 4 = _ from e1)]
  refine tot_ite (fun _ => ?_) (fun _ => t_251 hN hk nx b tx m5)
  obtain ⟨o, ho⟩ := b.2.2.2.2.2.2 k (by omega)
  refine tot_gd (by rw [b.len hN]; exact vin_n (show k < N by omega) (s31 (by omega))) (tot_nm ?_)
  rw [show σ.2.2.1 51 (nI k).toNatClampNeg a = some o by rw [nI_clamp (s31 (by omega))]; exact ho.1, oc_st]
  obtain ⟨r2, e2, h2⟩ := below_n σ m5 (m := 3) (by decide) (by decide)
  rw [ob1_t (show f_L_below σ m5 3 = _ from e2)]
  refine tot_gd (show vin 3 5 from by decide) (tot_nm ?_)
  rw [show pvA σ 52 o ((3 : Int32).toNatClampNeg) (1 + nI r2) = pvA σ 52 o 3 (1 + nI r2) from rfl]
  have b2 : BI N a (k + 1) (pvA σ 52 o 3 (1 + nI r2)) := b.note (Or.inl rfl)
  have tx2 : (pvA σ 52 o 3 (1 + nI r2)).2.1 3 1 k = 0 := tx
  have hR : (pvA σ 52 o 3 (1 + nI r2)).2.2.1 51 k a = some o := ho.1
  have h3 : (pvA σ 52 o 3 (1 + nI r2)).2.2.2.1 52 o 3 = nI (r2 + 1) := by rw [pvA_self, Int32.add_comm, nI_1]
  generalize pvA σ 52 o 3 (1 + nI r2) = A at *
  refine tot_gd (by rw [b2.len hN]; exact vin_n (show k < N by omega) (s31 (by omega))) (tot_nm ?_)
  rw [show A.2.2.1 51 (nI k).toNatClampNeg a = some o by rw [nI_clamp (s31 (by omega))]; exact hR, oc_st]
  refine tot_gd (show vin 3 5 from by decide) ?_
  have es : f_X9_setName A (nI k) (nI (r2 + 1)) = some ((fgt A).2.1 3 10 k, pvI (fgt A) 3 10 k (nI (r2 + 1))) := by
    unfold f_X9_setName
    rw [ob1_t (f_nodeAt b2.1.t (b2.2.2.2.2.1 k (by omega))), if_pos tx2, if_neg (nI_pos (s31 (by omega))), if_pos (show nI (r2 + 1) ≤ 99 from nI_le (b := 99) (by omega) (by decide)), ob1_t (f_fgt A)]
    rfl
  rw [show A.2.2.2.1 52 o ((3 : Int32).toNatClampNeg) = nI (r2 + 1) from h3, ob2_t es]
  refine t_251 hN hk nx (b2.put (Or.inl rfl)) ?_ m5
  rw [pvI_at, if_neg (by omega)]
  exact (fgt_I A (κ := 3) (by decide) (by decide)).trans tx2
end BUILD
