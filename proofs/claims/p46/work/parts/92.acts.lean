/-! PURE: what the second loop does to a document -/
def LI (N i p : Nat) (σ : PvS) : Prop := WF σ ∧ (σ.1 0 = N ∧ σ.1 1 ≤ i) ∧ (σ.2.1 6 2 0 = 0 ∧ σ.2.1 4 3 0 = 0 ∧ σ.2.1 9 5 0 = 400) ∧ σ.2.1 51 0 0 = nI N ∧ (∀ v, v < N → alive σ v) ∧ (∀ j, j < N → ∃ o, row3 σ 0 j o) ∧ (∀ r, r < σ.1 1 → σ.2.1 5 9 r = 1) ∧ ∀ j, j < 12 → ∃ q, q < 13 ∧ σ.2.2.2.1 53 p j = nI q
theorem LI.upd {N i i' p : Nat} {σ τ : PvS} (b : LI N i p σ) (wf : WF τ) (c0 : τ.1 0 = σ.1 0) (c3 : σ.1 3 ≤ τ.1 3) (c1 : τ.1 1 ≤ i') (k6 : τ.2.1 6 2 0 = 0) (k4 : τ.2.1 4 3 0 = 0) (k9 : τ.2.1 9 5 0 = σ.2.1 9 5 0) (k51 : τ.2.1 51 0 0 = σ.2.1 51 0 0) (hL : τ.2.2.2.2 1 = σ.2.2.2.2 1) (h3 : par τ = par σ) (hR : ∀ j, τ.2.2.1 51 j 0 = σ.2.2.1 51 j 0) (hA : ∀ o q, τ.2.2.2.1 52 o q = σ.2.2.2.1 52 o q) (hP : ∀ q, τ.2.2.2.1 53 p q = σ.2.2.2.1 53 p q) (h31 : ∀ j, j < N → τ.2.1 3 1 j = σ.2.1 3 1 j) (hon : ∀ r, r < τ.1 1 → τ.2.1 5 9 r = 1) : LI N i' p τ := by
  obtain ⟨b1, b2, b3, b4, b5, b6, b7, b8⟩ := b
  refine ⟨wf, ⟨c0.trans b2.1, c1⟩, ⟨k6, k4, k9.trans b3.2.2⟩, k51.trans b4, fun v hv => by show v ∈ τ.2.2.2.2 1; rw [hL]; exact b5 v hv, fun j hj => ?_, hon, fun j hj => ?_⟩
  · obtain ⟨o, ho⟩ := b6 j hj
    exact ⟨o, ho.same c3 (hR j) (fun q _ => hA o q) (by rw [h3]) (h31 j hj)⟩
  · rw [hP]; exact b8 j hj
theorem LI.len {N i p : Nat} {σ : PvS} (b : LI N i p σ) (hN : N ≤ 15) : pvLen σ 51 0 = N := by
  show (σ.2.1 51 0 0).toNatClampNeg = N
  rw [b.2.2.2.1, nI_clamp (s31 (by omega))]
/-- arrays of the law's own -/
theorem LI.own {N i p : Nat} {σ τ : PvS} (b : LI N i p σ) (f : frB σ τ) (c3 : σ.1 3 ≤ τ.1 3) (k51 : τ.2.1 51 0 0 = σ.2.1 51 0 0) (hR : ∀ j, τ.2.2.1 51 j 0 = σ.2.2.1 51 j 0) (hA : ∀ o q, τ.2.2.2.1 52 o q = σ.2.2.2.1 52 o q) (hP : ∀ q, τ.2.2.2.1 53 p q = σ.2.2.2.1 53 p q) : LI N i p τ :=
  b.upd (f.WF b.1) f.1.1 c3 (by rw [f.1.2]; exact b.2.1.2) ((f.2.1 6 2 0 (by decide)).trans b.2.2.1.1) ((f.2.1 4 3 0 (by decide)).trans b.2.2.1.2.1) (f.2.1 9 5 0 (by decide)) k51 (by rw [f.2.2.2.2]) f.par hR hA hP (fun j _ => f.2.1 3 1 j (by decide)) (fun r hr => by rw [f.2.1 5 9 r (by decide)]; exact b.2.2.2.2.2.2.1 r (by rw [← f.1.2]; exact hr))
/-- a value of the node itself -/
theorem LI.decl {N i p : Nat} {σ : PvS} (b : LI N i p σ) {j q : Nat} {v : Int32} (hv : srg q v) : LI N i p (pvA (fgt σ) 31 j q v) := by
  have I : ∀ κ y i, κ ≠ 4 → κ ≠ 6 → (pvA (fgt σ) 31 j q v).2.1 κ y i = σ.2.1 κ y i := fun κ y i h4 h6 => fgt_I σ h4 h6
  have A : ∀ κ x y, κ ≠ 31 → (pvA (fgt σ) 31 j q v).2.2.2.1 κ x y = σ.2.2.2.1 κ x y := fun κ x y h => by rw [pvA_at, if_neg (fun e => h e.1)]; rfl
  refine b.upd ⟨b.1.t.congr rfl rfl rfl (fun i => I 3 0 i (by decide) (by decide)) (fun i => I 3 1 i (by decide) (by decide)) (fun i => I 3 13 i (by decide) (by decide)), fun u hu => ?_, b.1.r.congr rfl rfl (fun k i => I 5 k i (by decide) (by decide))⟩ rfl (Nat.le_refl _) b.2.1.2 (fgt_64 σ).1 (fgt_64 σ).2 (I 9 5 0 (by decide) (by decide)) (I 51 0 0 (by decide) (by decide)) rfl rfl (fun _ => rfl) (fun o q => A 52 o q (by decide)) (fun q => A 53 p q (by decide)) (fun j _ => I 3 1 j (by decide) (by decide)) (fun r hr => (I 5 9 r (by decide) (by decide)).trans (b.2.2.2.2.2.2.1 r hr))
  obtain ⟨c1, c2, c3, c4, c5⟩ := b.1.w u hu
  rw [I 3 9 u (by decide) (by decide), I 3 1 u (by decide) (by decide), I 3 12 u (by decide) (by decide)]
  refine ⟨c1, c2, fun y => by rw [A 30 u y (by decide)]; exact c3 y, c4, fun z p2 hp => ?_⟩
  rw [pvA_at]
  split
  · rename_i e; rw [e.2.2]; exact Or.inr hv
  · exact c5 z p2 hp
/-- how far it is scrolled -/
theorem LI.scr {N i p : Nat} {σ : PvS} (b : LI N i p σ) {j : Nat} {v : Int32} (hv : 0 ≤ v.toInt ∧ v.toInt ≤ 5000) : LI N i p (pvI (fgt σ) 3 12 j v) := by
  have I : ∀ κ q i, κ ≠ 4 → κ ≠ 6 → ¬ (κ = 3 ∧ q = 12) → (pvI (fgt σ) 3 12 j v).2.1 κ q i = σ.2.1 κ q i := fun κ q i h4 h6 h3 => by rw [pvI_at, if_neg (fun e => h3 ⟨e.1, e.2.1⟩)]; exact fgt_I σ h4 h6
  refine b.upd ⟨b.1.t.congr rfl rfl rfl (fun i => I 3 0 i (by decide) (by decide) (by omega)) (fun i => I 3 1 i (by decide) (by decide) (by omega)) (fun i => I 3 13 i (by decide) (by decide) (by omega)), fun u hu => ?_, b.1.r.congr rfl rfl (fun k i => I 5 k i (by decide) (by decide) (by omega))⟩ rfl (Nat.le_refl _) b.2.1.2 ?_ ?_ (I 9 5 0 (by decide) (by decide) (by omega)) (I 51 0 0 (by decide) (by decide) (by omega)) rfl rfl (fun _ => rfl) (fun o q => rfl) (fun q => rfl) (fun j _ => I 3 1 j (by decide) (by decide) (by omega)) (fun r hr => (I 5 9 r (by decide) (by decide) (by omega)).trans (b.2.2.2.2.2.2.1 r hr))
  · obtain ⟨c1, c2, c3, c4, c5⟩ := b.1.w u hu
    rw [I 3 9 u (by decide) (by decide) (by omega), I 3 1 u (by decide) (by decide) (by omega)]
    refine ⟨c1, c2, c3, ?_, c5⟩
    rw [pvI_at]
    split
    · exact hv
    · rw [fgt_I σ (by decide) (by decide)]; exact c4
  · rw [pvI_at, if_neg (by omega)]; exact (fgt_64 σ).1
  · rw [pvI_at, if_neg (by omega)]; exact (fgt_64 σ).2
/-- a word -/
theorem LI.word {N i p : Nat} {σ : PvS} (b : LI N i p σ) {j w : Nat} {x : Int32} (ht : σ.2.1 3 1 j ≠ 0) (hw : w < 20) (hx : 0 ≤ x.toInt ∧ x.toInt ≤ 12) : LI N i p (pvI (pvA (fgt σ) 30 j w x) 3 9 j (nI (w + 1))) := by
  have I : ∀ κ q i, κ ≠ 4 → κ ≠ 6 → ¬ (κ = 3 ∧ q = 9) → (pvI (pvA (fgt σ) 30 j w x) 3 9 j (nI (w + 1))).2.1 κ q i = σ.2.1 κ q i := fun κ q i h4 h6 h3 => by rw [pvI_at, if_neg (fun e => h3 ⟨e.1, e.2.1⟩)]; exact fgt_I σ h4 h6
  have A : ∀ κ y z, κ ≠ 30 → (pvI (pvA (fgt σ) 30 j w x) 3 9 j (nI (w + 1))).2.2.2.1 κ y z = σ.2.2.2.1 κ y z := fun κ y z h => by
    show (pvA (fgt σ) 30 j w x).2.2.2.1 κ y z = _
    rw [pvA_at, if_neg (fun e => h e.1)]; rfl
  refine b.upd ⟨b.1.t.congr rfl rfl rfl (fun i => I 3 0 i (by decide) (by decide) (by omega)) (fun i => I 3 1 i (by decide) (by decide) (by omega)) (fun i => I 3 13 i (by decide) (by decide) (by omega)), fun u hu => ?_, b.1.r.congr rfl rfl (fun k i => I 5 k i (by decide) (by decide) (by omega))⟩ rfl (Nat.le_refl _) b.2.1.2 ?_ ?_ (I 9 5 0 (by decide) (by decide) (by omega)) (I 51 0 0 (by decide) (by decide) (by omega)) rfl rfl (fun _ => rfl) (fun o q => A 52 o q (by decide)) (fun q => A 53 p q (by decide)) (fun j _ => I 3 1 j (by decide) (by decide) (by omega)) (fun r hr => (I 5 9 r (by decide) (by decide) (by omega)).trans (b.2.2.2.2.2.2.1 r hr))
  · obtain ⟨c1, c2, c3, c4, c5⟩ := b.1.w u hu
    rw [I 3 1 u (by decide) (by decide) (by omega), I 3 12 u (by decide) (by decide) (by omega)]
    refine ⟨?_, ?_, fun y => ?_, c4, fun z p2 hp => by rw [A 31 u p2 (by decide)]; exact c5 z p2 hp⟩
    · rw [pvI_at]
      split
      · rw [ti_n (s31 (by omega))]; omega
      · show 0 ≤ ((fgt σ).2.1 3 9 u).toInt ∧ ((fgt σ).2.1 3 9 u).toInt ≤ 20
        rw [fgt_I σ (by decide) (by decide)]; exact c1
    · intro z
      rw [pvI_at, if_neg (fun e => ht (by rw [e.2.2] at z; exact z))]
      show (fgt σ).2.1 3 9 u = 0
      rw [fgt_I σ (by decide) (by decide)]; exact c2 z
    · show 0 ≤ ((pvA (fgt σ) 30 j w x).2.2.2.1 30 u y).toInt ∧ ((pvA (fgt σ) 30 j w x).2.2.2.1 30 u y).toInt ≤ 12
      rw [pvA_at]
      split
      · exact hx
      · exact c3 y
  · rw [pvI_at, if_neg (by omega)]; exact (fgt_64 σ).1
  · rw [pvI_at, if_neg (by omega)]; exact (fgt_64 σ).2
