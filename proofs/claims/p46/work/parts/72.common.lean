/-! PURE: what holds while boxes are filled -/
theorem hlf_fz {σ τ : PvS} (f : fz σ τ) : ∀ k n, hlf τ k n = hlf σ k n := by
  intro k
  induction k with
  | zero => intro n; rfl
  | succ k ih =>
    intro n
    show (match hmo τ n with | none => 0 | some b => hlf τ k b + 1) = (match hmo σ n with | none => 0 | some b => hlf σ k b + 1)
    rw [f.2.2.2 n]
    cases hmo σ n with
    | none => rfl
    | some b => show hlf τ k b + 1 = hlf σ k b + 1; rw [ih]
def VH (σ : PvS) (n : Nat) : Prop := (0 ≤ (σ.2.1 2 9 n).toInt ∧ (σ.2.1 2 9 n).toInt ≤ 200000) ∧ (0 ≤ (σ.2.1 2 8 n).toInt ∧ (σ.2.1 2 8 n).toInt ≤ 200000) ∧ (sty σ n 2 = -1 → (σ.2.1 2 9 n).toInt ≤ (σ.2.1 2 8 n).toInt)
theorem VH.same {σ τ : PvS} {n : Nat} (h : VH σ n) (f : fz σ τ) (e9 : τ.2.1 2 9 n = σ.2.1 2 9 n) (e8 : τ.2.1 2 8 n = σ.2.1 2 8 n) : VH τ n := by
  unfold VH
  rw [e9, e8, fz_sty f]
  exact h
def VD (H : Nat → Nat) (σ : PvS) (Y : Int) : Prop := VF σ Y ∧ GW σ ∧ (0 ≤ (σ.2.1 4 4 0).toInt ∧ (σ.2.1 4 4 0).toInt ≤ Y) ∧ (0 ≤ (σ.2.1 4 5 0).toInt ∧ (σ.2.1 4 5 0).toInt ≤ Y) ∧ (∀ n, alive σ n → (-(200 * (H n : Int)) ≤ (σ.2.1 2 5 n).toInt ∧ (σ.2.1 2 5 n).toInt ≤ 2100 * ((H n : Int) + 1)) ∧ (0 ≤ (σ.2.1 2 7 n).toInt ∧ (σ.2.1 2 7 n).toInt ≤ 2000)) ∧ ∀ n, alive σ n → VH σ n
def CM (O : List Nat) (p : Nat → Option Nat) (H : Nat → Nat) (σ σ' : PvS) (Y : Int) (l : List (Nat × Nat)) : Prop :=
  ST σ ∧ ST σ' ∧ AGp σ σ' ∧ (σ.2.2.2.2 1 = O ∧ (∀ i, hmo σ i = p i) ∧ ∀ n, hl σ n = H n) ∧ FLa σ σ' ∧ VD H σ Y ∧ VW σ l ∧ WTa σ σ' l.length ∧ σ'.2.1 4 4 0 = σ.2.1 4 4 0 ∧ σ'.2.1 4 5 0 = σ.2.1 4 5 0
/-- the box that is being filled -/
def BA (σ σ' : PvS) (u : Nat) : Prop := σ'.2.1 1 0 u = σ.2.1 1 0 u ∧ σ'.2.1 1 1 u = σ.2.1 1 1 u ∧ σ'.2.1 1 2 u = σ.2.1 1 2 u ∧ σ'.2.1 2 5 u = σ.2.1 2 5 u ∧ σ'.2.1 2 6 u = σ.2.1 2 6 u ∧ σ'.2.1 2 7 u = σ.2.1 2 7 u ∧ σ'.2.1 2 10 u = σ.2.1 2 10 u
theorem BA.mn {σ σ' τ τ' : PvS} {u : Nat} (h : BA σ σ' u) (m : mn σ σ' τ τ') : BA τ τ' u :=
  ⟨m.1 _ _ _ h.1, m.1 _ _ _ h.2.1, m.1 _ _ _ h.2.2.1, m.1 _ _ _ h.2.2.2.1, m.1 _ _ _ h.2.2.2.2.1, m.1 _ _ _ h.2.2.2.2.2.1, m.1 _ _ _ h.2.2.2.2.2.2⟩
def BV (σ : PvS) (u : Nat) (Y : Int) : Prop := (0 ≤ (σ.2.1 2 6 u).toInt ∧ (σ.2.1 2 6 u).toInt ≤ (σ.2.1 1 1 u).toInt ∧ (σ.2.1 1 1 u).toInt ≤ Y) ∧ (0 ≤ (σ.2.1 1 2 u).toInt ∧ (σ.2.1 1 2 u).toInt ≤ 11)
/-- what filling a box may change -/
def exF (H : Nat → Nat) (u κ q i : Nat) : Prop := κ = 0 ∨ κ = 4 ∨ κ = 8 ∨ (κ = 1 ∧ q ≠ 3 ∧ (H u < H i ∨ (i = u ∧ q ≠ 0))) ∨ (κ = 2 ∧ (H u < H i ∨ (i = u ∧ (q = 8 ∨ q = 9 ∨ q = 10))))
def frF (H : Nat → Nat) (u : Nat) (σ τ : PvS) : Prop := (∀ κ q i, ¬ exF H u κ q i → τ.2.1 κ q i = σ.2.1 κ q i) ∧ fz σ τ
theorem frF.refl {H : Nat → Nat} {u : Nat} {σ : PvS} : frF H u σ σ := ⟨fun _ _ _ _ => rfl, fz.refl⟩
theorem frF.trans {H : Nat → Nat} {u : Nat} {σ τ ρ : PvS} (h : frF H u σ τ) (g : frF H u τ ρ) : frF H u σ ρ := ⟨fun κ q i z => (g.1 κ q i z).trans (h.1 κ q i z), h.2.trans g.2⟩
theorem frF_I {H : Nat → Nat} {u : Nat} {σ : PvS} {κ q i : Nat} {v : Int32} (h : exF H u κ q i) (hk : κ = 1 ∨ (κ = 2 ∧ 5 ≤ q)) : frF H u σ (pvI σ κ q i v) :=
  ⟨fun κ2 q2 i2 z => by rw [pvI_at, if_neg (fun e => z (by rw [e.1, e.2.1, e.2.2]; exact h))], fz_I (by rcases hk with q | q <;> (first | (rw [q]; rfl) | (rw [q.1]; rfl))) (fun e => by omega)⟩
theorem frF_L {H : Nat → Nat} {u : Nat} {σ τ : PvS} (f : frL u σ τ) : frF H u σ τ := ⟨fun κ q i z => f.1 κ q i (fun e => z (by unfold exL at e; unfold exF; omega)), f.2.2.2⟩
theorem frF_sub {H : Nat → Nat} {u c : Nat} {σ τ : PvS} (hc : H u < H c) (f : frF H c σ τ) : frF H u σ τ := by
  refine ⟨fun κ q i z => f.1 κ q i (fun e => z ?_), f.2⟩
  unfold exF at e ⊢
  rcases e with e | e | e | ⟨e1, e2, e3⟩ | ⟨e1, e3⟩
  · exact Or.inl e
  · exact Or.inr (Or.inl e)
  · exact Or.inr (Or.inr (Or.inl e))
  · refine Or.inr (Or.inr (Or.inr (Or.inl ⟨e1, e2, Or.inl ?_⟩)))
    rcases e3 with w | w
    · omega
    · rw [w.1]; exact hc
  · refine Or.inr (Or.inr (Or.inr (Or.inr ⟨e1, Or.inl ?_⟩)))
    rcases e3 with w | w
    · omega
    · rw [w.1]; exact hc
theorem VD.fz {H : Nat → Nat} {σ τ : PvS} {Y : Int} (v : VD H σ Y) (f : fz σ τ) (h0 : ∀ i, τ.2.1 0 6 i = σ.2.1 0 6 i) (h4 : ∀ q i, τ.2.1 4 q i = σ.2.1 4 q i) (hA : τ.2.2.2.1 = σ.2.2.2.1) (hx : ∀ n, alive σ n → (-(200 * (H n : Int)) ≤ (τ.2.1 2 5 n).toInt ∧ (τ.2.1 2 5 n).toInt ≤ 2100 * ((H n : Int) + 1)) ∧ (0 ≤ (τ.2.1 2 7 n).toInt ∧ (τ.2.1 2 7 n).toInt ≤ 2000)) (hv : ∀ n, alive σ n → VH τ n) : VD H τ Y := by
  refine ⟨?_, fun n j => by rw [hA]; exact v.2.1 n j, by rw [h4]; exact v.2.2.1, by rw [h4]; exact v.2.2.2.1, fun n a => hx n ((fz_alive f).mp a), fun n a => hv n ((fz_alive f).mp a)⟩
  unfold VF
  rw [h0, hA]
  exact v.1
theorem VD.mono {H : Nat → Nat} {σ : PvS} {Y Y2 : Int} (v : VD H σ Y) (h : Y ≤ Y2) : VD H σ Y2 := ⟨v.1.mono h, v.2.1, by have := v.2.2.1; omega, by have := v.2.2.2.1; omega, v.2.2.2.2⟩
section COMMON
variable {O : List Nat} {p : Nat → Option Nat} {H : Nat → Nat} {σ σ' : PvS} {Y : Int} {l : List (Nat × Nat)}
theorem CM.mono {Y2 : Int} (c : CM O p H σ σ' Y l) (h : Y ≤ Y2) : CM O p H σ σ' Y2 l := ⟨c.1, c.2.1, c.2.2.1, c.2.2.2.1, c.2.2.2.2.1, c.2.2.2.2.2.1.mono h, c.2.2.2.2.2.2⟩
theorem CM.stf {τ τ' : PvS} (c : CM O p H σ σ' Y l) (f : fz σ τ) (f' : fz σ' τ') : ST τ ∧ ST τ' ∧ AGp τ τ' ∧ (τ.2.2.2.2 1 = O ∧ (∀ i, hmo τ i = p i) ∧ ∀ n, hl τ n = H n) :=
  ⟨c.1.fz f, c.2.1.fz f', c.2.2.1.fz f f', by rw [dc_L f.1]; exact c.2.2.2.1.1, fun i => (f.2.2.2 i).trans (c.2.2.2.1.2.1 i), fun n => (hlf_fz f 11 n).trans (c.2.2.2.1.2.2 n)⟩
/-- a change that leaves floats, waiting words and counts -/
theorem CM.chg {τ τ' : PvS} {Y2 : Int} (c : CM O p H σ σ' Y l) (f : fz σ τ) (f' : fz σ' τ') (i : ∀ κ q j, κ ≠ 1 → κ ≠ 2 → τ.2.1 κ q j = σ.2.1 κ q j) (i' : ∀ κ q j, κ ≠ 1 → κ ≠ 2 → τ'.2.1 κ q j = σ'.2.1 κ q j) (r : τ.2.2.1 = σ.2.2.1) (r' : τ'.2.2.1 = σ'.2.2.1) (A : τ.2.2.2.1 = σ.2.2.2.1) (A' : τ'.2.2.2.1 = σ'.2.2.2.1) (v : VD H τ Y2) : CM O p H τ τ' Y2 l := by
  obtain ⟨c1, c2, c3, c4, c5, c6, c7, c8, c9, c10⟩ := c
  obtain ⟨d1, d2, d3, d4⟩ := CM.stf ⟨c1, c2, c3, c4, c5, c6, c7, c8, c9, c10⟩ f f'
  refine ⟨d1, d2, d3, d4, ?_, v, ?_, ?_, ?_, ?_⟩
  · unfold FLa; rw [i 0 6 0 (by decide) (by decide), i' 0 6 0 (by decide) (by decide), A, A']; exact c5
  · unfold VW; rw [i 8 4 0 (by decide) (by decide), r, A]
    refine ⟨c7.1, c7.2.1, fun j q hq => ?_⟩
    rw [i 3 1 q.1 (by decide) (by decide)]
    exact c7.2.2 j q hq
  · unfold WTa; rw [i 8 4 0 (by decide) (by decide), i' 8 4 0 (by decide) (by decide), r, r', A, A']; exact c8
  · rw [i 4 4 0 (by decide) (by decide), i' 4 4 0 (by decide) (by decide)]; exact c9
  · rw [i 4 5 0 (by decide) (by decide), i' 4 5 0 (by decide) (by decide)]; exact c10
theorem CM.I {κ q i : Nat} {v v' : Int32} (c : CM O p H σ σ' Y l) (hk : κ = 1 ∨ (κ = 2 ∧ 5 ≤ q ∧ q ≠ 8 ∧ q ≠ 9)) (hx : κ = 2 → q = 5 → -(200 * (H i : Int)) ≤ v.toInt ∧ v.toInt ≤ 2100 * ((H i : Int) + 1)) (hw : κ = 2 → q = 7 → 0 ≤ v.toInt ∧ v.toInt ≤ 2000) : CM O p H (pvI σ κ q i v) (pvI σ' κ q i v') Y l := by
  have fI : ∀ ρ : PvS, ∀ w, fz ρ (pvI ρ κ q i w) := fun ρ w => fz_I (by rcases hk with q | q <;> (first | (rw [q]; rfl) | (rw [q.1]; rfl))) (fun e => by omega)
  refine c.chg (fI _ _) (fI _ _) (fun κ2 q2 j z1 z2 => by rw [pvI_at, if_neg (by omega)]) (fun κ2 q2 j z1 z2 => by rw [pvI_at, if_neg (by omega)]) rfl rfl rfl rfl ?_
  refine c.2.2.2.2.2.1.fz (fI _ _) (fun j => by rw [pvI_at, if_neg (by omega)]) (fun q2 j => by rw [pvI_at, if_neg (by omega)]) rfl (fun n a => ⟨?_, ?_⟩) (fun n a => (c.2.2.2.2.2.1.2.2.2.2.2 n a).same (fI _ _) (by rw [pvI_at, if_neg (by omega)]) (by rw [pvI_at, if_neg (by omega)]))
  · rw [pvI_at]
    split
    · rename_i e; obtain ⟨e1, e2, e3⟩ := e; rw [e3]; exact hx e1.symm e2.symm
    · exact (c.2.2.2.2.2.1.2.2.2.2.1 n a).1
  · rw [pvI_at]
    split
    · rename_i e; exact hw e.1.symm e.2.1.symm
    · exact (c.2.2.2.2.2.1.2.2.2.2.1 n a).2
end COMMON
/-- homes of homes -/
def itp (p : Nat → Option Nat) : Nat → Nat → Option Nat
  | 0, n => p n
  | k + 1, n => match p n with
    | none => none
    | some b => itp p k b
theorem itp_top {p : Nat → Option Nat} : ∀ {k n u : Nat}, itp p (k + 1) n = some u → ∃ c, p c = some u ∧ itp p k n = some c := by
  intro k
  induction k with
  | zero =>
    intro n u h
    cases e : p n with
    | none => unfold itp at h; rw [e] at h; cases h
    | some b => unfold itp at h; rw [e] at h; exact ⟨b, h, e⟩
  | succ k ih =>
    intro n u h
    cases e : p n with
    | none => unfold itp at h; rw [e] at h; cases h
    | some b =>
      unfold itp at h; rw [e] at h
      obtain ⟨c, c1, c2⟩ := ih (n := b) (u := u) h
      refine ⟨c, c1, ?_⟩
      show (match p n with | none => none | some b => itp p k b) = some c
      rw [e]; exact c2
/-- a node of which all is the same in both runs -/
def gdn (σ σ' : PvS) (n : Nat) : Prop := (isbx (σ.2.1 2 0 n) → ∀ q, 5 ≤ q → q ≤ 10 → σ'.2.1 2 q n = σ.2.1 2 q n) ∧ (σ.2.1 2 0 n = 1 → ∀ j, j < (σ.2.1 3 9 n).toInt.toNat → σ'.2.2.2.1 32 n j = σ.2.2.2.1 32 n j ∧ σ'.2.2.2.1 33 n j = σ.2.2.2.1 33 n j)
theorem gdn.mn {σ σ' τ τ' : PvS} {n : Nat} (h : gdn σ σ' n) (f : fz σ τ) (m : mn σ σ' τ τ') : gdn τ τ' n := by
  refine ⟨fun hb q h5 h10 => m.1 _ _ _ (h.1 (by rw [← f.2.2.1 0 n (Or.inl rfl)]; exact hb) q h5 h10), fun ht j hj => ?_⟩
  rw [f.2.2.1 0 n (Or.inl rfl)] at ht
  rw [dc_I f.1 rfl] at hj
  have := h.2 ht j hj
  exact ⟨m.2.2 _ _ _ this.1, m.2.2 _ _ _ this.2⟩
/-- wishes are the same -/
def wsh (σ σ' : PvS) : Prop := ∀ n, alive σ n → isbx (σ.2.1 2 0 n) → σ'.2.1 1 3 n = σ.2.1 1 3 n
theorem wsh.mn {σ σ' τ τ' : PvS} (h : wsh σ σ') (f : fz σ τ) (m : mn σ σ' τ τ') : wsh τ τ' :=
  fun n a b => m.1 1 3 n (h n ((fz_alive f).mp a) (by rw [← f.2.2.1 0 n (Or.inl rfl)]; exact b))
