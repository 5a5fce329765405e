/-! PURE: lines, in two runs -/
/-- where words are -/
def GW (σ : PvS) : Prop := ∀ n j, -2600 ≤ (σ.2.2.2.1 32 n j).toInt ∧ (σ.2.2.2.1 32 n j).toInt ≤ 1000000
/-- only places of words -/
def frT (σ τ : PvS) : Prop := τ.1 = σ.1 ∧ τ.2.1 = σ.2.1 ∧ τ.2.2.1 = σ.2.2.1 ∧ (∀ κ i j, κ ≠ 32 → κ ≠ 33 → τ.2.2.2.1 κ i j = σ.2.2.2.1 κ i j) ∧ τ.2.2.2.2 = σ.2.2.2.2
theorem frT.refl {σ : PvS} : frT σ σ := ⟨rfl, rfl, rfl, fun _ _ _ _ _ => rfl, rfl⟩
theorem frT.trans {σ τ ρ : PvS} (h : frT σ τ) (g : frT τ ρ) : frT σ ρ := ⟨g.1.trans h.1, g.2.1.trans h.2.1, g.2.2.1.trans h.2.2.1, fun κ i j z w => (g.2.2.2.1 κ i j z w).trans (h.2.2.2.1 κ i j z w), g.2.2.2.2.trans h.2.2.2.2⟩
theorem frT.fz {σ τ : PvS} (h : frT σ τ) : fz σ τ :=
  ⟨dc_eq h.1 (fun κ q i _ => by rw [h.2.1]) (fun _ _ => by rw [h.2.2.1]) (fun κ i j e => h.2.2.2.1 κ i j (fun z => by rw [z] at e; cases e) (fun z => by rw [z] at e; cases e)) h.2.2.2.2, fun i j => ⟨h.2.2.2.1 36 i j (by decide) (by decide), h.2.2.2.1 37 i j (by decide) (by decide), by rw [h.2.1], by rw [h.2.1]⟩, fun q i _ => by rw [h.2.1], fun i => by show τ.2.2.1 2 1 i = σ.2.2.1 2 1 i; rw [h.2.2.1]⟩
theorem frT_word (σ : PvS) (t k : Nat) (x y : Int32) : frT σ (pvA (pvA σ 32 t k x) 33 t k y) :=
  ⟨rfl, rfl, rfl, fun κ i j z w => by rw [pvA_at, if_neg (fun e => w e.1), pvA_at, if_neg (fun e => z e.1)], rfl⟩
theorem VW.frT {σ τ : PvS} {l : List (Nat × Nat)} (v : VW σ l) (f : frT σ τ) : VW τ l := by
  unfold VW
  rw [f.2.1, f.2.2.1]
  refine ⟨v.1, v.2.1, fun j p hp => ?_⟩
  rw [f.2.2.2.1 27 0 j (by decide) (by decide), f.2.2.2.1 28 0 j (by decide) (by decide), f.2.2.2.1 29 0 j (by decide) (by decide)]
  exact v.2.2 j p hp
theorem WTa.frT {σ σ' τ τ' : PvS} {w : Nat} (g : WTa σ σ' w) (f : frT σ τ) (f' : frT σ' τ') : WTa τ τ' w := by
  refine ⟨by rw [f.2.1, f'.2.1]; exact g.1, fun j hj => ⟨fun κ hκ => ?_, by rw [f.2.2.1, f'.2.2.1]; exact (g.2 j hj).2⟩⟩
  rw [f.2.2.2.1 κ 0 j (by omega) (by omega), f'.2.2.2.1 κ 0 j (by omega) (by omega)]
  exact (g.2 j hj).1 κ hκ
theorem f_setWord {σ : PvS} {t k : Nat} {x y : Int32} (ht : σ.2.1 3 1 t ≠ 0) (hk : k < 20) : f_X2_setWord σ t (nI k) x y = some (pvA (pvA σ 32 t k x) 33 t k y) := by
  unfold f_X2_setWord
  have v20 := vin_n hk (show 20 < 2 ^ 31 by decide)
  have p33 : ∀ z, pvLen (pvA σ 32 t k z) 33 t = 20 := fun z => by rw [pvLen_33]; exact if_neg ht
  simp only [nI_clamp (s31 (show k ≤ 3000 by omega)), nm_t]
  rw [if_neg (nI_pos (s31 (by omega))), pvLen_32, if_neg ht, if_neg (nI_ge hk (by decide)), pvLen_33, if_neg ht, if_neg (nI_ge hk (by decide)), gd_t v20, p33, gd_t v20]
theorem r_setLine {σ σ' : PvS} {l : List (Nat × Nat)} (v : VW σ l) (g : WTa σ σ' l.length) (et : dc σ' = dc σ) (gw : GW σ) {i0 k : Nat} (h0 : i0 ≤ k) (hk : k ≤ l.length) (x y : Int32) (hx : -2600 ≤ x.toInt ∧ x.toInt ≤ 100000) : rel (f_X8_setLine σ (nI i0) (nI k) x y) (f_X8_setLine σ' (nI i0) (nI k) x y) (fun τ τ' => frT σ τ ∧ frT σ' τ' ∧ mn σ σ' τ τ' ∧ GW τ ∧ ∀ j p, i0 ≤ j → j < k → l[j]? = some p → τ'.2.2.2.1 32 p.1 p.2 = τ.2.2.2.1 32 p.1 p.2 ∧ τ'.2.2.2.1 33 p.1 p.2 = τ.2.2.2.1 33 p.1 p.2) := by
  have hl := v.2.1
  have key : ∀ (d i m : Nat) (ρ ρ' : PvS) (x : Int32), i + d = k → d < m → frT σ ρ → frT σ' ρ' → mn σ σ' ρ ρ' → GW ρ → i0 ≤ i → (-2600 ≤ x.toInt ∧ x.toInt ≤ 100000 + 160 * ((i : Int) - i0)) → (∀ j p, i0 ≤ j → j < i → l[j]? = some p → ρ'.2.2.2.1 32 p.1 p.2 = ρ.2.2.2.1 32 p.1 p.2 ∧ ρ'.2.2.2.1 33 p.1 p.2 = ρ.2.2.2.1 33 p.1 p.2) → rel (f_X8_setLine_10 m ρ (nI k) y x (nI i)) (f_X8_setLine_10 m ρ' (nI k) y x (nI i)) (fun τ τ' => frT σ τ ∧ frT σ' τ' ∧ mn σ σ' τ τ' ∧ GW τ ∧ ∀ j p, i0 ≤ j → j < k → l[j]? = some p → τ'.2.2.2.1 32 p.1 p.2 = τ.2.2.2.1 32 p.1 p.2 ∧ τ'.2.2.2.1 33 p.1 p.2 = τ.2.2.2.1 33 p.1 p.2) := by
    intro d
    induction d with
    | zero =>
      intro i m ρ ρ' x hi hm f f' mm gw h0 hx hg
      obtain ⟨m, rfl⟩ : ∃ q, m = q + 1 := ⟨m - 1, by omega⟩
      have q : nI k ≤ nI i := nI_le (by omega) (s31 (by omega))
      have : i = k := by omega
      subst this
      exact rel_itp q q (rel_some ⟨f, f', mm, gw, hg⟩)
    | succ d ih =>
      intro i m ρ ρ' x hi hm f f' mm gw h0 hx hg
      obtain ⟨m, rfl⟩ : ∃ q, m = q + 1 := ⟨m - 1, by omega⟩
      have hil : i < l.length := by omega
      have vρ := v.frT f
      have gρ := g.frT f f'
      obtain ⟨v26, v27, vk, v28, v29, vt⟩ := vρ.2.2 i l[i] (List.getElem?_eq_getElem hil)
      obtain ⟨ga, gr⟩ := gρ.2 i hil
      have v8 := vin_n (show i < 800 by omega) (show 800 < 2 ^ 31 by decide)
      have cl : (nI i).toNatClampNeg = i := nI_clamp (s31 (by omega))
      have c0 : ¬ nI k ≤ nI i := nI_ge (by omega) (s31 (by omega))
      have c1 : ¬ nI l.length ≤ nI i := nI_ge hil (s31 (by omega))
      have c2 : ¬ 800 ≤ nI i := nI_ge (b := 800) (by omega) (by decide)
      have vt' : ρ'.2.1 3 1 l[i].1 ≠ 0 := by rw [dc_I f'.fz.1 rfl, dc_I et rfl, ← dc_I f.fz.1 rfl]; exact vt
      have ex : ∀ ρ2 : PvS, ρ2.2.1 8 4 0 = nI l.length → ρ2.2.2.1 26 i 0 = some l[i].1 → ρ2.2.2.2.1 27 0 i = nI l[i].2 → ρ2.2.1 3 1 l[i].1 ≠ 0 → ρ2.2.2.2.1 28 0 i = ρ.2.2.2.1 28 0 i → ρ2.2.2.2.1 29 0 i = ρ.2.2.2.1 29 0 i → f_X8_setLine_10 (m + 1) ρ2 (nI k) y x (nI i) = f_X8_setLine_10 m (pvA (pvA ρ2 32 l[i].1 l[i].2 x) 33 l[i].1 l[i].2 y) (nI k) y (x + (ρ.2.2.2.1 28 0 i + ρ.2.2.2.1 29 0 i)) (nI i + 1) := fun ρ2 r1 r2 r3 r4 r5 r6 => by
        show (if nI k ≤ nI i then some ρ2 else if ρ2.2.1 8 4 0 ≤ nI i then some ρ2 else if 800 ≤ nI i then some ρ2 else gd (vin (nI i) 800) (nm (ρ2.2.2.1 26 (nI i).toNatClampNeg 0) (fun o7 => oc o7 (f_X8_setLine_67 (f_X8_setLine_10 m) ρ2 (nI k) y x (nI i)) (fun jo7 => gd (vin (nI i) 800) (nm (ρ2.2.2.1 26 (nI i).toNatClampNeg 0) (fun o9 => oc o9 none (fun jo9 => gd (vin (nI i) 800) (ob1 (f_X2_setWord ρ2 jo9 (ρ2.2.2.2.1 27 0 (nI i).toNatClampNeg) x y) (fun σ12 => f_X8_setLine_67 (f_X8_setLine_10 m) σ12 (nI k) y x (nI i)))))))))) = _
        rw [if_neg c0, r1, if_neg c1, if_neg c2]
        simp only [gd_t v8, nm_t, cl, r2, oc_st, r3]
        rw [ob1_t (f_setWord r4 vk)]
        unfold f_X8_setLine_67
        have p28 : ∀ z w, pvLen (pvA (pvA ρ2 32 l[i].1 l[i].2 z) 33 l[i].1 l[i].2 w) 28 0 = 800 := fun _ _ => rfl
        have p29 : ∀ z w, pvLen (pvA (pvA ρ2 32 l[i].1 l[i].2 z) 33 l[i].1 l[i].2 w) 29 0 = 800 := fun _ _ => rfl
        simp only [p28, p29, gd_t v8, cl]
        have w := frT_word ρ2 l[i].1 l[i].2 x y
        rw [w.2.2.2.1 28 0 i (by decide) (by decide), w.2.2.2.1 29 0 i (by decide) (by decide), r5, r6]
      rw [ex ρ vρ.1 v26 v27 vt rfl rfl, ex ρ' (gρ.1.trans vρ.1) (gr.trans v26) ((ga 27 (by omega)).trans v27) vt' (ga 28 (by omega)) (ga 29 (by omega)), nI_1]
      have e1 := ti_add (a := ρ.2.2.2.1 28 0 i) (b := ρ.2.2.2.1 29 0 i) (by omega) (by omega)
      have e2 := ti_add (a := x) (b := ρ.2.2.2.1 28 0 i + ρ.2.2.2.1 29 0 i) (by omega) (by omega)
      have m2 : mn ρ ρ' (pvA (pvA ρ 32 l[i].1 l[i].2 x) 33 l[i].1 l[i].2 y) (pvA (pvA ρ' 32 l[i].1 l[i].2 x) 33 l[i].1 l[i].2 y) := (mn_A rfl).trans (mn_A rfl)
      refine ih (i + 1) m _ _ _ (by omega) (by omega) (f.trans (frT_word _ _ _ _ _)) (f'.trans (frT_word _ _ _ _ _)) (mm.trans m2) (fun n j => ?_) (by omega) (by omega) (fun j p hj1 hj2 hp => ?_)
      · rw [pvA_at, if_neg (by omega), pvA_at]
        split
        · omega
        · exact gw n j
      · by_cases e : j = i
        · subst e
          rw [List.getElem?_eq_getElem hil] at hp
          cases hp
          refine ⟨?_, by rw [pvA_self, pvA_self]⟩
          rw [pvA_at, if_neg (by omega), pvA_self, pvA_at, if_neg (by omega), pvA_self]
        · have := hg j p hj1 (by omega) hp
          exact ⟨m2.2.2 32 _ _ this.1, m2.2.2 33 _ _ this.2⟩
  unfold f_X8_setLine
  have e0 : imax 0 (nI i0) = nI i0 := by
    have := imax_n (a := 0) (b := i0) (by decide) (s31 (by omega))
    rw [Nat.zero_max] at this
    exact this
  rw [e0]
  exact key (k - i0) i0 fu σ σ' x (by omega) (by unfold fu; omega) frT.refl frT.refl mn.refl gw (Nat.le_refl _) (by omega) (fun j p a b => by omega)
/-- what lines of a box change -/
def exL (u κ q i : Nat) : Prop := (κ = 0 ∧ (q = 7 ∨ q = 8 ∨ q = 9)) ∨ (κ = 1 ∧ i = u ∧ (q = 1 ∨ q = 2)) ∨ (κ = 2 ∧ i = u ∧ q = 10) ∨ (κ = 4 ∧ (q = 4 ∨ q = 5)) ∨ κ = 8
def frL (u : Nat) (σ τ : PvS) : Prop := (∀ κ q i, ¬ exL u κ q i → τ.2.1 κ q i = σ.2.1 κ q i) ∧ τ.2.2.1 = σ.2.2.1 ∧ (∀ κ i j, κ ≠ 32 → κ ≠ 33 → τ.2.2.2.1 κ i j = σ.2.2.2.1 κ i j) ∧ fz σ τ
theorem frL.refl {u : Nat} {σ : PvS} : frL u σ σ := ⟨fun _ _ _ _ => rfl, rfl, fun _ _ _ _ _ => rfl, fz.refl⟩
theorem frL.trans {u : Nat} {σ τ ρ : PvS} (h : frL u σ τ) (g : frL u τ ρ) : frL u σ ρ := ⟨fun κ q i z => (g.1 κ q i z).trans (h.1 κ q i z), g.2.1.trans h.2.1, fun κ i j z w => (g.2.2.1 κ i j z w).trans (h.2.2.1 κ i j z w), h.2.2.2.trans g.2.2.2⟩
theorem frL_I {u : Nat} {σ : PvS} {κ q i : Nat} {v : Int32} (h : exL u κ q i) : frL u σ (pvI σ κ q i v) :=
  ⟨fun κ2 q2 i2 z => by rw [pvI_at, if_neg (fun e => z (by rw [e.1, e.2.1, e.2.2]; exact h))], rfl, fun _ _ _ _ _ => rfl, fz_I (by unfold exL at h; rcases h with q | q | q | q | q <;> (first | (rw [q.1]; rfl) | (rw [q]; rfl))) (fun e => by unfold exL at h; omega)⟩
theorem frL_spn {u : Nat} {σ : PvS} {B E N : Int32} : frL u σ (spn σ B E N) :=
  ⟨fun κ q i z => spn_I _ _ _ _ (fun e => z (Or.inl ⟨e.1, e.2.2⟩)), rfl, fun _ _ _ _ _ => rfl, dc_eq rfl (fun κ q i e => spn_I _ _ _ _ (fun z => by rw [z.1] at e; cases e)) (fun _ _ => rfl) (fun _ _ _ _ => rfl) rfl, fun _ _ => ⟨rfl, rfl, spn_I _ _ _ _ (by omega), spn_I _ _ _ _ (by omega)⟩, fun q i _ => spn_I _ _ _ _ (by omega), fun _ => rfl⟩
theorem frL_lin {u : Nat} {σ : PvS} {W F : Int32} : frL u σ (lin σ W F) :=
  ⟨fun κ q i z => lin_I _ _ _ (fun e => z (Or.inr (Or.inr (Or.inr (Or.inr e.1))))), rfl, fun _ _ _ _ _ => rfl, dc_eq rfl (fun κ q i e => lin_I _ _ _ (fun z => by rw [z.1] at e; cases e)) (fun _ _ => rfl) (fun _ _ _ _ => rfl) rfl, fun _ _ => ⟨rfl, rfl, lin_I _ _ _ (by omega), lin_I _ _ _ (by omega)⟩, fun q i _ => lin_I _ _ _ (by omega), fun _ => rfl⟩
theorem frL_T {u : Nat} {σ τ : PvS} (f : frT σ τ) : frL u σ τ := ⟨fun _ _ _ _ => by rw [f.2.1], f.2.2.1, f.2.2.2.1, f.fz⟩
theorem mn_spn {σ σ' : PvS} {B E N : Int32} : mn σ σ' (spn σ B E N) (spn σ' B E N) := by
  refine ⟨fun κ q i z => ?_, fun _ _ _ z => z, fun _ _ _ z => z⟩
  show (if _ then B else if _ then E else if _ then N else σ'.2.1 κ q i) = (if κ = 0 ∧ i = 0 ∧ q = 7 then B else if κ = 0 ∧ i = 0 ∧ q = 8 then E else if κ = 0 ∧ i = 0 ∧ q = 9 then N else σ.2.1 κ q i)
  rw [z]
theorem mn_lin {σ σ' : PvS} {W F : Int32} : mn σ σ' (lin σ W F) (lin σ' W F) := by
  refine ⟨fun κ q i z => ?_, fun _ _ _ z => z, fun _ _ _ z => z⟩
  show (if _ then W else if _ then F else σ'.2.1 κ q i) = (if κ = 8 ∧ i = 0 ∧ q = 5 then W else if κ = 8 ∧ i = 0 ∧ q = 6 then F else σ.2.1 κ q i)
  rw [z]
theorem VF.frL {u : Nat} {σ τ : PvS} {Y : Int} (v : VF σ Y) (f : frL u σ τ) : VF τ Y := by
  have e6 : τ.2.1 0 6 0 = σ.2.1 0 6 0 := f.1 0 6 0 (by unfold exL; omega)
  refine ⟨by rw [e6]; exact v.1, fun j hj => ?_⟩
  rw [e6] at hj
  rw [f.2.2.1 22 0 j (by decide) (by decide), f.2.2.1 23 0 j (by decide) (by decide), f.2.2.1 24 0 j (by decide) (by decide), f.2.2.1 25 0 j (by decide) (by decide)]
  exact v.2 j hj
theorem FLa.frL {u : Nat} {σ σ' τ τ' : PvS} (g : FLa σ σ') (f : frL u σ τ) (f' : frL u σ' τ') : FLa τ τ' := by
  have e6 : τ.2.1 0 6 0 = σ.2.1 0 6 0 := f.1 0 6 0 (by unfold exL; omega)
  have e6' : τ'.2.1 0 6 0 = σ'.2.1 0 6 0 := f'.1 0 6 0 (by unfold exL; omega)
  refine ⟨by rw [e6, e6']; exact g.1, fun κ hκ j hj => ?_⟩
  rw [e6] at hj
  rw [f.2.2.1 κ 0 j (by omega) (by omega), f'.2.2.1 κ 0 j (by omega) (by omega)]
  exact g.2 κ hκ j hj
theorem VF.mono {σ : PvS} {Y Y2 : Int} (v : VF σ Y) (h : Y ≤ Y2) : VF σ Y2 := ⟨v.1, fun j hj => by have := v.2 j hj; omega⟩
