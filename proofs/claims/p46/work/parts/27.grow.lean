/-! THE POOL GROWS: a node, a rule, an array -/
/-- the addresses of what is there stay -/
def pvAg (ad ad' : Nat → Nat → Nat) (σ : PvS) : Prop := (∀ κ i, i < pvM σ κ → ad' κ i = ad κ i) ∧ ∀ j, j < σ.1 0 + 3 → ad' 10 j = ad 10 j
theorem pvc_lt {σ : PvS} (hC : pvCl σ) {κ i k : Nat} (hi : i < pvM σ κ) : ((pvc κ k).1 = 1 → (i + (pvc κ k).2.2 < pvM σ (pvc κ k).2.1 ∨ ((pvc κ k).2.1 = 10 ∧ i + (pvc κ k).2.2 < σ.1 0 + 3))) ∧ ((pvc κ k).1 = 2 → ((pvc κ k).2.2 < pvM σ (pvc κ k).2.1 ∨ ((pvc κ k).2.1 = 10 ∧ (pvc κ k).2.2 < σ.1 0 + 3))) := by
  have h0 := hC.1
  unfold pvc
  split <;> (refine ⟨fun h => ?_, fun h => ?_⟩) <;> simp only [] at h ⊢ <;> (first | (exact absurd h (by decide)) | skip) <;> simp [pvM] at hi ⊢ <;> omega
theorem pvF_old {ad ad' : Nat → Nat → Nat} {σ σ' : PvS} {κ i k : Nat} (h : i < pvM σ κ) (h9 : κ ≤ 9) (hC : pvCl σ) (ha : pvAg ad ad' σ) (hI : σ'.2.1 κ k i = σ.2.1 κ k i) (hR : σ'.2.2.1 κ k i = σ.2.2.1 κ k i) : pvF ad' σ' κ k i = pvF ad σ κ k i := by
  have hc := pvc_lt hC (k := k) h
  unfold pvF
  generalize pvc κ k = q at hc ⊢
  obtain ⟨t, κ', c⟩ := q
  match t, hc with
  | 0, _ => show Value.int _ = Value.int _; rw [hI]
  | 1, hc =>
    show Value.ref _ = Value.ref _
    rcases hc.1 rfl with q | ⟨q1, q2⟩
    · rw [ha.1 _ _ q]
    · obtain rfl : κ' = 10 := q1
      rw [ha.2 _ q2]
  | 2, hc =>
    show Value.ref _ = Value.ref _
    rcases hc.2 rfl with q | ⟨q1, q2⟩
    · rw [ha.1 _ _ q]
    · obtain rfl : κ' = 10 := q1
      rw [ha.2 _ q2]
  | t + 3, _ =>
    show va_rf _ = va_rf _
    rw [hR]
    cases hr : σ.2.2.1 κ k i with
    | none => rfl
    | some j =>
      have := hC.2 κ k i j hr
      rw [show pvRk κ = 3 from by unfold pvRk; rw [if_neg (by omega)]] at this
      show va_rf (some _) = va_rf (some _)
      rw [ha.1 3 j this]
theorem pvE_old {cy : Nat → ClassId} {ad ad' : Nat → Nat → Nat} {σ σ' : PvS} {κ i : Nat} (h : i < pvM σ κ) (hC : pvCl σ) (ha : pvAg ad ad' σ) (hI : ∀ k, σ'.2.1 κ k i = σ.2.1 κ k i) (hR : ∀ k, σ'.2.2.1 κ k i = σ.2.2.1 κ k i) (hA : ∀ j, σ'.2.2.2.1 κ i j = σ.2.2.2.1 κ i j) (hn : pvLen σ' κ i = pvLen σ κ i) : pvE cy ad' σ' κ i = pvE cy ad σ κ i := by
  unfold pvE
  split
  · rename_i h9
    congr 2
    apply List.map_congr_left
    intro k _
    exact pvF_old h h9 hC ha (hI k) (hR k)
  have hr : ∀ k, (σ'.2.2.1 κ k i).map (ad' (pvRk κ)) = (σ.2.2.1 κ k i).map (ad (pvRk κ)) := fun k => by
    rw [hR k]
    cases hr : σ.2.2.1 κ k i with
    | none => rfl
    | some j => show some _ = some _; rw [ha.1 _ j (hC.2 κ k i j hr)]
  split
  · rename_i h26
    subst h26
    have : (fun j => (σ'.2.2.1 26 j i).map (ad' 3)) = (fun j => (σ.2.2.1 26 j i).map (ad 3)) := funext hr
    rw [this]
  split
  · rename_i h51
    subst h51
    have : (fun j => (σ'.2.2.1 51 j i).map (ad' 52)) = (fun j => (σ.2.2.1 51 j i).map (ad 52)) := funext hr
    rw [this, hn]
  split
  · rename_i hk
    have : (fun j => if j < 40 then some (ad' (κ + 2) (40 * i + j)) else none) = (fun j => if j < 40 then some (ad (κ + 2) (40 * i + j)) else none) := by
      funext j
      split
      · rename_i hj
        have hi2 : i < 2 := by rcases hk with rfl | rfl <;> exact h
        rw [ha.1 (κ + 2) (40 * i + j) (by rcases hk with rfl | rfl <;> (show 40 * i + j < 80; omega))]
      · rfl
    rw [this]
  · have : (fun j => σ'.2.2.2.1 κ i j) = (fun j => σ.2.2.2.1 κ i j) := funext hA
    rw [this, hn]
/-- what the lists say, opened -/
theorem pvLo {G : PvG} {ad' : Nat → Nat → Nat} {σ σ' : PvS} {L : List Nat} {f : Nat → va_E} (hO : pvO G.1 G.2.2.1 σ L f) (hL : pvLl G.1 G.2.2.1 (G.2.2.2.1.1 0) σ L f) (ha : pvAg G.2.2.1 ad' σ) (h2 : ∀ j, j < σ.1 0 + 3 → σ'.2.2.2.2 j = σ.2.2.2.2 j) :
    ∃ ba : Nat → Nat, (∀ κ i, (i < pvM σ κ ∨ κ = 10 ∧ i < σ.1 0 + 3) → ad' κ i ∈ L) ∧ (∀ κ i κ' i', (i < pvM σ κ ∨ κ = 10 ∧ i < σ.1 0 + 3) → (i' < pvM σ κ' ∨ κ' = 10 ∧ i' < σ.1 0 + 3) → ad' κ i = ad' κ' i' → κ = κ' ∧ i = i') ∧
     (∀ j, j < σ.1 0 + 3 → (σ.2.2.2.2 j).length ≤ 64 ∧ ∀ x ∈ σ.2.2.2.2 j, x < pvM σ (pvK j)) ∧
     (∀ j, (j < pvM σ 10 ∨ 10 = 10 ∧ j < σ.1 0 + 3) → (∃ mc : Int32, f (ad' 10 j) = .inr (0, [.int mc, .ref (ba j), .int (nI (σ'.2.2.2.2 j).length)])) ∧ ((σ'.2.2.2.2 j = [] ∧ ba j = G.2.2.2.1.1 0) ∨ ∃ cap : Nat, ba j ∈ L ∧ (∀ κ i, (i < pvM σ κ ∨ κ = 10 ∧ i < σ.1 0 + 3) → ad' κ i ≠ ba j) ∧ (∀ j', (j' < pvM σ 10 ∨ 10 = 10 ∧ j' < σ.1 0 + 3) → ba j' = ba j → j' = j) ∧ (σ'.2.2.2.2 j).length ≤ cap ∧ (0 < cap ∧ cap ≤ 1000) ∧ f (ba j) = pvLc G.1 ad' σ' j cap)) := by
  obtain ⟨ba, hL⟩ := hL
  have h10 : ∀ i, ¬ i < pvM σ 10 := fun i => Nat.not_lt_zero i
  have ad_eq : ∀ κ i, (i < pvM σ κ ∨ κ = 10 ∧ i < σ.1 0 + 3) → ad' κ i = G.2.2.1 κ i := by
    intro κ i h
    rcases h with h | ⟨rfl, h⟩
    · exact ha.1 κ i h
    · exact ha.2 i h
  refine ⟨ba, fun κ i h => ?_, fun κ i κ' i' h h' e => ?_, fun j hj => ⟨(hL j hj).1.2.2.2.1, (hL j hj).1.2.2.2.2⟩, fun j hj => ?_⟩
  · rw [ad_eq κ i h]
    rcases h with h | ⟨rfl, h⟩
    · exact (hO.1 κ i h).1
    · exact (hL i h).1.1
  · rw [ad_eq κ i h, ad_eq κ' i' h'] at e
    rcases h with h | ⟨rfl, h⟩ <;> rcases h' with h' | ⟨rfl, h'⟩
    · exact hO.2 κ i κ' i' h h' e
    · exact absurd e ((hL i' h').1.2.1 κ i h)
    · exact absurd e.symm ((hL i h).1.2.1 κ' i' h')
    · exact ⟨rfl, (hL i' h').1.2.2.1 i h e⟩
  · have hj : j < σ.1 0 + 3 := hj.elim (fun q => absurd q (h10 j)) (fun q => q.2)
    obtain ⟨⟨a1, a2, a3, a4, a5⟩, ⟨mc, b⟩, c⟩ := hL j hj
    rw [h2 j hj, ha.2 j hj]
    refine ⟨⟨mc, b⟩, ?_⟩
    rcases c with c | ⟨cap, c1, c2, c3, c4, c5, c6, c7⟩
    · exact Or.inl c
    · refine Or.inr ⟨cap, c1, fun κ i h => ?_, fun j' hj' e => c4 j' (hj'.elim (fun q => absurd q (h10 j')) (fun q => q.2)) e, c5, c6, ?_⟩
      · rw [ad_eq κ i h]
        rcases h with h | ⟨rfl, h⟩
        · exact c2 κ i h
        · exact c3 i h
      · rw [c7]
        unfold pvLc
        rw [h2 j hj]
        have : (fun t : Nat => ((σ.2.2.2.2 j)[t]?).map (G.2.2.1 (pvK j))) = (fun t : Nat => ((σ.2.2.2.2 j)[t]?).map (ad' (pvK j))) := by
          funext t
          cases ht : (σ.2.2.2.2 j)[t]? with
          | none => rfl
          | some x => show some _ = some _; rw [ha.1 _ x (a5 x (List.mem_of_getElem? ht))]
        rw [this]
