/-! INTO THE POOL: cells that were made become objects of the system -/
abbrev pvGa (G : PvG) (ad : Nat → Nat → Nat) : PvG := (G.1, G.2.1, ad, G.2.2.2)
theorem pl_of {A : Nat → Prop} {Z : va_W} (hD : va_D A Z) : ∃ f : Nat → va_E, va_pl (Z.map Prod.fst) f = Z := by
  refine ⟨fun a => ((Z.find? (fun c => c.1 == a)).map Prod.snd).getD (.inr (0, [])), ?_⟩
  unfold va_pl
  rw [List.map_map]
  apply List.ext_getElem?
  intro k
  rw [List.getElem?_map]
  cases hk : Z[k]? with
  | none => rfl
  | some c =>
    show some _ = some c
    congr 1
    have : Z.find? (fun d => d.1 == c.1) = some c := by
      cases hf : Z.find? (fun d => d.1 == c.1) with
      | none =>
        have := List.find?_eq_none.mp hf c (List.mem_of_getElem? hk)
        simp at this
      | some d =>
        have h1 := List.find?_some hf
        obtain ⟨i, hi⟩ := List.getElem?_of_mem (List.mem_of_find?_eq_some hf)
        have h2 : d.1 = c.1 := by simpa using h1
        have := hD.1 i k d c hi hk h2
        rw [this, hk] at hi
        exact hi.symm
    show (c.1, ((Z.find? (fun d => d.1 == c.1)).map Prod.snd).getD _) = c
    rw [this]
    rfl
theorem pl_at {L : List Nat} {f : Nat → va_E} {k : Nat} {c : Nat × va_E} (h : (va_pl L f)[k]? = some c) : c.1 ∈ L ∧ f c.1 = c.2 := by
  unfold va_pl at h
  rw [List.getElem?_map] at h
  cases hk : L[k]? with
  | none => rw [hk] at h; cases h
  | some a => rw [hk] at h; cases h; exact ⟨List.mem_of_getElem? hk, rfl⟩
/-- what a list's cells say -/
def pvLc (cy : Nat → ClassId) (ad : Nat → Nat → Nat) (σ : PvS) (j cap : Nat) : va_E := .inl (cy 3, cap, .inr (.inr (.inr (.inr (fun t => ((σ.2.2.2.2 j)[t]?).map (ad (pvK j)))))))
theorem pv_ext {G : PvG} {ad : Nat → Nat → Nat} {σ : PvS} {L : List Nat} {f : Nat → va_E} {Y : va_W} {H : Heap} (hP : va_P G.2.1 pvC (va_pl L f ++ Y) H) (hD : va_D (pvB G) (va_pl L f ++ Y)) (hz : ¬ pvB G (G.2.2.2.1.1 0)) (hC : pvCl σ)
    (o n : Nat → Nat → Prop) (pos : Nat → Nat → Nat) (ba pb : Nat → Nat)
    (hall : ∀ κ i, (i < pvM σ κ ∨ (κ = 10 ∧ i < σ.1 0 + 3)) → o κ i ∨ n κ i)
    (hmem : ∀ κ i, o κ i → ad κ i ∈ L) (hinj : ∀ κ i κ' i', o κ i → o κ' i' → ad κ i = ad κ' i' → κ = κ' ∧ i = i')
    (hE : ∀ κ i, o κ i → κ ≠ 10 → f (ad κ i) = pvE G.1 ad σ κ i)
    (hl : ∀ j, j < σ.1 0 + 3 → (σ.2.2.2.2 j).length ≤ 64 ∧ ∀ x ∈ σ.2.2.2.2 j, x < pvM σ (pvK j))
    (hLo : ∀ j, o 10 j → (∃ mc : Int32, f (ad 10 j) = .inr (0, [.int mc, .ref (ba j), .int (nI (σ.2.2.2.2 j).length)])) ∧ ((σ.2.2.2.2 j = [] ∧ ba j = G.2.2.2.1.1 0) ∨ ∃ cap : Nat, ba j ∈ L ∧ (∀ κ i, o κ i → ad κ i ≠ ba j) ∧ (∀ j', o 10 j' → ba j' = ba j → j' = j) ∧ (σ.2.2.2.2 j).length ≤ cap ∧ (0 < cap ∧ cap ≤ 1000) ∧ f (ba j) = pvLc G.1 ad σ j cap))
    (hnE : ∀ κ i, n κ i → κ ≠ 10 → Y[pos κ i]? = some (ad κ i, pvE G.1 ad σ κ i))
    (hnI : ∀ κ i κ' i', n κ i → n κ' i' → pos κ i = pos κ' i' → κ = κ' ∧ i = i')
    (hLn : ∀ j, n 10 j → (∃ mc : Int32, Y[pos 10 j]? = some (ad 10 j, .inr (0, [.int mc, .ref (ba j), .int (nI (σ.2.2.2.2 j).length)]))) ∧ ((σ.2.2.2.2 j = [] ∧ ba j = G.2.2.2.1.1 0) ∨ ∃ cap : Nat, Y[pb j]? = some (ba j, pvLc G.1 ad σ j cap) ∧ (∀ κ i, n κ i → pos κ i ≠ pb j) ∧ (∀ j', n 10 j' → pb j' = pb j → j' = j) ∧ (∀ j', n 10 j' → σ.2.2.2.2 j' = [] ∧ ba j' = G.2.2.2.1.1 0 ∨ ∃ cap' : Nat, Y[pb j']? = some (ba j', pvLc G.1 ad σ j' cap')) ∧ (σ.2.2.2.2 j).length ≤ cap ∧ (0 < cap ∧ cap ≤ 1000))) : pvW (pvGa G ad) σ H := by
  obtain ⟨f', hf'⟩ := pl_of hD
  generalize hL' : (va_pl L f ++ Y).map Prod.fst = L' at hf'
  have hLY : ∀ (k : Nat) (c : Nat × va_E) (a : Nat), Y[k]? = some c → a ∈ L → a ≠ c.1 := by
    intro k c a hk ha e
    obtain ⟨i, hi⟩ := va_pl_get (X := []) (f := f) ha
    have hi : (va_pl L f)[i]? = some (a, f a) := hi
    have hlt := (List.getElem?_eq_some_iff.mp hi).1
    have := hD.1 i ((va_pl L f).length + k) (a, f a) c (by rw [List.getElem?_append_left hlt]; exact hi) (by rw [List.getElem?_append_right (by omega), show (va_pl L f).length + k - (va_pl L f).length = k by omega]; exact hk) e
    omega
  have hYY : ∀ (k k' : Nat) (c c' : Nat × va_E), Y[k]? = some c → Y[k']? = some c' → c.1 = c'.1 → k = k' := by
    intro k k' c c' hk hk' e
    have := hD.1 ((va_pl L f).length + k) ((va_pl L f).length + k') c c' (by rw [List.getElem?_append_right (by omega), show (va_pl L f).length + k - (va_pl L f).length = k by omega]; exact hk) (by rw [List.getElem?_append_right (by omega), show (va_pl L f).length + k' - (va_pl L f).length = k' by omega]; exact hk') e
    omega
  have hYB : ∀ (k : Nat) (c : Nat × va_E), Y[k]? = some c → pvB G c.1 := fun k c hk => hD.2 ((va_pl L f).length + k) c (by rw [List.getElem?_append_right (by omega), show (va_pl L f).length + k - (va_pl L f).length = k by omega]; exact hk)
  have hLB : ∀ a, a ∈ L → pvB G a := fun a ha => by
    obtain ⟨i, hi⟩ := va_pl_get (X := []) (f := f) ha
    have hi : (va_pl L f)[i]? = some (a, f a) := hi
    exact hD.2 i (a, f a) (by rw [List.getElem?_append_left (List.getElem?_eq_some_iff.mp hi).1]; exact hi)
  have oldf : ∀ a, a ∈ L → a ∈ L' ∧ f' a = f a := by
    intro a ha
    obtain ⟨i, hi⟩ := va_pl_get (X := []) (f := f) ha
    have hi : (va_pl L f)[i]? = some (a, f a) := hi
    have h2 : (va_pl L' f')[i]? = some (a, f a) := by rw [hf', List.getElem?_append_left (List.getElem?_eq_some_iff.mp hi).1]; exact hi
    exact pl_at h2
  have newf : ∀ (k : Nat) (c : Nat × va_E), Y[k]? = some c → c.1 ∈ L' ∧ f' c.1 = c.2 := by
    intro k c hk
    have h2 : (va_pl L' f')[(va_pl L f).length + k]? = some c := by rw [hf', List.getElem?_append_right (by omega), show (va_pl L f).length + k - (va_pl L f).length = k by omega]; exact hk
    exact pl_at h2
  have nat : ∀ κ i, n κ i → ∃ e, Y[pos κ i]? = some (ad κ i, e) := by
    intro κ i h
    by_cases e : κ = 10
    · subst e
      obtain ⟨⟨mc, h1⟩, -⟩ := hLn i h
      exact ⟨_, h1⟩
    · exact ⟨_, hnE κ i h e⟩
  have inj : ∀ κ i κ' i', (o κ i ∨ n κ i) → (o κ' i' ∨ n κ' i') → ad κ i = ad κ' i' → κ = κ' ∧ i = i' := by
    intro κ i κ' i' h h' e
    rcases h with h | h <;> rcases h' with h' | h'
    · exact hinj κ i κ' i' h h' e
    · obtain ⟨e', h1⟩ := nat κ' i' h'
      exact absurd e (hLY _ _ _ h1 (hmem κ i h))
    · obtain ⟨e', h1⟩ := nat κ i h
      exact absurd e.symm (hLY _ _ _ h1 (hmem κ' i' h'))
    · obtain ⟨e1, h1⟩ := nat κ i h
      obtain ⟨e2, h2⟩ := nat κ' i' h'
      exact hnI κ i κ' i' h h' (hYY _ _ _ _ h1 h2 e)
  have all : ∀ κ i, (o κ i ∨ n κ i) → ad κ i ∈ L' := by
    intro κ i h
    rcases h with h | h
    · exact (oldf _ (hmem κ i h)).1
    · obtain ⟨e1, h1⟩ := nat κ i h
      exact (newf _ _ h1).1
  have n10 : ∀ κ i, i < pvM σ κ → κ ≠ 10 := fun κ i h e => by subst e; exact absurd h (Nat.not_lt_zero i)
  refine ⟨L', f', ⟨fun κ i hi => ⟨all κ i (hall κ i (Or.inl hi)), ?_⟩, fun κ i κ' i' hi hi' e => inj κ i κ' i' (hall κ i (Or.inl hi)) (hall κ' i' (Or.inl hi')) e⟩, ⟨ba, fun j hj => ?_⟩, by rw [hf']; exact hP, by rw [hf']; exact hD, hz, hC⟩
  · rcases hall κ i (Or.inl hi) with h | h
    · show f' (ad κ i) = _
      rw [(oldf _ (hmem κ i h)).2]
      exact hE κ i h (n10 κ i hi)
    · exact (newf _ _ (hnE κ i h (n10 κ i hi))).2
  · have hj' := hall 10 j (Or.inr ⟨rfl, hj⟩)
    have hne : ∀ κ i, i < pvM σ κ → ad κ i ≠ ad 10 j := fun κ i hi e => n10 κ i hi (inj κ i 10 j (hall κ i (Or.inl hi)) hj' e).1
    refine ⟨⟨all 10 j hj', hne, fun j' hj1 e => (inj 10 j' 10 j (hall 10 j' (Or.inr ⟨rfl, hj1⟩)) hj' e).2, (hl j hj).1, (hl j hj).2⟩, ?_, ?_⟩
    · rcases hj' with h | h
      · obtain ⟨⟨mc, h1⟩, -⟩ := hLo j h
        exact ⟨mc, by show f' (ad 10 j) = _; rw [(oldf _ (hmem 10 j h)).2]; exact h1⟩
      · obtain ⟨⟨mc, h1⟩, -⟩ := hLn j h
        exact ⟨mc, (newf _ _ h1).2⟩
    · rcases hj' with h | h
      · rcases (hLo j h).2 with h2 | ⟨cap, d1, d2, d3, d4, d5, d6⟩
        · exact Or.inl h2
        · refine Or.inr ⟨cap, (oldf _ d1).1, fun κ i hi => ?_, fun j' hj1 => ?_, fun j' hj1 e => ?_, d4, d5, by show f' (ba j) = _; rw [(oldf _ d1).2]; exact d6⟩
          · rcases hall κ i (Or.inl hi) with q | q
            · exact d2 κ i q
            · obtain ⟨e1, h1⟩ := nat κ i q
              exact fun e => hLY _ _ _ h1 d1 e.symm
          · rcases hall 10 j' (Or.inr ⟨rfl, hj1⟩) with q | q
            · exact d2 10 j' q
            · obtain ⟨e1, h1⟩ := nat 10 j' q
              exact fun e => hLY _ _ _ h1 d1 e.symm
          · rcases hall 10 j' (Or.inr ⟨rfl, hj1⟩) with q | q
            · exact d3 j' q e
            · rcases (hLn j' q).2 with ⟨-, h1⟩ | ⟨cap', h1, -⟩
              · exact absurd (hLB _ d1) (by rw [← e, h1]; exact hz)
              · exact absurd e.symm (hLY _ _ _ h1 d1)
      · rcases (hLn j h).2 with h2 | ⟨cap, d1, d2, d3, d0, d4, d5⟩
        · exact Or.inl h2
        · refine Or.inr ⟨cap, (newf _ _ d1).1, fun κ i hi => ?_, fun j' hj1 => ?_, fun j' hj1 e => ?_, d4, d5, (newf _ _ d1).2⟩
          · rcases hall κ i (Or.inl hi) with q | q
            · exact hLY _ _ _ d1 (hmem κ i q)
            · obtain ⟨e1, h1⟩ := nat κ i q
              exact fun e => d2 κ i q (hYY _ _ _ _ h1 d1 e)
          · rcases hall 10 j' (Or.inr ⟨rfl, hj1⟩) with q | q
            · exact hLY _ _ _ d1 (hmem 10 j' q)
            · obtain ⟨e1, h1⟩ := nat 10 j' q
              exact fun e => d2 10 j' q (hYY _ _ _ _ h1 d1 e)
          · rcases hall 10 j' (Or.inr ⟨rfl, hj1⟩) with q | q
            · rcases (hLo j' q).2 with ⟨-, h1⟩ | ⟨cap', h1, -⟩
              · exact absurd (hYB _ _ d1) (by show ¬ pvB G (ba j); rw [← e, h1]; exact hz)
              · exact absurd e (hLY _ _ _ d1 h1)
            · rcases d0 j' q with ⟨-, h1⟩ | ⟨cap', h1⟩
              · exact absurd (hYB _ _ d1) (by show ¬ pvB G (ba j); rw [← e, h1]; exact hz)
              · exact d3 j' q (hYY _ _ _ _ h1 d1 e)
