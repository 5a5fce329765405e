/-! THE CORE: the class's objects by kind and number; a state of the system is what they hold -/
abbrev pvC : List vw_C := [(RJx4a65c, TJx4a65c, 3), (RX0, TX0, 10), (RX1, TX1, 5), (RX2, TX2, 16), (RX3, TX3, 14), (RX4, TX4, 6), (RX5, TX5, 10), (RX6, TX6, 3), (RX7, TX7, 3), (RX8, TX8, 7), (RX9, TX9, 6)]
/-- how many there are of a family (0 nodes, 1 rules, 2 .. arrays of the law), the numbers in fields (kind, field, object), the objects in fields and arrays of references (kind, field or place, object), the numbers in arrays (kind, object, place), the lists -/
abbrev PvS : Type := (Nat → Nat) × (Nat → Nat → Nat → Int32) × (Nat → Nat → Nat → Option Nat) × (Nat → Nat → Nat → Int32) × (Nat → List Nat)
def up3 {α : Type} (f : Nat → Nat → Nat → α) (a b c : Nat) (v : α) : Nat → Nat → Nat → α := fun x y z => if x = a ∧ y = b ∧ z = c then v else f x y z
def pvI (σ : PvS) (κ k i : Nat) (v : Int32) : PvS := (σ.1, up3 σ.2.1 κ k i v, σ.2.2)
def pvR (σ : PvS) (κ k i : Nat) (v : Option Nat) : PvS := (σ.1, σ.2.1, up3 σ.2.2.1 κ k i v, σ.2.2.2)
def pvA (σ : PvS) (κ i j : Nat) (v : Int32) : PvS := (σ.1, σ.2.1, σ.2.2.1, up3 σ.2.2.2.1 κ i j v, σ.2.2.2.2)
def pvL (σ : PvS) (j : Nat) (v : List Nat) : PvS := (σ.1, σ.2.1, σ.2.2.1, σ.2.2.2.1, va_up σ.2.2.2.2 j v)
/-- what a field is: (0) a number, (1, kind, c) the object of that kind whose number is its own and c, (2, kind, c) the object c of that kind, (3) a node or null -/
def pvc : Nat → Nat → Nat × Nat × Nat
  | 0, 0 => (2, 20, 0) | 0, 1 => (2, 21, 0) | 0, 2 => (2, 22, 0) | 0, 3 => (2, 23, 0) | 0, 4 => (2, 24, 0) | 0, 5 => (2, 25, 0)
  | 2, 1 => (3, 0, 0) | 2, 14 => (1, 32, 0) | 2, 15 => (1, 33, 0)
  | 3, 3 => (1, 10, 3) | 3, 4 => (1, 30, 0) | 3, 5 => (1, 31, 0) | 3, 6 => (1, 2, 0) | 3, 7 => (1, 1, 0) | 3, 8 => (3, 0, 0)
  | 4, 0 => (2, 6, 0) | 4, 1 => (2, 0, 0) | 4, 2 => (2, 8, 0)
  | 5, 3 => (1, 38, 0) | 5, 4 => (1, 39, 0) | 5, 5 => (1, 40, 0) | 5, 6 => (1, 41, 0)
  | 6, 0 => (1, 34, 0) | 6, 1 => (1, 35, 0)
  | 7, 0 => (2, 10, 0) | 7, 1 => (2, 10, 1) | 7, 2 => (2, 3, 0)
  | 8, 0 => (2, 26, 0) | 8, 1 => (2, 27, 0) | 8, 2 => (2, 28, 0) | 8, 3 => (2, 29, 0)
  | 9, 0 => (2, 7, 0) | 9, 1 => (2, 10, 2) | 9, 2 => (2, 4, 0) | 9, 3 => (2, 6, 0) | 9, 4 => (2, 6, 1)
  | _, _ => (0, 0, 0)
def pvN : Nat → Nat
  | 0 => 10 | 1 => 5 | 2 => 16 | 3 => 14 | 4 => 6 | 5 => 10 | 6 => 3 | 7 => 3 | 8 => 7 | _ => 6
def pvF (ad : Nat → Nat → Nat) (σ : PvS) (κ k i : Nat) : Value := match pvc κ k with
  | (0, _, _) => .int (σ.2.1 κ k i)
  | (1, κ', c) => .ref (ad κ' (i + c))
  | (2, κ', c) => .ref (ad κ' c)
  | _ => va_rf ((σ.2.2.1 κ k i).map (ad 3))
def pvLen (σ : PvS) (κ i : Nat) : Nat := if κ ≤ 25 then 40 else if κ ≤ 29 then 800 else if κ = 31 then (if σ.2.1 3 1 i = 0 then 14 else 0) else if κ ≤ 33 then (if σ.2.1 3 1 i = 0 then 0 else 20) else if κ ≤ 37 then 14 else if κ ≤ 41 then 3 else if κ = 51 then (σ.2.1 51 0 i).toNatClampNeg else if κ = 52 then 5 else if κ = 53 then 12 else 13
def pvE (cy : Nat → ClassId) (ad : Nat → Nat → Nat) (σ : PvS) (κ i : Nat) : va_E :=
  if κ ≤ 9 then .inr (κ + 1, (List.range (pvN κ)).map (fun k => pvF ad σ κ k i))
  else if κ = 26 then .inl (cy 2, 800, .inr (.inr (.inr (.inr (fun j => (σ.2.2.1 26 j i).map (ad 3))))))
  else if κ = 51 then .inl (cy 4, pvLen σ 51 i, .inr (.inr (.inr (.inr (fun j => (σ.2.2.1 51 j i).map (ad 52))))))
  else if κ = 34 ∨ κ = 35 then .inl (cy 4, 40, .inr (.inr (.inr (.inr (fun j => if j < 40 then some (ad (κ + 2) (40 * i + j)) else none)))))
  else .inl (cy (if κ = 41 then 1 else 0), pvLen σ κ i, .inl (fun j => σ.2.2.2.1 κ i j))
/-- the kinds that are arrays of numbers -/
def pvIA (κ : Nat) : Bool := decide (9 < κ ∧ κ ≠ 26 ∧ κ ≠ 34 ∧ κ ≠ 35 ∧ κ ≠ 51)
/-- what the references of a kind point to -/
def pvRk (κ : Nat) : Nat := if κ = 51 then 52 else 3
/-- how many there are of a kind -/
def pvM (σ : PvS) (κ : Nat) : Nat := if κ = 0 then 1 else if κ ≤ 3 then σ.1 0 else if κ = 5 then σ.1 1 else if κ = 6 then 2 else if κ ≤ 9 then 1 else if κ < 20 then 0 else if κ ≤ 29 then 1 else if κ ≤ 33 then σ.1 0 else if κ ≤ 35 then 2 else if κ ≤ 37 then 80 else if κ ≤ 41 then σ.1 1 else if κ ≤ 50 then 0 else if κ ≤ 54 then σ.1 (κ - 49) else 0
/-- the objects lie in the pool as the state has them, each at an address of its own -/
def pvO (cy : Nat → ClassId) (ad : Nat → Nat → Nat) (σ : PvS) (L : List Nat) (f : Nat → va_E) : Prop :=
  (∀ κ i, i < pvM σ κ → ad κ i ∈ L ∧ f (ad κ i) = pvE cy ad σ κ i) ∧ ∀ κ i κ' i', i < pvM σ κ → i' < pvM σ κ' → ad κ i = ad κ' i' → κ = κ' ∧ i = i'
theorem up3_s {α : Type} (f : Nat → Nat → Nat → α) (a b c : Nat) (v : α) : up3 f a b c v a b c = v := by simp [up3]
theorem up3_n {α : Type} (f : Nat → Nat → Nat → α) {a b c x y z : Nat} (v : α) (h : ¬ (x = a ∧ y = b ∧ z = c)) : up3 f a b c v x y z = f x y z := by simp [up3, h]
theorem pvE_obj {cy : Nat → ClassId} {ad : Nat → Nat → Nat} {σ : PvS} {κ i : Nat} (h : κ ≤ 9) : pvE cy ad σ κ i = .inr (κ + 1, (List.range (pvN κ)).map (fun k => pvF ad σ κ k i)) := if_pos h
theorem pv_set {α : Type} (n k : Nat) (g : Nat → α) (v : α) : ((List.range n).map g).set k v = (List.range n).map (fun j => if j = k then v else g j) := by
  apply List.ext_getElem?
  intro j
  rw [List.getElem?_set]
  simp only [List.length_map, List.length_range, List.getElem?_map]
  by_cases h : k = j
  · subst h
    by_cases hn : k < n
    · rw [List.getElem?_range hn]; simp [hn]
    · have : (List.range n)[k]? = none := by rw [List.getElem?_eq_none_iff]; simpa using hn
      rw [this]; simp [hn]
  · rw [if_neg h]
    cases hb : (List.range n)[j]? with
    | none => rfl
    | some b =>
      have hj : j < n := by
        have := (List.getElem?_eq_some_iff.mp hb).1
        simpa using this
      rw [List.getElem?_range hj] at hb
      cases hb
      simp [Ne.symm h]
theorem pvF_I {ad : Nat → Nat → Nat} {σ : PvS} {κ k i : Nat} (h : (pvc κ k).1 = 0) : pvF ad σ κ k i = .int (σ.2.1 κ k i) := by
  unfold pvF
  generalize pvc κ k = q at h ⊢
  obtain ⟨a, b, d⟩ := q
  simp only at h
  subst h
  rfl
theorem pvF_R {ad : Nat → Nat → Nat} {σ : PvS} {κ k i : Nat} (h : (pvc κ k).1 = 3) : pvF ad σ κ k i = va_rf ((σ.2.2.1 κ k i).map (ad 3)) := by
  unfold pvF
  generalize pvc κ k = q at h ⊢
  obtain ⟨a, b, d⟩ := q
  simp only at h
  subst h
  rfl
theorem pvF_upI {ad : Nat → Nat → Nat} {σ : PvS} {κ k i κ' k' i' : Nat} {v : Int32} (h : ¬ (κ' = κ ∧ k' = k ∧ i' = i)) : pvF ad (pvI σ κ k i v) κ' k' i' = pvF ad σ κ' k' i' := by
  unfold pvF
  have : (pvI σ κ k i v).2.1 κ' k' i' = σ.2.1 κ' k' i' := up3_n _ _ h
  rw [this]
  rfl
theorem pvF_upR {ad : Nat → Nat → Nat} {σ : PvS} {κ k i κ' k' i' : Nat} {v : Option Nat} (h : ¬ (κ' = κ ∧ k' = k ∧ i' = i)) : pvF ad (pvR σ κ k i v) κ' k' i' = pvF ad σ κ' k' i' := by
  unfold pvF
  have : (pvR σ κ k i v).2.2.1 κ' k' i' = σ.2.2.1 κ' k' i' := up3_n _ _ h
  rw [this]
  rfl
/-- a number is put into a field -/
theorem pvO_putI {cy : Nat → ClassId} {ad : Nat → Nat → Nat} {σ : PvS} {L : List Nat} {f : Nat → va_E} {κ k i : Nat} {v : Int32} (h : pvO cy ad σ L f) (hi : i < pvM σ κ) (hκ : κ ≤ 9) (hk : (pvc κ k).1 = 0) (hx : ¬ (κ = 3 ∧ k = 1)) :
    pvO cy ad (pvI σ κ k i v) L (va_up f (ad κ i) (.inr (κ + 1, ((List.range (pvN κ)).map (fun k => pvF ad σ κ k i)).set k (.int v)))) := by
  refine ⟨fun κ' i' h' => ⟨(h.1 κ' i' h').1, ?_⟩, h.2⟩
  by_cases hs : κ' = κ ∧ i' = i
  · obtain ⟨rfl, rfl⟩ := hs
    rw [va_up_self, pvE_obj hκ, pv_set]
    congr 2
    apply List.map_congr_left
    intro j _
    by_cases hj : j = k
    · subst hj
      rw [if_pos rfl, pvF_I hk]
      show _ = Value.int (up3 _ _ _ _ _ _ _ _)
      rw [up3_s]
    · rw [if_neg hj, pvF_upI (fun q => hj q.2.1)]
  · rw [va_up_ne _ _ (fun q => hs (by obtain ⟨a, b⟩ := h.2 _ _ _ _ h' hi q; exact ⟨a, b⟩)), (h.1 κ' i' h').2]
    unfold pvE
    split
    · congr 2
      apply List.map_congr_left
      intro j _
      exact (pvF_upI (fun q => hs ⟨q.1, q.2.2⟩)).symm
    · have hl : pvLen (pvI σ κ k i v) κ' i' = pvLen σ κ' i' := by
        unfold pvLen
        have : (pvI σ κ k i v).2.1 3 1 i' = σ.2.1 3 1 i' := up3_n _ _ (fun q => hx ⟨q.1.symm, q.2.1.symm⟩)
        have h51 : (pvI σ κ k i v).2.1 51 0 i' = σ.2.1 51 0 i' := up3_n _ _ (fun q => by omega)
        rw [this, h51]
      have hl51 : pvLen (pvI σ κ k i v) 51 i' = pvLen σ 51 i' := by
        unfold pvLen
        have : (pvI σ κ k i v).2.1 3 1 i' = σ.2.1 3 1 i' := up3_n _ _ (fun q => hx ⟨q.1.symm, q.2.1.symm⟩)
        have h51 : (pvI σ κ k i v).2.1 51 0 i' = σ.2.1 51 0 i' := up3_n _ _ (fun q => by omega)
        rw [this, h51]
      rw [hl, hl51]
      rfl
/-- a node is put into a field -/
theorem pvO_putR {cy : Nat → ClassId} {ad : Nat → Nat → Nat} {σ : PvS} {L : List Nat} {f : Nat → va_E} {κ k i : Nat} {v : Option Nat} (h : pvO cy ad σ L f) (hi : i < pvM σ κ) (hκ : κ ≤ 9) (hk : (pvc κ k).1 = 3) :
    pvO cy ad (pvR σ κ k i v) L (va_up f (ad κ i) (.inr (κ + 1, ((List.range (pvN κ)).map (fun k => pvF ad σ κ k i)).set k (va_rf (v.map (ad 3)))))) := by
  refine ⟨fun κ' i' h' => ⟨(h.1 κ' i' h').1, ?_⟩, h.2⟩
  by_cases hs : κ' = κ ∧ i' = i
  · obtain ⟨rfl, rfl⟩ := hs
    rw [va_up_self, pvE_obj hκ, pv_set]
    congr 2
    apply List.map_congr_left
    intro j _
    by_cases hj : j = k
    · subst hj
      rw [if_pos rfl, pvF_R hk]
      show _ = va_rf (Option.map _ (up3 _ _ _ _ _ _ _ _))
      rw [up3_s]
    · rw [if_neg hj, pvF_upR (fun q => hj q.2.1)]
  · rw [va_up_ne _ _ (fun q => hs (by obtain ⟨a, b⟩ := h.2 _ _ _ _ h' hi q; exact ⟨a, b⟩)), (h.1 κ' i' h').2]
    unfold pvE
    split
    · congr 2
      apply List.map_congr_left
      intro j _
      exact (pvF_upR (fun q => hs ⟨q.1, q.2.2⟩)).symm
    have hn : ∀ κ2 t, 9 < κ2 → (pvR σ κ k i v).2.2.1 κ2 t i' = σ.2.2.1 κ2 t i' := fun κ2 t h9 => up3_n _ _ (fun z => by omega)
    split
    · have : (fun t => ((pvR σ κ k i v).2.2.1 26 t i').map (ad 3)) = (fun t => (σ.2.2.1 26 t i').map (ad 3)) := by funext t; rw [hn 26 t (by decide)]
      rw [this]
    split
    · have : (fun t => ((pvR σ κ k i v).2.2.1 51 t i').map (ad 52)) = (fun t => (σ.2.2.1 51 t i').map (ad 52)) := by funext t; rw [hn 51 t (by decide)]
      rw [this]
      rfl
    · rfl
/-- a number is put into an array -/
theorem pvIA_of {κ : Nat} (h : pvIA κ = true) : 9 < κ ∧ κ ≠ 26 ∧ κ ≠ 34 ∧ κ ≠ 35 ∧ κ ≠ 51 := of_decide_eq_true h
theorem pvE_arr {cy : Nat → ClassId} {ad : Nat → Nat → Nat} {σ : PvS} {κ i : Nat} (h : pvIA κ = true) : pvE cy ad σ κ i = .inl (cy (if κ = 41 then 1 else 0), pvLen σ κ i, .inl (fun j => σ.2.2.2.1 κ i j)) := by
  obtain ⟨h9, h26, h34, h35, h51⟩ := pvIA_of h
  unfold pvE
  rw [if_neg (show ¬ κ ≤ 9 by omega), if_neg h26, if_neg h51, if_neg (show ¬ (κ = 34 ∨ κ = 35) by omega)]
theorem pvE_26 {cy : Nat → ClassId} {ad : Nat → Nat → Nat} {σ : PvS} {i : Nat} : pvE cy ad σ 26 i = .inl (cy 2, 800, .inr (.inr (.inr (.inr (fun j => (σ.2.2.1 26 j i).map (ad 3)))))) := rfl
theorem pvE_51 {cy : Nat → ClassId} {ad : Nat → Nat → Nat} {σ : PvS} {i : Nat} : pvE cy ad σ 51 i = .inl (cy 4, pvLen σ 51 i, .inr (.inr (.inr (.inr (fun j => (σ.2.2.1 51 j i).map (ad 52)))))) := rfl
theorem pvE_row {cy : Nat → ClassId} {ad : Nat → Nat → Nat} {σ : PvS} {κ i : Nat} (h : κ = 34 ∨ κ = 35) : pvE cy ad σ κ i = .inl (cy 4, 40, .inr (.inr (.inr (.inr (fun j => if j < 40 then some (ad (κ + 2) (40 * i + j)) else none))))) := by
  rcases h with rfl | rfl <;> rfl
theorem pvO_putA {cy : Nat → ClassId} {ad : Nat → Nat → Nat} {σ : PvS} {L : List Nat} {f : Nat → va_E} {κ i j : Nat} {v : Int32} (h : pvO cy ad σ L f) (hi : i < pvM σ κ) (hk : pvIA κ = true) :
    pvO cy ad (pvA σ κ i j v) L (va_up f (ad κ i) (.inl (cy (if κ = 41 then 1 else 0), pvLen σ κ i, .inl (upd (fun j => σ.2.2.2.1 κ i j) j v)))) := by
  refine ⟨fun κ' i' h' => ⟨(h.1 κ' i' h').1, ?_⟩, h.2⟩
  by_cases hs : κ' = κ ∧ i' = i
  · obtain ⟨rfl, rfl⟩ := hs
    rw [va_up_self, pvE_arr hk]
    have e1 : (fun q => (pvA σ κ' i' j v).2.2.2.1 κ' i' q) = upd (fun j => σ.2.2.2.1 κ' i' j) j v := by
      funext q
      show up3 _ _ _ _ _ _ _ _ = _
      unfold upd up3
      simp
    rw [e1]
    rfl
  · rw [va_up_ne _ _ (fun q => hs (by obtain ⟨a, b⟩ := h.2 _ _ _ _ h' hi q; exact ⟨a, b⟩)), (h.1 κ' i' h').2]
    unfold pvE
    split
    · rfl
    split
    · rfl
    split
    · rfl
    split
    · rfl
    have : (fun q => (pvA σ κ i j v).2.2.2.1 κ' i' q) = (fun q => σ.2.2.2.1 κ' i' q) := by
      funext q
      exact up3_n _ _ (fun z => hs ⟨z.1, z.2.1⟩)
    rw [this]
    rfl
/-- an object is put into an array of references: the texts that wait, the rows of the law's -/
theorem pvO_putQ {cy : Nat → ClassId} {ad : Nat → Nat → Nat} {σ : PvS} {L : List Nat} {f : Nat → va_E} {κ i j : Nat} {v : Option Nat} (h : pvO cy ad σ L f) (hi : i < pvM σ κ) (hk : κ = 26 ∨ κ = 51) :
    pvO cy ad (pvR σ κ j i v) L (va_up f (ad κ i) (.inl (cy (if κ = 51 then 4 else 2), (if κ = 51 then pvLen σ 51 i else 800), .inr (.inr (.inr (.inr (va_up (fun t => (σ.2.2.1 κ t i).map (ad (pvRk κ))) j (v.map (ad (pvRk κ)))))))))) := by
  refine ⟨fun κ' i' h' => ⟨(h.1 κ' i' h').1, ?_⟩, h.2⟩
  have e1 : ∀ t, (pvR σ κ j i v).2.2.1 κ t i = va_up (fun t => σ.2.2.1 κ t i) j v t := by
    intro t
    show up3 _ _ _ _ _ _ _ _ = _
    unfold up3 va_up
    simp
  have e2 : (fun t => ((pvR σ κ j i v).2.2.1 κ t i).map (ad (pvRk κ))) = va_up (fun t => (σ.2.2.1 κ t i).map (ad (pvRk κ))) j (v.map (ad (pvRk κ))) := by
    funext t
    rw [e1 t]
    unfold va_up
    split <;> rfl
  by_cases hs : κ' = κ ∧ i' = i
  · obtain ⟨rfl, rfl⟩ := hs
    rw [va_up_self]
    rcases hk with rfl | rfl
    · rw [pvE_26]; rw [← show _ = _ from e2]; rfl
    · rw [pvE_51]; rw [← show _ = _ from e2]; rfl
  · rw [va_up_ne _ _ (fun q => hs (by obtain ⟨a, b⟩ := h.2 _ _ _ _ h' hi q; exact ⟨a, b⟩)), (h.1 κ' i' h').2]
    have hn : ∀ κ2 t, (κ2 = κ' ∨ κ2 ≤ 9) → (pvR σ κ j i v).2.2.1 κ2 t i' = σ.2.2.1 κ2 t i' := fun κ2 t h9 => up3_n _ _ (fun z => by
      rcases h9 with h9 | h9
      · exact hs ⟨by rw [← h9]; exact z.1, z.2.2⟩
      · rcases hk with e | e <;> omega)
    unfold pvE
    split
    · congr 2
      apply List.map_congr_left
      intro k _
      unfold pvF
      rw [hn κ' k (Or.inl rfl)]
      rfl
    split
    · rename_i z1 z2
      subst z2
      have : (fun t => ((pvR σ κ j i v).2.2.1 26 t i').map (ad 3)) = (fun t => (σ.2.2.1 26 t i').map (ad 3)) := by funext t; rw [hn 26 t (Or.inl rfl)]
      rw [this]
    split
    · rename_i z1 z2 z3
      subst z3
      have : (fun t => ((pvR σ κ j i v).2.2.1 51 t i').map (ad 52)) = (fun t => (σ.2.2.1 51 t i').map (ad 52)) := by funext t; rw [hn 51 t (Or.inl rfl)]
      rw [this]
      rfl
    · rfl
/-- a list is changed -/
theorem pvO_putL {cy : Nat → ClassId} {ad : Nat → Nat → Nat} {σ : PvS} {L : List Nat} {f : Nat → va_E} {j : Nat} {v : List Nat} (h : pvO cy ad σ L f) : pvO cy ad (pvL σ j v) L f := h
/-- what is so of counts -/
theorem pvM_c {σ τ : PvS} (h : τ.1 = σ.1) (κ : Nat) : pvM τ κ = pvM σ κ := by unfold pvM; rw [h]
theorem lt_c {σ τ : PvS} {i : Nat} (h : τ.1 = σ.1) (κ : Nat) (hi : i < pvM σ κ) : i < pvM τ κ := by rw [pvM_c h]; exact hi
theorem lt_l {σ τ : PvS} {j : Nat} (h : τ.1 = σ.1) (hj : j < σ.1 0 + 3) : j < τ.1 0 + 3 := by rw [h]; exact hj
/-- all that references say is there -/
def pvCl (σ : PvS) : Prop := 0 < σ.1 0 ∧ ∀ κ k i j, σ.2.2.1 κ k i = some j → j < pvM σ (pvRk κ)
theorem pvCl_c {σ τ : PvS} (h : pvCl σ) (h1 : τ.1 = σ.1) (h2 : τ.2.2.1 = σ.2.2.1) : pvCl τ := ⟨by rw [h1]; exact h.1, fun κ k i j q => by rw [pvM_c h1]; exact h.2 κ k i j (by rw [← h2]; exact q)⟩
theorem pvCl_R {σ : PvS} {κ k i : Nat} {v : Option Nat} (h : pvCl σ) (hv : ∀ j, v = some j → j < pvM σ (pvRk κ)) : pvCl (pvR σ κ k i v) := by
  refine ⟨h.1, fun κ' k' i' j q => ?_⟩
  by_cases hs : κ' = κ ∧ k' = k ∧ i' = i
  · obtain ⟨rfl, rfl, rfl⟩ := hs
    rw [show (pvR σ κ' k' i' v).2.2.1 κ' k' i' = v from up3_s _ _ _ _ _] at q
    exact hv j q
  · rw [show (pvR σ κ k i v).2.2.1 κ' k' i' = σ.2.2.1 κ' k' i' from up3_n _ _ hs] at q
    exact h.2 κ' k' i' j q
theorem pvI_1 (σ : PvS) (κ k i : Nat) (v : Int32) : (pvI σ κ k i v).1 = σ.1 := rfl
theorem pvI_R (σ : PvS) (κ k i : Nat) (v : Int32) : (pvI σ κ k i v).2.2.1 = σ.2.2.1 := rfl
theorem pvI_A (σ : PvS) (κ k i : Nat) (v : Int32) : (pvI σ κ k i v).2.2.2.1 = σ.2.2.2.1 := rfl
theorem pvI_L (σ : PvS) (κ k i : Nat) (v : Int32) : (pvI σ κ k i v).2.2.2.2 = σ.2.2.2.2 := rfl
theorem pvA_1 (σ : PvS) (κ i j : Nat) (v : Int32) : (pvA σ κ i j v).1 = σ.1 := rfl
theorem pvA_I (σ : PvS) (κ i j : Nat) (v : Int32) : (pvA σ κ i j v).2.1 = σ.2.1 := rfl
theorem pvA_R (σ : PvS) (κ i j : Nat) (v : Int32) : (pvA σ κ i j v).2.2.1 = σ.2.2.1 := rfl
theorem pvA_L (σ : PvS) (κ i j : Nat) (v : Int32) : (pvA σ κ i j v).2.2.2.2 = σ.2.2.2.2 := rfl
theorem pvR_1 (σ : PvS) (κ k i : Nat) (v : Option Nat) : (pvR σ κ k i v).1 = σ.1 := rfl
theorem pvR_I (σ : PvS) (κ k i : Nat) (v : Option Nat) : (pvR σ κ k i v).2.1 = σ.2.1 := rfl
theorem pvR_A (σ : PvS) (κ k i : Nat) (v : Option Nat) : (pvR σ κ k i v).2.2.2.1 = σ.2.2.2.1 := rfl
theorem pvR_L (σ : PvS) (κ k i : Nat) (v : Option Nat) : (pvR σ κ k i v).2.2.2.2 = σ.2.2.2.2 := rfl
theorem pvL_1 (σ : PvS) (j : Nat) (v : List Nat) : (pvL σ j v).1 = σ.1 := rfl
theorem pvL_I (σ : PvS) (j : Nat) (v : List Nat) : (pvL σ j v).2.1 = σ.2.1 := rfl
theorem pvL_R (σ : PvS) (j : Nat) (v : List Nat) : (pvL σ j v).2.2.1 = σ.2.2.1 := rfl
theorem pvL_A (σ : PvS) (j : Nat) (v : List Nat) : (pvL σ j v).2.2.2.1 = σ.2.2.2.1 := rfl
theorem pvI_at (σ : PvS) (κ k i κ' k' i' : Nat) (v : Int32) : (pvI σ κ k i v).2.1 κ' k' i' = if κ' = κ ∧ k' = k ∧ i' = i then v else σ.2.1 κ' k' i' := rfl
theorem pvA_at (σ : PvS) (κ i j κ' i' j' : Nat) (v : Int32) : (pvA σ κ i j v).2.2.2.1 κ' i' j' = if κ' = κ ∧ i' = i ∧ j' = j then v else σ.2.2.2.1 κ' i' j' := rfl
theorem pvR_at (σ : PvS) (κ k i κ' k' i' : Nat) (v : Option Nat) : (pvR σ κ k i v).2.2.1 κ' k' i' = if κ' = κ ∧ k' = k ∧ i' = i then v else σ.2.2.1 κ' k' i' := rfl
theorem pvL_at (σ : PvS) (j j' : Nat) (v : List Nat) : (pvL σ j v).2.2.2.2 j' = if j' = j then v else σ.2.2.2.2 j' := rfl
