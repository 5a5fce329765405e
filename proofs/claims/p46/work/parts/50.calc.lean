/-! PURE PART: runs that answer, one or two at once; numbers -/
def tot {α : Type} (o : Option α) (Q : α → Prop) : Prop := ∃ a, o = some a ∧ Q a
def rel {α β : Type} (o : Option α) (o' : Option β) (Q : α → β → Prop) : Prop := ∃ a b, o = some a ∧ o' = some b ∧ Q a b
section CALC
variable {α β γ α' β' γ' : Type}
theorem ob1_t {o : Option β} {K : β → Option α} {a : β} (h : o = some a) : ob1 o K = K a := by rw [h]; rfl
theorem ob2_t {o : Option (β × γ)} {K : β → γ → Option α} {a : β} {b : γ} (h : o = some (a, b)) : ob2 o K = K a b := by rw [h]; rfl
theorem gd_t {c : Prop} [Decidable c] {X : Option α} (h : c) : gd c X = X := if_pos h
theorem nm_t {a : β} {K : β → Option α} : nm a K = K a := rfl
theorem oc_st {X : Option α} {K : Nat → Option α} {j : Nat} : oc (some j) X K = K j := rfl
theorem oc_nt {X : Option α} {K : Nat → Option α} : oc none X K = X := rfl
theorem tot_some {Q : α → Prop} {a : α} (h : Q a) : tot (some a) Q := ⟨a, rfl, h⟩
theorem tot_eq {o : Option α} {Q : α → Prop} {a : α} (h : o = some a) (hq : Q a) : tot o Q := ⟨a, h, hq⟩
theorem tot_nm {a : β} {K : β → Option α} {Q : α → Prop} (h : tot (K a) Q) : tot (nm a K) Q := h
theorem tot_gd {c : Prop} [Decidable c] {X : Option α} {Q : α → Prop} (h : c) (k : tot X Q) : tot (gd c X) Q := by rw [gd_t h]; exact k
theorem tot_ob1 {o : Option β} {K : β → Option α} {P : β → Prop} {Q : α → Prop} (h : tot o P) (k : ∀ a, P a → tot (K a) Q) : tot (ob1 o K) Q := by
  obtain ⟨a, e, hp⟩ := h
  rw [ob1_t e]; exact k a hp
theorem tot_ob2 {o : Option (β × γ)} {K : β → γ → Option α} {P : β × γ → Prop} {Q : α → Prop} (h : tot o P) (k : ∀ a b, P (a, b) → tot (K a b) Q) : tot (ob2 o K) Q := by
  obtain ⟨⟨a, b⟩, e, hp⟩ := h
  rw [ob2_t e]; exact k a b hp
theorem tot_ite {c : Prop} [Decidable c] {X Y : Option α} {Q : α → Prop} (kt : c → tot X Q) (kf : ¬ c → tot Y Q) : tot (if c then X else Y) Q := by
  by_cases h : c
  · rw [if_pos h]; exact kt h
  · rw [if_neg h]; exact kf h
theorem tot_itp {c : Prop} [Decidable c] {X Y : Option α} {Q : α → Prop} (h : c) (k : tot X Q) : tot (if c then X else Y) Q := by rw [if_pos h]; exact k
theorem tot_itn {c : Prop} [Decidable c] {X Y : Option α} {Q : α → Prop} (h : ¬ c) (k : tot Y Q) : tot (if c then X else Y) Q := by rw [if_neg h]; exact k
theorem tot_ocs {X : Option α} {K : Nat → Option α} {j : Nat} {o : Option Nat} {Q : α → Prop} (h : o = some j) (k : tot (K j) Q) : tot (oc o X K) Q := by subst h; exact k
theorem tot_ocn {X : Option α} {K : Nat → Option α} {o : Option Nat} {Q : α → Prop} (h : o = none) (k : tot X Q) : tot (oc o X K) Q := by subst h; exact k
theorem tot_oc {X : Option α} {K : Nat → Option α} {o : Option Nat} {Q : α → Prop} (kn : o = none → tot X Q) (ks : ∀ j, o = some j → tot (K j) Q) : tot (oc o X K) Q := by
  cases o with
  | none => exact kn rfl
  | some j => exact ks j rfl
theorem tot_mono {o : Option α} {P Q : α → Prop} (h : tot o P) (k : ∀ a, P a → Q a) : tot o Q := by
  obtain ⟨a, e, hp⟩ := h
  exact ⟨a, e, k a hp⟩
theorem tot_same {o o' : Option α} {Q : α → Prop} (h : o' = o) (k : tot o Q) : tot o' Q := by rw [h]; exact k
variable {Q : α → α' → Prop}
theorem rel_some {a : α} {a' : α'} (h : Q a a') : rel (some a) (some a') Q := ⟨a, a', rfl, rfl, h⟩
theorem rel_nm {a : β} {a' : β'} {K : β → Option α} {K' : β' → Option α'} (h : rel (K a) (K' a') Q) : rel (nm a K) (nm a' K') Q := h
theorem rel_gd {c c' : Prop} [Decidable c] [Decidable c'] {X : Option α} {X' : Option α'} (h : c) (h' : c') (k : rel X X' Q) : rel (gd c X) (gd c' X') Q := by rw [gd_t h, gd_t h']; exact k
theorem rel_ob1 {o : Option β} {o' : Option β'} {K : β → Option α} {K' : β' → Option α'} {P : β → β' → Prop} (h : rel o o' P) (k : ∀ a a', P a a' → rel (K a) (K' a') Q) : rel (ob1 o K) (ob1 o' K') Q := by
  obtain ⟨a, a', e, e', hp⟩ := h
  rw [ob1_t e, ob1_t e']; exact k a a' hp
theorem rel_ob2 {o : Option (β × γ)} {o' : Option (β' × γ')} {K : β → γ → Option α} {K' : β' → γ' → Option α'} {P : β × γ → β' × γ' → Prop} (h : rel o o' P) (k : ∀ a b a' b', P (a, b) (a', b') → rel (K a b) (K' a' b') Q) : rel (ob2 o K) (ob2 o' K') Q := by
  obtain ⟨⟨a, b⟩, ⟨a', b'⟩, e, e', hp⟩ := h
  rw [ob2_t e, ob2_t e']; exact k a b a' b' hp
theorem rel_ite {c c' : Prop} [Decidable c] [Decidable c'] {X Y : Option α} {X' Y' : Option α'} (hc : c ↔ c') (kt : c → rel X X' Q) (kf : ¬ c → rel Y Y' Q) : rel (if c then X else Y) (if c' then X' else Y') Q := by
  by_cases h : c
  · rw [if_pos h, if_pos (hc.mp h)]; exact kt h
  · rw [if_neg h, if_neg (fun q => h (hc.mpr q))]; exact kf h
theorem rel_itp {c c' : Prop} [Decidable c] [Decidable c'] {X Y : Option α} {X' Y' : Option α'} (h : c) (h' : c') (k : rel X X' Q) : rel (if c then X else Y) (if c' then X' else Y') Q := by rw [if_pos h, if_pos h']; exact k
theorem rel_itn {c c' : Prop} [Decidable c] [Decidable c'] {X Y : Option α} {X' Y' : Option α'} (h : ¬ c) (h' : ¬ c') (k : rel Y Y' Q) : rel (if c then X else Y) (if c' then X' else Y') Q := by rw [if_neg h, if_neg h']; exact k
theorem rel_oc {X : Option α} {K : Nat → Option α} {X' : Option α'} {K' : Nat → Option α'} {o o' : Option Nat} (ho : o' = o) (kn : o = none → rel X X' Q) (ks : ∀ j, o = some j → rel (K j) (K' j) Q) : rel (oc o X K) (oc o' X' K') Q := by
  subst ho
  cases o' with
  | none => exact kn rfl
  | some j => exact ks j rfl
theorem rel_mono {o : Option α} {o' : Option α'} {P : α → α' → Prop} (h : rel o o' P) (k : ∀ a a', P a a' → Q a a') : rel o o' Q := by
  obtain ⟨a, a', e, e', hp⟩ := h
  exact ⟨a, a', e, e', k a a' hp⟩
theorem rel_same {o o1 : Option α} {o' o1' : Option α'} (h : o1 = o) (h' : o1' = o') (k : rel o o' Q) : rel o1 o1' Q := by rw [h, h']; exact k
theorem rel_tot {o : Option α} {o' : Option α'} (h : rel o o' Q) : tot o (fun a => ∃ a', o' = some a' ∧ Q a a') := by
  obtain ⟨a, a', e, e', hp⟩ := h
  exact ⟨a, e, a', e', hp⟩
theorem rel_tt {o : Option α} {o' : Option α'} {P : α → Prop} {P' : α' → Prop} (h : tot o P) (h' : tot o' P') (k : ∀ a a', P a → P' a' → Q a a') : rel o o' Q := by
  obtain ⟨a, e, hp⟩ := h
  obtain ⟨a', e', hp'⟩ := h'
  exact ⟨a, a', e, e', k a a' hp hp'⟩
end CALC
/-! numbers -/
theorem ti_add {a b : Int32} (h1 : -2147483648 ≤ a.toInt + b.toInt) (h2 : a.toInt + b.toInt < 2147483648) : (a + b).toInt = a.toInt + b.toInt := by
  rw [Int32.toInt_add]
  exact Int.bmod_eq_of_le (by omega) (by omega)
theorem ti_sub {a b : Int32} (h1 : -2147483648 ≤ a.toInt - b.toInt) (h2 : a.toInt - b.toInt < 2147483648) : (a - b).toInt = a.toInt - b.toInt := by
  rw [Int32.toInt_sub]
  exact Int.bmod_eq_of_le (by omega) (by omega)
theorem ti_mul {a b : Int32} (h1 : -2147483648 ≤ a.toInt * b.toInt) (h2 : a.toInt * b.toInt < 2147483648) : (a * b).toInt = a.toInt * b.toInt := by
  rw [Int32.toInt_mul]
  exact Int.bmod_eq_of_le (by omega) (by omega)
theorem ti_dbl {a : Int32} (h1 : -1073741824 ≤ a.toInt) (h2 : a.toInt < 1073741824) : (2 * a).toInt = 2 * a.toInt := by
  have e : (2 : Int32).toInt = 2 := rfl
  rw [ti_mul (by rw [e]; omega) (by rw [e]; omega), e]
theorem ti_half {a : Int32} (h1 : 0 ≤ a.toInt) : (a / 2).toInt = a.toInt / 2 := by
  have e : (2 : Int32).toInt = 2 := rfl
  have h2 := Int32.toInt_lt a
  rw [Int32.toInt_div, e, Int.tdiv_eq_ediv_of_nonneg h1]
  exact Int.bmod_eq_of_le (by omega) (by omega)
theorem ti_max {a b : Int32} : (imax a b).toInt = max a.toInt b.toInt := by
  by_cases h : a < b
  · have h' := Int32.lt_iff_toInt_lt.mp h
    rw [show imax a b = b from if_pos h]; omega
  · have h' : ¬ a.toInt < b.toInt := fun q => h (Int32.lt_iff_toInt_lt.mpr q)
    rw [show imax a b = a from if_neg h]; omega
theorem ti_min {a b : Int32} : (imin a b).toInt = min a.toInt b.toInt := by
  by_cases h : b < a
  · have h' := Int32.lt_iff_toInt_lt.mp h
    rw [show imin a b = b from if_pos h]; omega
  · have h' : ¬ b.toInt < a.toInt := fun q => h (Int32.lt_iff_toInt_lt.mpr q)
    rw [show imin a b = a from if_neg h]; omega
theorem ti_le {a b : Int32} : a ≤ b ↔ a.toInt ≤ b.toInt := Int32.le_iff_toInt_le
theorem ti_lt {a b : Int32} : a < b ↔ a.toInt < b.toInt := Int32.lt_iff_toInt_lt
theorem ti_eq {a b : Int32} : a = b ↔ a.toInt = b.toInt := Int32.toInt_inj.symm
theorem vin_i {x : Int32} {n : Nat} (h0 : 0 ≤ x.toInt) (h : x.toInt < n) : vin x n := by
  rintro (q | q)
  · have q := Int32.lt_iff_toInt_lt.mp q
    have e : (0 : Int32).toInt = 0 := rfl
    omega
  · have e := Int32.toNat_toInt x
    omega
theorem vin_n {i n : Nat} (h : i < n) (hn : n < 2 ^ 31) : vin (nI i) n := nI_in h hn
theorem ti_n {n : Nat} (h : n < 2 ^ 31) : (nI n).toInt = n := nI_toInt h
theorem cl_n {x : Int32} (h : 0 ≤ x.toInt) : ∃ j : Nat, x = nI j ∧ (j : Int) = x.toInt ∧ j < 2 ^ 31 := by
  have h2 := Int32.toInt_lt x
  refine ⟨x.toInt.toNat, ?_, by omega, by omega⟩
  apply Int32.toInt_inj.mp
  rw [nI_toInt (by omega)]
  omega
