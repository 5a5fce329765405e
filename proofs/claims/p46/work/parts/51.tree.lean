/-! PURE: the tree of a state -/
def chl (σ : PvS) : Nat → List Nat := fun u => σ.2.2.2.2 (u + 3)
def par (σ : PvS) : Nat → Option Nat := fun v => σ.2.2.1 3 8 v
/-- so many steps up -/
def upk (p : Nat → Option Nat) : Nat → Nat → Option Nat
  | 0, v => some v
  | k + 1, v => match p v with
    | none => none
    | some u => upk p k u
def pre (ch : Nat → List Nat) : Nat → Nat → List Nat
  | 0, _ => []
  | d + 1, u => u :: (ch u).flatMap (pre ch d)
theorem upk_s {p : Nat → Option Nat} {k v u : Nat} (h : p v = some u) : upk p (k + 1) v = upk p k u := by
  show (match p v with | none => none | some u => upk p k u) = _
  rw [h]
theorem upk_n {p : Nat → Option Nat} {k v : Nat} (h : p v = none) : upk p (k + 1) v = none := by
  show (match p v with | none => none | some u => upk p k u) = _
  rw [h]
theorem upk_inv {p : Nat → Option Nat} {k v w : Nat} (h : upk p (k + 1) v = some w) : ∃ u, p v = some u ∧ upk p k u = some w := by
  cases e : p v with
  | none => rw [upk_n e] at h; cases h
  | some u => rw [upk_s e] at h; exact ⟨u, rfl, h⟩
/-- the last step apart -/
theorem upk_last {p : Nat → Option Nat} : ∀ {k v w : Nat}, upk p (k + 1) v = some w ↔ ∃ c, upk p k v = some c ∧ p c = some w := by
  intro k
  induction k with
  | zero =>
    intro v w
    constructor
    · intro h
      obtain ⟨u, h1, h2⟩ := upk_inv h
      cases h2
      exact ⟨v, rfl, h1⟩
    · rintro ⟨c, h1, h2⟩
      cases h1
      rw [upk_s h2]; rfl
  | succ k ih =>
    intro v w
    constructor
    · intro h
      obtain ⟨u, h1, h2⟩ := upk_inv h
      obtain ⟨c, h3, h4⟩ := ih.mp h2
      exact ⟨c, by rw [upk_s h1]; exact h3, h4⟩
    · rintro ⟨c, h1, h2⟩
      obtain ⟨u, h3, h4⟩ := upk_inv h1
      rw [upk_s h3]
      exact ih.mpr ⟨c, h4, h2⟩
theorem upk_add {p : Nat → Option Nat} {j : Nat} : ∀ {k v c : Nat}, upk p k v = some c → upk p (k + j) v = upk p j c := by
  intro k
  induction k with
  | zero => intro v c h; cases h; rw [Nat.zero_add]
  | succ k ih =>
    intro v c h
    obtain ⟨u, h1, h2⟩ := upk_inv h
    rw [show k + 1 + j = (k + j) + 1 by omega, upk_s h1]
    exact ih h2
/-- what is so of the tree of a state -/
def WFc (σ : PvS) : Prop :=
  (1 ≤ σ.1 0 ∧ σ.1 0 ≤ 15) ∧ σ.2.2.2.2 0 = List.range (σ.1 0) ∧
  (∀ u, u < σ.1 0 → σ.2.1 3 0 u = nI u ∧ is01 (σ.2.1 3 1 u) ∧ is01 (σ.2.1 3 13 u)) ∧
  (σ.2.1 3 1 0 = 0 ∧ par σ 0 = none) ∧
  (∀ u v, u < σ.1 0 → (v ∈ chl σ u ↔ v < σ.1 0 ∧ par σ v = some u)) ∧
  (∀ u, u < σ.1 0 → (chl σ u).Nodup) ∧
  (∀ v u, v < σ.1 0 → par σ v = some u → u < σ.1 0 ∧ σ.2.1 3 1 u = 0) ∧
  (∃ dp : Nat → Nat, (∀ v, v < σ.1 0 → dp v ≤ 10) ∧ (∀ v, v < σ.1 0 → par σ v = none → dp v = 0) ∧ ∀ v u, v < σ.1 0 → par σ v = some u → dp v = dp u + 1)
/-- and of the list of what is there -/
def WFt (σ : PvS) : Prop := WFc σ ∧ σ.2.2.2.2 1 = pre (chl σ) 11 0 ∧ (∀ u, u < σ.1 0 → (σ.2.1 3 13 u = 0 ↔ u ∈ σ.2.2.2.2 1))
theorem WFc.n {σ : PvS} (h : WFc σ) : 1 ≤ σ.1 0 ∧ σ.1 0 ≤ 15 := h.1
theorem WFc.l0 {σ : PvS} (h : WFc σ) : σ.2.2.2.2 0 = List.range (σ.1 0) := h.2.1
theorem WFc.num {σ : PvS} (h : WFc σ) {u : Nat} (hu : u < σ.1 0) : σ.2.1 3 0 u = nI u := (h.2.2.1 u hu).1
theorem WFc.tx {σ : PvS} (h : WFc σ) {u : Nat} (hu : u < σ.1 0) : is01 (σ.2.1 3 1 u) := (h.2.2.1 u hu).2.1
theorem WFc.g01 {σ : PvS} (h : WFc σ) {u : Nat} (hu : u < σ.1 0) : is01 (σ.2.1 3 13 u) := (h.2.2.1 u hu).2.2
theorem WFc.root {σ : PvS} (h : WFc σ) : σ.2.1 3 1 0 = 0 ∧ par σ 0 = none := h.2.2.2.1
theorem WFc.ch {σ : PvS} (h : WFc σ) {u v : Nat} (hu : u < σ.1 0) : v ∈ chl σ u ↔ v < σ.1 0 ∧ par σ v = some u := h.2.2.2.2.1 u v hu
theorem WFc.chn {σ : PvS} (h : WFc σ) {u : Nat} (hu : u < σ.1 0) : (chl σ u).Nodup := h.2.2.2.2.2.1 u hu
theorem WFc.pa {σ : PvS} (h : WFc σ) {u v : Nat} (hv : v < σ.1 0) (e : par σ v = some u) : u < σ.1 0 ∧ σ.2.1 3 1 u = 0 := h.2.2.2.2.2.2.1 v u hv e
theorem WFc.dp {σ : PvS} (h : WFc σ) : ∃ dp : Nat → Nat, (∀ v, v < σ.1 0 → dp v ≤ 10) ∧ (∀ v, v < σ.1 0 → par σ v = none → dp v = 0) ∧ ∀ v u, v < σ.1 0 → par σ v = some u → dp v = dp u + 1 := h.2.2.2.2.2.2.2
theorem WFc.up_lt {σ : PvS} (h : WFc σ) : ∀ {k v u : Nat}, v < σ.1 0 → upk (par σ) k v = some u → u < σ.1 0 := by
  intro k
  induction k with
  | zero => intro v u hv e; cases e; exact hv
  | succ k ih =>
    intro v u hv e
    obtain ⟨w, e1, e2⟩ := upk_inv e
    exact ih (h.pa hv e1).1 e2
theorem up_dp {σ : PvS} (h : WFc σ) {dp : Nat → Nat} (hd : ∀ v u, v < σ.1 0 → par σ v = some u → dp v = dp u + 1) : ∀ {k v u : Nat}, v < σ.1 0 → upk (par σ) k v = some u → dp v = dp u + k := by
  intro k
  induction k with
  | zero => intro v u hv e; cases e; rfl
  | succ k ih =>
    intro v u hv e
    obtain ⟨w, e1, e2⟩ := upk_inv e
    have := hd v w hv e1
    have := ih (h.pa hv e1).1 e2
    omega
/-- who is in the list from a node on -/
theorem WFc.mem_pre {σ : PvS} (h : WFc σ) : ∀ {d u v : Nat}, u < σ.1 0 → (v ∈ pre (chl σ) d u ↔ v < σ.1 0 ∧ ∃ k, k < d ∧ upk (par σ) k v = some u) := by
  intro d
  induction d with
  | zero => intro u v hu; exact ⟨(fun q => nomatch q), fun ⟨_, k, q, _⟩ => absurd q (Nat.not_lt_zero k)⟩
  | succ d ih =>
    intro u v hu
    show v ∈ u :: (chl σ u).flatMap (pre (chl σ) d) ↔ _
    rw [List.mem_cons, List.mem_flatMap]
    constructor
    · rintro (rfl | ⟨c, hc, hv⟩)
      · exact ⟨hu, 0, Nat.succ_pos d, rfl⟩
      · obtain ⟨c1, c2⟩ := (h.ch hu).mp hc
        obtain ⟨v1, k, k1, k2⟩ := (ih c1).mp hv
        exact ⟨v1, k + 1, Nat.succ_lt_succ k1, upk_last.mpr ⟨c, k2, c2⟩⟩
    · rintro ⟨hv, k, k1, k2⟩
      cases k with
      | zero => cases k2; exact Or.inl rfl
      | succ k =>
        obtain ⟨c, c1, c2⟩ := upk_last.mp k2
        have hc := h.up_lt hv c1
        exact Or.inr ⟨c, (h.ch hu).mpr ⟨hc, c2⟩, (ih hc).mpr ⟨hv, k, Nat.lt_of_succ_lt_succ k1, c1⟩⟩
theorem WFc.nodup_pre {σ : PvS} (h : WFc σ) : ∀ {d u : Nat}, u < σ.1 0 → (pre (chl σ) d u).Nodup := by
  obtain ⟨dp, d1, d2, d3⟩ := h.dp
  intro d
  induction d with
  | zero => intro u hu; exact List.nodup_nil
  | succ d ih =>
    intro u hu
    show (u :: (chl σ u).flatMap (pre (chl σ) d)).Nodup
    rw [List.nodup_cons]
    refine ⟨fun q => ?_, ?_⟩
    · obtain ⟨c, c1, c2⟩ := List.mem_flatMap.mp q
      obtain ⟨c3, c4⟩ := (h.ch hu).mp c1
      obtain ⟨-, k, -, k2⟩ := (h.mem_pre c3).mp c2
      have a1 := up_dp h d3 hu k2
      have a2 := d3 c u c3 c4
      omega
    · show List.Pairwise (fun a b => a ≠ b) _
      rw [List.pairwise_flatMap]
      refine ⟨fun c hc => ih ((h.ch hu).mp hc).1, ?_⟩
      have hn := h.chn hu
      rw [List.nodup_iff_pairwise_ne] at hn
      refine hn.imp_of_mem (fun {a b} ha hb hab => ?_)
      intro x hx y hy e
      subst e
      obtain ⟨a1, a2⟩ := (h.ch hu).mp ha
      obtain ⟨b1, b2⟩ := (h.ch hu).mp hb
      obtain ⟨x1, k, -, k2⟩ := (h.mem_pre a1).mp hx
      obtain ⟨-, j, -, j2⟩ := (h.mem_pre b1).mp hy
      have q1 := up_dp h d3 x1 k2
      have q2 := up_dp h d3 x1 j2
      have q3 := d3 a u a1 a2
      have q4 := d3 b u b1 b2
      have : k = j := by omega
      subst this
      rw [k2] at j2
      cases j2
      exact hab rfl
theorem WFc.len_pre {σ : PvS} (h : WFc σ) {d u : Nat} (hu : u < σ.1 0) : (pre (chl σ) d u).length ≤ σ.1 0 := by
  have := List.Nodup.length_le_of_subset (h.nodup_pre (d := d) hu) (l₂ := List.range (σ.1 0)) (fun v hv => List.mem_range.mpr ((h.mem_pre hu).mp hv).1)
  rwa [List.length_range] at this
theorem WFc.chlen {σ : PvS} (h : WFc σ) {u : Nat} (hu : u < σ.1 0) : (chl σ u).length ≤ σ.1 0 := by
  have := List.Nodup.length_le_of_subset (h.chn hu) (l₂ := List.range (σ.1 0)) (fun v hv => List.mem_range.mpr ((h.ch hu).mp hv).1)
  rwa [List.length_range] at this
/-- parents come first -/
def okl (p : Nat → Option Nat) : List Nat → List Nat → Prop
  | _, [] => True
  | S, v :: l => (∀ u, p v = some u → u ∈ S) ∧ okl p (v :: S) l
theorem okl_mono {p : Nat → Option Nat} : ∀ {l S S' : List Nat}, (∀ x ∈ S, x ∈ S') → okl p S l → okl p S' l := by
  intro l
  induction l with
  | nil => intros; trivial
  | cons v l ih =>
    intro S S' hS hl
    exact ⟨fun u e => hS u (hl.1 u e), ih (fun x hx => by
      rcases List.mem_cons.mp hx with q | q
      · rw [q]; exact List.mem_cons_self
      · exact List.mem_cons_of_mem _ (hS x q)) hl.2⟩
theorem okl_app {p : Nat → Option Nat} : ∀ {l1 l2 S : List Nat}, okl p S l1 → okl p S l2 → okl p S (l1 ++ l2) := by
  intro l1
  induction l1 with
  | nil => intro l2 S _ h; exact h
  | cons v l ih =>
    intro l2 S h1 h2
    exact ⟨h1.1, ih h1.2 (okl_mono (fun x hx => List.mem_cons_of_mem _ hx) h2)⟩
theorem WFc.okl_pre {σ : PvS} (h : WFc σ) : ∀ {d u : Nat} {S : List Nat}, u < σ.1 0 → (∀ w, par σ u = some w → w ∈ S) → okl (par σ) S (pre (chl σ) d u) := by
  intro d
  induction d with
  | zero => intros; trivial
  | succ d ih =>
    intro u S hu hS
    refine ⟨hS, ?_⟩
    have key : ∀ cs : List Nat, (∀ c ∈ cs, c ∈ chl σ u) → okl (par σ) (u :: S) (cs.flatMap (pre (chl σ) d)) := by
      intro cs
      induction cs with
      | nil => intro _; trivial
      | cons c cs ihc =>
        intro hc
        rw [List.flatMap_cons]
        have hcu := (h.ch hu).mp (hc c List.mem_cons_self)
        exact okl_app (ih hcu.1 (fun w e => by rw [hcu.2] at e; cases e; exact List.mem_cons_self)) (ihc (fun x hx => hc x (List.mem_cons_of_mem _ hx)))
    exact key _ (fun _ q => q)
theorem WFt.c {σ : PvS} (h : WFt σ) : WFc σ := h.1
theorem WFt.l1 {σ : PvS} (h : WFt σ) : σ.2.2.2.2 1 = pre (chl σ) 11 0 := h.2.1
theorem WFt.gone {σ : PvS} (h : WFt σ) {u : Nat} (hu : u < σ.1 0) : σ.2.1 3 13 u = 0 ↔ u ∈ σ.2.2.2.2 1 := h.2.2 u hu
theorem WFt.n {σ : PvS} (h : WFt σ)  : 1 ≤ σ.1 0 ∧ σ.1 0 ≤ 15 := h.1.n
theorem WFt.l0 {σ : PvS} (h : WFt σ)  : σ.2.2.2.2 0 = List.range (σ.1 0) := h.1.l0
theorem WFt.num {σ : PvS} (h : WFt σ) {u : Nat} (hu : u < σ.1 0) : σ.2.1 3 0 u = nI u := h.1.num hu
theorem WFt.tx {σ : PvS} (h : WFt σ) {u : Nat} (hu : u < σ.1 0) : is01 (σ.2.1 3 1 u) := h.1.tx hu
theorem WFt.root {σ : PvS} (h : WFt σ)  : σ.2.1 3 1 0 = 0 ∧ par σ 0 = none := h.1.root
theorem WFt.ch {σ : PvS} (h : WFt σ) {u v : Nat} (hu : u < σ.1 0) : v ∈ chl σ u ↔ v < σ.1 0 ∧ par σ v = some u := h.1.ch hu
theorem WFt.chn {σ : PvS} (h : WFt σ) {u : Nat} (hu : u < σ.1 0) : (chl σ u).Nodup := h.1.chn hu
theorem WFt.chlen {σ : PvS} (h : WFt σ) {u : Nat} (hu : u < σ.1 0) : (chl σ u).length ≤ σ.1 0 := h.1.chlen hu
theorem WFt.pa {σ : PvS} (h : WFt σ) {u v : Nat} (hv : v < σ.1 0) (e : par σ v = some u) : u < σ.1 0 ∧ σ.2.1 3 1 u = 0 := h.1.pa hv e
theorem WFt.dp {σ : PvS} (h : WFt σ) : ∃ dp : Nat → Nat, (∀ v, v < σ.1 0 → dp v ≤ 10) ∧ (∀ v, v < σ.1 0 → par σ v = none → dp v = 0) ∧ ∀ v u, v < σ.1 0 → par σ v = some u → dp v = dp u + 1 := h.1.dp
abbrev alive (σ : PvS) (v : Nat) : Prop := v ∈ σ.2.2.2.2 1
theorem WFt.alive_iff {σ : PvS} (h : WFt σ) {v : Nat} : alive σ v ↔ v < σ.1 0 ∧ ∃ k, upk (par σ) k v = some 0 := by
  unfold alive
  rw [h.l1, h.1.mem_pre (by have := h.n; omega)]
  obtain ⟨dp, d1, d2, d3⟩ := h.dp
  constructor
  · rintro ⟨h1, k, -, h2⟩; exact ⟨h1, k, h2⟩
  · rintro ⟨h1, k, h2⟩
    have := up_dp h.1 d3 h1 h2
    have := d1 v h1
    exact ⟨h1, k, by omega, h2⟩
theorem WFt.alive_lt {σ : PvS} (h : WFt σ) {v : Nat} (a : alive σ v) : v < σ.1 0 := (h.alive_iff.mp a).1
theorem WFt.alive0 {σ : PvS} (h : WFt σ) : alive σ 0 := h.alive_iff.mpr ⟨by have := h.n; omega, 0, rfl⟩
theorem WFt.alive_par {σ : PvS} (h : WFt σ) {v u : Nat} (a : alive σ v) (e : par σ v = some u) : alive σ u := by
  obtain ⟨h1, k, h2⟩ := h.alive_iff.mp a
  cases k with
  | zero => cases h2; rw [h.root.2] at e; cases e
  | succ k =>
    rw [upk_s e] at h2
    exact h.alive_iff.mpr ⟨(h.pa h1 e).1, k, h2⟩
theorem WFt.alive_has {σ : PvS} (h : WFt σ) {v : Nat} (a : alive σ v) (h0 : v ≠ 0) : ∃ u, par σ v = some u := by
  obtain ⟨h1, k, h2⟩ := h.alive_iff.mp a
  cases k with
  | zero => cases h2; exact absurd rfl h0
  | succ k => obtain ⟨u, e, -⟩ := upk_inv h2; exact ⟨u, e⟩
theorem WFt.alive_child {σ : PvS} (h : WFt σ) {v u : Nat} (a : alive σ u) (hv : v < σ.1 0) (e : par σ v = some u) : alive σ v := by
  obtain ⟨h1, k, h2⟩ := h.alive_iff.mp a
  exact h.alive_iff.mpr ⟨hv, k + 1, by rw [upk_s e]; exact h2⟩
theorem WFt.nodup {σ : PvS} (h : WFt σ) : (σ.2.2.2.2 1).Nodup := by rw [h.l1]; exact h.1.nodup_pre (by have := h.n; omega)
theorem WFt.len {σ : PvS} (h : WFt σ) : (σ.2.2.2.2 1).length ≤ σ.1 0 := by rw [h.l1]; exact h.1.len_pre (by have := h.n; omega)
theorem okl_at {p : Nat → Option Nat} : ∀ {xs ys S : List Nat} {v u : Nat}, okl p S (xs ++ v :: ys) → p v = some u → u ∈ S ∨ u ∈ xs := by
  intro xs
  induction xs with
  | nil => intro ys S v u h e; exact Or.inl (h.1 u e)
  | cons x xs ih =>
    intro ys S v u h e
    rcases ih h.2 e with q | q
    · rcases List.mem_cons.mp q with q | q
      · rw [q]; exact Or.inr List.mem_cons_self
      · exact Or.inl q
    · exact Or.inr (List.mem_cons_of_mem _ q)
theorem WFt.first {σ : PvS} (h : WFt σ) {xs ys : List Nat} {v u : Nat} (hl : σ.2.2.2.2 1 = xs ++ v :: ys) (e : par σ v = some u) : u ∈ xs := by
  have k := h.1.okl_pre (d := 11) (u := 0) (S := []) (by have := h.n; omega) (fun w q => by rw [h.root.2] at q; cases q)
  rw [← h.l1, hl] at k
  rcases okl_at k e with q | q
  · cases q
  · exact q
