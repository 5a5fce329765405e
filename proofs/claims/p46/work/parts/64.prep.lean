/-! PURE: sorts, homes, edges -/
def sty (σ : PvS) (n p : Nat) : Int32 := σ.2.2.2.1 36 (40 * 0 + n) p
abbrev isbx (s : Int32) : Prop := s = 3 ∨ s = 4
def srtv (σ : PvS) (n : Nat) : Int32 := match par σ n with
  | none => 3
  | some _ => if σ.2.1 3 1 n = 0 then (if sty σ n 6 = 0 then (if sty σ n 0 = 1 then 3 else 2) else 4) else 1
def hmv (σ : PvS) (n : Nat) : Option Nat := match par σ n with
  | none => none
  | some u => if isbx (σ.2.1 2 0 u) then some u else σ.2.2.1 2 1 u
def scrv (σ : PvS) (n : Nat) : Int32 := if isbx (srtv σ n) ∧ sty σ n 11 = 1 then 1 else 0
theorem srtv_ne (σ : PvS) (n : Nat) : srtv σ n = 1 ∨ srtv σ n = 2 ∨ srtv σ n = 3 ∨ srtv σ n = 4 := by
  unfold srtv
  cases par σ n with
  | none => exact Or.inr (Or.inr (Or.inl rfl))
  | some u =>
    show (if _ then _ else _) = _ ∨ _
    by_cases h1 : σ.2.1 3 1 n = 0
    · by_cases h2 : sty σ n 6 = 0
      · by_cases h3 : sty σ n 0 = 1 <;> simp [h1, h2, h3]
      · simp [h1, h2]
    · simp [h1]
/-- what holds of styles that were worked out -/
def SR (σ : PvS) : Prop := ∀ n, alive σ n → ∀ p, p < 14 → srg p (sty σ n p)
theorem f_ofS {σ : PvS} (h : WFt σ) {n p : Nat} (a : alive σ n) (hp : p < 14) : f_X6_of σ 0 n (nI p) = some (sty σ n p) := by
  have := h.n
  have hn := h.alive_lt a
  exact f_of (h.num hn) (by omega) hp
theorem f_isBox (σ : PvS) (n : Nat) : f_X2_isBox σ n = some (if isbx (σ.2.1 2 0 n) then 1 else 0) := by
  unfold f_X2_isBox
  by_cases h1 : σ.2.1 2 0 n = 3
  · rw [if_pos h1, if_pos (Or.inl h1)]
  · by_cases h2 : σ.2.1 2 0 n = 4
    · rw [if_neg h1, if_pos h2, if_pos (Or.inr h2)]
    · rw [if_neg h1, if_neg h2, if_neg (fun q => q.elim h1 h2)]
theorem f_sortFor {σ : PvS} (h : WFt σ) (hs : SR σ) {n : Nat} (a : alive σ n) (hp : ∀ u, par σ n = some u → σ.2.1 2 0 u ≠ 0) : f_X4_sortFor σ n = some (srtv σ n) := by
  have o0 := f_ofS h a (p := 0) (by decide)
  have o6 := f_ofS h a (p := 6) (by decide)
  have r0 := hs n a 0 (by decide)
  have d0 : sty σ n 0 ≠ 0 := fun q => by
    rw [q] at r0
    exact absurd r0.1 (by decide)
  unfold f_X4_sortFor srtv
  rw [nm_t]
  show oc (par σ n) (some 3) (fun jo1 => nm (par σ n) (fun o2 => oc o2 none (fun jo2 => if σ.2.1 2 0 jo2 = 0 then some 0 else ob1 (f_X6_of σ 0 n (nI 0)) (fun r4 => if r4 = 0 then some 0 else if σ.2.1 3 1 n = 0 then ob1 (f_X6_of σ 0 n (nI 6)) (fun r11 => if r11 = 0 then ob1 (f_X6_of σ 0 n (nI 0)) (fun r17 => if r17 = 1 then some 3 else some 2) else some 4) else some 1)))) = _
  cases e : par σ n with
  | none => rfl
  | some u =>
    rw [oc_st, nm_t, oc_st, if_neg (hp u e), ob1_t o0, if_neg d0, ob1_t o6, ob1_t o0]
    by_cases h1 : σ.2.1 3 1 n = 0
    · rw [if_pos h1]
      by_cases h2 : sty σ n 6 = 0
      · rw [if_pos h2]
        by_cases h3 : sty σ n 0 = 1 <;> simp [h1, h2, h3]
      · rw [if_neg h2]; simp [h1, h2]
    · rw [if_neg h1]; simp [h1]
theorem f_homeFor (σ : PvS) (n : Nat) : f_X4_homeFor σ n = some (hmv σ n) := by
  unfold f_X4_homeFor hmv
  rw [nm_t]
  show oc (par σ n) (some none) (fun jo1 => nm (par σ n) (fun o2 => oc o2 none (fun jo2 => ob1 (f_X2_isBox σ jo2) (fun r3 => if r3 = 0 then nm (par σ n) (fun o9 => oc o9 none (fun jo9 => nm (σ.2.2.1 2 1 jo9) (fun o10 => some o10))) else nm (par σ n) (fun o11 => some o11))))) = _
  cases e : par σ n with
  | none => rfl
  | some u =>
    rw [oc_st, nm_t, oc_st, ob1_t (f_isBox σ u), nm_t, nm_t, oc_st]
    by_cases hb : isbx (σ.2.1 2 0 u)
    · simp only [if_pos hb]; rfl
    · simp only [if_neg hb]; rfl
def frP (σ τ : PvS) : Prop := τ.1 = σ.1 ∧ (∀ κ q i, ¬ (κ = 2 ∧ (q = 0 ∨ q = 2 ∨ q = 3 ∨ q = 4)) → τ.2.1 κ q i = σ.2.1 κ q i) ∧ (∀ κ q i, ¬ (κ = 2 ∧ q = 1) → τ.2.2.1 κ q i = σ.2.2.1 κ q i) ∧ τ.2.2.2.1 = σ.2.2.2.1 ∧ τ.2.2.2.2 = σ.2.2.2.2
theorem frP.refl {σ : PvS} : frP σ σ := ⟨rfl, fun _ _ _ _ => rfl, fun _ _ _ _ => rfl, rfl, rfl⟩
theorem frP.trans {σ τ ρ : PvS} (h : frP σ τ) (g : frP τ ρ) : frP σ ρ :=
  ⟨g.1.trans h.1, fun κ q i z => (g.2.1 κ q i z).trans (h.2.1 κ q i z), fun κ q i z => (g.2.2.1 κ q i z).trans (h.2.2.1 κ q i z), g.2.2.2.1.trans h.2.2.2.1, g.2.2.2.2.trans h.2.2.2.2⟩
theorem frP.dc {σ τ : PvS} (h : frP σ τ) : dc τ = dc σ :=
  dc_eq h.1 (fun κ q i e => h.2.1 κ q i (fun z => by rw [z.1] at e; cases e)) (fun k i => h.2.2.1 3 k i (fun z => absurd z.1 (by decide))) (fun κ i j _ => by rw [h.2.2.2.1]) h.2.2.2.2
theorem frP.sty {σ τ : PvS} (h : frP σ τ) (n p : Nat) : sty τ n p = sty σ n p := by show τ.2.2.2.1 36 (40 * 0 + n) p = _; rw [h.2.2.2.1]; rfl
/-- one node's -/
def Pr1 (σ : PvS) (n : Nat) : Prop := σ.2.1 2 0 n = srtv σ n ∧ σ.2.2.1 2 1 n = hmv σ n ∧ σ.2.1 2 2 n = sty σ n 5 + sty σ n 4 ∧ σ.2.1 2 3 n = sty σ n 5 + sty σ n 4 + sty σ n 3 ∧ σ.2.1 2 4 n = scrv σ n
theorem frP_put {σ : PvS} {q n : Nat} {v : Int32} (h : q = 0 ∨ q = 2 ∨ q = 3 ∨ q = 4) : frP σ (pvI σ 2 q n v) :=
  ⟨rfl, fun κ k i z => by rw [pvI_at, if_neg (fun w => z ⟨w.1, by rw [w.2.1]; exact h⟩)], fun _ _ _ _ => rfl, rfl, rfl⟩
theorem frP_putR {σ : PvS} {n : Nat} {v : Option Nat} : frP σ (pvR σ 2 1 n v) :=
  ⟨rfl, fun _ _ _ _ => rfl, fun κ k i z => by rw [pvR_at, if_neg (fun w => z ⟨w.1, w.2.1⟩)], rfl, rfl⟩
def prep1 (σ : PvS) (n : Nat) : PvS := pvI (pvI (pvI (pvR (pvI σ 2 0 n (srtv σ n)) 2 1 n (hmv σ n)) 2 2 n (sty σ n 5 + sty σ n 4)) 2 3 n (sty σ n 5 + sty σ n 4 + sty σ n 3)) 2 4 n (scrv σ n)
theorem prep1_fr (σ : PvS) (n : Nat) : frP σ (prep1 σ n) :=
  ((((frP_put (Or.inl rfl)).trans frP_putR).trans (frP_put (Or.inr (Or.inl rfl)))).trans (frP_put (Or.inr (Or.inr (Or.inl rfl))))).trans (frP_put (Or.inr (Or.inr (Or.inr rfl))))
theorem prep1_ne (σ : PvS) {n m : Nat} (h : m ≠ n) : (∀ q, (prep1 σ n).2.1 2 q m = σ.2.1 2 q m) ∧ (prep1 σ n).2.2.1 2 1 m = σ.2.2.1 2 1 m := by
  constructor
  · intro q
    unfold prep1
    rw [pvI_at, if_neg (fun z => h z.2.2), pvI_at, if_neg (fun z => h z.2.2), pvI_at, if_neg (fun z => h z.2.2)]
    show (pvI σ 2 0 n (srtv σ n)).2.1 2 q m = _
    rw [pvI_at, if_neg (fun z => h z.2.2)]
  · show (pvR _ 2 1 n _).2.2.1 2 1 m = _
    rw [pvR_at, if_neg (fun z => h z.2.2)]; rfl
theorem prep1_at (σ : PvS) (n : Nat) : (prep1 σ n).2.1 2 0 n = srtv σ n ∧ (prep1 σ n).2.2.1 2 1 n = hmv σ n ∧ (prep1 σ n).2.1 2 2 n = sty σ n 5 + sty σ n 4 ∧ (prep1 σ n).2.1 2 3 n = sty σ n 5 + sty σ n 4 + sty σ n 3 ∧ (prep1 σ n).2.1 2 4 n = scrv σ n := by
  unfold prep1
  refine ⟨?_, ?_, ?_, ?_, ?_⟩
  · rw [pvI_at, if_neg (by omega), pvI_at, if_neg (by omega), pvI_at, if_neg (by omega)]
    show (pvI σ 2 0 n (srtv σ n)).2.1 2 0 n = _
    rw [pvI_at, if_pos ⟨rfl, rfl, rfl⟩]
  · show (pvR _ 2 1 n _).2.2.1 2 1 n = _
    rw [pvR_at, if_pos ⟨rfl, rfl, rfl⟩]
  · rw [pvI_at, if_neg (by omega), pvI_at, if_neg (by omega), pvI_at, if_pos ⟨rfl, rfl, rfl⟩]
  · rw [pvI_at, if_neg (by omega), pvI_at, if_pos ⟨rfl, rfl, rfl⟩]
  · rw [pvI_at, if_pos ⟨rfl, rfl, rfl⟩]
theorem srtv_fr {σ τ : PvS} (h : frP σ τ) (n : Nat) : srtv τ n = srtv σ n := by
  unfold srtv
  rw [dc_par h.dc, dc_I h.dc rfl, h.sty, h.sty]
theorem scrv_fr {σ τ : PvS} (h : frP σ τ) (n : Nat) : scrv τ n = scrv σ n := by
  unfold scrv
  rw [srtv_fr h, h.sty]
theorem Pr1_ne {σ : PvS} (ht : WFt σ) {n m : Nat} (hm : Pr1 σ m) (hmn : m ≠ n) (hp : ∀ u, par σ m = some u → u ≠ n) : Pr1 (prep1 σ n) m := by
  have fr := prep1_fr σ n
  obtain ⟨e1, e2⟩ := prep1_ne σ hmn
  unfold Pr1
  rw [e1, e1, e1, e1, e2, srtv_fr fr, scrv_fr fr, fr.sty, fr.sty, fr.sty]
  refine ⟨hm.1, ?_, hm.2.2⟩
  rw [hm.2.1]
  unfold hmv
  rw [dc_par fr.dc]
  cases e : par σ m with
  | none => rfl
  | some u =>
    obtain ⟨u1, u2⟩ := prep1_ne σ (hp u e)
    show (if isbx (σ.2.1 2 0 u) then some u else σ.2.2.1 2 1 u) = (if isbx ((prep1 σ n).2.1 2 0 u) then some u else (prep1 σ n).2.2.1 2 1 u)
    rw [u1, u2]
theorem Pr1_at {σ : PvS} {n : Nat} (hp : ∀ u, par σ n = some u → u ≠ n) : Pr1 (prep1 σ n) n := by
  have fr := prep1_fr σ n
  obtain ⟨e1, e2, e3, e4, e5⟩ := prep1_at σ n
  unfold Pr1
  rw [e1, e2, e3, e4, e5, srtv_fr fr, scrv_fr fr, fr.sty, fr.sty, fr.sty]
  refine ⟨rfl, ?_, rfl, rfl, rfl⟩
  unfold hmv
  rw [dc_par fr.dc]
  cases e : par σ n with
  | none => rfl
  | some u =>
    obtain ⟨u1, u2⟩ := prep1_ne σ (hp u e)
    show (if isbx (σ.2.1 2 0 u) then some u else σ.2.2.1 2 1 u) = (if isbx ((prep1 σ n).2.1 2 0 u) then some u else (prep1 σ n).2.2.1 2 1 u)
    rw [u1, u2]
theorem f_prepare {σ : PvS} (h : WF σ) (hs : SR σ) : ∃ τ, f_X4_prepare σ = some τ ∧ frP σ τ ∧ ∀ n, alive σ n → Pr1 τ n := by
  have hn15 := h.t.n
  have hlen := h.t.len
  have key : ∀ (ys xs : List Nat) (m : Nat) (ρ : PvS), σ.2.2.2.2 1 = xs ++ ys → ys.length < m → frP σ ρ → (∀ n ∈ xs, Pr1 ρ n) → ∃ τ, f_X4_prepare_2 m ρ (nI xs.length) = some τ ∧ frP σ τ ∧ ∀ n, alive σ n → Pr1 τ n := by
    intro ys
    induction ys with
    | nil =>
      intro xs m ρ hO hm hf hx
      obtain ⟨m, rfl⟩ : ∃ q, m = q + 1 := ⟨m - 1, by omega⟩
      rw [List.append_nil] at hO
      refine ⟨ρ, ?_, hf, fun n a => hx n (by rw [← hO]; exact a)⟩
      show (if nI (ρ.2.2.2.2 1).length ≤ nI xs.length then some ρ else _) = _
      rw [hf.2.2.2.2, hO, if_pos (nI_le (Nat.le_refl _) (s31 (by rw [← hO]; omega)))]
    | cons n ys ih =>
      intro xs m ρ hO hm hf hx
      obtain ⟨m, rfl⟩ : ∃ q, m = q + 1 := ⟨m - 1, by omega⟩
      have hρ := WF_dc h hf.dc
      have hat := stepN hO rfl
      have hxs := at_lt hat
      have hna : alive σ n := List.mem_of_getElem? hat
      have hnaρ : alive ρ n := by show n ∈ ρ.2.2.2.2 1; rw [hf.2.2.2.2]; exact hna
      have nod : (xs ++ n :: ys).Nodup := by rw [← hO]; exact h.t.nodup
      have nx : n ∉ xs := fun q => (List.nodup_append.mp nod).2.2 n q n List.mem_cons_self rfl
      have parρ : par ρ = par σ := dc_par hf.dc
      have hsρ : SR ρ := fun v a p hp => by
        rw [hf.sty]
        exact hs v (by have a : v ∈ ρ.2.2.2.2 1 := a; rw [hf.2.2.2.2] at a; exact a) p hp
      have hpar : ∀ u, par ρ n = some u → u ∈ xs ∧ u ≠ n := fun u e => by
        rw [parρ] at e
        have := h.t.first hO e
        exact ⟨this, fun q => nx (by rw [← q]; exact this)⟩
      have srt := f_sortFor hρ.t hsρ hnaρ (fun u e => by
        rw [(hx u (hpar u e).1).1]
        rcases srtv_ne ρ u with q | q | q | q <;> (rw [q]; decide))
      have fr1 := prep1_fr ρ n
      have nxt := ih (xs ++ [n]) m (prep1 ρ n) (by rw [hO, List.append_assoc]; rfl) (by simp only [List.length_cons] at hm; omega) (hf.trans fr1) (fun v hv => by
        rcases List.mem_append.mp hv with hv | hv
        · refine Pr1_ne hρ.t (hx v hv) (fun q => nx (by rw [← q]; exact hv)) (fun u e z => ?_)
          rw [parρ] at e
          obtain ⟨as, bs, rfl⟩ := List.append_of_mem hv
          have := h.t.first (xs := as) (ys := bs ++ n :: ys) (by rw [hO, List.append_assoc]; rfl) e
          exact nx (by rw [← z]; exact List.mem_append_left _ this)
        · rw [List.mem_singleton.mp hv]
          exact Pr1_at (fun u e => (hpar u e).2))
      obtain ⟨τ, e1, e2⟩ := nxt
      refine ⟨τ, ?_, e2⟩
      rw [List.length_append] at e1
      have al : ∀ {ρ2 : PvS}, frP ρ ρ2 → ∀ {p : Nat}, p < 14 → f_X6_of ρ2 0 n (nI p) = some (sty ρ n p) := fun {ρ2} f {p} hp => by
        rw [f_ofS (WF_dc hρ f.dc).t (show n ∈ ρ2.2.2.2.2 1 by rw [f.2.2.2.2]; exact hnaρ) hp, f.sty]
      have g1 : frP ρ (pvI ρ 2 0 n (srtv ρ n)) := frP_put (Or.inl rfl)
      have hm1 : hmv (pvI ρ 2 0 n (srtv ρ n)) n = hmv ρ n := by
        unfold hmv
        rw [dc_par g1.dc]
        cases e : par ρ n with
        | none => rfl
        | some u =>
          have e9 : (pvI ρ 2 0 n (srtv ρ n)).2.1 2 0 u = ρ.2.1 2 0 u := by rw [pvI_at, if_neg (fun z => (hpar u e).2 z.2.2)]
          show (if isbx ((pvI ρ 2 0 n (srtv ρ n)).2.1 2 0 u) then some u else ρ.2.2.1 2 1 u) = (if isbx (ρ.2.1 2 0 u) then some u else ρ.2.2.1 2 1 u)
          rw [e9]
      have g2 : frP ρ (pvR (pvI ρ 2 0 n (srtv ρ n)) 2 1 n (hmv ρ n)) := g1.trans frP_putR
      have g3 : frP ρ (pvI (pvR (pvI ρ 2 0 n (srtv ρ n)) 2 1 n (hmv ρ n)) 2 2 n (sty ρ n 5 + sty ρ n 4)) := g2.trans (frP_put (Or.inr (Or.inl rfl)))
      have i3 : (pvI (pvR (pvI ρ 2 0 n (srtv ρ n)) 2 1 n (hmv ρ n)) 2 2 n (sty ρ n 5 + sty ρ n 4)).2.1 2 2 n = sty ρ n 5 + sty ρ n 4 := by rw [pvI_at, if_pos ⟨rfl, rfl, rfl⟩]
      have g4 := g3.trans (frP_put (σ := pvI (pvR (pvI ρ 2 0 n (srtv ρ n)) 2 1 n (hmv ρ n)) 2 2 n (sty ρ n 5 + sty ρ n 4)) (q := 3) (n := n) (v := sty ρ n 5 + sty ρ n 4 + sty ρ n 3) (Or.inr (Or.inr (Or.inl rfl))))
      have b4 : f_X2_isBox (pvI (pvI (pvR (pvI ρ 2 0 n (srtv ρ n)) 2 1 n (hmv ρ n)) 2 2 n (sty ρ n 5 + sty ρ n 4)) 2 3 n (sty ρ n 5 + sty ρ n 4 + sty ρ n 3)) n = some (if isbx (srtv ρ n) then 1 else 0) := by
        have e9 : (pvI (pvI (pvR (pvI ρ 2 0 n (srtv ρ n)) 2 1 n (hmv ρ n)) 2 2 n (sty ρ n 5 + sty ρ n 4)) 2 3 n (sty ρ n 5 + sty ρ n 4 + sty ρ n 3)).2.1 2 0 n = srtv ρ n := by
          rw [pvI_at, if_neg (by omega), pvI_at, if_neg (by omega)]
          show (pvI ρ 2 0 n (srtv ρ n)).2.1 2 0 n = _
          rw [pvI_at, if_pos ⟨rfl, rfl, rfl⟩]
        rw [f_isBox, e9]
      have step : f_X4_prepare_2 (m + 1) ρ (nI xs.length) = f_X4_prepare_2 m (prep1 ρ n) (nI xs.length + 1) := by
        show (if nI (ρ.2.2.2.2 1).length ≤ nI xs.length then some ρ else gd (vin (nI xs.length) (ρ.2.2.2.2 1).length) (nm ((ρ.2.2.2.2 1).getD (nI xs.length).toNatClampNeg 0) (fun y4 => ob1 (f_X4_sortFor ρ y4) (fun r5 => nm (pvI ρ 2 0 y4 r5) (fun σ10 => ob1 (f_X4_homeFor σ10 y4) (fun r11 => nm (pvR σ10 2 1 y4 r11) (fun σ16 => ob1 (f_X6_of σ16 0 y4 (nI 5)) (fun r17 => ob1 (f_X6_of σ16 0 y4 (nI 4)) (fun r22 => nm (pvI σ16 2 2 y4 (r17 + r22)) (fun σ27 => ob1 (f_X6_of σ27 0 y4 (nI 3)) (fun r28 => nm (pvI σ27 2 3 y4 ((σ27.2.1 2 2 y4) + r28)) (fun σ33 => ob1 (f_X2_isBox σ33 y4) (fun r34 => if r34 = 0 then nm (pvI σ33 2 4 y4 0) (fun σ40 => f_X4_prepare_2 m σ40 (nI xs.length + 1)) else ob1 (f_X6_of σ33 0 y4 (nI 11)) (fun r41 => if r41 = 1 then nm (pvI σ33 2 4 y4 1) (fun σ48 => f_X4_prepare_2 m σ48 (nI xs.length + 1)) else nm (pvI σ33 2 4 y4 0) (fun σ47 => f_X4_prepare_2 m σ47 (nI xs.length + 1))))))))))))))) ) = _
        rw [hf.2.2.2.2, if_neg (nI_ge hxs (s31 (by omega))), gd_t (vin_n hxs (s31 (by omega))), nm_t, nI_clamp (s31 (by omega)), getD_at hat, ob1_t srt, nm_t, ob1_t (f_homeFor _ n), hm1, nm_t, ob1_t (al g2 (by decide)), ob1_t (al g2 (by decide)), nm_t, ob1_t (al g3 (by decide)), nm_t, i3, ob1_t b4]
        unfold prep1 scrv
        by_cases hb : isbx (srtv ρ n)
        · rw [if_pos hb, if_neg (by decide), ob1_t (al g4 (by decide))]
          by_cases h11 : sty ρ n 11 = 1
          · rw [if_pos h11, nm_t, if_pos ⟨hb, h11⟩]
          · rw [if_neg h11, nm_t, if_neg (fun q => h11 q.2)]
        · rw [if_neg hb, if_pos rfl, nm_t, if_neg (fun q => hb q.1)]
      rw [step, nI_1]
      exact e1
  exact key (σ.2.2.2.2 1) [] fu σ rfl (by unfold fu; omega) frP.refl (fun n hn => nomatch hn)
