/-! PURE: nodes are added, moved, taken away -/
theorem WFc.congr {σ τ : PvS} (h : WFc σ) (h0 : τ.1 0 = σ.1 0) (hl : τ.2.2.2.2 0 = σ.2.2.2.2 0) (hc : chl τ = chl σ) (hp : par τ = par σ) (i0 : ∀ i, τ.2.1 3 0 i = σ.2.1 3 0 i) (i1 : ∀ i, τ.2.1 3 1 i = σ.2.1 3 1 i) (i13 : ∀ i, is01 (σ.2.1 3 13 i) → is01 (τ.2.1 3 13 i)) : WFc τ := by
  obtain ⟨a1, a2, a3, a4, a5, a6, a7, a8⟩ := h
  unfold WFc
  rw [h0, hl, hc, hp, i1]
  exact ⟨a1, a2, fun u hu => ⟨by rw [i0]; exact (a3 u hu).1, by rw [i1]; exact (a3 u hu).2.1, i13 u (a3 u hu).2.2⟩, a4, a5, a6, fun v u hv e => ⟨(a7 v u hv e).1, by rw [i1]; exact (a7 v u hv e).2⟩, a8⟩
theorem WFt.congr {σ τ : PvS} (h : WFt σ) (h0 : τ.1 0 = σ.1 0) (hl : τ.2.2.2.2 = σ.2.2.2.2) (hp : par τ = par σ) (i0 : ∀ i, τ.2.1 3 0 i = σ.2.1 3 0 i) (i1 : ∀ i, τ.2.1 3 1 i = σ.2.1 3 1 i) (i13 : ∀ i, τ.2.1 3 13 i = σ.2.1 3 13 i) : WFt τ := by
  have hc : chl τ = chl σ := by unfold chl; rw [hl]
  refine ⟨h.c.congr h0 (by rw [hl]) hc hp i0 i1 (fun i q => by rw [i13]; exact q), by rw [hl, hc]; exact h.l1, fun u hu => ?_⟩
  rw [i13, hl]; exact h.gone (by rw [← h0]; exact hu)
/-- what was worked out is forgotten -/
def fgt (σ : PvS) : PvS := pvI (pvI σ 6 2 0 0) 4 3 0 0
theorem f_fgt (σ : PvS) : f_X9_forgetWhatWasWorkedOut σ = some (fgt σ) := rfl
theorem fgt_I (σ : PvS) {κ k i : Nat} (h : κ ≠ 4) (h' : κ ≠ 6) : (fgt σ).2.1 κ k i = σ.2.1 κ k i := by
  unfold fgt
  rw [pvI_at, if_neg (fun q => h q.1), pvI_at, if_neg (fun q => h' q.1)]
theorem fgt_A (σ : PvS) : (fgt σ).2.2.2.1 = σ.2.2.2.1 := rfl
theorem fgt_R (σ : PvS) : (fgt σ).2.2.1 = σ.2.2.1 := rfl
theorem fgt_L (σ : PvS) : (fgt σ).2.2.2.2 = σ.2.2.2.2 := rfl
theorem fgt_1 (σ : PvS) : (fgt σ).1 = σ.1 := rfl
theorem fgt_f (σ : PvS) : (fgt σ).2.1 6 2 0 = 0 ∧ (fgt σ).2.1 4 3 0 = 0 := by
  unfold fgt
  exact ⟨by rw [pvI_at, if_neg (by decide), pvI_at, if_pos ⟨rfl, rfl, rfl⟩], by rw [pvI_at, if_pos ⟨rfl, rfl, rfl⟩]⟩
theorem WFt.fgt {σ : PvS} (h : WFt σ) : WFt (fgt σ) := h.congr rfl rfl rfl (fun i => fgt_I σ (by decide) (by decide)) (fun i => fgt_I σ (by decide) (by decide)) (fun i => fgt_I σ (by decide) (by decide))
/-- an element out of a list -/
theorem mem_era : ∀ {l : List Nat} {k w v : Nat}, l.Nodup → l[k]? = some w → (v ∈ l.eraseIdx k ↔ v ∈ l ∧ v ≠ w) := by
  intro l
  induction l with
  | nil => intro k w v _ h; cases h
  | cons x l ih =>
    intro k w v hn h
    rw [List.nodup_cons] at hn
    cases k with
    | zero =>
      cases h
      rw [List.eraseIdx_cons_zero, List.mem_cons]
      constructor
      · intro q; exact ⟨Or.inr q, fun e => hn.1 (by rw [← e]; exact q)⟩
      · rintro ⟨q | q, e⟩
        · exact absurd q e
        · exact q
    | succ k =>
      rw [List.eraseIdx_cons_succ, List.mem_cons, ih hn.2 h, List.mem_cons]
      have hw : w ∈ l := List.mem_of_getElem? h
      constructor
      · rintro (q | q)
        · exact ⟨Or.inl q, fun e => hn.1 (by rw [← q, e]; exact hw)⟩
        · exact ⟨Or.inr q.1, q.2⟩
      · rintro ⟨q | q, e⟩
        · exact Or.inl q
        · exact Or.inr ⟨q, e⟩
/-- a node is taken out of its parent -/
def det (σ : PvS) (p k w : Nat) : PvS := pvR (pvL σ (p + 3) ((chl σ p).eraseIdx k)) 3 8 w none
theorem f_detach {σ : PvS} (h : WFt σ) {w p k : Nat} (hw : w < σ.1 0) (e : par σ w = some p) (hk : (chl σ p)[k]? = some w) : f_X7_detach σ w = some (det σ p k w) := by
  have hkl := at_lt hk
  have hl := h.chlen (h.pa hw e).1
  have hn := h.n
  unfold f_X7_detach
  rw [ob1_t (f_place h hw e hk), nm_t]
  show oc (par σ w) (some σ) (fun jo6 => if nI k < 0 then some σ else nm (par σ w) (fun o8 => oc o8 none (fun jo8 => if nI (chl σ jo8).length ≤ nI k then some σ else nm (par σ w) (fun o11 => oc o11 none (fun jo11 => gd (vin (nI k) (chl σ jo11).length) (nm (pvL σ (jo11 + 3) ((chl σ jo11).eraseIdx (nI k).toNatClampNeg)) (fun σ12 => nm (pvR σ12 3 8 w none) (fun σ18 => some σ18)))))))) = _
  rw [e, oc_st, if_neg (nI_pos (s31 (by omega))), nm_t, oc_st, if_neg (nI_ge hkl (s31 (by omega))), nm_t, oc_st, gd_t (vin_n hkl (s31 (by omega))), nm_t, nm_t, nI_clamp (s31 (by omega))]
  rfl
theorem det_par (σ : PvS) (p k w v : Nat) : par (det σ p k w) v = if v = w then none else par σ v := by
  unfold par det
  rw [pvR_at]
  by_cases e : v = w
  · rw [if_pos ⟨rfl, rfl, e⟩, if_pos e]
  · rw [if_neg (fun q => e q.2.2), if_neg e]; rfl
theorem det_chl (σ : PvS) (p k w u : Nat) : chl (det σ p k w) u = if u = p then (chl σ p).eraseIdx k else chl σ u := by
  show (pvL σ (p + 3) _).2.2.2.2 (u + 3) = _
  rw [pvL_at]
  by_cases e : u = p
  · rw [if_pos (by omega), if_pos e]
  · rw [if_neg (by omega), if_neg e]; rfl
theorem det_I (σ : PvS) (p k w : Nat) : (det σ p k w).2.1 = σ.2.1 := rfl
theorem det_L0 (σ : PvS) (p k w : Nat) : (det σ p k w).2.2.2.2 0 = σ.2.2.2.2 0 := by
  show (pvL σ (p + 3) _).2.2.2.2 0 = _
  rw [pvL_at, if_neg (by omega)]
/-- chains, with a node cut off -/
theorem up_cut {p p' : Nat → Option Nat} {w : Nat} (hp : ∀ v, v ≠ w → p' v = p v) : ∀ {k v x : Nat}, upk p k v = some x → (∃ j, upk p' j v = some w ∧ upk p j v = some w) ∨ upk p' k v = some x := by
  intro k
  induction k with
  | zero => intro v x h; exact Or.inr h
  | succ k ih =>
    intro v x h
    by_cases e : v = w
    · subst e; exact Or.inl ⟨0, rfl, rfl⟩
    · obtain ⟨u, h1, h2⟩ := upk_inv h
      rcases ih h2 with ⟨j, q1, q2⟩ | q
      · exact Or.inl ⟨j + 1, by rw [upk_s ((hp v e).trans h1)]; exact q1, by rw [upk_s h1]; exact q2⟩
      · exact Or.inr (by rw [upk_s ((hp v e).trans h1)]; exact q)
theorem up_cut_n {p p' : Nat → Option Nat} {w : Nat} (hp : ∀ v, v ≠ w → p' v = p v) (hw : p' w = none) : ∀ {k v x : Nat}, upk p' k v = some x → upk p k v = some x := by
  intro k
  induction k with
  | zero => intro v x h; exact h
  | succ k ih =>
    intro v x h
    obtain ⟨u, h1, h2⟩ := upk_inv h
    have e : v ≠ w := fun q => by rw [q, hw] at h1; cases h1
    rw [upk_s ((hp v e).symm.trans h1)]
    exact ih h2
theorem det_WFc {σ : PvS} (h : WFt σ) {w p k : Nat} (hw : w < σ.1 0) (hw0 : w ≠ 0) (e : par σ w = some p) (hk : (chl σ p)[k]? = some w) : WFc (det σ p k w) := by
  have hp := (h.pa hw e).1
  have pc : ∀ v, v ≠ w → par (det σ p k w) v = par σ v := fun v q => by rw [det_par, if_neg q]
  have pw : par (det σ p k w) w = none := by rw [det_par, if_pos rfl]
  refine ⟨h.n, by rw [det_L0]; exact h.l0, h.c.2.2.1, ⟨h.root.1, by rw [pc 0 (fun q => hw0 q.symm)]; exact h.root.2⟩, fun u v hu => ?_, fun u hu => ?_, fun v u hv q => ?_, ?_⟩
  · rw [det_chl]
    by_cases hup : u = p
    · subst hup
      rw [if_pos rfl, mem_era (h.chn hu) hk, h.ch hu]
      constructor
      · rintro ⟨⟨a1, a2⟩, a3⟩; exact ⟨a1, by rw [pc v a3]; exact a2⟩
      · rintro ⟨a1, a2⟩
        have : v ≠ w := fun q => by rw [q, pw] at a2; cases a2
        exact ⟨⟨a1, by rw [← pc v this]; exact a2⟩, this⟩
    · rw [if_neg hup, h.ch hu]
      constructor
      · rintro ⟨a1, a2⟩
        have : v ≠ w := fun q => by rw [q, e] at a2; cases a2; exact hup rfl
        exact ⟨a1, by rw [pc v this]; exact a2⟩
      · rintro ⟨a1, a2⟩
        have : v ≠ w := fun q => by rw [q, pw] at a2; cases a2
        exact ⟨a1, by rw [← pc v this]; exact a2⟩
  · rw [det_chl]
    split
    · exact (h.chn hp).eraseIdx k
    · exact h.chn hu
  · have : v ≠ w := fun z => by rw [z, pw] at q; cases q
    exact h.pa hv (by rw [← pc v this]; exact q)
  · classical
    obtain ⟨dp, d1, d2, d3⟩ := h.dp
    refine ⟨fun v => (if inn σ w v then dp v - dp w else dp v), fun v hv => ?_, fun v hv q => ?_, fun v u hv q => ?_⟩
    · have := d1 v hv
      show (if inn σ w v then dp v - dp w else dp v) ≤ 10
      split <;> omega
    · show (if inn σ w v then dp v - dp w else dp v) = 0
      by_cases z : v = w
      · subst z; rw [if_pos inn_self]; omega
      · have := d2 v hv (by rw [← pc v z]; exact q)
        split <;> omega
    · show (if inn σ w v then dp v - dp w else dp v) = (if inn σ w u then dp u - dp w else dp u) + 1
      have z : v ≠ w := fun z => by rw [z, pw] at q; cases q
      have q1 : par σ v = some u := by rw [← pc v z]; exact q
      have q2 := d3 v u hv q1
      by_cases hi : inn σ w v
      · have hu := inn_up hi q1 z
        obtain ⟨j, hj⟩ := hu
        have q3 := up_dp h.c d3 (h.pa hv q1).1 hj
        rw [if_pos hi, if_pos ⟨j, hj⟩]; omega
      · rw [if_neg hi, if_neg (fun hu => hi (inn_dn hu q1))]; exact q2
/-- a node is put into a parent -/
def ins (σ : PvS) (t x w : Nat) : PvS := pvR (pvL σ (t + 3) ((chl σ t).take x ++ w :: (chl σ t).drop x)) 3 8 w (some t)
theorem ins_par (σ : PvS) (t x w v : Nat) : par (ins σ t x w) v = if v = w then some t else par σ v := by
  unfold par ins
  rw [pvR_at]
  by_cases e : v = w
  · rw [if_pos ⟨rfl, rfl, e⟩, if_pos e]
  · rw [if_neg (fun q => e q.2.2), if_neg e]; rfl
theorem ins_chl (σ : PvS) (t x w u : Nat) : chl (ins σ t x w) u = if u = t then (chl σ t).take x ++ w :: (chl σ t).drop x else chl σ u := by
  show (pvL σ (t + 3) _).2.2.2.2 (u + 3) = _
  rw [pvL_at]
  by_cases e : u = t
  · rw [if_pos (by omega), if_pos e]
  · rw [if_neg (by omega), if_neg e]; rfl
theorem ins_L0 (σ : PvS) (t x w : Nat) : (ins σ t x w).2.2.2.2 0 = σ.2.2.2.2 0 := by
  show (pvL σ (t + 3) _).2.2.2.2 0 = _
  rw [pvL_at, if_neg (by omega)]
theorem f_putInto {σ : PvS} (h : WFt σ) {w p k t x : Nat} (hw : w < σ.1 0) (e : par σ w = some p) (hk : (chl σ p)[k]? = some w) (hx : x ≤ (chl (det σ p k w) t).length) (hx2 : (chl (det σ p k w) t).length ≤ 40) (hc : WFc (ins (det σ p k w) t x w)) : f_X7_putInto σ w t (nI x) = some (pvL (ins (det σ p k w) t x w) 1 (pre (chl (ins (det σ p k w) t x w)) 11 0)) := by
  unfold f_X7_putInto
  rw [ob1_t (f_detach h hw e hk), if_neg (nI_pos (s31 (by omega)))]
  show (if nI (chl (det σ p k w) t).length < nI x then _ else gd ((chl (det σ p k w) t).length < 64) (gd (vin (nI x) ((chl (det σ p k w) t).length + 1)) (nm (pvL (det σ p k w) (t + 3) ((chl (det σ p k w) t).take (nI x).toNatClampNeg ++ w :: (chl (det σ p k w) t).drop (nI x).toNatClampNeg)) (fun σ16 => nm (pvR σ16 3 8 w (some t)) (fun σ22 => f_X7_putInto_34 σ22))))) = _
  rw [if_neg (nI_nlt hx (s31 (by omega))), gd_t (by omega), gd_t (vin_n (by omega) (s31 (by omega))), nm_t, nm_t, nI_clamp (s31 (by omega))]
  show ob1 (f_X7_listAnew (ins (det σ p k w) t x w)) _ = _
  rw [ob1_t (f_listAnew hc)]
/-- to the root, as the first -/
theorem ins0_WFc {σ : PvS} (h : WFt σ) {w p k : Nat} (hw : w < σ.1 0) (hw0 : w ≠ 0) (e : par σ w = some p) (hk : (chl σ p)[k]? = some w) : WFc (ins (det σ p k w) 0 0 w) := by
  have hd := det_WFc h hw hw0 e hk
  have hp := (h.pa hw e).1
  have pc : ∀ v, v ≠ w → par (ins (det σ p k w) 0 0 w) v = par σ v := fun v q => by rw [ins_par, if_neg q, det_par, if_neg q]
  have pw : par (ins (det σ p k w) 0 0 w) w = some 0 := by rw [ins_par, if_pos rfl]
  have n0 : 0 < σ.1 0 := by have := h.n; omega
  have dw : ∀ u, u < σ.1 0 → w ∉ chl (det σ p k w) u := fun u hu q => by
    have := (hd.ch hu).mp q
    rw [det_par, if_pos rfl] at this
    cases this.2
  refine ⟨h.n, by rw [ins_L0, det_L0]; exact h.l0, h.c.2.2.1, ⟨h.root.1, by rw [pc 0 (fun q => hw0 q.symm)]; exact h.root.2⟩, fun u v hu => ?_, fun u hu => ?_, fun v u hv q => ?_, ?_⟩
  · have hch := hd.ch (v := v) hu
    rw [det_par] at hch
    rw [ins_chl, ins_par]
    by_cases hu0 : u = 0
    · subst hu0
      rw [if_pos rfl]
      show v ∈ [] ++ w :: chl (det σ p k w) 0 ↔ _
      rw [List.nil_append, List.mem_cons, hch]
      by_cases z : v = w
      · simp only [if_pos z]
        exact ⟨fun _ => ⟨by rw [z]; exact hw, trivial⟩, fun _ => Or.inl z⟩
      · simp only [if_neg z, det_par]
        exact ⟨fun q => q.elim (fun q => absurd q z) (fun q => q), fun q => Or.inr q⟩
    · rw [if_neg hu0, hch]
      by_cases z : v = w
      · simp only [if_pos z]
        exact ⟨(fun q => nomatch q.2), fun q => absurd (Option.some.inj q.2).symm hu0⟩
      · simp only [if_neg z, det_par]
        exact Iff.rfl
  · rw [ins_chl]
    split
    · show ([] ++ w :: chl (det σ p k w) 0).Nodup
      rw [List.nil_append, List.nodup_cons]
      exact ⟨dw 0 n0, hd.chn n0⟩
    · exact hd.chn hu
  · by_cases z : v = w
    · rw [z, pw] at q; cases q; exact ⟨n0, h.root.1⟩
    · exact h.pa hv (by rw [← pc v z]; exact q)
  · classical
    obtain ⟨dp, d1, d2, d3⟩ := h.dp
    have r0 := d2 0 n0 h.root.2
    have w1 := d3 w p hw e
    have i0 : ¬ inn σ w 0 := by
      rintro ⟨j, hj⟩
      cases j with
      | zero => cases hj; exact hw0 rfl
      | succ j => rw [upk_n h.root.2] at hj; cases hj
    refine ⟨fun v => (if inn σ w v then dp v - dp w + 1 else dp v), fun v hv => ?_, fun v hv q => ?_, fun v u hv q => ?_⟩
    · have := d1 v hv
      show (if inn σ w v then dp v - dp w + 1 else dp v) ≤ 10
      split <;> omega
    · have z : v ≠ w := fun z => by rw [z, pw] at q; cases q
      have q1 : par σ v = none := by rw [← pc v z]; exact q
      show (if inn σ w v then dp v - dp w + 1 else dp v) = 0
      rw [if_neg (fun ⟨j, hj⟩ => by
        cases j with
        | zero => cases hj; exact z rfl
        | succ j => rw [upk_n q1] at hj; cases hj)]
      exact d2 v hv q1
    · show (if inn σ w v then dp v - dp w + 1 else dp v) = (if inn σ w u then dp u - dp w + 1 else dp u) + 1
      by_cases z : v = w
      · subst z
        rw [pw] at q; cases q
        rw [if_pos inn_self, if_neg i0]; omega
      · have q1 : par σ v = some u := by rw [← pc v z]; exact q
        have q2 := d3 v u hv q1
        by_cases hi : inn σ w v
        · have hu := inn_up hi q1 z
          obtain ⟨j, hj⟩ := hu
          have q3 := up_dp h.c d3 (h.pa hv q1).1 hj
          rw [if_pos hi, if_pos ⟨j, hj⟩]; omega
        · rw [if_neg hi, if_neg (fun hu => hi (inn_dn hu q1))]; exact q2
/-- the list anew: all that hangs on the root -/
theorem anew_WFt {τ : PvS} (hc : WFc τ) (hg : ∀ u, u < τ.1 0 → (τ.2.1 3 13 u = 0 ↔ u ∈ pre (chl τ) 11 0)) : WFt (pvL τ 1 (pre (chl τ) 11 0)) := by
  refine ⟨hc.congr rfl (by rw [pvL_at]; exact if_neg (by decide)) (chl_L1 _ _) rfl (fun _ => rfl) (fun _ => rfl) (fun _ q => q), by rw [L1_L1, chl_L1], fun u hu => ?_⟩
  rw [L1_L1]; exact hg u hu
