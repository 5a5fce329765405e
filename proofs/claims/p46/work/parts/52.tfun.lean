/-! PURE: the functions of the tree -/
theorem getD_at {l : List Nat} {k v : Nat} (h : l[k]? = some v) : l.getD k 0 = v := by rw [List.getD_eq_getElem?_getD, h]; rfl
theorem range_at {n i : Nat} (h : i < n) : (List.range n)[i]? = some i := List.getElem?_range h
theorem s31 {n : Nat} (h : n ≤ 3000) : n < 2 ^ 31 := Nat.lt_of_le_of_lt h (by decide)
/-- a step of a loop over a list -/
theorem stepN {l : List Nat} {k : Nat} {xs ys : List Nat} {v : Nat} (hl : l = xs ++ v :: ys) (hk : xs.length = k) : l[k]? = some v := by
  subst hl; subst hk
  rw [List.getElem?_append_right (Nat.le_refl _), Nat.sub_self]; rfl
theorem at_lt {l : List Nat} {k v : Nat} (h : l[k]? = some v) : k < l.length := (List.getElem?_eq_some_iff.mp h).1
theorem WFt.n31 {σ : PvS} (h : WFt σ) : σ.1 0 < 2 ^ 31 := s31 (by have := h.n; omega)
theorem f_holds {σ : PvS} (h : WFt σ) {i : Nat} (hi : i < σ.1 0) : f_X7_holds σ (nI i) = some (if σ.2.1 3 13 i = 0 then 1 else 0) := by
  have hn := h.n31
  have hi' := Nat.lt_trans hi hn
  unfold f_X7_holds
  rw [h.l0, List.length_range, if_neg (nI_pos hi'), if_neg (nI_ge hi hn), gd_t (vin_n hi hn), nm_t, nI_clamp hi', getD_at (range_at hi)]
  split <;> rfl
theorem f_nodeAt {σ : PvS} (h : WFt σ) {i : Nat} (a : alive σ i) : f_X9_nodeAt σ (nI i) = some i := by
  have hi := h.alive_lt a
  have hn := h.n31
  have hi' := Nat.lt_trans hi hn
  unfold f_X9_nodeAt
  rw [ob1_t (f_holds h hi), if_pos ((h.gone hi).mpr a), if_neg (by decide), h.l0, List.length_range, gd_t (vin_n hi hn), nm_t, nI_clamp hi', getD_at (range_at hi)]
theorem f_isThere_t {σ : PvS} (h : WFt σ) {i : Nat} (a : alive σ i) : f_X9_isThere σ (nI i) = some 1 := by
  unfold f_X9_isThere
  rw [ob1_t (f_holds h (h.alive_lt a)), if_pos ((h.gone (h.alive_lt a)).mpr a)]
theorem f_isThere_f {σ : PvS} (h : WFt σ) {i : Nat} (hi : i < σ.1 0) (a : ¬ alive σ i) : f_X9_isThere σ (nI i) = some 0 := by
  unfold f_X9_isThere
  rw [ob1_t (f_holds h hi), if_neg (fun q => a ((h.gone hi).mp q))]
theorem f_added {σ : PvS} (h : WFt σ) : f_X9_added σ = some (nI (σ.1 0)) := by unfold f_X9_added; rw [h.l0, List.length_range]
theorem f_isText {σ : PvS} (h : WFt σ) {i : Nat} (a : alive σ i) : f_X9_isText σ (nI i) = some (σ.2.1 3 1 i) := by
  unfold f_X9_isText
  rw [ob1_t (f_nodeAt h a), gd_t (h.tx (h.alive_lt a))]
theorem f_parent {σ : PvS} (h : WFt σ) {i : Nat} (a : alive σ i) : f_X9_parent σ (nI i) = some (match par σ i with | none => -1 | some u => nI u) := by
  unfold f_X9_parent
  rw [ob1_t (f_nodeAt h a), nm_t]
  show oc (par σ i) _ _ = _
  cases e : par σ i with
  | none => rfl
  | some u => rw [oc_st, h.num (h.pa (h.alive_lt a) e).1]
theorem f_size {σ : PvS} (h : WFt σ) {i : Nat} (a : alive σ i) : f_X9_size σ (nI i) = some (if σ.2.1 3 1 i = 0 then nI (chl σ i).length else σ.2.1 3 9 i) := by
  unfold f_X9_size
  rw [ob1_t (f_nodeAt h a)]
  show (if _ then some (nI (chl σ i).length) else _) = _
  split <;> rfl
theorem f_childAt {σ : PvS} (h : WFt σ) {i k c : Nat} (a : alive σ i) (ht : σ.2.1 3 1 i = 0) (hc : (chl σ i)[k]? = some c) : f_X9_childAt σ (nI i) (nI k) = some (nI c) := by
  have hi := h.alive_lt a
  have hk := at_lt hc
  have hl := h.chlen hi
  have hn := h.n
  have hcn := ((h.ch hi).mp (List.mem_of_getElem? hc)).1
  unfold f_X9_childAt
  rw [ob1_t (f_nodeAt h a), if_pos ht]
  show (if _ then none else if nI k < nI (chl σ i).length then gd (vin (nI k) (chl σ i).length) (nm ((chl σ i).getD (nI k).toNatClampNeg 0) _) else none) = _
  rw [if_neg (nI_pos (s31 (by omega))), if_pos (nI_lt hk (s31 (by omega))), gd_t (vin_n hk (s31 (by omega))), nm_t, nI_clamp (s31 (by omega)), getD_at hc, h.num hcn]
/-- how many ancestors -/
theorem f_anc7 {σ : PvS} (h : WFt σ) {dp : Nat → Nat} (d2 : ∀ v, v < σ.1 0 → par σ v = none → dp v = 0) (d3 : ∀ v u, v < σ.1 0 → par σ v = some u → dp v = dp u + 1) : ∀ {d v k n : Nat}, v < σ.1 0 → dp v = d → d < n → f_X3_ancestors_7 σ n (nI k) (par σ v) = some (nI (k + d)) := by
  intro d
  induction d with
  | zero =>
    intro v k n hv e hn
    cases n with
    | zero => omega
    | succ n =>
      cases q : par σ v with
      | none => rfl
      | some u => have := d3 v u hv q; omega
  | succ d ih =>
    intro v k n hv e hn
    cases n with
    | zero => omega
    | succ n =>
      cases q : par σ v with
      | none => have := d2 v hv q; omega
      | some u =>
        have := d3 v u hv q
        show f_X3_ancestors_7 σ n (nI k + 1) (par σ u) = _
        rw [nI_1, ih (h.pa hv q).1 (by omega) (by omega)]
        congr 2
        omega
theorem f_anc {σ : PvS} (h : WFt σ) {dp : Nat → Nat} (d1 : ∀ v, v < σ.1 0 → dp v ≤ 10) (d2 : ∀ v, v < σ.1 0 → par σ v = none → dp v = 0) (d3 : ∀ v u, v < σ.1 0 → par σ v = some u → dp v = dp u + 1) {v : Nat} (hv : v < σ.1 0) : f_X3_ancestors σ v = some (nI (dp v)) := by
  unfold f_X3_ancestors
  rw [nm_t]
  show f_X3_ancestors_7 σ fu (nI 0) (par σ v) = _
  have := d1 v hv
  rw [f_anc7 h d2 d3 hv rfl (by unfold fu; omega), Nat.zero_add]
/-- whether a node is in another -/
def inn (σ : PvS) (w v : Nat) : Prop := ∃ k, upk (par σ) k v = some w
theorem inn_self {σ : PvS} {v : Nat} : inn σ v v := ⟨0, rfl⟩
theorem inn_up {σ : PvS} {w v u : Nat} (h : inn σ w v) (e : par σ v = some u) (hne : v ≠ w) : inn σ w u := by
  obtain ⟨k, h⟩ := h
  cases k with
  | zero => cases h; exact absurd rfl hne
  | succ k => rw [upk_s e] at h; exact ⟨k, h⟩
theorem inn_dn {σ : PvS} {w v u : Nat} (h : inn σ w u) (e : par σ v = some u) : inn σ w v := by
  obtain ⟨k, h⟩ := h
  exact ⟨k + 1, by rw [upk_s e]; exact h⟩
theorem f_isin {σ : PvS} (h : WFt σ) {dp : Nat → Nat} (d2 : ∀ v, v < σ.1 0 → par σ v = none → dp v = 0) (d3 : ∀ v u, v < σ.1 0 → par σ v = some u → dp v = dp u + 1) {w : Nat} : ∀ {d v n : Nat}, v < σ.1 0 → dp v = d → d + 1 < n → ¬ inn σ w v → f_X3_isOrIsIn_2 σ n w (some v) = some 0 := by
  intro d
  induction d with
  | zero =>
    intro v n hv e hn hi
    obtain ⟨n, rfl⟩ : ∃ m, n = m + 2 := ⟨n - 2, by omega⟩
    show (if v = w then some 1 else nm (par σ v) (fun o2 => f_X3_isOrIsIn_2 σ (n + 1) w o2)) = _
    rw [if_neg (fun q => hi (by rw [q]; exact inn_self)), nm_t]
    cases q : par σ v with
    | none => rfl
    | some u => have := d3 v u hv q; omega
  | succ d ih =>
    intro v n hv e hn hi
    obtain ⟨n, rfl⟩ : ∃ m, n = m + 1 := ⟨n - 1, by omega⟩
    show (if v = w then some 1 else nm (par σ v) (fun o2 => f_X3_isOrIsIn_2 σ n w o2)) = _
    rw [if_neg (fun q => hi (by rw [q]; exact inn_self)), nm_t]
    cases q : par σ v with
    | none => have := d2 v hv q; omega
    | some u =>
      have := d3 v u hv q
      exact ih (h.pa hv q).1 (by omega) (by omega) (fun z => hi (inn_dn z q))
theorem f_isOrIsIn {σ : PvS} (h : WFt σ) {v w : Nat} (hv : v < σ.1 0) (hi : ¬ inn σ w v) : f_X3_isOrIsIn σ v w = some 0 := by
  obtain ⟨dp, d1, d2, d3⟩ := h.dp
  have := d1 v hv
  exact f_isin h d2 d3 hv rfl (by unfold fu; omega) hi
/-- the place among siblings -/
theorem nodup_at {l : List Nat} (hn : l.Nodup) {i j v : Nat} (hi : l[i]? = some v) (hj : l[j]? = some v) : i = j := by
  have h1 := at_lt hi
  have h2 := at_lt hj
  have e : l[i] = l[j] := by rw [List.getElem?_eq_getElem h1] at hi; rw [List.getElem?_eq_getElem h2] at hj; rw [Option.some.inj hi, Option.some.inj hj]
  exact (List.getElem_inj hn).mp e
theorem f_place9 {σ : PvS} (h : WFt σ) {v u k : Nat} (hv : v < σ.1 0) (e : par σ v = some u) (hk : (chl σ u)[k]? = some v) : ∀ {d i n : Nat}, i + d = k → d < n → f_X3_placeAmongSiblings_9 σ n v (nI i) = some (nI k) := by
  have hu := (h.pa hv e).1
  have hl := h.chlen hu
  have hn := h.n
  have hkl := at_lt hk
  have step : ∀ n i, i ≤ k → f_X3_placeAmongSiblings_9 σ (n + 1) v (nI i) = if (chl σ u).getD i 0 = v then some (nI i) else f_X3_placeAmongSiblings_9 σ n v (nI i + 1) := fun n i hi => by
    show nm (par σ v) (fun o1 => oc o1 none (fun jo1 => if nI (chl σ jo1).length ≤ nI i then some (-1) else nm (par σ v) (fun o4 => oc o4 none (fun jo4 => gd (vin (nI i) (chl σ jo4).length) (nm ((chl σ jo4).getD (nI i).toNatClampNeg 0) (fun y6 => if y6 = v then some (nI i) else f_X3_placeAmongSiblings_9 σ n v (nI i + 1))))))) = _
    rw [nm_t, e, oc_st, if_neg (nI_ge (by omega) (s31 (by omega))), nm_t, oc_st, gd_t (vin_n (by omega) (s31 (by omega))), nm_t, nI_clamp (s31 (by omega))]
  intro d
  induction d with
  | zero =>
    intro i n hi hn
    obtain ⟨n, rfl⟩ : ∃ m, n = m + 1 := ⟨n - 1, by omega⟩
    have : i = k := by omega
    subst this
    rw [step n i (Nat.le_refl _), if_pos (getD_at hk)]
  | succ d ih =>
    intro i n hi hn
    obtain ⟨n, rfl⟩ : ∃ m, n = m + 1 := ⟨n - 1, by omega⟩
    rw [step n i (by omega), if_neg (fun q => ?_), nI_1]
    · exact ih (by omega) (by omega)
    · have : (chl σ u)[i]? = some v := by
        rw [List.getD_eq_getElem?_getD, List.getElem?_eq_getElem (show i < (chl σ u).length by omega)] at q
        rw [List.getElem?_eq_getElem (show i < (chl σ u).length by omega)]
        exact congrArg some q
      have := nodup_at (h.chn hu) this hk
      omega
theorem f_place {σ : PvS} (h : WFt σ) {v u k : Nat} (hv : v < σ.1 0) (e : par σ v = some u) (hk : (chl σ u)[k]? = some v) : f_X3_placeAmongSiblings σ v = some (nI k) := by
  have hl := h.chlen (h.pa hv e).1
  have hn := h.n
  have hkl := at_lt hk
  unfold f_X3_placeAmongSiblings
  rw [nm_t]
  show oc (par σ v) _ (fun _ => f_X3_placeAmongSiblings_9 σ fu v (nI 0)) = _
  rw [e, oc_st]
  exact f_place9 h hv e hk (Nat.zero_add k) (by unfold fu; omega)
