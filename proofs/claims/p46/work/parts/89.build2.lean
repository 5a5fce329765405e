/-! PURE: the tree is built, all of it -/
theorem tot_below (σ : PvS) (x : Int32) {m : Nat} (h0 : 0 < m) (hm : m ≤ 3000) : tot (f_L_below σ x (nI m)) (fun r => ∃ i, r = nI i ∧ i < m) := by
  obtain ⟨i, e, hi⟩ := below_n σ x h0 hm
  exact ⟨_, e, i, rfl, hi⟩
section BUILD2
variable {N a k : Nat} {xs : Nat → Int32} {nn : Nat} {k34 : PvS → Int32 → Nat → Int32 → Option (Nat × PvS)} {Q : Nat × PvS → Prop}
theorem arr_I (σ : PvS) (x : Int32) (g : Nat → Int32) {κ k i : Nat} : (pvArr σ 52 x g).2.1 κ k i = σ.2.1 κ k i := by
  show (if κ = 51 ∧ (52 : Nat) = 51 ∧ k = 0 ∧ i = σ.1 2 then x else σ.2.1 κ k i) = _
  exact if_neg (fun e => absurd e.2.1 (by decide))
theorem arr_R (σ : PvS) (x : Int32) (g : Nat → Int32) {κ k i : Nat} : (pvArr σ 52 x g).2.2.1 κ k i = σ.2.2.1 κ k i := by
  show (if κ = 51 ∧ (52 : Nat) = 51 ∧ i = σ.1 2 then none else σ.2.2.1 κ k i) = _
  exact if_neg (fun e => absurd e.2.1 (by decide))
theorem arr_A (σ : PvS) (x : Int32) (g : Nat → Int32) {κ i j : Nat} (h : i ≠ σ.1 3) : (pvArr σ 52 x g).2.2.2.1 κ i j = σ.2.2.2.1 κ i j := by
  show (if κ = 52 ∧ i = σ.1 3 then g j else σ.2.2.2.1 κ i j) = _
  exact if_neg (fun e => h e.2)
def mk52 (σ : PvS) (u k a : Nat) (t r : Int32) : PvS := pvR (pvA (pvA (pvA (pvA (pvA (pvArr σ 52 0 (fun _ => 0)) 52 (σ.1 3) 0 (nI u)) 52 (σ.1 3) 1 t) 52 (σ.1 3) 2 r) 52 (σ.1 3) 3 0) 52 (σ.1 3) 4 0) 51 k a (some (σ.1 3))
theorem mk52_A (σ : PvS) (u k a : Nat) (t r : Int32) : (mk52 σ u k a t r).2.2.2.1 52 (σ.1 3) 0 = nI u ∧ (mk52 σ u k a t r).2.2.2.1 52 (σ.1 3) 1 = t ∧ (mk52 σ u k a t r).2.2.2.1 52 (σ.1 3) 2 = r := by
  refine ⟨?_, ?_, ?_⟩
  · show (pvA (pvA (pvA (pvA (pvA (pvArr σ 52 0 (fun _ => 0)) 52 (σ.1 3) 0 (nI u)) 52 (σ.1 3) 1 t) 52 (σ.1 3) 2 r) 52 (σ.1 3) 3 0) 52 (σ.1 3) 4 0).2.2.2.1 52 (σ.1 3) 0 = _
    rw [pvA_at, if_neg (by omega), pvA_at, if_neg (by omega), pvA_at, if_neg (by omega), pvA_at, if_neg (by omega), pvA_self]
  · show (pvA (pvA (pvA (pvA (pvA (pvArr σ 52 0 (fun _ => 0)) 52 (σ.1 3) 0 (nI u)) 52 (σ.1 3) 1 t) 52 (σ.1 3) 2 r) 52 (σ.1 3) 3 0) 52 (σ.1 3) 4 0).2.2.2.1 52 (σ.1 3) 1 = _
    rw [pvA_at, if_neg (by omega), pvA_at, if_neg (by omega), pvA_at, if_neg (by omega), pvA_self]
  · show (pvA (pvA (pvA (pvA (pvA (pvArr σ 52 0 (fun _ => 0)) 52 (σ.1 3) 0 (nI u)) 52 (σ.1 3) 1 t) 52 (σ.1 3) 2 r) 52 (σ.1 3) 3 0) 52 (σ.1 3) 4 0).2.2.2.1 52 (σ.1 3) 2 = _
    rw [pvA_at, if_neg (by omega), pvA_at, if_neg (by omega), pvA_self]
theorem mk52_1 (σ : PvS) (u k a : Nat) (t r : Int32) : (mk52 σ u k a t r).1 3 = σ.1 3 + 1 := by
  show (if (3 : Nat) = 3 then σ.1 3 + 1 else σ.1 3) = _
  exact if_pos rfl
theorem mk52_fr (σ : PvS) (u k a : Nat) (t r : Int32) : frB σ (mk52 σ u k a t r) :=
  (((((frB_arr (by decide)).trans (frB_A (by decide))).trans (frB_A (by decide))).trans (frB_A (by decide))).trans (frB_A (by decide))).trans ((frB_A (by decide)).trans frB_R)
theorem mk52_BI {σ : PvS} (b : BI N a k σ) (u : Nat) (t r : Int32) : BI N a k (mk52 σ u k a t r) := by
  refine b.same (mk52_fr σ u k a t r) (by rw [mk52_1]; omega) ?_ (fun j o hj ho => ho.same (by rw [mk52_1]; omega) ?_ (fun q hq => ?_) (by rw [(mk52_fr σ u k a t r).par]) ((mk52_fr σ u k a t r).2.1 3 1 j (by decide)))
  · show (pvArr σ 52 0 (fun _ => 0)).2.1 51 0 a = σ.2.1 51 0 a
    exact arr_I σ 0 (fun _ => 0)
  · unfold mk52
    rw [pvR_at, if_neg (by omega)]
    show (pvArr σ 52 0 (fun _ => 0)).2.2.1 51 j a = σ.2.2.1 51 j a
    exact arr_R σ 0 (fun _ => 0)
  · have := ho.2.1
    show (pvA (pvA (pvA (pvA (pvA (pvArr σ 52 0 (fun _ => 0)) 52 (σ.1 3) 0 (nI u)) 52 (σ.1 3) 1 t) 52 (σ.1 3) 2 r) 52 (σ.1 3) 3 0) 52 (σ.1 3) 4 0).2.2.2.1 52 o q = _
    rw [pvA_at, if_neg (by omega), pvA_at, if_neg (by omega), pvA_at, if_neg (by omega), pvA_at, if_neg (by omega), pvA_at, if_neg (by omega)]
    exact arr_A _ _ _ (by omega)
theorem t_131 (hN : N ≤ 15) (hk : k + 1 ≤ N) (nx : ∀ τ, BI N a (k + 1) τ → tot (k34 τ (nI N) a (nI (k + 1))) Q) {σ : PvS} (b : BI N a k σ) {u : Nat} (hu : u < k) (tu : σ.2.1 3 1 u = 0) {dp : Nat → Nat} (d1 : ∀ v, v < k → dp v ≤ 8) (d2 : ∀ v, v < k → par σ v = none → dp v = 0) (d3 : ∀ v w, v < k → par σ v = some w → dp v = dp w + 1) (hd : dp u ≤ 7) (m5 : Int32) {t : Int32} (ht : is01 t) : tot (f_L_build_131 k34 xs nn σ (nI N) a (nI k) m5 (nI u) t) Q := by
  have s156 : ∀ t : Int32, is01 t → tot (f_L_build_156 k34 xs nn (pvA (pvArr σ 52 0 (fun _ => 0)) 52 (σ.1 3) 0 (nI u)) (nI N) a (nI k) m5 (nI u) t t 1 (σ.1 3) (σ.1 3) (nI k) a) Q := fun t ht => by
    unfold f_L_build_156
    refine tot_gd (show vin 1 5 from by decide) (tot_nm ?_)
    refine tot_ob1 (tot_below _ (m5 >>> (2 &&& 31)) (m := 4) (by decide) (by decide)) (fun r hr => ?_)
    obtain ⟨i, rfl, hi⟩ := hr
    refine tot_gd (show vin 2 5 from by decide) (tot_nm ?_)
    refine tot_gd (show vin 3 5 from by decide) (tot_nm ?_)
    refine tot_gd (show vin 4 5 from by decide) (tot_nm ?_)
    have i51 : (pvArr σ 52 0 (fun _ => 0)).2.1 51 0 a = σ.2.1 51 0 a := arr_I _ _ _
    refine tot_gd (show vin (nI k) ((pvArr σ 52 0 (fun _ => 0)).2.1 51 0 a).toNatClampNeg from by rw [i51, b.2.2.2.1, nI_clamp (s31 (by omega))]; exact vin_n (show k < N by omega) (s31 (by omega))) (tot_nm ?_)
    have em : pvR (pvA (pvA (pvA (pvA (pvA (pvArr σ 52 0 (fun _ => 0)) 52 (σ.1 3) 0 (nI u)) 52 (σ.1 3) (1 : Int32).toNatClampNeg t) 52 (σ.1 3) (2 : Int32).toNatClampNeg (nI i)) 52 (σ.1 3) (3 : Int32).toNatClampNeg 0) 52 (σ.1 3) (4 : Int32).toNatClampNeg 0) 51 (nI k).toNatClampNeg a (some (σ.1 3)) = mk52 σ u k a t (nI i) := by
      rw [nI_clamp (s31 (by omega))]; rfl
    rw [em]
    have bm := mk52_BI b u t (nI i)
    obtain ⟨A0, A1, A2⟩ := mk52_A σ u k a t (nI i)
    have mR : (mk52 σ u k a t (nI i)).2.2.1 51 k a = some (σ.1 3) := pvR_self _ _ _ _ _
    have m1 := mk52_1 σ u k a t (nI i)
    have fr := mk52_fr σ u k a t (nI i)
    have tm : (mk52 σ u k a t (nI i)).2.1 3 1 u = 0 := (fr.2.1 3 1 u (by decide)).trans tu
    have pm := fr.par
    generalize mk52 σ u k a t (nI i) = M at *
    have d2' : ∀ v, v < k → par M v = none → dp v = 0 := by rw [pm]; exact d2
    have d3' : ∀ v w, v < k → par M v = some w → dp v = dp w + 1 := by rw [pm]; exact d3
    have mk0 : M.1 0 = k := bm.2.1.1
    have ti := ti_n (n := i) (s31 (by omega))
    have fin : ∀ g, BI N a (k + 1) (app (fgt M) u t g) ∧ (app (fgt M) u t g).2.1 3 1 k = t := fun g => by
      refine ⟨bm.add (by omega) hu tm ht d1 d2' d3' hd mR (by rw [m1]; omega) A0 A1 (by rw [A2, ti]; omega), ?_⟩
      have := app_In (fgt M) u t g 1
      rw [show (fgt M).1 0 = k from mk0] at this
      exact this
    refine tot_ite (fun h0 => ?_) (fun h0 => ?_)
    · refine tot_gd (by rw [bm.len hN]; exact vin_n (show k < N by omega) (s31 (by omega))) (tot_nm ?_)
      rw [show M.2.2.1 51 (nI k).toNatClampNeg a = some (σ.1 3) by rw [nI_clamp (s31 (by omega))]; exact mR, oc_st]
      refine tot_gd (show vin 2 5 from by decide) ?_
      rw [show M.2.2.2.1 52 (σ.1 3) ((2 : Int32).toNatClampNeg) = nI i from A2]
      rw [ob2_t (f_addElement bm.1.t (bm.2.2.2.2.1 u hu) (by omega) tm (g := nI i) (by omega) (by omega) (fun v hv => by have := d1 v (by omega); omega) (fun v hv => d2' v (by omega)) (fun v w hv => d3' v w (by omega)) (by omega))]
      have f0 := fin (nI i)
      rw [h0] at f0 ⊢
      exact t_205 hN hk nx f0.1 f0.2 m5
    · have h1 : t = 1 := ht.resolve_left h0
      rw [ob2_t (f_addText bm.1.t (bm.2.2.2.2.1 u hu) (by omega) tm (fun v hv => by have := d1 v (by omega); omega) (fun v hv => d2' v (by omega)) (fun v w hv => d3' v w (by omega)) (by omega))]
      have f0 := fin 0
      rw [h1] at f0 ⊢
      exact t_205 hN hk nx f0.1 f0.2 m5
  unfold f_L_build_131
  refine tot_nm (tot_gd (show vin 0 5 from by decide) (tot_nm ?_))
  have eA : pvA (pvArr σ 52 0 (fun _ => 0)) 52 (σ.1 3) (0 : Int32).toNatClampNeg (nI u) = pvA (pvArr σ 52 0 (fun _ => 0)) 52 (σ.1 3) 0 (nI u) := rfl
  rw [eA]
  refine tot_ite (fun h0 => ?_) (fun h0 => ?_)
  · rw [h0]; exact s156 0 (Or.inl rfl)
  · rw [ht.resolve_left h0]; exact s156 1 (Or.inr rfl)
theorem t_115 (hN : N ≤ 15) (hk : k + 1 ≤ N) (nx : ∀ τ, BI N a (k + 1) τ → tot (k34 τ (nI N) a (nI (k + 1))) Q) {σ : PvS} (b : BI N a k σ) {u : Nat} (hu : u < k) (tu : σ.2.1 3 1 u = 0) {dp : Nat → Nat} (d1 : ∀ v, v < k → dp v ≤ 8) (d2 : ∀ v, v < k → par σ v = none → dp v = 0) (d3 : ∀ v w, v < k → par σ v = some w → dp v = dp w + 1) (hd : dp u ≤ 7) (m5 : Int32) : tot (f_L_build_115 k34 xs nn σ (nI N) a (nI k) m5 (nI u)) Q := by
  unfold f_L_build_115
  refine tot_ob1 (tot_below σ (m5 >>> (3 &&& 31)) (m := 4) (by decide) (by decide)) (fun r hr => ?_)
  exact tot_ite (fun _ => t_131 hN hk nx b hu tu d1 d2 d3 hd m5 (Or.inr rfl)) (fun _ => t_131 hN hk nx b hu tu d1 d2 d3 hd m5 (Or.inl rfl))
theorem t_76 (hN : N ≤ 15) (hk : k + 1 ≤ N) (nx : ∀ τ, BI N a (k + 1) τ → tot (k34 τ (nI N) a (nI (k + 1))) Q) {σ : PvS} (b : BI N a k σ) {u : Nat} (hu : u < k) {dp : Nat → Nat} (d1 : ∀ v, v < k → dp v ≤ 8) (d2 : ∀ v, v < k → par σ v = none → dp v = 0) (d3 : ∀ v w, v < k → par σ v = some w → dp v = dp w + 1) (m5 : Int32) : ∀ (d v m c : Nat), v < k → dp v = d → c + d = dp u → d < m → tot (f_L_build_76 k34 xs nn m σ (nI N) a (nI k) m5 (nI u) (nI c) (nI v)) Q := by
  have n0 : 0 < k := by omega
  have r0 : σ.2.1 3 1 0 = 0 ∧ par σ 0 = none := b.1.t.root
  have t112 : tot (f_L_build_112 k34 xs nn σ (nI N) a (nI k) m5) Q := by
    unfold f_L_build_112
    exact t_115 hN hk nx b (u := 0) n0 r0.1 d1 d2 d3 (by rw [d2 0 n0 r0.2]; omega) m5
  have end0 : ∀ m c, c = dp u → tot (f_L_build_76 k34 xs nn (m + 1) σ (nI N) a (nI k) m5 (nI u) (nI c) (nI 0)) Q := fun m c hc => by
    unfold f_L_build_76
    refine tot_itp (by decide) ?_
    obtain ⟨o, ho⟩ := b.2.2.2.2.2.2 u hu
    refine tot_gd (by rw [b.len hN]; exact vin_n (show u < N by omega) (s31 (by omega))) (tot_nm ?_)
    rw [show σ.2.2.1 51 (nI u).toNatClampNeg a = some o by rw [nI_clamp (s31 (by omega))]; exact ho.1, oc_st]
    refine tot_gd (show vin 1 5 from by decide) ?_
    rw [show σ.2.2.2.1 52 o ((1 : Int32).toNatClampNeg) = σ.2.1 3 1 u from ho.2.2.2.1]
    refine tot_ite (fun _ => t112) (fun h1 => ?_)
    have tu : σ.2.1 3 1 u = 0 := (b.isT hu).resolve_right h1
    have du := d1 u hu
    refine tot_ite (fun h7 => t_115 hN hk nx b hu tu d1 d2 d3 ?_ m5) (fun _ => t112)
    have := ti_le.mp h7
    rw [ti_n (s31 (by omega)), show (7 : Int32).toInt = 7 from rfl] at this
    omega
  intro d
  induction d with
  | zero =>
    intro v m c hv e hc hm
    obtain ⟨m, rfl⟩ : ∃ q, m = q + 1 := ⟨m - 1, by omega⟩
    have v0 : v = 0 := by
      by_cases q : v = 0
      · exact q
      · obtain ⟨w, z⟩ := b.1.t.alive_has (b.2.2.2.2.1 v hv) q
        have := d3 v w hv z
        omega
    rw [v0]
    exact end0 m c (by omega)
  | succ d ih =>
    intro v m c hv e hc hm
    obtain ⟨m, rfl⟩ : ∃ q, m = q + 1 := ⟨m - 1, by omega⟩
    have v0 : v ≠ 0 := fun q => by rw [q, d2 0 n0 r0.2] at e; omega
    obtain ⟨w, z⟩ := b.1.t.alive_has (b.2.2.2.2.1 v hv) v0
    have hw : w < k := by have := (b.1.t.pa (by rw [b.2.1.1]; exact hv) z).1; rw [b.2.1.1] at this; exact this
    have hdw := d3 v w hv z
    obtain ⟨o, ho⟩ := b.2.2.2.2.2.2 v hv
    unfold f_L_build_76
    refine tot_itn (fun q => by have := ti_le.mp q; rw [ti_n (s31 (by omega)), show (0 : Int32).toInt = 0 from rfl] at this; omega) ?_
    refine tot_gd (by rw [b.len hN]; exact vin_n (show v < N by omega) (s31 (by omega))) (tot_nm ?_)
    rw [show σ.2.2.1 51 (nI v).toNatClampNeg a = some o by rw [nI_clamp (s31 (by omega))]; exact ho.1, oc_st]
    refine tot_gd (show vin 0 5 from by decide) ?_
    have e0 := ho.2.2.1
    rw [z] at e0
    rw [show σ.2.2.2.1 52 o ((0 : Int32).toNatClampNeg) = nI w from e0, nI_1]
    exact ih w m (c + 1) hw (by omega) (by omega) (by omega)
theorem t_34 (hN : N ≤ 15) : ∀ (z k m : Nat) (σ : PvS), k + z = N → z < m → 1 ≤ k → BI N a k σ → tot (f_L_build_34 xs nn m σ (nI N) a (nI k)) (fun p => p.1 = a ∧ BI N a N p.2) := by
  intro z
  induction z with
  | zero =>
    intro k m σ e hm h1 b
    obtain ⟨m, rfl⟩ : ∃ q, m = q + 1 := ⟨m - 1, by omega⟩
    unfold f_L_build_34
    have : k = N := by omega
    subst this
    exact tot_itp (nI_le (Nat.le_refl _) (s31 (by omega))) (tot_some ⟨rfl, b⟩)
  | succ z ih =>
    intro k m σ e hm h1 b
    obtain ⟨m, rfl⟩ : ∃ q, m = q + 1 := ⟨m - 1, by omega⟩
    unfold f_L_build_34
    refine tot_itn (nI_ge (by omega) (s31 (by omega))) ?_
    have tk := ti_n (n := k) (s31 (by omega))
    have hneg : ¬ (nI k - nI k / 13 * 13 : Int32) < 0 := by
      have : ∀ k : Nat, k < 16 → ¬ (nI k - nI k / 13 * 13 : Int32) < 0 := by decide +kernel
      exact this k (by omega)
    refine tot_gd hneg (tot_nm ?_)
    refine tot_ob1 (tot_below σ _ (m := k) (by omega) (by omega)) (fun r hr => ?_)
    obtain ⟨u, rfl, hu⟩ := hr
    obtain ⟨dp, d1, d2, d3⟩ := b.2.2.2.2.2.1
    have du := d1 u hu
    exact t_76 hN (by omega) (fun τ bτ => ih (k + 1) m τ (by omega) (by omega) (by omega) bτ) b hu d1 d2 d3 _ (dp u) u fu 0 hu rfl (by omega) (by unfold fu; omega)
end BUILD2
