/-! PURE: the second loop -/
theorem LI.up {N i p : Nat} {σ : PvS} (b : LI N i p σ) : LI N (i + 1) p σ := ⟨b.1, ⟨b.2.1.1, by have := b.2.1.2; omega⟩, b.2.2⟩
section LOOP
variable {N i p : Nat} {xs : Nat → Int32} {nn : Nat} {k98 : PvS → Int32 → Nat → Nat → Int32 → Option (Int32 × PvS)} {Q : Int32 × PvS → Prop}
theorem t_153 (nx : ∀ σ, LI N (i + 1) p σ → tot (k98 σ (nI N) 0 p (nI (i + 1))) Q) {j : Nat} (hj : j < N) (m5 : Int32) : ∀ (w m : Nat) (σ : PvS), w < m → w ≤ 5 → LI N i p σ → σ.2.1 3 1 j ≠ 0 → tot (f_law_153 k98 xs nn m σ (nI N) 0 p (nI i) m5 (nI j) (nI w)) Q := by
  intro w
  induction w with
  | zero =>
    intro m σ hm h5 b ht
    obtain ⟨m, rfl⟩ : ∃ q, m = q + 1 := ⟨m - 1, by omega⟩
    rw [f_law_153_s]
    exact tot_itp (by decide) (by rw [nI_1]; exact nx σ b.up)
  | succ w ih =>
    intro m σ hm h5 b ht
    obtain ⟨m, rfl⟩ : ∃ q, m = q + 1 := ⟨m - 1, by omega⟩
    have aj := b.2.2.2.2.1 j hj
    have w20 := (b.1.w j (b.1.t.alive_lt aj)).1
    obtain ⟨W, hW, hWi, -⟩ := cl_n w20.1
    rw [f_law_153_s]
    refine tot_itn (fun q => by have := ti_le.mp q; rw [ti_n (s31 (by omega)), show (0 : Int32).toInt = 0 from rfl] at this; omega) ?_
    rw [ob1_t (f_size b.1.t aj), if_neg ht, hW]
    refine tot_ite (fun _ => by rw [nI_1]; exact nx σ b.up) (fun h20 => ?_)
    have hW20 : W < 20 := by
      have : ¬ (20 : Int32).toInt ≤ (nI W).toInt := fun z => h20 (ti_le.mpr z)
      rw [ti_n (s31 (by omega)), show (20 : Int32).toInt = 20 from rfl] at this
      omega
    refine tot_ob1 (tot_below σ _ (m := 12) (by decide) (by decide)) (fun r hr => ?_)
    obtain ⟨c, rfl, hc⟩ := hr
    rw [Int32.add_comm, nI_1]
    have tc := ti_n (n := c + 1) (s31 (by omega))
    have eW : (fgt σ).2.1 3 9 j = nI W := (fgt_I σ (by decide) (by decide)).trans hW
    have t1 : (fgt σ).2.1 3 1 j ≠ 0 := by rw [fgt_I σ (by decide) (by decide)]; exact ht
    have ew : f_X9_addWord σ (nI j) (nI (c + 1)) = some (nI (W + 1), pvI (pvA (fgt σ) 30 j W (nI (c + 1))) 3 9 j (nI (W + 1))) := by
      unfold f_X9_addWord
      rw [ob1_t (f_nodeAt b.1.t aj), if_neg ht, if_neg (fun z => by have := ti_lt.mp z; rw [show (1 : Int32).toInt = 1 from rfl] at this; omega), if_pos (ti_le.mpr (by rw [show (12 : Int32).toInt = 12 from rfl]; omega)), hW, if_neg (fun z => h20 z), pvLen_30, if_neg ht, if_pos (nI_lt hW20 (by decide)), ob1_t (f_fgt σ)]
      rw [eW, pvLen_30, if_neg t1, gd_t (vin_n hW20 (by decide)), nm_t, nI_clamp (s31 (by omega))]
      have e9 : (pvA (fgt σ) 30 j W (nI (c + 1))).2.1 3 9 j = nI W := eW
      rw [e9, nm_t, pvI_self, nI_1]
    rw [ob2_t ew]
    rw [show nI (w + 1) + (-1) = nI w from by rw [← Int32.sub_eq_add_neg, nI_pred]]
    refine ih m _ (by omega) (by omega) (b.word ht hW20 (by omega)) ?_
    rw [pvI_at, if_neg (by omega)]
    exact t1
def SG (N i p o k : Nat) (S : PvS) : Prop := LI N i p S ∧ ∀ q, q < k → srg q (S.2.2.2.1 54 o q)
theorem w_step {o k : Nat} {S : PvS} {v : Int32} {K : PvS → Option (Int32 × PvS)} (s : SG N i p o k S) (hk : k < 13) (hv : srg k v) (nx : ∀ S', SG N i p o (k + 1) S' → tot (K S') Q) : tot (gd (vin (nI k) (pvLen S 54 o)) (nm (pvA S 54 o (nI k).toNatClampNeg v) K)) Q := by
  refine tot_gd (show vin (nI k) 13 from vin_n hk (by decide)) (tot_nm ?_)
  rw [nI_clamp (s31 (by omega))]
  refine nx _ ⟨s.1.own (frB_A (by decide)) (Nat.le_refl _) rfl (fun _ => rfl) (fun o q => by rw [pvA_at, if_neg (by omega)]) (fun q => by rw [pvA_at, if_neg (by omega)]), fun q hq => ?_⟩
  rw [pvA_at]
  split
  · rename_i e; rw [e.2.2]; exact hv
  · exact s.2 q (by omega)
theorem SG_0 {σ : PvS} (b : LI N i p σ) : SG N i p (σ.1 5) 0 (pvArr σ 54 0 (fun _ => 0)) := by
  refine ⟨b.own (frB_arr (by decide)) ?_ ?_ (fun j => ?_) (fun o q => ?_) (fun q => ?_), fun q hq => absurd hq (Nat.not_lt_zero _)⟩
  · show σ.1 3 ≤ (if (3 : Nat) = 5 then σ.1 5 + 1 else σ.1 3); rw [if_neg (by decide)]; exact Nat.le_refl _
  · show (if (51 : Nat) = 51 ∧ (54 : Nat) = 51 ∧ (0 : Nat) = 0 ∧ 0 = σ.1 2 then (0 : Int32) else σ.2.1 51 0 0) = _; exact if_neg (fun e => absurd e.2.1 (by decide))
  · show (if (51 : Nat) = 51 ∧ (54 : Nat) = 51 ∧ 0 = σ.1 2 then none else σ.2.2.1 51 j 0) = _; exact if_neg (fun e => absurd e.2.1 (by decide))
  · show (if (52 : Nat) = 54 ∧ o = σ.1 5 then (0 : Int32) else σ.2.2.2.1 52 o q) = _; exact if_neg (fun e => absurd e.1 (by decide))
  · show (if (53 : Nat) = 54 ∧ p = σ.1 5 then (0 : Int32) else σ.2.2.2.1 53 p q) = _; exact if_neg (fun e => absurd e.1 (by decide))
theorem t_430 (hN : N ≤ 15) (nx : ∀ σ, LI N (i + 1) p σ → tot (k98 σ (nI N) 0 p (nI (i + 1))) Q) (hi : i < 24) {σ : PvS} (b : LI N i p σ) {j q : Nat} (hj : j < N) (t0 : σ.2.1 3 1 j = 0) (hq : q < 13) {z v : Int32} (hz : is01 z) (hv : srg q v) (m5 : Int32) : tot (f_law_430 k98 xs nn σ (nI N) 0 p (nI i) m5 (nI j) z v (nI q)) Q := by
  obtain ⟨o, ho⟩ := b.2.2.2.2.2.1 j hj
  obtain ⟨τ, w, ep, pt⟩ := f_addPart b hi (q := q) (y := v) (z := z) (tag := σ.2.2.2.1 52 o 2) ho.2.2.2.2
  have bl := b.rule hi (show q < 14 by omega) hv hz pt
  unfold f_law_430
  rw [ob2_t (f_addRule b hi hq hv hz)]
  have e51 : (rul σ (nI q) v z).2.1 51 0 0 = nI N := (rul_I σ _ _ _ (by omega) (by decide) (by decide)).trans b.2.2.2.1
  refine tot_gd (show vin (nI j) ((rul σ (nI q) v z).2.1 51 0 0).toNatClampNeg from by rw [e51, nI_clamp (s31 (by omega))]; exact vin_n hj (s31 (by omega))) (tot_nm ?_)
  rw [show (rul σ (nI q) v z).2.2.1 51 (nI j).toNatClampNeg 0 = some o by rw [nI_clamp (s31 (by omega))]; exact ho.1, oc_st]
  refine tot_gd (show vin 2 5 from by decide) ?_
  rw [show (rul σ (nI q) v z).2.2.2.1 52 o ((2 : Int32).toNatClampNeg) = σ.2.2.2.1 52 o 2 from rul_A σ _ _ _ (by omega), ob2_t ep, nI_1]
  refine tot_ob1 (tot_below τ _ (m := 3) (by decide) (by decide)) (fun r hr => ?_)
  refine tot_ite (fun _ => ?_) (fun _ => nx τ bl)
  refine tot_ob1 (tot_below τ _ (m := 90) (by decide) (by decide)) (fun r2 hr2 => ?_)
  obtain ⟨c, rfl, hc⟩ := hr2
  have tτ : τ.2.1 3 1 j = 0 := by
    rw [pt.2.1 3 1 j (by omega), fgt_I _ (by decide) (by decide), rul_I σ _ _ _ (by omega) (by decide) (by decide)]; exact t0
  have tc := ti_n (n := c) (s31 (by omega))
  have es : f_X9_scroll τ (nI j) (nI c) = some ((fgt τ).2.1 3 12 j, pvI (fgt τ) 3 12 j (nI c)) := by
    unfold f_X9_scroll
    rw [ob1_t (f_nodeAt bl.1.t (bl.2.2.2.2.1 j hj)), if_pos tτ, if_neg (nI_pos (s31 (by omega))), if_pos (ti_le.mpr (by rw [show (5000 : Int32).toInt = 5000 from rfl]; omega)), ob1_t (f_fgt τ)]
    rfl
  rw [ob2_t es]
  exact nx _ (bl.scr (by omega))
theorem f_declare {σ : PvS} (b : LI N i p σ) {j q : Nat} (hj : j < N) (t0 : σ.2.1 3 1 j = 0) (hq : q < 13) {v : Int32} (hv : srg q v) : ∃ z, f_X9_declare σ (nI j) (nI q) v = some (z, pvA (fgt σ) 31 j q v) := by
  have ne := srg_ne (show q < 14 by omega) hv
  have t1 : (fgt σ).2.1 3 1 j = 0 := (fgt_I σ (by decide) (by decide)).trans t0
  have es : f_X3_setDeclared (fgt σ) j (nI q) v = some (pvA (fgt σ) 31 j q v) := by
    have pl : pvLen (fgt σ) 31 j = 14 := by show (if (fgt σ).2.1 3 1 j = 0 then 14 else 0) = 14; rw [if_pos t1]
    unfold f_X3_setDeclared
    rw [if_neg (nI_pos (s31 (by omega))), pl, if_neg (nI_ge (show q < 14 by omega) (by decide)), gd_t (vin_n (show q < 14 by omega) (by decide)), nm_t, nI_clamp (s31 (by omega))]
  refine ⟨ownv (fgt σ) j q, ?_⟩
  unfold f_X9_declare
  rw [ob1_t (f_nodeAt b.1.t (b.2.2.2.2.1 j hj)), ob1_t (f_prop (show q < 14 by omega)), if_neg (by decide), if_neg ne.1, if_neg ne.2]
  unfold f_X9_declare_43
  rw [if_pos t0, if_pos rfl, ob1_t (f_valueOf hq hv), if_neg (by decide)]
  unfold f_X9_declare_76
  rw [ob1_t (f_fgt σ), ob1_t (f_own (show q < 14 by omega)), ob1_t es]
end LOOP
