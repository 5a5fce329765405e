/-! PURE: the law answers -/
section LAW
variable {N p : Nat} {xs : Nat → Int32} {nn : Nat}
theorem w_two {i o k j : Nat} {S : PvS} {v : Int32} {K : PvS → Option (Int32 × PvS)} {Q : Int32 × PvS → Prop} (s : SG N i p o k S ∧ S.2.1 3 1 j = 0) (hk : k < 13) (hv : srg k v) (nx : ∀ S', SG N i p o (k + 1) S' ∧ S'.2.1 3 1 j = 0 → tot (K S') Q) : tot (gd (vin (nI k) (pvLen S 54 o)) (nm (pvA S 54 o (nI k).toNatClampNeg v) K)) Q := by
  refine tot_gd (show vin (nI k) 13 from vin_n hk (by decide)) (tot_nm ?_)
  rw [nI_clamp (s31 (by omega))]
  refine nx _ ⟨⟨s.1.1.own (frB_A (by decide)) (Nat.le_refl _) rfl (fun _ => rfl) (fun o q => by rw [pvA_at, if_neg (by omega)]) (fun q => by rw [pvA_at, if_neg (by omega)]), fun q hq => ?_⟩, s.2⟩
  rw [pvA_at]
  split
  · rename_i e; rw [e.2.2]; exact hv
  · exact s.1.2 q (by omega)
theorem e1c {c : Nat} (h : c ≤ 3000) : (1 + nI c).toInt = 1 + c := by
  have := ti_n (n := c) (s31 h)
  rw [ti_add (by rw [show (1 : Int32).toInt = 1 from rfl]; omega) (by rw [show (1 : Int32).toInt = 1 from rfl]; omega), this]; rfl
theorem e30c {c : Nat} (h : c ≤ 3000) : (nI c - 30).toInt = c - 30 := by
  have := ti_n (n := c) (s31 h)
  rw [ti_sub (by rw [show (30 : Int32).toInt = 30 from rfl]; omega) (by rw [show (30 : Int32).toInt = 30 from rfl]; omega), this]; rfl
theorem e0c {c : Nat} (h : c ≤ 3000) : (nI c).toInt = c := ti_n (s31 h)
theorem t_98 (h2 : 2 ≤ N) (hN : N ≤ 15) : ∀ (z i m : Nat) (σ : PvS), i + z = 14 → z < m → LI N i p σ → tot (f_law_98 xs nn m σ (nI N) 0 p (nI i)) (fun q => q.1 = 1) := by
  intro z
  induction z with
  | zero =>
    intro i m σ e hm b
    obtain ⟨m, rfl⟩ : ∃ q, m = q + 1 := ⟨m - 1, by omega⟩
    rw [f_law_98_s]
    refine tot_itp (nI_le (a := 14) (by omega) (s31 (by omega))) ?_
    have K := KS.new (vw := 400) b.1 b.2.2.1.1 b.2.2.1.2.1 b.2.2.1.2.2 (by decide)
    have t := t_485 xs nn K (fun r hr => b.2.2.2.2.2.2.1 r hr) (fun v hv => b.2.2.2.2.1 v (by have : v < σ.1 0 := hv; rw [b.2.1.1] at this; exact this)) (by show 2 ≤ σ.1 0; rw [b.2.1.1]; exact h2)
    rw [show (dc σ).1 0 = N from b.2.1.1] at t
    exact t
  | succ z ih =>
    intro i m σ e hm b
    obtain ⟨m, rfl⟩ : ∃ q, m = q + 1 := ⟨m - 1, by omega⟩
    have nx : ∀ σ, LI N (i + 1) p σ → tot (f_law_98 xs nn m σ (nI N) 0 p (nI (i + 1))) (fun q => q.1 = 1) := fun τ bτ => ih (i + 1) m τ (by omega) (by omega) bτ
    have h15 : ¬ (15 - nI i : Int32) < 0 := by
      have : ∀ i : Nat, i < 14 → ¬ (15 - nI i : Int32) < 0 := by decide +kernel
      exact this i (by omega)
    rw [f_law_98_s]
    refine tot_itn (nI_ge (b := 14) (by omega) (by decide)) (tot_gd (nI_pos (s31 (by omega))) (tot_nm (tot_gd h15 (tot_nm ?_))))
    generalize f_cell xs nn (nI i) * 3 + f_cell xs nn (15 - nI i) = m5
    refine tot_ob1 (tot_below σ m5 (m := N) (by omega) (by omega)) (fun r hr => ?_)
    obtain ⟨j, rfl, hj⟩ := hr
    obtain ⟨o, ho⟩ := b.2.2.2.2.2.1 j hj
    refine tot_gd (by rw [b.len hN]; exact vin_n hj (s31 (by omega))) (tot_nm ?_)
    rw [show σ.2.2.1 51 (nI j).toNatClampNeg 0 = some o by rw [nI_clamp (s31 (by omega))]; exact ho.1, oc_st]
    refine tot_gd (show vin 1 5 from by decide) ?_
    rw [show σ.2.2.2.1 52 o ((1 : Int32).toNatClampNeg) = σ.2.1 3 1 j from ho.2.2.2.1]
    have t01 := b.1.t.tx (u := j) (by rw [b.2.1.1]; exact hj)
    refine tot_ite (fun ht => ?_) (fun ht => ?_)
    · refine tot_ob1 (tot_below σ _ (m := 5) (by decide) (by decide)) (fun r hr => ?_)
      obtain ⟨w, rfl, hw⟩ := hr
      exact t_153 nx hj m5 w fu σ (by unfold fu; omega) (by omega) b (by rw [ht]; decide)
    · have t0 : σ.2.1 3 1 j = 0 := t01.resolve_right ht
      refine tot_ob1 (tot_below σ _ (m := 12) (by decide) (by decide)) (fun r hr => ?_)
      obtain ⟨c, rfl, hc⟩ := hr
      obtain ⟨q, hq, eq⟩ := b.2.2.2.2.2.2.2 c hc
      refine tot_gd (show vin (nI c) 12 from vin_n hc (by decide)) (tot_nm ?_)
      rw [show σ.2.2.2.1 53 p (nI c).toNatClampNeg = nI q by rw [nI_clamp (s31 (by omega))]; exact eq]
      have s : SG N i p (σ.1 5) 0 (pvArr σ 54 0 (fun _ => 0)) ∧ (pvArr σ 54 0 (fun _ => 0)).2.1 3 1 j = 0 := ⟨SG_0 b, ((frB_arr (σ := σ) (t := 54) (x := 0) (g := fun _ => 0) (by decide)).2.1 3 1 j (by decide)).trans t0⟩
      generalize pvArr σ 54 0 (fun _ => 0) = S0 at *
      refine tot_ob1 (tot_below S0 _ (m := 2) (by decide) (by decide)) (fun r hr => ?_)
      obtain ⟨c0, rfl, h0⟩ := hr
      refine w_two (k := 0) s (by decide) (show (1 : Int) ≤ (1 + nI c0).toInt ∧ (1 + nI c0).toInt ≤ 2 from by rw [e1c (by omega)]; omega) (fun S s => ?_)
      refine tot_ob1 (tot_below S _ (m := 150) (by decide) (by decide)) (fun r hr => ?_)
      obtain ⟨c1, rfl, h1⟩ := hr
      refine w_two (k := 1) s (by decide) (show (-1 : Int) ≤ (nI c1).toInt ∧ (nI c1).toInt ≤ 149 from by rw [e0c (by omega)]; omega) (fun S s => ?_)
      refine tot_ob1 (tot_below S _ (m := 60) (by decide) (by decide)) (fun r hr => ?_)
      obtain ⟨c2, rfl, h2'⟩ := hr
      refine w_two (k := 2) s (by decide) (show (-1 : Int) ≤ (nI c2).toInt ∧ (nI c2).toInt ≤ 59 from by rw [e0c (by omega)]; omega) (fun S s => ?_)
      refine tot_ob1 (tot_below S _ (m := 12) (by decide) (by decide)) (fun r hr => ?_)
      obtain ⟨c3, rfl, h3⟩ := hr
      refine w_two (k := 3) s (by decide) (show (0 : Int) ≤ (nI c3).toInt ∧ (nI c3).toInt ≤ 11 from by rw [e0c (by omega)]; omega) (fun S s => ?_)
      refine tot_ob1 (tot_below S _ (m := 9) (by decide) (by decide)) (fun r hr => ?_)
      obtain ⟨c4, rfl, h4⟩ := hr
      refine w_two (k := 4) s (by decide) (show (0 : Int) ≤ (nI c4).toInt ∧ (nI c4).toInt ≤ 8 from by rw [e0c (by omega)]; omega) (fun S s => ?_)
      refine tot_ob1 (tot_below S _ (m := 5) (by decide) (by decide)) (fun r hr => ?_)
      obtain ⟨c5, rfl, h5⟩ := hr
      refine w_two (k := 5) s (by decide) (show (0 : Int) ≤ (nI c5).toInt ∧ (nI c5).toInt ≤ 4 from by rw [e0c (by omega)]; omega) (fun S s => ?_)
      refine tot_ob1 (tot_below S _ (m := 3) (by decide) (by decide)) (fun r hr => ?_)
      obtain ⟨c6, rfl, h6⟩ := hr
      refine w_two (k := 6) s (by decide) (show (0 : Int) ≤ (nI c6).toInt ∧ (nI c6).toInt ≤ 2 from by rw [e0c (by omega)]; omega) (fun S s => ?_)
      refine tot_ob1 (tot_below S _ (m := 4) (by decide) (by decide)) (fun r hr => ?_)
      obtain ⟨c7, rfl, h7⟩ := hr
      refine w_two (k := 7) s (by decide) (show (0 : Int) ≤ (nI c7).toInt ∧ (nI c7).toInt ≤ 3 from by rw [e0c (by omega)]; omega) (fun S s => ?_)
      refine w_two (k := 8) s (by decide) (show (0 : Int) ≤ (0 : Int32).toInt ∧ (0 : Int32).toInt ≤ 0 from by decide) (fun S s => ?_)
      refine tot_ob1 (tot_below S _ (m := 12) (by decide) (by decide)) (fun r hr => ?_)
      obtain ⟨c9, rfl, h9⟩ := hr
      refine w_two (k := 9) s (by decide) (show (1 : Int) ≤ (1 + nI c9).toInt ∧ (1 + nI c9).toInt ≤ 12 from by rw [e1c (by omega)]; omega) (fun S s => ?_)
      refine tot_ob1 (tot_below S _ (m := 3) (by decide) (by decide)) (fun r hr => ?_)
      obtain ⟨d0, rfl, g0⟩ := hr
      refine w_two (k := 10) s (by decide) (show (0 : Int) ≤ (nI d0).toInt ∧ (nI d0).toInt ≤ 2 from by rw [e0c (by omega)]; omega) (fun S s => ?_)
      refine tot_ob1 (tot_below S _ (m := 2) (by decide) (by decide)) (fun r hr => ?_)
      obtain ⟨d1, rfl, g1⟩ := hr
      refine w_two (k := 11) s (by decide) (show (0 : Int) ≤ (nI d1).toInt ∧ (nI d1).toInt ≤ 1 from by rw [e0c (by omega)]; omega) (fun S s => ?_)
      refine tot_ob1 (tot_below S _ (m := 61) (by decide) (by decide)) (fun r hr => ?_)
      obtain ⟨d2, rfl, g2⟩ := hr
      refine w_two (k := 12) s (by decide) (show (-30 : Int) ≤ (nI d2 - 30).toInt ∧ (nI d2 - 30).toInt ≤ 30 from by rw [e30c (by omega)]; omega) (fun S s => ?_)
      refine tot_gd (show vin (nI q) 13 from vin_n hq (by decide)) ?_
      have hv := s.1.2 q hq
      have ts := s.2
      have bS := s.1.1
      rw [show S.2.2.2.1 54 (σ.1 5) (nI q).toNatClampNeg = S.2.2.2.1 54 (σ.1 5) q by rw [nI_clamp (s31 (by omega))]]
      generalize S.2.2.2.1 54 (σ.1 5) q = v at *
      refine tot_ob1 (tot_below S _ (m := 2) (by decide) (by decide)) (fun r hr => ?_)
      refine tot_ite (fun _ => ?_) (fun _ => ?_)
      · obtain ⟨zz, ez⟩ := f_declare bS hj ts hq hv
        rw [ob2_t ez, nI_1]
        exact nx _ (bS.decl hv).up
      · refine tot_ob1 (tot_below S _ (m := 4) (by decide) (by decide)) (fun r hr => ?_)
        exact tot_ite (fun _ => t_430 hN nx (by omega) bS hj ts hq (Or.inr rfl) hv m5) (fun _ => t_430 hN nx (by omega) bS hj ts hq (Or.inl rfl) hv m5)
end LAW
