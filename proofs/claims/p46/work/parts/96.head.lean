/-! PURE: the law, from its head -/
def PG (N p k : Nat) (S : PvS) : Prop := BI N 0 N S ∧ ∀ j, j < k → ∃ q, q < 13 ∧ S.2.2.2.1 53 p j = nI q
theorem p_step {N p k q : Nat} {S : PvS} {K : PvS → Option (Int32 × PvS)} {Q : Int32 × PvS → Prop} (s : PG N p k S) (hk : k < 12) (hq : q < 13) (nx : ∀ S', PG N p (k + 1) S' → tot (K S') Q) : tot (gd (vin (nI k) (pvLen S 53 p)) (nm (pvA S 53 p (nI k).toNatClampNeg (nI q)) K)) Q := by
  refine tot_gd (show vin (nI k) 12 from vin_n hk (by decide)) (tot_nm ?_)
  rw [nI_clamp (s31 (by omega))]
  refine nx _ ⟨s.1.same (frB_A (by decide)) (Nat.le_refl _) rfl (fun j o hj r => r.same (Nat.le_refl _) rfl (fun x hx => by rw [pvA_at, if_neg (by omega)]) rfl rfl), fun j hj => ?_⟩
  by_cases e : j = k
  · subst e; exact ⟨q, hq, pvA_self _ _ _ _ _⟩
  · obtain ⟨x, hx, ex⟩ := s.2 j (by omega)
    exact ⟨x, hx, by rw [pvA_at, if_neg (by omega)]; exact ex⟩
theorem PG_0 {N : Nat} {σ : PvS} (b : BI N 0 N σ) : PG N (σ.1 4) 0 (pvArr σ 53 0 (fun _ => 0)) := by
  refine ⟨b.same (frB_arr (by decide)) ?_ ?_ (fun j o hj r => r.same ?_ ?_ (fun q _ => ?_) ?_ ?_), fun j hj => absurd hj (Nat.not_lt_zero _)⟩
  · show σ.1 3 ≤ (if (3 : Nat) = 4 then σ.1 4 + 1 else σ.1 3); rw [if_neg (by decide)]; exact Nat.le_refl _
  · show (if (51 : Nat) = 51 ∧ (53 : Nat) = 51 ∧ (0 : Nat) = 0 ∧ 0 = σ.1 2 then (0 : Int32) else σ.2.1 51 0 0) = _; exact if_neg (fun e => absurd e.2.1 (by decide))
  · show σ.1 3 ≤ (if (3 : Nat) = 4 then σ.1 4 + 1 else σ.1 3); rw [if_neg (by decide)]; exact Nat.le_refl _
  · show (if (51 : Nat) = 51 ∧ (53 : Nat) = 51 ∧ 0 = σ.1 2 then none else σ.2.2.1 51 j 0) = _; exact if_neg (fun e => absurd e.2.1 (by decide))
  · show (if (52 : Nat) = 53 ∧ o = σ.1 4 then (0 : Int32) else σ.2.2.2.1 52 o q) = _; exact if_neg (fun e => absurd e.1 (by decide))
  · exact congrFun (frB_arr (σ := σ) (t := 53) (x := 0) (g := fun _ => 0) (by decide)).par j
  · exact (frB_arr (σ := σ) (t := 53) (x := 0) (g := fun _ => 0) (by decide)).2.1 3 1 j (by decide)
theorem t_law (xs : Nat → Int32) (nn : Nat) : tot (f_law xs nn pvS0) (fun q => q.1 = 1) := by
  unfold f_law
  refine tot_gd (by decide) (tot_nm ?_)
  refine tot_ob1 (tot_below pvS0 _ (m := 12) (by decide) (by decide)) (fun r hr => ?_)
  obtain ⟨c, rfl, hc⟩ := hr
  have e4 : (4 : Int32) + nI c = nI (4 + c) := by
    apply Int32.toInt_inj.mp
    have tc := ti_n (n := c) (s31 (by omega))
    have t4 := ti_n (n := 4 + c) (s31 (by omega))
    rw [ti_add (by rw [show (4 : Int32).toInt = 4 from rfl]; omega) (by rw [show (4 : Int32).toInt = 4 from rfl]; omega), tc, t4, show (4 : Int32).toInt = 4 from rfl]
    omega
  rw [e4]
  refine tot_ob2 (t_build xs nn (N := 4 + c) (by omega) (by omega)) (fun a σ h => ?_)
  obtain ⟨ha, b⟩ := h
  have ha : a = 0 := ha
  have b : BI (4 + c) 0 (4 + c) σ := b
  subst ha
  refine tot_nm ?_
  have s := PG_0 b
  generalize pvArr σ 53 0 (fun _ => 0) = S0 at *
  refine p_step (k := 0) (q := 0) s (by decide) (by decide) (fun S s => ?_)
  refine p_step (k := 1) (q := 1) s (by decide) (by decide) (fun S s => ?_)
  refine p_step (k := 2) (q := 2) s (by decide) (by decide) (fun S s => ?_)
  refine p_step (k := 3) (q := 3) s (by decide) (by decide) (fun S s => ?_)
  refine p_step (k := 4) (q := 4) s (by decide) (by decide) (fun S s => ?_)
  refine p_step (k := 5) (q := 5) s (by decide) (by decide) (fun S s => ?_)
  refine p_step (k := 6) (q := 6) s (by decide) (by decide) (fun S s => ?_)
  refine p_step (k := 7) (q := 7) s (by decide) (by decide) (fun S s => ?_)
  refine p_step (k := 8) (q := 9) s (by decide) (by decide) (fun S s => ?_)
  refine p_step (k := 9) (q := 10) s (by decide) (by decide) (fun S s => ?_)
  refine p_step (k := 10) (q := 11) s (by decide) (by decide) (fun S s => ?_)
  refine p_step (k := 11) (q := 12) s (by decide) (by decide) (fun S s => ?_)
  obtain ⟨b1, b2, b3, b4, b5, b6, b7⟩ := s.1
  have l : LI (4 + c) 0 (σ.1 4) S := ⟨b1, ⟨b2.1, by rw [b2.2]; exact Nat.le_refl _⟩, b3, b4, b5, b7, fun r hr => by rw [b2.2] at hr; exact absurd hr (Nat.not_lt_zero _), s.2⟩
  exact t_98 (by omega) (by omega) 14 0 16 S rfl (by decide) l
