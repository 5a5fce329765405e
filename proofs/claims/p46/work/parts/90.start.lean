/-! PURE: the first state -/
theorem chl_0 (u : Nat) : chl pvS0 u = [] := by
  show (if u + 3 < 2 then [0] else ([] : List Nat)) = []
  exact if_neg (by omega)
theorem par_0 {v u : Nat} (e : par pvS0 v = some u) : False := nomatch (show (none : Option Nat) = some u from e)
theorem WFc_0 : WFc pvS0 := by
  refine ⟨by decide, rfl, fun u hu => ?_, ⟨rfl, rfl⟩, fun u v hu => ?_, fun u hu => by rw [chl_0]; exact List.nodup_nil, fun v u hv e => (par_0 e).elim, ⟨fun _ => 0, fun _ _ => Nat.zero_le _, fun _ _ _ => rfl, fun v u hv e => (par_0 e).elim⟩⟩
  · have : u = 0 := by have : u < 1 := hu; omega
    subst this
    exact ⟨rfl, Or.inl rfl, Or.inl rfl⟩
  · rw [chl_0]
    exact ⟨fun h => absurd h List.not_mem_nil, fun h => (par_0 h.2).elim⟩
theorem WF_0 : WF pvS0 := by
  refine ⟨⟨WFc_0, ?_, fun u hu => ?_⟩, fun u hu => ?_, by decide, rfl, fun r hr => absurd hr (Nat.not_lt_zero _)⟩
  · show [0] = 0 :: (chl pvS0 0).flatMap (pre (chl pvS0) 10)
    rw [chl_0]; rfl
  · have : u = 0 := by have : u < 1 := hu; omega
    subst this
    exact ⟨fun _ => List.mem_singleton.mpr rfl, fun _ => rfl⟩
  · have : u = 0 := by have : u < 1 := hu; omega
    subst this
    refine ⟨by decide, fun _ => rfl, fun j => show 0 ≤ (0 : Int32).toInt ∧ (0 : Int32).toInt ≤ 12 from by decide, by decide, fun _ p hp => Or.inl ?_⟩
    show (if p < 14 then (9998 : Int32) else 0) = 9998
    exact if_pos hp
theorem arr_1 {σ : PvS} {x : Int32} {g : Nat → Int32} : (pvArr σ 51 x g).2.1 51 0 (σ.1 2) = x := by
  show (if (51 : Nat) = 51 ∧ (51 : Nat) = 51 ∧ (0 : Nat) = 0 ∧ σ.1 2 = σ.1 2 then x else _) = x
  exact if_pos ⟨rfl, rfl, rfl, rfl⟩
def st52 (A : PvS) : PvS := pvR (pvA (pvA (pvA (pvA (pvA (pvArr A 52 0 (fun _ => 0)) 52 (A.1 3) 0 (-1)) 52 (A.1 3) 1 0) 52 (A.1 3) 2 0) 52 (A.1 3) 3 0) 52 (A.1 3) 4 0) 51 0 0 (some (A.1 3))
theorem st52_BI {N : Nat} (hN : N ≤ 15) : BI N 0 1 (st52 (pvArr pvS0 51 (nI N) (fun _ => 0))) := by
  have f : frB pvS0 (st52 (pvArr pvS0 51 (nI N) (fun _ => 0))) := (frB_arr (by decide)).trans ((((((frB_arr (by decide)).trans (frB_A (by decide))).trans (frB_A (by decide))).trans (frB_A (by decide))).trans (frB_A (by decide))).trans ((frB_A (by decide)).trans frB_R))
  have e51 : (st52 (pvArr pvS0 51 (nI N) (fun _ => 0))).2.1 51 0 0 = nI N := by
    show (pvArr (pvArr pvS0 51 (nI N) (fun _ => 0)) 52 0 (fun _ => 0)).2.1 51 0 0 = nI N
    rw [arr_I]
    exact arr_1 (σ := pvS0)
  refine ⟨f.WF WF_0, ⟨f.1.1, f.1.2⟩, ⟨f.2.1 6 2 0 (by decide), f.2.1 4 3 0 (by decide), f.2.1 9 5 0 (by decide)⟩, e51, fun v hv => ?_, ⟨fun _ => 0, fun _ _ => Nat.zero_le _, fun _ _ _ => rfl, fun v u hv e => ?_⟩, fun j hj => ?_⟩
  · have : v = 0 := by omega
    subst this
    show 0 ∈ (st52 (pvArr pvS0 51 (nI N) (fun _ => 0))).2.2.2.2 1
    rw [f.2.2.2.2]
    exact List.mem_singleton.mpr rfl
  · rw [f.par] at e; exact (par_0 e).elim
  · have : j = 0 := by omega
    subst this
    refine ⟨0, pvR_self _ _ _ _ _, by show 0 < (if (3 : Nat) = 3 then 0 + 1 else 0); decide, ?_, ?_, ?_⟩
    · rw [f.par]
      show (pvA (pvA (pvA (pvA (pvA (pvArr (pvArr pvS0 51 (nI N) (fun _ => 0)) 52 0 (fun _ => 0)) 52 0 0 (-1)) 52 0 1 0) 52 0 2 0) 52 0 3 0) 52 0 4 0).2.2.2.1 52 0 0 = -1
      rw [pvA_at, if_neg (by omega), pvA_at, if_neg (by omega), pvA_at, if_neg (by omega), pvA_at, if_neg (by omega), pvA_self]
    · rw [f.2.1 3 1 0 (by decide)]
      show (pvA (pvA (pvA (pvA (pvA (pvArr (pvArr pvS0 51 (nI N) (fun _ => 0)) 52 0 (fun _ => 0)) 52 0 0 (-1)) 52 0 1 0) 52 0 2 0) 52 0 3 0) 52 0 4 0).2.2.2.1 52 0 1 = 0
      rw [pvA_at, if_neg (by omega), pvA_at, if_neg (by omega), pvA_at, if_neg (by omega), pvA_self]
    · have e2 : (st52 (pvArr pvS0 51 (nI N) (fun _ => 0))).2.2.2.1 52 0 2 = 0 := by
        show (pvA (pvA (pvA (pvA (pvA (pvArr (pvArr pvS0 51 (nI N) (fun _ => 0)) 52 0 (fun _ => 0)) 52 0 0 (-1)) 52 0 1 0) 52 0 2 0) 52 0 3 0) 52 0 4 0).2.2.2.1 52 0 2 = 0
        rw [pvA_at, if_neg (by omega), pvA_at, if_neg (by omega), pvA_self]
      rw [e2]; decide
theorem t_build (xs : Nat → Int32) (nn : Nat) {N : Nat} (h4 : 1 ≤ N) (hN : N ≤ 15) : tot (f_L_build xs nn pvS0 (nI N)) (fun p => p.1 = 0 ∧ BI N 0 N p.2) := by
  unfold f_L_build
  refine tot_gd (nI_pos (s31 (by omega))) (tot_gd (by rw [nI_clamp (s31 (by omega))]; omega) (tot_nm (tot_nm ?_)))
  refine tot_gd (show vin 0 5 from by decide) (tot_nm ?_)
  refine tot_gd (show vin 1 5 from by decide) (tot_nm ?_)
  refine tot_gd (show vin 2 5 from by decide) (tot_nm ?_)
  refine tot_gd (show vin 3 5 from by decide) (tot_nm ?_)
  refine tot_gd (show vin 4 5 from by decide) (tot_nm ?_)
  have b := st52_BI hN
  refine tot_gd ?_ (tot_nm ?_)
  · have := b.2.2.2.1
    show vin 0 ((pvArr (pvArr pvS0 51 (nI N) (fun _ => 0)) 52 0 (fun _ => 0)).2.1 51 0 0).toNatClampNeg
    rw [arr_I, show (pvArr pvS0 51 (nI N) (fun _ => 0)).2.1 51 0 0 = nI N from arr_1 (σ := pvS0), nI_clamp (s31 (by omega))]
    exact vin_n (i := 0) (by omega) (s31 (by omega))
  · exact t_34 hN (N - 1) 1 16 _ (by omega) (by omega) (Nat.le_refl _) b
