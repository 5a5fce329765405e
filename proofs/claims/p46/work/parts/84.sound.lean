/-! PURE: all is sound -/
theorem KS.e {d σ : PvS} {vw : Int32} (K : KS d vw σ) : dc σ = dc d := K.q.trans K.dd.symm
def sound1 (d : PvS) (vw : Int32) : Int32 × PvS → Prop := fun p => p.1 = 1 ∧ KS d vw p.2
theorem f_prop {σ : PvS} {p : Nat} (hp : p < 14) : f_X9_isProperty σ (nI p) = some 1 := by
  unfold f_X9_isProperty
  rw [if_neg (nI_pos (s31 (by omega))), if_neg (show ¬ 14 ≤ nI p from nI_ge (b := 14) hp (by decide))]
theorem a_because {d σ : PvS} {vw : Int32} {n p : Nat} (K : KS d vw σ) (a : alive d n) (hp : p < 14) : tot (f_X9_because σ (nI n) (nI p)) (fun r => r.1 = str d (-1) n p ∧ KS d vw r.2) := by
  unfold f_X9_because
  rw [ob1_t (f_nodeAt K.1.1.t (K.al a)), ob1_t (f_prop hp), if_neg (by decide)]
  obtain ⟨A, eA, IA, dA, z6, z9⟩ := f_fresh K.1
  have KA : KS d vw A := ⟨IA, dA.trans K.q, z9.trans K.vw, K.w20⟩
  rw [ob1_t eA]
  have hn := KA.1.1.t.alive_lt (KA.al a)
  have h15 := KA.1.1.t.n
  have e30 : A.2.1 3 0 n = nI n := KA.1.1.t.num hn
  have hk : f_X6_isKept A n (nI p) = some 1 := by
    unfold f_X6_isKept
    rw [e30, if_neg (nI_pos (s31 (by omega))), if_neg (show ¬ 40 ≤ nI n from nI_ge (b := 40) (by omega) (by decide)), ob1_t (f_prop hp), if_neg (by decide)]
  have hr : f_X6_reasonOf A 0 n (nI p) = some (A.2.2.2.1 37 (40 * 0 + n) p) := by
    unfold f_X6_reasonOf
    rw [ob1_t hk, if_neg (by decide), e30, gd_t (vin_n (show n < 40 by omega) (by decide))]
    rw [show ∀ i, pvLen A 37 i = 14 from fun _ => rfl, gd_t (vin_n hp (show 14 < 2 ^ 31 by decide)), nI_clamp (s31 (by omega)), nI_clamp (s31 (by omega))]
  rw [ob1_t hr]
  refine tot_some ⟨?_, KA⟩
  rw [(IA.2.1 z6 n (KA.al a) p hp).2, dA.trans K.q]
  have s := (cS_spec K.1.1).2.2.2 n (K.al a) p hp
  rw [K.q] at s
  exact s.2
theorem a_style {d σ : PvS} {vw : Int32} {n p : Nat} (K : KS d vw σ) (a : alive d n) (hp : p < 14) : tot (f_X9_styleOf σ (nI n) (nI p)) (fun r => r.1 = (cS d).2.2.2.1 36 (40 * 0 + n) p ∧ KS d vw r.2) := by
  unfold f_X9_styleOf
  rw [ob1_t (f_nodeAt K.1.1.t (K.al a)), ob1_t (f_prop hp), if_neg (by decide)]
  obtain ⟨A, eA, IA, dA, z6, z9⟩ := f_fresh K.1
  have KA : KS d vw A := ⟨IA, dA.trans K.q, z9.trans K.vw, K.w20⟩
  rw [ob1_t eA]
  have hn := KA.1.1.t.alive_lt (KA.al a)
  have h15 := KA.1.1.t.n
  rw [ob1_t (show f_X6_of A 0 n (nI p) = _ from f_of (KA.1.1.t.num hn) (by omega) hp)]
  refine tot_some ⟨?_, KA⟩
  rw [(IA.2.1 z6 n (KA.al a) p hp).1, dA.trans K.q]
theorem cS_sty {d σ : PvS} {vw : Int32} {n p : Nat} (K : KS d vw σ) (a : alive d n) (hp : p < 14) : (cS d).2.2.2.1 36 (40 * 0 + n) p = stv d (-1) n p (match par d n with | none => 0 | some u => (cS d).2.2.2.1 36 (40 * 0 + u) p) := by
  have s := (cS_spec K.1.1).2.2.2 n (K.al a) p hp
  rw [K.q] at s
  rw [s.1]
  unfold pvv
  have ep : par (cS d) = par d := by
    have := cS_dc K.1.1
    rw [K.q] at this
    exact dc_par (this.trans K.dd.symm)
  rw [ep]
  cases par d n with
  | none => rfl
  | some u => rfl
theorem C_sty {d σ : PvS} {vw : Int32} {n p : Nat} (K : KS d vw σ) (a : alive d n) (hp : p < 14) : sty (cL d vw) n p = (cS d).2.2.2.1 36 (40 * 0 + n) p := by
  obtain ⟨τ, -, Kτ, L⟩ := f_laid K a K.w20
  -- the layout's rows are those that were worked out
  have hc := WF_dc K.1.1 (cS_dc K.1.1)
  obtain ⟨A, B, e1, e2, r1, r2, r3, r4, r5, r6, r7⟩ := r_layOut (σ := cS (dc σ)) (σ' := cS (dc σ)) (w := vw) hc hc rfl (Fr_SR hc (Fr_cS K.1.1)) (fun n a p hp => rfl) (cS_Z0 K.1.1) K.w20
  rw [K.q] at e1 r4
  have ec : cL d vw = A := by unfold cL; rw [e1]; rfl
  rw [ec]
  exact (r4 _ _).1
section NODE
variable {d : PvS} {vw : Int32} {j : Nat} {k4 : PvS → Int32 → Int32 → Option (Int32 × PvS)} {c : Int32}
def NX (d : PvS) (vw : Int32) (j : Nat) (k4 : PvS → Int32 → Int32 → Option (Int32 × PvS)) (c : Int32) : Prop := ∀ σ, KS d vw σ → tot (k4 σ c (nI (j + 1))) (sound1 d vw)
theorem t_331 (nx : NX d vw j k4 c) (a : alive d j) : ∀ (k p m : Nat) (σ : PvS), p + k = 14 → k < m → KS d vw σ → tot (f_L_isSound_331 k4 m σ c (nI j) (nI p)) (sound1 d vw) := by
  intro k
  induction k with
  | zero =>
    intro p m σ e hm K
    obtain ⟨m, rfl⟩ : ∃ q, m = q + 1 := ⟨m - 1, by omega⟩
    have q : 14 ≤ nI p := nI_le (a := 14) (by omega) (s31 (by omega))
    rw [f_L_isSound_331_s]
    refine tot_itp q ?_
    rw [nI_1]
    exact nx σ K
  | succ k ih =>
    intro p m σ e hm K
    obtain ⟨m, rfl⟩ : ∃ q, m = q + 1 := ⟨m - 1, by omega⟩
    have hp : p < 14 := by omega
    have q : ¬ 14 ≤ nI p := nI_ge (b := 14) hp (by decide)
    have hn := K.wf.t.alive_lt a
    have r24 := K.wf.r.1
    rw [f_L_isSound_331_s]
    refine tot_itn q ?_
    have nxt : ∀ τ, KS d vw τ → tot (f_L_isSound_331 k4 m τ c (nI j) (nI p + 1)) (sound1 d vw) := fun τ Kτ => by
      rw [nI_1]; exact ih (p + 1) m τ (by omega) (by omega) Kτ
    refine tot_ob2 (a_because K a hp) (fun r τ h => ?_)
    obtain ⟨hr, Kτ⟩ := h
    have hr : r = str d (-1) j p := hr
    have Kτ : KS d vw τ := Kτ
    have eL : (τ.2.2.2.2 2).length = d.1 1 := by
      rw [Kτ.1.1.r.2.1, List.length_range, ← Kτ.q]; rfl
    have sp := str_spec K.wf (t := -1) (n := j) (p := p) (match par d j with | none => 0 | some u => (cS d).2.2.2.1 36 (40 * 0 + u) p) hn hp
    rw [← cS_sty K a hp, ← hr] at sp
    unfold f_X9_rules
    have s410 : ∀ ρ, KS d vw ρ → (r = -3 → (cS d).2.2.2.1 36 (40 * 0 + j) p = tb3 p) → tot (f_L_isSound_410 k4 (f_L_isSound_331 k4 m) ρ c (nI j) (nI p) r) (sound1 d vw) := fun ρ Kρ h3 => by
      unfold f_L_isSound_410
      refine tot_ite (fun e3 => ?_) (fun _ => nxt ρ Kρ)
      refine tot_ob2 (a_style Kρ a hp) (fun s ρ2 h => ?_)
      obtain ⟨hs, Kρ2⟩ := h
      have hs : s = tb3 p := (show s = _ from hs).trans (h3 e3)
      have s462 : ∀ z : Int32, z = s → tot (f_L_isSound_462 k4 (f_L_isSound_331 k4 m) ρ2 c (nI j) (nI p) z s) (sound1 d vw) := fun z hz => by
        unfold f_L_isSound_462
        exact tot_itp hz.symm (nxt ρ2 Kρ2)
      have pe : ∀ q : Nat, q < 14 → (nI p = nI q ↔ p = q) := fun q hq => ⟨fun w => by
        have := congrArg Int32.toInt w
        rw [ti_n (s31 (by omega)), ti_n (s31 (by omega))] at this
        omega, fun w => by rw [w]⟩
      unfold f_L_isSound_445
      refine tot_ite (fun w => s462 1 ?_) (fun w0 => tot_ite (fun w => s462 (-1) ?_) (fun w1 => tot_ite (fun w => s462 (-1) ?_) (fun w2 => tot_ite (fun w => s462 8 ?_) (fun w9 => s462 0 ?_))))
      · rw [hs, (pe 0 (by decide)).mp w]; rfl
      · rw [hs, (pe 1 (by decide)).mp w]; rfl
      · rw [hs, (pe 2 (by decide)).mp w]; rfl
      · rw [hs, (pe 9 (by decide)).mp w]; rfl
      · have n0 : p ≠ 0 := fun w => w0 ((pe 0 (by decide)).mpr w)
        have n1 : p ≠ 1 := fun w => w1 ((pe 1 (by decide)).mpr w)
        have n2 : p ≠ 2 := fun w => w2 ((pe 2 (by decide)).mpr w)
        have n9 : p ≠ 9 := fun w => w9 ((pe 9 (by decide)).mpr w)
        rw [hs]
        have : p = 3 ∨ p = 4 ∨ p = 5 ∨ p = 6 ∨ p = 7 ∨ p = 8 ∨ p = 10 ∨ p = 11 ∨ p = 12 ∨ p = 13 := by omega
        rcases this with rfl | rfl | rfl | rfl | rfl | rfl | rfl | rfl | rfl | rfl <;> rfl
    have s378 : ∀ ρ, KS d vw ρ → (r = -3 → (cS d).2.2.2.1 36 (40 * 0 + j) p = tb3 p) → (r = -2 → par d j ≠ none ∧ (cS d).2.2.2.1 36 (40 * 0 + j) p = (match par d j with | none => tb3 p | some _ => (match par d j with | none => 0 | some u => (cS d).2.2.2.1 36 (40 * 0 + u) p))) → tot (f_L_isSound_378 k4 (f_L_isSound_331 k4 m) ρ c (nI j) (nI p) r) (sound1 d vw) := fun ρ Kρ h3 h2 => by
      unfold f_L_isSound_378
      refine tot_ite (fun e2 => ?_) (fun _ => s410 ρ Kρ h3)
      obtain ⟨hne, hst⟩ := h2 e2
      obtain ⟨u, hu⟩ : ∃ u, par d j = some u := by
        cases z : par d j with
        | none => exact absurd z hne
        | some u => exact ⟨u, rfl⟩
      have au := K.wf.t.alive_par a hu
      have j0 : nI j ≠ 0 := fun w => by
        have := congrArg Int32.toInt w
        have h15 := K.wf.t.n
        rw [ti_n (s31 (by omega)), show (0 : Int32).toInt = 0 from rfl] at this
        have : j = 0 := by omega
        subst this
        rw [K.wf.t.root.2] at hu
        cases hu
      refine tot_itn j0 ?_
      refine tot_ob2 (a_style Kρ a hp) (fun s ρ2 h => ?_)
      obtain ⟨hs, Kρ2⟩ := h
      have Kρ2 : KS d vw ρ2 := Kρ2
      have ep : par ρ2 j = some u := by rw [dc_par Kρ2.e]; exact hu
      rw [ob1_t (f_parent Kρ2.1.1.t (Kρ2.al a)), ep]
      refine tot_ob2 (a_style Kρ2 au hp) (fun s3 ρ3 h => ?_)
      obtain ⟨hs3, Kρ3⟩ := h
      rw [hu] at hst
      refine tot_itp ?_ (s410 ρ3 Kρ3 h3)
      exact (show s = _ from hs).trans (hst.trans (show s3 = _ from hs3).symm)
    have m3 : (-3 : Int32).toInt = -3 := rfl
    have m2 : (-2 : Int32).toInt = -2 := rfl
    have m1 : (-1 : Int32).toInt = -1 := rfl
    have z0 : (0 : Int32).toInt = 0 := rfl
    have eN : ob1 (some (nI (τ.2.2.2.2 2).length)) (fun r41 => if r41 ≤ r then (some ((0 : Int32), τ)) else (if r < 0 then (f_L_isSound_378 k4 (f_L_isSound_331 k4 m) τ c (nI j) (nI p) r) else (ob1 (f_X9_matches τ r (nI j)) (fun r48 => if r48 = 0 then (some (0, τ)) else (f_L_isSound_378 k4 (f_L_isSound_331 k4 m) τ c (nI j) (nI p) r))))) = (if nI (d.1 1) ≤ r then (some ((0 : Int32), τ)) else (if r < 0 then (f_L_isSound_378 k4 (f_L_isSound_331 k4 m) τ c (nI j) (nI p) r) else (ob1 (f_X9_matches τ r (nI j)) (fun r48 => if r48 = 0 then (some (0, τ)) else (f_L_isSound_378 k4 (f_L_isSound_331 k4 m) τ c (nI j) (nI p) r))))) := by
      rw [eL]; rfl
    rw [eN]
    have tN := ti_n (n := d.1 1) (s31 (by omega))
    rcases sp with h | ⟨i, hi, h, hsel⟩ | ⟨h, h1, h2⟩ | ⟨h, h1⟩
    · refine tot_itn (fun w => by have := ti_lt.mp w; rw [h] at this; omega) (tot_itn (fun w => by have := ti_le.mp w; rw [h] at this; omega) (tot_itp (ti_lt.mpr (by rw [h]; decide)) ?_))
      exact s378 τ Kτ (fun w => by rw [h] at w; exact absurd w (by decide)) (fun w => by rw [h] at w; exact absurd w (by decide))
    · have ti := ti_n (n := i) (s31 (by omega))
      refine tot_itn (fun w => by have := ti_lt.mp w; rw [h] at this; omega) (tot_itn (fun w => by have := ti_le.mp w; rw [h] at this; omega) (tot_itn (fun w => by have := ti_lt.mp w; rw [h] at this; omega) ?_))
      have hi' : i < τ.1 1 := by rw [dc_1 Kτ.e]; exact hi
      have em : f_X9_matches τ (nI i) (nI j) = some (selv d i j) := by
        unfold f_X9_matches
        rw [ob1_t (f_ruleAt Kτ.1.1 hi'), ob1_t (f_nodeAt Kτ.1.1.t (Kτ.al a)), ob1_t (f_selects (Kτ.1.1.r.2.2 i hi').2.2.1)]
        rw [← selv_dc τ, Kτ.q]
      rw [show f_X9_matches τ r (nI j) = some (selv d i j) by rw [h]; exact em]
      show tot (if selv d i j = 0 then _ else _) _
      refine tot_itn hsel ?_
      have hne : ∀ z : Int32, z.toInt < 0 → r ≠ z := fun z hz w => by
        rw [h] at w
        have := congrArg Int32.toInt w
        omega
      exact s378 τ Kτ (fun w => absurd w (hne _ (by decide))) (fun w => absurd w (hne _ (by decide)))
    · refine tot_itn (fun w => by have := ti_lt.mp w; rw [h] at this; omega) (tot_itn (fun w => by have := ti_le.mp w; rw [h] at this; omega) (tot_itp (ti_lt.mpr (by rw [h]; decide)) ?_))
      exact s378 τ Kτ (fun w => by rw [h] at w; exact absurd w (by decide)) (fun _ => ⟨h1, h2⟩)
    · refine tot_itn (fun w => by have := ti_lt.mp w; rw [h] at this; omega) (tot_itn (fun w => by have := ti_le.mp w; rw [h] at this; omega) (tot_itp (ti_lt.mpr (by rw [h]; decide)) ?_))
      exact s378 τ Kτ (fun _ => h1) (fun w => by rw [h] at w; exact absurd w (by decide))
end NODE
