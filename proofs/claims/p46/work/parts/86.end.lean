/-! PURE: the checks of the law -/
theorem f_below {σ : PvS} {x b : Int32} (hb : 0 < b.toInt) : ∃ r, f_L_below σ x b = some r ∧ 0 ≤ r.toInt ∧ r.toInt < b.toInt := by
  have hx : 0 ≤ (x &&& 2147483647).toInt := by
    have hm : (x &&& 2147483647).toBitVec.msb = false := by
      rw [Int32.toBitVec_and, BitVec.msb_and]
      rw [show (2147483647 : Int32).toBitVec.msb = false from by decide, Bool.and_false]
    show 0 ≤ (x &&& 2147483647).toBitVec.toInt
    rw [BitVec.toInt_eq_toNat_of_msb hm]
    omega
  have b0 : b ≠ 0 := fun z => by rw [z] at hb; exact absurd hb (by decide)
  unfold f_L_below
  rw [gd_t b0]
  refine ⟨_, rfl, ?_⟩
  generalize x &&& 2147483647 = a at *
  have ha := Int32.toInt_lt a
  have hbl := Int32.toInt_lt b
  have e1 : (a / b).toInt = a.toInt / b.toInt := by
    rw [Int32.toInt_div, Int.tdiv_eq_ediv_of_nonneg hx]
    have h1 : 0 ≤ a.toInt / b.toInt := Int.ediv_nonneg hx (by omega)
    have h2 : a.toInt / b.toInt ≤ a.toInt := Int.ediv_le_self _ hx
    exact Int.bmod_eq_of_le (by omega) (by omega)
  have hd := Int.emod_add_mul_ediv a.toInt b.toInt
  have h0 := Int.emod_nonneg a.toInt (show b.toInt ≠ 0 by omega)
  have h1 := Int.emod_lt_of_pos a.toInt hb
  have hm : a.toInt / b.toInt * b.toInt = a.toInt - a.toInt % b.toInt := by
    rw [Int.mul_comm]; omega
  have e2 := ti_mul (a := a / b) (b := b) (by rw [e1, hm]; omega) (by rw [e1, hm]; omega)
  rw [e1, hm] at e2
  have e3 := ti_sub (a := a) (b := a / b * b) (by omega) (by omega)
  omega
theorem WFw_I {σ τ : PvS} (h : WFw σ) (h0 : τ.1 0 = σ.1 0) (i : ∀ k q, k ≠ 13 → τ.2.1 3 k q = σ.2.1 3 k q) (a : τ.2.2.2.1 = σ.2.2.2.1) : WFw τ :=
  h.congr h0 (fun q => i 1 q (by decide)) (fun q => i 9 q (by decide)) (fun q => i 12 q (by decide)) (fun q j => by rw [a]) (fun q j => by rw [a])
/-- nothing was worked out -/
theorem KS.new {τ : PvS} {vw : Int32} (h : WF τ) (h6 : τ.2.1 6 2 0 = 0) (h4 : τ.2.1 4 3 0 = 0) (hv : τ.2.1 9 5 0 = vw) (hw : 20 ≤ vw.toInt ∧ vw.toInt ≤ 2000) : KS (dc τ) vw τ :=
  ⟨⟨h, fun q => absurd h6 q, fun q => absurd h4 q⟩, rfl, hv, hw⟩
theorem fgt_64 (σ : PvS) : (fgt σ).2.1 6 2 0 = 0 ∧ (fgt σ).2.1 4 3 0 = 0 := fgt_f σ
theorem gon_I5 (σ : PvS) (l : List Nat) (k i : Nat) : (gon σ l).2.1 5 k i = σ.2.1 5 k i := by
  show (if (5 : Nat) = 3 ∧ k = 13 ∧ i ∈ l then 1 else σ.2.1 5 k i) = _
  exact if_neg (fun q => absurd q.1 (by decide))
theorem t_802 {d σ : PvS} {vw : Int32} (xs : Nat → Int32) (nn : Nat) (K : KS d vw σ) {w p k : Nat} (aw : alive d w) (hw0 : w ≠ 0) (e : par d w = some p) (hk : (chl d p)[k]? = some w) : tot (f_law_802 xs nn σ (nI w)) (fun p => p.1 = 1) := by
  have hσ := K.1.1.t
  have aσ := K.al aw
  have eσ : par σ w = some p := by rw [dc_par K.e]; exact e
  have kσ : (chl σ p)[k]? = some w := by rw [dc_chl K.e]; exact hk
  obtain ⟨t1, t2, t3⟩ := tkn_WFt hσ aσ hw0 eσ kσ
  have tl := tkn_len hσ aσ hw0 eσ kσ
  have hl := hσ.len
  have h15 := hσ.n
  have hw := hσ.alive_lt aσ
  unfold f_law_802 f_X9_nodes
  rw [ob1_t (show (some (nI (σ.2.2.2.2 1).length) : Option Int32) = some _ from rfl), ob2_t (f_take hσ aσ hw0 eσ kσ)]
  have n1 := ti_n (n := (σ.2.2.2.2 1).length) (s31 (by omega))
  have n2 := ti_n (n := ((tkn σ p k w).2.2.2.2 1).length) (s31 (by omega))
  have n3 := ti_sub (a := nI (σ.2.2.2.2 1).length) (b := nI ((tkn σ p k w).2.2.2.2 1).length) (by omega) (by omega)
  have n4 := ti_sub (a := nI (σ.2.2.2.2 1).length) (b := nI (σ.2.2.2.2 1).length - nI ((tkn σ p k w).2.2.2.2 1).length) (by omega) (by omega)
  refine tot_itn (fun z => by have := ti_lt.mp z; rw [show (1 : Int32).toInt = 1 from rfl] at this; omega) ?_
  rw [ob1_t (show (some (nI ((tkn σ p k w).2.2.2.2 1).length) : Option Int32) = some _ from rfl)]
  refine tot_itp (Int32.toInt_inj.mp (by omega)) ?_
  have t0 : (tkn σ p k w).1 0 = σ.1 0 := rfl
  rw [ob1_t (f_isThere_f t1 (by rw [t0]; exact hw) t2)]
  refine tot_itp rfl ?_
  have I : ∀ κ q i, q ≠ 13 → (tkn σ p k w).2.1 κ q i = (fgt σ).2.1 κ q i := fun κ q i hq => gon_I _ _ hq
  have I5 : ∀ q i, (tkn σ p k w).2.1 5 q i = (fgt σ).2.1 5 q i := fun q i => gon_I5 (det (fgt σ) p k w) (pre (chl (det (fgt σ) p k w)) 11 w) q i
  have wf : WF (tkn σ p k w) := ⟨t1, WFw_I K.1.1.w t0 (fun k q hk => (I 3 k q hk).trans (fgt_I σ (by decide) (by decide))) rfl, K.1.1.r.congr rfl rfl (fun k i => (I5 k i).trans (fgt_I σ (κ := 5) (by decide) (by decide)))⟩
  have K2 := KS.new wf ((I 6 2 0 (by decide)).trans (fgt_64 σ).1) ((I 4 3 0 (by decide)).trans (fgt_64 σ).2) ((I 9 5 0 (by decide)).trans ((fgt_I σ (by decide) (by decide)).trans K.vw)) K.w20
  refine tot_ob2 (t_sound K2) (fun r τ h => ?_)
  obtain ⟨hr, -⟩ := h
  have hr : r = 1 := hr
  exact tot_itn (by rw [hr]; decide) (tot_some rfl)
theorem turn_dc {σ : PvS} {r : Nat} {v : Int32} : dc (pvI σ 5 9 r v) = pvI (dc σ) 5 9 r v := by
  unfold dc pvI up3
  refine congrArg (fun z => (σ.1, z, _, _, σ.2.2.2.2)) ?_
  funext κ k i
  show (if dkI κ then (if κ = 5 ∧ k = 9 ∧ i = r then v else σ.2.1 κ k i) else 0) = (if κ = 5 ∧ k = 9 ∧ i = r then v else (if dkI κ then σ.2.1 κ k i else 0))
  by_cases h : dkI κ = true
  · rw [if_pos h]
    by_cases q : κ = 5 ∧ k = 9 ∧ i = r
    · rw [if_pos q, if_pos q]
    · rw [if_neg q, if_neg q, if_pos h]
  · rw [if_neg h]
    by_cases q : κ = 5 ∧ k = 9 ∧ i = r
    · rw [q.1] at h; exact absurd rfl h
    · rw [if_neg q, if_neg h]
theorem turn_WF {σ : PvS} {r : Nat} {v : Int32} (h : WF σ) (hv : is01 v) : WF (pvI σ 5 9 r v) := by
  have I : ∀ κ q i, κ ≠ 5 → (pvI σ 5 9 r v).2.1 κ q i = σ.2.1 κ q i := fun κ q i z => by rw [pvI_at, if_neg (fun e => z e.1)]
  refine ⟨h.t.congr rfl rfl rfl (fun i => I 3 0 i (by decide)) (fun i => I 3 1 i (by decide)) (fun i => I 3 13 i (by decide)), WFw_I h.w rfl (fun k q _ => I 3 k q (by decide)) rfl, h.r.1, h.r.2.1, fun i hi => ?_⟩
  obtain ⟨a1, a2, a3, a4⟩ := h.r.2.2 i hi
  have e : ∀ k, k ≠ 9 → (pvI σ 5 9 r v).2.1 5 k i = σ.2.1 5 k i := fun k z => by rw [pvI_at, if_neg (fun e => z e.2.1)]
  rw [e 0 (by decide), e 1 (by decide), e 2 (by decide), e 7 (by decide)]
  refine ⟨a1, a2, a3, ?_⟩
  rw [pvI_at]
  split
  · exact hv
  · exact a4
theorem f_turn {σ : PvS} {r : Nat} (h : WF σ) (hr : r < σ.1 1) : f_X9_turn σ (nI r) = some (if σ.2.1 5 9 r = 0 then (1, pvI (fgt σ) 5 9 r 1) else (0, pvI (fgt σ) 5 9 r 0)) := by
  unfold f_X9_turn
  have e : (fgt σ).2.1 5 9 r = σ.2.1 5 9 r := fgt_I σ (by decide) (by decide)
  rw [ob1_t (f_ruleAt h hr), ob1_t (f_fgt σ), e]
  by_cases q : σ.2.1 5 9 r = 0
  · rw [if_pos q, if_pos q, nm_t, pvI_self, gd_t (Or.inr rfl)]
  · rw [if_neg q, if_neg q, nm_t, pvI_self, gd_t (Or.inl rfl)]
theorem pvI_idem {σ : PvS} {κ k i : Nat} {v w : Int32} (h : σ.2.1 κ k i = w) : pvI (pvI σ κ k i v) κ k i w = σ := by
  unfold pvI up3
  refine congrArg (fun z => (σ.1, z, σ.2.2)) ?_
  funext a b c
  show (if a = κ ∧ b = k ∧ c = i then w else (if a = κ ∧ b = k ∧ c = i then v else σ.2.1 a b c)) = σ.2.1 a b c
  by_cases q : a = κ ∧ b = k ∧ c = i
  · rw [if_pos q, q.1, q.2.1, q.2.2]; exact h.symm
  · rw [if_neg q, if_neg q]
theorem lg_cmp_self (x : Int64) : lg_cmp x x = 0 := by
  unfold lg_cmp
  rw [if_neg (fun h => absurd h (Int64.lt_irrefl)), if_pos rfl]
theorem t_743 {d σ : PvS} {vw : Int32} (xs : Nat → Int32) (nn : Nat) (K : KS d vw σ) (hon : ∀ r, r < d.1 1 → d.2.1 5 9 r = 1) {w p k : Nat} (aw : alive d w) (hw0 : w ≠ 0) (e : par d w = some p) (hk : (chl d p)[k]? = some w) : tot (f_law_743 xs nn σ (dgv d vw) (nI w)) (fun p => p.1 = 1) := by
  have r24 := K.wf.r.1
  have eR : ∀ {ρ : PvS} {dd : PvS}, KS dd vw ρ → (ρ.2.2.2.2 2).length = dd.1 1 := fun {ρ dd} K => by
    rw [K.1.1.r.2.1, List.length_range, dc_1 K.e]
  have er : f_X9_rules σ = some (nI (d.1 1)) := by unfold f_X9_rules; rw [eR K]
  have t1 := ti_n (n := d.1 1) (s31 (by omega))
  unfold f_law_743
  rw [ob1_t er]
  refine tot_ite (fun _ => t_802 xs nn K aw hw0 e hk) (fun hz => ?_)
  have hpos : 0 < (nI (d.1 1)).toInt := by
    have : ¬ (nI (d.1 1)).toInt ≤ (0 : Int32).toInt := fun z => hz (ti_le.mpr z)
    rw [show (0 : Int32).toInt = 0 from rfl] at this
    omega
  refine tot_gd (by decide) (tot_nm ?_)
  rw [ob1_t er]
  obtain ⟨r, e1, q0, q1⟩ := f_below (σ := σ) (x := f_cell xs nn 6) hpos
  rw [ob1_t e1]
  obtain ⟨i, rfl, hi, -⟩ := cl_n q0
  have hi1 : i < d.1 1 := by omega
  have hi2 : i < σ.1 1 := by rw [dc_1 K.e]; exact hi1
  have on : σ.2.1 5 9 i = 1 := (dc_I K.e rfl 9 i).trans (hon i hi1)
  rw [ob2_t (show f_X9_turn σ (nI i) = some (0, pvI (fgt σ) 5 9 i 0) by rw [f_turn K.1.1 hi2, if_neg (by rw [on]; decide)])]
  refine tot_itp rfl ?_
  have fw : WF (fgt σ) := WF_dc K.1.1 (fgt_dc σ)
  have v0 : (fgt σ).2.1 9 5 0 = vw := (fgt_I σ (κ := 9) (by decide) (by decide)).trans K.vw
  have n6 : ∀ (ρ : PvS) (v : Int32) {κ q : Nat}, κ ≠ 5 → (pvI ρ 5 9 i v).2.1 κ q 0 = ρ.2.1 κ q 0 := fun ρ v {κ q} z => by rw [pvI_at, if_neg (fun e => z e.1)]
  have K2 : KS (dc (pvI (fgt σ) 5 9 i 0)) vw (pvI (fgt σ) 5 9 i 0) := KS.new (turn_WF fw (Or.inl rfl)) ((n6 _ _ (by decide)).trans (fgt_64 σ).1) ((n6 _ _ (by decide)).trans (fgt_64 σ).2) ((n6 _ _ (by decide)).trans v0) K.w20
  refine tot_ob2 (t_sound K2) (fun r τ h => ?_)
  obtain ⟨hr, K3⟩ := h
  have hr : r = 1 := hr
  have K3 : KS (dc (pvI (fgt σ) 5 9 i 0)) vw τ := K3
  refine tot_itn (by rw [hr]; decide) ?_
  have hi3 : i < τ.1 1 := by rw [dc_1 K3.e]; exact hi2
  have off : τ.2.1 5 9 i = 0 := (dc_I K3.e rfl 9 i).trans (show (pvI (fgt σ) 5 9 i 0).2.1 5 9 i = 0 from pvI_self _ _ _ _ _)
  rw [ob2_t (show f_X9_turn τ (nI i) = some (1, pvI (fgt τ) 5 9 i 1) by rw [f_turn K3.1.1 hi3, if_pos off])]
  refine tot_itn (by decide) ?_
  have fw2 : WF (fgt τ) := WF_dc K3.1.1 (fgt_dc τ)
  have v2 : (fgt τ).2.1 9 5 0 = vw := (fgt_I τ (κ := 9) (by decide) (by decide)).trans K3.vw
  have dd : dc (pvI (fgt τ) 5 9 i 1) = d := by
    rw [turn_dc, fgt_dc, K3.q, turn_dc, fgt_dc, K.q]
    exact pvI_idem (hon i hi1)
  have K4 := KS.new (turn_WF fw2 (Or.inr rfl)) ((n6 (fgt τ) 1 (by decide)).trans (fgt_64 τ).1) ((n6 _ _ (by decide)).trans (fgt_64 τ).2) ((n6 _ _ (by decide)).trans v2) K.w20
  rw [dd] at K4
  refine tot_ob2 (a_digest K4) (fun r τ2 h => ?_)
  obtain ⟨hr, K5⟩ := h
  have hr : r = dgv d vw := hr
  rw [hr]
  exact tot_itp (lg_cmp_self _) (t_802 xs nn K5 aw hw0 e hk)
