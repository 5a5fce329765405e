/-! PURE: the checks of the law, from the first -/
theorem t_693 {d σ : PvS} {vw : Int32} (xs : Nat → Int32) (nn : Nat) (K : KS d vw σ) (hon : ∀ r, r < d.1 1 → d.2.1 5 9 r = 1) {w p k : Nat} (aw : alive d w) (hw0 : w ≠ 0) (e : par d w = some p) (hk : (chl d p)[k]? = some w) : tot (f_law_693 xs nn σ (dgv d vw) (nI w) (nI p) (nI k)) (fun p => p.1 = 1) := by
  have hσ := K.1.1.t
  have aσ := K.al aw
  have eσ : par σ w = some p := by rw [dc_par K.e]; exact e
  have kσ : (chl σ p)[k]? = some w := by rw [dc_chl K.e]; exact hk
  have h15 := hσ.n
  have hw := hσ.alive_lt aσ
  have hm := mvd0_WFt hσ aσ hw0 eσ kσ
  have m10 : (mvd σ p k 0 0 w).1 0 = σ.1 0 := rfl
  have I : ∀ κ q i, κ ≠ 4 → κ ≠ 6 → (mvd σ p k 0 0 w).2.1 κ q i = σ.2.1 κ q i := fun κ q i h4 h6 => by rw [mvd_I]; exact fgt_I σ h4 h6
  have wf : WF (mvd σ p k 0 0 w) := ⟨hm, WFw_I K.1.1.w rfl (fun k q _ => I 3 k q (by decide) (by decide)) rfl, K.1.1.r.congr rfl rfl (fun k i => I 5 k i (by decide) (by decide))⟩
  have K2 := KS.new wf (by rw [mvd_I]; exact (fgt_64 σ).1) (by rw [mvd_I]; exact (fgt_64 σ).2) ((I 9 5 0 (by decide) (by decide)).trans K.vw) K.w20
  unfold f_law_693
  rw [ob2_t (f_move0 hσ aσ hw0 eσ kσ)]
  have cl := hm.chlen (u := 0) (by rw [m10]; omega)
  have c1 : 1 ≤ (chl (mvd σ p k 0 0 w) 0).length := by
    rw [mvd_chl, if_pos rfl, List.length_append, List.length_cons]; omega
  have tn := ti_n (n := (chl (mvd σ p k 0 0 w) 0).length) (s31 (by omega))
  refine tot_itn (fun z => by have := ti_lt.mp z; rw [show (1 : Int32).toInt = 1 from rfl] at this; omega) ?_
  refine tot_ob2 (t_sound K2) (fun r τ h => ?_)
  obtain ⟨hr, K3⟩ := h
  have hr : r = 1 := hr
  have K3 : KS (dc (mvd σ p k 0 0 w)) vw τ := K3
  refine tot_itn (by rw [hr]; decide) ?_
  obtain ⟨ρ, e2, d2, x6, x4, xv⟩ := f_moveB hσ aσ hw0 eσ kσ K3.q
  rw [ob2_t e2]
  have K4 := KS.new (WF_dc K.1.1 d2) x6 x4 (xv.trans K3.vw) K.w20
  rw [d2, K.q] at K4
  have ap := K.wf.t.alive_par aw e
  have tp : d.2.1 3 1 p = 0 := (K.wf.t.pa (K.wf.t.alive_lt aw) e).2
  have es : f_X9_size ρ (nI p) = some (nI (chl d p).length) := by
    rw [f_size K4.1.1.t (K4.al ap), dc_I K4.e rfl 1 p, if_pos tp, dc_chl K4.e]
  rw [ob1_t es, dc_chl K.e]
  refine tot_itp rfl ?_
  refine tot_ob2 (a_digest K4) (fun r τ2 h => ?_)
  obtain ⟨hr, K5⟩ := h
  have hr : r = dgv d vw := hr
  rw [hr]
  exact tot_itp (lg_cmp_self _) (t_743 xs nn K5 hon aw hw0 e hk)
theorem t_674 {d σ : PvS} {vw : Int32} (xs : Nat → Int32) (nn : Nat) (K : KS d vw σ) (hon : ∀ r, r < d.1 1 → d.2.1 5 9 r = 1) {w p k : Nat} (aw : alive d w) (hw0 : w ≠ 0) (e : par d w = some p) (hk : (chl d p)[k]? = some w) : ∀ (z i m : Nat), i + z = k → z < m → tot (f_law_674 xs nn m σ (dgv d vw) (nI w) (nI p) (nI i)) (fun p => p.1 = 1) := by
  have ap := K.wf.t.alive_par aw e
  have hw := K.wf.t.alive_lt aw
  have h15 := K.wf.t.n
  have tp : d.2.1 3 1 p = 0 := (K.wf.t.pa hw e).2
  have hkl : k < (chl d p).length := (List.getElem?_eq_some_iff.mp hk).1
  have ch : ∀ {i c : Nat}, (chl d p)[i]? = some c → f_X9_childAt σ (nI p) (nI i) = some (nI c) := fun {i c} hc => f_childAt K.1.1.t (K.al ap) ((dc_I K.e rfl 1 p).trans tp) (by rw [dc_chl K.e]; exact hc)
  intro z
  induction z with
  | zero =>
    intro i m e2 hm
    obtain ⟨m, rfl⟩ : ∃ q, m = q + 1 := ⟨m - 1, by omega⟩
    have : i = k := by omega
    subst this
    rw [f_law_674_s, ob1_t (ch hk)]
    exact tot_itp rfl (t_693 xs nn K hon aw hw0 e hk)
  | succ z ih =>
    intro i m e2 hm
    obtain ⟨m, rfl⟩ : ∃ q, m = q + 1 := ⟨m - 1, by omega⟩
    have hi : i < (chl d p).length := by omega
    have hat := List.getElem?_eq_getElem hi
    rw [f_law_674_s, ob1_t (ch hat)]
    refine tot_ite (fun q => ?_) (fun _ => by rw [nI_1]; exact ih (i + 1) m (by omega) (by omega))
    have hm2 : (chl d p)[i] ∈ chl d p := List.getElem_mem hi
    have clt := ((K.wf.t.ch (K.wf.t.alive_lt ap)).mp hm2).1
    have : (chl d p)[i] = w := by
      have := congrArg Int32.toInt q
      rw [ti_n (s31 (by omega)), ti_n (s31 (by omega))] at this
      omega
    rw [this] at hat
    exact t_693 xs nn K hon aw hw0 e hat
theorem t_648 {d σ : PvS} {vw : Int32} (xs : Nat → Int32) (nn : Nat) (K : KS d vw σ) (hon : ∀ r, r < d.1 1 → d.2.1 5 9 r = 1) (hall : ∀ n, n < d.1 0 → alive d n) (h2 : 2 ≤ d.1 0) : tot (f_law_648 xs nn σ (nI (d.1 0)) (dgv d vw)) (fun p => p.1 = 1) := by
  have h15 := K.wf.t.n
  unfold f_law_648
  refine tot_gd (by decide) (tot_nm ?_)
  have eN : nI (d.1 0) - 1 = nI (d.1 0 - 1) := by
    obtain ⟨q, hq⟩ : ∃ q, d.1 0 = q + 1 := ⟨d.1 0 - 1, by omega⟩
    rw [hq, nI_pred]; rfl
  have tn := ti_n (n := d.1 0 - 1) (s31 (by omega))
  rw [eN]
  obtain ⟨r, e1, q0, q1⟩ := f_below (σ := σ) (x := f_cell xs nn 5) (b := nI (d.1 0 - 1)) (by omega)
  rw [ob1_t e1]
  obtain ⟨i, rfl, hi, -⟩ := cl_n q0
  rw [show (1 : Int32) + nI i = nI (i + 1) by rw [Int32.add_comm, nI_1]]
  have aw : alive d (i + 1) := hall _ (by omega)
  obtain ⟨p, hp⟩ := K.wf.t.alive_has aw (by omega)
  have hlt := (K.wf.t.pa (by omega) hp).1
  have hm : i + 1 ∈ chl d p := (K.wf.t.ch hlt).mpr ⟨by omega, hp⟩
  obtain ⟨k, hkl, hk⟩ := List.mem_iff_getElem.mp hm
  have cl := K.wf.t.chlen hlt
  rw [ob1_t (f_parent K.1.1.t (K.al aw)), dc_par K.e, hp]
  exact t_674 xs nn K hon aw (by omega) hp (by rw [List.getElem?_eq_getElem hkl, hk]) k 0 fu (by omega) (by unfold fu; omega)
theorem f_setView {σ : PvS} {x : Int32} (hx : 20 ≤ x.toInt ∧ x.toInt ≤ 2000) : f_X9_setView σ x = some (σ.2.1 9 5 0, pvI σ 9 5 0 x) := by
  have e1 : f_X9_isViewWidth σ x = some 1 := by
    unfold f_X9_isViewWidth
    have h20 : (20 : Int32).toInt = 20 := rfl
    have h2k : (2000 : Int32).toInt = 2000 := rfl
    rw [if_neg (fun q => by have := ti_lt.mp q; omega), if_neg (fun q => by have := ti_lt.mp q; omega)]
  unfold f_X9_setView
  rw [ob1_t e1, if_neg (by decide), nm_t]
theorem t_597 {d σ : PvS} {vw x h1 h2 : Int32} (xs : Nat → Int32) (nn : Nat) (K : KS d vw σ) (hon : ∀ r, r < d.1 1 → d.2.1 5 9 r = 1) (hall : ∀ n, n < d.1 0 → alive d n) (hN : 2 ≤ d.1 0) (hx : 20 ≤ x.toInt ∧ x.toInt ≤ 2000) (e1 : f_X2_highWithEdges (cL d x) 0 = some h1) (e2 : f_X2_highWithEdges (cL d vw) 0 = some h2) : tot (f_law_597 xs nn σ (nI (d.1 0)) (dgv d vw) x h1 h2) (fun p => p.1 = 1) := by
  unfold f_law_597
  rw [ob2_t (f_setView hx), K.vw]
  refine tot_ob2 (a_page (K.view hx)) (fun r τ h => ?_)
  obtain ⟨-, hr, K2⟩ := h
  have hr : f_X2_highWithEdges (cL d x) 0 = some r := hr
  rw [e1] at hr
  refine tot_itp (Option.some.inj hr).symm ?_
  refine tot_ob2 (a_heightIn K2 K.w20) (fun r τ2 h => ?_)
  obtain ⟨hr, K3⟩ := h
  have hr : f_X2_highWithEdges (cL d vw) 0 = some r := hr
  have K3 : KS d x τ2 := K3
  rw [e2] at hr
  refine tot_itp (Option.some.inj hr).symm ?_
  rw [ob2_t (f_setView K.w20), K3.vw]
  refine tot_itp rfl ?_
  refine tot_ob2 (a_digest (K3.view K.w20)) (fun r τ3 h => ?_)
  obtain ⟨hr, K4⟩ := h
  have hr : r = dgv d vw := hr
  rw [hr]
  exact tot_itp (lg_cmp_self _) (t_648 xs nn K4 hon hall hN)
theorem t_485 {d σ : PvS} {vw : Int32} (xs : Nat → Int32) (nn : Nat) (K : KS d vw σ) (hon : ∀ r, r < d.1 1 → d.2.1 5 9 r = 1) (hall : ∀ n, n < d.1 0 → alive d n) (hN : 2 ≤ d.1 0) : tot (f_law_485 xs nn σ (nI (d.1 0))) (fun p => p.1 = 1) := by
  have r24 := K.wf.r.1
  have h15 := K.wf.t.n
  have hlen := K.wf.t.len
  have z0 : (0 : Int32).toInt = 0 := rfl
  unfold f_law_485
  refine tot_ob2 (t_sound K) (fun r τ h => ?_)
  obtain ⟨hr, K1⟩ := h
  have hr : r = 1 := hr
  refine tot_itn (by rw [hr]; decide) ?_
  refine tot_ob2 (a_digest K1) (fun r τ2 h => ?_)
  obtain ⟨hr, K2⟩ := h
  have hr : r = dgv d vw := hr
  rw [hr]
  refine tot_gd (by decide) (tot_nm ?_)
  obtain ⟨q, eq, q0, q1⟩ := f_below (σ := τ2) (x := f_cell xs nn 3) (b := 500) (by decide)
  rw [ob1_t eq]
  rw [show (500 : Int32).toInt = 500 from rfl] at q1
  have n20 := ti_add (a := 20) (b := q) (by rw [show (20 : Int32).toInt = 20 from rfl]; omega) (by rw [show (20 : Int32).toInt = 20 from rfl]; omega)
  rw [show (20 : Int32).toInt = 20 from rfl] at n20
  have hx : 20 ≤ (20 + q).toInt ∧ (20 + q).toInt ≤ 2000 := by omega
  refine tot_ob2 (a_heightIn K2 hx) (fun h1 τ3 h => ?_)
  obtain ⟨e1, K3⟩ := h
  refine tot_ob2 (a_page K3) (fun h2 τ4 h => ?_)
  obtain ⟨-, e2, K4⟩ := h
  have K4 : KS d vw τ4 := K4
  have er : f_X9_rules τ4 = some (nI (d.1 1)) := by
    unfold f_X9_rules; rw [K4.1.1.r.2.1, List.length_range, dc_1 K4.e]
  have t1 := ti_n (n := d.1 1) (s31 (by omega))
  have s557 : ∀ (ρ : PvS) (c : Nat), KS d vw ρ → c ≤ (d.2.2.2.2 1).length → tot (f_law_557 xs nn ρ (nI (d.1 0)) (dgv d vw) (20 + q) h1 h2 (nI c)) (fun p => p.1 = 1) := fun ρ c Kρ hc => by
    have tc := ti_n (n := c) (s31 (by omega))
    have tl := ti_n (n := (d.2.2.2.2 1).length) (s31 (by omega))
    unfold f_law_557 f_X9_nodes
    refine tot_itn (fun w => by have := ti_lt.mp w; omega) ?_
    rw [dc_L Kρ.e, ob1_t (show (some (nI (d.2.2.2.2 1).length) : Option Int32) = some _ from rfl)]
    refine tot_itn (fun w => by have := ti_lt.mp w; omega) ?_
    refine tot_ob2 (a_hit Kρ) (fun r ρ2 h => ?_)
    obtain ⟨hr, K5⟩ := h
    refine tot_itp hr ?_
    refine tot_ob2 (a_digest K5) (fun r ρ3 h => ?_)
    obtain ⟨hr, K6⟩ := h
    have hr : r = dgv d vw := hr
    rw [hr]
    exact tot_itp (lg_cmp_self _) (t_597 xs nn K6 hon hall hN hx e1 e2)
  rw [ob1_t er]
  refine tot_ite (fun _ => s557 τ4 0 K4 (Nat.zero_le _)) (fun hz => ?_)
  have hpos : 0 < (nI (d.1 1)).toInt := by
    have : (nI (d.1 1)).toInt ≠ (0 : Int32).toInt := fun z => hz (Int32.toInt_inj.mp z)
    omega
  refine tot_gd (by decide) (tot_nm ?_)
  rw [ob1_t er]
  obtain ⟨r, e3, p0, p1⟩ := f_below (σ := τ4) (x := f_cell xs nn 4) hpos
  rw [ob1_t e3]
  obtain ⟨i, rfl, hi, -⟩ := cl_n p0
  refine tot_ob2 (a_changed K4 (r := i) (by omega)) (fun r τ5 h => ?_)
  obtain ⟨⟨c, hc, hc2⟩, K5⟩ := h
  have hc : r = nI c := hc
  rw [hc]
  exact s557 τ5 c K5 hc2
