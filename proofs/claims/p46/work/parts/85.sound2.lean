/-! PURE: a node is sound -/
section NODE2
variable {d : PvS} {vw : Int32} {j : Nat} {k4 : PvS → Int32 → Int32 → Option (Int32 × PvS)} {c : Int32}
def bx01 (d : PvS) (vw : Int32) (j : Nat) : Int32 := if isbx ((cL d vw).2.1 2 0 j) then 1 else 0
theorem t_247 (nx : NX d vw j k4 c) (a : alive d j) (tx : d.2.1 3 1 j = 0) : ∀ (k i m : Nat) (σ : PvS), i + k = (chl d j).length → k < m → KS d vw σ → tot (f_L_isSound_247 k4 m σ c (nI j) (bx01 d vw j) (nI i)) (sound1 d vw) := by
  have t331 : ∀ σ, KS d vw σ → tot (f_L_isSound_331 k4 fu σ c (nI j) 0) (sound1 d vw) := fun σ K => t_331 nx a 14 0 fu σ rfl (by unfold fu; omega) K
  intro k
  induction k with
  | zero =>
    intro i m σ e hm K
    obtain ⟨m, rfl⟩ : ∃ q, m = q + 1 := ⟨m - 1, by omega⟩
    have hn := K.wf.t.alive_lt a
    have h15 := K.wf.t.n
    have hl := K.wf.t.chlen hn
    have ec : chl σ = chl d := dc_chl K.e
    have et : σ.2.1 3 1 j = 0 := (dc_I K.e rfl 1 j).trans tx
    rw [f_L_isSound_247_s, ob1_t (f_size K.1.1.t (K.al a)), if_pos et, ec]
    refine tot_itp (nI_le (by omega) (s31 (by omega))) ?_
    have v := (K.c K.w20).1
    have aC := (K.ca K.w20 (n := j)).mpr a
    unfold bx01
    by_cases hb : isbx ((cL d vw).2.1 2 0 j)
    · rw [if_pos hb]
      refine tot_itn (by decide) ?_
      refine tot_ob2 (a_scrolled K a) (fun r τ h => ?_)
      obtain ⟨hr, Kτ⟩ := h
      have hr : r = (cL d vw).2.1 2 13 j := hr
      refine tot_ite (fun _ => t331 τ Kτ) (fun hpos => ?_)
      have mu := (v.2.2.2.2 j aC).2.2.2
      rw [← hr] at mu
      rcases mu with z | ⟨-, s11, s2, le9⟩
      · rw [z] at hpos; exact absurd (Int32.le_refl 0) hpos
      · rw [C_sty K a (by decide)] at s11 s2
        refine tot_ob2 (a_style Kτ a (p := 11) (by decide)) (fun s τ2 h => ?_)
        obtain ⟨hs, K2⟩ := h
        refine tot_itp ((show s = _ from hs).trans s11) ?_
        refine tot_ob2 (a_scrolled K2 a) (fun r2 τ3 h => ?_)
        obtain ⟨hr2, K3⟩ := h
        have hr2 : r2 = r := (show r2 = _ from hr2).trans hr.symm
        refine tot_ob2 (a_reach K3 a) (fun r3 τ4 h => ?_)
        obtain ⟨⟨hr3, -⟩, K4⟩ := h
        have hr3 : r3 = (cL d vw).2.1 2 9 j := (hr3 hb).2
        refine tot_itn (fun w => by have := ti_lt.mp w; rw [hr3, hr2] at this; omega) ?_
        refine tot_ob2 (a_style K4 a (p := 2) (by decide)) (fun s3 τ5 h => ?_)
        obtain ⟨hs3, K5⟩ := h
        have hs3 : s3 = (cS d).2.2.2.1 36 (40 * 0 + j) 2 := hs3
        have rg : -1 ≤ (sty (cL d vw) j 2).toInt ∧ (sty (cL d vw) j 2).toInt ≤ 59 := v.1.s aC (p := 2) (by decide)
        rw [C_sty K a (by decide), ← hs3] at rg
        rw [← hs3] at s2
        have : s3.toInt ≠ -1 := fun e => s2 (Int32.toInt_inj.mp e)
        refine tot_itp (ti_le.mpr (by rw [show (0 : Int32).toInt = 0 from rfl]; omega)) (t331 τ5 K5)
    · rw [if_neg hb]
      exact tot_itp rfl (t331 σ K)
  | succ k ih =>
    intro i m σ e hm K
    obtain ⟨m, rfl⟩ : ∃ q, m = q + 1 := ⟨m - 1, by omega⟩
    have hn := K.wf.t.alive_lt a
    have h15 := K.wf.t.n
    have hl := K.wf.t.chlen hn
    have ec : chl σ = chl d := dc_chl K.e
    have et : σ.2.1 3 1 j = 0 := (dc_I K.e rfl 1 j).trans tx
    have hi : i < (chl d j).length := by omega
    have hat := List.getElem?_eq_getElem hi
    have hm2 : (chl d j)[i] ∈ chl d j := List.getElem_mem hi
    obtain ⟨clt, cp⟩ := (K.wf.t.ch hn).mp hm2
    have ca := K.wf.t.alive_child a clt cp
    rw [f_L_isSound_247_s, ob1_t (f_size K.1.1.t (K.al a)), if_pos et, ec]
    refine tot_itn (nI_ge (by omega) (s31 (by omega))) ?_
    rw [ob1_t (f_childAt K.1.1.t (K.al a) et (by rw [ec]; exact hat)), ob1_t (f_parent K.1.1.t (K.al ca)), dc_par K.e, cp]
    refine tot_itp rfl ?_
    rw [nI_1]
    exact ih (i + 1) m σ (by omega) (by omega) K
theorem t_206 (nx : NX d vw j k4 c) (a : alive d j) {σ : PvS} (K : KS d vw σ) (z : Int32) : tot (f_L_isSound_206 k4 σ c (nI j) (bx01 d vw j) z z) (sound1 d vw) := by
  have hn := K.wf.t.alive_lt a
  have h15 := K.wf.t.n
  have hl := K.wf.t.chlen hn
  unfold f_L_isSound_206
  refine tot_itp rfl ?_
  rw [ob1_t (f_isText K.1.1.t (K.al a)), dc_I K.e rfl 1 j]
  refine tot_ite (fun tx => t_247 nx a tx (chl d j).length 0 fu σ (by omega) (by unfold fu; omega) K) (fun tx => ?_)
  refine tot_ob2 (a_seen K a tx) (fun r τ h => ?_)
  obtain ⟨hr, Kτ⟩ := h
  have hr : r.toInt ≤ (d.2.1 3 9 j).toInt := hr
  have Kτ : KS d vw τ := Kτ
  have w20 := (K.wf.w j hn).1
  have e31 : τ.2.1 3 1 j ≠ 0 := by rw [dc_I Kτ.e rfl 1 j]; exact tx
  have es : f_X9_size τ (nI j) = some (d.2.1 3 9 j) := by
    rw [f_size Kτ.1.1.t (Kτ.al a), if_neg e31, dc_I Kτ.e rfl 9 j]
  rw [ob1_t es]
  refine tot_itn (fun w => by have := ti_lt.mp w; omega) ?_
  rw [ob1_t es]
  refine tot_itp (ti_le.mpr (by rw [show (20 : Int32).toInt = 20 from rfl]; omega)) ?_
  rw [nI_1]
  exact nx τ Kτ
theorem nI_z {d σ : PvS} {vw : Int32} (K : KS d vw σ) (a : alive d j) : nI j = 0 ↔ j = 0 := by
  have hn := K.wf.t.alive_lt a
  have h15 := K.wf.t.n
  refine ⟨fun w => ?_, fun w => by rw [w]; rfl⟩
  have := congrArg Int32.toInt w
  rw [ti_n (s31 (by omega)), show (0 : Int32).toInt = 0 from rfl] at this
  omega
theorem t_164 (nx : NX d vw j k4 c) (a : alive d j) {σ : PvS} (K : KS d vw σ) : tot (f_L_isSound_164 k4 σ c (nI j) (bx01 d vw j)) (sound1 d vw) := by
  have hn := K.wf.t.alive_lt a
  have h15 := K.wf.t.n
  have z0 : (0 : Int32).toInt = 0 := rfl
  have ep := f_parent K.1.1.t (K.al a)
  rw [dc_par K.e] at ep
  have s184 : tot (f_L_isSound_184 k4 σ c (nI j) (bx01 d vw j)) (sound1 d vw) := by
    unfold f_L_isSound_184 f_L_isSound_197
    rw [ob1_t ep]
    cases e : par d j with
    | none =>
      have j0 : j = 0 := by
        by_cases q : j = 0
        · exact q
        · obtain ⟨u, z⟩ := K.wf.t.alive_has a q
          rw [e] at z; cases z
      refine tot_itn (by show ¬ (0 : Int32) ≤ -1; decide) (tot_itp ((nI_z K a).mpr j0) (t_206 nx a K 1))
    | some u =>
      have j0 : j ≠ 0 := fun q => by rw [q, K.wf.t.root.2] at e; cases e
      have hu := (K.wf.t.pa hn e).1
      refine tot_itp (ti_le.mpr (by show (0 : Int32).toInt ≤ (nI u).toInt; rw [ti_n (s31 (by omega)), z0]; omega)) (tot_itn (fun q => j0 ((nI_z K a).mp q)) (t_206 nx a K 0))
  unfold f_L_isSound_164
  rw [ob1_t ep]
  refine tot_ite (fun _ => s184) (fun hp => ?_)
  rw [ob1_t ep]
  cases e : par d j with
  | none => rw [e] at hp; exact absurd (by decide) hp
  | some u =>
    have au := K.wf.t.alive_par a e
    show tot (ob1 (f_X9_isThere σ (nI u)) _) _
    rw [ob1_t (f_isThere_t K.1.1.t (K.al au))]
    exact tot_itn (by decide) s184
theorem t_66 (nx : NX d vw j k4 c) (a : alive d j) {σ : PvS} (K : KS d vw σ) : tot (f_L_isSound_66 k4 σ c (nI j) (bx01 d vw j)) (sound1 d vw) := by
  have z0 : (0 : Int32).toInt = 0 := rfl
  have s138 : ∀ τ, KS d vw τ → tot (f_L_isSound_138 k4 τ c (nI j) (bx01 d vw j) (bx01 d vw j) (bx01 d vw j)) (sound1 d vw) := fun τ Kτ => by
    unfold f_L_isSound_138
    refine tot_itp rfl (tot_ite (fun hb0 => ?_) (fun _ => t_164 nx a Kτ))
    have hb : ¬ isbx ((cL d vw).2.1 2 0 j) := fun q => by unfold bx01 at hb0; rw [if_pos q] at hb0; exact absurd hb0 (by decide)
    refine tot_ob2 (a_lines Kτ a) (fun r τ2 h => ?_)
    obtain ⟨hr, K2⟩ := h
    refine tot_itp (hr hb) ?_
    refine tot_ob2 (a_scrolled K2 a) (fun r2 τ3 h => ?_)
    obtain ⟨hr2, K3⟩ := h
    have mu := ((K.c K.w20).1.2.2.2.2 j ((K.ca K.w20).mpr a)).2.2.2
    rcases mu with z | ⟨q, -⟩
    · exact tot_itp ((show r2 = _ from hr2).trans z) (t_164 nx a K3)
    · exact absurd q hb
  have s117 : ∀ τ, KS d vw τ → tot (f_L_isSound_117 k4 τ c (nI j) (bx01 d vw j) (bx01 d vw j) (bx01 d vw j)) (sound1 d vw) := fun τ Kτ => by
    unfold f_L_isSound_117
    refine tot_itp rfl (tot_ob2 (a_x Kτ a) (fun r τ2 h => ?_))
    obtain ⟨⟨h1, h2⟩, K2⟩ := h
    by_cases hb : isbx ((cL d vw).2.1 2 0 j)
    · have e : bx01 d vw j = 1 := if_pos hb
      refine tot_itn (fun w => ?_) (by have := s138 τ2 K2; rw [e] at this ⊢; exact this)
      have := h1 hb
      have w : r = -9999 := w
      rw [show (r, τ2).1 = r from rfl, w] at this
      exact absurd this (by decide)
    · have e : bx01 d vw j = 0 := if_neg hb
      exact tot_itp (h2 hb) (by have := s138 τ2 K2; rw [e] at this ⊢; exact this)
  have s99 : ∀ τ, KS d vw τ → tot (f_L_isSound_99 k4 τ c (nI j) (bx01 d vw j) (bx01 d vw j) (bx01 d vw j)) (sound1 d vw) := fun τ Kτ => by
    unfold f_L_isSound_99
    refine tot_itp rfl (tot_ob2 (a_reach Kτ a) (fun r τ2 h => ?_))
    obtain ⟨⟨h1, h2⟩, K2⟩ := h
    by_cases hb : isbx ((cL d vw).2.1 2 0 j)
    · have e : bx01 d vw j = 1 := if_pos hb
      have hz : 0 ≤ r.toInt := (h1 hb).1
      exact tot_itn (fun w => by have := ti_lt.mp w; omega) (by have := s117 τ2 K2; rw [e] at this ⊢; exact this)
    · have e : bx01 d vw j = 0 := if_neg hb
      have hz : r = -1 := h2 hb
      exact tot_itp (by rw [hz]; decide) (by have := s117 τ2 K2; rw [e] at this ⊢; exact this)
  have s81 : ∀ τ, KS d vw τ → tot (f_L_isSound_81 k4 τ c (nI j) (bx01 d vw j) (bx01 d vw j) (bx01 d vw j)) (sound1 d vw) := fun τ Kτ => by
    unfold f_L_isSound_81
    refine tot_itp rfl (tot_ob2 (a_high Kτ a) (fun r τ2 h => ?_))
    obtain ⟨⟨h1, h2⟩, K2⟩ := h
    by_cases hb : isbx ((cL d vw).2.1 2 0 j)
    · have e : bx01 d vw j = 1 := if_pos hb
      have hz : 0 ≤ r.toInt := h1 hb
      exact tot_itn (fun w => by have := ti_lt.mp w; omega) (by have := s99 τ2 K2; rw [e] at this ⊢; exact this)
    · have e : bx01 d vw j = 0 := if_neg hb
      have hz : r = -1 := h2 hb
      exact tot_itp (by rw [hz]; decide) (by have := s99 τ2 K2; rw [e] at this ⊢; exact this)
  unfold f_L_isSound_66
  refine tot_ob2 (a_wide K a) (fun r τ2 h => ?_)
  obtain ⟨⟨h1, h2⟩, K2⟩ := h
  by_cases hb : isbx ((cL d vw).2.1 2 0 j)
  · have e : bx01 d vw j = 1 := if_pos hb
    have hz : 0 ≤ r.toInt := h1 hb
    exact tot_itn (fun w => by have := ti_lt.mp w; omega) (by have := s81 τ2 K2; rw [e] at this ⊢; exact this)
  · have e : bx01 d vw j = 0 := if_neg hb
    have hz : r = -1 := h2 hb
    exact tot_itp (by rw [hz]; decide) (by have := s81 τ2 K2; rw [e] at this ⊢; exact this)
theorem t_42 (nx : NX d vw j k4 c) (a : alive d j) {σ : PvS} (K : KS d vw σ) : tot (f_L_isSound_42 k4 σ c (nI j) ((cL d vw).2.1 2 0 j) (bx01 d vw j)) (sound1 d vw) := by
  have aC := (K.ca K.w20 (n := j)).mpr a
  have v := (K.c K.w20).1
  have c31 : (cL d vw).2.1 3 1 j = d.2.1 3 1 j := dc_I ((K.c K.w20).2.trans K.dd.symm) rfl 1 j
  have tt := v.text aC
  rw [c31] at tt
  have t01 := K.wf.t.tx (K.wf.t.alive_lt a)
  unfold f_L_isSound_42
  rw [ob1_t (f_isText K.1.1.t (K.al a)), dc_I K.e rfl 1 j]
  unfold f_L_isSound_59
  refine tot_ite (fun h1 => ?_) (fun h1 => ?_)
  · have := tt.mp h1
    exact tot_itp (t01.resolve_left this) (t_66 nx a K)
  · refine tot_itp ?_ (t_66 nx a K)
    by_cases q : d.2.1 3 1 j = 0
    · exact q
    · exact absurd (tt.mpr q) h1
end NODE2
theorem cnt_mem {L : List Nat} (hn : L.Nodup) {n : Nat} (hl : ∀ x ∈ L, x < n) : (List.range n).countP (fun i => decide (i ∈ L)) = L.length := by
  rw [List.countP_eq_length_filter]
  refine List.Perm.length_eq ?_
  refine (List.perm_ext_iff_of_nodup (List.Pairwise.filter _ List.nodup_range) hn).mpr (fun x => ?_)
  rw [List.mem_filter, List.mem_range, decide_eq_true_eq]
  exact ⟨fun h => h.2, fun h => ⟨hl x h, h⟩⟩
theorem t_sound {d σ : PvS} {vw : Int32} (K : KS d vw σ) : tot (f_L_isSound σ) (sound1 d vw) := by
  have h15 := K.wf.t.n
  have hlen := K.wf.t.len
  have z0 : (0 : Int32).toInt = 0 := rfl
  have key : ∀ (k j m : Nat) (σ : PvS), j + k = d.1 0 → k < m → KS d vw σ → tot (f_L_isSound_4 m σ (nI ((List.range j).countP (fun i => decide (i ∈ d.2.2.2.2 1)))) (nI j)) (sound1 d vw) := by
    intro k
    induction k with
    | zero =>
      intro j m σ e hm K
      obtain ⟨m, rfl⟩ : ∃ q, m = q + 1 := ⟨m - 1, by omega⟩
      have e1 : σ.1 0 = d.1 0 := dc_1 K.e ▸ rfl
      have eL : σ.2.2.2.2 1 = d.2.2.2.2 1 := by rw [dc_L K.e]
      rw [f_L_isSound_4_s, ob1_t (f_added K.1.1.t), e1]
      refine tot_itp (nI_le (by omega) (s31 (by omega))) ?_
      unfold f_X9_nodes
      rw [eL]
      have hj : j = d.1 0 := by omega
      rw [hj, cnt_mem K.wf.t.nodup (fun x hx => K.wf.t.alive_lt hx)]
      show tot (if nI (d.2.2.2.2 1).length = nI (d.2.2.2.2 1).length then _ else _) _
      refine tot_itp rfl ?_
      refine tot_ob2 (a_page K) (fun r τ h => ?_)
      obtain ⟨hr, -, K2⟩ := h
      have hr : 0 ≤ r.toInt := hr
      refine tot_itn (fun w => by have := ti_lt.mp w; omega) ?_
      refine tot_ob2 (a_mean K2) (fun r2 τ2 h => ?_)
      obtain ⟨hr2, K3⟩ := h
      exact tot_itn hr2 (tot_some ⟨rfl, K3⟩)
    | succ k ih =>
      intro j m σ e hm K
      obtain ⟨m, rfl⟩ : ∃ q, m = q + 1 := ⟨m - 1, by omega⟩
      have e1 : σ.1 0 = d.1 0 := dc_1 K.e ▸ rfl
      have hj : j < d.1 0 := by omega
      rw [f_L_isSound_4_s, ob1_t (f_added K.1.1.t), e1]
      refine tot_itn (nI_ge (by omega) (s31 (by omega))) ?_
      have cs : (List.range (j + 1)).countP (fun i => decide (i ∈ d.2.2.2.2 1)) = (List.range j).countP (fun i => decide (i ∈ d.2.2.2.2 1)) + (if j ∈ d.2.2.2.2 1 then 1 else 0) := by
        rw [List.range_succ, List.countP_append, List.countP_singleton]
        simp only [decide_eq_true_eq]
      by_cases a : alive d j
      · rw [ob1_t (f_isThere_t K.1.1.t (K.al a))]
        refine tot_itn (by decide) ?_
        have nx : NX d vw j (f_L_isSound_4 m) (nI ((List.range j).countP (fun i => decide (i ∈ d.2.2.2.2 1))) + 1) := fun σ K => by
          have := ih (j + 1) m σ (by omega) (by omega) K
          rw [cs, if_pos (show j ∈ d.2.2.2.2 1 from a)] at this
          rw [nI_1]
          exact this
        refine tot_ob2 (a_sort K a) (fun r τ h => ?_)
        obtain ⟨hr, K2⟩ := h
        have hr : r = (cL d vw).2.1 2 0 j := hr
        have t := t_42 nx a K2
        have v := (K.c K.w20).1
        have aC := (K.ca K.w20 (n := j)).mpr a
        have sv := srtv_ne (cL d vw) j
        rw [← v.1.sort aC] at sv
        unfold bx01 at t
        rw [hr]
        rcases sv with w | w | w | w <;> (rw [w] at t ⊢)
        · exact tot_itp (by decide) (by rw [if_neg (by decide)] at t; exact t)
        · exact tot_itp (by decide) (by rw [if_neg (by decide)] at t; exact t)
        · exact tot_itn (by decide) (by rw [if_pos (by decide)] at t; exact t)
        · exact tot_itn (by decide) (by rw [if_pos (by decide)] at t; exact t)
      · have a' : ¬ alive σ j := fun z => a (by show j ∈ d.2.2.2.2 1; rw [← dc_L K.e]; exact z)
        rw [ob1_t (f_isThere_f K.1.1.t (by rw [e1]; exact hj) a')]
        refine tot_itp rfl ?_
        have := ih (j + 1) m σ (by omega) (by omega) K
        rw [cs, if_neg (show ¬ j ∈ d.2.2.2.2 1 from a)] at this
        rw [nI_1]
        exact this
  exact key (d.1 0) 0 fu σ (by omega) (by unfold fu; omega) K
