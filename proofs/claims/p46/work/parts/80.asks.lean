/-! PURE: what is asked, of one document -/
def KS (d : PvS) (vw : Int32) (σ : PvS) : Prop := Inv σ ∧ dc σ = d ∧ σ.2.1 9 5 0 = vw ∧ 20 ≤ vw.toInt ∧ vw.toInt ≤ 2000
theorem KS.q {d σ : PvS} {vw : Int32} (K : KS d vw σ) : dc σ = d := K.2.1
theorem KS.al {d σ : PvS} {vw : Int32} (K : KS d vw σ) {n : Nat} (a : alive d n) : alive σ n := by
  have : n ∈ (dc σ).2.2.2.2 1 := by rw [K.q]; exact a
  exact this
theorem KS.wf {d σ : PvS} {vw : Int32} (K : KS d vw σ) : WF d := by rw [← K.q]; exact WF_dc K.1.1 (dc_dc σ)
theorem KS.dd {d σ : PvS} {vw : Int32} (K : KS d vw σ) : dc d = d := by rw [← K.q]; exact dc_dc σ
theorem KS.vw {d σ : PvS} {vw : Int32} (K : KS d vw σ) : σ.2.1 9 5 0 = vw := K.2.2.1
theorem KS.w20 {d σ : PvS} {vw : Int32} (K : KS d vw σ) : 20 ≤ vw.toInt ∧ vw.toInt ≤ 2000 := K.2.2.2
theorem KS.c {d σ : PvS} {vw : Int32} (K : KS d vw σ) {w : Int32} (hw : 20 ≤ w.toInt ∧ w.toInt ≤ 2000) : LV (cL d w) ∧ dc (cL d w) = d := by
  have := cL_LV K.1.1 hw
  rw [K.q] at this
  exact this
theorem KS.ca {d σ : PvS} {vw : Int32} (K : KS d vw σ) {w : Int32} (hw : 20 ≤ w.toInt ∧ w.toInt ≤ 2000) {n : Nat} : alive (cL d w) n ↔ alive d n := by
  have e : (cL d w).2.2.2.2 1 = d.2.2.2.2 1 := by
    have := congrArg (fun z => z.2.2.2.2 1) (K.c hw).2
    exact this
  show n ∈ (cL d w).2.2.2.2 1 ↔ n ∈ d.2.2.2.2 1
  rw [e]
theorem f_laid {d σ : PvS} {vw : Int32} {w : Int32} {n : Nat} (K : KS d vw σ) (a : alive d n) (hw : 20 ≤ w.toInt ∧ w.toInt ≤ 2000) : ∃ τ, f_X9_laidOut σ (nI n) w = some (n, τ) ∧ KS d vw τ ∧ LA (cL d w) τ := by
  obtain ⟨I, rfl, ev, ew⟩ := K
  have K : KS (dc σ) vw σ := ⟨I, rfl, ev, ew⟩
  unfold f_X9_laidOut
  rw [ob1_t (f_nodeAt I.1.t (K.al a))]
  obtain ⟨τ, e, J, ed, z6, z9⟩ := f_fresh I
  rw [ob1_t e]
  by_cases q : τ.2.1 4 3 0 = w
  · rw [if_pos q]
    have w0 : τ.2.1 4 3 0 ≠ 0 := fun z => by rw [← q, z] at hw; exact absurd hw (by decide)
    refine ⟨τ, rfl, ⟨J, ed, z9.trans ev, ew⟩, ?_⟩
    have := (J.2.2 w0).2.2
    rw [ed, q] at this
    exact this
  · rw [if_neg q]
    obtain ⟨ρ, e2, l, v, ed2, ec, rw2', w2⟩ := lay_spec J.1 (J.2.1 z6) hw
    rw [ed] at l v ec
    rw [ob1_t e2]
    have fr2 : Fr ρ := fun m am p hp => by
      rw [ed2, (rw2' _ _).1, (rw2' _ _).2.1]
      exact J.2.1 z6 m (by show m ∈ τ.2.2.2.2 1; rw [← dc_L ed2]; exact am) p hp
    refine ⟨ρ, rfl, ⟨⟨WF_dc J.1 ed2, fun _ => fr2, fun _ => ⟨by rw [(rw2' 2 0).2.2.1]; exact z6, by rw [w2]; exact hw, ?_⟩⟩, ed2.trans ed, (rw2' 5 0).2.2.2.trans (z9.trans ev), ew⟩, l⟩
    rw [ed2, ed, w2]
    exact l
theorem ask {d σ : PvS} {vw : Int32} {n : Nat} (K : KS d vw σ) (a : alive d n) {g : PvS → Nat → Option Int32} {Q : PvS → Int32 → Prop} (hq : ∀ C τ, LA C τ → LV C → alive C n → rel (g C n) (g τ n) (fun x y => y = x ∧ Q C x)) : tot (ob2 (f_X9_laidOut σ (nI n) (σ.2.1 9 5 0)) (fun r1 σ2 => ob1 (g σ2 r1) (fun r7 => some (r7, σ2)))) (fun p => Q (cL d vw) p.1 ∧ g (cL d vw) n = some p.1 ∧ KS d vw p.2) := by
  rw [K.vw]
  obtain ⟨τ, e, Kτ, L⟩ := f_laid K a K.w20
  rw [ob2_t e]
  obtain ⟨x, y, e1, e2, rfl, q⟩ := hq _ τ L (K.c K.w20).1 ((K.ca K.w20).mpr a)
  rw [ob1_t e2]
  exact tot_some ⟨q, e1, Kτ⟩
theorem a_sort {d σ : PvS} {vw : Int32} {n : Nat} (K : KS d vw σ) (a : alive d n) : tot (f_X9_sortOf σ (nI n)) (fun p => p.1 = (cL d vw).2.1 2 0 n ∧ KS d vw p.2) := by
  unfold f_X9_sortOf
  rw [K.vw]
  obtain ⟨τ, e, Kτ, L⟩ := f_laid K a K.w20
  rw [ob2_t e]
  exact tot_some ⟨L.s0 ((K.ca K.w20).mpr a), Kτ⟩
theorem a_scrolled {d σ : PvS} {vw : Int32} {n : Nat} (K : KS d vw σ) (a : alive d n) : tot (f_X9_scrolled σ (nI n)) (fun p => p.1 = (cL d vw).2.1 2 13 n ∧ KS d vw p.2) := by
  unfold f_X9_scrolled
  rw [K.vw]
  obtain ⟨τ, e, Kτ, L⟩ := f_laid K a K.w20
  rw [ob2_t e]
  exact tot_some ⟨(L.2.1 n ((K.ca K.w20).mpr a)).2.2.2, Kτ⟩
theorem a_x {d σ : PvS} {vw : Int32} {n : Nat} (K : KS d vw σ) (a : alive d n) : tot (f_X9_xOf σ (nI n)) (fun p => ((isbx ((cL d vw).2.1 2 0 n) → -3000 ≤ p.1.toInt) ∧ (¬ isbx ((cL d vw).2.1 2 0 n) → p.1 = -9999)) ∧ KS d vw p.2) :=
  tot_mono (ask K a (g := f_X2_borderX) (Q := fun C x => (isbx (C.2.1 2 0 n) → -3000 ≤ x.toInt) ∧ (¬ isbx (C.2.1 2 0 n) → x = -9999)) (fun C τ L v a => q_bX L v a)) (fun p q => ⟨q.1, q.2.2⟩)
theorem a_wide {d σ : PvS} {vw : Int32} {n : Nat} (K : KS d vw σ) (a : alive d n) : tot (f_X9_wideOf σ (nI n)) (fun p => ((isbx ((cL d vw).2.1 2 0 n) → 0 ≤ p.1.toInt) ∧ (¬ isbx ((cL d vw).2.1 2 0 n) → p.1 = -1)) ∧ KS d vw p.2) :=
  tot_mono (ask K a (g := f_X2_borderWide) (Q := fun C x => (isbx (C.2.1 2 0 n) → 0 ≤ x.toInt) ∧ (¬ isbx (C.2.1 2 0 n) → x = -1)) (fun C τ L v a => q_bW L v a)) (fun p q => ⟨q.1, q.2.2⟩)
theorem a_high {d σ : PvS} {vw : Int32} {n : Nat} (K : KS d vw σ) (a : alive d n) : tot (f_X9_highOf σ (nI n)) (fun p => ((isbx ((cL d vw).2.1 2 0 n) → 0 ≤ p.1.toInt) ∧ (¬ isbx ((cL d vw).2.1 2 0 n) → p.1 = -1)) ∧ KS d vw p.2) :=
  tot_mono (ask K a (g := f_X2_borderHigh) (Q := fun C x => (isbx (C.2.1 2 0 n) → 0 ≤ x.toInt) ∧ (¬ isbx (C.2.1 2 0 n) → x = -1)) (fun C τ L v a => q_bH L v a)) (fun p q => ⟨q.1, q.2.2⟩)
theorem a_reach {d σ : PvS} {vw : Int32} {n : Nat} (K : KS d vw σ) (a : alive d n) : tot (f_X9_reachOf σ (nI n)) (fun p => ((isbx ((cL d vw).2.1 2 0 n) → 0 ≤ p.1.toInt ∧ p.1 = (cL d vw).2.1 2 9 n) ∧ (¬ isbx ((cL d vw).2.1 2 0 n) → p.1 = -1)) ∧ KS d vw p.2) :=
  tot_mono (ask K a (g := f_X2_reachOrNone) (Q := fun C x => (isbx (C.2.1 2 0 n) → 0 ≤ x.toInt ∧ x = C.2.1 2 9 n) ∧ (¬ isbx (C.2.1 2 0 n) → x = -1)) (fun C τ L v a => q_re L v a)) (fun p q => ⟨q.1, q.2.2⟩)
theorem a_lines {d σ : PvS} {vw : Int32} {n : Nat} (K : KS d vw σ) (a : alive d n) : tot (f_X9_lines σ (nI n)) (fun p => (¬ isbx ((cL d vw).2.1 2 0 n) → p.1 = 0) ∧ KS d vw p.2) :=
  tot_mono (ask K a (g := f_X2_linesOrNone) (Q := fun C x => (¬ isbx (C.2.1 2 0 n) → x = 0)) (fun C τ L v a => q_li L a)) (fun p q => ⟨q.1, q.2.2⟩)
theorem a_page {d σ : PvS} {vw : Int32} (K : KS d vw σ) : tot (f_X9_pageHeight σ) (fun p => 0 ≤ p.1.toInt ∧ f_X2_highWithEdges (cL d vw) 0 = some p.1 ∧ KS d vw p.2) :=
  tot_mono (ask K K.wf.t.alive0 (g := f_X2_highWithEdges) (Q := fun C x => 0 ≤ x.toInt) (fun C τ L v a => q_hwe L v)) (fun p q => ⟨q.1, q.2.1, q.2.2⟩)
theorem a_heightIn {d σ : PvS} {vw : Int32} (K : KS d vw σ) {w : Int32} (hw : 20 ≤ w.toInt ∧ w.toInt ≤ 2000) : tot (f_X9_heightIn σ w) (fun p => f_X2_highWithEdges (cL d w) 0 = some p.1 ∧ KS d vw p.2) := by
  have e1 : f_X9_isViewWidth σ w = some 1 := by
    unfold f_X9_isViewWidth
    have h20 : (20 : Int32).toInt = 20 := rfl
    have h2k : (2000 : Int32).toInt = 2000 := rfl
    rw [if_neg (fun q => by have := ti_lt.mp q; omega), if_neg (fun q => by have := ti_lt.mp q; omega)]
  unfold f_X9_heightIn
  rw [ob1_t e1, if_neg (by decide)]
  obtain ⟨τ, e, Kτ, L⟩ := f_laid K K.wf.t.alive0 hw
  rw [ob2_t (show f_X9_laidOut σ 0 w = _ from e)]
  obtain ⟨x, y, e2, e3, rfl, -⟩ := q_hwe L (K.c hw).1
  rw [ob1_t e3]
  exact tot_some ⟨e2, Kτ⟩
theorem a_seen {d σ : PvS} {vw : Int32} {n : Nat} (K : KS d vw σ) (a : alive d n) (ht : d.2.1 3 1 n ≠ 0) : tot (f_X9_seen σ (nI n)) (fun p => p.1.toInt ≤ (d.2.1 3 9 n).toInt ∧ KS d vw p.2) := by
  have e31 : σ.2.1 3 1 n = d.2.1 3 1 n := by rw [← K.q]; rfl
  unfold f_X9_seen
  rw [ob1_t (f_nodeAt K.1.1.t (K.al a)), if_neg (by rw [e31]; exact ht), K.vw]
  obtain ⟨τ, e, Kτ, L⟩ := f_laid K a K.w20
  rw [ob2_t e]
  have aC := (K.ca K.w20 (n := n)).mpr a
  have c31 : (cL d vw).2.1 3 1 n = d.2.1 3 1 n := dc_I ((K.c K.w20).2.trans K.dd.symm) rfl 1 n
  have c39 : (cL d vw).2.1 3 9 n = d.2.1 3 9 n := dc_I ((K.c K.w20).2.trans K.dd.symm) rfl 9 n
  obtain ⟨x, y, e2, e3, rfl, q⟩ := q_seen L (K.c K.w20).1 aC (((K.c K.w20).1.text aC).mpr (by rw [c31]; exact ht))
  rw [ob1_t e3]
  rw [c39] at q
  exact tot_some ⟨q, Kτ⟩
