/-! PURE: what is kept between calls -/
def cS (d : PvS) : PvS := (f_X6_workOut d 0 (-1)).getD d
def cL (d : PvS) (w : Int32) : PvS := (f_X4_layOut (cS d) w).getD d
def Fr (σ : PvS) : Prop := ∀ n, alive σ n → ∀ p, p < 14 → σ.2.2.2.1 36 (40 * 0 + n) p = (cS (dc σ)).2.2.2.1 36 (40 * 0 + n) p ∧ σ.2.2.2.1 37 (40 * 0 + n) p = (cS (dc σ)).2.2.2.1 37 (40 * 0 + n) p
def Inv (σ : PvS) : Prop := WF σ ∧ (σ.2.1 6 2 0 ≠ 0 → Fr σ) ∧ (σ.2.1 4 3 0 ≠ 0 → σ.2.1 6 2 0 ≠ 0 ∧ (20 ≤ (σ.2.1 4 3 0).toInt ∧ (σ.2.1 4 3 0).toInt ≤ 2000) ∧ LA (cL (dc σ) (σ.2.1 4 3 0)) σ)
theorem cS_spec {σ : PvS} (h : WF σ) : f_X6_workOut (dc σ) 0 (-1) = some (cS (dc σ)) ∧ frS 0 (dc σ) (cS (dc σ)) ∧ (cS (dc σ)).2.1 6 2 0 = 1 ∧ Sty 0 (-1) (dc σ) (cS (dc σ)) (σ.2.2.2.2 1) := by
  obtain ⟨τ, e, f, o, s⟩ := f_work (WF_dc h (dc_dc σ)) 0 (-1)
  have ec : cS (dc σ) = τ := by unfold cS; rw [e]; rfl
  rw [ec]
  rw [dc_dc] at s
  exact ⟨e, f, o, s⟩
theorem cS_dc {σ : PvS} (h : WF σ) : dc (cS (dc σ)) = dc σ := (cS_spec h).2.1.dc.trans (dc_dc σ)
theorem cS_row {σ τ : PvS} (h : WF σ) (e : dc τ = dc σ) (s : Sty 0 (-1) (dc σ) τ (σ.2.2.2.2 1)) : Fr τ := by
  intro n a p hp
  rw [e]
  have a2 : alive (dc σ) n := by show n ∈ σ.2.2.2.2 1; rw [← dc_L e]; exact a
  have := sty_det (d := dc σ) (k := 0) (k' := 0) (WF_dc h (dc_dc σ)) (e.trans (dc_dc σ).symm) ((cS_dc h).trans (dc_dc σ).symm) (by rw [dc_dc]; exact s) (by rw [dc_dc]; exact (cS_spec h).2.2.2) n a2 p hp
  exact this
theorem Fr_SR {σ : PvS} (h : WF σ) (f : Fr σ) : SR σ := by
  intro n a p hp
  show srg p (σ.2.2.2.1 36 (40 * 0 + n) p)
  rw [(f n a p hp).1]
  exact sty_rng (d := dc σ) (WF_dc h (dc_dc σ)) ((cS_dc h).trans (dc_dc σ).symm) (by rw [dc_dc]; exact (cS_spec h).2.2.2) n a p hp
theorem Fr_cS {σ : PvS} (h : WF σ) : Fr (cS (dc σ)) := cS_row h (cS_dc h) (cS_spec h).2.2.2
theorem cS_Z0 {σ : PvS} (h : WF σ) : Z0 (cS (dc σ)) := by
  obtain ⟨-, f, -, -⟩ := cS_spec h
  refine ⟨fun n q hq => ?_, fun n j => ?_⟩
  · rw [f.2.1 2 q n (by omega)]; rfl
  · rw [f.2.2.2.1 32 n j (by omega)]; rfl
theorem lay_spec {σ : PvS} {w : Int32} (h : WF σ) (fr : Fr σ) (hw : 20 ≤ w.toInt ∧ w.toInt ≤ 2000) : ∃ τ, f_X4_layOut σ w = some τ ∧ LA (cL (dc σ) w) τ ∧ LV (cL (dc σ) w) ∧ dc τ = dc σ ∧ dc (cL (dc σ) w) = dc σ ∧ (∀ i j, τ.2.2.2.1 36 i j = σ.2.2.2.1 36 i j ∧ τ.2.2.2.1 37 i j = σ.2.2.2.1 37 i j ∧ τ.2.1 6 i j = σ.2.1 6 i j ∧ τ.2.1 9 i j = σ.2.1 9 i j) ∧ τ.2.1 4 3 0 = w := by
  have hc := WF_dc h (cS_dc h)
  obtain ⟨A, B, e1, e2, r1, r2, r3, -, r5, -, r7⟩ := r_layOut (σ := cS (dc σ)) (σ' := σ) (w := w) hc h (cS_dc h).symm (Fr_SR hc (Fr_cS h)) (fun n a p hp => (fr n (by show n ∈ σ.2.2.2.2 1; rw [← dc_L (cS_dc h)]; exact a) p hp).1) (cS_Z0 h) hw
  have ec : cL (dc σ) w = A := by unfold cL; rw [e1]; rfl
  rw [ec]
  exact ⟨B, e2, r1, r2, r3.2, r3.1.trans (cS_dc h), r5, r7⟩
theorem cL_LV {σ : PvS} {w : Int32} (h : WF σ) (hw : 20 ≤ w.toInt ∧ w.toInt ≤ 2000) : LV (cL (dc σ) w) ∧ dc (cL (dc σ) w) = dc σ := by
  obtain ⟨τ, -, -, l, -, d, -⟩ := lay_spec (σ := cS (dc σ)) (w := w) (WF_dc h (cS_dc h)) (Fr_cS h) hw
  rw [cS_dc h] at l d
  exact ⟨l, d⟩
theorem f_fresh {σ : PvS} (I : Inv σ) : ∃ τ, f_X9_freshenStyles σ = some τ ∧ Inv τ ∧ dc τ = dc σ ∧ τ.2.1 6 2 0 ≠ 0 ∧ τ.2.1 9 5 0 = σ.2.1 9 5 0 := by
  unfold f_X9_freshenStyles
  by_cases z : σ.2.1 6 2 0 = 0
  · rw [if_pos z]
    obtain ⟨τ, e, f, o, s⟩ := f_work I.1 0 (-1)
    rw [ob1_t e]
    have w0 : τ.2.1 4 3 0 = 0 := by
      rw [f.2.1 4 3 0 (by omega)]
      by_cases q : σ.2.1 4 3 0 = 0
      · exact q
      · exact absurd z (I.2.2 q).1
    exact ⟨τ, rfl, ⟨WF_dc I.1 f.dc, fun _ => cS_row I.1 f.dc s, fun q => absurd w0 q⟩, f.dc, by rw [o]; decide, f.2.1 9 5 0 (by omega)⟩
  · rw [if_neg z]
    exact ⟨σ, rfl, I, rfl, z, rfl⟩
