/-! PURE: a layout, in two runs -/
def frW (σ τ : PvS) : Prop := τ.1 = σ.1 ∧ (∀ κ q i, κ ≠ 1 → τ.2.1 κ q i = σ.2.1 κ q i) ∧ τ.2.2 = σ.2.2
theorem frW.refl {σ : PvS} : frW σ σ := ⟨rfl, fun _ _ _ _ => rfl, rfl⟩
theorem frW.trans {σ τ ρ : PvS} (h : frW σ τ) (g : frW τ ρ) : frW σ ρ := ⟨g.1.trans h.1, fun κ q i z => (g.2.1 κ q i z).trans (h.2.1 κ q i z), g.2.2.trans h.2.2⟩
theorem frW_I {σ : PvS} {q i : Nat} {v : Int32} : frW σ (pvI σ 1 q i v) := ⟨rfl, fun κ2 q2 i2 z => by rw [pvI_at, if_neg (fun e => z e.1)], rfl⟩
theorem w_14 : ∀ {m : Nat} {τ : PvS} {n b : Nat} {f j : Int32} {ρ : PvS}, f_X4_addToWish_14 m τ n b f j = some ρ → frW τ ρ := by
  intro m
  induction m with
  | zero => intro τ n b f j ρ h; cases h
  | succ m ih =>
    intro τ n b f j ρ h
    rw [f_X4_addToWish_14_s] at h
    split at h
    · cases h; exact frW.refl
    · obtain ⟨r, -, h⟩ := ob1_e h
      exact (frW_I.trans (frW_I.trans frW_I)).trans (ih h)
theorem w_116 {k : PvS → Nat → Int32 → Option PvS} (hk : ∀ {τ : PvS} {b : Nat} {j : Int32} {ρ : PvS}, k τ b j = some ρ → frW τ ρ) {τ : PvS} {b n : Nat} {j : Int32} {ρ : PvS} (h : f_X4_findWish_116 k τ b j n = some ρ) : frW τ ρ := by
  unfold f_X4_findWish_116 at h
  rw [nm_t] at h
  split at h
  · split at h
    · obtain ⟨A, hA, h⟩ := ob1_e h
      unfold f_X4_addToWish at hA
      obtain ⟨r, -, hA⟩ := ob1_e hA
      exact (w_14 hA).trans (hk h)
    · exact hk h
  · exact hk h
theorem w_18 : ∀ {m : Nat} {τ : PvS} {b : Nat} {j : Int32} {ρ : PvS}, f_X4_findWish_18 m τ b j = some ρ → frW τ ρ := by
  intro m
  induction m with
  | zero => intro τ b j ρ h; cases h
  | succ m ih =>
    intro τ b j ρ h
    rw [f_X4_findWish_18_s] at h
    split at h
    · cases h; exact frW.refl
    · obtain ⟨-, h⟩ := gd_e h
      rw [nm_t, nm_t] at h
      split at h
      · obtain ⟨r, -, h⟩ := ob1_e h
        split at h
        · exact w_116 ih h
        · obtain ⟨r2, -, h⟩ := ob1_e h
          exact (frW_I.trans frW_I).trans (ih h)
      · exact w_116 ih h
theorem w_7 : ∀ {m : Nat} {τ : PvS} {j : Int32} {ρ : PvS}, f_X4_findWishes_7 m τ j = some ρ → frW τ ρ := by
  intro m
  induction m with
  | zero => intro τ j ρ h; cases h
  | succ m ih =>
    intro τ j ρ h
    rw [f_X4_findWishes_7_s] at h
    split at h
    · cases h; exact frW.refl
    · obtain ⟨-, h⟩ := gd_e h
      rw [nm_t] at h
      obtain ⟨r, -, h⟩ := ob1_e h
      split at h
      · exact ih h
      · obtain ⟨-, h⟩ := gd_e h
        rw [nm_t] at h
        obtain ⟨A, hA, h⟩ := ob1_e h
        unfold f_X4_findWish at hA
        exact ((frW_I.trans frW_I).trans (w_18 hA)).trans (ih h)
theorem w_wishes {σ τ : PvS} (h : f_X4_findWishes σ = some τ) : frW σ τ := w_7 h
/-- what two layouts of one document share -/
def LA (σ σ' : PvS) : Prop := AGp σ σ' ∧ (∀ n, alive σ n → gdn σ σ' n ∧ AG3 σ σ' n) ∧ σ'.2.1 4 4 0 = σ.2.1 4 4 0 ∧ σ'.2.1 4 5 0 = σ.2.1 4 5 0
/-- what is so of a layout -/
def LV (σ : PvS) : Prop := ST σ ∧ GW σ ∧ (0 ≤ (σ.2.1 4 4 0).toInt ∧ (σ.2.1 4 4 0).toInt ≤ 100000) ∧ (0 ≤ (σ.2.1 4 5 0).toInt ∧ (σ.2.1 4 5 0).toInt ≤ 100000) ∧ ∀ n, alive σ n → ((-2000 ≤ (σ.2.1 2 5 n).toInt ∧ (σ.2.1 2 5 n).toInt ≤ 30000) ∧ (0 ≤ (σ.2.1 2 7 n).toInt ∧ (σ.2.1 2 7 n).toInt ≤ 2000)) ∧ VH σ n ∧ SV σ n 15
def Z0 (σ : PvS) : Prop := (∀ n q, (q = 5 ∨ q = 7 ∨ q = 8 ∨ q = 9) → σ.2.1 2 q n = 0) ∧ ∀ n j, σ.2.2.2.1 32 n j = 0
def clr (σ : PvS) : PvS := pvI (pvI (pvI (pvI σ 0 6 0 0) 8 4 0 0) 4 4 0 0) 4 5 0 0
theorem clr_I (σ : PvS) {κ q i : Nat} (h : ¬ (κ = 0 ∨ κ = 8 ∨ κ = 4)) : (clr σ).2.1 κ q i = σ.2.1 κ q i := by
  unfold clr
  rw [pvI_at, if_neg (by omega), pvI_at, if_neg (by omega), pvI_at, if_neg (by omega), pvI_at, if_neg (by omega)]
theorem clr_z (σ : PvS) : (clr σ).2.1 0 6 0 = 0 ∧ (clr σ).2.1 8 4 0 = 0 ∧ (clr σ).2.1 4 4 0 = 0 ∧ (clr σ).2.1 4 5 0 = 0 := by
  unfold clr
  refine ⟨?_, ?_, ?_, pvI_self _ _ _ _ _⟩
  · rw [pvI_at, if_neg (by omega), pvI_at, if_neg (by omega), pvI_at, if_neg (by omega), pvI_self]
  · rw [pvI_at, if_neg (by omega), pvI_at, if_neg (by omega), pvI_self]
  · rw [pvI_at, if_neg (by omega), pvI_self]
theorem clr_fz (σ : PvS) : fz σ (clr σ) := (((fz_I rfl (fun e => by omega)).trans (fz_I rfl (fun e => by omega))).trans (fz_I rfl (fun e => by omega))).trans (fz_I rfl (fun e => by omega))
theorem itp_root {σ : PvS} (h : ST σ) {p : Nat → Option Nat} (hp : ∀ i, hmo σ i = p i) : ∀ {m n : Nat}, hl σ n = m → alive σ n → n ≠ 0 → ∃ k, itp p k n = some 0 := by
  intro m
  induction m with
  | zero =>
    intro n e a n0
    obtain ⟨b, hb⟩ := hm_has h a n0
    have := hl_s h a hb
    omega
  | succ m ih =>
    intro n e a n0
    obtain ⟨b, hb⟩ := hm_has h a n0
    have := hl_s h a hb
    rw [hp] at hb
    by_cases b0 : b = 0
    · subst b0; exact ⟨0, hb⟩
    · obtain ⟨k, hk⟩ := ih (n := b) (by omega) (hm_alive h a ((hp n).trans hb)).1 b0
      refine ⟨k + 1, ?_⟩
      show (match p n with | none => none | some b => itp p k b) = some 0
      rw [hb]; exact hk
theorem r_layOut {σ σ' : PvS} {w : Int32} (h : WF σ) (h' : WF σ') (e : dc σ' = dc σ) (hs : SR σ) (es : ∀ n, alive σ n → ∀ p, p < 14 → sty σ' n p = sty σ n p) (z : Z0 σ) (hw : 20 ≤ w.toInt ∧ w.toInt ≤ 2000) : rel (f_X4_layOut σ w) (f_X4_layOut σ' w) (fun τ τ' => LA τ τ' ∧ LV τ ∧ (dc τ = dc σ ∧ dc τ' = dc σ') ∧ (∀ i j, τ.2.2.2.1 36 i j = σ.2.2.2.1 36 i j ∧ τ.2.2.2.1 37 i j = σ.2.2.2.1 37 i j ∧ τ.2.1 6 i j = σ.2.1 6 i j ∧ τ.2.1 9 i j = σ.2.1 9 i j) ∧ (∀ i j, τ'.2.2.2.1 36 i j = σ'.2.2.2.1 36 i j ∧ τ'.2.2.2.1 37 i j = σ'.2.2.2.1 37 i j ∧ τ'.2.1 6 i j = σ'.2.1 6 i j ∧ τ'.2.1 9 i j = σ'.2.1 9 i j) ∧ τ.2.1 4 3 0 = w ∧ τ'.2.1 4 3 0 = w) := by
  have al' : ∀ n, alive σ n → alive σ' n := fun n a => by show n ∈ σ'.2.2.2.2 1; rw [dc_L e]; exact a
  have hs' : SR σ' := fun n a p hp => by
    have a2 : alive σ n := by show n ∈ σ.2.2.2.2 1; rw [← dc_L e]; exact a
    rw [es n a2 p hp]
    exact hs n a2 p hp
  have hc : WF (clr σ) := WF_dc h (clr_fz σ).1
  have hc' : WF (clr σ') := WF_dc h' (clr_fz σ').1
  have sc : SR (clr σ) := fun n a p hp => by rw [fz_sty (clr_fz σ)]; exact hs n ((fz_alive (clr_fz σ)).mp a) p hp
  have sc' : SR (clr σ') := fun n a p hp => by rw [fz_sty (clr_fz σ')]; exact hs' n ((fz_alive (clr_fz σ')).mp a) p hp
  obtain ⟨P, eP, fP, pP⟩ := f_prepare hc sc
  obtain ⟨P', eP', fP', pP'⟩ := f_prepare hc' sc'
  unfold f_X4_layOut f_X0_clear f_X8_clear
  show rel (ob1 (f_X4_prepare (clr σ)) _) (ob1 (f_X4_prepare (clr σ')) _) _
  rw [ob1_t eP, ob1_t eP']
  have dP : dc P = dc σ := fP.dc.trans (clr_fz σ).1
  have dP' : dc P' = dc σ' := fP'.dc.trans (clr_fz σ').1
  have aP : ∀ n, alive P n ↔ alive (clr σ) n := fun n => by show n ∈ P.2.2.2.2 1 ↔ _; rw [fP.2.2.2.2]
  have aP' : ∀ n, alive P' n ↔ alive (clr σ') n := fun n => by show n ∈ P'.2.2.2.2 1 ↔ _; rw [fP'.2.2.2.2]
  have tP : ST P := ⟨WF_dc hc fP.dc, fun n a p hp => by rw [fP.sty]; exact sc n ((aP n).mp a) p hp, fun n a => pP n ((aP n).mp a)⟩
  have tP' : ST P' := ⟨WF_dc hc' fP'.dc, fun n a p hp => by rw [fP'.sty]; exact sc' n ((aP' n).mp a) p hp, fun n a => pP' n ((aP' n).mp a)⟩
  have gP : AGp P P' := prep_det tP tP' (dP'.trans (e.trans dP.symm)) (fun n a p hp => by
    rw [fP.sty, fP'.sty, fz_sty (clr_fz σ), fz_sty (clr_fz σ')]
    exact es n ((fz_alive (clr_fz σ)).mp ((aP n).mp a)) p hp)
  have fw := r_findWishes tP tP' gP
  obtain ⟨Q, Q', eQ, eQ', q1, q2, q3, q4⟩ := fw
  have wQ := w_wishes eQ
  have wQ' := w_wishes eQ'
  rw [ob1_t eQ, ob1_t eQ']
  have tQ := tP.fz q1
  have tQ' := tP'.fz q2
  have gQ := gP.fz q1 q2
  have zI : ∀ {κ q i}, ¬ (κ = 0 ∨ κ = 8 ∨ κ = 4 ∨ κ = 1 ∨ (κ = 2 ∧ (q = 0 ∨ q = 2 ∨ q = 3 ∨ q = 4))) → Q.2.1 κ q i = σ.2.1 κ q i := fun {κ q i} hz => by
    rw [wQ.2.1 κ q i (by omega), fP.2.1 κ q i (by omega), clr_I σ (by omega)]
  have c0 : ∀ {κ q}, (κ = 0 ∧ q = 6) ∨ (κ = 8 ∧ q = 4) ∨ (κ = 4 ∧ (q = 4 ∨ q = 5)) → Q.2.1 κ q 0 = 0 ∧ Q'.2.1 κ q 0 = 0 := fun {κ q} hz => by
    rw [wQ.2.1 κ q 0 (by omega), fP.2.1 κ q 0 (by omega), wQ'.2.1 κ q 0 (by omega), fP'.2.1 κ q 0 (by omega)]
    obtain ⟨y1, y2, y3, y4⟩ := clr_z σ
    obtain ⟨x1, x2, x3, x4⟩ := clr_z σ'
    rcases hz with hz | hz | hz
    · rw [hz.1, hz.2]; exact ⟨y1, x1⟩
    · rw [hz.1, hz.2]; exact ⟨y2, x2⟩
    · rcases hz.2 with w | w
      · rw [hz.1, w]; exact ⟨y3, x3⟩
      · rw [hz.1, w]; exact ⟨y4, x4⟩
  have zA : Q.2.2.2.1 = σ.2.2.2.1 := by rw [wQ.2.2, fP.2.2.2.1]; rfl
  have zA' : Q'.2.2.2.1 = σ'.2.2.2.1 := by rw [wQ'.2.2, fP'.2.2.2.1]; rfl
  have z6 : ∀ q i, Q.2.1 6 q i = σ.2.1 6 q i := fun q i => zI (by omega)
  have z6' : ∀ q i, Q'.2.1 6 q i = σ'.2.1 6 q i := fun q i => by rw [wQ'.2.1 6 q i (by omega), fP'.2.1 6 q i (by omega), clr_I σ' (by omega)]
  have z9 : ∀ q i, Q.2.1 9 q i = σ.2.1 9 q i := fun q i => zI (by omega)
  have z9' : ∀ q i, Q'.2.1 9 q i = σ'.2.1 9 q i := fun q i => by rw [wQ'.2.1 9 q i (by omega), fP'.2.1 9 q i (by omega), clr_I σ' (by omega)]
  have dQ : dc Q = dc σ := q1.1.trans dP
  have dQ' : dc Q' = dc σ' := q2.1.trans dP'
  have wsQ : wsh Q Q' := fun n a hb => q4 n ((fz_alive q1).mp a) (by rw [← q1.2.2.1 0 n (Or.inl rfl)]; exact hb)
  have lt0 : ∀ y : Int32, y = 0 → 0 ≤ y.toInt ∧ y.toInt ≤ 0 := fun y hy => by rw [hy]; decide
  -- all that is so before the root is filled
  have cm : CM (Q.2.2.2.2 1) (hmo Q) (hl Q) Q Q' 23 [] := by
    refine ⟨tQ, tQ', gQ, ⟨rfl, fun _ => rfl, fun _ => rfl⟩, ⟨by rw [(c0 (Or.inl ⟨rfl, rfl⟩)).1, (c0 (Or.inl ⟨rfl, rfl⟩)).2], fun κ hκ j hj => ?_⟩, ⟨⟨?_, fun j hj => ?_⟩, fun n j => ?_, ?_, ?_, fun n a => ?_, fun n a => ?_⟩, ⟨(c0 (Or.inr (Or.inl ⟨rfl, rfl⟩))).1, by decide, fun j p hp => by cases hp⟩, ⟨by rw [(c0 (Or.inr (Or.inl ⟨rfl, rfl⟩))).1, (c0 (Or.inr (Or.inl ⟨rfl, rfl⟩))).2], fun j hj => absurd hj (Nat.not_lt_zero _)⟩, ?_, ?_⟩
    · rw [(c0 (Or.inl ⟨rfl, rfl⟩)).1, show (0 : Int32).toInt = 0 from rfl] at hj; omega
    · have := lt0 _ (c0 (Or.inl ⟨rfl, rfl⟩)).1; omega
    · rw [(c0 (Or.inl ⟨rfl, rfl⟩)).1, show (0 : Int32).toInt = 0 from rfl] at hj; omega
    · rw [zA, z.2 n j]; decide
    · have := lt0 _ (c0 (κ := 4) (q := 4) (Or.inr (Or.inr ⟨rfl, Or.inl rfl⟩))).1; omega
    · have := lt0 _ (c0 (κ := 4) (q := 5) (Or.inr (Or.inr ⟨rfl, Or.inr rfl⟩))).1; omega
    · have h5 : Q.2.1 2 5 n = 0 := (zI (by omega)).trans (z.1 n 5 (by omega))
      have h7 : Q.2.1 2 7 n = 0 := (zI (by omega)).trans (z.1 n 7 (by omega))
      have := lt0 _ h5
      have := lt0 _ h7
      omega
    · have h9 : Q.2.1 2 9 n = 0 := (zI (by omega)).trans (z.1 n 9 (by omega))
      have h8 : Q.2.1 2 8 n = 0 := (zI (by omega)).trans (z.1 n 8 (by omega))
      have a9 := lt0 _ h9
      have a8 := lt0 _ h8
      exact ⟨by omega, by omega, fun _ => by omega⟩
    · rw [(c0 (κ := 4) (q := 4) (Or.inr (Or.inr ⟨rfl, Or.inl rfl⟩))).1, (c0 (κ := 4) (q := 4) (Or.inr (Or.inr ⟨rfl, Or.inl rfl⟩))).2]
    · rw [(c0 (κ := 4) (q := 5) (Or.inr (Or.inr ⟨rfl, Or.inr rfl⟩))).1, (c0 (κ := 4) (q := 5) (Or.inr (Or.inr ⟨rfl, Or.inr rfl⟩))).2]
  have aQ := tQ.f.t.alive0
  have hl0 := hl_0 tQ
  have red := tQ.edge aQ
  have e3 : Q'.2.1 2 3 0 = Q.2.1 2 3 0 := (gQ.2.2 0 aQ).2.2.2.1
  have e30 : Q'.2.1 3 0 0 = Q.2.1 3 0 0 := dc_I gQ.1 rfl 0 0
  have hH0 : ((hl Q 0 : Nat) : Int) = 0 := by rw [hl0]; rfl
  -- the root's place
  rw [e3]
  have s1 := cm.I (κ := 2) (q := 5) (i := 0) (v := Q.2.1 2 3 0) (v' := Q.2.1 2 3 0) (Or.inr ⟨rfl, by omega⟩) (fun _ _ => by omega) (fun _ e => by omega)
  have f1 : fz Q (pvI Q 2 5 0 (Q.2.1 2 3 0)) := fz_I rfl (fun _ => by omega)
  have f1' : fz Q' (pvI Q' 2 5 0 (Q.2.1 2 3 0)) := fz_I rfl (fun _ => by omega)
  have m1 := mn_I (σ := Q) (σ' := Q') (κ := 2) (q := 5) (i := 0) (v := Q.2.1 2 3 0) rfl
  have x5 : (pvI Q' 2 5 0 (Q.2.1 2 3 0)).2.1 2 5 0 = (pvI Q 2 5 0 (Q.2.1 2 3 0)).2.1 2 5 0 := by rw [pvI_self, pvI_self]
  have x3 : ∀ ρ : PvS, (pvI ρ 2 5 0 (Q.2.1 2 3 0)).2.1 2 3 0 = ρ.2.1 2 3 0 := fun ρ => by rw [pvI_at, if_neg (by omega)]
  have k3 := x3 Q
  have k3' := (x3 Q').trans e3
  refine rel_nm ?_
  clear x3
  generalize pvI Q 2 5 0 (Q.2.1 2 3 0) = A at *
  generalize pvI Q' 2 5 0 (Q.2.1 2 3 0) = A' at *
  rw [k3, k3']
  have s2 := s1.I (κ := 2) (q := 6) (i := 0) (v := Q.2.1 2 3 0) (v' := Q.2.1 2 3 0) (Or.inr ⟨rfl, by omega⟩) (fun _ e => by omega) (fun _ e => by omega)
  have f2 : fz Q (pvI A 2 6 0 (Q.2.1 2 3 0)) := f1.trans (fz_I rfl (fun _ => by omega))
  have f2' : fz Q' (pvI A' 2 6 0 (Q.2.1 2 3 0)) := f1'.trans (fz_I rfl (fun _ => by omega))
  have m2 := mn_I (σ := A) (σ' := A') (κ := 2) (q := 6) (i := 0) (v := Q.2.1 2 3 0) rfl
  have y5 := m2.1 2 5 0 x5
  have y6 : (pvI A 2 6 0 (Q.2.1 2 3 0)).2.1 2 6 0 = Q.2.1 2 3 0 := pvI_self _ _ _ _ _
  have y6' : (pvI A' 2 6 0 (Q.2.1 2 3 0)).2.1 2 6 0 = Q.2.1 2 3 0 := pvI_self _ _ _ _ _
  have y3 : (pvI A 2 6 0 (Q.2.1 2 3 0)).2.1 2 3 0 = Q.2.1 2 3 0 := by rw [pvI_at, if_neg (by omega)]; exact k3
  have y3' : (pvI A' 2 6 0 (Q.2.1 2 3 0)).2.1 2 3 0 = Q.2.1 2 3 0 := by rw [pvI_at, if_neg (by omega)]; exact k3'
  have mm2 := m1.trans m2
  refine rel_nm ?_
  clear s1 k3 k3' x5 m1 m2
  generalize pvI A 2 6 0 (Q.2.1 2 3 0) = B at *
  generalize pvI A' 2 6 0 (Q.2.1 2 3 0) = B' at *
  have aB : alive B 0 := (fz_alive f2).mpr aQ
  have aB' : alive B' 0 := by show 0 ∈ B'.2.2.2.2 1; rw [dc_L s2.2.2.1.1]; exact aB
  have r1 : -1 ≤ (sty B 0 1).toInt ∧ (sty B 0 1).toInt ≤ 149 := s2.1.s aB (p := 1) (by decide)
  rw [y3, y3', ob1_t (f_widthOr s2.1.f.t aB _), ob1_t (f_widthOr s2.2.1.f.t aB' _), s2.2.2.1.2.1 0 aB 1 (by decide)]
  have n6 := ti_dbl (a := Q.2.1 2 3 0) (by omega) (by omega)
  have n7 := ti_sub (a := w) (b := 2 * Q.2.1 2 3 0) (by omega) (by omega)
  have n8 := ti_max (a := 0) (b := w - 2 * Q.2.1 2 3 0)
  rw [show (0 : Int32).toInt = 0 from rfl] at n8
  have hwd : 0 ≤ (if sty B 0 1 = -1 then imax 0 (w - 2 * Q.2.1 2 3 0) else sty B 0 1).toInt ∧ (if sty B 0 1 = -1 then imax 0 (w - 2 * Q.2.1 2 3 0) else sty B 0 1).toInt ≤ 2000 := by
    split
    · omega
    · rename_i hn
      have : (sty B 0 1).toInt ≠ -1 := fun e => hn (Int32.toInt_inj.mp e)
      omega
  generalize (if sty B 0 1 = -1 then imax 0 (w - 2 * Q.2.1 2 3 0) else sty B 0 1) = v at *
  have s3 := s2.I (κ := 2) (q := 7) (i := 0) (v := v) (v' := v) (Or.inr ⟨rfl, by omega⟩) (fun _ e => by omega) (fun _ _ => hwd)
  have f3 : fz Q (pvI B 2 7 0 v) := f2.trans (fz_I rfl (fun _ => by omega))
  have f3' : fz Q' (pvI B' 2 7 0 v) := f2'.trans (fz_I rfl (fun _ => by omega))
  have m3 := mn_I (σ := B) (σ' := B') (κ := 2) (q := 7) (i := 0) (v := v) rfl
  have u5 := m3.1 2 5 0 y5
  have u6 : (pvI B 2 7 0 v).2.1 2 6 0 = Q.2.1 2 3 0 := by rw [pvI_at, if_neg (by omega)]; exact y6
  have u6' : (pvI B' 2 7 0 v).2.1 2 6 0 = Q.2.1 2 3 0 := by rw [pvI_at, if_neg (by omega)]; exact y6'
  have u7 : (pvI B' 2 7 0 v).2.1 2 7 0 = (pvI B 2 7 0 v).2.1 2 7 0 := by rw [pvI_self, pvI_self]
  have mm3 := mm2.trans m3
  refine rel_nm ?_
  clear s2 y5 y6 y6' y3 y3' m3 mm2
  generalize pvI B 2 7 0 v = C at *
  generalize pvI B' 2 7 0 v = C' at *
  have e30 : C'.2.1 3 0 0 = C.2.1 3 0 0 := dc_I s3.2.2.1.1 rfl 0 0
  rw [e30]
  have s4 := s3.I (κ := 1) (q := 0) (i := 0) (v := C.2.1 3 0 0) (v' := C.2.1 3 0 0) (Or.inl rfl) (fun e => by omega) (fun e => by omega)
  have f4 : fz Q (pvI C 1 0 0 (C.2.1 3 0 0)) := f3.trans (fz_I rfl (fun _ => by omega))
  have f4' : fz Q' (pvI C' 1 0 0 (C.2.1 3 0 0)) := f3'.trans (fz_I rfl (fun _ => by omega))
  have m4 := mn_I (σ := C) (σ' := C') (κ := 1) (q := 0) (i := 0) (v := C.2.1 3 0 0) rfl
  have t5 := m4.1 2 5 0 u5
  have t7 := m4.1 2 7 0 u7
  have t6 : (pvI C 1 0 0 (C.2.1 3 0 0)).2.1 2 6 0 = Q.2.1 2 3 0 := by rw [pvI_at, if_neg (by omega)]; exact u6
  have t6' : (pvI C' 1 0 0 (C.2.1 3 0 0)).2.1 2 6 0 = Q.2.1 2 3 0 := by rw [pvI_at, if_neg (by omega)]; exact u6'
  have t10 : (pvI C' 1 0 0 (C.2.1 3 0 0)).2.1 1 0 0 = (pvI C 1 0 0 (C.2.1 3 0 0)).2.1 1 0 0 := by rw [pvI_self, pvI_self]
  have mm4 := mm3.trans m4
  refine rel_nm ?_
  clear s3 u5 u6 u6' u7 m4 mm3
  generalize pvI C' 1 0 0 (C.2.1 3 0 0) = G' at *
  generalize pvI C 1 0 0 (C.2.1 3 0 0) = G at *
  have cr := cnt_root tQ 13
  have n15 := tQ.f.t.n
  have fl := r_fill 13 G G' 0 23 s4 (wsQ.mn f4 mm4) ((fz_alive f4).mpr aQ) (by omega) t10 t5 (by rw [t6, t6']) t7 (by rw [t6]; omega) (by omega)
  rw [hl0] at fl
  refine rel_ob1 (show rel (f_X4_fill 13 G 0 0) (f_X4_fill 13 G' 0 0) _ from fl) (fun T T' q => ?_)
  obtain ⟨q1b, q2b, q3b, q4b, ⟨g8, g9, g10⟩, -, qg⟩ := q
  have fT : fz Q T := f4.trans q2b.2
  have fT' : fz Q' T' := f4'.trans q3b
  have hg : ∀ n, alive T n → gdn T T' n := fun n a => by
    have aG : alive G n := (fz_alive q2b.2).mp a
    by_cases n0 : n = 0
    · subst n0
      refine ⟨fun _ q h5 h10 => ?_, fun ht => ?_⟩
      · have : q = 5 ∨ q = 6 ∨ q = 7 ∨ q = 8 ∨ q = 9 ∨ q = 10 := by omega
        rcases this with rfl | rfl | rfl | rfl | rfl | rfl
        · exact q4b.1 2 5 0 t5
        · exact q4b.1 2 6 0 (by rw [t6, t6'])
        · exact q4b.1 2 7 0 t7
        · exact g8
        · exact g9
        · exact g10
      · rw [q1b.1.root.1] at ht; exact absurd ht (by decide)
    · obtain ⟨k, hk⟩ := itp_root s4.1 (p := hmo Q) s4.2.2.2.1.2.1 rfl aG n0
      exact qg n aG k hk
  have vdT := q1b.2.2.2.2.2.1
  have sh := r_shift q1b.1 q1b.2.1 q1b.2.2.1 hg (fun n a => vdT.2.2.2.2.2 n a)
  refine rel_ob1 sh (fun U U' q => ?_)
  obtain ⟨v1, v2, v3, v4⟩ := q
  refine rel_nm ?_
  have z5 : ∀ ρ : PvS, fz ρ (pvI ρ 4 3 0 w) := fun ρ => fz_I rfl (fun e => by omega)
  have m5 := mn_I (σ := U) (σ' := U') (κ := 4) (q := 3) (i := 0) (v := w) rfl
  have fU : fz T (pvI U 4 3 0 w) := v1.2.2.2.trans (z5 U)
  have fU' : fz T' (pvI U' 4 3 0 w) := v2.2.2.2.trans (z5 U')
  have aU : ∀ n, alive (pvI U 4 3 0 w) n → alive T n := fun n a => (fz_alive fU).mp a
  have i2 : ∀ {q i}, (pvI U 4 3 0 w).2.1 2 q i = U.2.1 2 q i := fun {q i} => by rw [pvI_at, if_neg (by omega)]
  have i4 : ∀ {q i}, q ≠ 3 → (pvI U 4 3 0 w).2.1 4 q i = T.2.1 4 q i := fun {q i} hq => by rw [pvI_at, if_neg (by omega)]; exact v1.1 4 q i (by omega)
  have mU := v3.trans m5
  refine rel_some ⟨⟨q1b.2.2.1.fz fU fU', fun n a => ⟨(hg n (aU n a)).mn fU mU, ?_⟩, mU.1 4 4 0 q1b.2.2.2.2.2.2.2.2.1, mU.1 4 5 0 q1b.2.2.2.2.2.2.2.2.2⟩, ⟨q1b.1.fz fU, fun n j => ?_, ?_, ?_, fun n a => ⟨?_, ?_, ?_⟩⟩, ⟨fU.1.trans (fT.1.trans dQ), fU'.1.trans (fT'.1.trans dQ')⟩, fun i j => ?_, fun i j => ?_, pvI_self _ _ _ _ _, pvI_self _ _ _ _ _⟩
  · have := (v4 n (aU n a)).1
    exact ⟨m5.1 _ _ _ this.1, m5.1 _ _ _ this.2.1, m5.1 _ _ _ this.2.2⟩
  · show -2600 ≤ (U.2.2.2.1 32 n j).toInt ∧ (U.2.2.2.1 32 n j).toInt ≤ 1000000
    rw [v1.2.2.1]
    exact vdT.2.1 n j
  · rw [i4 (by decide)]
    have := vdT.2.2.1
    omega
  · rw [i4 (by decide)]
    have := vdT.2.2.2.1
    omega
  · have hx := vdT.2.2.2.2.1 n (aU n a)
    have h10 : hl Q n ≤ 10 := hl_le tQ ((fz_alive fT).mp (aU n a))
    rw [i2, i2, v1.1 2 5 n (by omega), v1.1 2 7 n (by omega)]
    omega
  · exact (vdT.2.2.2.2.2 n (aU n a)).same fU (by rw [i2]; exact v1.1 2 9 n (by omega)) (by rw [i2]; exact v1.1 2 8 n (by omega))
  · have := (v4 n (aU n a)).2
    refine ⟨by rw [i2]; exact this.1, ?_⟩
    have t := this.2
    unfold mup at t ⊢
    rw [i2, i2, i2, fz_sty (z5 U), fz_sty (z5 U)]
    exact t
  · have a1 := fU.2.1 i j
    have a2 := fT.2.1 i j
    rw [← zA, ← z6, ← z9]
    exact ⟨a1.1.trans a2.1, a1.2.1.trans a2.2.1, a1.2.2.1.trans a2.2.2.1, a1.2.2.2.trans a2.2.2.2⟩
  · have a1 := fU'.2.1 i j
    have a2 := fT'.2.1 i j
    rw [← zA', ← z6', ← z9']
    exact ⟨a1.1.trans a2.1, a1.2.1.trans a2.2.1, a1.2.2.1.trans a2.2.2.1, a1.2.2.2.trans a2.2.2.2⟩
