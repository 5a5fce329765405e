/-! PURE: lines of a box, in two runs -/
theorem VW.fr {u : Nat} {σ τ : PvS} {l : List (Nat × Nat)} (v : VW σ l) (f : frL u σ τ) (e : τ.2.1 8 4 0 = σ.2.1 8 4 0) : VW τ l := by
  refine ⟨e.trans v.1, v.2.1, fun j p hp => ?_⟩
  rw [f.2.1, f.2.2.1 27 0 j (by decide) (by decide), f.2.2.1 28 0 j (by decide) (by decide), f.2.2.1 29 0 j (by decide) (by decide), f.1 3 1 p.1 (by unfold exL; omega)]
  exact v.2.2 j p hp
theorem WTa.fr {u : Nat} {σ σ' τ τ' : PvS} {w : Nat} (g : WTa σ σ' w) (f : frL u σ τ) (f' : frL u σ' τ') (e : τ.2.1 8 4 0 = σ.2.1 8 4 0) (e' : τ'.2.1 8 4 0 = σ'.2.1 8 4 0) : WTa τ τ' w := by
  refine ⟨by rw [e, e']; exact g.1, fun j hj => ⟨fun κ hκ => ?_, by rw [f.2.1, f'.2.1]; exact (g.2 j hj).2⟩⟩
  rw [f.2.2.1 κ 0 j (by omega) (by omega), f'.2.2.1 κ 0 j (by omega) (by omega)]
  exact (g.2 j hj).1 κ hκ
def LSt (u : Nat) (l : List (Nat × Nat)) (Y0 : Int) (σ σ' ρ ρ' : PvS) (i : Nat) : Prop :=
  frL u σ ρ ∧ frL u σ' ρ' ∧ mn σ σ' ρ ρ' ∧ GW ρ ∧ ((σ.2.1 1 1 u).toInt ≤ (ρ.2.1 1 1 u).toInt ∧ (ρ.2.1 1 1 u).toInt ≤ Y0 + 160 * i) ∧ (0 ≤ (ρ.2.1 4 4 0).toInt ∧ (ρ.2.1 4 4 0).toInt ≤ Y0 + 160 * i) ∧ (0 ≤ (ρ.2.1 4 5 0).toInt ∧ (ρ.2.1 4 5 0).toInt ≤ Y0 + 160 * i) ∧ (ρ.2.1 1 2 u = σ.2.1 1 2 u ∨ ρ.2.1 1 2 u = 0) ∧ ∀ j p, j < i → l[j]? = some p → ρ'.2.2.2.1 32 p.1 p.2 = ρ.2.2.2.1 32 p.1 p.2 ∧ ρ'.2.2.2.1 33 p.1 p.2 = ρ.2.2.2.1 33 p.1 p.2
theorem r_putLines {σ σ' : PvS} {u : Nat} {Y0 : Int} {l : List (Nat × Nat)} (h : ST σ) (h' : ST σ') (g : AGp σ σ') (au : alive σ u) (vf : VF σ Y0) (gf : FLa σ σ') (vw : VW σ l) (gw : WTa σ σ' l.length) (gg : GW σ) (b5 : -2600 ≤ (σ.2.1 2 5 u).toInt ∧ (σ.2.1 2 5 u).toInt ≤ 60000) (b7 : 0 ≤ (σ.2.1 2 7 u).toInt ∧ (σ.2.1 2 7 u).toInt ≤ 2000) (e0 : σ'.2.1 1 0 u = σ.2.1 1 0 u) (e1 : σ'.2.1 1 1 u = σ.2.1 1 1 u) (e5 : σ'.2.1 2 5 u = σ.2.1 2 5 u) (e7 : σ'.2.1 2 7 u = σ.2.1 2 7 u) (e10 : σ'.2.1 2 10 u = σ.2.1 2 10 u) (e44 : σ'.2.1 4 4 0 = σ.2.1 4 4 0) (e45 : σ'.2.1 4 5 0 = σ.2.1 4 5 0) (c1 : 0 ≤ (σ.2.1 1 1 u).toInt ∧ (σ.2.1 1 1 u).toInt ≤ Y0) (c44 : 0 ≤ (σ.2.1 4 4 0).toInt ∧ (σ.2.1 4 4 0).toInt ≤ Y0) (c45 : 0 ≤ (σ.2.1 4 5 0).toInt ∧ (σ.2.1 4 5 0).toInt ≤ Y0) (hY : Y0 ≤ 500000) : rel (f_X4_putLines σ u) (f_X4_putLines σ' u) (fun τ τ' => LSt u l Y0 σ σ' τ τ' l.length ∧ VW τ [] ∧ WTa τ τ' 0) := by
  have hl := vw.2.1
  have key : ∀ (d i m cn : Nat) (al : Int32) (ρ ρ' : PvS), l.length ≤ i + d → d < m → i ≤ l.length → cn ≤ i → LSt u l Y0 σ σ' ρ ρ' i → VW ρ l → WTa ρ ρ' l.length → rel (f_X4_putLines_16 m ρ u al (nI i) (nI cn)) (f_X4_putLines_16 m ρ' u al (nI i) (nI cn)) (fun τ τ' => LSt u l Y0 σ σ' τ τ' l.length ∧ VW τ [] ∧ WTa τ τ' 0) := by
    intro d
    induction d with
    | zero =>
      intro i m cn al ρ ρ' hi hm hil hcn s v w
      obtain ⟨m, rfl⟩ : ∃ q, m = q + 1 := ⟨m - 1, by omega⟩
      have : i = l.length := by omega
      subst this
      have st : rel (f_X4_putLines_226 ρ) (f_X4_putLines_226 ρ') (fun τ τ' => LSt u l Y0 σ σ' τ τ' l.length ∧ VW τ [] ∧ WTa τ τ' 0) := by
        obtain ⟨s1, s2, s3, s4, s5, s6, s7, s8, s9⟩ := s
        refine rel_some ⟨⟨s1.trans (frL_I (by unfold exL; omega)), s2.trans (frL_I (by unfold exL; omega)), s3.trans (mn_I rfl), s4, ?_, ?_, ?_, ?_, s9⟩, ⟨pvI_self _ _ _ _ _, by decide, fun j p hp => by cases hp⟩, ⟨by rw [pvI_self, pvI_self], fun j hj => absurd hj (Nat.not_lt_zero _)⟩⟩
        · rw [pvI_at, if_neg (by omega)]; exact s5
        · rw [pvI_at, if_neg (by omega)]; exact s6
        · rw [pvI_at, if_neg (by omega)]; exact s7
        · rw [pvI_at, if_neg (by omega)]; exact s8
      rw [f_X4_putLines_16_s, f_X4_putLines_16_s]
      refine rel_ite Iff.rfl (fun _ => st) (fun _ => ?_)
      have q : nI l.length ≤ nI l.length := nI_le (Nat.le_refl _) (s31 (by omega))
      exact rel_itp (by rw [v.1]; exact q) (by rw [w.1, v.1]; exact q) st
    | succ d ih =>
      intro i m cn al ρ ρ' hi hm hil hcn s v w
      by_cases hlt : l.length ≤ i + d
      · exact ih i m cn al ρ ρ' hlt (by omega) hil hcn s v w
      obtain ⟨m, rfl⟩ : ∃ q, m = q + 1 := ⟨m - 1, by omega⟩
      have hi2 : i < l.length := by omega
      obtain ⟨s1, s2, s3, s4, s5, s6, s7, s8, s9⟩ := s
      rw [f_X4_putLines_16_s, f_X4_putLines_16_s]
      have c8 : ¬ 800 ≤ nI cn := nI_ge (b := 800) (by omega) (by decide)
      have cl : ¬ nI l.length ≤ nI i := nI_ge hi2 (s31 (by omega))
      refine rel_itn c8 c8 (rel_itn (by rw [v.1]; exact cl) (by rw [w.1, v.1]; exact cl) ?_)
      have v8 := vin_n (show i < 800 by omega) (show 800 < 2 ^ 31 by decide)
      have ew : ∀ ρ2 : PvS, f_X8_widthOf ρ2 (nI i) = some (ρ2.2.2.2.1 28 0 i) := fun ρ2 => by
        unfold f_X8_widthOf
        rw [if_neg (nI_pos (s31 (by omega))), if_neg (show ¬ 800 ≤ nI i from nI_ge (b := 800) (by omega) (by decide)), pvLen_28, gd_t v8, nI_clamp (s31 (by omega))]
      obtain ⟨ga, gr⟩ := w.2 i hi2
      rw [ob1_t (ew ρ), ob1_t (ew ρ'), ga 28 (by omega)]
      have x0 : ρ.2.1 1 0 u = σ.2.1 1 0 u := s1.1 1 0 u (by unfold exL; omega)
      have x5 : ρ.2.1 2 5 u = σ.2.1 2 5 u := s1.1 2 5 u (by unfold exL; omega)
      have x7 : ρ.2.1 2 7 u = σ.2.1 2 7 u := s1.1 2 7 u (by unfold exL; omega)
      have y1 : ρ'.2.1 1 1 u = ρ.2.1 1 1 u := s3.1 1 1 u e1
      rw [y1]
      have vfρ : VF ρ (Y0 + 160 * i) := (vf.frL s1).mono (by omega)
      have fr := r_findRoom vfρ (gf.frL s1 s2) (u := u) (s3.1 1 0 u e0) (s3.1 2 5 u e5) (s3.1 2 7 u e7) (by rw [x5]; exact b5) (by rw [x7]; exact b7) (ρ.2.2.2.1 28 0 i) (ρ.2.1 1 1 u) s5.2
      refine rel_ob2 fr (fun y A y' A' q => ?_)
      obtain ⟨q1, q2, B, E, N, rfl, rfl, qB, qE, -⟩ := q
      have q1 : y' = y := q1
      have q2 : (ρ.2.1 1 1 u).toInt ≤ y.toInt ∧ y.toInt ≤ Y0 + 160 * i := q2
      subst q1
      rw [x5, x7] at qE
      rw [x5] at qB
      have t1 : frL u ρ (spn ρ B E N) := frL_spn
      have t1' : frL u ρ' (spn ρ' B E N) := frL_spn
      have k84 : (spn ρ B E N).2.1 8 4 0 = ρ.2.1 8 4 0 := spn_I _ _ _ _ (by omega)
      have k84' : (spn ρ' B E N).2.1 8 4 0 = ρ'.2.1 8 4 0 := spn_I _ _ _ _ (by omega)
      have tl := r_takeLine (v.fr t1 k84) (w.fr t1 t1' k84 k84') hi2 (E - B)
      refine rel_ob2 (show rel (f_X8_takeLine (spn ρ B E N) (nI i) (E - B)) (f_X8_takeLine (spn ρ' B E N) (nI i) (E - B)) _ from tl) (fun r C r' C' q => ?_)
      obtain ⟨p1, k, W, F, p2, p3, p4, rfl, rfl, pW, pF⟩ := q
      have p1 : r' = r := p1
      have p2 : r = nI k := p2
      subst p1; subst p2
      have t2 : frL u ρ (lin (spn ρ B E N) W F) := t1.trans frL_lin
      have t2' : frL u ρ' (lin (spn ρ' B E N) W F) := t1'.trans frL_lin
      have l84 : (lin (spn ρ B E N) W F).2.1 8 4 0 = ρ.2.1 8 4 0 := (lin_I _ _ _ (by omega)).trans k84
      have l84' : (lin (spn ρ' B E N) W F).2.1 8 4 0 = ρ'.2.1 8 4 0 := (lin_I _ _ _ (by omega)).trans k84'
      have l07 : ∀ ρ2, (lin (spn ρ2 B E N) W F).2.1 0 7 0 = B := fun ρ2 => lin_I _ _ _ (by omega)
      have l44 : (lin (spn ρ B E N) W F).2.1 4 4 0 = ρ.2.1 4 4 0 := (lin_I _ _ _ (by omega)).trans (spn_I _ _ _ _ (by omega))
      have l45 : (lin (spn ρ B E N) W F).2.1 4 5 0 = ρ.2.1 4 5 0 := (lin_I _ _ _ (by omega)).trans (spn_I _ _ _ _ (by omega))
      have m2 : mn σ σ' (lin (spn ρ B E N) W F) (lin (spn ρ' B E N) W F) := (s3.trans mn_spn).trans mn_lin
      have z85 : ∀ ρ2 : PvS, (lin (spn ρ2 B E N) W F).2.1 8 5 0 = W := fun ρ2 => rfl
      have z86 : ∀ ρ2 : PvS, (lin (spn ρ2 B E N) W F).2.1 8 6 0 = F := fun ρ2 => rfl
      have v2 := v.fr t2 l84
      have w2 := w.fr t2 t2' l84 l84'
      have dcρ : dc (lin (spn ρ' B E N) W F) = dc (lin (spn ρ B E N) W F) := by
        rw [t2'.2.2.2.1, t2.2.2.2.1, s2.2.2.2.1, s1.2.2.2.1]; exact g.1
      have s127 : ∀ aa : Int32, (0 ≤ aa.toInt ∧ aa.toInt ≤ 2000) → rel (f_X4_putLines_127 (f_X4_putLines_16 m) (lin (spn ρ B E N) W F) u al (nI i) (nI cn) y' (nI k) aa) (f_X4_putLines_127 (f_X4_putLines_16 m) (lin (spn ρ' B E N) W F) u al (nI i) (nI cn) y' (nI k) aa) (fun τ τ' => LSt u l Y0 σ σ' τ τ' l.length ∧ VW τ [] ∧ WTa τ τ' 0) := fun aa ha => by
        unfold f_X4_putLines_127
        rw [l07, l07]
        have eBa := ti_add (a := B) (b := aa) (by omega) (by omega)
        have sl := r_setLine v2 w2 dcρ s4 (i0 := i) (k := k) (by omega) p4 (B + aa) y' (by omega)
        generalize hC : lin (spn ρ B E N) W F = C at *
        generalize hC' : lin (spn ρ' B E N) W F = C' at *
        refine rel_ob1 sl (fun T T' q => ?_)
        obtain ⟨f1, f1', mT, gT, aT⟩ := q
        rw [nm_t, nm_t, nm_t, nm_t, nm_t, nm_t, nm_t, nm_t, nm_t, nm_t, nI_1]
        have u1 : frL u σ T := (s1.trans t2).trans (frL_T f1)
        have u1' : frL u σ' T' := (s2.trans t2').trans (frL_T f1')
        have uf : T.2.1 8 6 0 = F := by rw [f1.2.1, ← hC]; exact z86 _
        have uf' : T'.2.1 8 6 0 = F := by rw [f1'.2.1, ← hC']; exact z86 _
        have uw : T.2.1 8 5 0 = W := by rw [f1.2.1, ← hC]; exact z85 _
        have uw' : T'.2.1 8 5 0 = W := by rw [f1'.2.1, ← hC']; exact z85 _
        have u44 : T.2.1 4 4 0 = ρ.2.1 4 4 0 := by rw [f1.2.1]; exact l44
        have u45 : T.2.1 4 5 0 = ρ.2.1 4 5 0 := by rw [f1.2.1]; exact l45
        have u84 : T.2.1 8 4 0 = ρ.2.1 8 4 0 := by rw [f1.2.1]; exact l84
        have u84' : T'.2.1 8 4 0 = ρ'.2.1 8 4 0 := by rw [f1'.2.1]; exact l84'
        have mT2 := m2.trans mT
        -- what is written
        have n1 : mn σ σ' (pvI T 1 1 u (y' + 2 * T.2.1 8 6 0)) (pvI T' 1 1 u (y' + 2 * T'.2.1 8 6 0)) := mT2.trans (mn_I (by rw [uf, uf']))
        have g1 : frL u T (pvI T 1 1 u (y' + 2 * T.2.1 8 6 0)) := frL_I (by unfold exL; omega)
        have g1' : frL u T' (pvI T' 1 1 u (y' + 2 * T'.2.1 8 6 0)) := frL_I (by unfold exL; omega)
        have a11 : (pvI T 1 1 u (y' + 2 * T.2.1 8 6 0)).2.1 1 1 u = y' + 2 * F := by rw [pvI_self, uf]
        have i1 : ∀ {κ q j}, κ ≠ 1 → (pvI T 1 1 u (y' + 2 * T.2.1 8 6 0)).2.1 κ q j = T.2.1 κ q j := fun z => by rw [pvI_at, if_neg (fun e => z e.1)]
        have i1' : ∀ {κ q j}, κ ≠ 1 → (pvI T' 1 1 u (y' + 2 * T'.2.1 8 6 0)).2.1 κ q j = T'.2.1 κ q j := fun z => by rw [pvI_at, if_neg (fun e => z e.1)]
        have A1 : (pvI T 1 1 u (y' + 2 * T.2.1 8 6 0)).2.2.2.1 = T.2.2.2.1 := rfl
        have A1' : (pvI T' 1 1 u (y' + 2 * T'.2.1 8 6 0)).2.2.2.1 = T'.2.2.2.1 := rfl
        generalize pvI T 1 1 u (y' + 2 * T.2.1 8 6 0) = D at *
        generalize pvI T' 1 1 u (y' + 2 * T'.2.1 8 6 0) = D' at *
        have n2 := n1.trans (mn_I (σ := D) (σ' := D') (κ := 1) (q := 2) (i := u) (v := 0) rfl)
        have g2 : frL u T (pvI D 1 2 u 0) := g1.trans (frL_I (by unfold exL; omega))
        have g2' : frL u T' (pvI D' 1 2 u 0) := g1'.trans (frL_I (by unfold exL; omega))
        have b11 : (pvI D 1 2 u 0).2.1 1 1 u = y' + 2 * F := by rw [pvI_at, if_neg (by omega)]; exact a11
        have b12 : (pvI D 1 2 u 0).2.1 1 2 u = 0 := pvI_self _ _ _ _ _
        have i2 : ∀ {κ q j}, κ ≠ 1 → (pvI D 1 2 u 0).2.1 κ q j = T.2.1 κ q j := fun z => by rw [pvI_at, if_neg (fun e => z e.1)]; exact i1 z
        have i2' : ∀ {κ q j}, κ ≠ 1 → (pvI D' 1 2 u 0).2.1 κ q j = T'.2.1 κ q j := fun z => by rw [pvI_at, if_neg (fun e => z e.1)]; exact i1' z
        have A2 : (pvI D 1 2 u 0).2.2.2.1 = T.2.2.2.1 := A1
        have A2' : (pvI D' 1 2 u 0).2.2.2.1 = T'.2.2.2.1 := A1'
        generalize pvI D 1 2 u 0 = D2 at *
        generalize pvI D' 1 2 u 0 = D2' at *
        have n3 := n2.trans (mn_I (σ := D2) (σ' := D2') (κ := 2) (q := 10) (i := u) (v := D2.2.1 2 10 u + 1) (v' := D2'.2.1 2 10 u + 1) (by rw [n2.1 2 10 u e10]))
        have g3 : frL u T (pvI D2 2 10 u (D2.2.1 2 10 u + 1)) := g2.trans (frL_I (by unfold exL; omega))
        have g3' : frL u T' (pvI D2' 2 10 u (D2'.2.1 2 10 u + 1)) := g2'.trans (frL_I (by unfold exL; omega))
        have i3 : ∀ {κ q j}, κ ≠ 2 → (pvI D2 2 10 u (D2.2.1 2 10 u + 1)).2.1 κ q j = D2.2.1 κ q j := fun z => by rw [pvI_at, if_neg (fun e => z e.1)]
        have i3' : ∀ {κ q j}, κ ≠ 2 → (pvI D2' 2 10 u (D2'.2.1 2 10 u + 1)).2.1 κ q j = D2'.2.1 κ q j := fun z => by rw [pvI_at, if_neg (fun e => z e.1)]
        have A3 : (pvI D2 2 10 u (D2.2.1 2 10 u + 1)).2.2.2.1 = T.2.2.2.1 := A2
        have A3' : (pvI D2' 2 10 u (D2'.2.1 2 10 u + 1)).2.2.2.1 = T'.2.2.2.1 := A2'
        generalize pvI D2 2 10 u (D2.2.1 2 10 u + 1) = D3 at *
        generalize pvI D2' 2 10 u (D2'.2.1 2 10 u + 1) = D3' at *
        have n4 := n3.trans (mn_I (σ := D3) (σ' := D3') (κ := 4) (q := 4) (i := 0) (v := D3.2.1 4 4 0 + 1) (v' := D3'.2.1 4 4 0 + 1) (by rw [n3.1 4 4 0 e44]))
        have g4 : frL u T (pvI D3 4 4 0 (D3.2.1 4 4 0 + 1)) := g3.trans (frL_I (by unfold exL; omega))
        have g4' : frL u T' (pvI D3' 4 4 0 (D3'.2.1 4 4 0 + 1)) := g3'.trans (frL_I (by unfold exL; omega))
        have c44' : (pvI D3 4 4 0 (D3.2.1 4 4 0 + 1)).2.1 4 4 0 = ρ.2.1 4 4 0 + 1 := by rw [pvI_self, i3 (by decide), i2 (by decide), u44]
        have i4 : ∀ {κ q j}, ¬ (κ = 4 ∧ q = 4) → (pvI D3 4 4 0 (D3.2.1 4 4 0 + 1)).2.1 κ q j = D3.2.1 κ q j := fun z => by rw [pvI_at, if_neg (fun e => z ⟨e.1, e.2.1⟩)]
        have i4' : ∀ {κ q j}, ¬ (κ = 4 ∧ q = 4) → (pvI D3' 4 4 0 (D3'.2.1 4 4 0 + 1)).2.1 κ q j = D3'.2.1 κ q j := fun z => by rw [pvI_at, if_neg (fun e => z ⟨e.1, e.2.1⟩)]
        have A4 : (pvI D3 4 4 0 (D3.2.1 4 4 0 + 1)).2.2.2.1 = T.2.2.2.1 := A3
        have A4' : (pvI D3' 4 4 0 (D3'.2.1 4 4 0 + 1)).2.2.2.1 = T'.2.2.2.1 := A3'
        generalize pvI D3 4 4 0 (D3.2.1 4 4 0 + 1) = D4 at *
        generalize pvI D3' 4 4 0 (D3'.2.1 4 4 0 + 1) = D4' at *
        have w85 : D4.2.1 8 5 0 = W := by rw [i4 (by omega), i3 (by decide), i2 (by decide), uw]
        have w85' : D4'.2.1 8 5 0 = W := by rw [i4' (by omega), i3' (by decide), i2' (by decide), uw']
        have n5 := n4.trans (mn_I (σ := D4) (σ' := D4') (κ := 4) (q := 5) (i := 0) (v := D4.2.1 4 5 0 + D4.2.1 8 5 0) (v' := D4'.2.1 4 5 0 + D4'.2.1 8 5 0) (by rw [n4.1 4 5 0 e45, w85, w85']))
        have g5 : frL u T (pvI D4 4 5 0 (D4.2.1 4 5 0 + D4.2.1 8 5 0)) := g4.trans (frL_I (by unfold exL; omega))
        have g5' : frL u T' (pvI D4' 4 5 0 (D4'.2.1 4 5 0 + D4'.2.1 8 5 0)) := g4'.trans (frL_I (by unfold exL; omega))
        have c45' : (pvI D4 4 5 0 (D4.2.1 4 5 0 + D4.2.1 8 5 0)).2.1 4 5 0 = ρ.2.1 4 5 0 + W := by rw [pvI_self, w85, i4 (by omega), i3 (by decide), i2 (by decide), u45]
        have i5 : ∀ {κ q j}, ¬ (κ = 4 ∧ q = 5) → (pvI D4 4 5 0 (D4.2.1 4 5 0 + D4.2.1 8 5 0)).2.1 κ q j = D4.2.1 κ q j := fun z => by rw [pvI_at, if_neg (fun e => z ⟨e.1, e.2.1⟩)]
        have i5' : ∀ {κ q j}, ¬ (κ = 4 ∧ q = 5) → (pvI D4' 4 5 0 (D4'.2.1 4 5 0 + D4'.2.1 8 5 0)).2.1 κ q j = D4'.2.1 κ q j := fun z => by rw [pvI_at, if_neg (fun e => z ⟨e.1, e.2.1⟩)]
        have A5 : (pvI D4 4 5 0 (D4.2.1 4 5 0 + D4.2.1 8 5 0)).2.2.2.1 = T.2.2.2.1 := A4
        have A5' : (pvI D4' 4 5 0 (D4'.2.1 4 5 0 + D4'.2.1 8 5 0)).2.2.2.1 = T'.2.2.2.1 := A4'
        generalize pvI D4 4 5 0 (D4.2.1 4 5 0 + D4.2.1 8 5 0) = D5 at *
        generalize pvI D4' 4 5 0 (D4'.2.1 4 5 0 + D4'.2.1 8 5 0) = D5' at *
        have d84 : D5.2.1 8 4 0 = ρ.2.1 8 4 0 := by rw [i5 (by omega), i4 (by omega), i3 (by decide), i2 (by decide), u84]
        have d84' : D5'.2.1 8 4 0 = ρ'.2.1 8 4 0 := by rw [i5' (by omega), i4' (by omega), i3' (by decide), i2' (by decide), u84']
        have d11 : D5.2.1 1 1 u = y' + 2 * F := by rw [i5 (by omega), i4 (by omega), i3 (by decide), b11]
        have d12 : D5.2.1 1 2 u = 0 := by rw [i5 (by omega), i4 (by omega), i3 (by decide), b12]
        have d44 : D5.2.1 4 4 0 = ρ.2.1 4 4 0 + 1 := by rw [i5 (by omega), c44']
        have fD : frL u ρ D5 := t2.trans ((frL_T f1).trans g5)
        have fD' : frL u ρ' D5' := t2'.trans ((frL_T f1').trans g5')
        have r1 := ti_dbl (a := F) (by omega) (by omega)
        have r2 := ti_add (a := y') (b := 2 * F) (by omega) (by omega)
        have r3 := ti_add (a := ρ.2.1 4 4 0) (b := 1) (by rw [show (1 : Int32).toInt = 1 from rfl]; omega) (by rw [show (1 : Int32).toInt = 1 from rfl]; omega)
        rw [show (1 : Int32).toInt = 1 from rfl] at r3
        have r4 := ti_add (a := ρ.2.1 4 5 0) (b := W) (by omega) (by omega)
        refine ih k m (cn + 1) al D5 D5' (by omega) (by omega) p4 (by omega) ⟨s1.trans fD, s2.trans fD', n5, ?_, ?_, ?_, ?_, Or.inr d12, ?_⟩ (v.fr fD d84) (w.fr fD fD' d84 d84')
        · intro n j; rw [A5]; exact gT n j
        · rw [d11]; omega
        · rw [d44]; omega
        · rw [c45']; omega
        · intro j p hj hp
          rw [A5, A5']
          by_cases hji : j < i
          · have := s9 j p hji hp
            have e32 : ∀ κ, ρ'.2.2.2.1 κ p.1 p.2 = ρ.2.2.2.1 κ p.1 p.2 → T'.2.2.2.1 κ p.1 p.2 = T.2.2.2.1 κ p.1 p.2 := fun κ z => by
              refine mT.2.2 κ p.1 p.2 ?_
              rw [← hC, ← hC']; exact z
            exact ⟨e32 32 this.1, e32 33 this.2⟩
          · exact aT j p (by omega) hj hp
      refine rel_ite Iff.rfl (fun _ => s127 0 (by decide)) (fun _ => ?_)
      have e1 := ti_sub (a := E) (b := B) (by omega) (by omega)
      have e2 := ti_sub (a := E - B) (b := W) (by omega) (by omega)
      have e3 := ti_max (a := 0) (b := E - B - W)
      rw [show (0 : Int32).toInt = 0 from rfl] at e3
      rw [z85, z85]
      refine rel_ite Iff.rfl (fun _ => ?_) (fun _ => ?_)
      · have e4 := ti_half (a := imax 0 (E - B - W)) (by omega)
        exact s127 (imax 0 (E - B - W) / 2) (by rw [e4]; omega)
      · exact s127 (imax 0 (E - B - W)) (by omega)
  unfold f_X4_putLines
  have au' : alive σ' u := by show u ∈ σ'.2.2.2.2 1; rw [dc_L g.1]; exact au
  rw [ob1_t (show f_X6_of σ 0 u 10 = _ from f_ofS h.f.t au (p := 10) (by decide)), ob1_t (show f_X6_of σ' 0 u 10 = _ from f_ofS h'.f.t au' (p := 10) (by decide)), g.2.1 u au 10 (by decide)]
  exact key l.length 0 fu 0 _ σ σ' (by omega) (by unfold fu; omega) (by omega) (by omega) ⟨frL.refl, frL.refl, mn.refl, gg, by omega, by omega, by omega, Or.inl rfl, fun j p hj => absurd hj (Nat.not_lt_zero _)⟩ vw gw
