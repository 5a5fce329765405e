/-! PURE: lines and floats, in two runs -/
section FLOAT
variable {O : List Nat} {p : Nat → Option Nat} {H : Nat → Nat} {σ σ' : PvS} {Y : Int} {l : List (Nat × Nat)}
theorem CM.frL {u : Nat} {τ τ' : PvS} {Y2 : Int} {l2 : List (Nat × Nat)} (c : CM O p H σ σ' Y l) (f : frL u σ τ) (f' : frL u σ' τ') (hY : Y ≤ Y2) (gw : GW τ) (v : VW τ l2) (w : WTa τ τ' l2.length) (b44 : 0 ≤ (τ.2.1 4 4 0).toInt ∧ (τ.2.1 4 4 0).toInt ≤ Y2) (b45 : 0 ≤ (τ.2.1 4 5 0).toInt ∧ (τ.2.1 4 5 0).toInt ≤ Y2) (e44 : τ'.2.1 4 4 0 = τ.2.1 4 4 0) (e45 : τ'.2.1 4 5 0 = τ.2.1 4 5 0) : CM O p H τ τ' Y2 l2 := by
  obtain ⟨d1, d2, d3, d4⟩ := c.stf f.2.2.2 f'.2.2.2
  have vd := c.2.2.2.2.2.1
  refine ⟨d1, d2, d3, d4, c.2.2.2.2.1.frL f f', ⟨(vd.1.frL f).mono hY, gw, b44, b45, fun n a => ?_, fun n a => (vd.2.2.2.2.2 n ((fz_alive f.2.2.2).mp a)).same f.2.2.2 (f.1 2 9 n (by unfold exL; omega)) (f.1 2 8 n (by unfold exL; omega))⟩, v, w, e44, e45⟩
  rw [f.1 2 5 n (by unfold exL; omega), f.1 2 7 n (by unfold exL; omega)]
  exact vd.2.2.2.2.1 n ((fz_alive f.2.2.2).mp a)
theorem r_putLinesC (cm : CM O p H σ σ' Y l) {u : Nat} (au : alive σ u) (ba : BA σ σ' u) (bv : BV σ u Y) (hY : Y ≤ 100000) : rel (f_X4_putLines σ u) (f_X4_putLines σ' u) (fun τ τ' => S4 O p H u (Y + 160 * l.length) [] σ σ' τ τ' ∧ BV τ u (Y + 160 * l.length) ∧ ∀ q ∈ l, τ'.2.2.2.1 32 q.1 q.2 = τ.2.2.2.1 32 q.1 q.2 ∧ τ'.2.2.2.1 33 q.1 q.2 = τ.2.2.2.1 33 q.1 q.2) := by
  obtain ⟨c1, c2, c3, c4, c5, c6, c7, c8, c9, c10⟩ := cm
  have vx := c6.2.2.2.2.1 u au
  have hH : H u ≤ 10 := by have := hl_le c1 au; rw [c4.2.2] at this; exact this
  obtain ⟨a10, a11, a12, a25, a26, a27, a210⟩ := ba
  have t := r_putLines c1 c2 c3 au c6.1 c5 c7 c8 c6.2.1 (by omega) (by omega) a10 a11 a25 a27 a210 c9 c10 (by have := bv.1; omega) c6.2.2.1 c6.2.2.2.1 (by omega)
  refine rel_mono t (fun τ τ' q => ?_)
  obtain ⟨⟨s1, s2, s3, s4, s5, s6, s7, s8, s9⟩, v, w⟩ := q
  refine ⟨⟨CM.frL ⟨c1, c2, c3, c4, c5, c6, c7, c8, c9, c10⟩ s1 s2 (by omega) s4 v w s6 s7 (s3.1 4 4 0 c9) (s3.1 4 5 0 c10), frF_L s1, s2.2.2.2, s3⟩, ⟨?_, ?_⟩, fun q hq => ?_⟩
  · rw [s1.1 2 6 u (by unfold exL; omega)]
    have := bv.1
    omega
  · rcases s8 with e | e
    · rw [e]; exact bv.2
    · rw [e]; decide
  · obtain ⟨j, hj, rfl⟩ := List.mem_iff_getElem.mp hq
    exact s9 j _ hj (List.getElem?_eq_getElem hj)
theorem S4.spn {u : Nat} {ρ ρ' : PvS} {B E N : Int32} (s : S4 O p H u Y l σ σ' ρ ρ') : S4 O p H u Y l σ σ' (spn ρ B E N) (spn ρ' B E N) := by
  obtain ⟨c, f, f', m⟩ := s
  have t : ∀ ρ : PvS, _root_.Jvm.Pilot.CPinnaceViewLaw_law_r7614_124a72.frL u ρ (_root_.Jvm.Pilot.CPinnaceViewLaw_law_r7614_124a72.spn ρ B E N) := fun ρ => frL_spn
  obtain ⟨c1, c2, c3, c4, c5, c6, c7, c8, c9, c10⟩ := c
  have k : ∀ (ρ : PvS) {κ q i}, κ ≠ 0 → (_root_.Jvm.Pilot.CPinnaceViewLaw_law_r7614_124a72.spn ρ B E N).2.1 κ q i = ρ.2.1 κ q i := fun ρ {κ q i} z => spn_I _ _ _ _ (fun e => z e.1)
  exact ⟨CM.frL ⟨c1, c2, c3, c4, c5, c6, c7, c8, c9, c10⟩ (t ρ) (t ρ') (Int.le_refl _) c6.2.1 (c7.fr (t ρ) (k ρ (by decide))) (c8.fr (t ρ) (t ρ') (k ρ (by decide)) (k ρ' (by decide))) (by rw [k ρ (by decide)]; exact c6.2.2.1) (by rw [k ρ (by decide)]; exact c6.2.2.2.1) (by rw [k ρ (by decide), k ρ' (by decide)]; exact c9) (by rw [k ρ (by decide), k ρ' (by decide)]; exact c10), f.trans (frF_L (t ρ)), f'.trans (t ρ').2.2.2, m.trans mn_spn⟩
theorem r_putFloat {kf : PvS → Nat → Int32 → Option PvS} {d : Nat} (F : FSp kf O p H d) (cm : CM O p H σ σ' Y []) (hws : wsh σ σ') {u c : Nat} (ac : alive σ c) (pc : p c = some u) (hd : 11 ≤ d + H c) (ba : BA σ σ' u) (bv : BV σ u Y) (hb : Y + 3200 * (cnt O p d c : Int) ≤ 96800) (hs : isbx (σ.2.1 2 0 c)) : rel (f_X4_putFloat kf σ c u (nI (H c))) (f_X4_putFloat kf σ' c u (nI (H c))) (fun τ τ' => S4 O p H u (Y + 3200 * (cnt O p d c : Int)) [] σ σ' τ τ' ∧ BV τ u (Y + 3200 * (cnt O p d c : Int)) ∧ gdn τ τ' c ∧ ∀ n, alive σ n → ∀ k, itp p k n = some c → gdn τ τ' n) := by
  obtain ⟨hH, au, hcu, hH10⟩ := cm.hs ac pc
  obtain ⟨a10, a11, a12, a25, a26, a27, -⟩ := ba
  have s0 : S4 O p H u Y [] σ σ' σ σ' := ⟨cm, frF.refl, fz.refl, mn.refl⟩
  have hcnt : 1 ≤ cnt O p d c := by
    obtain ⟨d, rfl⟩ : ∃ q, d = q + 1 := ⟨d - 1, by omega⟩
    show 1 ≤ 1 + _
    omega
  have red := cm.1.edge ac
  have vx := cm.2.2.2.2.2.1.2.2.2.2.1
  have xu := vx u au
  have b1 := bv.1
  have b23 : σ'.2.1 2 3 c = σ.2.1 2 3 c := (cm.2.2.1.2.2 c ac).2.2.2.1
  have es : sty σ' c 1 = sty σ c 1 := cm.2.2.1.2.1 c ac 1 (by decide)
  have r1 : -1 ≤ (sty σ c 1).toInt ∧ (sty σ c 1).toInt ≤ 149 := cm.1.s ac (p := 1) (by decide)
  have hwi := hws c ac hs
  unfold f_X4_putFloat
  rw [ob1_t (show f_X6_of σ 0 c 6 = _ from (s0.of ac (q := 6) (by decide)).1), ob1_t (show f_X6_of σ' 0 c 6 = _ from (s0.of ac (q := 6) (by decide)).2), ob1_t (f_widthOr cm.1.f.t ac _), ob1_t (f_widthOr cm.2.1.f.t (s0.al' ac) _), es, nm_t, nm_t, a27, b23, hwi, a10]
  have n6 := ti_dbl (a := σ.2.1 2 3 c) (by omega) (by omega)
  have n7 := ti_sub (a := σ.2.1 2 7 u) (b := 2 * σ.2.1 2 3 c) (by omega) (by omega)
  have n8 := ti_max (a := 0) (b := σ.2.1 2 7 u - 2 * σ.2.1 2 3 c)
  have n8b := ti_min (a := σ.2.1 1 3 c) (b := imax 0 (σ.2.1 2 7 u - 2 * σ.2.1 2 3 c))
  have n8c := ti_max (a := 0) (b := imin (σ.2.1 1 3 c) (imax 0 (σ.2.1 2 7 u - 2 * σ.2.1 2 3 c)))
  rw [show (0 : Int32).toInt = 0 from rfl] at n8 n8c
  have hw : 0 ≤ (if sty σ c 1 = -1 then imax 0 (imin (σ.2.1 1 3 c) (imax 0 (σ.2.1 2 7 u - 2 * σ.2.1 2 3 c))) else sty σ c 1).toInt ∧ ((if sty σ c 1 = -1 then imax 0 (imin (σ.2.1 1 3 c) (imax 0 (σ.2.1 2 7 u - 2 * σ.2.1 2 3 c))) else sty σ c 1).toInt ≤ 149 ∨ (if sty σ c 1 = -1 then imax 0 (imin (σ.2.1 1 3 c) (imax 0 (σ.2.1 2 7 u - 2 * σ.2.1 2 3 c))) else sty σ c 1).toInt ≤ max 0 ((σ.2.1 2 7 u).toInt - 2 * (σ.2.1 2 3 c).toInt)) := by
    split
    · omega
    · rename_i hn
      have : (sty σ c 1).toInt ≠ -1 := fun e => hn (Int32.toInt_inj.mp e)
      omega
  generalize (if sty σ c 1 = -1 then imax 0 (imin (σ.2.1 1 3 c) (imax 0 (σ.2.1 2 7 u - 2 * σ.2.1 2 3 c))) else sty σ c 1) = w at *
  clear n7 n8 n8b n8c
  have s1 := s0.I 2 7 c (v := w) rfl (by unfold exF; omega) (Or.inr ⟨rfl, by omega⟩) (fun _ e => by omega) (fun _ _ => by omega)
  have k27 : ∀ ρ : PvS, (pvI ρ 2 7 c w).2.1 2 7 c = w := fun ρ => pvI_self _ _ _ _ _
  have k23 : ∀ ρ : PvS, (pvI ρ 2 7 c w).2.1 2 3 c = ρ.2.1 2 3 c := fun ρ => by rw [pvI_at, if_neg (by omega)]
  have k11 : ∀ ρ : PvS, (pvI ρ 2 7 c w).2.1 1 1 u = ρ.2.1 1 1 u := fun ρ => by rw [pvI_at, if_neg (by omega)]
  rw [k27, k27, k23, k23, k11, k11, b23, a11]
  have x27 := k27 σ
  have x27' := k27 σ'
  clear k27 k23 k11
  have k25 : (pvI σ 2 7 c w).2.1 2 5 u = σ.2.1 2 5 u := s1.2.1.1 2 5 u (by unfold exF; omega)
  have k27 : (pvI σ 2 7 c w).2.1 2 7 u = σ.2.1 2 7 u := s1.2.1.1 2 7 u (by unfold exF; omega)
  have z1 : ∀ q, (pvI σ 2 7 c w).2.1 1 q u = σ.2.1 1 q u := fun q => by rw [pvI_at, if_neg (by omega)]
  generalize pvI σ 2 7 c w = A at *
  generalize pvI σ' 2 7 c w = A' at *
  refine rel_ob1 (r_belowTops s1.1.2.2.2.2.2.1.1 s1.1.2.2.2.2.1 (σ.2.1 1 0 u) (σ.2.1 1 1 u)) (fun r r' q => ?_)
  obtain ⟨rfl, q2, q3⟩ := q
  rw [ob1_t (show f_X6_of A 0 c 7 = _ from (s1.of ac (q := 7) (by decide)).1), ob1_t (show f_X6_of A' 0 c 7 = _ from (s1.of ac (q := 7) (by decide)).2)]
  refine rel_ob1 (r_belowBottoms s1.1.2.2.2.2.2.1.1 s1.1.2.2.2.2.1 (σ.2.1 1 0 u) (sty A c 7) r') (fun t t' q => ?_)
  obtain ⟨rfl, q4, q5⟩ := q
  have n9 := ti_add (a := w) (b := 2 * σ.2.1 2 3 c) (by omega) (by omega)
  refine rel_ob2 (r_findRoom s1.1.2.2.2.2.2.1.1 s1.1.2.2.2.2.1 (u := u) (s1.2.2.2.1 1 0 u a10) (s1.2.2.2.1 2 5 u a25) (s1.2.2.2.1 2 7 u a27) (by rw [k25]; omega) (by rw [k27]; omega) (w + 2 * σ.2.1 2 3 c) t' (by omega)) (fun y T y' T' q => ?_)
  obtain ⟨q6, q7, B, E, N, rfl, rfl, qB, qE, qf⟩ := q
  have q6 : y' = y := q6
  have q7 : t'.toInt ≤ y.toInt ∧ y.toInt ≤ Y := q7
  subst q6
  rw [k25] at qB
  rw [k25, k27] at qE qf
  rw [n9, n6] at qf
  have y0 : 0 ≤ y'.toInt ∧ y'.toInt ≤ Y := by omega
  clear q2 q3 q4 q5 q7
  have s2 := s1.spn (B := B) (E := E) (N := N)
  have x27 : (spn A B E N).2.1 2 7 c = w := (spn_I _ _ _ _ (by omega)).trans x27
  have x27' : (spn A' B E N).2.1 2 7 c = w := (spn_I _ _ _ _ (by omega)).trans x27'
  rw [(spn_at A B E N).1, (spn_at A B E N).2.1, (spn_at A' B E N).1, (spn_at A' B E N).2.1]
  have z2 : ∀ q, (spn A B E N).2.1 1 q u = σ.2.1 1 q u := fun q => (spn_I _ _ _ _ (by omega)).trans (z1 q)
  generalize spn A B E N = B2 at *
  generalize spn A' B E N = B2' at *
  clear s1
  have s166 : ∀ x : Int32, ((σ.2.1 2 5 u).toInt - 195 ≤ x.toInt ∧ x.toInt ≤ (σ.2.1 2 5 u).toInt + 2000) → rel (f_X4_putFloat_166 kf B2 c (nI (H c)) c (σ.2.1 1 0 u) (sty σ c 6) (w + 2 * σ.2.1 2 3 c) y' x) (f_X4_putFloat_166 kf B2' c (nI (H c)) c (σ.2.1 1 0 u) (sty σ c 6) (w + 2 * σ.2.1 2 3 c) y' x) (fun τ τ' => S4 O p H u (Y + 3200 * (cnt O p d c : Int)) [] σ σ' τ τ' ∧ BV τ u (Y + 3200 * (cnt O p d c : Int)) ∧ gdn τ τ' c ∧ ∀ n, alive σ n → ∀ k, itp p k n = some c → gdn τ τ' n) := fun x hx => by
    unfold f_X4_putFloat_166
    have c23 : B2.2.1 2 3 c = σ.2.1 2 3 c := s2.2.1.2.2.2.1 3 c (by omega)
    have c23' : B2'.2.1 2 3 c = σ.2.1 2 3 c := by rw [(s2.1.2.2.1.2.2 c (s2.al ac)).2.2.2.1]; exact c23
    rw [nm_t, nm_t, nm_t, nm_t, nm_t, nm_t, c23, c23']
    have n1 := ti_add (a := x) (b := σ.2.1 2 3 c) (by omega) (by omega)
    have s3 := s2.I 2 5 c (v := x + σ.2.1 2 3 c) rfl (by unfold exF; omega) (Or.inr ⟨rfl, by omega⟩) (fun _ _ => by omega) (fun _ e => by omega)
    have e23 : ∀ ρ : PvS, (pvI ρ 2 5 c (x + σ.2.1 2 3 c)).2.1 2 3 c = ρ.2.1 2 3 c := fun ρ => by rw [pvI_at, if_neg (by omega)]
    have e27 : (pvI B2' 2 5 c (x + σ.2.1 2 3 c)).2.1 2 7 c = (pvI B2 2 5 c (x + σ.2.1 2 3 c)).2.1 2 7 c := (mn_I rfl).1 2 7 c (by rw [x27, x27'])
    have e25 : (pvI B2' 2 5 c (x + σ.2.1 2 3 c)).2.1 2 5 c = (pvI B2 2 5 c (x + σ.2.1 2 3 c)).2.1 2 5 c := by rw [pvI_self, pvI_self]
    rw [e23, e23, c23, c23']
    have z3 : ∀ q, (pvI B2 2 5 c (x + σ.2.1 2 3 c)).2.1 1 q u = σ.2.1 1 q u := fun q => by rw [pvI_at, if_neg (by omega)]; exact z2 q
    generalize pvI B2 2 5 c (x + σ.2.1 2 3 c) = C at *
    generalize pvI B2' 2 5 c (x + σ.2.1 2 3 c) = C' at *
    clear s2
    have n2 := ti_add (a := y') (b := σ.2.1 2 3 c) (by omega) (by omega)
    have s4 := s3.I 2 6 c (v := y' + σ.2.1 2 3 c) rfl (by unfold exF; omega) (Or.inr ⟨rfl, by omega⟩) (fun _ e => by omega) (fun _ e => by omega)
    have m4 := mn_I (σ := C) (σ' := C') (κ := 2) (q := 6) (i := c) (v := y' + σ.2.1 2 3 c) rfl
    have f25 := m4.1 2 5 c e25
    have f27 := m4.1 2 7 c e27
    have f26 : (pvI C 2 6 c (y' + σ.2.1 2 3 c)).2.1 2 6 c = y' + σ.2.1 2 3 c := pvI_self _ _ _ _ _
    have f26' : (pvI C' 2 6 c (y' + σ.2.1 2 3 c)).2.1 2 6 c = y' + σ.2.1 2 3 c := pvI_self _ _ _ _ _
    have z4 : ∀ q, (pvI C 2 6 c (y' + σ.2.1 2 3 c)).2.1 1 q u = σ.2.1 1 q u := fun q => by rw [pvI_at, if_neg (by omega)]; exact z3 q
    generalize pvI C 2 6 c (y' + σ.2.1 2 3 c) = D at *
    generalize pvI C' 2 6 c (y' + σ.2.1 2 3 c) = D' at *
    clear s3 m4
    have e30 : D'.2.1 3 0 c = D.2.1 3 0 c := dc_I s4.1.2.2.1.1 rfl 0 c
    rw [e30]
    have s5 := s4.I 1 0 c (v := D.2.1 3 0 c) rfl (by unfold exF; omega) (Or.inl rfl) (fun e => by omega) (fun e => by omega)
    have m5 := mn_I (σ := D) (σ' := D') (κ := 1) (q := 0) (i := c) (v := D.2.1 3 0 c) rfl
    have g25 := m5.1 2 5 c f25
    have g27 := m5.1 2 7 c f27
    have g10 : (pvI D' 1 0 c (D.2.1 3 0 c)).2.1 1 0 c = (pvI D 1 0 c (D.2.1 3 0 c)).2.1 1 0 c := by rw [pvI_self, pvI_self]
    have g26 : (pvI D 1 0 c (D.2.1 3 0 c)).2.1 2 6 c = y' + σ.2.1 2 3 c := by rw [pvI_at, if_neg (by omega)]; exact f26
    have g26' : (pvI D' 1 0 c (D.2.1 3 0 c)).2.1 2 6 c = y' + σ.2.1 2 3 c := by rw [pvI_at, if_neg (by omega)]; exact f26'
    have z5 : ∀ q, (pvI D 1 0 c (D.2.1 3 0 c)).2.1 1 q u = σ.2.1 1 q u := fun q => by rw [pvI_at, if_neg (by omega)]; exact z4 q
    generalize pvI D' 1 0 c (D.2.1 3 0 c) = G' at *
    generalize pvI D 1 0 c (D.2.1 3 0 c) = G at *
    clear s4 m5
    have fl := F G G' c (Y + 40) (s5.1.mono (by omega)) (hws.mn s5.2.1.2 s5.2.2.2) (s5.al ac) hd g10 g25 (by rw [g26, g26']) g27 (by rw [g26]; omega) (by omega)
    refine rel_ob1 fl (fun T T' q => ?_)
    obtain ⟨q1, q2, q3, q4, ⟨q8, q9, q10⟩, qh, qg⟩ := q
    rw [g26, n2] at qh
    have s7 : S4 O p H u (Y + 40 + 3200 * ((cnt O p d c : Int) - 1)) [] σ σ' T T' := ⟨q1, s5.2.1.trans (frF_sub (by omega) q2), s5.2.2.1.trans q3, s5.2.2.2.trans q4⟩
    have h23 : T.2.1 2 3 c = σ.2.1 2 3 c := s7.2.1.2.2.2.1 3 c (by omega)
    have h23' : T'.2.1 2 3 c = σ.2.1 2 3 c := by rw [(s7.1.2.2.1.2.2 c (s7.al ac)).2.2.2.1]; exact h23
    have i5 : T'.2.1 2 5 c = T.2.1 2 5 c := q4.1 2 5 c g25
    have i6 : T'.2.1 2 6 c = T.2.1 2 6 c := q4.1 2 6 c (by rw [g26, g26'])
    have i7 : T'.2.1 2 7 c = T.2.1 2 7 c := q4.1 2 7 c g27
    have gc : gdn T T' c := by
      refine ⟨fun _ q h5 h10 => ?_, fun ht => ?_⟩
      · have : q = 5 ∨ q = 6 ∨ q = 7 ∨ q = 8 ∨ q = 9 ∨ q = 10 := by omega
        rcases this with rfl | rfl | rfl | rfl | rfl | rfl
        · exact i5
        · exact i6
        · exact i7
        · exact q8
        · exact q9
        · exact q10
      · rw [s7.2.1.2.2.2.1 0 c (by omega)] at ht
        rw [ht] at hs
        exact absurd hs (by decide)
    rw [h23, h23', q8]
    have n10 := ti_add (a := T.2.1 2 8 c) (b := 2 * σ.2.1 2 3 c) (by omega) (by omega)
    have pu := r_put s7.1.2.2.2.2.2.1.1 s7.1.2.2.2.2.1 (Y2 := Y + 3200 * (cnt O p d c : Int)) (by omega) (σ.2.1 1 0 u) (sty σ c 6) x y' (w + 2 * σ.2.1 2 3 c) (T.2.1 2 8 c + 2 * σ.2.1 2 3 c) (by omega) (by omega) (by omega) (by omega) (by omega)
    refine rel_ob1 pu (fun V V' q => ?_)
    obtain ⟨v1, v2, v3, v4, v5, v6, v7, v8⟩ := q
    have frV : frF H u T V := ⟨fun κ q i z => v6 κ q i (fun e => z (Or.inl e)), v3⟩
    have eI : ∀ {κ q i}, κ ≠ 0 → V.2.1 κ q i = T.2.1 κ q i := fun {κ q i} z => v6 κ q i z
    have cV : CM O p H V V' (Y + 3200 * (cnt O p d c : Int)) [] := by
      obtain ⟨d1, d2, d3, d4⟩ := s7.1.stf v3 v4
      have vd := s7.1.2.2.2.2.2.1
      refine ⟨d1, d2, d3, d4, v2, ⟨v1, fun n j => by rw [v8 32 n j (by omega)]; exact vd.2.1 n j, by rw [eI (by decide)]; have := vd.2.2.1; omega, by rw [eI (by decide)]; have := vd.2.2.2.1; omega, fun n a => by rw [eI (by decide), eI (by decide)]; exact vd.2.2.2.2.1 n ((fz_alive v3).mp a), fun n a => (vd.2.2.2.2.2 n ((fz_alive v3).mp a)).same v3 (eI (by decide)) (eI (by decide))⟩, ⟨by rw [eI (by decide)]; exact s7.1.2.2.2.2.2.2.1.1, by decide, fun j q hq => by cases hq⟩, ⟨v5.1 8 4 0 s7.1.2.2.2.2.2.2.2.1.1, fun j hj => absurd hj (Nat.not_lt_zero _)⟩, v5.1 4 4 0 s7.1.2.2.2.2.2.2.2.2.1, v5.1 4 5 0 s7.1.2.2.2.2.2.2.2.2.2⟩
    have f11 := s7.2.1.trans frV
    refine rel_some ⟨⟨cV, f11, s7.2.2.1.trans v4, s7.2.2.2.trans v5⟩, ?_, gc.mn v3 v5, fun n an k hk => (qg n (s5.al an) k hk).mn v3 v5⟩
    have h11 : V.2.1 1 1 u = σ.2.1 1 1 u := by rw [eI (by decide), q2.1 1 1 u (by unfold exF; omega)]; exact z5 1
    have h12 : V.2.1 1 2 u = σ.2.1 1 2 u := by rw [eI (by decide), q2.1 1 2 u (by unfold exF; omega)]; exact z5 2
    unfold BV
    rw [h11, h12, f11.1 2 6 u (by unfold exF; omega)]
    exact ⟨by omega, bv.2⟩
  refine rel_ite Iff.rfl (fun _ => s166 B (by omega)) (fun _ => ?_)
  have n3 := ti_sub (a := E) (b := w + 2 * σ.2.1 2 3 c) (by omega) (by omega)
  exact s166 (E - (w + 2 * σ.2.1 2 3 c)) (by omega)
end FLOAT
