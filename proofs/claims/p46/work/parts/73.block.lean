/-! PURE: a block, in two runs -/
def FP (O : List Nat) (p : Nat → Option Nat) (H : Nat → Nat) (d u : Nat) (Y : Int) (σ σ' τ τ' : PvS) : Prop :=
  CM O p H τ τ' (Y + 3200 * ((cnt O p d u : Int) - 1)) [] ∧ frF H u σ τ ∧ fz σ' τ' ∧ mn σ σ' τ τ' ∧ (τ'.2.1 2 8 u = τ.2.1 2 8 u ∧ τ'.2.1 2 9 u = τ.2.1 2 9 u ∧ τ'.2.1 2 10 u = τ.2.1 2 10 u) ∧ (0 ≤ (τ.2.1 2 8 u).toInt ∧ (τ.2.1 2 8 u).toInt ≤ max 59 (Y + 3200 * ((cnt O p d u : Int) - 1) - (σ.2.1 2 6 u).toInt)) ∧ ∀ n, alive σ n → ∀ k, itp p k n = some u → gdn τ τ' n
def FSp (kf : PvS → Nat → Int32 → Option PvS) (O : List Nat) (p : Nat → Option Nat) (H : Nat → Nat) (d : Nat) : Prop :=
  ∀ (σ σ' : PvS) (u : Nat) (Y : Int), CM O p H σ σ' Y [] → wsh σ σ' → alive σ u → 11 ≤ d + H u → σ'.2.1 1 0 u = σ.2.1 1 0 u → σ'.2.1 2 5 u = σ.2.1 2 5 u → σ'.2.1 2 6 u = σ.2.1 2 6 u → σ'.2.1 2 7 u = σ.2.1 2 7 u → (0 ≤ (σ.2.1 2 6 u).toInt ∧ (σ.2.1 2 6 u).toInt ≤ Y) → Y + 3200 * (cnt O p d u : Int) ≤ 100000 → rel (kf σ u (nI (H u))) (kf σ' u (nI (H u))) (FP O p H d u Y σ σ')
def S4 (O : List Nat) (p : Nat → Option Nat) (H : Nat → Nat) (u : Nat) (Y : Int) (l : List (Nat × Nat)) (σ σ' ρ ρ' : PvS) : Prop := CM O p H ρ ρ' Y l ∧ frF H u σ ρ ∧ fz σ' ρ' ∧ mn σ σ' ρ ρ'
section BLOCK
variable {O : List Nat} {p : Nat → Option Nat} {H : Nat → Nat} {σ σ' : PvS} {Y : Int} {l : List (Nat × Nat)}
theorem S4.I {u : Nat} {ρ ρ' : PvS} (s : S4 O p H u Y l σ σ' ρ ρ') (κ q i : Nat) {v v' : Int32} (hv : v' = v) (h : exF H u κ q i) (hk : κ = 1 ∨ (κ = 2 ∧ 5 ≤ q ∧ q ≠ 8 ∧ q ≠ 9)) (hx : κ = 2 → q = 5 → -(200 * (H i : Int)) ≤ v.toInt ∧ v.toInt ≤ 2100 * ((H i : Int) + 1)) (hw : κ = 2 → q = 7 → 0 ≤ v.toInt ∧ v.toInt ≤ 2000) : S4 O p H u Y l σ σ' (pvI ρ κ q i v) (pvI ρ' κ q i v') :=
  ⟨s.1.I hk hx hw, s.2.1.trans (frF_I h (hk.imp id (fun z => ⟨z.1, z.2.1⟩))), s.2.2.1.trans (frF_I h (hk.imp id (fun z => ⟨z.1, z.2.1⟩))).2, s.2.2.2.trans (mn_I hv)⟩
theorem S4.al {u n : Nat} {ρ ρ' : PvS} (s : S4 O p H u Y l σ σ' ρ ρ') (a : alive σ n) : alive ρ n := (fz_alive s.2.1.2).mpr a
theorem S4.al' {u n : Nat} {ρ ρ' : PvS} (s : S4 O p H u Y l σ σ' ρ ρ') (a : alive σ n) : alive ρ' n := by
  have := s.al a
  show n ∈ ρ'.2.2.2.2 1
  rw [dc_L s.1.2.2.1.1]
  exact this
theorem S4.of {u n q : Nat} {ρ ρ' : PvS} (s : S4 O p H u Y l σ σ' ρ ρ') (a : alive σ n) (hq : q < 14) : f_X6_of ρ 0 n (nI q) = some (sty ρ n q) ∧ f_X6_of ρ' 0 n (nI q) = some (sty ρ n q) := by
  refine ⟨f_ofS s.1.1.f.t (s.al a) hq, ?_⟩
  rw [f_ofS s.1.2.1.f.t (s.al' a) hq, s.1.2.2.1.2.1 n (s.al a) q hq]
theorem CM.hs (c : CM O p H σ σ' Y l) {n u : Nat} (a : alive σ n) (e : p n = some u) : H n = H u + 1 ∧ alive σ u ∧ n ≠ u ∧ H n ≤ 10 := by
  obtain ⟨-, e2, e3⟩ := c.2.2.2.1
  have h1 := hl_s c.1 a ((e2 n).trans e)
  have h2 := hl_le c.1 a
  rw [e3, e3] at h1
  rw [e3] at h2
  exact ⟨h1, (hm_alive c.1 a ((e2 n).trans e)).1, fun q => by rw [q] at h1; omega, h2⟩
theorem r_putBlock {kf : PvS → Nat → Int32 → Option PvS} {d : Nat} (F : FSp kf O p H d) (cm : CM O p H σ σ' Y []) (hws : wsh σ σ') {u c : Nat} (ac : alive σ c) (pc : p c = some u) (hd : 11 ≤ d + H c) (ba : BA σ σ' u) (bv : BV σ u Y) (hb : Y + 3200 * (cnt O p d c : Int) ≤ 96800) (hs : σ.2.1 2 0 c ≠ 1) : rel (f_X4_putBlock kf σ c u (nI (H c))) (f_X4_putBlock kf σ' c u (nI (H c))) (fun τ τ' => S4 O p H u (Y + 3200 * (cnt O p d c : Int)) [] σ σ' τ τ' ∧ BV τ u (Y + 3200 * (cnt O p d c : Int)) ∧ gdn τ τ' c ∧ ∀ n, alive σ n → ∀ k, itp p k n = some c → gdn τ τ' n) := by
  obtain ⟨hH, au, hcu, hH10⟩ := cm.hs ac pc
  obtain ⟨a10, a11, a12, a25, a26, a27, -⟩ := ba
  have s0 : S4 O p H u Y [] σ σ' σ σ' := ⟨cm, frF.refl, fz.refl, mn.refl⟩
  have hcnt : 1 ≤ cnt O p d c := by
    obtain ⟨d, rfl⟩ : ∃ q, d = q + 1 := ⟨d - 1, by omega⟩
    show 1 ≤ 1 + _
    omega
  have r3 : 0 ≤ (sty σ c 3).toInt ∧ (sty σ c 3).toInt ≤ 11 := cm.1.s ac (p := 3) (by decide)
  have rin := cm.1.inset ac
  have red := cm.1.edge ac
  have vx := cm.2.2.2.2.2.1.2.2.2.2.1
  have xu := vx u au
  unfold f_X4_putBlock
  rw [ob1_t (show f_X6_of σ 0 c 3 = _ from (s0.of ac (q := 3) (by decide)).1), ob1_t (show f_X6_of σ' 0 c 3 = _ from (s0.of ac (q := 3) (by decide)).2), nm_t, nm_t, a11, a12]
  have n1 := ti_sub (a := sty σ c 3) (b := σ.2.1 1 2 u) (by have := bv.2; omega) (by have := bv.2; omega)
  have n2 := ti_max (a := 0) (b := sty σ c 3 - σ.2.1 1 2 u)
  rw [show (0 : Int32).toInt = 0 from rfl] at n2
  have n3 := ti_add (a := σ.2.1 1 1 u) (b := imax 0 (sty σ c 3 - σ.2.1 1 2 u)) (by have := bv.1; have := bv.2; omega) (by have := bv.1; have := bv.2; omega)
  have s1 := s0.I 1 1 u (v := σ.2.1 1 1 u + imax 0 (sty σ c 3 - σ.2.1 1 2 u)) rfl (by unfold exF; omega) (Or.inl rfl) (fun e => by omega) (fun e => by omega)
  have k11 : (pvI σ 1 1 u (σ.2.1 1 1 u + imax 0 (sty σ c 3 - σ.2.1 1 2 u))).2.1 1 1 u = σ.2.1 1 1 u + imax 0 (sty σ c 3 - σ.2.1 1 2 u) := pvI_self _ _ _ _ _
  have k11' : (pvI σ' 1 1 u (σ.2.1 1 1 u + imax 0 (sty σ c 3 - σ.2.1 1 2 u))).2.1 1 1 u = σ.2.1 1 1 u + imax 0 (sty σ c 3 - σ.2.1 1 2 u) := pvI_self _ _ _ _ _
  generalize pvI σ 1 1 u (σ.2.1 1 1 u + imax 0 (sty σ c 3 - σ.2.1 1 2 u)) = A at *
  generalize pvI σ' 1 1 u (σ.2.1 1 1 u + imax 0 (sty σ c 3 - σ.2.1 1 2 u)) = A' at *
  rw [ob1_t (show f_X6_of A 0 c 7 = _ from (s1.of ac (q := 7) (by decide)).1), ob1_t (show f_X6_of A' 0 c 7 = _ from (s1.of ac (q := 7) (by decide)).2), k11, k11', s1.2.2.2.1 1 0 u a10]
  refine rel_ob1 (r_belowBottoms s1.1.2.2.2.2.2.1.1 s1.1.2.2.2.2.1 (A.2.1 1 0 u) (sty A c 7) _) (fun r r' q => ?_)
  obtain ⟨rfl, q2, q3⟩ := q
  rw [n3] at q2 q3
  have hr : (σ.2.1 1 1 u).toInt ≤ r'.toInt ∧ r'.toInt ≤ Y + 11 := by have := bv.1; have := bv.2; omega
  clear k11 k11' q2 q3
  rw [nm_t, nm_t, nm_t, nm_t, nm_t, nm_t]
  -- the cursor
  have s2 := s1.I 1 1 u (v := r') rfl (by unfold exF; omega) (Or.inl rfl) (fun e => by omega) (fun e => by omega)
  have j11 : (pvI A 1 1 u r').2.1 1 1 u = r' := pvI_self _ _ _ _ _
  have j11' : (pvI A' 1 1 u r').2.1 1 1 u = r' := pvI_self _ _ _ _ _
  generalize pvI A 1 1 u r' = B at *
  generalize pvI A' 1 1 u r' = B' at *
  clear s1
  -- left
  have b25 : B.2.1 2 5 u = σ.2.1 2 5 u := s2.2.1.1 2 5 u (by unfold exF; omega)
  have b23 : B.2.1 2 3 c = σ.2.1 2 3 c := s2.2.1.2.2.2.1 3 c (by omega)
  have b25' : B'.2.1 2 5 u = σ.2.1 2 5 u := by rw [s2.2.2.2.1 2 5 u a25]; exact b25
  have b23' : B'.2.1 2 3 c = σ.2.1 2 3 c := by rw [(s2.1.2.2.1.2.2 c (s2.al ac)).2.2.2.1]; exact b23
  rw [b25, b23, b25', b23']
  have n4 := ti_add (a := σ.2.1 2 5 u) (b := σ.2.1 2 3 c) (by omega) (by omega)
  have s3 := s2.I 2 5 c (v := σ.2.1 2 5 u + σ.2.1 2 3 c) rfl (by unfold exF; omega) (Or.inr ⟨rfl, by omega⟩) (fun _ _ => by omega) (fun _ e => by omega)
  have c11 : (pvI B 2 5 c (σ.2.1 2 5 u + σ.2.1 2 3 c)).2.1 1 1 u = r' := by rw [pvI_at, if_neg (by omega)]; exact j11
  have c11' : (pvI B' 2 5 c (σ.2.1 2 5 u + σ.2.1 2 3 c)).2.1 1 1 u = r' := by rw [pvI_at, if_neg (by omega)]; exact j11'
  have c25 : (pvI B' 2 5 c (σ.2.1 2 5 u + σ.2.1 2 3 c)).2.1 2 5 c = (pvI B 2 5 c (σ.2.1 2 5 u + σ.2.1 2 3 c)).2.1 2 5 c := by rw [pvI_self, pvI_self]
  generalize pvI B 2 5 c (σ.2.1 2 5 u + σ.2.1 2 3 c) = C at *
  generalize pvI B' 2 5 c (σ.2.1 2 5 u + σ.2.1 2 3 c) = C' at *
  clear s2 b25 b23 b25' b23' j11 j11'
  -- top
  have b22 : C.2.1 2 2 c = σ.2.1 2 2 c := s3.2.1.2.2.2.1 2 c (by omega)
  have b22' : C'.2.1 2 2 c = σ.2.1 2 2 c := by rw [(s3.1.2.2.1.2.2 c (s3.al ac)).2.2.1]; exact b22
  rw [c11, c11', b22, b22']
  have n5 := ti_add (a := r') (b := σ.2.1 2 2 c) (by have := bv.1; omega) (by omega)
  have s4 := s3.I 2 6 c (v := r' + σ.2.1 2 2 c) rfl (by unfold exF; omega) (Or.inr ⟨rfl, by omega⟩) (fun _ e => by omega) (fun _ e => by omega)
  have d11 : (pvI C 2 6 c (r' + σ.2.1 2 2 c)).2.1 1 1 u = r' := by rw [pvI_at, if_neg (by omega)]; exact c11
  have d26 : (pvI C 2 6 c (r' + σ.2.1 2 2 c)).2.1 2 6 c = r' + σ.2.1 2 2 c := pvI_self _ _ _ _ _
  have d26' : (pvI C' 2 6 c (r' + σ.2.1 2 2 c)).2.1 2 6 c = r' + σ.2.1 2 2 c := pvI_self _ _ _ _ _
  have d25 : (pvI C' 2 6 c (r' + σ.2.1 2 2 c)).2.1 2 5 c = (pvI C 2 6 c (r' + σ.2.1 2 2 c)).2.1 2 5 c := (mn_I (σ := C) (σ' := C') (κ := 2) (q := 6) (i := c) rfl).1 2 5 c c25
  generalize pvI C 2 6 c (r' + σ.2.1 2 2 c) = D at *
  generalize pvI C' 2 6 c (r' + σ.2.1 2 2 c) = D' at *
  clear s3 b22 b22' c11 c11' c25
  -- width
  have b27 : D.2.1 2 7 u = σ.2.1 2 7 u := s4.2.1.1 2 7 u (by unfold exF; omega)
  have b23 : D.2.1 2 3 c = σ.2.1 2 3 c := s4.2.1.2.2.2.1 3 c (by omega)
  have b27' : D'.2.1 2 7 u = σ.2.1 2 7 u := by rw [s4.2.2.2.1 2 7 u a27]; exact b27
  have b23' : D'.2.1 2 3 c = σ.2.1 2 3 c := by rw [(s4.1.2.2.1.2.2 c (s4.al ac)).2.2.2.1]; exact b23
  have es : sty D' c 1 = sty D c 1 := s4.1.2.2.1.2.1 c (s4.al ac) 1 (by decide)
  have r1 : -1 ≤ (sty D c 1).toInt ∧ (sty D c 1).toInt ≤ 149 := s4.1.1.s (s4.al ac) (p := 1) (by decide)
  rw [b27, b23, b27', b23', ob1_t (f_widthOr s4.1.1.f.t (s4.al ac) _), ob1_t (f_widthOr s4.1.2.1.f.t (s4.al' ac) _), es, nm_t, nm_t]
  have n6 := ti_dbl (a := σ.2.1 2 3 c) (by omega) (by omega)
  have n7 := ti_sub (a := σ.2.1 2 7 u) (b := 2 * σ.2.1 2 3 c) (by omega) (by omega)
  have n8 := ti_max (a := 0) (b := σ.2.1 2 7 u - 2 * σ.2.1 2 3 c)
  rw [show (0 : Int32).toInt = 0 from rfl] at n8
  have hw : 0 ≤ (if sty D c 1 = -1 then imax 0 (σ.2.1 2 7 u - 2 * σ.2.1 2 3 c) else sty D c 1).toInt ∧ (if sty D c 1 = -1 then imax 0 (σ.2.1 2 7 u - 2 * σ.2.1 2 3 c) else sty D c 1).toInt ≤ 2000 := by
    split
    · omega
    · rename_i hn
      have : (sty D c 1).toInt ≠ -1 := fun e => hn (Int32.toInt_inj.mp e)
      omega
  generalize (if sty D c 1 = -1 then imax 0 (σ.2.1 2 7 u - 2 * σ.2.1 2 3 c) else sty D c 1) = w at *
  have s5 := s4.I 2 7 c (v := w) rfl (by unfold exF; omega) (Or.inr ⟨rfl, by omega⟩) (fun _ e => by omega) (fun _ _ => hw)
  have m5 := mn_I (σ := D) (σ' := D') (κ := 2) (q := 7) (i := c) (v := w) rfl
  have f25 := m5.1 2 5 c d25
  have f11 : (pvI D 2 7 c w).2.1 1 1 u = r' := by rw [pvI_at, if_neg (by omega)]; exact d11
  have f26 : (pvI D 2 7 c w).2.1 2 6 c = r' + σ.2.1 2 2 c := by rw [pvI_at, if_neg (by omega)]; exact d26
  have f26' : (pvI D' 2 7 c w).2.1 2 6 c = r' + σ.2.1 2 2 c := by rw [pvI_at, if_neg (by omega)]; exact d26'
  have f27 : (pvI D' 2 7 c w).2.1 2 7 c = (pvI D 2 7 c w).2.1 2 7 c := by rw [pvI_self, pvI_self]
  generalize pvI D 2 7 c w = E at *
  generalize pvI D' 2 7 c w = E' at *
  clear s4 b27 b23 b27' b23' es d25 d11 d26 d26' m5
  have s160 : ∀ z : Int32, rel (f_X4_putBlock_160 kf E c (nI (H c)) c u (sty σ c 3) z c) (f_X4_putBlock_160 kf E' c (nI (H c)) c u (sty σ c 3) z c) (fun τ τ' => S4 O p H u (Y + 3200 * (cnt O p d c : Int)) [] σ σ' τ τ' ∧ BV τ u (Y + 3200 * (cnt O p d c : Int)) ∧ gdn τ τ' c ∧ ∀ n, alive σ n → ∀ k, itp p k n = some c → gdn τ τ' n) := fun z => by
    unfold f_X4_putBlock_160
    rw [nm_t, nm_t]
    have s6 := s5.I 1 0 c (v := z) rfl (by unfold exF; omega) (Or.inl rfl) (fun e => by omega) (fun e => by omega)
    have m6 := mn_I (σ := E) (σ' := E') (κ := 1) (q := 0) (i := c) (v := z) rfl
    have g10 : (pvI E' 1 0 c z).2.1 1 0 c = (pvI E 1 0 c z).2.1 1 0 c := by rw [pvI_self, pvI_self]
    have g25 := m6.1 2 5 c f25
    have g27 := m6.1 2 7 c f27
    have g11 : (pvI E 1 0 c z).2.1 1 1 u = r' := by rw [pvI_at, if_neg (by omega)]; exact f11
    have g26 : (pvI E 1 0 c z).2.1 2 6 c = r' + σ.2.1 2 2 c := by rw [pvI_at, if_neg (by omega)]; exact f26
    have g26' : (pvI E' 1 0 c z).2.1 2 6 c = r' + σ.2.1 2 2 c := by rw [pvI_at, if_neg (by omega)]; exact f26'
    generalize pvI E 1 0 c z = G at *
    generalize pvI E' 1 0 c z = G' at *
    have fl := F G G' c (Y + 40) (s6.1.mono (by omega)) (hws.mn s6.2.1.2 s6.2.2.2) (s6.al ac) hd g10 g25 (by rw [g26, g26']) g27 (by rw [g26]; have := bv.1; omega) (by omega)
    refine rel_ob1 fl (fun T T' q => ?_)
    obtain ⟨q1, q2, q3, q4, ⟨q8, q9, q10⟩, qh, qg⟩ := q
    rw [g26] at qh
    rw [nm_t, nm_t, nm_t, nm_t]
    have s7 : S4 O p H u (Y + 40 + 3200 * ((cnt O p d c : Int) - 1)) [] σ σ' T T' := ⟨q1, s6.2.1.trans (frF_sub (by omega) q2), s6.2.2.1.trans q3, s6.2.2.2.trans q4⟩
    have h11 : T.2.1 1 1 u = r' := by rw [q2.1 1 1 u (by unfold exF; omega)]; exact g11
    have h11' : T'.2.1 1 1 u = r' := by rw [s7.2.2.2.1 1 1 u a11]; exact h11
    have h22 : T.2.1 2 2 c = σ.2.1 2 2 c := s7.2.1.2.2.2.1 2 c (by omega)
    have h22' : T'.2.1 2 2 c = σ.2.1 2 2 c := by rw [(s7.1.2.2.1.2.2 c (s7.al ac)).2.2.1]; exact h22
    have i5 : T'.2.1 2 5 c = T.2.1 2 5 c := q4.1 2 5 c g25
    have i6 : T'.2.1 2 6 c = T.2.1 2 6 c := q4.1 2 6 c (by rw [g26, g26'])
    have i7 : T'.2.1 2 7 c = T.2.1 2 7 c := q4.1 2 7 c g27
    have gc : gdn T T' c := by
      refine ⟨fun _ q h5 h10 => ?_, fun ht => ?_⟩
      · have : q = 5 ∨ q = 6 ∨ q = 7 ∨ q = 8 ∨ q = 9 ∨ q = 10 := by omega
        rcases this with rfl | rfl | rfl | rfl | rfl | rfl
        · exact i5
        · exact i6
        · exact i7
        · exact q8
        · exact q9
        · exact q10
      · rw [s7.2.1.2.2.2.1 0 c (by omega)] at ht; exact absurd ht hs
    rw [h11, h11', h22, h22', q8]
    have b1 := bv.1
    have n9 := ti_dbl (a := σ.2.1 2 2 c) (by omega) (by omega)
    have n10 := ti_add (a := T.2.1 2 8 c) (b := 2 * σ.2.1 2 2 c) (by omega) (by omega)
    have n11 := ti_add (a := T.2.1 2 8 c + 2 * σ.2.1 2 2 c) (b := sty σ c 3) (by omega) (by omega)
    have n12 := ti_add (a := r') (b := T.2.1 2 8 c + 2 * σ.2.1 2 2 c + sty σ c 3) (by have := bv.1; omega) (by omega)
    have s8 := s7.I 1 1 u (v := r' + (T.2.1 2 8 c + 2 * σ.2.1 2 2 c + sty σ c 3)) rfl (by unfold exF; omega) (Or.inl rfl) (fun e => by omega) (fun e => by omega)
    have m8 := mn_I (σ := T) (σ' := T') (κ := 1) (q := 1) (i := u) (v := r' + (T.2.1 2 8 c + 2 * σ.2.1 2 2 c + sty σ c 3)) rfl
    have o11 : (pvI T 1 1 u (r' + (T.2.1 2 8 c + 2 * σ.2.1 2 2 c + sty σ c 3))).2.1 1 1 u = r' + (T.2.1 2 8 c + 2 * σ.2.1 2 2 c + sty σ c 3) := pvI_self _ _ _ _ _
    have fz8 : fz T (pvI T 1 1 u (r' + (T.2.1 2 8 c + 2 * σ.2.1 2 2 c + sty σ c 3))) := fz_I rfl (fun e => by omega)
    generalize pvI T 1 1 u (r' + (T.2.1 2 8 c + 2 * σ.2.1 2 2 c + sty σ c 3)) = V at *
    generalize pvI T' 1 1 u (r' + (T.2.1 2 8 c + 2 * σ.2.1 2 2 c + sty σ c 3)) = V' at *
    have s9 := s8.I 1 2 u (v := sty σ c 3) rfl (by unfold exF; omega) (Or.inl rfl) (fun e => by omega) (fun e => by omega)
    have m9 := m8.trans (mn_I (σ := V) (σ' := V') (κ := 1) (q := 2) (i := u) (v := sty σ c 3) rfl)
    have fz9 : fz T (pvI V 1 2 u (sty σ c 3)) := fz8.trans (fz_I rfl (fun e => by omega))
    refine rel_some ⟨⟨s9.1.mono (by omega), s9.2⟩, ⟨?_, ?_⟩, gc.mn fz9 m9, fun n an k hk => (qg n (s6.al an) k hk).mn fz9 m9⟩
    · rw [s9.2.1.1 2 6 u (by unfold exF; omega), pvI_at, if_neg (by omega), o11, n12, n11, n10, n9]
      have := bv.1
      omega
    · rw [pvI_self]; exact r3
  have e4 : E'.2.1 2 4 c = E.2.1 2 4 c := (s5.1.2.2.1.2.2 c (s5.al ac)).2.2.2.2
  have e10 : E'.2.1 1 0 u = E.2.1 1 0 u := s5.2.2.2.1 1 0 u a10
  have e30 : E'.2.1 3 0 c = E.2.1 3 0 c := dc_I s5.1.2.2.1.1 rfl 0 c
  rw [e4, e10, e30]
  exact rel_ite Iff.rfl (fun _ => s160 _) (fun _ => s160 _)
end BLOCK
