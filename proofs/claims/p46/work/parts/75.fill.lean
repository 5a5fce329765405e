/-! PURE: filling a box, in two runs -/
section FILL
variable {O : List Nat} {p : Nat → Option Nat} {H : Nat → Nat} {σ σ' : PvS} {Y : Int} {l : List (Nat × Nat)}
theorem S4.trans {u : Nat} {Y2 : Int} {l2 : List (Nat × Nat)} {ρ ρ' τ τ' : PvS} (s : S4 O p H u Y l σ σ' ρ ρ') (t : S4 O p H u Y2 l2 ρ ρ' τ τ') : S4 O p H u Y2 l2 σ σ' τ τ' :=
  ⟨t.1, s.2.1.trans t.2.1, s.2.2.1.trans t.2.2.1, s.2.2.2.trans t.2.2.2⟩
theorem S4.RH {u : Nat} {ρ ρ' : PvS} {r h : Int32} (s : S4 O p H u Y l σ σ' ρ ρ') (hr : 0 ≤ r.toInt ∧ r.toInt ≤ 200000) (hh : 0 ≤ h.toInt ∧ h.toInt ≤ 200000) (hq : sty ρ u 2 = -1 → r.toInt ≤ h.toInt) : S4 O p H u Y l σ σ' (pvI (pvI ρ 2 9 u r) 2 8 u h) (pvI (pvI ρ' 2 9 u r) 2 8 u h) := by
  have fI : ∀ ρ : PvS, fz ρ (pvI (pvI ρ 2 9 u r) 2 8 u h) := fun ρ => (fz_I rfl (fun _ => by omega)).trans (fz_I rfl (fun _ => by omega))
  have e1 : frF H u ρ (pvI (pvI ρ 2 9 u r) 2 8 u h) := (frF_I (by unfold exF; omega) (Or.inr ⟨rfl, by omega⟩)).trans (frF_I (by unfold exF; omega) (Or.inr ⟨rfl, by omega⟩))
  refine ⟨s.1.chg (fI _) (fI _) (fun κ2 q2 j z1 z2 => by rw [pvI_at, if_neg (by omega), pvI_at, if_neg (by omega)]) (fun κ2 q2 j z1 z2 => by rw [pvI_at, if_neg (by omega), pvI_at, if_neg (by omega)]) rfl rfl rfl rfl ?_, s.2.1.trans e1, s.2.2.1.trans (fI _), s.2.2.2.trans ((mn_I rfl).trans (mn_I rfl))⟩
  refine s.1.2.2.2.2.2.1.fz (fI _) (fun j => by rw [pvI_at, if_neg (by omega), pvI_at, if_neg (by omega)]) (fun q2 j => by rw [pvI_at, if_neg (by omega), pvI_at, if_neg (by omega)]) rfl (fun n a => ?_) (fun n a => ?_)
  · rw [pvI_at, if_neg (by omega), pvI_at, if_neg (by omega), pvI_at, if_neg (by omega), pvI_at, if_neg (by omega)]
    exact s.1.2.2.2.2.2.1.2.2.2.2.1 n a
  · by_cases e : n = u
    · subst e
      unfold VH
      rw [fz_sty (fI ρ), pvI_self, pvI_at, if_neg (by omega), pvI_self]
      exact ⟨hr, hh, hq⟩
    · exact (s.1.2.2.2.2.2.1.2.2.2.2.2 n a).same (fI _) (by rw [pvI_at, if_neg (by omega), pvI_at, if_neg (by omega)]) (by rw [pvI_at, if_neg (by omega), pvI_at, if_neg (by omega)])
def wag (ρ ρ' : PvS) (q : Nat × Nat) : Prop := ρ'.2.2.2.1 32 q.1 q.2 = ρ.2.2.2.1 32 q.1 q.2 ∧ ρ'.2.2.2.1 33 q.1 q.2 = ρ.2.2.2.1 33 q.1 q.2
def GN (p : Nat → Option Nat) (u : Nat) (σ ρ ρ' : PvS) (l : List (Nat × Nat)) (xs : List Nat) : Prop :=
  ∀ n ∈ xs, p n = some u → (isbx (ρ.2.1 2 0 n) → gdn ρ ρ' n ∧ ∀ m, alive σ m → ∀ k, itp p k m = some n → gdn ρ ρ' m) ∧ (ρ.2.1 2 0 n = 1 → ∀ j, j < (ρ.2.1 3 9 n).toInt.toNat → (n, j) ∈ l ∨ wag ρ ρ' (n, j))
theorem GN.mono {u : Nat} {ρ ρ' τ τ' : PvS} {l l2 : List (Nat × Nat)} {xs : List Nat} (g : GN p u σ ρ ρ' l xs) (f : fz ρ τ) (m : mn ρ ρ' τ τ') (h : ∀ q ∈ l, q ∈ l2 ∨ wag τ τ' q) : GN p u σ τ τ' l2 xs := by
  intro n hn e
  obtain ⟨g1, g2⟩ := g n hn e
  rw [f.2.2.1 0 n (Or.inl rfl), dc_I f.1 rfl]
  refine ⟨fun hb => ⟨(g1 hb).1.mn f m, fun m2 a k hk => ((g1 hb).2 m2 a k hk).mn f m⟩, fun ht j hj => ?_⟩
  rcases g2 ht j hj with q | q
  · exact h _ q
  · exact Or.inr ⟨m.2.2 _ _ _ q.1, m.2.2 _ _ _ q.2⟩
theorem GN.add {u n : Nat} {ρ ρ' : PvS} {l : List (Nat × Nat)} {xs : List Nat} (g : GN p u σ ρ ρ' l xs) (h : p n = some u → (isbx (ρ.2.1 2 0 n) → gdn ρ ρ' n ∧ ∀ m, alive σ m → ∀ k, itp p k m = some n → gdn ρ ρ' m) ∧ (ρ.2.1 2 0 n = 1 → ∀ j, j < (ρ.2.1 3 9 n).toInt.toNat → (n, j) ∈ l ∨ wag ρ ρ' (n, j))) : GN p u σ ρ ρ' l (xs ++ [n]) := by
  intro m hm e
  rcases List.mem_append.mp hm with q | q
  · exact g m q e
  · rw [List.mem_singleton] at q
    subst q
    exact h e
def LPs (O : List Nat) (p : Nat → Option Nat) (H : Nat → Nat) (u nr : Nat) (Y0 : Int) (σ σ' ρ ρ' : PvS) (xs : List Nat) : Prop :=
  ∃ (l : List (Nat × Nat)) (Yc : Int), S4 O p H u Yc l σ σ' ρ ρ' ∧ BV ρ u Yc ∧ Yc + 160 * (l.length : Int) ≤ Y0 + 3200 * (sumf (fun x => if p x = some u then cnt O p nr x else 0) xs : Int) ∧ l.length ≤ 20 * xs.length ∧ GN p u σ ρ ρ' l xs
theorem CM.add {ρ ρ' τ τ' : PvS} {l2 : List (Nat × Nat)} (c : CM O p H ρ ρ' Y l) (v : VW τ l2) (w : WTa τ τ' l2.length) (q : frQ ρ τ) (f : fz ρ τ) (f' : fz ρ' τ') (m : mn ρ ρ' τ τ') : CM O p H τ τ' Y l2 := by
  obtain ⟨c1, c2, c3, c4, c5, c6, c7, c8, c9, c10⟩ := c
  obtain ⟨d1, d2, d3, d4⟩ := CM.stf ⟨c1, c2, c3, c4, c5, c6, c7, c8, c9, c10⟩ f f'
  refine ⟨d1, d2, d3, d4, ⟨m.1 0 6 0 c5.1, fun κ hκ j hj => m.2.2 κ 0 j (c5.2 κ hκ j (by rw [← q.1 0 6 0 (by decide)]; exact hj))⟩, ⟨?_, fun n j => by rw [q.2.2 32 n j (by omega)]; exact c6.2.1 n j, by rw [q.1 4 4 0 (by decide)]; exact c6.2.2.1, by rw [q.1 4 5 0 (by decide)]; exact c6.2.2.2.1, fun n a => by rw [q.1 2 5 n (by decide), q.1 2 7 n (by decide)]; exact c6.2.2.2.2.1 n ((fz_alive f).mp a), fun n a => (c6.2.2.2.2.2 n ((fz_alive f).mp a)).same f (q.1 2 9 n (by decide)) (q.1 2 8 n (by decide))⟩, v, w, m.1 4 4 0 c9, m.1 4 5 0 c10⟩
  refine ⟨by rw [q.1 0 6 0 (by decide)]; exact c6.1.1, fun j hj => ?_⟩
  rw [q.1 0 6 0 (by decide)] at hj
  rw [q.2.2 22 0 j (by omega), q.2.2 23 0 j (by omega), q.2.2 24 0 j (by omega), q.2.2 25 0 j (by omega)]
  exact c6.1.2 j hj
theorem r_flow {kf : PvS → Nat → Int32 → Option PvS} {nr : Nat} (F : FSp kf O p H nr) {Y0 : Int} (cm : CM O p H σ σ' Y0 []) (hws : wsh σ σ') {u : Nat} (au : alive σ u) (hd : 11 ≤ nr + (1 + H u)) (ba : BA σ σ' u) (hb : Y0 + 3200 * (sumf (fun x => if p x = some u then cnt O p nr x else 0) O : Int) ≤ 96800) : ∀ (ys xs : List Nat) (m : Nat) (ρ ρ' : PvS), O = xs ++ ys → ys.length < m → LPs O p H u nr Y0 σ σ' ρ ρ' xs → rel (f_X4_putFlow_10 kf m ρ u (nI (H u)) (nI xs.length)) (f_X4_putFlow_10 kf m ρ' u (nI (H u)) (nI xs.length)) (fun τ τ' => LPs O p H u nr Y0 σ σ' τ τ' O) := by
  have hn15 := cm.1.f.t.n
  have hlen := cm.1.f.t.len
  rw [cm.2.2.2.1.1] at hlen
  intro ys
  induction ys with
  | nil =>
    intro xs m ρ ρ' hO hm lp
    obtain ⟨m, rfl⟩ : ∃ q, m = q + 1 := ⟨m - 1, by omega⟩
    rw [List.append_nil] at hO
    obtain ⟨l, Yc, s, r⟩ := lp
    have oρ : ρ.2.2.2.2 1 = O := s.1.2.2.2.1.1
    have oρ' : ρ'.2.2.2.2 1 = O := by rw [dc_L s.1.2.2.1.1]; exact oρ
    have c : nI O.length ≤ nI xs.length := by rw [hO]; exact nI_le (Nat.le_refl _) (s31 (by rw [← hO]; omega))
    rw [f_X4_putFlow_10_s, f_X4_putFlow_10_s, oρ, oρ']
    refine rel_itp c c (rel_some ?_)
    rw [← hO] at r
    exact ⟨l, Yc, s, r⟩
  | cons n ys ih =>
    intro xs m ρ ρ' hO hm lp
    obtain ⟨m, rfl⟩ : ∃ q, m = q + 1 := ⟨m - 1, by omega⟩
    obtain ⟨l, Yc, s, bv, bud, hl, gn⟩ := lp
    have oρ : ρ.2.2.2.2 1 = O := s.1.2.2.2.1.1
    have oρ' : ρ'.2.2.2.2 1 = O := by rw [dc_L s.1.2.2.1.1]; exact oρ
    have hat := stepN hO rfl
    have hxs := at_lt hat
    have an : alive σ n := by show n ∈ σ.2.2.2.2 1; rw [cm.2.2.2.1.1]; exact List.mem_of_getElem? hat
    have anρ := s.al an
    have auρ := s.al au
    have baρ := ba.mn s.2.2.2
    have nxt := fun ρ ρ' => ih (xs ++ [n]) m ρ ρ' (by rw [hO, List.append_assoc]; rfl) (by simp only [List.length_cons] at hm; omega)
    rw [List.length_append] at nxt
    have bO : sumf (fun x => if p x = some u then cnt O p nr x else 0) O = sumf (fun x => if p x = some u then cnt O p nr x else 0) xs + ((if p n = some u then cnt O p nr n else 0) + sumf (fun x => if p x = some u then cnt O p nr x else 0) ys) := by
      conv => lhs; arg 2; rw [hO]
      rw [sumf_app]; rfl
    have bX : sumf (fun x => if p x = some u then cnt O p nr x else 0) (xs ++ [n]) = sumf (fun x => if p x = some u then cnt O p nr x else 0) xs + (if p n = some u then cnt O p nr n else 0) := by
      rw [sumf_app]; rfl
    have lX : (xs ++ [n]).length = xs.length + 1 := by rw [List.length_append]; rfl
    rw [f_X4_putFlow_10_s, f_X4_putFlow_10_s, oρ, oρ', if_neg (nI_ge hxs (s31 (by omega))), if_neg (nI_ge hxs (s31 (by omega))), gd_t (vin_n hxs (s31 (by omega))), gd_t (vin_n hxs (s31 (by omega))), nm_t, nm_t, nI_clamp (s31 (by omega)), getD_at hat, nm_t, nm_t]
    have eh : ρ.2.2.1 2 1 n = p n := s.1.2.2.2.1.2.1 n
    have eh' : ρ'.2.2.1 2 1 n = p n := ((s.1.2.2.1.2.2 n anρ).2.1).trans eh
    have e0 : ρ'.2.1 2 0 n = ρ.2.1 2 0 n := (s.1.2.2.1.2.2 n anρ).1
    rw [eh, eh', e0]
    have skip : (p n = some u → ρ.2.1 2 0 n ≠ 1 ∧ ¬ isbx (ρ.2.1 2 0 n)) → rel (f_X4_putFlow_10 kf m ρ u (nI (H u)) (nI xs.length + 1)) (f_X4_putFlow_10 kf m ρ' u (nI (H u)) (nI xs.length + 1)) (fun τ τ' => LPs O p H u nr Y0 σ σ' τ τ' O) := fun hh => by
      rw [nI_1]
      refine nxt ρ ρ' ⟨l, Yc, s, bv, by rw [bX]; omega, by omega, gn.add (fun e => ⟨fun hb => absurd hb (hh e).2, fun ht => absurd ht (hh e).1⟩)⟩
    refine rel_ite Iff.rfl (fun pn => ?_) (fun pn => ?_)
    · have hsn := cm.hs an pn
      have hcn : 1 ≤ cnt O p nr n := by
        obtain ⟨nr, rfl⟩ : ∃ q, nr = q + 1 := ⟨nr - 1, by omega⟩
        show 1 ≤ 1 + _
        omega
      rw [if_pos pn] at bO bX
      unfold f_X4_putFlow_54
      have eH : nI (H u) + 1 = nI (H n) := by rw [nI_1, hsn.1]
      rw [eH]
      have pl := r_putLinesC s.1 auρ baρ bv (by omega)
      refine rel_ite Iff.rfl (fun c1 => ?_) (fun c1 => rel_ite Iff.rfl (fun c3 => ?_) (fun c3 => rel_ite Iff.rfl (fun c4 => ?_) (fun c4 => ?_)))
      · -- text
        have w20 := (s.1.1.f.w n (s.1.1.f.t.alive_lt anρ)).1
        have r9 : 1 ≤ (sty ρ n 9).toInt ∧ (sty ρ n 9).toInt ≤ 12 := s.1.1.s anρ (p := 9) (by decide)
        have so := (show S4 O p H u Yc l ρ ρ' ρ ρ' from ⟨s.1, frF.refl, fz.refl, mn.refl⟩).of anρ (q := 9) (by decide)
        rw [ob1_t (show f_X6_of ρ 0 n 9 = _ from so.1), ob1_t (show f_X6_of ρ' 0 n 9 = _ from so.2)]
        refine rel_ob1 (r_add (n := n) (f := sty ρ n 9) (by omega) s.1.1.f s.1.2.2.1.1 anρ s.1.2.2.2.2.2.2.1 s.1.2.2.2.2.2.2.2.1 (by omega)) (fun τ τ' q => ?_)
        obtain ⟨q1, q2, q3, q4, q5, q6⟩ := q
        rw [nI_1]
        have ll : (l ++ (List.range' 0 (ρ.2.1 3 9 n).toInt.toNat).map (fun j => (n, j))).length = l.length + (ρ.2.1 3 9 n).toInt.toNat := by rw [List.length_append, List.length_map, List.length_range']
        refine nxt τ τ' ⟨l ++ (List.range' 0 (ρ.2.1 3 9 n).toInt.toNat).map (fun j => (n, j)), Yc, s.trans ⟨s.1.add q1 (by rw [ll]; exact q2) q3 q4 q5 q6, ⟨fun κ q i z => q3.1 κ q i (fun e => z (by unfold exF; omega)), q4⟩, q5, q6⟩, ?_, ?_, ?_, ?_⟩
        · unfold BV; rw [q3.1 2 6 u (by decide), q3.1 1 1 u (by decide), q3.1 1 2 u (by decide)]; exact bv
        · rw [ll, bX]; omega
        · rw [ll, lX]; omega
        · refine (gn.mono q4 q6 (fun q hq => Or.inl (List.mem_append_left _ hq))).add (fun e => ⟨fun hb => ?_, fun ht j hj => Or.inl ?_⟩)
          · rw [q4.2.2.1 0 n (Or.inl rfl), c1] at hb; exact absurd hb (by decide)
          · rw [dc_I q4.1 rfl] at hj
            refine List.mem_append_right _ (List.mem_map.mpr ⟨j, ?_, rfl⟩)
            rw [List.mem_range'_1]
            omega
      · -- block
        refine rel_ob1 pl (fun T T' q => ?_)
        obtain ⟨t1, t2, t3⟩ := q
        have st := s.trans t1
        have e2 : T.2.1 2 0 n = 3 := by rw [t1.2.1.2.2.2.1 0 n (Or.inl rfl)]; exact c3
        refine rel_ob1 (r_putBlock F t1.1 (hws.mn st.2.1.2 st.2.2.2) (st.al an) pn (by omega) (ba.mn st.2.2.2) t2 (by omega) (by rw [e2]; decide)) (fun V V' q => ?_)
        obtain ⟨v1, v2, v3, v4⟩ := q
        rw [nI_1]
        refine nxt V V' ⟨[], _, st.trans v1, v2, by rw [bX]; show _ + 160 * (0 : Int) ≤ _; omega, Nat.zero_le _, ?_⟩
        refine (gn.mono (t1.2.1.2.trans v1.2.1.2) (t1.2.2.2.trans v1.2.2.2) (fun q hq => Or.inr ⟨v1.2.2.2.2.2 _ _ _ (t3 q hq).1, v1.2.2.2.2.2 _ _ _ (t3 q hq).2⟩)).add (fun e => ⟨fun hb => ⟨v3, fun m2 a k hk => v4 m2 (st.al a) k hk⟩, fun ht => ?_⟩)
        rw [v1.2.1.2.2.2.1 0 n (Or.inl rfl), e2] at ht
        exact absurd ht (by decide)
      · -- float
        refine rel_ob1 pl (fun T T' q => ?_)
        obtain ⟨t1, t2, t3⟩ := q
        have st := s.trans t1
        have e2 : T.2.1 2 0 n = 4 := by rw [t1.2.1.2.2.2.1 0 n (Or.inl rfl)]; exact c4
        refine rel_ob1 (r_putFloat F t1.1 (hws.mn st.2.1.2 st.2.2.2) (st.al an) pn (by omega) (ba.mn st.2.2.2) t2 (by omega) (by rw [e2]; decide)) (fun V V' q => ?_)
        obtain ⟨v1, v2, v3, v4⟩ := q
        rw [nI_1]
        refine nxt V V' ⟨[], _, st.trans v1, v2, by rw [bX]; show _ + 160 * (0 : Int) ≤ _; omega, Nat.zero_le _, ?_⟩
        refine (gn.mono (t1.2.1.2.trans v1.2.1.2) (t1.2.2.2.trans v1.2.2.2) (fun q hq => Or.inr ⟨v1.2.2.2.2.2 _ _ _ (t3 q hq).1, v1.2.2.2.2.2 _ _ _ (t3 q hq).2⟩)).add (fun e => ⟨fun hb => ⟨v3, fun m2 a k hk => v4 m2 (st.al a) k hk⟩, fun ht => ?_⟩)
        rw [v1.2.1.2.2.2.1 0 n (Or.inl rfl), e2] at ht
        exact absurd ht (by decide)
      · exact skip (fun _ => ⟨c1, fun hb => hb.elim c3 c4⟩)
    · unfold f_X4_putFlow_54
      refine rel_itn (by decide) (by decide) (rel_itn (by decide) (by decide) (rel_itn (by decide) (by decide) (skip (fun e => absurd e pn))))
theorem itp_box (cm : CM O p H σ σ' Y l) : ∀ {k n c : Nat}, alive σ n → itp p k n = some c → alive σ c ∧ isbx (σ.2.1 2 0 c) := by
  intro k
  induction k with
  | zero => intro n c a e; exact hm_alive cm.1 a ((cm.2.2.2.1.2.1 n).trans e)
  | succ k ih =>
    intro n c a e
    cases z : p n with
    | none => unfold itp at e; rw [z] at e; cases e
    | some b => unfold itp at e; rw [z] at e; exact ih (hm_alive cm.1 a ((cm.2.2.2.1.2.1 n).trans z)).1 e
theorem r_fill : ∀ nr, FSp (f_X4_fill nr) O p H nr := by
  intro nr
  induction nr with
  | zero =>
    intro σ σ' u Y cm hws au hd
    have := hl_le cm.1 au
    rw [cm.2.2.2.1.2.2] at this
    omega
  | succ nr ih =>
    intro σ σ' u Y cm hws au hd e10 e25 e26 e27 hb hY
    have hH : H u ≤ 10 := by
      have := hl_le cm.1 au
      rw [cm.2.2.2.1.2.2] at this
      exact this
    have ec : cnt O p (nr + 1) u = 1 + sumf (fun x => if p x = some u then cnt O p nr x else 0) O := by
      show 1 + sumf (cnt O p nr) (O.filter (fun n => decide (p n = some u))) = _
      rw [sumf_fil]
      simp only [decide_eq_true_eq]
    rw [ec] at hY
    have s0 : S4 O p H u Y [] σ σ' σ σ' := ⟨cm, frF.refl, fz.refl, mn.refl⟩
    rw [f_X4_fill_s, f_X4_fill_s, nm_t, nm_t, nm_t, nm_t, nm_t, nm_t, e26]
    have s1 := s0.I 1 1 u (v := σ.2.1 2 6 u) rfl (by unfold exF; omega) (Or.inl rfl) (fun e => by omega) (fun e => by omega)
    have s2 := s1.I 1 2 u (v := 0) rfl (by unfold exF; omega) (Or.inl rfl) (fun e => by omega) (fun e => by omega)
    have s3 := s2.I 2 10 u (v := 0) rfl (by unfold exF; omega) (Or.inr ⟨rfl, by omega⟩) (fun _ e => by omega) (fun _ e => by omega)
    have ba : BA (pvI (pvI (pvI σ 1 1 u (σ.2.1 2 6 u)) 1 2 u 0) 2 10 u 0) (pvI (pvI (pvI σ' 1 1 u (σ.2.1 2 6 u)) 1 2 u 0) 2 10 u 0) u := by
      refine ⟨s3.2.2.2.1 _ _ _ e10, ?_, ?_, s3.2.2.2.1 _ _ _ e25, s3.2.2.2.1 _ _ _ e26, s3.2.2.2.1 _ _ _ e27, by rw [pvI_self, pvI_self]⟩
      · rw [pvI_at, if_neg (by omega), pvI_at, if_neg (by omega), pvI_self, pvI_at, if_neg (by omega), pvI_at, if_neg (by omega), pvI_self]
      · rw [pvI_at, if_neg (by omega), pvI_self, pvI_at, if_neg (by omega), pvI_self]
    have bv : BV (pvI (pvI (pvI σ 1 1 u (σ.2.1 2 6 u)) 1 2 u 0) 2 10 u 0) u Y := by
      unfold BV
      rw [s3.2.1.1 2 6 u (by unfold exF; omega), pvI_at, if_neg (by omega), pvI_at, if_neg (by omega), pvI_self, pvI_at, if_neg (by omega), pvI_self, show (0 : Int32).toInt = 0 from rfl]
      omega
    generalize pvI (pvI (pvI σ 1 1 u (σ.2.1 2 6 u)) 1 2 u 0) 2 10 u 0 = G at *
    generalize pvI (pvI (pvI σ' 1 1 u (σ.2.1 2 6 u)) 1 2 u 0) 2 10 u 0 = G' at *
    clear s1 s2
    have hlen := cm.1.f.t.len
    have hn15 := cm.1.f.t.n
    rw [cm.2.2.2.1.1] at hlen
    have fl := r_flow ih s3.1 (hws.mn s3.2.1.2 s3.2.2.2) (s3.al au) (by omega) ba (by omega) O [] fu G G' rfl (by unfold fu; omega) ⟨[], Y, ⟨s3.1, frF.refl, fz.refl, mn.refl⟩, bv, by show Y + 160 * (0 : Int) ≤ Y + 3200 * ((0 : Nat) : Int); omega, Nat.zero_le _, fun n hn => nomatch hn⟩
    have x10 : nI (H u) ≤ 10 := nI_le (b := 10) hH (by decide)
    unfold f_X4_putFlow
    rw [if_pos x10, if_pos x10]
    refine rel_ob1 fl (fun T T' q => ?_)
    obtain ⟨l, Yc, t1, t2, t3, t4, t5⟩ := q
    have st := s3.trans t1
    refine rel_ob1 (r_putLinesC t1.1 (st.al au) (ba.mn t1.2.2.2) t2 (by omega)) (fun V V' q => ?_)
    obtain ⟨v1, v2, v3⟩ := q
    have sv := st.trans v1
    have gv : GN p u σ V V' [] O := by
      have := t5.mono v1.2.1.2 v1.2.2.2 (l2 := []) (fun q hq => Or.inr (v3 q hq))
      exact fun n hn e => ⟨fun hb => ⟨((this n hn e).1 hb).1, fun m a k hk => ((this n hn e).1 hb).2 m (s3.al a) k hk⟩, (this n hn e).2⟩
    have bav := ba.mn (t1.2.2.2.trans v1.2.2.2)
    -- what is left
    have s83 : ∀ x : Int32, ((σ.2.1 2 6 u).toInt ≤ x.toInt ∧ x.toInt ≤ Yc + 160 * l.length) → rel (f_X4_fill_83 (f_X4_fill nr) V u u x) (f_X4_fill_83 (f_X4_fill nr) V' u u x) (FP O p H (nr + 1) u Y σ σ') := fun x hx => by
      unfold f_X4_fill_83
      have k26 : V.2.1 2 6 u = σ.2.1 2 6 u := sv.2.1.1 2 6 u (by unfold exF; omega)
      have k26' : V'.2.1 2 6 u = σ.2.1 2 6 u := bav.2.2.2.2.1.trans k26
      rw [k26, k26']
      refine rel_nm ?_
      have n1 := ti_sub (a := x) (b := σ.2.1 2 6 u) (by omega) (by omega)
      have m1 := mn_I (σ := V) (σ' := V') (κ := 2) (q := 9) (i := u) (v := x - σ.2.1 2 6 u) rfl
      have z1 : fz V (pvI V 2 9 u (x - σ.2.1 2 6 u)) := fz_I rfl (fun _ => by omega)
      have z1' : fz V' (pvI V' 2 9 u (x - σ.2.1 2 6 u)) := fz_I rfl (fun _ => by omega)
      have y10 := m1.1 2 10 u bav.2.2.2.2.2.2
      have y9 : (pvI V 2 9 u (x - σ.2.1 2 6 u)).2.1 2 9 u = x - σ.2.1 2 6 u := pvI_self _ _ _ _ _
      have y9' : (pvI V' 2 9 u (x - σ.2.1 2 6 u)).2.1 2 9 u = x - σ.2.1 2 6 u := pvI_self _ _ _ _ _
      have rh := fun h h1 h2 h3 => sv.RH (u := u) (r := x - σ.2.1 2 6 u) (h := h) h1 h2 h3
      obtain ⟨k1, k2, k3, -⟩ := sv.1.stf z1 z1'
      generalize pvI V 2 9 u (x - σ.2.1 2 6 u) = W at *
      generalize pvI V' 2 9 u (x - σ.2.1 2 6 u) = W' at *
      have aW : alive W u := (fz_alive z1).mpr (sv.al au)
      have aW' : alive W' u := (fz_alive z1').mpr (sv.al' au)
      rw [ob1_t (show f_X6_of W 0 u 2 = _ from f_ofS k1.f.t aW (p := 2) (by decide)), ob1_t (show f_X6_of W' 0 u 2 = _ from f_ofS k2.f.t aW' (p := 2) (by decide)), k3.2.1 u aW 2 (by decide), y9, y9']
      have r2 : -1 ≤ (sty W u 2).toInt ∧ (sty W u 2).toInt ≤ 59 := k1.s aW (p := 2) (by decide)
      have fin : ∀ h : Int32, (0 ≤ h.toInt ∧ h.toInt ≤ max 59 (x.toInt - (σ.2.1 2 6 u).toInt)) → (sty W u 2 = -1 → x.toInt - (σ.2.1 2 6 u).toInt ≤ h.toInt) → rel (nm (pvI W 2 8 u h) (fun σ9 => some σ9)) (nm (pvI W' 2 8 u h) (fun σ9 => some σ9)) (FP O p H (nr + 1) u Y σ σ') := fun h hh hq => by
        have w2 := rh h (by omega) (by omega) (by rw [n1, ← fz_sty z1]; exact hq)
        have m2 := mn_I (σ := W) (σ' := W') (κ := 2) (q := 8) (i := u) (v := h) rfl
        have z2 : fz W (pvI W 2 8 u h) := fz_I rfl (fun _ => by omega)
        refine rel_some ⟨w2.1.mono (by rw [ec]; omega), w2.2.1, w2.2.2.1, w2.2.2.2, ⟨by rw [pvI_self, pvI_self], m2.1 2 9 u (by rw [y9, y9']), m2.1 2 10 u y10⟩, ?_, fun n an k hk => ?_⟩
        · rw [pvI_self, ec]; omega
        · have gnn : gdn V V' n := by
            have inO : ∀ c, alive σ c → c ∈ O := fun c a => by rw [← cm.2.2.2.1.1]; exact a
            cases k with
            | zero =>
              have := gv n (inO n an) hk
              exact ⟨fun hb => (this.1 hb).1.1 hb, fun ht j hj => (this.2 ht j hj).elim (fun q => nomatch q) id⟩
            | succ k =>
              obtain ⟨c, c1, c2⟩ := itp_top hk
              obtain ⟨ac, bc⟩ := itp_box cm an c2
              exact ((gv c (inO c ac) c1).1 (by rw [sv.2.1.2.2.2.1 0 c (Or.inl rfl)]; exact bc)).2 n an k c2
          exact gnn.mn (z1.trans z2) (m1.trans m2)
      refine rel_ite Iff.rfl (fun _ => fin _ (by rw [n1]; omega) (fun _ => by rw [n1]; exact Int.le_refl _)) (fun hn => fin _ ?_ (fun e => absurd e hn))
      have : (sty W u 2).toInt ≠ -1 := fun e => hn (Int32.toInt_inj.mp e)
      omega
    have e30 : V'.2.1 3 0 u = V.2.1 3 0 u := dc_I sv.1.2.2.1.1 rfl 0 u
    have k26 : V.2.1 2 6 u = σ.2.1 2 6 u := sv.2.1.1 2 6 u (by unfold exF; omega)
    have v21 := v2.1
    rw [k26] at v21
    rw [bav.1, e30, bav.2.1]
    refine rel_ite Iff.rfl (fun _ => ?_) (fun _ => s83 _ (by omega))
    refine rel_ob1 (r_belowBottoms v1.1.2.2.2.2.2.1.1 v1.1.2.2.2.2.1 (V.2.1 3 0 u) 3 (V.2.1 1 1 u)) (fun r r' q => ?_)
    obtain ⟨rfl, q2, q3⟩ := q
    exact s83 _ (by omega)
end FILL
