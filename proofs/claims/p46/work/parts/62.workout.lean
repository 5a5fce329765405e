/-! PURE: all styles are worked out -/
def frS (k : Nat) (σ τ : PvS) : Prop := τ.1 = σ.1 ∧ (∀ κ q i, ¬ (κ = 6 ∧ q = 2 ∧ i = k) → τ.2.1 κ q i = σ.2.1 κ q i) ∧ τ.2.2.1 = σ.2.2.1 ∧ (∀ κ i j, ¬ ((κ = 36 ∨ κ = 37) ∧ 40 * k ≤ i ∧ i < 40 * k + 40) → τ.2.2.2.1 κ i j = σ.2.2.2.1 κ i j) ∧ τ.2.2.2.2 = σ.2.2.2.2
theorem frS.refl {k : Nat} {σ : PvS} : frS k σ σ := ⟨rfl, fun _ _ _ _ => rfl, rfl, fun _ _ _ _ => rfl, rfl⟩
theorem frS.trans {k : Nat} {σ τ ρ : PvS} (h : frS k σ τ) (g : frS k τ ρ) : frS k σ ρ :=
  ⟨g.1.trans h.1, fun κ q i z => (g.2.1 κ q i z).trans (h.2.1 κ q i z), g.2.2.1.trans h.2.2.1, fun κ i j z => (g.2.2.2.1 κ i j z).trans (h.2.2.2.1 κ i j z), g.2.2.2.2.trans h.2.2.2.2⟩
theorem frS.dc {k : Nat} {σ τ : PvS} (h : frS k σ τ) : dc τ = dc σ :=
  dc_eq h.1 (fun κ q i e => h.2.1 κ q i (fun z => by rw [z.1] at e; cases e)) (fun _ _ => by rw [h.2.2.1]) (fun κ i j e => h.2.2.2.1 κ i j (fun z => by rcases z.1 with q | q <;> (rw [q] at e; cases e))) h.2.2.2.2
def pvv (σ : PvS) (k n p : Nat) : Int32 := match par σ n with | none => 0 | some u => σ.2.2.2.1 36 (40 * k + u) p
theorem f_settle2 {σ : PvS} {k n p : Nat} {t : Int32} (hr : WFr σ) (hn : σ.2.1 3 0 n = nI n) (h40 : n < 40) (hp : p < 14) (hpar : ∀ u, par σ n = some u → σ.2.1 3 0 u = nI u ∧ u < 40) (hf : σ.2.2.2.1 37 (40 * k + n) p = frf σ t n (σ.1 1) p) : f_X6_settle σ k n (nI p) = some (put2 σ (40 * k + n) p (stv σ t n p (pvv σ k n p)) (str σ t n p)) := f_settle hr hn h40 hp hpar hf
def Sty (k : Nat) (t : Int32) (d σ : PvS) (xs : List Nat) : Prop := ∀ n ∈ xs, ∀ p, p < 14 → σ.2.2.2.1 36 (40 * k + n) p = stv d t n p (pvv σ k n p) ∧ σ.2.2.2.1 37 (40 * k + n) p = str d t n p
def rw2 (σ : PvS) (R : Nat) (f g : Nat → Int32) : PvS := row (row σ 37 R g) 36 R f
theorem rw2_36 (σ : PvS) {R p : Nat} (f g : Nat → Int32) (hp : p < 14) : (rw2 σ R f g).2.2.2.1 36 R p = f p := row_at _ _ _ _ hp
theorem rw2_37 (σ : PvS) {R p : Nat} (f g : Nat → Int32) (hp : p < 14) : (rw2 σ R f g).2.2.2.1 37 R p = g p := (row_ne _ _ _ _ (fun q => absurd q.1 (by decide))).trans (row_at _ _ _ _ hp)
theorem rw2_ne (σ : PvS) {R : Nat} (f g : Nat → Int32) {κ i j : Nat} (h : i ≠ R) : (rw2 σ R f g).2.2.2.1 κ i j = σ.2.2.2.1 κ i j := (row_ne _ _ _ _ (fun q => h q.2)).trans (row_ne _ _ _ _ (fun q => h q.2))
theorem rw2_ne2 (σ : PvS) {R : Nat} (f g : Nat → Int32) {κ i j : Nat} (h : κ ≠ 36) (h' : κ ≠ 37) : (rw2 σ R f g).2.2.2.1 κ i j = σ.2.2.2.1 κ i j := (row_ne _ _ _ _ (fun q => h q.1)).trans (row_ne _ _ _ _ (fun q => h' q.1))
theorem rw2_congr {σ : PvS} {R : Nat} {f g f' g' : Nat → Int32} (h : ∀ j, j < 14 → f j = f' j) (h' : ∀ j, j < 14 → g j = g' j) : rw2 σ R f g = rw2 σ R f' g' := by unfold rw2; rw [row_congr h', row_congr h]
theorem row_comm {σ : PvS} {R p : Nat} {f : Nat → Int32} {v : Int32} : pvA (row σ 36 R f) 37 R p v = row (pvA σ 37 R p v) 36 R f := by
  unfold pvA row up3
  refine congrArg (fun z => (σ.1, σ.2.1, σ.2.2.1, z, σ.2.2.2.2)) ?_
  funext x y z
  by_cases q : x = 36
  · have : x ≠ 37 := by omega
    simp only [if_neg (show ¬ (x = 37 ∧ y = R ∧ z = p) from fun w => this w.1)]
  · simp only [if_neg (show ¬ (x = 36 ∧ y = R ∧ z < 14) from fun w => q w.1)]
theorem rw2_put {σ : PvS} {R p : Nat} {f g : Nat → Int32} {v r : Int32} (hp : p < 14) : put2 (rw2 σ R f g) R p v r = rw2 σ R (fun j => if j = p then v else f j) (fun j => if j = p then r else g j) := by
  unfold put2 rw2
  rw [row_set hp, row_comm, row_set hp]
theorem frS_rw2 {k : Nat} {σ : PvS} {n : Nat} {f g : Nat → Int32} (hn : n < 40) : frS k σ (rw2 σ (40 * k + n) f g) :=
  ⟨rfl, fun _ _ _ _ => rfl, rfl, fun κ i j z => by
    by_cases q : i = 40 * k + n
    · exact rw2_ne2 σ f g (fun e => z ⟨Or.inl e, by omega, by omega⟩) (fun e => z ⟨Or.inr e, by omega, by omega⟩)
    · exact rw2_ne σ f g q, rfl⟩
theorem f_work {σ : PvS} (h : WF σ) (k : Nat) (t : Int32) : ∃ τ, f_X6_workOut σ k t = some τ ∧ frS k σ τ ∧ τ.2.1 6 2 k = 1 ∧ Sty k t (dc σ) τ (σ.2.2.2.2 1) := by
  have hn15 := h.t.n
  have hlen := h.t.len
  have key : ∀ (ys xs : List Nat) (m : Nat) (ρ : PvS), σ.2.2.2.2 1 = xs ++ ys → ys.length < m → frS k σ ρ → Sty k t (dc σ) ρ xs → ∃ τ, f_X6_workOut_3 m ρ k t (nI xs.length) = some τ ∧ frS k σ τ ∧ τ.2.1 6 2 k = 1 ∧ Sty k t (dc σ) τ (σ.2.2.2.2 1) := by
    intro ys
    induction ys with
    | nil =>
      intro xs m ρ hO hm hf hs
      obtain ⟨m, rfl⟩ : ∃ q, m = q + 1 := ⟨m - 1, by omega⟩
      rw [List.append_nil] at hO
      refine ⟨pvI ρ 6 2 k 1, ?_, ?_, ?_, ?_⟩
      · show (if nI (ρ.2.2.2.2 1).length ≤ nI xs.length then nm (pvI ρ 6 2 k 1) (fun σ10 => some σ10) else _) = _
        rw [hf.2.2.2.2, hO, if_pos (nI_le (Nat.le_refl _) (s31 (by rw [← hO]; omega)))]
        rfl
      · exact hf.trans ⟨rfl, fun κ q i z => by rw [pvI_at, if_neg z], rfl, fun _ _ _ _ => rfl, rfl⟩
      · rw [pvI_at, if_pos ⟨rfl, rfl, rfl⟩]
      · rw [hO]; exact hs
    | cons n ys ih =>
      intro xs m ρ hO hm hf hs
      obtain ⟨m, rfl⟩ : ∃ q, m = q + 1 := ⟨m - 1, by omega⟩
      have hρ := WF_dc h hf.dc
      have hat := stepN hO rfl
      have hxs := at_lt hat
      have hna : alive σ n := List.mem_of_getElem? hat
      have hn := h.t.alive_lt hna
      have n1 : ρ.1 0 = σ.1 0 := by rw [hf.1]
      have numρ : ∀ u, u < σ.1 0 → ρ.2.1 3 0 u = nI u := fun u hu => hρ.t.num (by rw [n1]; exact hu)
      have nod : (xs ++ n :: ys).Nodup := by rw [← hO]; exact h.t.nodup
      have nx : n ∉ xs := fun q => (List.nodup_append.mp nod).2.2 n q n List.mem_cons_self rfl
      have parρ : par ρ = par σ := dc_par hf.dc
      have hpar : ∀ u, par σ n = some u → u ∈ xs ∧ u ≠ n ∧ u < σ.1 0 := fun u e => by
        have := h.t.first hO e
        exact ⟨this, fun q => nx (by rw [← q]; exact this), (h.t.pa hn e).1⟩
      obtain ⟨S, hS⟩ : ∃ S : Nat → Int32, S = fun j => stv (dc σ) t n j (pvv ρ k n j) := ⟨_, rfl⟩
      obtain ⟨T, hT⟩ : ∃ T : Nat → Int32, T = fun j => str (dc σ) t n j := ⟨_, rfl⟩
      obtain ⟨FR, hFR⟩ : ∃ FR : Nat → Int32, FR = frf ρ t n (ρ.1 1) := ⟨_, rfl⟩
      -- property by property
      have inner : ∀ (d p q : Nat) (f g : Nat → Int32), p + d = 14 → d < q → (∀ j, j < p → f j = S j ∧ g j = T j) → (∀ j, p ≤ j → g j = FR j) → f_X6_workOut_43 (f_X6_workOut_3 m) q (rw2 ρ (40 * k + n) f g) k t (nI xs.length) n (nI p) = f_X6_workOut_3 m (rw2 ρ (40 * k + n) S T) k t (nI xs.length + 1) := by
        intro d
        induction d with
        | zero =>
          intro p q f g hp hq h1 h2
          obtain ⟨q, rfl⟩ : ∃ z, q = z + 1 := ⟨q - 1, by omega⟩
          show (if 14 ≤ nI p then f_X6_workOut_3 m _ k t (nI xs.length + 1) else _) = _
          rw [if_pos (show 14 ≤ nI p from nI_le (a := 14) (by omega) (s31 (by omega))), rw2_congr (fun j hj => (h1 j (by omega)).1) (fun j hj => (h1 j (by omega)).2)]
        | succ d ihd =>
          intro p q f g hp hq h1 h2
          obtain ⟨q, rfl⟩ : ∃ z, q = z + 1 := ⟨q - 1, by omega⟩
          generalize hρ2 : rw2 ρ (40 * k + n) f g = ρ2
          have fr2 : frS k ρ ρ2 := by rw [← hρ2]; exact frS_rw2 (by omega)
          have d2 : dc ρ2 = dc σ := fr2.dc.trans hf.dc
          have pe : pvv ρ2 k n p = pvv ρ k n p := by
            unfold pvv
            rw [dc_par d2, parρ]
            cases e : par σ n with
            | none => rfl
            | some u =>
              show ρ2.2.2.2.1 36 (40 * k + u) p = ρ.2.2.2.1 36 (40 * k + u) p
              rw [← hρ2]
              exact rw2_ne ρ f g (by have := (hpar u e).2.1; omega)
          have fs : f_X6_settle ρ2 k n (nI p) = some (put2 ρ2 (40 * k + n) p (S p) (T p)) := by
            have := f_settle2 (σ := ρ2) (k := k) (n := n) (p := p) (t := t) (WF_dc h d2).r (by rw [dc_I d2 rfl]; exact h.t.num hn) (by omega) (by omega) (fun u e => by
              rw [dc_par d2] at e
              have := (hpar u e).2.2
              exact ⟨by rw [dc_I d2 rfl]; exact h.t.num this, by omega⟩) (by
              rw [show ρ2.2.2.2.1 37 (40 * k + n) p = g p from by rw [← hρ2]; exact rw2_37 ρ f g (by omega), h2 p (Nat.le_refl _), hFR, ← frf_dc ρ, ← frf_dc ρ2, fr2.dc, show ρ2.1 = ρ.1 from fr2.1])
            rw [pe] at this
            rw [this, ← stv_dc ρ2, ← str_dc ρ2, d2, hS, hT]
          show (if 14 ≤ nI p then _ else ob1 (f_X6_settle ρ2 k n (nI p)) (fun σ3 => f_X6_workOut_43 (f_X6_workOut_3 m) q σ3 k t (nI xs.length) n (nI p + 1))) = _
          rw [if_neg (show ¬ 14 ≤ nI p from nI_ge (b := 14) (by omega) (by decide)), ob1_t fs, ← hρ2, rw2_put (by omega), nI_1]
          refine ihd (p + 1) q _ _ (by omega) (by omega) (fun j hj => ?_) (fun j hj => ?_)
          · by_cases e : j = p
            · rw [if_pos e, if_pos e, e]; exact ⟨rfl, rfl⟩
            · rw [if_neg e, if_neg e]; exact h1 j (by omega)
          · rw [if_neg (by omega)]; exact h2 j (by omega)
      have fr3 : frS k ρ (rw2 ρ (40 * k + n) S T) := frS_rw2 (by omega)
      have st3 : Sty k t (dc σ) (rw2 ρ (40 * k + n) S T) (xs ++ [n]) := by
        intro v hv p hp
        have pvs : ∀ v, v ∈ xs ∨ v = n → pvv (rw2 ρ (40 * k + n) S T) k v p = pvv ρ k v p := fun v hv => by
          unfold pvv
          rw [dc_par fr3.dc, parρ]
          cases e : par σ v with
          | none => rfl
          | some u =>
            have : u ≠ n := by
              rcases hv with hv | hv
              · intro z
                obtain ⟨as, bs, rfl⟩ := List.append_of_mem hv
                have := h.t.first (xs := as) (ys := bs ++ n :: ys) (by rw [hO, List.append_assoc]; rfl) e
                exact nx (by rw [← z]; exact List.mem_append_left _ this)
              · subst hv; exact (hpar u e).2.1
            exact rw2_ne ρ S T (by omega)
        rcases List.mem_append.mp hv with hv | hv
        · have hvn : v ≠ n := fun q => nx (by rw [← q]; exact hv)
          rw [rw2_ne ρ S T (by omega), rw2_ne ρ S T (by omega), pvs v (Or.inl hv)]
          exact hs v hv p hp
        · have hv := List.mem_singleton.mp hv
          subst hv
          rw [rw2_36 ρ S T hp, rw2_37 ρ S T hp, pvs v (Or.inr rfl), hS, hT]
          exact ⟨rfl, rfl⟩
      obtain ⟨τ, e1, e2⟩ := ih (xs ++ [n]) m (rw2 ρ (40 * k + n) S T) (by rw [hO, List.append_assoc]; rfl) (by simp only [List.length_cons] at hm; omega) (hf.trans fr3) st3
      refine ⟨τ, ?_, e2⟩
      have kept : f_X6_isKept ρ n 0 = some 1 := by
        unfold f_X6_isKept
        rw [numρ n hn, if_neg (nI_pos (s31 (by omega))), if_neg (show ¬ 40 ≤ nI n from nI_ge (b := 40) (by omega) (by decide)), ob1_t (show f_X9_isProperty ρ 0 = some 1 from rfl)]
        rfl
      show (if nI (ρ.2.2.2.2 1).length ≤ nI xs.length then _ else gd (vin (nI xs.length) (ρ.2.2.2.2 1).length) (nm ((ρ.2.2.2.2 1).getD (nI xs.length).toNatClampNeg 0) (fun y12 => ob1 (f_X6_isKept ρ y12 0) (fun r13 => if r13 = 0 then f_X6_workOut_3 m ρ k t (nI xs.length + 1) else ob1 (f_X6_findRules ρ k y12 t) (fun σ20 => f_X6_workOut_43 (f_X6_workOut_3 m) fu σ20 k t (nI xs.length) y12 (nI 0)))))) = _
      rw [hf.2.2.2.2, if_neg (nI_ge hxs (s31 (by omega))), gd_t (vin_n hxs (s31 (by omega))), nm_t, nI_clamp (s31 (by omega)), getD_at hat, ob1_t kept, if_neg (by decide), ob1_t (f_findRules hρ t (by rw [n1]; exact hn))]
      have e0 : row ρ 37 (40 * k + n) (frf ρ t n (ρ.1 1)) = rw2 ρ (40 * k + n) (fun j => (row ρ 37 (40 * k + n) (frf ρ t n (ρ.1 1))).2.2.2.1 36 (40 * k + n) j) FR := by
        unfold rw2
        rw [← hFR, row_id]
      rw [e0, inner 14 0 fu _ _ rfl (by unfold fu; omega) (fun j hj => absurd hj (Nat.not_lt_zero j)) (fun j _ => rfl), nI_1]
      rw [List.length_append] at e1
      exact e1
  exact key (σ.2.2.2.2 1) [] fu σ rfl (by unfold fu; omega) frS.refl (fun n hn => nomatch hn)
