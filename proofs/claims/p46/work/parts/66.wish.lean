/-! PURE: wishes, in two runs -/
/-- where two states agreed, two later ones agree -/
def mn (σ σ' τ τ' : PvS) : Prop := (∀ κ q i, σ'.2.1 κ q i = σ.2.1 κ q i → τ'.2.1 κ q i = τ.2.1 κ q i) ∧ (∀ κ q i, σ'.2.2.1 κ q i = σ.2.2.1 κ q i → τ'.2.2.1 κ q i = τ.2.2.1 κ q i) ∧ ∀ κ i j, σ'.2.2.2.1 κ i j = σ.2.2.2.1 κ i j → τ'.2.2.2.1 κ i j = τ.2.2.2.1 κ i j
theorem mn.refl {σ σ' : PvS} : mn σ σ' σ σ' := ⟨fun _ _ _ h => h, fun _ _ _ h => h, fun _ _ _ h => h⟩
theorem mn.trans {σ σ' τ τ' ρ ρ' : PvS} (h : mn σ σ' τ τ') (g : mn τ τ' ρ ρ') : mn σ σ' ρ ρ' :=
  ⟨fun κ q i e => g.1 κ q i (h.1 κ q i e), fun κ q i e => g.2.1 κ q i (h.2.1 κ q i e), fun κ q i e => g.2.2 κ q i (h.2.2 κ q i e)⟩
theorem mn_I {σ σ' : PvS} {κ q i : Nat} {v v' : Int32} (e : v' = v) : mn σ σ' (pvI σ κ q i v) (pvI σ' κ q i v') :=
  ⟨fun κ2 q2 i2 z => by rw [pvI_at, pvI_at, e, z], fun _ _ _ z => z, fun _ _ _ z => z⟩
theorem mn_A {σ σ' : PvS} {κ q i : Nat} {v v' : Int32} (e : v' = v) : mn σ σ' (pvA σ κ q i v) (pvA σ' κ q i v') :=
  ⟨fun _ _ _ z => z, fun _ _ _ z => z, fun κ2 q2 i2 z => by rw [pvA_at, pvA_at, e, z]⟩
theorem mn_R {σ σ' : PvS} {κ q i : Nat} {v v' : Option Nat} (e : v' = v) : mn σ σ' (pvR σ κ q i v) (pvR σ' κ q i v') :=
  ⟨fun _ _ _ z => z, fun κ2 q2 i2 z => by rw [pvR_at, pvR_at, e, z], fun _ _ _ z => z⟩
theorem pvI_self (σ : PvS) (κ q i : Nat) (v : Int32) : (pvI σ κ q i v).2.1 κ q i = v := by rw [pvI_at]; exact if_pos ⟨rfl, rfl, rfl⟩
theorem pvA_self (σ : PvS) (κ q i : Nat) (v : Int32) : (pvA σ κ q i v).2.2.2.1 κ q i = v := by rw [pvA_at]; exact if_pos ⟨rfl, rfl, rfl⟩
theorem pvR_self (σ : PvS) (κ q i : Nat) (v : Option Nat) : (pvR σ κ q i v).2.2.1 κ q i = v := by rw [pvR_at]; exact if_pos ⟨rfl, rfl, rfl⟩
/-- what is prepared stays -/
def fz (σ τ : PvS) : Prop := dc τ = dc σ ∧ (∀ i j, τ.2.2.2.1 36 i j = σ.2.2.2.1 36 i j ∧ τ.2.2.2.1 37 i j = σ.2.2.2.1 37 i j ∧ τ.2.1 6 i j = σ.2.1 6 i j ∧ τ.2.1 9 i j = σ.2.1 9 i j) ∧ (∀ q i, (q = 0 ∨ q = 2 ∨ q = 3 ∨ q = 4) → τ.2.1 2 q i = σ.2.1 2 q i) ∧ ∀ i, hmo τ i = hmo σ i
theorem fz.refl {σ : PvS} : fz σ σ := ⟨rfl, fun _ _ => ⟨rfl, rfl, rfl, rfl⟩, fun _ _ _ => rfl, fun _ => rfl⟩
theorem fz.trans {σ τ ρ : PvS} (h : fz σ τ) (g : fz τ ρ) : fz σ ρ :=
  ⟨g.1.trans h.1, fun i j => ⟨(g.2.1 i j).1.trans (h.2.1 i j).1, (g.2.1 i j).2.1.trans (h.2.1 i j).2.1, (g.2.1 i j).2.2.1.trans (h.2.1 i j).2.2.1, (g.2.1 i j).2.2.2.trans (h.2.1 i j).2.2.2⟩, fun q i z => (g.2.2.1 q i z).trans (h.2.2.1 q i z), fun i => (g.2.2.2 i).trans (h.2.2.2 i)⟩
theorem fz_sty {σ τ : PvS} (h : fz σ τ) (n p : Nat) : sty τ n p = sty σ n p := (h.2.1 _ _).1
theorem fz_alive {σ τ : PvS} (h : fz σ τ) {n : Nat} : alive τ n ↔ alive σ n := by show n ∈ τ.2.2.2.2 1 ↔ n ∈ σ.2.2.2.2 1; rw [dc_L h.1]
theorem ST.fz {σ τ : PvS} (h : ST σ) (g : fz σ τ) : ST τ := by
  refine ⟨WF_dc h.1 g.1, fun n a p hp => by rw [fz_sty g]; exact h.2.1 n ((fz_alive g).mp a) p hp, fun n a => ?_⟩
  have hp := h.2.2 n ((fz_alive g).mp a)
  have es : srtv τ n = srtv σ n := by unfold srtv; rw [dc_par g.1, dc_I g.1 rfl, fz_sty g, fz_sty g]
  unfold Pr1
  rw [g.2.2.1 0 n (by omega), g.2.2.1 2 n (by omega), g.2.2.1 3 n (by omega), g.2.2.1 4 n (by omega), show τ.2.2.1 2 1 n = σ.2.2.1 2 1 n from g.2.2.2 n, fz_sty g, fz_sty g, fz_sty g, es]
  refine ⟨hp.1, ?_, hp.2.2.1, hp.2.2.2.1, ?_⟩
  · rw [hp.2.1]
    unfold hmv
    rw [dc_par g.1]
    cases par σ n with
    | none => rfl
    | some u =>
      show (if isbx (σ.2.1 2 0 u) then some u else σ.2.2.1 2 1 u) = (if isbx (τ.2.1 2 0 u) then some u else τ.2.2.1 2 1 u)
      rw [g.2.2.1 0 u (by omega), show τ.2.2.1 2 1 u = σ.2.2.1 2 1 u from g.2.2.2 u]
  · rw [hp.2.2.2.2]
    unfold scrv
    rw [es, fz_sty g]
theorem AGp.fz {σ σ' τ τ' : PvS} (h : AGp σ σ') (g : fz σ τ) (g' : fz σ' τ') : AGp τ τ' := by
  refine ⟨g'.1.trans (h.1.trans g.1.symm), fun n a p hp => by rw [fz_sty g', fz_sty g]; exact h.2.1 n ((fz_alive g).mp a) p hp, fun n a => ?_⟩
  have := h.2.2 n ((fz_alive g).mp a)
  rw [g.2.2.1 0 n (by omega), g.2.2.1 2 n (by omega), g.2.2.1 3 n (by omega), g.2.2.1 4 n (by omega), g'.2.2.1 0 n (by omega), g'.2.2.1 2 n (by omega), g'.2.2.1 3 n (by omega), g'.2.2.1 4 n (by omega), g.2.2.2, g'.2.2.2]
  exact this
theorem fz_I {σ : PvS} {κ q i : Nat} {v : Int32} (h0 : (dkI κ || κ == 6 || κ == 9) = false) (h2 : κ = 2 → ¬ (q = 0 ∨ q = 2 ∨ q = 3 ∨ q = 4)) : fz σ (pvI σ κ q i v) :=
  have h := (Bool.or_eq_false_iff.mp (Bool.or_eq_false_iff.mp h0).1).1
  have h6 := (Bool.or_eq_false_iff.mp (Bool.or_eq_false_iff.mp h0).1).2
  have h9 := (Bool.or_eq_false_iff.mp h0).2
  ⟨dc_eq rfl (fun κ2 q2 i2 e => by rw [pvI_at, if_neg (fun z => by rw [z.1, h] at e; cases e)]) (fun _ _ => rfl) (fun _ _ _ _ => rfl) rfl, fun i2 j2 => ⟨rfl, rfl, by rw [pvI_at, if_neg (fun z => by rw [← z.1] at h6; cases h6)], by rw [pvI_at, if_neg (fun z => by rw [← z.1] at h9; cases h9)]⟩, fun q2 i2 z => by rw [pvI_at, if_neg (fun w => h2 w.1.symm (by rw [← w.2.1]; exact z))], fun _ => rfl⟩
theorem fz_A {σ : PvS} {κ i j : Nat} {v : Int32} (h0 : (dkA κ || κ == 37) = false) (h2 : κ ≠ 36) : fz σ (pvA σ κ i j v) :=
  have h := (Bool.or_eq_false_iff.mp h0).1
  have h6 := (Bool.or_eq_false_iff.mp h0).2
  ⟨dc_eq rfl (fun _ _ _ _ => rfl) (fun _ _ => rfl) (fun κ2 q2 i2 e => by rw [pvA_at, if_neg (fun z => by rw [z.1, h] at e; cases e)]) rfl, fun i2 j2 => ⟨by rw [pvA_at, if_neg (fun w => h2 w.1.symm)], by rw [pvA_at, if_neg (fun z => by rw [← z.1] at h6; cases h6)], rfl, rfl⟩, fun _ _ _ => rfl, fun _ => rfl⟩
theorem fz_R {σ : PvS} {κ q i : Nat} {v : Option Nat} (h : κ ≠ 2) (h2 : κ ≠ 3) : fz σ (pvR σ κ q i v) :=
  ⟨dc_eq rfl (fun _ _ _ _ => rfl) (fun q2 i2 => by rw [pvR_at, if_neg (fun w => h2 w.1.symm)]) (fun _ _ _ _ => rfl) rfl, fun _ _ => ⟨rfl, rfl, rfl, rfl⟩, fun _ _ _ => rfl, fun i2 => by
    show (pvR σ κ q i v).2.2.1 2 1 i2 = _
    rw [pvR_at, if_neg (fun w => h w.1.symm)]; rfl⟩
/-- letters -/
theorem f_letters {σ : PvS} (h : WF σ) {n j : Nat} (hn : n < σ.1 0) (hj : (j : Int) < (σ.2.1 3 9 n).toInt) : f_X3_lettersOf σ n (nI j) = some (σ.2.2.2.1 30 n j) := by
  obtain ⟨⟨w0, w20⟩, wt, -⟩ := h.w n hn
  have ht : σ.2.1 3 1 n ≠ 0 := fun q => by
    have := wt q
    rw [this] at hj
    have e : (0 : Int32).toInt = 0 := rfl
    omega
  have hj20 : j < 20 := by omega
  have hw : f_X3_hasWord σ n (nI j) = some 1 := by
    unfold f_X3_hasWord
    rw [if_neg ht, if_neg (nI_pos (s31 (by omega))), if_neg (fun q => by have := ti_le.mp q; rw [ti_n (s31 (by omega))] at this; omega), pvLen_30, if_neg ht, if_neg (nI_ge hj20 (by decide))]
  unfold f_X3_lettersOf
  rw [ob1_t hw, if_neg (by decide), pvLen_30, if_neg ht, gd_t (vin_n hj20 (by decide)), nI_clamp (s31 (by omega))]
theorem f_widthOr {σ : PvS} (h : WFt σ) {n : Nat} (a : alive σ n) (x : Int32) : f_X4_widthOr σ n x = some (if sty σ n 1 = -1 then imax 0 x else sty σ n 1) := by
  unfold f_X4_widthOr
  rw [ob1_t (show f_X6_of σ 0 n 1 = _ from f_ofS h a (p := 1) (by decide))]
  split <;> rfl
/-- the words of a text, in a wish -/
theorem r_addToWish {σ σ' : PvS} (h : WF σ) (e : dc σ' = dc σ) {n b : Nat} {f : Int32} (a : alive σ n) (e3 : σ'.2.1 1 3 b = σ.2.1 1 3 b) (e4 : σ'.2.1 1 4 b = σ.2.1 1 4 b) : ∀ {d j m : Nat}, (σ.2.1 3 9 n).toInt ≤ (j : Int) + d → d < m → j ≤ 100 → rel (f_X4_addToWish_14 m σ n b f (nI j)) (f_X4_addToWish_14 m σ' n b f (nI j)) (fun τ τ' => fz σ τ ∧ fz σ' τ' ∧ mn σ σ' τ τ') := by
  intro d
  induction d generalizing σ σ' with
  | zero =>
    intro j m hj hm h100
    obtain ⟨m, rfl⟩ : ∃ q, m = q + 1 := ⟨m - 1, by omega⟩
    have c : σ.2.1 3 9 n ≤ nI j := ti_le.mpr (by rw [ti_n (s31 (by omega))]; omega)
    exact rel_itp c (by rw [dc_I e rfl]; exact c) (rel_some ⟨fz.refl, fz.refl, mn.refl⟩)
  | succ d ih =>
    intro j m hj hm h100
    obtain ⟨m, rfl⟩ : ∃ q, m = q + 1 := ⟨m - 1, by omega⟩
    have hn := h.t.alive_lt a
    have w20 := (h.w n hn).1
    by_cases c : σ.2.1 3 9 n ≤ nI j
    · exact rel_itp c (by rw [dc_I e rfl]; exact c) (rel_some ⟨fz.refl, fz.refl, mn.refl⟩)
    · have hj2 : (j : Int) < (σ.2.1 3 9 n).toInt := by
        have q : ¬ (σ.2.1 3 9 n).toInt ≤ (nI j).toInt := fun q => c (ti_le.mpr q)
        rw [ti_n (s31 (by omega))] at q
        omega
      refine rel_itn c (by rw [dc_I e rfl]; exact c) ?_
      rw [ob1_t (f_letters h hn hj2), ob1_t (f_letters (WF_dc h e) (by rw [dc_1 e]; exact hn) (by rw [dc_I e rfl]; exact hj2)), dc_A e rfl, nm_t, nm_t, nm_t, nm_t, nm_t, nm_t, nI_1]
      have z1 : ∀ ρ : PvS, ∀ v, fz ρ (pvI ρ 1 4 b v) := fun ρ v => fz_I rfl (fun q => absurd q (by decide))
      have z3 : ∀ ρ : PvS, ∀ v, fz ρ (pvI ρ 1 3 b v) := fun ρ v => fz_I rfl (fun q => absurd q (by decide))
      have m1 : mn σ σ' (pvI σ 1 4 b (σ.2.1 1 4 b + σ.2.2.2.1 30 n j * f)) (pvI σ' 1 4 b (σ'.2.1 1 4 b + σ.2.2.2.1 30 n j * f)) := mn_I (by rw [e4])
      generalize hA : pvI σ 1 4 b (σ.2.1 1 4 b + σ.2.2.2.1 30 n j * f) = A at m1 ⊢
      generalize hA' : pvI σ' 1 4 b (σ'.2.1 1 4 b + σ.2.2.2.1 30 n j * f) = A' at m1 ⊢
      have fA : fz σ A := by rw [← hA]; exact z1 _ _
      have fA' : fz σ' A' := by rw [← hA']; exact z1 _ _
      have m2 : mn A A' (pvI A 1 3 b (imax (A.2.1 1 3 b) (A.2.1 1 4 b))) (pvI A' 1 3 b (imax (A'.2.1 1 3 b) (A'.2.1 1 4 b))) := mn_I (by rw [m1.1 1 3 b e3, m1.1 1 4 b e4])
      generalize hB : pvI A 1 3 b (imax (A.2.1 1 3 b) (A.2.1 1 4 b)) = B at m2 ⊢
      generalize hB' : pvI A' 1 3 b (imax (A'.2.1 1 3 b) (A'.2.1 1 4 b)) = B' at m2 ⊢
      have fB : fz σ B := by rw [← hB]; exact fA.trans (z3 _ _)
      have fB' : fz σ' B' := by rw [← hB']; exact fA'.trans (z3 _ _)
      have m3 := m1.trans m2
      have m4 : mn B B' (pvI B 1 4 b (B.2.1 1 4 b + f)) (pvI B' 1 4 b (B'.2.1 1 4 b + f)) := mn_I (by rw [m3.1 1 4 b e4])
      have fC : fz σ (pvI B 1 4 b (B.2.1 1 4 b + f)) := fB.trans (z1 _ _)
      have fC' : fz σ' (pvI B' 1 4 b (B'.2.1 1 4 b + f)) := fB'.trans (z1 _ _)
      have m5 := m3.trans m4
      have nxt := ih (σ := pvI B 1 4 b (B.2.1 1 4 b + f)) (σ' := pvI B' 1 4 b (B'.2.1 1 4 b + f)) (WF_dc h fC.1) (fC'.1.trans (e.trans fC.1.symm)) ((fz_alive fC).mpr a) (m5.1 1 3 b e3) (m5.1 1 4 b e4) (j := j + 1) (m := m) (by rw [dc_I fC.1 rfl]; omega) (by omega) (by omega)
      exact rel_mono nxt (fun τ τ' q => ⟨fC.trans q.1, fC'.trans q.2.1, m5.trans q.2.2⟩)
/-- one box's wish -/
theorem r_findWish {σ σ' : PvS} (h : ST σ) (h' : ST σ') (g : AGp σ σ') {b : Nat} (ab : alive σ b) (hw : ∀ n, alive σ n → hmo σ n = some b → isbx (σ.2.1 2 0 n) → σ'.2.1 1 3 n = σ.2.1 1 3 n) : rel (f_X4_findWish σ b) (f_X4_findWish σ' b) (fun τ τ' => fz σ τ ∧ fz σ' τ' ∧ mn σ σ' τ τ' ∧ τ'.2.1 1 3 b = τ.2.1 1 3 b) := by
  have hn15 := h.f.t.n
  have hlen := h.f.t.len
  have z1 : ∀ ρ : PvS, ∀ v, fz ρ (pvI ρ 1 4 b v) := fun ρ v => fz_I rfl (fun q => absurd q (by decide))
  have z3 : ∀ ρ : PvS, ∀ v, fz ρ (pvI ρ 1 3 b v) := fun ρ v => fz_I rfl (fun q => absurd q (by decide))
  have key : ∀ (ys xs : List Nat) (m : Nat) (ρ ρ' : PvS), σ.2.2.2.2 1 = xs ++ ys → ys.length < m → fz σ ρ → fz σ' ρ' → mn σ σ' ρ ρ' → ρ'.2.1 1 3 b = ρ.2.1 1 3 b → ρ'.2.1 1 4 b = ρ.2.1 1 4 b → rel (f_X4_findWish_18 m ρ b (nI xs.length)) (f_X4_findWish_18 m ρ' b (nI xs.length)) (fun τ τ' => fz σ τ ∧ fz σ' τ' ∧ mn σ σ' τ τ' ∧ τ'.2.1 1 3 b = τ.2.1 1 3 b) := by
    intro ys
    induction ys with
    | nil =>
      intro xs m ρ ρ' hO hm f f' mm e3 e4
      obtain ⟨m, rfl⟩ : ∃ q, m = q + 1 := ⟨m - 1, by omega⟩
      rw [List.append_nil] at hO
      have c : nI xs.length ≤ nI xs.length := nI_le (Nat.le_refl _) (s31 (by rw [← hO]; omega))
      exact rel_itp (by rw [dc_L f.1, hO]; exact c) (by rw [dc_L f'.1, dc_L g.1, hO]; exact c) (rel_some ⟨f, f', mm, e3⟩)
    | cons n ys ih =>
      intro xs m ρ ρ' hO hm f f' mm e3 e4
      obtain ⟨m, rfl⟩ : ∃ q, m = q + 1 := ⟨m - 1, by omega⟩
      have hat := stepN hO rfl
      have hxs := at_lt hat
      have an : alive σ n := List.mem_of_getElem? hat
      have nxt := fun ρ ρ' => ih (xs ++ [n]) m ρ ρ' (by rw [hO, List.append_assoc]; rfl) (by simp only [List.length_cons] at hm; omega)
      rw [List.length_append] at nxt
      have hρ := h.fz f
      have hρ' := h'.fz f'
      have gρ := g.fz f f'
      have anρ : alive ρ n := (fz_alive f).mpr an
      have anρ' : alive ρ' n := by show n ∈ ρ'.2.2.2.2 1; rw [dc_L f'.1, dc_L g.1]; exact an
      obtain ⟨s1, s2, -, s4, -⟩ := gρ.2.2 n anρ
      show rel (if nI (ρ.2.2.2.2 1).length ≤ nI xs.length then some ρ else gd (vin (nI xs.length) (ρ.2.2.2.2 1).length) (nm ((ρ.2.2.2.2 1).getD (nI xs.length).toNatClampNeg 0) (fun y13 => nm (hmo ρ y13) (fun o14 => if o14 = some b then ob1 (f_X2_isBox ρ y13) (fun r16 => if r16 = 0 then f_X4_findWish_116 (f_X4_findWish_18 m) ρ b (nI xs.length) y13 else ob1 (f_X4_widthOr ρ y13 (ρ.2.1 1 3 y13)) (fun r22 => nm (pvI ρ 1 3 b (imax (ρ.2.1 1 3 b) (r22 + (2 * (ρ.2.1 2 3 y13))))) (fun σ27 => nm (pvI σ27 1 4 b 0) (fun σ28 => f_X4_findWish_18 m σ28 b (nI xs.length + 1))))) else f_X4_findWish_116 (f_X4_findWish_18 m) ρ b (nI xs.length) y13)))) (if nI (ρ'.2.2.2.2 1).length ≤ nI xs.length then some ρ' else gd (vin (nI xs.length) (ρ'.2.2.2.2 1).length) (nm ((ρ'.2.2.2.2 1).getD (nI xs.length).toNatClampNeg 0) (fun y13 => nm (hmo ρ' y13) (fun o14 => if o14 = some b then ob1 (f_X2_isBox ρ' y13) (fun r16 => if r16 = 0 then f_X4_findWish_116 (f_X4_findWish_18 m) ρ' b (nI xs.length) y13 else ob1 (f_X4_widthOr ρ' y13 (ρ'.2.1 1 3 y13)) (fun r22 => nm (pvI ρ' 1 3 b (imax (ρ'.2.1 1 3 b) (r22 + (2 * (ρ'.2.1 2 3 y13))))) (fun σ27 => nm (pvI σ27 1 4 b 0) (fun σ28 => f_X4_findWish_18 m σ28 b (nI xs.length + 1))))) else f_X4_findWish_116 (f_X4_findWish_18 m) ρ' b (nI xs.length) y13)))) _
      rw [dc_L f'.1, dc_L g.1, dc_L f.1, if_neg (nI_ge hxs (s31 (by omega))), if_neg (nI_ge hxs (s31 (by omega))), gd_t (vin_n hxs (s31 (by omega))), gd_t (vin_n hxs (s31 (by omega))), nm_t, nm_t, nI_clamp (s31 (by omega)), getD_at hat, nm_t, nm_t, s2, nI_1]
      have s116 : rel (f_X4_findWish_116 (f_X4_findWish_18 m) ρ b (nI xs.length) n) (f_X4_findWish_116 (f_X4_findWish_18 m) ρ' b (nI xs.length) n) (fun τ τ' => fz σ τ ∧ fz σ' τ' ∧ mn σ σ' τ τ' ∧ τ'.2.1 1 3 b = τ.2.1 1 3 b) := by
        unfold f_X4_findWish_116
        rw [nm_t, nm_t, show ρ'.2.2.1 2 1 n = ρ.2.2.1 2 1 n from s2, s1, nI_1]
        refine rel_ite Iff.rfl (fun c1 => rel_ite Iff.rfl (fun c2 => ?_) (fun c2 => nxt ρ ρ' f f' mm e3 e4)) (fun c1 => nxt ρ ρ' f f' mm e3 e4)
        unfold f_X4_addToWish
        rw [ob1_t (show f_X6_of ρ 0 n 9 = _ from f_ofS hρ.f.t anρ (p := 9) (by decide)), ob1_t (show f_X6_of ρ' 0 n 9 = _ from f_ofS hρ'.f.t anρ' (p := 9) (by decide)), gρ.2.1 n anρ 9 (by decide)]
        have w20 := (hρ.f.w n (hρ.f.t.alive_lt anρ)).1
        refine rel_ob1 (r_addToWish (f := sty ρ n 9) hρ.f gρ.1 anρ e3 e4 (d := 20) (j := 0) (m := fu) (by omega) (by unfold fu; omega) (by omega)) (fun τ τ' q => ?_)
        exact nxt τ τ' (f.trans q.1) (f'.trans q.2.1) (mm.trans q.2.2) (q.2.2.1 1 3 b e3) (q.2.2.1 1 4 b e4)
      refine rel_ite Iff.rfl (fun c1 => ?_) (fun c1 => s116)
      rw [ob1_t (f_isBox ρ n), ob1_t (f_isBox ρ' n), s1]
      by_cases hb : isbx (ρ.2.1 2 0 n)
      · rw [if_pos hb]
        refine rel_itn (by decide) (by decide) ?_
        have ew : ρ'.2.1 1 3 n = ρ.2.1 1 3 n := mm.1 1 3 n (hw n an (by rw [← f.2.2.2]; exact c1) (by rw [← f.2.2.1 0 n (by omega)]; exact hb))
        rw [ob1_t (f_widthOr hρ.f.t anρ _), ob1_t (f_widthOr hρ'.f.t anρ' _), gρ.2.1 n anρ 1 (by decide), ew, s4, e3, nm_t, nm_t, nm_t, nm_t]
        have m1 := mn_I (σ := ρ) (σ' := ρ') (κ := 1) (q := 3) (i := b) (v := imax (ρ.2.1 1 3 b) ((if sty ρ n 1 = -1 then imax 0 (ρ.2.1 1 3 n) else sty ρ n 1) + 2 * ρ.2.1 2 3 n)) rfl
        have m2 := m1.trans (mn_I (κ := 1) (q := 4) (i := b) (v := 0) rfl)
        exact nxt _ _ (f.trans ((z3 _ _).trans (z1 _ _))) (f'.trans ((z3 _ _).trans (z1 _ _))) (mm.trans m2) (m2.1 1 3 b e3) (by rw [pvI_self, pvI_self])
      · rw [if_neg hb]
        exact rel_itp rfl rfl s116
  unfold f_X4_findWish
  rw [nm_t, nm_t, nm_t, nm_t]
  have m1 := (mn_I (σ := σ) (σ' := σ') (κ := 1) (q := 3) (i := b) (v := 0) rfl).trans (mn_I (κ := 1) (q := 4) (i := b) (v := 0) rfl)
  refine key (σ.2.2.2.2 1) [] fu _ _ rfl (by unfold fu; omega) ((z3 _ _).trans (z1 _ _)) ((z3 _ _).trans (z1 _ _)) m1 ?_ (by rw [pvI_self, pvI_self])
  rw [pvI_at, if_neg (by omega), pvI_self, pvI_at, if_neg (by omega), pvI_self]
/-- all wishes -/
theorem r_findWishes {σ σ' : PvS} (h : ST σ) (h' : ST σ') (g : AGp σ σ') : rel (f_X4_findWishes σ) (f_X4_findWishes σ') (fun τ τ' => fz σ τ ∧ fz σ' τ' ∧ mn σ σ' τ τ' ∧ ∀ n, alive σ n → isbx (σ.2.1 2 0 n) → τ'.2.1 1 3 n = τ.2.1 1 3 n) := by
  have hn15 := h.f.t.n
  have hlen := h.f.t.len
  have key : ∀ (k : Nat) (xs ys : List Nat) (m : Nat) (ρ ρ' : PvS), xs.length = k → σ.2.2.2.2 1 = xs ++ ys → xs.length < m → fz σ ρ → fz σ' ρ' → mn σ σ' ρ ρ' → (∀ n ∈ ys, isbx (σ.2.1 2 0 n) → ρ'.2.1 1 3 n = ρ.2.1 1 3 n) → rel (f_X4_findWishes_7 m ρ (nI xs.length - 1)) (f_X4_findWishes_7 m ρ' (nI xs.length - 1)) (fun τ τ' => fz σ τ ∧ fz σ' τ' ∧ mn σ σ' τ τ' ∧ ∀ n, alive σ n → isbx (σ.2.1 2 0 n) → τ'.2.1 1 3 n = τ.2.1 1 3 n) := by
    intro k
    induction k with
    | zero =>
      intro xs ys m ρ ρ' hk hO hm f f' mm hy
      obtain ⟨m, rfl⟩ : ∃ q, m = q + 1 := ⟨m - 1, by omega⟩
      rw [hk]
      have hx : xs = [] := List.length_eq_zero_iff.mp hk
      exact rel_itp (by decide +kernel) (by decide +kernel) (rel_some ⟨f, f', mm, fun n a hb => hy n (by have a : n ∈ σ.2.2.2.2 1 := a; rw [hO, hx] at a; exact a) hb⟩)
    | succ k ih =>
      intro xs ys m ρ ρ' hk hO hm f f' mm hy
      obtain ⟨m, rfl⟩ : ∃ q, m = q + 1 := ⟨m - 1, by omega⟩
      obtain ⟨ws, n, rfl⟩ : ∃ ws n, xs = ws ++ [n] := ⟨xs.dropLast, xs.getLast (fun q => by rw [q] at hk; cases hk), (List.dropLast_concat_getLast _).symm⟩
      have hlw : ws.length = k := by rw [List.length_append, List.length_singleton] at hk; omega
      have hO2 : σ.2.2.2.2 1 = ws ++ n :: ys := by rw [hO, List.append_assoc]; rfl
      have hat := stepN hO2 rfl
      have hws := at_lt hat
      have an : alive σ n := List.mem_of_getElem? hat
      rw [List.length_append, List.length_singleton] at hm ⊢
      rw [nI_pred]
      have hρ := h.fz f
      have hρ' := h'.fz f'
      have gρ := g.fz f f'
      have anρ : alive ρ n := (fz_alive f).mpr an
      obtain ⟨s1, s2, -, s4, -⟩ := gρ.2.2 n anρ
      have s0 : ρ.2.1 2 0 n = σ.2.1 2 0 n := f.2.2.1 0 n (by omega)
      have e1 : nI ws.length + (-1) = nI ws.length - 1 := by rw [Int32.sub_eq_add_neg]
      show rel (if nI ws.length < 0 then some ρ else gd (vin (nI ws.length) (ρ.2.2.2.2 1).length) (nm ((ρ.2.2.2.2 1).getD (nI ws.length).toNatClampNeg 0) (fun y3 => ob1 (f_X2_isBox ρ y3) (fun r4 => if r4 = 0 then f_X4_findWishes_7 m ρ (nI ws.length + (-1)) else gd (vin (nI ws.length) (ρ.2.2.2.2 1).length) (nm ((ρ.2.2.2.2 1).getD (nI ws.length).toNatClampNeg 0) (fun y11 => ob1 (f_X4_findWish ρ y11) (fun σ13 => f_X4_findWishes_7 m σ13 (nI ws.length + (-1))))))))) (if nI ws.length < 0 then some ρ' else gd (vin (nI ws.length) (ρ'.2.2.2.2 1).length) (nm ((ρ'.2.2.2.2 1).getD (nI ws.length).toNatClampNeg 0) (fun y3 => ob1 (f_X2_isBox ρ' y3) (fun r4 => if r4 = 0 then f_X4_findWishes_7 m ρ' (nI ws.length + (-1)) else gd (vin (nI ws.length) (ρ'.2.2.2.2 1).length) (nm ((ρ'.2.2.2.2 1).getD (nI ws.length).toNatClampNeg 0) (fun y11 => ob1 (f_X4_findWish ρ' y11) (fun σ13 => f_X4_findWishes_7 m σ13 (nI ws.length + (-1))))))))) _
      rw [dc_L f'.1, dc_L g.1, dc_L f.1, if_neg (nI_pos (s31 (by omega))), if_neg (nI_pos (s31 (by omega)))]
      simp only [gd_t (vin_n hws (s31 (by omega))), nm_t, nI_clamp (s31 (show ws.length ≤ 3000 by omega)), getD_at hat]
      rw [ob1_t (f_isBox ρ n), ob1_t (f_isBox ρ' n), s1, s0, e1]
      by_cases hb : isbx (σ.2.1 2 0 n)
      · rw [if_pos hb]
        refine rel_itn (by decide) (by decide) ?_
        refine rel_ob1 (r_findWish hρ hρ' gρ anρ (fun v av hv hbv => ?_)) (fun τ τ' q => ?_)
        · have av := (fz_alive f).mp av
          refine hy v ?_ (by rw [← f.2.2.1 0 v (by omega)]; exact hbv)
          -- what has its home in n comes behind n
          have av2 : v ∈ ws ++ n :: ys := by rw [← hO2]; exact av
          have hv : hmo σ v = some n := by rw [← f.2.2.2]; exact hv
          rcases List.mem_append.mp av2 with q | q
          · obtain ⟨as, bs, rfl⟩ := List.append_of_mem q
            have := h.first (xs := as) (ys := bs ++ n :: ys) (by rw [hO2, List.append_assoc]; rfl) hv
            have nod : ((as ++ v :: bs) ++ n :: ys).Nodup := by rw [← hO2]; exact h.f.t.nodup
            exact absurd rfl ((List.nodup_append.mp nod).2.2 n (List.mem_append_left _ this) n List.mem_cons_self)
          · rcases List.mem_cons.mp q with q | q
            · subst q
              have := h.first hO2 hv
              have nod : (ws ++ v :: ys).Nodup := by rw [← hO2]; exact h.f.t.nodup
              exact absurd rfl ((List.nodup_append.mp nod).2.2 v this v List.mem_cons_self)
            · exact q
        · refine ih ws (n :: ys) m τ τ' hlw hO2 (by omega) (f.trans q.1) (f'.trans q.2.1) (mm.trans q.2.2.1) (fun v hv hbv => ?_)
          rcases List.mem_cons.mp hv with e | hv
          · rw [e]; exact q.2.2.2
          · exact q.2.2.1.1 1 3 v (hy v hv hbv)
      · rw [if_neg hb]
        refine rel_itp rfl rfl ?_
        refine ih ws (n :: ys) m ρ ρ' hlw hO2 (by omega) f f' mm (fun v hv hbv => ?_)
        rcases List.mem_cons.mp hv with e | hv
        · rw [e] at hbv; exact absurd hbv hb
        · exact hy v hv hbv
  unfold f_X4_findWishes
  rw [dc_L g.1]
  exact key _ (σ.2.2.2.2 1) [] fu σ σ' rfl (List.append_nil _).symm (by unfold fu; omega) fz.refl fz.refl mn.refl (fun n hn => nomatch hn)
