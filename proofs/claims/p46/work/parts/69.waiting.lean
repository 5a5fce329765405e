/-! PURE: words that wait, in two runs -/
theorem pvLen_27 {σ : PvS} : pvLen σ 27 0 = 800 := rfl
theorem pvLen_28 {σ : PvS} : pvLen σ 28 0 = 800 := rfl
theorem pvLen_29 {σ : PvS} : pvLen σ 29 0 = 800 := rfl
/-- the words that wait are those of l -/
def VW (σ : PvS) (l : List (Nat × Nat)) : Prop := σ.2.1 8 4 0 = nI l.length ∧ l.length ≤ 800 ∧ ∀ j p, l[j]? = some p → σ.2.2.1 26 j 0 = some p.1 ∧ σ.2.2.2.1 27 0 j = nI p.2 ∧ p.2 < 20 ∧ (0 ≤ (σ.2.2.2.1 28 0 j).toInt ∧ (σ.2.2.2.1 28 0 j).toInt ≤ 144) ∧ (0 ≤ (σ.2.2.2.1 29 0 j).toInt ∧ (σ.2.2.2.1 29 0 j).toInt ≤ 12) ∧ σ.2.1 3 1 p.1 ≠ 0
def WTa (σ σ' : PvS) (w : Nat) : Prop := σ'.2.1 8 4 0 = σ.2.1 8 4 0 ∧ ∀ j, j < w → (∀ κ, κ = 27 ∨ κ = 28 ∨ κ = 29 → σ'.2.2.2.1 κ 0 j = σ.2.2.2.1 κ 0 j) ∧ σ'.2.2.1 26 j 0 = σ.2.2.1 26 j 0
/-- nothing but the words that wait -/
def frQ (σ τ : PvS) : Prop := (∀ κ q i, κ ≠ 8 → τ.2.1 κ q i = σ.2.1 κ q i) ∧ (∀ κ q i, κ ≠ 26 → τ.2.2.1 κ q i = σ.2.2.1 κ q i) ∧ ∀ κ i j, (κ < 26 ∨ 29 < κ) → τ.2.2.2.1 κ i j = σ.2.2.2.1 κ i j
theorem frQ.refl {σ : PvS} : frQ σ σ := ⟨fun _ _ _ _ => rfl, fun _ _ _ _ => rfl, fun _ _ _ _ => rfl⟩
theorem frQ.trans {σ τ ρ : PvS} (h : frQ σ τ) (g : frQ τ ρ) : frQ σ ρ := ⟨fun κ q i z => (g.1 κ q i z).trans (h.1 κ q i z), fun κ q i z => (g.2.1 κ q i z).trans (h.2.1 κ q i z), fun κ i j z => (g.2.2 κ i j z).trans (h.2.2 κ i j z)⟩
/-- a word is put behind the others -/
def wput (σ : PvS) (w n k : Nat) (x f : Int32) : PvS := pvI (pvA (pvA (pvA (pvR σ 26 w 0 (some n)) 27 0 w (nI k)) 28 0 w x) 29 0 w f) 8 4 0 (nI w + 1)
theorem wput_fr (σ : PvS) (w n k : Nat) (x f : Int32) : frQ σ (wput σ w n k x f) ∧ fz σ (wput σ w n k x f) := by
  refine ⟨⟨fun κ q i z => by unfold wput; rw [pvI_at, if_neg (fun e => z e.1)]; rfl, fun κ q i z => ?_, fun κ i j z => ?_⟩, ?_⟩
  · show (pvR σ 26 w 0 (some n)).2.2.1 κ q i = _
    rw [pvR_at, if_neg (fun e => z e.1)]
  · show (pvA _ 29 0 w f).2.2.2.1 κ i j = _
    rw [pvA_at, if_neg (fun e => by omega), pvA_at, if_neg (fun e => by omega), pvA_at, if_neg (fun e => by omega)]; rfl
  · exact ((((fz_R (by decide) (by decide)).trans (fz_A rfl (by decide))).trans (fz_A rfl (by decide))).trans (fz_A rfl (by decide))).trans (fz_I rfl (fun q => absurd q (by decide)))
theorem wput_at (σ : PvS) (w n k : Nat) (x f : Int32) (j : Nat) : (wput σ w n k x f).2.2.1 26 j 0 = (if j = w then some n else σ.2.2.1 26 j 0) ∧ (wput σ w n k x f).2.2.2.1 27 0 j = (if j = w then nI k else σ.2.2.2.1 27 0 j) ∧ (wput σ w n k x f).2.2.2.1 28 0 j = (if j = w then x else σ.2.2.2.1 28 0 j) ∧ (wput σ w n k x f).2.2.2.1 29 0 j = (if j = w then f else σ.2.2.2.1 29 0 j) := by
  refine ⟨?_, ?_, ?_, ?_⟩
  · show (pvR σ 26 w 0 (some n)).2.2.1 26 j 0 = _
    rw [pvR_at]
    by_cases e : j = w
    · rw [if_pos ⟨rfl, e, rfl⟩, if_pos e]
    · rw [if_neg (fun z => e z.2.1), if_neg e]
  · show (pvA _ 29 0 w f).2.2.2.1 27 0 j = _
    rw [pvA_at, if_neg (by omega), pvA_at, if_neg (by omega), pvA_at]
    by_cases e : j = w
    · rw [if_pos ⟨rfl, rfl, e⟩, if_pos e]
    · rw [if_neg (fun z => e z.2.2), if_neg e]; rfl
  · show (pvA _ 29 0 w f).2.2.2.1 28 0 j = _
    rw [pvA_at, if_neg (by omega), pvA_at]
    by_cases e : j = w
    · rw [if_pos ⟨rfl, rfl, e⟩, if_pos e]
    · rw [if_neg (fun z => e z.2.2), if_neg e, pvA_at, if_neg (by omega)]; rfl
  · show (pvA _ 29 0 w f).2.2.2.1 29 0 j = _
    rw [pvA_at]
    by_cases e : j = w
    · rw [if_pos ⟨rfl, rfl, e⟩, if_pos e]
    · rw [if_neg (fun z => e z.2.2), if_neg e, pvA_at, if_neg (by omega), pvA_at, if_neg (by omega)]; rfl
theorem wput_mn (σ σ' : PvS) (w n k : Nat) (x f : Int32) : mn σ σ' (wput σ w n k x f) (wput σ' w n k x f) :=
  ((((mn_R rfl).trans (mn_A rfl)).trans (mn_A rfl)).trans (mn_A rfl)).trans (mn_I rfl)
theorem wput_VW {σ : PvS} {l : List (Nat × Nat)} (v : VW σ l) {n k : Nat} {x f : Int32} (hl : l.length < 800) (hk : k < 20) (hx : 0 ≤ x.toInt ∧ x.toInt ≤ 144) (hf : 0 ≤ f.toInt ∧ f.toInt ≤ 12) (ht : σ.2.1 3 1 n ≠ 0) : VW (wput σ l.length n k x f) (l ++ [(n, k)]) := by
  refine ⟨?_, by rw [List.length_append, List.length_singleton]; omega, fun j p hp => ?_⟩
  · rw [List.length_append, List.length_singleton]
    show (pvI _ 8 4 0 (nI l.length + 1)).2.1 8 4 0 = _
    rw [pvI_self, nI_1]
  · obtain ⟨a1, a2, a3, a4⟩ := wput_at σ l.length n k x f j
    rw [a1, a2, a3, a4, (wput_fr σ l.length n k x f).1.1 3 1 p.1 (by decide)]
    by_cases e : j = l.length
    · rw [if_pos e, if_pos e, if_pos e, if_pos e]
      rw [e, List.getElem?_append_right (Nat.le_refl _), Nat.sub_self] at hp
      cases hp
      exact ⟨rfl, rfl, hk, hx, hf, ht⟩
    · have hj : j < l.length := by
        have := (List.getElem?_eq_some_iff.mp hp).1
        rw [List.length_append, List.length_singleton] at this
        omega
      rw [if_neg e, if_neg e, if_neg e, if_neg e]
      rw [List.getElem?_append_left hj] at hp
      exact v.2.2 j p hp
theorem wput_WTa {σ σ' : PvS} {w : Nat} (g : WTa σ σ' w) (n k : Nat) (x f : Int32) : WTa (wput σ w n k x f) (wput σ' w n k x f) (w + 1) := by
  refine ⟨by show (pvI _ 8 4 0 _).2.1 8 4 0 = (pvI _ 8 4 0 _).2.1 8 4 0; rw [pvI_self, pvI_self], fun j hj => ?_⟩
  obtain ⟨a1, a2, a3, a4⟩ := wput_at σ w n k x f j
  obtain ⟨b1, b2, b3, b4⟩ := wput_at σ' w n k x f j
  by_cases e : j = w
  · refine ⟨fun κ hκ => ?_, by rw [a1, b1, if_pos e, if_pos e]⟩
    rcases hκ with rfl | rfl | rfl
    · rw [a2, b2, if_pos e, if_pos e]
    · rw [a3, b3, if_pos e, if_pos e]
    · rw [a4, b4, if_pos e, if_pos e]
  · have gj := g.2 j (by omega)
    refine ⟨fun κ hκ => ?_, by rw [a1, b1, if_neg e, if_neg e]; exact gj.2⟩
    rcases hκ with rfl | rfl | rfl
    · rw [a2, b2, if_neg e, if_neg e]; exact gj.1 27 (by omega)
    · rw [a3, b3, if_neg e, if_neg e]; exact gj.1 28 (by omega)
    · rw [a4, b4, if_neg e, if_neg e]; exact gj.1 29 (by omega)
/-- a text's words wait -/
theorem r_addw {n : Nat} {f : Int32} (hf : 0 ≤ f.toInt ∧ f.toInt ≤ 12) : ∀ {d k m : Nat} {l : List (Nat × Nat)} {σ σ' : PvS}, WF σ → dc σ' = dc σ → alive σ n → VW σ l → WTa σ σ' l.length → k + d = (σ.2.1 3 9 n).toInt.toNat → d < m → l.length + d < 800 → rel (f_X8_add_2 m σ n f (nI k)) (f_X8_add_2 m σ' n f (nI k)) (fun τ τ' => VW τ (l ++ (List.range' k d).map (fun j => (n, j))) ∧ WTa τ τ' (l.length + d) ∧ frQ σ τ ∧ fz σ τ ∧ fz σ' τ' ∧ mn σ σ' τ τ') := by
  intro d
  induction d with
  | zero =>
    intro k m l σ σ' h e a v g hk hm hl
    obtain ⟨m, rfl⟩ : ∃ q, m = q + 1 := ⟨m - 1, by omega⟩
    have w20 := (h.w n (h.t.alive_lt a)).1
    have c : σ.2.1 3 9 n ≤ nI k := ti_le.mpr (by rw [ti_n (s31 (by omega))]; omega)
    refine rel_itp c (by rw [dc_I e rfl]; exact c) (rel_some ⟨?_, g, frQ.refl, fz.refl, fz.refl, mn.refl⟩)
    show VW σ (l ++ [])
    rw [List.append_nil]; exact v
  | succ d ih =>
    intro k m l σ σ' h e a v g hk hm hl
    obtain ⟨m, rfl⟩ : ∃ q, m = q + 1 := ⟨m - 1, by omega⟩
    have hn := h.t.alive_lt a
    obtain ⟨w20, wt, w30, -⟩ := h.w n hn
    have hk2 : (k : Int) < (σ.2.1 3 9 n).toInt := by omega
    have ht : σ.2.1 3 1 n ≠ 0 := fun q => by
      have := wt q
      rw [this] at hk2
      have e0 : (0 : Int32).toInt = 0 := rfl
      omega
    have c : ¬ σ.2.1 3 9 n ≤ nI k := fun q => by have := ti_le.mp q; rw [ti_n (s31 (by omega))] at this; omega
    have v8 := vin_n (show l.length < 800 by omega) (show 800 < 2 ^ 31 by decide)
    have cl : (nI l.length).toNatClampNeg = l.length := nI_clamp (s31 (by omega))
    have ex : ∀ ρ : PvS, WF ρ → dc ρ = dc σ → ρ.2.1 8 4 0 = nI l.length → f_X8_add_2 (m + 1) ρ n f (nI k) = f_X8_add_2 m (wput ρ l.length n k (σ.2.2.2.1 30 n k * f) f) n f (nI k + 1) := fun ρ hρ eρ cρ => by
      have i1 : ρ.2.1 3 9 n = σ.2.1 3 9 n := dc_I eρ rfl 9 n
      have fl : f_X3_lettersOf (pvA (pvR ρ 26 l.length 0 (some n)) 27 0 l.length (nI k)) n (nI k) = some (σ.2.2.2.1 30 n k) := by
        have zz : fz ρ (pvA (pvR ρ 26 l.length 0 (some n)) 27 0 l.length (nI k)) := (fz_R (by decide) (by decide)).trans (fz_A rfl (by decide))
        rw [f_letters (WF_dc hρ zz.1) (by rw [dc_1 zz.1, dc_1 eρ]; exact hn) (by rw [dc_I zz.1 rfl, i1]; exact hk2), dc_A zz.1 rfl, dc_A eρ rfl]
      have I8 : ∀ (ρ : PvS) (κ j : Nat) (z : Int32), (pvA ρ κ 0 j z).2.1 8 4 0 = ρ.2.1 8 4 0 := fun _ _ _ _ => rfl
      have R8 : ∀ (ρ : PvS) (j : Nat), (pvR ρ 26 j 0 (some n)).2.1 8 4 0 = ρ.2.1 8 4 0 := fun _ _ => rfl
      show (if ρ.2.1 3 9 n ≤ nI k then some ρ else if ρ.2.1 8 4 0 < 0 then some ρ else if 800 ≤ ρ.2.1 8 4 0 then some ρ else gd (vin (ρ.2.1 8 4 0) 800) (nm (pvR ρ 26 ((ρ.2.1 8 4 0).toNatClampNeg) 0 (some n)) (fun σ5 => gd (vin (σ5.2.1 8 4 0) (pvLen σ5 27 0)) (nm (pvA σ5 27 0 ((σ5.2.1 8 4 0).toNatClampNeg) (nI k)) (fun σ7 => ob1 (f_X3_lettersOf σ7 n (nI k)) (fun r8 => gd (vin (σ7.2.1 8 4 0) (pvLen σ7 28 0)) (nm (pvA σ7 28 0 ((σ7.2.1 8 4 0).toNatClampNeg) (r8 * f)) (fun σ14 => gd (vin (σ14.2.1 8 4 0) (pvLen σ14 29 0)) (nm (pvA σ14 29 0 ((σ14.2.1 8 4 0).toNatClampNeg) f) (fun σ16 => nm (pvI σ16 8 4 0 ((σ16.2.1 8 4 0) + 1)) (fun σ17 => f_X8_add_2 m σ17 n f (nI k + 1))))))))))) ) = _
      rw [i1, if_neg c, cρ, if_neg (nI_pos (s31 (by omega))), if_neg (show ¬ 800 ≤ nI l.length from nI_ge (b := 800) (by omega) (by decide))]
      simp only [nm_t, I8, R8, cρ, cl, pvLen_27, pvLen_28, pvLen_29, gd_t v8]
      rw [ob1_t fl]
      rfl
    rw [ex σ h rfl v.1, ex σ' (WF_dc h e) e (g.1.trans v.1), nI_1]
    obtain ⟨f1, f2⟩ := wput_fr σ l.length n k (σ.2.2.2.1 30 n k * f) f
    obtain ⟨f3, f4⟩ := wput_fr σ' l.length n k (σ.2.2.2.1 30 n k * f) f
    have w3 := w30 k
    have hm2 : 0 ≤ (σ.2.2.2.1 30 n k).toInt * f.toInt ∧ (σ.2.2.2.1 30 n k).toInt * f.toInt ≤ 144 := by
      refine ⟨Int.mul_nonneg w3.1 hf.1, ?_⟩
      have := Int.mul_le_mul w3.2 hf.2 hf.1 (by decide)
      omega
    have em := ti_mul (a := σ.2.2.2.1 30 n k) (b := f) (by omega) (by omega)
    have nxt := ih (k := k + 1) (m := m) (l := l ++ [(n, k)]) (σ := wput σ l.length n k (σ.2.2.2.1 30 n k * f) f) (σ' := wput σ' l.length n k (σ.2.2.2.1 30 n k * f) f) (WF_dc h f2.1) (f4.1.trans (e.trans f2.1.symm)) ((fz_alive f2).mpr a) (wput_VW v (by omega) (by omega) (by rw [em]; exact hm2) hf ht) (by rw [List.length_append, List.length_singleton]; exact wput_WTa g n k _ _) (by rw [dc_I f2.1 rfl]; omega) (by omega) (by rw [List.length_append, List.length_singleton]; omega)
    refine rel_mono nxt (fun τ τ' q => ⟨?_, ?_, f1.trans q.2.2.1, f2.trans q.2.2.2.1, f4.trans q.2.2.2.2.1, (wput_mn σ σ' _ _ _ _ _).trans q.2.2.2.2.2⟩)
    · have q1 := q.1
      rw [List.append_assoc] at q1
      exact q1
    · have q2 := q.2.1
      rw [List.length_append, List.length_singleton] at q2
      rw [show l.length + (d + 1) = l.length + 1 + d by omega]
      exact q2
theorem r_add {n : Nat} {f : Int32} (hf : 0 ≤ f.toInt ∧ f.toInt ≤ 12) {l : List (Nat × Nat)} {σ σ' : PvS} (h : WF σ) (e : dc σ' = dc σ) (a : alive σ n) (v : VW σ l) (g : WTa σ σ' l.length) (hl : l.length + 20 < 800) : rel (f_X8_add σ n f) (f_X8_add σ' n f) (fun τ τ' => VW τ (l ++ (List.range' 0 (σ.2.1 3 9 n).toInt.toNat).map (fun j => (n, j))) ∧ WTa τ τ' (l.length + (σ.2.1 3 9 n).toInt.toNat) ∧ frQ σ τ ∧ fz σ τ ∧ fz σ' τ' ∧ mn σ σ' τ τ') := by
  have w20 := (h.w n (h.t.alive_lt a)).1
  exact r_addw hf (k := 0) (m := fu) h e a v g (Nat.zero_add _) (by unfold fu; omega) (by omega)
/-- a state with a line's width and font -/
def lin (σ : PvS) (W F : Int32) : PvS := (σ.1, fun κ k i => if κ = 8 ∧ i = 0 ∧ k = 5 then W else if κ = 8 ∧ i = 0 ∧ k = 6 then F else σ.2.1 κ k i, σ.2.2)
theorem lin_I (σ : PvS) (W F : Int32) {κ k i : Nat} (h : ¬ (κ = 8 ∧ i = 0 ∧ (k = 5 ∨ k = 6))) : (lin σ W F).2.1 κ k i = σ.2.1 κ k i := by
  show (if κ = 8 ∧ i = 0 ∧ k = 5 then W else if κ = 8 ∧ i = 0 ∧ k = 6 then F else σ.2.1 κ k i) = _
  rw [if_neg (fun z => h ⟨z.1, z.2.1, by omega⟩), if_neg (fun z => h ⟨z.1, z.2.1, by omega⟩)]
theorem lin_mk (σ : PvS) (W F : Int32) : pvI (pvI σ 8 5 0 W) 8 6 0 F = lin σ W F := by
  unfold pvI lin up3
  refine congrArg (fun z => (σ.1, z, σ.2.2)) ?_
  funext κ k i
  by_cases h : κ = 8 ∧ i = 0
  · obtain ⟨rfl, rfl⟩ := h
    by_cases h5 : k = 5
    · subst h5; simp
    · simp [h5]
  · simp only [if_neg (show ¬ (κ = 8 ∧ k = 6 ∧ i = 0) from fun z => h ⟨z.1, z.2.2⟩), if_neg (show ¬ (κ = 8 ∧ k = 5 ∧ i = 0) from fun z => h ⟨z.1, z.2.2⟩), if_neg (show ¬ (κ = 8 ∧ i = 0 ∧ k = 5) from fun z => h ⟨z.1, z.2.1⟩), if_neg (show ¬ (κ = 8 ∧ i = 0 ∧ k = 6) from fun z => h ⟨z.1, z.2.1⟩)]
theorem lin_lin (σ : PvS) (W F W' F' : Int32) : lin (lin σ W F) W' F' = lin σ W' F' := by
  unfold lin
  refine congrArg (fun z => (σ.1, z, σ.2.2)) ?_
  funext κ q i
  by_cases h7 : κ = 8 ∧ i = 0 ∧ q = 5
  · simp only [if_pos h7]
  · by_cases h8 : κ = 8 ∧ i = 0 ∧ q = 6
    · simp only [if_neg h7, if_pos h8]
    · simp only [if_neg h7, if_neg h8]
theorem lin_56 (σ : PvS) (W F W' F' : Int32) : pvI (pvI (lin σ W F) 8 5 0 W') 8 6 0 F' = lin σ W' F' := by rw [lin_mk, lin_lin]
theorem r_takeLine {σ σ' : PvS} {l : List (Nat × Nat)} (v : VW σ l) (g : WTa σ σ' l.length) {i0 : Nat} (hi0 : i0 < l.length) (rm : Int32) : rel (f_X8_takeLine σ (nI i0) rm) (f_X8_takeLine σ' (nI i0) rm) (fun p p' => p'.1 = p.1 ∧ ∃ (k : Nat) (W F : Int32), p.1 = nI k ∧ i0 < k ∧ k ≤ l.length ∧ p.2 = lin σ W F ∧ p'.2 = lin σ' W F ∧ (0 ≤ W.toInt ∧ W.toInt ≤ 160 * ((k : Int) - i0)) ∧ (0 ≤ F.toInt ∧ F.toInt ≤ 12)) := by
  have hl := v.2.1
  have key : ∀ (d i m : Nat) (W F sp : Int32), i + d = l.length → d < m → i0 ≤ i → (0 ≤ W.toInt ∧ W.toInt ≤ 160 * ((i : Int) - i0)) → (0 ≤ F.toInt ∧ F.toInt ≤ 12) → (0 ≤ sp.toInt ∧ sp.toInt ≤ 12) → rel (f_X8_takeLine_19 m (lin σ W F) (nI i0) rm sp (nI i)) (f_X8_takeLine_19 m (lin σ' W F) (nI i0) rm sp (nI i)) (fun p p' => p'.1 = p.1 ∧ ∃ (k : Nat) (W F : Int32), p.1 = nI k ∧ i0 < k ∧ k ≤ l.length ∧ p.2 = lin σ W F ∧ p'.2 = lin σ' W F ∧ (0 ≤ W.toInt ∧ W.toInt ≤ 160 * ((k : Int) - i0)) ∧ (0 ≤ F.toInt ∧ F.toInt ≤ 12)) := by
    intro d
    induction d with
    | zero =>
      intro i m W F sp hi hm h0 hW hF hsp
      obtain ⟨m, rfl⟩ : ∃ q, m = q + 1 := ⟨m - 1, by omega⟩
      have q : nI l.length ≤ nI i := nI_le (by omega) (s31 (by omega))
      have e1 : (lin σ W F).2.1 8 4 0 = nI l.length := (lin_I _ _ _ (by omega)).trans v.1
      have e2 : (lin σ' W F).2.1 8 4 0 = nI l.length := (lin_I _ _ _ (by omega)).trans (g.1.trans v.1)
      refine rel_itp (by rw [e1]; exact q) (by rw [e2]; exact q) (rel_some ⟨by rw [e1, e2], l.length, W, F, e1, hi0, Nat.le_refl _, rfl, rfl, ?_, hF⟩)
      have : i = l.length := by omega
      subst this
      exact hW
    | succ d ih =>
      intro i m W F sp hi hm h0 hW hF hsp
      obtain ⟨m, rfl⟩ : ∃ q, m = q + 1 := ⟨m - 1, by omega⟩
      have hil : i < l.length := by omega
      obtain ⟨-, -, -, v28, v29, -⟩ := v.2.2 i l[i] (List.getElem?_eq_getElem hil)
      obtain ⟨ga, -⟩ := g.2 i hil
      have v8 := vin_n (show i < 800 by omega) (show 800 < 2 ^ 31 by decide)
      have cl : (nI i).toNatClampNeg = i := nI_clamp (s31 (by omega))
      have c1 : ¬ nI l.length ≤ nI i := nI_ge hil (s31 (by omega))
      have c2 : ¬ 800 ≤ nI i := nI_ge (b := 800) (by omega) (by decide)
      have e1 : (lin σ W F).2.1 8 4 0 = nI l.length := (lin_I _ _ _ (by omega)).trans v.1
      have e2 : (lin σ' W F).2.1 8 4 0 = nI l.length := (lin_I _ _ _ (by omega)).trans (g.1.trans v.1)
      have es := ti_add (a := sp) (b := σ.2.2.2.1 28 0 i) (by omega) (by omega)
      have eW := ti_add (a := W) (b := sp + σ.2.2.2.1 28 0 i) (by omega) (by omega)
      have eF := ti_max (a := F) (b := σ.2.2.2.1 29 0 i)
      have s63 : rel (f_X8_takeLine_63 (f_X8_takeLine_19 m) (lin σ W F) (nI i0) rm sp (nI i)) (f_X8_takeLine_63 (f_X8_takeLine_19 m) (lin σ' W F) (nI i0) rm sp (nI i)) (fun p p' => p'.1 = p.1 ∧ ∃ (k : Nat) (W F : Int32), p.1 = nI k ∧ i0 < k ∧ k ≤ l.length ∧ p.2 = lin σ W F ∧ p'.2 = lin σ' W F ∧ (0 ≤ W.toInt ∧ W.toInt ≤ 160 * ((k : Int) - i0)) ∧ (0 ≤ F.toInt ∧ F.toInt ≤ 12)) := by
        have ex : ∀ ρ : PvS, ρ.2.2.2.1 28 0 i = σ.2.2.2.1 28 0 i → ρ.2.2.2.1 29 0 i = σ.2.2.2.1 29 0 i → f_X8_takeLine_63 (f_X8_takeLine_19 m) (lin ρ W F) (nI i0) rm sp (nI i) = f_X8_takeLine_19 m (lin ρ (W + (sp + σ.2.2.2.1 28 0 i)) (imax F (σ.2.2.2.1 29 0 i))) (nI i0) rm (σ.2.2.2.1 29 0 i) (nI i + 1) := fun ρ r1 r2 => by
          unfold f_X8_takeLine_63
          rw [pvLen_28, gd_t v8, nm_t, pvLen_29, gd_t v8, nm_t, pvLen_29, gd_t v8]
          simp only [cl]
          have a1 : (lin ρ W F).2.1 8 5 0 = W := rfl
          have a2 : (lin ρ W F).2.2.2.1 28 0 i = σ.2.2.2.1 28 0 i := r1
          have a3 : ∀ z, (pvI (lin ρ W F) 8 5 0 z).2.1 8 6 0 = F := fun z => by rw [pvI_at, if_neg (by omega)]; rfl
          have a4 : ∀ z, (pvI (lin ρ W F) 8 5 0 z).2.2.2.1 29 0 i = σ.2.2.2.1 29 0 i := fun z => r2
          have a5 : ∀ z w, (pvI (pvI (lin ρ W F) 8 5 0 z) 8 6 0 w).2.2.2.1 29 0 i = σ.2.2.2.1 29 0 i := fun z w => r2
          rw [a1, a2, a3, a4, a5, lin_56]
        rw [ex σ rfl rfl, ex σ' (ga 28 (by omega)) (ga 29 (by omega)), nI_1]
        exact ih (i + 1) m _ _ _ (by omega) (by omega) (by omega) (by omega) (by omega) v29
      show rel (if (lin σ W F).2.1 8 4 0 ≤ nI i then some ((lin σ W F).2.1 8 4 0, lin σ W F) else if 800 ≤ nI i then some ((lin σ W F).2.1 8 4 0, lin σ W F) else if nI i ≤ nI i0 then f_X8_takeLine_63 (f_X8_takeLine_19 m) (lin σ W F) (nI i0) rm sp (nI i) else gd (vin (nI i) 800) (if W + sp + σ.2.2.2.1 28 0 (nI i).toNatClampNeg ≤ rm then f_X8_takeLine_63 (f_X8_takeLine_19 m) (lin σ W F) (nI i0) rm sp (nI i) else some (nI i, lin σ W F))) (if (lin σ' W F).2.1 8 4 0 ≤ nI i then some ((lin σ' W F).2.1 8 4 0, lin σ' W F) else if 800 ≤ nI i then some ((lin σ' W F).2.1 8 4 0, lin σ' W F) else if nI i ≤ nI i0 then f_X8_takeLine_63 (f_X8_takeLine_19 m) (lin σ' W F) (nI i0) rm sp (nI i) else gd (vin (nI i) 800) (if W + sp + σ'.2.2.2.1 28 0 (nI i).toNatClampNeg ≤ rm then f_X8_takeLine_63 (f_X8_takeLine_19 m) (lin σ' W F) (nI i0) rm sp (nI i) else some (nI i, lin σ' W F))) _
      rw [e1, e2]
      simp only [gd_t v8, cl, ga 28 (by omega)]
      refine rel_itn c1 c1 (rel_itn c2 c2 (rel_ite Iff.rfl (fun _ => s63) (fun c3 => rel_ite Iff.rfl (fun _ => s63) (fun _ => rel_some ⟨rfl, i, W, F, rfl, ?_, by omega, rfl, rfl, hW, hF⟩))))
      rcases Nat.lt_or_ge i0 i with z | z
      · exact z
      · exact absurd (nI_le z (s31 (by omega))) c3
  unfold f_X8_takeLine
  rw [nm_t, nm_t, nm_t, nm_t, lin_mk, lin_mk]
  have e0 : imax 0 (nI i0) = nI i0 := by
    have := imax_n (a := 0) (b := i0) (by decide) (s31 (by omega))
    rw [Nat.zero_max] at this
    exact this
  rw [e0]
  exact key (l.length - i0) i0 fu 0 0 0 (by omega) (by unfold fu; omega) (Nat.le_refl _) ⟨by decide, by show (0 : Int) ≤ _; omega⟩ ⟨by decide, by decide⟩ ⟨by decide, by decide⟩
