/-! PURE: what is hit, what a rule changes -/
section HIT
variable {C τ : PvS}
theorem f_isAt0 (L : LA C τ) (v : LV C) {n : Nat} (a : alive C n) : f_X4_isAt τ n (-5000) 0 = some 0 := by
  have h' := WF_dc v.1.f L.1.1
  have a' := L.al a
  have hb : f_X2_hasInBorder τ n (-5000) 0 = some 0 := by
    unfold f_X2_hasInBorder
    rw [ob1_t (f_isBox τ n), L.s0 a]
    by_cases hb : isbx (C.2.1 2 0 n)
    · rw [if_pos hb, if_neg (by decide)]
      obtain ⟨x, y, -, e2, rfl, q, -⟩ := q_bX L v a
      obtain ⟨x2, y2, -, e4, rfl, -⟩ := q_bW L v a
      rw [ob1_t e2, ob1_t e4, ob1_t (f_within _ _ _ _)]
      have hx : (-5000 : Int32) < y := ti_lt.mpr (by rw [show (-5000 : Int32).toInt = -5000 from rfl]; have := q hb; omega)
      rw [if_pos hx, if_pos rfl]
    · rw [if_neg hb, if_pos rfl]
  unfold f_X4_isAt
  rw [ob1_t hb, if_pos rfl, ob1_t (show f_X6_of τ 0 n 9 = _ from f_ofS h'.t a' (p := 9) (by decide))]
  have w20 := (v.1.f.w n (v.1.f.t.alive_lt a)).1
  obtain ⟨W, hW, hWi, -⟩ := cl_n w20.1
  have hW' : τ.2.1 3 9 n = nI W := (dc_I L.1.1 rfl 9 n).trans hW
  have key : ∀ (k j m : Nat) (f : Int32), j + k = W → k < m → f_X4_isAt_29 τ m n (-5000) 0 f (nI j) = some 0 := by
    intro k
    induction k with
    | zero =>
      intro j m f e hm
      obtain ⟨m, rfl⟩ : ∃ q, m = q + 1 := ⟨m - 1, by omega⟩
      have q : nI W ≤ nI j := nI_le (by omega) (s31 (by omega))
      unfold f_X4_isAt_29
      rw [if_pos (by rw [hW']; exact q)]
    | succ k ih =>
      intro j m f e hm
      obtain ⟨m, rfl⟩ : ∃ q, m = q + 1 := ⟨m - 1, by omega⟩
      have q : ¬ nI W ≤ nI j := nI_ge (by omega) (s31 (by omega))
      unfold f_X4_isAt_29
      rw [if_neg (by rw [hW']; exact q)]
      by_cases ht : C.2.1 2 0 n = 1
      · rw [if_pos (by rw [L.s0 a]; exact ht)]
        obtain ⟨x, y, -, e2, rfl, q1, -⟩ := q_wl L v a ht (j := j) (by omega)
        rw [ob1_t e2, ob1_t (f_letters h' (h'.t.alive_lt a') (j := j) (by rw [hW', ti_n (s31 (by omega))]; omega)), ob1_t (f_within _ _ _ _)]
        have hx : (-5000 : Int32) < y := ti_lt.mpr (by rw [show (-5000 : Int32).toInt = -5000 from rfl]; omega)
        rw [if_pos hx, if_pos rfl]
        unfold f_X4_isAt_79
        rw [if_neg (by decide), nI_1]
        exact ih (j + 1) m f (by omega) (by omega)
      · rw [if_neg (by rw [L.s0 a]; exact ht)]
  exact key W 0 fu _ (by omega) (by unfold fu; omega)
theorem f_hit0 (L : LA C τ) (v : LV C) : f_X9_hit_15 fu τ (-5000) 0 (-1) 0 = some (-1, τ) := by
  have hlen := v.1.f.t.len
  have hn15 := v.1.f.t.n
  have key : ∀ (ys xs : List Nat) (m : Nat), C.2.2.2.2 1 = xs ++ ys → ys.length < m → f_X9_hit_15 m τ (-5000) 0 (-1) (nI xs.length) = some (-1, τ) := by
    intro ys
    induction ys with
    | nil =>
      intro xs m hO hm
      obtain ⟨m, rfl⟩ : ∃ q, m = q + 1 := ⟨m - 1, by omega⟩
      rw [List.append_nil] at hO
      have q : nI (C.2.2.2.2 1).length ≤ nI xs.length := by rw [hO]; exact nI_le (Nat.le_refl _) (s31 (by rw [← hO]; omega))
      unfold f_X9_hit_15
      rw [dc_L L.1.1, if_pos q]
    | cons n ys ih =>
      intro xs m hO hm
      obtain ⟨m, rfl⟩ : ∃ q, m = q + 1 := ⟨m - 1, by omega⟩
      have hat := stepN hO rfl
      have hxs := at_lt hat
      have an : alive C n := List.mem_of_getElem? hat
      have nxt := ih (xs ++ [n]) m (by rw [hO, List.append_assoc]; rfl) (by simp only [List.length_cons] at hm; omega)
      rw [List.length_append] at nxt
      unfold f_X9_hit_15
      rw [dc_L L.1.1, if_neg (nI_ge hxs (s31 (by omega))), gd_t (vin_n hxs (s31 (by omega))), nm_t, nI_clamp (s31 (by omega)), getD_at hat, ob1_t (f_isAt0 L v an), if_pos rfl, nI_1]
      exact nxt
  exact key (C.2.2.2.2 1) [] fu rfl (by unfold fu; omega)
end HIT
theorem a_hit {d σ : PvS} {vw : Int32} (K : KS d vw σ) : tot (f_X9_hit σ (-5000) 0) (fun p => p.1 = -1 ∧ KS d vw p.2) := by
  unfold f_X9_hit
  rw [K.vw]
  obtain ⟨τ, e, Kτ, L⟩ := f_laid K K.wf.t.alive0 K.w20
  rw [ob2_t (show f_X9_laidOut σ 0 vw = _ from e), f_hit0 L (K.c K.w20).1]
  exact tot_some ⟨rfl, Kτ⟩
/-- what leaves all that is asked -/
theorem KS.gen {d σ τ : PvS} {vw vw' : Int32} (K : KS d vw σ) (dτ : dc τ = dc σ) (rows : ∀ κ i j, (κ ≠ 36 ∧ κ ≠ 37) ∨ i < 40 → τ.2.2.2.1 κ i j = σ.2.2.2.1 κ i j) (I : ∀ κ q i, (κ ≠ 9 ∧ (κ ≠ 6 ∨ i = 0)) → τ.2.1 κ q i = σ.2.1 κ q i) (hR : τ.2.2.1 = σ.2.2.1) (hL : τ.2.2.2.2 = σ.2.2.2.2) (hv : τ.2.1 9 5 0 = vw') (hw : 20 ≤ vw'.toInt ∧ vw'.toInt ≤ 2000) : KS d vw' τ := by
  have lt : ∀ {n}, alive σ n → n < 40 := fun {n} a => by have := K.1.1.t.alive_lt a; have := K.1.1.t.n; omega
  have al : ∀ {n}, alive τ n → alive σ n := fun {n} a => by have a : n ∈ τ.2.2.2.2 1 := a; rw [hL] at a; exact a
  refine ⟨⟨WF_dc K.1.1 dτ, fun h n a p hp => ?_, fun h => ?_⟩, dτ.trans K.q, hv, hw⟩
  · have := lt (al a)
    rw [rows 36 _ _ (by omega), rows 37 _ _ (by omega), dτ]
    exact K.1.2.1 (by rw [← I 6 2 0 (by omega)]; exact h) n (al a) p hp
  · rw [I 4 3 0 (by omega)] at h ⊢
    obtain ⟨h1, h2, L⟩ := K.1.2.2 h
    rw [dτ]
    have aC : ∀ {n}, alive (cL (dc σ) (σ.2.1 4 3 0)) n → alive σ n := fun {n} a => L.al a
    refine ⟨by rw [I 6 2 0 (by omega)]; exact h1, h2, ⟨dτ.trans L.1.1, fun n a p hp => ?_, fun n a => ?_⟩, fun n a => ⟨⟨fun hb q h5 h10 => ?_, fun ht j hj => ?_⟩, ?_⟩, ?_, ?_⟩
    · have := lt (aC a)
      show τ.2.2.2.1 36 (40 * 0 + n) p = _
      rw [rows 36 _ _ (by omega)]
      exact L.1.2.1 n a p hp
    · obtain ⟨x1, x2, x3, x4, x5⟩ := L.1.2.2 n a
      refine ⟨?_, ?_, ?_, ?_, ?_⟩
      · rw [I 2 0 n (by omega)]; exact x1
      · show τ.2.2.1 2 1 n = _; rw [hR]; exact x2
      · rw [I 2 2 n (by omega)]; exact x3
      · rw [I 2 3 n (by omega)]; exact x4
      · rw [I 2 4 n (by omega)]; exact x5
    · rw [I 2 q n (by omega)]; exact (L.2.1 n a).1.1 hb q h5 h10
    · rw [rows 32 n j (by omega), rows 33 n j (by omega)]; exact (L.2.1 n a).1.2 ht j hj
    · obtain ⟨x1, x2, x3⟩ := (L.2.1 n a).2
      refine ⟨?_, ?_, ?_⟩
      · rw [I 2 11 n (by omega)]; exact x1
      · rw [I 2 12 n (by omega)]; exact x2
      · rw [I 2 13 n (by omega)]; exact x3
    · rw [I 4 4 0 (by omega)]; exact L.2.2.1
    · rw [I 4 5 0 (by omega)]; exact L.2.2.2
theorem KS.fr1 {d σ τ : PvS} {vw : Int32} (K : KS d vw σ) (f : frS 1 σ τ) : KS d vw τ :=
  K.gen f.dc (fun κ i j h => f.2.2.2.1 κ i j (by omega)) (fun κ q i h => f.2.1 κ q i (by omega)) f.2.2.1 f.2.2.2.2 ((f.2.1 9 5 0 (by omega)).trans K.vw) K.w20
theorem KS.view {d σ : PvS} {vw : Int32} (K : KS d vw σ) {x : Int32} (hx : 20 ≤ x.toInt ∧ x.toInt ≤ 2000) : KS d x (pvI σ 9 5 0 x) :=
  K.gen (dc_eq rfl (fun κ q i e => by rw [pvI_at, if_neg (fun z => by rw [z.1] at e; cases e)]) (fun _ _ => rfl) (fun _ _ _ _ => rfl) rfl) (fun _ _ _ _ => rfl) (fun κ q i h => by rw [pvI_at, if_neg (by omega)]) rfl rfl (pvI_self _ _ _ _ _) hx
theorem f_differ {σ : PvS} (h : WFt σ) {n : Nat} (a : alive σ n) : ∃ r, f_X6_differFor σ 0 n 1 = some r ∧ (r = 0 ∨ r = 1) := by
  have h15 := h.n
  have hn := h.alive_lt a
  have key : ∀ (k j m : Nat), j + k = 14 → k < m → ∃ r, f_X6_differFor_2 σ m 0 n 1 (nI j) = some r ∧ (r = 0 ∨ r = 1) := by
    intro k
    induction k with
    | zero =>
      intro j m e hm
      obtain ⟨m, rfl⟩ : ∃ q, m = q + 1 := ⟨m - 1, by omega⟩
      have q : 14 ≤ nI j := nI_le (a := 14) (by omega) (s31 (by omega))
      rw [f_X6_differFor_2_s, if_pos q]
      exact ⟨0, rfl, Or.inl rfl⟩
    | succ k ih =>
      intro j m e hm
      obtain ⟨m, rfl⟩ : ∃ q, m = q + 1 := ⟨m - 1, by omega⟩
      have q : ¬ 14 ≤ nI j := nI_ge (b := 14) (by omega) (by decide)
      rw [f_X6_differFor_2_s, if_neg q, ob1_t (f_of (h.num hn) (by omega) (p := j) (by omega)), ob1_t (f_of (h.num hn) (by omega) (p := j) (by omega)), nI_1]
      split
      · exact ih (j + 1) m (by omega) (by omega)
      · exact ⟨1, rfl, Or.inr rfl⟩
  exact key 14 0 fu rfl (by unfold fu; omega)
theorem a_changed {d σ : PvS} {vw : Int32} (K : KS d vw σ) {r : Nat} (hr : r < d.1 1) : tot (f_X9_changedBy σ (nI r)) (fun p => (∃ c, p.1 = nI c ∧ c ≤ (d.2.2.2.2 1).length) ∧ KS d vw p.2) := by
  have e1 : σ.1 1 = d.1 1 := by rw [← K.q]; rfl
  unfold f_X9_changedBy
  rw [ob1_t (f_ruleAt K.1.1 (by rw [e1]; exact hr))]
  obtain ⟨A, eA, IA, dA, -, z9⟩ := f_fresh K.1
  have KA : KS d vw A := ⟨IA, dA.trans K.q, z9.trans K.vw, K.w20⟩
  rw [ob1_t eA]
  obtain ⟨B, eB, fB, -, -⟩ := f_work IA.1 1 (nI r)
  rw [ob1_t eB]
  have KB : KS d vw B := KA.fr1 fB
  have hO2 : B.2.2.2.2 1 = d.2.2.2.2 1 := by rw [← KB.q]; rfl
  have hlen := KB.wf.t.len
  have hn15 := KB.wf.t.n
  have key : ∀ (ys xs : List Nat) (m c : Nat), d.2.2.2.2 1 = xs ++ ys → ys.length < m → c ≤ xs.length → ∃ c2, f_X9_changedBy_33 m B (nI c) (nI xs.length) = some (nI c2, B) ∧ c2 ≤ (d.2.2.2.2 1).length := by
    intro ys
    induction ys with
    | nil =>
      intro xs m c hO hm hc
      obtain ⟨m, rfl⟩ : ∃ q, m = q + 1 := ⟨m - 1, by omega⟩
      rw [List.append_nil] at hO
      have q : nI (d.2.2.2.2 1).length ≤ nI xs.length := by rw [hO]; exact nI_le (Nat.le_refl _) (s31 (by rw [← hO]; omega))
      rw [f_X9_changedBy_33_s, hO2, if_pos q]
      exact ⟨c, rfl, by rw [hO]; exact hc⟩
    | cons n ys ih =>
      intro xs m c hO hm hc
      obtain ⟨m, rfl⟩ : ∃ q, m = q + 1 := ⟨m - 1, by omega⟩
      have hat := stepN hO rfl
      have hxs := at_lt hat
      have an : alive B n := by show n ∈ B.2.2.2.2 1; rw [hO2]; exact List.mem_of_getElem? hat
      have nxt := fun c hc => ih (xs ++ [n]) m c (by rw [hO, List.append_assoc]; rfl) (by simp only [List.length_cons] at hm; omega) hc
      rw [List.length_append] at nxt
      obtain ⟨r, er, hr01⟩ := f_differ KB.1.1.t an
      rw [f_X9_changedBy_33_s, hO2, if_neg (nI_ge hxs (s31 (by omega))), gd_t (vin_n hxs (s31 (by omega))), nm_t, nI_clamp (s31 (by omega)), getD_at hat, ob1_t er, nI_1, nI_1]
      split
      · exact nxt c (by omega)
      · exact nxt (c + 1) (by simp only [List.length_singleton]; omega)
  obtain ⟨c, e, hc⟩ := key (d.2.2.2.2 1) [] fu 0 rfl (by unfold fu; omega) (Nat.le_refl _)
  rw [show nI ([] : List Nat).length = 0 from rfl, show nI 0 = 0 from rfl] at e
  exact tot_eq e ⟨⟨c, rfl, hc⟩, KB⟩
