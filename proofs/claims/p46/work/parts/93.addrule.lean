/-! PURE: a rule is added -/
def rul (σ : PvS) (x y z : Int32) : PvS := pvL (pvRule (fgt σ) x y z) 2 (σ.2.2.2.2 2 ++ [σ.1 1])
theorem rul_L (σ : PvS) (x y z : Int32) {k : Nat} (h : k ≠ 2) : (rul σ x y z).2.2.2.2 k = σ.2.2.2.2 k := by
  show (if k = 2 then σ.2.2.2.2 2 ++ [σ.1 1] else σ.2.2.2.2 k) = _
  exact if_neg h
theorem rul_L2 (σ : PvS) (x y z : Int32) : (rul σ x y z).2.2.2.2 2 = σ.2.2.2.2 2 ++ [σ.1 1] := by
  show (if (2 : Nat) = 2 then σ.2.2.2.2 2 ++ [σ.1 1] else σ.2.2.2.2 2) = _
  exact if_pos rfl
theorem rul_1 (σ : PvS) (x y z : Int32) (k : Nat) : (rul σ x y z).1 k = if k = 1 then σ.1 1 + 1 else σ.1 k := rfl
theorem rul_I (σ : PvS) (x y z : Int32) {κ q i : Nat} (h : κ ≠ 5 ∨ i ≠ σ.1 1) (h4 : κ ≠ 4) (h6 : κ ≠ 6) : (rul σ x y z).2.1 κ q i = σ.2.1 κ q i := by
  show (if i = (fgt σ).1 1 ∧ κ = 5 then _ else (fgt σ).2.1 κ q i) = _
  rw [if_neg (fun e => by
    have e1 : i = σ.1 1 := e.1
    omega)]
  exact fgt_I σ h4 h6
theorem rul_5 (σ : PvS) (x y z : Int32) (q : Nat) : (rul σ x y z).2.1 5 q (σ.1 1) = if q = 0 then x else if q = 1 then y else if q = 2 then z else if q = 9 then 1 else 0 := by
  show (if σ.1 1 = (fgt σ).1 1 ∧ 5 = 5 then _ else _) = _
  exact if_pos ⟨rfl, rfl⟩
theorem rul_A (σ : PvS) (x y z : Int32) {κ i j : Nat} (h : κ < 38 ∨ 41 < κ) : (rul σ x y z).2.2.2.1 κ i j = σ.2.2.2.1 κ i j := by
  show (if i = (fgt σ).1 1 ∧ (κ = 38 ∨ κ = 39 ∨ κ = 40 ∨ κ = 41) then 0 else σ.2.2.2.1 κ i j) = _
  exact if_neg (fun e => by omega)
theorem LI.rule {N i p : Nat} {σ τ : PvS} (b : LI N i p σ) (hi : i < 24) {q : Nat} (hq : q < 14) {y z : Int32} (hy : srg q y) (hz : is01 z) (t : PT (σ.1 1) (fgt (rul σ (nI q) y z)) τ) : LI N (i + 1) p τ := by
  obtain ⟨t1, t2, t3, t4, t5, t6⟩ := t
  have c : ∀ k, τ.1 k = if k = 1 then σ.1 1 + 1 else σ.1 k := fun k => by rw [t1]; exact rul_1 σ (nI q) y z k
  have c0 : τ.1 0 = σ.1 0 := (c 0).trans (if_neg (by decide))
  have c1 : τ.1 1 = σ.1 1 + 1 := (c 1).trans (if_pos rfl)
  have c3 : τ.1 3 = σ.1 3 := (c 3).trans (if_neg (by decide))
  have I : ∀ κ k j, (κ ≠ 5 ∨ j ≠ σ.1 1) → κ ≠ 4 → κ ≠ 6 → τ.2.1 κ k j = σ.2.1 κ k j := fun κ k j h h4 h6 => by
    rw [t2 κ k j (by omega), fgt_I _ h4 h6, rul_I σ _ _ _ h h4 h6]
  have A : ∀ κ x w, (κ < 38 ∨ 41 < κ) → τ.2.2.2.1 κ x w = σ.2.2.2.1 κ x w := fun κ x w h => (t5 κ x w h).trans (rul_A σ _ _ _ h)
  have L : ∀ k, k ≠ 2 → τ.2.2.2.2 k = σ.2.2.2.2 k := fun k h => by rw [t6]; exact rul_L σ _ _ _ h
  have L2 : τ.2.2.2.2 2 = σ.2.2.2.2 2 ++ [σ.1 1] := by rw [t6]; exact rul_L2 σ _ _ _
  have pr : par τ = par σ := by funext v; show τ.2.2.1 3 8 v = _; rw [t4]; rfl
  have ch : chl τ = chl σ := by funext u; exact L (u + 3) (by omega)
  have w5 : ∀ k, k ≠ 7 → k ≠ 8 → τ.2.1 5 k (σ.1 1) = if k = 0 then nI q else if k = 1 then y else if k = 2 then z else if k = 9 then 1 else 0 := fun k h7 h8 => by
    rw [t2 5 k (σ.1 1) (by omega), fgt_I _ (by decide) (by decide)]; exact rul_5 σ _ _ _ k
  have hr := b.1.r
  have wf : WF τ := by
    refine ⟨⟨b.1.t.1.congr c0 (L 0 (by decide)) ch pr (fun j => I 3 0 j (by omega) (by decide) (by decide)) (fun j => I 3 1 j (by omega) (by decide) (by decide)) (fun j h => by rw [I 3 13 j (by omega) (by decide) (by decide)]; exact h), by rw [L 1 (by decide), ch]; exact b.1.t.2.1, fun u hu => ?_⟩, b.1.w.congr c0 (fun j => I 3 1 j (by omega) (by decide) (by decide)) (fun j => I 3 9 j (by omega) (by decide) (by decide)) (fun j => I 3 12 j (by omega) (by decide) (by decide)) (fun j w => A 30 j w (by omega)) (fun j w => A 31 j w (by omega)), ?_, ?_, fun r hr2 => ?_⟩
    · rw [I 3 13 u (by omega) (by decide) (by decide), L 1 (by decide)]
      exact b.1.t.2.2 u (by rw [← c0]; exact hu)
    · rw [c1]; have := b.2.1.2; omega
    · rw [L2, c1, hr.2.1, List.range_succ]
    · rw [c1] at hr2
      by_cases e : r = σ.1 1
      · subst e
        have e0 : τ.2.1 5 0 (σ.1 1) = nI q := w5 0 (by decide) (by decide)
        have e1 : τ.2.1 5 1 (σ.1 1) = y := w5 1 (by decide) (by decide)
        have e2 : τ.2.1 5 2 (σ.1 1) = z := w5 2 (by decide) (by decide)
        have e9 : τ.2.1 5 9 (σ.1 1) = 1 := w5 9 (by decide) (by decide)
        rw [e0, e1, e2, e9, t3]
        exact ⟨⟨q, hq, rfl, hy⟩, hz, rfl, Or.inr rfl⟩
      · rw [I 5 0 r (Or.inr e) (by decide) (by decide), I 5 1 r (Or.inr e) (by decide) (by decide), I 5 2 r (Or.inr e) (by decide) (by decide), I 5 7 r (Or.inr e) (by decide) (by decide), I 5 9 r (Or.inr e) (by decide) (by decide)]
        exact hr.2.2 r (by omega)
  have k6 : τ.2.1 6 2 0 = 0 := (t2 6 2 0 (by omega)).trans (fgt_64 _).1
  have k4 : τ.2.1 4 3 0 = 0 := (t2 4 3 0 (by omega)).trans (fgt_64 _).2
  refine b.upd wf c0 (by rw [c3]; exact Nat.le_refl _) (by rw [c1]; have := b.2.1.2; omega) k6 k4 (I 9 5 0 (by omega) (by decide) (by decide)) (I 51 0 0 (by omega) (by decide) (by decide)) (L 1 (by decide)) pr (fun j => by rw [t4]; rfl) (fun o w => A 52 o w (by omega)) (fun w => A 53 p w (by omega)) (fun j _ => I 3 1 j (by omega) (by decide) (by decide)) (fun r hr2 => ?_)
  rw [c1] at hr2
  by_cases e : r = σ.1 1
  · rw [e]; exact w5 9 (by decide) (by decide)
  · rw [I 5 9 r (Or.inr e) (by decide) (by decide)]; exact b.2.2.2.2.2.2.1 r (by omega)
theorem tb_ok : ∀ q : Nat, q < 13 → (tb1 q).toInt ≤ slo q ∧ shi q ≤ (tb2 q).toInt := by decide +kernel
theorem f_valueOf {σ : PvS} {q : Nat} (hq : q < 13) {v : Int32} (hv : srg q v) : f_X9_isValueOf σ (nI q) v = some 1 := by
  have t := tb_ok q hq
  have v14 := vin_n (show q < 14 by omega) (show 14 < 2 ^ 31 by decide)
  have hv : slo q ≤ v.toInt ∧ v.toInt ≤ shi q := hv
  unfold f_X9_isValueOf
  rw [ob1_t (f_prop (show q < 14 by omega)), if_neg (by decide), gd_t v14, if_neg (fun z => by have := ti_lt.mp z; rw [nI_clamp (s31 (by omega))] at this; omega), gd_t v14, if_neg (fun z => by have := ti_lt.mp z; rw [nI_clamp (s31 (by omega))] at this; omega)]
theorem f_addRule {N i p : Nat} {σ : PvS} (b : LI N i p σ) (hi : i < 24) {q : Nat} (hq : q < 13) {y z : Int32} (hy : srg q y) (hz : is01 z) : f_X9_addRule σ (nI q) y z = some (nI (σ.1 1), rul σ (nI q) y z) := by
  have hr := b.1.r
  have h1 := b.2.1.2
  have ll : (σ.2.2.2.2 2).length = σ.1 1 := by rw [hr.2.1, List.length_range]
  unfold f_X9_addRule f_X9_addRule_42
  rw [ob1_t (f_prop (show q < 14 by omega)), if_neg (by decide), ob1_t (f_valueOf hq hy), if_neg (by decide), ll, if_pos (show nI (σ.1 1) < 24 from ti_lt.mpr (by rw [ti_n (s31 (by omega)), show (24 : Int32).toInt = 24 from rfl]; omega)), ob1_t (f_fgt σ), gd_t hz, nm_t]
  rw [gd_t (show ((pvRule (fgt σ) (nI q) y z).2.2.2.2 2).length < 64 from by show (σ.2.2.2.2 2).length < 64; omega), nm_t]
  show some (nI ((rul σ (nI q) y z).2.2.2.2 2).length - 1, rul σ (nI q) y z) = _
  rw [rul_L2, List.length_append, ll, List.length_singleton, nI_pred]
theorem f_addPart {N i p : Nat} {σ : PvS} (b : LI N i p σ) (hi : i < 24) {q : Nat} {y z tag : Int32} (htag : 0 ≤ tag.toInt ∧ tag.toInt ≤ 3) : ∃ τ w, f_X9_addPart (rul σ (nI q) y z) (nI (σ.1 1)) tag (-1) 0 0 = some (w, τ) ∧ PT (σ.1 1) (fgt (rul σ (nI q) y z)) τ := by
  have hr := b.1.r
  have h1 := b.2.1.2
  have ll : ((rul σ (nI q) y z).2.2.2.2 2) = List.range (σ.1 1 + 1) := by rw [rul_L2, hr.2.1, List.range_succ]
  have e7 : (rul σ (nI q) y z).2.1 5 7 (σ.1 1) = 0 := rul_5 σ _ _ _ 7
  obtain ⟨τ, et, pt⟩ := f_takePart (σ := fgt (rul σ (nI q) y z)) (r := σ.1 1) (tag := tag) ((fgt_I _ (by decide) (by decide)).trans e7)
  have ea : f_X9_ruleAt (rul σ (nI q) y z) (nI (σ.1 1)) = some (σ.1 1) := by
    unfold f_X9_ruleAt
    rw [ll, List.length_range, if_neg (nI_pos (s31 (by omega))), if_pos (nI_lt (Nat.lt_succ_self _) (s31 (by omega))), gd_t (vin_n (Nat.lt_succ_self _) (s31 (by omega))), nm_t, nI_clamp (s31 (by omega)), getD_at (range_at (Nat.lt_succ_self _))]
  refine ⟨τ, τ.2.1 5 7 (σ.1 1), ?_, pt⟩
  unfold f_X9_addPart
  rw [ob1_t ea, if_neg (fun w => by have := ti_lt.mp w; rw [show (-1 : Int32).toInt = -1 from rfl] at this; omega), if_neg (fun w => by have := ti_lt.mp w; rw [show (7 : Int32).toInt = 7 from rfl] at this; omega)]
  unfold f_X9_addPart_23
  rw [if_neg (by decide), if_neg (by decide)]
  unfold f_X9_addPart_41
  rw [if_neg (by decide), if_neg (by decide), if_neg (by decide), if_pos (by decide), if_pos (by rw [e7]; decide), ob1_t (f_fgt _), ob1_t et]
