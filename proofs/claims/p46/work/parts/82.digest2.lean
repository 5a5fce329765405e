/-! PURE: the whole digest -/
theorem selv_dc (σ : PvS) (r n : Nat) : selv (dc σ) r n = selv σ r n := rfl
theorem f_ruleAt {σ : PvS} (h : WF σ) {r : Nat} (hr : r < σ.1 1) : f_X9_ruleAt σ (nI r) = some r := by
  have r24 := h.r.1
  unfold f_X9_ruleAt
  rw [h.r.2.1, List.length_range, if_neg (nI_pos (s31 (by omega))), if_pos (nI_lt hr (s31 (by omega))), gd_t (vin_n hr (s31 (by omega))), nm_t, nI_clamp (s31 (by omega)), getD_at (range_at hr)]
section DIGEST2
variable {C τ : PvS}
theorem q_matched (L : LA C τ) (v : LV C) {r : Nat} (hr : r < C.1 1) : rel (f_X9_matched C (nI r)) (f_X9_matched τ (nI r)) (fun x y => y = x) := by
  have h' := WF_dc v.1.f L.1.1
  have hr' : r < τ.1 1 := by rw [dc_1 L.1.1]; exact hr
  have hlen := v.1.f.t.len
  have hn15 := v.1.f.t.n
  have s7 : C.2.1 5 7 r = 1 := (v.1.f.r.2.2 r hr).2.2.1
  have s7' : τ.2.1 5 7 r = 1 := (h'.r.2.2 r hr').2.2.1
  have es : ∀ n, selv τ r n = selv C r n := fun n => by rw [← selv_dc τ, ← selv_dc C, L.1.1]
  unfold f_X9_matched
  rw [ob1_t (f_ruleAt v.1.f hr), ob1_t (f_ruleAt h' hr')]
  have key : ∀ (ys xs : List Nat) (m : Nat) (c : Int32), C.2.2.2.2 1 = xs ++ ys → ys.length < m → rel (f_X9_matched_11 C m r c (nI xs.length)) (f_X9_matched_11 τ m r c (nI xs.length)) (fun x y => y = x) := by
    intro ys
    induction ys with
    | nil =>
      intro xs m c hO hm
      obtain ⟨m, rfl⟩ : ∃ q, m = q + 1 := ⟨m - 1, by omega⟩
      rw [List.append_nil] at hO
      have q : nI (C.2.2.2.2 1).length ≤ nI xs.length := by rw [hO]; exact nI_le (Nat.le_refl _) (s31 (by rw [← hO]; omega))
      exact rel_itp q (by rw [dc_L L.1.1]; exact q) (rel_some rfl)
    | cons n ys ih =>
      intro xs m c hO hm
      obtain ⟨m, rfl⟩ : ∃ q, m = q + 1 := ⟨m - 1, by omega⟩
      have hat := stepN hO rfl
      have hxs := at_lt hat
      have nxt := fun c => ih (xs ++ [n]) m c (by rw [hO, List.append_assoc]; rfl) (by simp only [List.length_cons] at hm; omega)
      rw [List.length_append] at nxt
      rw [f_X9_matched_11_s, f_X9_matched_11_s, dc_L L.1.1, if_neg (nI_ge hxs (s31 (by omega))), if_neg (nI_ge hxs (s31 (by omega))), gd_t (vin_n hxs (s31 (by omega))), gd_t (vin_n hxs (s31 (by omega))), nm_t, nm_t, nI_clamp (s31 (by omega)), getD_at hat, ob1_t (f_selects s7), ob1_t (f_selects s7'), es n, nI_1]
      exact rel_ite Iff.rfl (fun _ => nxt _) (fun _ => nxt _)
  exact key (C.2.2.2.2 1) [] fu 0 rfl (by unfold fu; omega)
theorem q_118 (L : LA C τ) (v : LV C) (x : Int64) : rel (f_X9_digest_118 fu C x 0) (f_X9_digest_118 fu τ x 0) (fun p q => q.1 = p.1 ∧ p.2 = C ∧ q.2 = τ) := by
  have h' := WF_dc v.1.f L.1.1
  have r24 := v.1.f.r.1
  have key : ∀ (k j m : Nat) (x : Int64), j + k = C.1 1 → k < m → rel (f_X9_digest_118 m C x (nI j)) (f_X9_digest_118 m τ x (nI j)) (fun p q => q.1 = p.1 ∧ p.2 = C ∧ q.2 = τ) := by
    intro k
    induction k with
    | zero =>
      intro j m x e hm
      obtain ⟨m, rfl⟩ : ∃ q, m = q + 1 := ⟨m - 1, by omega⟩
      have q : nI (C.2.2.2.2 2).length ≤ nI j := by rw [v.1.f.r.2.1, List.length_range]; exact nI_le (by omega) (s31 (by omega))
      unfold f_X9_digest_118 f_X9_rules
      exact rel_itp q (by rw [dc_L L.1.1]; exact q) (rel_some ⟨rfl, rfl, rfl⟩)
    | succ k ih =>
      intro j m x e hm
      obtain ⟨m, rfl⟩ : ∃ q, m = q + 1 := ⟨m - 1, by omega⟩
      have hj : j < C.1 1 := by omega
      have hj' : j < τ.1 1 := by rw [dc_1 L.1.1]; exact hj
      have q : ¬ nI (C.2.2.2.2 2).length ≤ nI j := by rw [v.1.f.r.2.1, List.length_range]; exact nI_ge (by omega) (s31 (by omega))
      unfold f_X9_digest_118 f_X9_rules f_X9_weight
      refine rel_itn q (by rw [dc_L L.1.1]; exact q) ?_
      rw [ob1_t (f_ruleAt v.1.f hj), ob1_t (f_ruleAt h' hj'), dc_I L.1.1 rfl 8 j]
      refine rel_ob1 (show rel (some (C.2.1 5 8 j)) (some (C.2.1 5 8 j)) (fun x y => y = x) from rel_some rfl) (fun r r' q => ?_)
      subst q
      refine rel_ob1 (q_matched L v hj) (fun r r' q => ?_)
      subst q
      rw [nI_1]
      exact ih (j + 1) m _ (by omega) (by omega)
  exact key (C.1 1) 0 fu x (by omega) (by unfold fu; omega)
theorem q_62 (L : LA C τ) (v : LV C) (x : Int64) : rel (f_X9_digest_62 fu C x 0) (f_X9_digest_62 fu τ x 0) (fun p q => q.1 = p.1 ∧ p.2 = C ∧ q.2 = τ) := by
  have h' := WF_dc v.1.f L.1.1
  have n15 := v.1.f.t.n
  have key : ∀ (k j m : Nat) (x : Int64), j + k = C.1 0 → k < m → rel (f_X9_digest_62 m C x (nI j)) (f_X9_digest_62 m τ x (nI j)) (fun p q => q.1 = p.1 ∧ p.2 = C ∧ q.2 = τ) := by
    intro k
    induction k with
    | zero =>
      intro j m x e hm
      obtain ⟨m, rfl⟩ : ∃ q, m = q + 1 := ⟨m - 1, by omega⟩
      unfold f_X9_digest_62
      rw [ob1_t (f_added v.1.f.t), ob1_t (f_added h'.t), dc_1 L.1.1]
      have q : nI (C.1 0) ≤ nI j := nI_le (by omega) (s31 (by omega))
      exact rel_itp q q (q_118 L v x)
    | succ k ih =>
      intro j m x e hm
      obtain ⟨m, rfl⟩ : ∃ q, m = q + 1 := ⟨m - 1, by omega⟩
      have hj : j < C.1 0 := by omega
      unfold f_X9_digest_62
      rw [ob1_t (f_added v.1.f.t), ob1_t (f_added h'.t), dc_1 L.1.1, nI_1]
      have q : ¬ nI (C.1 0) ≤ nI j := nI_ge (by omega) (s31 (by omega))
      refine rel_itn q q ?_
      by_cases a : alive C j
      · rw [ob1_t (f_isThere_t v.1.f.t a), ob1_t (f_isThere_t h'.t (L.al a))]
        refine rel_itn (by decide) (by decide) ?_
        rw [ob1_t (f_nodeAt v.1.f.t a), ob1_t (f_nodeAt h'.t (L.al a))]
        refine rel_ob1 (q_place L v a x) (fun r r' q => ?_)
        subst q
        refine rel_ob1 (q_dbox L v a _) (fun r r' q => ?_)
        subst q
        refine rel_ob1 (q_dsty L v a _) (fun r r' q => ?_)
        subst q
        refine rel_ob1 (q_dwords L v a _) (fun r r' q => ?_)
        subst q
        exact ih (j + 1) m _ (by omega) (by omega)
      · have a' : ¬ alive τ j := fun z => a (by show j ∈ C.2.2.2.2 1; rw [← dc_L L.1.1]; exact z)
        rw [ob1_t (f_isThere_f v.1.f.t hj a), ob1_t (f_isThere_f h'.t (by rw [dc_1 L.1.1]; exact hj) a')]
        exact rel_itp rfl rfl (ih (j + 1) m x (by omega) (by omega))
  exact key (C.1 0) 0 fu x (by omega) (by unfold fu; omega)
end DIGEST2
/-- the digest of a document -/
def dgv (d : PvS) (vw : Int32) : Int64 := match f_X2_highWithEdges (cL d vw) 0 with
  | none => 0
  | some h => match f_X9_digest_62 fu (cL d vw) (((((((((58030 : Int64) * 31) + (nI (d.1 0)).toInt64) * 31) + (nI (d.2.2.2.2 1).length).toInt64) * 31) + (nI (d.2.2.2.2 2).length).toInt64) * 31) + h.toInt64) 0 with
    | none => 0
    | some p => p.1
theorem a_digest {d σ : PvS} {vw : Int32} (K : KS d vw σ) : tot (f_X9_digest σ) (fun p => p.1 = dgv d vw ∧ KS d vw p.2) := by
  have e1 : σ.1 0 = d.1 0 := by rw [← K.q]; rfl
  have eL : σ.2.2.2.2 = d.2.2.2.2 := by rw [← K.q]; rfl
  unfold f_X9_digest f_X9_nodes f_X9_rules
  rw [ob1_t (f_added K.1.1.t), e1, eL, K.vw]
  rw [ob1_t (show (some (nI (d.2.2.2.2 1).length) : Option Int32) = some _ from rfl), ob1_t (show (some (nI (d.2.2.2.2 2).length) : Option Int32) = some _ from rfl)]
  obtain ⟨τ, e, Kτ, L⟩ := f_laid K K.wf.t.alive0 K.w20
  rw [ob2_t (show f_X9_laidOut σ 0 vw = _ from e)]
  have v := (K.c K.w20).1
  obtain ⟨x, y, e2, e3, rfl, -⟩ := q_hwe L v
  rw [ob1_t e3]
  obtain ⟨a, b, e4, e5, q1, -, q3⟩ := q_62 L v (((((((((58030 : Int64) * 31) + (nI (d.1 0)).toInt64) * 31) + (nI (d.2.2.2.2 1).length).toInt64) * 31) + (nI (d.2.2.2.2 2).length).toInt64) * 31) + y.toInt64)
  refine ⟨b, e5, ?_, by rw [q3]; exact Kτ⟩
  unfold dgv
  rw [e2]
  show b.1 = (match f_X9_digest_62 fu (cL d vw) _ 0 with | none => 0 | some p => p.1)
  rw [e4]
  exact q1
