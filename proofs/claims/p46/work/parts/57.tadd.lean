/-! PURE: nodes are added -/
def app0 (σ : PvS) (u : Nat) (t g : Int32) : PvS := pvL (pvR (pvL (pvNode σ (nI (σ.1 0)) t g) 0 (σ.2.2.2.2 0 ++ [σ.1 0])) 3 8 (σ.1 0) (some u)) (u + 3) (chl σ u ++ [σ.1 0])
def app (σ : PvS) (u : Nat) (t g : Int32) : PvS := pvL (app0 σ u t g) 1 (pre (chl (app0 σ u t g)) 11 0)
theorem app_1 (σ : PvS) (u : Nat) (t g : Int32) : (app σ u t g).1 = va_up σ.1 0 (σ.1 0 + 1) := rfl
theorem app_n (σ : PvS) (u : Nat) (t g : Int32) : (app σ u t g).1 0 = σ.1 0 + 1 := by rw [app_1]; exact if_pos rfl
theorem app_m (σ : PvS) (u : Nat) (t g : Int32) {k : Nat} (h : k ≠ 0) : (app σ u t g).1 k = σ.1 k := by rw [app_1]; exact if_neg h
theorem app_I (σ : PvS) (u : Nat) (t g : Int32) {κ k i : Nat} (h : i ≠ σ.1 0) : (app σ u t g).2.1 κ k i = σ.2.1 κ k i := if_neg (fun q => h q.1)
theorem app_I5 (σ : PvS) (u : Nat) (t g : Int32) {κ k i : Nat} (h : 3 < κ) : (app σ u t g).2.1 κ k i = σ.2.1 κ k i := if_neg (fun q => by omega)
theorem app_In (σ : PvS) (u : Nat) (t g : Int32) (k : Nat) : (app σ u t g).2.1 3 k (σ.1 0) = if k = 0 then nI (σ.1 0) else if k = 1 then t else if k = 2 then g else 0 := by
  show (if σ.1 0 = σ.1 0 ∧ (3 = 1 ∨ 3 = 2 ∨ 3 = 3) then _ else _) = _
  rw [if_pos ⟨rfl, Or.inr (Or.inr rfl)⟩, if_pos rfl]
theorem app_A (σ : PvS) (u : Nat) (t g : Int32) {κ i j : Nat} (h : i ≠ σ.1 0) : (app σ u t g).2.2.2.1 κ i j = σ.2.2.2.1 κ i j := if_neg (fun q => h q.1)
theorem app_Ak (σ : PvS) (u : Nat) (t g : Int32) {κ i j : Nat} (h : κ < 30 ∨ 33 < κ) : (app σ u t g).2.2.2.1 κ i j = σ.2.2.2.1 κ i j := if_neg (fun q => by omega)
theorem app_An (σ : PvS) (u : Nat) (t g : Int32) {κ : Nat} (j : Nat) (h : κ = 30 ∨ κ = 31) : (app σ u t g).2.2.2.1 κ (σ.1 0) j = if κ = 31 ∧ t = 0 then dcl 14 j else 0 := by
  show (if σ.1 0 = σ.1 0 ∧ (κ = 30 ∨ κ = 31 ∨ κ = 32 ∨ κ = 33) then _ else _) = _
  exact if_pos ⟨rfl, by omega⟩
theorem app0_par {σ : PvS} {u : Nat} {t g : Int32} (v : Nat) : par (app0 σ u t g) v = if v = σ.1 0 then some u else par σ v := by
  show (pvR _ 3 8 (σ.1 0) (some u)).2.2.1 3 8 v = _
  rw [pvR_at]
  by_cases e : v = σ.1 0
  · rw [if_pos ⟨rfl, rfl, e⟩, if_pos e]
  · rw [if_neg (fun q => e q.2.2), if_neg e]
    exact if_neg (fun q => e q.1)
theorem app0_chl {σ : PvS} {u : Nat} {t g : Int32} (v : Nat) : chl (app0 σ u t g) v = if v = u then chl σ u ++ [σ.1 0] else if v = σ.1 0 then [] else chl σ v := by
  show (pvL _ (u + 3) _).2.2.2.2 (v + 3) = _
  rw [pvL_at]
  by_cases e : v = u
  · rw [if_pos (by omega), if_pos e]
  · rw [if_neg (by omega), if_neg e]
    show (pvL _ 0 _).2.2.2.2 (v + 3) = _
    rw [pvL_at, if_neg (by omega)]
    show va_up σ.2.2.2.2 (σ.1 0 + 3) [] (v + 3) = _
    unfold va_up
    by_cases e2 : v = σ.1 0
    · rw [if_pos (by omega), if_pos e2]
    · rw [if_neg (by omega), if_neg e2]; rfl
theorem app0_L0 {σ : PvS} {u : Nat} {t g : Int32} : (app0 σ u t g).2.2.2.2 0 = σ.2.2.2.2 0 ++ [σ.1 0] := by
  show (pvL _ (u + 3) _).2.2.2.2 0 = _
  rw [pvL_at, if_neg (by omega)]
  show (pvL _ 0 _).2.2.2.2 0 = _
  rw [pvL_at, if_pos rfl]
theorem app_L2 {σ : PvS} {u : Nat} {t g : Int32} : (app σ u t g).2.2.2.2 2 = σ.2.2.2.2 2 := by
  show (pvL _ 1 _).2.2.2.2 2 = _
  rw [pvL_at, if_neg (by decide)]
  show (pvL _ (u + 3) _).2.2.2.2 2 = _
  rw [pvL_at, if_neg (by omega)]
  show (pvL _ 0 _).2.2.2.2 2 = _
  rw [pvL_at, if_neg (by decide)]
  show va_up σ.2.2.2.2 (σ.1 0 + 3) [] 2 = _
  exact if_neg (by omega)
theorem app_par {σ : PvS} {u : Nat} {t g : Int32} (v : Nat) : par (app σ u t g) v = if v = σ.1 0 then some u else par σ v := app0_par v
theorem app_dp {σ : PvS} (h : WFt σ) {u : Nat} {t g : Int32} (hu : u < σ.1 0) {dp : Nat → Nat} (d1 : ∀ v, v < σ.1 0 → dp v ≤ 10) (d2 : ∀ v, v < σ.1 0 → par σ v = none → dp v = 0) (d3 : ∀ v u, v < σ.1 0 → par σ v = some u → dp v = dp u + 1) (hd : dp u ≤ 9) : (∀ v, v < σ.1 0 + 1 → (if v = σ.1 0 then dp u + 1 else dp v) ≤ 10) ∧ (∀ v, v < σ.1 0 + 1 → par (app σ u t g) v = none → (if v = σ.1 0 then dp u + 1 else dp v) = 0) ∧ ∀ v w, v < σ.1 0 + 1 → par (app σ u t g) v = some w → (if v = σ.1 0 then dp u + 1 else dp v) = (if w = σ.1 0 then dp u + 1 else dp w) + 1 := by
  refine ⟨fun v hv => ?_, fun v hv q => ?_, fun v w hv q => ?_⟩
  · split
    · omega
    · exact d1 v (by omega)
  · rw [app_par] at q
    by_cases e : v = σ.1 0
    · rw [if_pos e] at q; cases q
    · rw [if_neg e] at q; rw [if_neg e]; exact d2 v (by omega) q
  · rw [app_par] at q
    by_cases e : v = σ.1 0
    · rw [if_pos e] at q; cases q
      rw [if_pos e, if_neg (by omega)]
    · rw [if_neg e] at q
      have := (h.pa (by omega) q).1
      rw [if_neg e, if_neg (by omega)]
      exact d3 v w (by omega) q
theorem app0_WFc {σ : PvS} (h : WFt σ) {u : Nat} {t g : Int32} (au : alive σ u) (hn : σ.1 0 < 15) (tu : σ.2.1 3 1 u = 0) (ht : is01 t) {dp : Nat → Nat} (d1 : ∀ v, v < σ.1 0 → dp v ≤ 10) (d2 : ∀ v, v < σ.1 0 → par σ v = none → dp v = 0) (d3 : ∀ v u, v < σ.1 0 → par σ v = some u → dp v = dp u + 1) (hd : dp u ≤ 9) : WFc (app0 σ u t g) := by
  have hu := h.alive_lt au
  have n0 := h.n
  have pn : par (app0 σ u t g) (σ.1 0) = some u := by rw [app0_par, if_pos rfl]
  have po : ∀ v, v ≠ σ.1 0 → par (app0 σ u t g) v = par σ v := fun v q => by rw [app0_par, if_neg q]
  have e0 : (app0 σ u t g).1 0 = σ.1 0 + 1 := app_n σ u t g
  refine ⟨by rw [e0]; omega, by rw [app0_L0, e0, h.l0, List.range_succ], fun v hv => ?_, ⟨(app_I σ u t g (by omega)).trans h.root.1, by rw [po 0 (by omega)]; exact h.root.2⟩, fun w v hw => ?_, fun w hw => ?_, fun v w hv q => ?_, ?_⟩
  · rw [e0] at hv
    by_cases e : v = σ.1 0
    · subst e
      refine ⟨(app_In σ u t g 0).trans (if_pos rfl), ?_, ?_⟩
      · rw [show (app0 σ u t g).2.1 3 1 (σ.1 0) = t from app_In σ u t g 1]; exact ht
      · rw [show (app0 σ u t g).2.1 3 13 (σ.1 0) = 0 from app_In σ u t g 13]; exact Or.inl rfl
    · have hv' : v < σ.1 0 := by omega
      rw [show (app0 σ u t g).2.1 3 0 v = _ from app_I σ u t g e, show (app0 σ u t g).2.1 3 1 v = _ from app_I σ u t g e, show (app0 σ u t g).2.1 3 13 v = _ from app_I σ u t g e]
      exact h.c.2.2.1 v hv'
  · rw [e0] at hw ⊢
    rw [app0_chl, app0_par]
    by_cases e : w = u
    · subst e
      rw [if_pos rfl, List.mem_append, List.mem_singleton, h.ch hu]
      by_cases z : v = σ.1 0
      · rw [if_pos z]
        exact ⟨fun _ => ⟨by omega, rfl⟩, fun _ => Or.inr z⟩
      · rw [if_neg z]
        exact ⟨fun q => q.elim (fun q => ⟨by omega, q.2⟩) (fun q => absurd q z), fun q => Or.inl ⟨by omega, q.2⟩⟩
    · rw [if_neg e]
      by_cases z : v = σ.1 0
      · rw [if_pos z]
        refine ⟨fun q => ?_, fun q => absurd (Option.some.inj q.2).symm e⟩
        by_cases z2 : w = σ.1 0
        · rw [if_pos z2] at q; cases q
        · rw [if_neg z2] at q
          have := ((h.ch (by omega)).mp q).1
          omega
      · rw [if_neg z]
        by_cases z2 : w = σ.1 0
        · rw [if_pos z2]
          refine ⟨(fun q => nomatch q), fun q => ?_⟩
          have := (h.pa (by omega) q.2).1
          omega
        · rw [if_neg z2, h.ch (by omega)]
          exact ⟨fun q => ⟨by omega, q.2⟩, fun q => ⟨by omega, q.2⟩⟩
  · rw [e0] at hw
    rw [app0_chl]
    by_cases e : w = u
    · rw [if_pos e, List.nodup_append]
      refine ⟨h.chn hu, List.nodup_cons.mpr ⟨List.not_mem_nil, List.nodup_nil⟩, fun a ha b hb q => ?_⟩
      rw [List.mem_singleton.mp hb] at q
      have := ((h.ch hu).mp ha).1
      omega
    · rw [if_neg e]
      by_cases z2 : w = σ.1 0
      · rw [if_pos z2]; exact List.nodup_nil
      · rw [if_neg z2]; exact h.chn (by omega)
  · rw [e0] at hv
    by_cases e : v = σ.1 0
    · rw [e, pn] at q; cases q
      exact ⟨by rw [e0]; omega, (app_I σ u t g (by omega)).trans tu⟩
    · rw [po v e] at q
      have := h.pa (by omega) q
      exact ⟨by rw [e0]; omega, (app_I σ u t g (by omega)).trans this.2⟩
  · obtain ⟨a1, a2, a3⟩ := app_dp h (t := t) (g := g) hu d1 d2 d3 hd
    rw [e0]
    exact ⟨_, a1, a2, a3⟩
theorem app_WFt {σ : PvS} (h : WFt σ) {u : Nat} {t g : Int32} (au : alive σ u) (hn : σ.1 0 < 15) (tu : σ.2.1 3 1 u = 0) (ht : is01 t) {dp : Nat → Nat} (d1 : ∀ v, v < σ.1 0 → dp v ≤ 10) (d2 : ∀ v, v < σ.1 0 → par σ v = none → dp v = 0) (d3 : ∀ v u, v < σ.1 0 → par σ v = some u → dp v = dp u + 1) (hd : dp u ≤ 9) : WFt (app σ u t g) ∧ ∀ v, alive (app σ u t g) v ↔ alive σ v ∨ v = σ.1 0 := by
  have hc := app0_WFc h (g := g) au hn tu ht d1 d2 d3 hd
  have hu := h.alive_lt au
  have e0 : (app0 σ u t g).1 0 = σ.1 0 + 1 := app_n σ u t g
  have pn : par (app0 σ u t g) (σ.1 0) = some u := by rw [app0_par, if_pos rfl]
  have po : ∀ v, v < σ.1 0 → par (app0 σ u t g) v = par σ v := fun v q => by rw [app0_par, if_neg (by omega)]
  have up1 : ∀ {j v x : Nat}, v < σ.1 0 → upk (par σ) j v = some x → upk (par (app0 σ u t g)) j v = some x := by
    intro j
    induction j with
    | zero => intro v x _ q; exact q
    | succ j ih =>
      intro v x hv q
      obtain ⟨w, q1, q2⟩ := upk_inv q
      rw [upk_s ((po v hv).trans q1)]
      exact ih (h.pa hv q1).1 q2
  have up2 : ∀ {j v x : Nat}, v < σ.1 0 → upk (par (app0 σ u t g)) j v = some x → upk (par σ) j v = some x := by
    intro j
    induction j with
    | zero => intro v x _ q; exact q
    | succ j ih =>
      intro v x hv q
      obtain ⟨w, q1, q2⟩ := upk_inv q
      rw [po v hv] at q1
      rw [upk_s q1]
      exact ih (h.pa hv q1).1 q2
  obtain ⟨dp2, b1, b2, b3⟩ := hc.dp
  have key : ∀ v, v ∈ pre (chl (app0 σ u t g)) 11 0 ↔ alive σ v ∨ v = σ.1 0 := fun v => by
    rw [hc.mem_pre (by rw [e0]; omega), e0]
    constructor
    · rintro ⟨hv, j, -, hj⟩
      by_cases e : v = σ.1 0
      · exact Or.inr e
      · exact Or.inl (h.alive_iff.mpr ⟨by omega, j, up2 (by omega) hj⟩)
    · intro q
      have : v < σ.1 0 + 1 ∧ ∃ j, upk (par (app0 σ u t g)) j v = some 0 := by
        rcases q with q | q
        · obtain ⟨hv, j, hj⟩ := h.alive_iff.mp q
          exact ⟨by omega, j, up1 hv hj⟩
        · obtain ⟨-, j, hj⟩ := h.alive_iff.mp au
          exact ⟨by omega, j + 1, by rw [q, upk_s pn]; exact up1 hu hj⟩
      obtain ⟨hv, j, hj⟩ := this
      have := up_dp hc b3 (by rw [e0]; exact hv) hj
      have := b1 v (by rw [e0]; exact hv)
      exact ⟨hv, j, by omega, hj⟩
  refine ⟨anew_WFt hc (fun v hv => ?_), fun v => ?_⟩
  · rw [key, e0] at *
    by_cases e : v = σ.1 0
    · subst e
      rw [show (app0 σ u t g).2.1 3 13 (σ.1 0) = 0 from app_In σ u t g 13]
      exact ⟨fun _ => Or.inr rfl, fun _ => rfl⟩
    · rw [show (app0 σ u t g).2.1 3 13 v = _ from app_I σ u t g e, h.gone (by omega)]
      exact ⟨fun q => Or.inl q, fun q => q.elim id (fun q => absurd q e)⟩
  · show v ∈ (pvL _ 1 _).2.2.2.2 1 ↔ _
    rw [L1_L1]; exact key v
theorem f_append {σ : PvS} (h : WFt σ) {u : Nat} {t g : Int32} (hu : u < σ.1 0) (ht : is01 t) (hc : WFc (app0 σ u t g)) : f_X7_append σ u t g = some (nI (σ.1 0), app σ u t g) := by
  have hn := h.n
  have hl := h.chlen hu
  unfold f_X7_append
  rw [gd_t ht, gd_t (by rw [h.l0, List.length_range]; omega), nm_t, nm_t, nm_t]
  have e1 : ∀ σ1 : PvS, (pvR (pvL σ1 0 (σ1.2.2.2.2 0 ++ [σ.1 0])) 3 8 (σ.1 0) (some u)).2.2.2.2 (u + 3) = σ1.2.2.2.2 (u + 3) := fun σ1 => by
    show (pvL σ1 0 _).2.2.2.2 (u + 3) = _
    rw [pvL_at, if_neg (by omega)]
  have e2 : ∀ x, (pvNode σ x t g).2.2.2.2 (u + 3) = chl σ u := fun x => by
    show va_up σ.2.2.2.2 (σ.1 0 + 3) [] (u + 3) = _
    exact if_neg (by omega)
  have e3 : ∀ x, (pvNode σ x t g).2.2.2.2 0 = σ.2.2.2.2 0 := fun x => by
    show va_up σ.2.2.2.2 (σ.1 0 + 3) [] 0 = _
    exact if_neg (by omega)
  rw [e1, e2, e3, gd_t (by omega), nm_t, h.l0, List.length_range, ← h.l0]
  show ob1 (f_X7_listAnew (app0 σ u t g)) _ = _
  rw [ob1_t (f_listAnew hc)]
  show some ((app σ u t g).2.1 3 0 (σ.1 0), app σ u t g) = _
  rw [app_In, if_pos rfl]
theorem f_room {σ : PvS} (h : WFt σ) {u : Nat} (hu : u < σ.1 0) (hn : σ.1 0 < 15) {dp : Nat → Nat} (d1 : ∀ v, v < σ.1 0 → dp v ≤ 10) (d2 : ∀ v, v < σ.1 0 → par σ v = none → dp v = 0) (d3 : ∀ v u, v < σ.1 0 → par σ v = some u → dp v = dp u + 1) (hd : dp u ≤ 9) : f_X7_hasRoomIn σ u = some 1 := by
  unfold f_X7_hasRoomIn
  rw [h.l0, List.length_range, if_neg (show ¬ 40 ≤ nI (σ.1 0) from nI_ge (b := 40) (by omega) (by decide)), ob1_t (f_anc h d1 d2 d3 hu), if_neg (show ¬ 10 ≤ nI (dp u) from nI_ge (b := 10) (by omega) (by decide))]
theorem f_addElement {σ : PvS} (h : WFt σ) {u : Nat} {g : Int32} (au : alive σ u) (hn : σ.1 0 < 15) (tu : σ.2.1 3 1 u = 0) (g1 : 0 ≤ g.toInt) (g2 : g.toInt ≤ 7) {dp : Nat → Nat} (d1 : ∀ v, v < σ.1 0 → dp v ≤ 10) (d2 : ∀ v, v < σ.1 0 → par σ v = none → dp v = 0) (d3 : ∀ v u, v < σ.1 0 → par σ v = some u → dp v = dp u + 1) (hd : dp u ≤ 9) : f_X9_addElement σ (nI u) g = some (nI (σ.1 0), app (fgt σ) u 0 g) := by
  unfold f_X9_addElement
  rw [ob1_t (f_nodeAt h au), if_pos tu, if_neg (fun q => by have := ti_lt.mp q; have e : (0 : Int32).toInt = 0 := rfl; omega), if_pos (ti_le.mpr g2), ob1_t (f_room h (h.alive_lt au) hn d1 d2 d3 hd), if_neg (by decide), ob1_t (f_fgt σ), ob2_t (f_append h.fgt (h.alive_lt au) (Or.inl rfl) (app0_WFc h.fgt (g := g) au hn ((fgt_I σ (by decide) (by decide)).trans tu) (Or.inl rfl) d1 d2 d3 hd))]
  rfl
theorem f_addText {σ : PvS} (h : WFt σ) {u : Nat} (au : alive σ u) (hn : σ.1 0 < 15) (tu : σ.2.1 3 1 u = 0) {dp : Nat → Nat} (d1 : ∀ v, v < σ.1 0 → dp v ≤ 10) (d2 : ∀ v, v < σ.1 0 → par σ v = none → dp v = 0) (d3 : ∀ v u, v < σ.1 0 → par σ v = some u → dp v = dp u + 1) (hd : dp u ≤ 9) : f_X9_addText σ (nI u) = some (nI (σ.1 0), app (fgt σ) u 1 0) := by
  unfold f_X9_addText
  rw [ob1_t (f_nodeAt h au), if_pos tu, ob1_t (f_room h (h.alive_lt au) hn d1 d2 d3 hd), if_neg (by decide), ob1_t (f_fgt σ), ob2_t (f_append h.fgt (h.alive_lt au) (Or.inr rfl) (app0_WFc h.fgt (g := 0) au hn ((fgt_I σ (by decide) (by decide)).trans tu) (Or.inr rfl) d1 d2 d3 hd))]
  rfl
