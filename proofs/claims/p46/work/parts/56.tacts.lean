/-! PURE: move, takeAway -/
theorem f_canMove {σ : PvS} (h : WFt σ) {w p t x : Nat} {dp : Nat → Nat} (d1 : ∀ v, v < σ.1 0 → dp v ≤ 10) (d2 : ∀ v, v < σ.1 0 → par σ v = none → dp v = 0) (d3 : ∀ v u, v < σ.1 0 → par σ v = some u → dp v = dp u + 1) (hw : w < σ.1 0) (ht : t < σ.1 0) (e : par σ w = some p) (tt : σ.2.1 3 1 t = 0) (hi : ¬ inn σ w t) (hx : x + (if p = t then 1 else 0) ≤ (chl σ t).length) (hl : ∀ r v, v < σ.1 0 → upk (par σ) r v = some w → dp t + 1 + r ≤ 10) : f_X7_canMove σ w t (nI x) = some 1 := by
  have hcl := h.chlen ht
  have hn := h.n
  obtain ⟨r, er, v, hv1, hv2⟩ := f_levels h.c (d := 11) (x := 0) rfl hw
  have hr := hl r v hv1 hv2
  have ht1 := d1 t ht
  have c44 : ∀ a b : Nat, x + b ≤ a → a ≤ 100 → f_X7_canMove_44 σ w t (nI x) (nI b) (nI a) = some 1 := fun a b hab ha => by
    unfold f_X7_canMove_44
    have e1 : nI a - nI b = nI (a - b) := by
      apply Int32.toInt_inj.mp
      rw [ti_sub (by rw [ti_n (s31 (by omega)), ti_n (s31 (by omega))]; omega) (by rw [ti_n (s31 (by omega)), ti_n (s31 (by omega))]; omega), ti_n (s31 (by omega)), ti_n (s31 (by omega)), ti_n (s31 (by omega))]; omega
    rw [if_neg (nI_pos (s31 (by omega))), e1, if_pos (nI_le (by omega) (s31 (by omega))), ob1_t (f_anc h d1 d2 d3 ht)]
    show ob1 (f_X7_levelsBelow (11 + 1) σ w (nI 0)) _ = _
    rw [ob1_t er, if_neg]
    rw [show (1 : Int32) = nI 1 from rfl, nI_add, nI_add]
    exact nI_nlt (a := 10) (b := dp t + 1 + r) hr (by decide)
  unfold f_X7_canMove
  rw [nm_t]
  show oc (par σ w) (some 0) (fun jo14 => if σ.2.1 3 1 t = 0 then ob1 (f_X3_isOrIsIn σ t w) (fun r16 => if r16 = 0 then nm (par σ w) (fun o23 => if o23 = some t then f_X7_canMove_44 σ w t (nI x) (nI 1) (nI (chl σ t).length) else f_X7_canMove_44 σ w t (nI x) (nI 0) (nI (chl σ t).length)) else some 0) else some 0) = _
  rw [e, oc_st, if_pos tt, ob1_t (f_isOrIsIn h ht hi), if_pos rfl, nm_t]
  by_cases hpt : p = t
  · rw [if_pos hpt] at hx
    rw [if_pos (by rw [hpt]), c44 _ _ hx (by omega)]
  · rw [if_neg hpt] at hx
    rw [if_neg (fun q => hpt (Option.some.inj q)), c44 _ _ hx (by omega)]
theorem inn_0 {σ : PvS} (h : WFt σ) {w : Nat} (hw0 : w ≠ 0) : ¬ inn σ w 0 := by
  rintro ⟨j, hj⟩
  cases j with
  | zero => cases hj; exact hw0 rfl
  | succ j => rw [upk_n h.root.2] at hj; cases hj
/-- the state behind a move: t the new parent, x the place there -/
def mvd (σ : PvS) (p k t x w : Nat) : PvS := pvL (ins (det (fgt σ) p k w) t x w) 1 (pre (chl (ins (det (fgt σ) p k w) t x w)) 11 0)
theorem mvd_I (σ : PvS) (p k t x w : Nat) : (mvd σ p k t x w).2.1 = (fgt σ).2.1 := rfl
theorem mvd_A (σ : PvS) (p k t x w : Nat) : (mvd σ p k t x w).2.2.2.1 = σ.2.2.2.1 := rfl
theorem mvd_1 (σ : PvS) (p k t x w : Nat) : (mvd σ p k t x w).1 = σ.1 := rfl
theorem mvd_chl (σ : PvS) (p k t x w u : Nat) : chl (mvd σ p k t x w) u = if u = t then (chl (det (fgt σ) p k w) t).take x ++ w :: (chl (det (fgt σ) p k w) t).drop x else chl (det (fgt σ) p k w) u := by
  unfold mvd
  rw [chl_L1, ins_chl]
theorem mvd_par (σ : PvS) (p k t x w v : Nat) : par (mvd σ p k t x w) v = if v = w then some t else par σ v := by
  show par (ins (det (fgt σ) p k w) t x w) v = _
  rw [ins_par]
  by_cases e : v = w
  · rw [if_pos e, if_pos e]
  · rw [if_neg e, if_neg e, det_par, if_neg e]; rfl
theorem fgt_chl (σ : PvS) : chl (fgt σ) = chl σ := rfl
theorem fgt_par (σ : PvS) : par (fgt σ) = par σ := rfl
theorem f_move {σ : PvS} (h : WFt σ) {w p k t x : Nat} (aw : alive σ w) (at_ : alive σ t) (e : par σ w = some p) (hk : (chl σ p)[k]? = some w) (hcm : f_X7_canMove σ w t (nI x) = some 1) (hx : x ≤ (chl (det (fgt σ) p k w) t).length) (hx2 : (chl (det (fgt σ) p k w) t).length ≤ 40) (hc : WFc (ins (det (fgt σ) p k w) t x w)) : f_X9_move σ (nI w) (nI t) (nI x) = some (nI (chl (mvd σ p k t x w) t).length, mvd σ p k t x w) := by
  unfold f_X9_move
  rw [ob1_t (f_nodeAt h aw), ob1_t (f_nodeAt h at_), ob1_t hcm, if_neg (by decide), ob1_t (f_fgt σ), ob1_t (f_putInto h.fgt (h.alive_lt aw) e hk hx hx2 hc)]
  rfl
theorem alive_fgt {σ : PvS} {v : Nat} : alive (fgt σ) v ↔ alive σ v := Iff.rfl
/-- all that was there is there, behind a move to the root -/
theorem mvd0_alive {σ : PvS} (h : WFt σ) {w p k : Nat} (aw : alive σ w) (hw0 : w ≠ 0) (e : par σ w = some p) (hk : (chl σ p)[k]? = some w) (v : Nat) : v ∈ pre (chl (ins (det (fgt σ) p k w) 0 0 w)) 11 0 ↔ alive σ v := by
  have hw := h.alive_lt aw
  have hc := ins0_WFc h.fgt hw hw0 e hk
  have n0 : 0 < σ.1 0 := by have := h.n; omega
  have pc : ∀ v, v ≠ w → par (ins (det (fgt σ) p k w) 0 0 w) v = par σ v := fun v q => by rw [ins_par, if_neg q, det_par, if_neg q]; rfl
  have pw : par (ins (det (fgt σ) p k w) 0 0 w) w = some 0 := by rw [ins_par, if_pos rfl]
  have w1 : upk (par (ins (det (fgt σ) p k w) 0 0 w)) 1 w = some 0 := by rw [upk_s pw]; rfl
  rw [hc.mem_pre n0, h.alive_iff]
  obtain ⟨dp, d1, d2, d3⟩ := hc.dp
  constructor
  · rintro ⟨hv, j, -, hj⟩
    refine ⟨hv, ?_⟩
    rcases up_cut (w := w) (fun v q => (pc v q).symm) hj with ⟨i, q1, q2⟩ | q
    · obtain ⟨-, i2, hi2⟩ := h.alive_iff.mp aw
      exact ⟨i + i2, by rw [upk_add q1]; exact hi2⟩
    · exact ⟨j, q⟩
  · rintro ⟨hv, j, hj⟩
    have : ∃ j, upk (par (ins (det (fgt σ) p k w) 0 0 w)) j v = some 0 := by
      rcases up_cut (w := w) pc hj with ⟨i, q1, q2⟩ | q
      · exact ⟨i + 1, by rw [upk_add q1]; exact w1⟩
      · exact ⟨j, q⟩
    obtain ⟨j, hj⟩ := this
    have := up_dp hc d3 hv hj
    have := d1 v hv
    exact ⟨hv, j, by omega, hj⟩
theorem mvd0_WFt {σ : PvS} (h : WFt σ) {w p k : Nat} (aw : alive σ w) (hw0 : w ≠ 0) (e : par σ w = some p) (hk : (chl σ p)[k]? = some w) : WFt (mvd σ p k 0 0 w) :=
  anew_WFt (ins0_WFc h.fgt (h.alive_lt aw) hw0 e hk) (fun u hu => by
    rw [mvd0_alive h aw hw0 e hk]
    exact (h.fgt.gone hu))
theorem f_move0 {σ : PvS} (h : WFt σ) {w p k : Nat} (aw : alive σ w) (hw0 : w ≠ 0) (e : par σ w = some p) (hk : (chl σ p)[k]? = some w) : f_X9_move σ (nI w) 0 0 = some (nI (chl (mvd σ p k 0 0 w) 0).length, mvd σ p k 0 0 w) := by
  have hw := h.alive_lt aw
  have n0 : 0 < σ.1 0 := by have := h.n; omega
  have hn := h.n
  obtain ⟨dp, d1, d2, d3⟩ := h.dp
  have hcl := h.chlen n0
  have hd : (chl (det (fgt σ) p k w) 0).length ≤ (chl σ 0).length := by
    rw [det_chl]
    split
    · rename_i q; rw [q, List.length_eraseIdx]; rw [fgt_chl]; split <;> omega
    · rw [fgt_chl]; exact Nat.le_refl _
  refine f_move h (t := 0) (x := 0) aw h.alive0 e hk (f_canMove h d1 d2 d3 hw n0 e h.root.1 (inn_0 h hw0) ?_ (fun r v hv q => ?_)) (Nat.zero_le _) (by omega) (ins0_WFc h.fgt hw hw0 e hk)
  · split
    · rename_i q
      have := at_lt hk
      rw [q] at this; omega
    · omega
  · have := up_dp h.c d3 hv q
    have := d1 v hv
    have := d3 w p hw e
    have := d2 0 n0 h.root.2
    omega
/-- back again -/
theorem back_list : ∀ {l : List Nat} {k w : Nat}, l[k]? = some w → (l.eraseIdx k).take k ++ w :: (l.eraseIdx k).drop k = l := by
  intro l
  induction l with
  | nil => intro k w h; cases h
  | cons a l ih =>
    intro k w h
    cases k with
    | zero => cases h; rfl
    | succ k => show a :: ((l.eraseIdx k).take k ++ w :: (l.eraseIdx k).drop k) = _; rw [ih h]
theorem det_len {σ : PvS} {p k w u : Nat} : (chl (det σ p k w) u).length ≤ (chl σ u).length := by
  rw [det_chl]
  split
  · rename_i q; rw [q, List.length_eraseIdx]; split <;> omega
  · exact Nat.le_refl _
/-- σ: before; τ: a state with the document behind the move to the root -/
theorem f_moveB {σ τ : PvS} (h : WFt σ) {w p k : Nat} (aw : alive σ w) (hw0 : w ≠ 0) (e : par σ w = some p) (hk : (chl σ p)[k]? = some w) (hτ : dc τ = dc (mvd σ p k 0 0 w)) : ∃ σ', f_X9_move τ (nI w) (nI p) (nI k) = some (nI (chl σ p).length, σ') ∧ dc σ' = dc σ ∧ σ'.2.1 6 2 0 = 0 ∧ σ'.2.1 4 3 0 = 0 ∧ σ'.2.1 9 5 0 = τ.2.1 9 5 0 := by
  have hw := h.alive_lt aw
  have hp := h.pa hw e
  have n0 : 0 < σ.1 0 := by have := h.n; omega
  have hn := h.n
  have hm := mvd0_WFt h aw hw0 e hk
  have ht : WFt τ := hm.congr (by rw [dc_1 hτ]) (dc_L hτ) (dc_par hτ) (fun i => dc_I hτ rfl 0 i) (fun i => dc_I hτ rfl 1 i) (fun i => dc_I hτ rfl 13 i)
  have cτ : ∀ u, chl τ u = if u = 0 then w :: chl (det σ p k w) 0 else chl (det σ p k w) u := fun u => by
    rw [dc_chl hτ, mvd_chl]; rfl
  have pτ : ∀ v, par τ v = if v = w then some 0 else par σ v := fun v => by rw [dc_par hτ, mvd_par]
  have nτ : τ.1 0 = σ.1 0 := by rw [dc_1 hτ]; rfl
  have al : ∀ v, alive τ v ↔ alive σ v := fun v => by
    show v ∈ τ.2.2.2.2 1 ↔ _
    rw [dc_L hτ, show (mvd σ p k 0 0 w).2.2.2.2 1 = _ from L1_L1 _ _]
    exact mvd0_alive h aw hw0 e hk v
  have pw : par τ w = some 0 := by rw [pτ, if_pos rfl]
  have k0 : (chl τ 0)[0]? = some w := by rw [cτ, if_pos rfl]; rfl
  -- the children, taken out of the root again
  have cd : ∀ u, chl (det (fgt τ) 0 0 w) u = chl (det σ p k w) u := fun u => by
    rw [det_chl, fgt_chl, cτ 0, if_pos rfl]
    by_cases hu : u = 0
    · rw [if_pos hu, hu]; rfl
    · rw [if_neg hu, cτ, if_neg hu]
  have ci : chl (ins (det (fgt τ) 0 0 w) p k w) = chl σ := by
    funext u
    rw [ins_chl, cd, cd]
    by_cases hu : u = p
    · rw [if_pos hu, hu, det_chl, if_pos rfl]; exact back_list hk
    · rw [if_neg hu, det_chl, if_neg hu]
  have pi : par (ins (det (fgt τ) 0 0 w) p k w) = par σ := by
    funext v
    rw [ins_par]
    by_cases hv : v = w
    · rw [if_pos hv, hv, e]
    · rw [if_neg hv, det_par, if_neg hv, fgt_par, pτ, if_neg hv]
  have I3 : ∀ k2 i, τ.2.1 3 k2 i = σ.2.1 3 k2 i := fun k2 i => by rw [dc_I hτ rfl, mvd_I]; exact fgt_I σ (by decide) (by decide)
  have I3' : ∀ k2 i, (ins (det (fgt τ) 0 0 w) p k w).2.1 3 k2 i = σ.2.1 3 k2 i := fun k2 i => by
    show (fgt τ).2.1 3 k2 i = _
    rw [fgt_I τ (by decide) (by decide)]; exact I3 k2 i
  have L0' : (ins (det (fgt τ) 0 0 w) p k w).2.2.2.2 0 = σ.2.2.2.2 0 := by
    rw [ins_L0, det_L0, fgt_L, ht.l0, h.l0, nτ]
  have hc : WFc (ins (det (fgt τ) 0 0 w) p k w) := h.c.congr nτ L0' ci pi (I3' 0) (I3' 1) (fun i q => by rw [I3']; exact q)
  -- may it be moved
  obtain ⟨dp, d1, d2, d3⟩ := h.dp
  have hni : ¬ inn σ w p := by
    rintro ⟨j, hj⟩
    have := up_dp h.c d3 hp.1 hj
    have := d3 w p hw e
    omega
  have upτ : ∀ {j v x : Nat}, x = w → upk (par τ) j v = some x → upk (par σ) j v = some x ∨ ∃ i, upk (par σ) i v = some w := fun {j v x} hx q => by
    rcases up_cut (w := w) (p := par τ) (p' := par σ) (fun v z => by rw [pτ, if_neg z]) q with ⟨i, q1, -⟩ | q
    · exact Or.inr ⟨i, q1⟩
    · exact Or.inl q
  have hniτ : ¬ inn τ w p := by
    rintro ⟨j, hj⟩
    rcases upτ rfl hj with q | q
    · exact hni ⟨j, q⟩
    · exact hni q
  classical
  have dτ1 : ∀ v, v < τ.1 0 → (if inn σ w v then dp v - dp w + 1 else dp v) ≤ 10 := fun v hv => by
    have := d1 v (by rw [← nτ]; exact hv)
    have := d3 w p hw e
    split <;> omega
  have dτ2 : ∀ v, v < τ.1 0 → par τ v = none → (if inn σ w v then dp v - dp w + 1 else dp v) = 0 := fun v hv q => by
    rw [pτ] at q
    by_cases z : v = w
    · rw [if_pos z] at q; cases q
    · rw [if_neg z] at q
      rw [if_neg (fun ⟨j, hj⟩ => by
        cases j with
        | zero => cases hj; exact z rfl
        | succ j => rw [upk_n q] at hj; cases hj)]
      exact d2 v (by rw [← nτ]; exact hv) q
  have r0 := d2 0 n0 h.root.2
  have dτ3 : ∀ v u, v < τ.1 0 → par τ v = some u → (if inn σ w v then dp v - dp w + 1 else dp v) = (if inn σ w u then dp u - dp w + 1 else dp u) + 1 := fun v u hv q => by
    rw [pτ] at q
    rw [nτ] at hv
    by_cases z : v = w
    · rw [if_pos z] at q; cases q
      rw [z, if_pos inn_self, if_neg (inn_0 h hw0)]; omega
    · rw [if_neg z] at q
      have q2 := d3 v u hv q
      by_cases hi : inn σ w v
      · obtain ⟨j, hj⟩ := inn_up hi q z
        have q3 := up_dp h.c d3 (h.pa hv q).1 hj
        rw [if_pos hi, if_pos ⟨j, hj⟩]; omega
      · rw [if_neg hi, if_neg (fun hu => hi (inn_dn hu q))]; exact q2
  have hkl := at_lt hk
  have hcl := h.chlen hp.1
  have hle : k ≤ (chl (det (fgt τ) 0 0 w) p).length := by
    rw [cd, det_chl, if_pos rfl, List.length_eraseIdx, if_pos hkl]; omega
  have hle2 : (chl (det (fgt τ) 0 0 w) p).length ≤ 40 := by
    rw [cd]; have := det_len (σ := σ) (p := p) (k := k) (w := w) (u := p); omega
  have hcm : f_X7_canMove τ w p (nI k) = some 1 := by
    refine f_canMove ht (dp := fun v => if inn σ w v then dp v - dp w + 1 else dp v) dτ1 dτ2 dτ3 (by rw [nτ]; exact hw) (by rw [nτ]; exact hp.1) pw (by rw [I3]; exact hp.2) hniτ ?_ (fun r v hv q => ?_)
    · rw [cτ, det_chl, det_chl]
      by_cases z : p = 0
      · subst z
        rw [if_pos rfl, if_pos rfl, if_pos rfl, List.length_cons, List.length_eraseIdx, if_pos hkl]; omega
      · rw [if_neg (fun q => z q.symm), if_neg z, if_pos rfl, List.length_eraseIdx, if_pos hkl]; omega
    · show (if inn σ w p then dp p - dp w + 1 else dp p) + 1 + r ≤ 10
      rw [nτ] at hv
      rw [if_neg hni]
      have h1 := up_dp ht.c dτ3 (by rw [nτ]; exact hv) q
      have h1 : (if inn σ w v then dp v - dp w + 1 else dp v) = (if inn σ w w then dp w - dp w + 1 else dp w) + r := h1
      have hiv : inn σ w v := by
        rcases upτ rfl q with q | q
        · exact ⟨r, q⟩
        · exact q
      rw [if_pos hiv, if_pos inn_self] at h1
      have := d1 v hv
      have := d3 w p hw e
      obtain ⟨j, hj⟩ := hiv
      have := up_dp h.c d3 hv hj
      omega
  have hf := f_move ht (t := p) (x := k) ((al w).mpr aw) ((al p).mpr (h.alive_par aw e)) pw k0 hcm hle hle2 hc
  rw [show chl (mvd τ 0 0 p k w) p = chl σ p by rw [mvd, chl_L1, ci]] at hf
  refine ⟨mvd τ 0 0 p k w, hf, ?_, (fgt_f τ).1, (fgt_f τ).2, (show (mvd τ 0 0 p k w).2.1 9 5 0 = τ.2.1 9 5 0 from by rw [mvd_I]; exact fgt_I τ (κ := 9) (by decide) (by decide))⟩
  refine dc_eq (by rw [mvd_1, dc_1 hτ, mvd_1]) (fun κ k2 i hκ => ?_) (fun k2 i => ?_) (fun κ i j hκ => by rw [mvd_A, dc_A hτ hκ, mvd_A]) ?_
  · rw [mvd_I, fgt_I τ (fun z => by rw [z] at hκ; cases hκ) (fun z => by rw [z] at hκ; cases hκ), dc_I hτ hκ, mvd_I, fgt_I σ (fun z => by rw [z] at hκ; cases hκ) (fun z => by rw [z] at hκ; cases hκ)]
  · by_cases z : k2 = 8
    · subst z; exact congrFun pi i
    · have e1 : ∀ (ρ : PvS) (p k t x : Nat), (mvd ρ p k t x w).2.2.1 3 k2 i = ρ.2.2.1 3 k2 i := fun ρ p k t x => by
        show (pvR _ 3 8 w _).2.2.1 3 k2 i = _
        rw [pvR_at, if_neg (fun q => z q.2.1)]
        show (pvR _ 3 8 w _).2.2.1 3 k2 i = _
        rw [pvR_at, if_neg (fun q => z q.2.1)]
        rfl
      rw [e1, dc_R hτ, e1]
  · have L2 : ∀ (ρ : PvS) (p k t x : Nat), (mvd ρ p k t x w).2.2.2.2 2 = ρ.2.2.2.2 2 := fun ρ p k t x => by
      show (pvL _ 1 _).2.2.2.2 2 = _
      rw [pvL_at, if_neg (by decide)]
      show (pvL _ (t + 3) _).2.2.2.2 2 = _
      rw [pvL_at, if_neg (by omega)]
      show (pvL _ (p + 3) _).2.2.2.2 2 = _
      rw [pvL_at, if_neg (by omega)]
      rfl
    funext j
    match j with
    | 0 =>
      show (pvL _ 1 _).2.2.2.2 0 = _
      rw [pvL_at, if_neg (by decide)]
      exact L0'
    | 1 =>
      show (pvL _ 1 _).2.2.2.2 1 = _
      rw [L1_L1, ci, h.l1]
    | 2 => rw [L2, dc_L hτ, L2]
    | j + 3 =>
      show chl (mvd τ 0 0 p k w) j = chl σ j
      rw [mvd, chl_L1, ci]
/-- a node is taken away -/
def tkn (σ : PvS) (p k w : Nat) : PvS := pvL (gon (det (fgt σ) p k w) (pre (chl (det (fgt σ) p k w)) 11 w)) 1 (pre (chl (det (fgt σ) p k w)) 11 0)
theorem gon_I (σ : PvS) (l : List Nat) {κ k i : Nat} (h : k ≠ 13) : (gon σ l).2.1 κ k i = σ.2.1 κ k i := by
  show (if κ = 3 ∧ k = 13 ∧ i ∈ l then 1 else σ.2.1 κ k i) = _
  exact if_neg (fun q => h q.2.1)
theorem gon_WFc {σ : PvS} (h : WFc σ) (l : List Nat) : WFc (gon σ l) := h.congr rfl rfl rfl rfl (fun i => gon_I σ l (by decide)) (fun i => gon_I σ l (by decide)) (fun i q => by
  show is01 (if 3 = 3 ∧ 13 = 13 ∧ i ∈ l then 1 else σ.2.1 3 13 i)
  split
  · exact Or.inr rfl
  · exact q)
theorem f_take {σ : PvS} (h : WFt σ) {w p k : Nat} (aw : alive σ w) (hw0 : w ≠ 0) (e : par σ w = some p) (hk : (chl σ p)[k]? = some w) : f_X9_takeAway σ (nI w) = some (nI (σ.2.2.2.2 1).length - nI ((tkn σ p k w).2.2.2.2 1).length, tkn σ p k w) := by
  have hw := h.alive_lt aw
  have hd := det_WFc h.fgt hw hw0 e hk
  unfold f_X9_takeAway
  rw [ob1_t (f_nodeAt h aw), nm_t]
  show oc (par σ w) _ _ = _
  rw [e, oc_st, ob1_t (f_fgt σ)]
  have hm := f_mark hd (d := 11) (x := 0) (u := w) (acc := []) rfl hw
  rw [gon_nil, List.nil_append] at hm
  have hr : f_X7_remove (fgt σ) w = some (nI (σ.2.2.2.2 1).length - nI ((tkn σ p k w).2.2.2.2 1).length, tkn σ p k w) := by
    unfold f_X7_remove
    rw [ob1_t (f_detach h.fgt hw e hk)]
    show ob1 (f_X7_markGone (11 + 1) (det (fgt σ) p k w) w (nI 0)) _ = _
    rw [ob1_t hm, ob1_t (f_listAnew (gon_WFc hd _))]
    rfl
  rw [ob2_t hr]
theorem tkn_WFt {σ : PvS} (h : WFt σ) {w p k : Nat} (aw : alive σ w) (hw0 : w ≠ 0) (e : par σ w = some p) (hk : (chl σ p)[k]? = some w) : WFt (tkn σ p k w) ∧ ¬ alive (tkn σ p k w) w ∧ (∀ v, alive (tkn σ p k w) v → alive σ v) := by
  have hw := h.alive_lt aw
  have hd := det_WFc h.fgt hw hw0 e hk
  have n0 : 0 < σ.1 0 := by have := h.n; omega
  have pc : ∀ v, v ≠ w → par (det (fgt σ) p k w) v = par σ v := fun v q => by rw [det_par, if_neg q]; rfl
  have pw : par (det (fgt σ) p k w) w = none := by rw [det_par, if_pos rfl]
  obtain ⟨dp, d1, d2, d3⟩ := hd.dp
  have big : ∀ {x v j : Nat}, v < σ.1 0 → upk (par (det (fgt σ) p k w)) j v = some x → j < 11 := fun hv q => by
    have := up_dp hd d3 hv q
    have := d1 _ hv
    omega
  have nw : ∀ j, upk (par (det (fgt σ) p k w)) j w ≠ some 0 := fun j q => by
    cases j with
    | zero => cases q; exact hw0 rfl
    | succ j => rw [upk_n pw] at q; cases q
  have key : ∀ u, u < σ.1 0 → ((gon (det (fgt σ) p k w) (pre (chl (det (fgt σ) p k w)) 11 w)).2.1 3 13 u = 0 ↔ u ∈ pre (chl (det (fgt σ) p k w)) 11 0) := fun u hu => by
    show (if 3 = 3 ∧ 13 = 13 ∧ u ∈ pre (chl (det (fgt σ) p k w)) 11 w then 1 else (fgt σ).2.1 3 13 u) = 0 ↔ _
    by_cases hin : u ∈ pre (chl (det (fgt σ) p k w)) 11 w
    · rw [if_pos ⟨rfl, rfl, hin⟩]
      refine ⟨fun q => absurd q (by decide), fun q => ?_⟩
      obtain ⟨-, i, -, hi⟩ := (hd.mem_pre hw).mp hin
      obtain ⟨-, j, -, hj⟩ := (hd.mem_pre n0).mp q
      exfalso
      have hle : i ≤ j := by
        rcases Nat.lt_or_ge j i with q | q
        · obtain ⟨m, rfl⟩ : ∃ m, i = j + (m + 1) := ⟨i - j - 1, by omega⟩
          rw [upk_add hj, upk_n (by rw [pc 0 (fun z => hw0 z.symm)]; exact h.root.2)] at hi
          cases hi
        · exact q
      obtain ⟨m, rfl⟩ : ∃ m, j = i + m := ⟨j - i, by omega⟩
      rw [upk_add hi] at hj
      exact nw m hj
    · rw [if_neg (fun q => hin q.2.2), fgt_I σ (by decide) (by decide), h.gone hu, hd.mem_pre n0]
      constructor
      · intro q
        obtain ⟨-, j, hj⟩ := h.alive_iff.mp q
        rcases up_cut (w := w) pc hj with ⟨i, q1, -⟩ | q1
        · exact absurd ((hd.mem_pre hw).mpr ⟨hu, i, big hu q1, q1⟩) hin
        · exact ⟨hu, j, big hu q1, q1⟩
      · rintro ⟨-, j, -, hj⟩
        exact h.alive_iff.mpr ⟨hu, j, up_cut_n pc pw hj⟩
  have ht := anew_WFt (gon_WFc hd _) key
  refine ⟨ht, fun q => ?_, fun v q => ?_⟩
  · have q : w ∈ (pvL _ 1 _).2.2.2.2 1 := q
    rw [L1_L1] at q
    obtain ⟨-, j, -, hj⟩ := (hd.mem_pre n0).mp q
    exact nw j hj
  · have q : v ∈ (pvL _ 1 _).2.2.2.2 1 := q
    rw [L1_L1] at q
    obtain ⟨hv, j, -, hj⟩ := (hd.mem_pre n0).mp q
    exact h.alive_iff.mpr ⟨hv, j, up_cut_n pc pw hj⟩
theorem tkn_len {σ : PvS} (h : WFt σ) {w p k : Nat} (aw : alive σ w) (hw0 : w ≠ 0) (e : par σ w = some p) (hk : (chl σ p)[k]? = some w) : ((tkn σ p k w).2.2.2.2 1).length < (σ.2.2.2.2 1).length := by
  obtain ⟨h1, h2, h3⟩ := tkn_WFt h aw hw0 e hk
  have := List.Nodup.length_le_of_subset (l₁ := w :: (tkn σ p k w).2.2.2.2 1) (l₂ := σ.2.2.2.2 1) (List.nodup_cons.mpr ⟨h2, h1.nodup⟩) (fun v hv => by
    rcases List.mem_cons.mp hv with q | q
    · rw [q]; exact aw
    · exact h3 v q)
  rw [List.length_cons] at this
  omega
