def f_X7_listFrom_15  (kf : PvS → Nat → Int32 → Option PvS) : Nat → PvS → Nat → Int32 → Int32 → Option PvS
  | 0, _, _, _, _ => none
  | n + 1, τ, ub0, xb2, xb3 => if (nI (τ.2.2.2.2 (ub0 + 3)).length) ≤ xb3 then (some τ) else (gd (vin xb3 (τ.2.2.2.2 (ub0 + 3)).length) (nm ((τ.2.2.2.2 (ub0 + 3)).getD xb3.toNatClampNeg 0) (fun y4 => ob1 (kf τ y4 (xb2 + 1)) (fun σ6 => f_X7_listFrom_15 kf n σ6 ub0 xb2 (xb3 + 1)))))
theorem f_X7_listFrom_15_z {kf : PvS → Nat → Int32 → Option PvS} {τ : PvS} {ub0 : Nat} {xb2 : Int32} {xb3 : Int32} : f_X7_listFrom_15 kf 0 τ ub0 xb2 xb3 = none := rfl
theorem f_X7_listFrom_15_s {n : Nat} {kf : PvS → Nat → Int32 → Option PvS} {τ : PvS} {ub0 : Nat} {xb2 : Int32} {xb3 : Int32} : f_X7_listFrom_15 kf (n + 1) τ ub0 xb2 xb3 = if (nI (τ.2.2.2.2 (ub0 + 3)).length) ≤ xb3 then (some τ) else (gd (vin xb3 (τ.2.2.2.2 (ub0 + 3)).length) (nm ((τ.2.2.2.2 (ub0 + 3)).getD xb3.toNatClampNeg 0) (fun y4 => ob1 (kf τ y4 (xb2 + 1)) (fun σ6 => f_X7_listFrom_15 kf n σ6 ub0 xb2 (xb3 + 1))))) := rfl
def f_X7_listFrom : Nat → PvS → Nat → Int32 → Option PvS
  | 0, _, _, _ => none
  | nr + 1, σ, u0, x2 => if x2 ≤ 10 then (gd ((σ.2.2.2.2 1).length < 64) (nm (pvL σ 1 (σ.2.2.2.2 1 ++ [u0])) (fun σ12 => f_X7_listFrom_15 (f_X7_listFrom nr) fu σ12 u0 x2 0))) else (some σ)
theorem f_X7_listFrom_z {σ : PvS} {u0 : Nat} {x2 : Int32} : f_X7_listFrom 0 σ u0 x2 = none := rfl
theorem f_X7_listFrom_s {nr : Nat} {σ : PvS} {u0 : Nat} {x2 : Int32} : f_X7_listFrom (nr + 1) σ u0 x2 = if x2 ≤ 10 then (gd ((σ.2.2.2.2 1).length < 64) (nm (pvL σ 1 (σ.2.2.2.2 1 ++ [u0])) (fun σ12 => f_X7_listFrom_15 (f_X7_listFrom nr) fu σ12 u0 x2 0))) else (some σ) := rfl
theorem lf_mono_loop {kf : PvS → Nat → Int32 → Option PvS} (hk : ∀ (σ : PvS) (u : Nat) (x : Int32) (σ1 : PvS), kf σ u x = some σ1 → (σ.2.2.2.2 1).length ≤ (σ1.2.2.2.2 1).length ∧ ((σ.2.2.2.2 1).length ≤ 64 → (σ1.2.2.2.2 1).length ≤ 64)) : ∀ (n : Nat) (τ : PvS) (u : Nat) (x y : Int32) (σ1 : PvS), f_X7_listFrom_15 kf n τ u x y = some σ1 → (τ.2.2.2.2 1).length ≤ (σ1.2.2.2.2 1).length ∧ ((τ.2.2.2.2 1).length ≤ 64 → (σ1.2.2.2.2 1).length ≤ 64)
  | 0, τ, u, x, y, σ1, h => by rw [f_X7_listFrom_15_z] at h; cases h
  | n + 1, τ, u, x, y, σ1, h => by
    rw [f_X7_listFrom_15_s] at h
    split at h
    · cases h; exact ⟨Nat.le_refl _, fun h => h⟩
    · obtain ⟨-, h⟩ := gd_e h
      obtain ⟨y4, -, h⟩ := nq_e h
      obtain ⟨σ6, e, h⟩ := ob1_e h
      have a := hk _ _ _ _ e
      have b := lf_mono_loop hk n _ _ _ _ _ h
      exact ⟨Nat.le_trans a.1 b.1, fun q => b.2 (a.2 q)⟩
theorem lf_mono : ∀ (nr : Nat) (σ : PvS) (u : Nat) (x : Int32) (σ1 : PvS), f_X7_listFrom nr σ u x = some σ1 → (σ.2.2.2.2 1).length ≤ (σ1.2.2.2.2 1).length ∧ ((σ.2.2.2.2 1).length ≤ 64 → (σ1.2.2.2.2 1).length ≤ 64)
  | 0, σ, u, x, σ1, h => by rw [f_X7_listFrom_z] at h; cases h
  | nr + 1, σ, u, x, σ1, h => by
    rw [f_X7_listFrom_s] at h
    split at h
    · obtain ⟨g, h⟩ := gd_e h
      obtain ⟨σ12, e, h⟩ := nq_e h
      have b := lf_mono_loop (lf_mono nr) _ _ _ _ _ _ h
      have hl : (σ12.2.2.2.2 1).length = (σ.2.2.2.2 1).length + 1 := by rw [e]; show (σ.2.2.2.2 1 ++ [_]).length = _; rw [List.length_append]; rfl
      exact ⟨by omega, fun q => b.2 (by omega)⟩
    · cases h; exact ⟨Nat.le_refl _, fun h => h⟩
set_option maxHeartbeats 4000000 in
set_option maxRecDepth 100000 in
theorem c_X7_listFrom {l : Launch} {G : PvG} {tys : List (ClassId × FieldType)} (htys : tys = pvT G) : ∀ (nr : Nat) {σ : PvS} {u0 : Nat} {x2 : Int32} {σ1 : PvS}, (u0 < pvM σ 3) → f_X7_listFrom nr σ u0 x2 = some σ1 → Met l yX7_listFrom (Cond.code yX7_listFrom cX7_listFrom 4 none :: WA) ({ frames := 1 * nr + 7, cells := ((σ1.2.2.2.2 1).length - (σ.2.2.2.2 1).length), slots := (96 * ((σ1.2.2.2.2 1).length - (σ.2.2.2.2 1).length)), locals := 23 * nr + 241 }) (va_Pc [.ref (G.2.2.1 3 u0), .ref (G.2.2.1 10 1), .int x2] (pvU G tys σ)) (va_Qv (fun σ' => σ' = σ1 ∧ σ'.1 = σ.1) (pvU G tys) (pvB G)) ((σ1.2.2.2.2 1).length - (σ.2.2.2.2 1).length) (96 * ((σ1.2.2.2.2 1).length - (σ.2.2.2.2 1).length)) (pvB G) := by
  intro nr
  induction nr with
  | zero =>
    intros
    rename_i h
    rw [f_X7_listFrom_z] at h
    cases h
  | succ nr ih =>
  intro σ u0 x2 σ1 hu0 h
  refine Met.ofW (cc := cX7_listFrom) (maxL := 4) (ret := none) (by decide) rfl ?_
  intro p e s m args below meth c s₁ B hml hv
  obtain ⟨rfl, hw, hK, hA⟩ := hv
  have hx := B.exec
  have hb := B.bytes
  have hr := B.returns
  have hts0 := atoms_spec (ws := (Cond.code yX7_listFrom cX7_listFrom 4 none :: WA)) B.pre
  have hts : ∀ w ∈ WA, w.before _ s = true := fun w h => hts0 w (List.mem_cons_of_mem _ h)
  have hown : s.vm.findClass RX7 = some m.cls := findClass_of_methodNamed B.named
  have hlocks := B.notSynchronized
  have hS : va_S (pvB G) s.heap s.heap [] := va_S.rf
  have hl := lv_entry ([.ref (G.2.2.1 3 u0), .ref (G.2.2.1 10 1), .int x2]) (n := 4) (Nat.le_of_ble_eq_true rfl)
  rw [lg_entry_eq]
  generalize (lg_sl ([.ref (G.2.2.1 3 u0), .ref (G.2.2.1 10 1), .int x2]) ++ List.replicate (4 - (lg_sl ([.ref (G.2.2.1 3 u0), .ref (G.2.2.1 10 1), .int x2])).length) Slot.unset).toArray = ls at hl ⊢
  have hl : lv_has ls 4 [(0, .ref (G.2.2.1 3 u0)), (1, .ref (G.2.2.1 10 1)), (2, .int x2)] := hl
  have hroot := pv_root hw
  rw [f_X7_listFrom_s] at h
  have loop15 : ∀ (n : Nat) (τ : PvS) (ub0 : Nat) (xb2 : Int32) (xb3 : Int32), (τ.1 = σ.1) → ((σ.2.2.2.2 1).length ≤ (τ.2.2.2.2 1).length) → (ub0 < pvM σ 3) → f_X7_listFrom_15 (f_X7_listFrom nr) n τ ub0 xb2 xb3 = some σ1 → ∀ (H : Heap) (locs : List Loc), pvW G τ H → va_S (pvB G) s.heap H locs → ∀ (ls : Array Slot), lv_has ls 4 [(0, .ref (G.2.2.1 3 ub0)), (1, .ref (G.2.2.1 10 1)), (2, .int xb2), (3, .int xb3)] → W p l e (headSpec (Cond.code yX7_listFrom cX7_listFrom 4 none :: WA) ({ frames := 1 * (nr + 1) + 7, cells := ((σ1.2.2.2.2 1).length - (σ.2.2.2.2 1).length), slots := (96 * ((σ1.2.2.2.2 1).length - (σ.2.2.2.2 1).length)), locals := 23 * (nr + 1) + 241 } : Room)).room s m ([.ref (G.2.2.1 3 u0), .ref (G.2.2.1 10 1), .int x2] : List Value).toArray below meth c H locs ((τ.2.2.2.2 1).length - (σ.2.2.2.2 1).length) (96 * ((τ.2.2.2.2 1).length - (σ.2.2.2.2 1).length)) (MQ below (va_Qv (fun σ' => σ' = σ1 ∧ σ'.1 = σ.1) (pvU G tys) (pvB G)) ([.ref (G.2.2.1 3 u0), .ref (G.2.2.1 10 1), .int x2] : List Value).toArray s ((σ1.2.2.2.2 1).length - (σ.2.2.2.2 1).length) (96 * ((σ1.2.2.2.2 1).length - (σ.2.2.2.2 1).length)) (pvB G)) (F0 m 15 ls []) := by
    intro n15
    induction n15 with
    | zero =>
      intro τ ub0 xb2 xb3 hcτ hiτ hub0 h
      rw [f_X7_listFrom_15_z] at h
      cases h
    | succ n15 ih15 =>
      intro τ ub0 xb2 xb3 hcτ hiτ hub0 h H locs hw hS ls hl
      have hrτ := (lf_mono_loop (lf_mono nr) _ _ _ _ _ _ h).1
      rw [f_X7_listFrom_15_s] at h
      refine lv_iload_n hx hb dX7_listFrom_15 rfl (lv_at hl 3 rfl) ?_
      refine lv_aload_n hx hb dX7_listFrom_16 rfl (lv_at hl 0 rfl) ?_
      refine pgL (C := RX3) (T := TX3) (N := 14) hx hb hts hown hK hw 3 3 ub0 (lt_c hcτ 3 hub0) (by decide) rfl rfl inF_X3 (by decide) (v := .ref (G.2.2.1 10 (ub0 + 3))) rfl (hts _ wm290) (fun _ h9 => h9) dX7_listFrom_17 ?_
      refine pcalli (va_runV (As := []) (rest := [.int xb3]) ⟨hx, hb, hml, hown, hts⟩ (c_lsize (l := l) (G := G) (tys := tys) (σ := τ) (j := ub0 + 3) (show ub0 + 3 < τ.1 0 + 3 from Nat.add_lt_add_right (lt_c hcτ 3 hub0) 3)) (cwV 0 hts (gVA wm250 wm251 wm252 wm13 wm253) rfl rfl rfl (by decide +kernel) ⟨(by show 0 + 1 ≤ 1 * (nr + 1) + 7; omega), (by show 8 + (1 + 11) + 0 ≤ 23 * (nr + 1) + 241; omega)⟩) (pl_preV hA hS hw hK (ub0 + 3) (show ub0 + 3 < τ.1 0 + 3 from Nat.add_lt_add_right (lt_c hcτ 3 hub0) 3) []) rfl rfl hl.1 rfl (lv_room (Nat.le_of_ble_eq_true rfl)) dX7_listFrom_20 ⟨(by show ((τ.2.2.2.2 1).length - (σ.2.2.2.2 1).length) + 0 ≤ ((σ1.2.2.2.2 1).length - (σ.2.2.2.2 1).length); omega), (by show (96 * ((τ.2.2.2.2 1).length - (σ.2.2.2.2 1).length)) + 0 ≤ (96 * ((σ1.2.2.2.2 1).length - (σ.2.2.2.2 1).length)); omega)⟩) hS (fun rz1 sz1 H locs hpz1 hw hS => ?_)
      obtain ⟨rfl, ez1⟩ := hpz1
      obtain rfl := ez1.symm
      refine lv_icmp_ge (tgt := 50) hx hb dX7_listFrom_23 (by decide) (fun c2 => ?_) (fun c2 => ?_)
      · skip
        replace h := ite_p c2 h
        refine W.widen (k := ((σ1.2.2.2.2 1).length - (σ.2.2.2.2 1).length)) (n := (96 * ((σ1.2.2.2.2 1).length - (σ.2.2.2.2 1).length))) (by first | omega | (cases h; omega)) (by first | omega | (cases h; omega)) ?_
        exact pev hx hb hr hlocks hA hw hK hS (psv h hcτ) dX7_listFrom_50
      · skip
        replace h := ite_n c2 h
        refine lv_aload_n hx hb dX7_listFrom_26 rfl (lv_at hl 0 rfl) ?_
        refine pgL (C := RX3) (T := TX3) (N := 14) hx hb hts hown hK hw 3 3 ub0 (lt_c hcτ 3 hub0) (by decide) rfl rfl inF_X3 (by decide) (v := .ref (G.2.2.1 10 (ub0 + 3))) rfl (hts _ wm290) (fun _ h9 => h9) dX7_listFrom_27 ?_
        refine lv_iload_n hx hb dX7_listFrom_30 rfl (lv_at hl 3 rfl) ?_
        obtain ⟨g3, h⟩ := gd_e h
        obtain ⟨y4, ey4, h⟩ := nq_e h
        refine pcallg (κ := 3) (pvK_c _) (va_runV (As := [.int xb3]) (rest := []) ⟨hx, hb, hml, hown, hts⟩ (c_lgetI (l := l) (G := G) (tys := tys) (σ := τ) htys (j := ub0 + 3) (show ub0 + 3 < τ.1 0 + 3 from Nat.add_lt_add_right (lt_c hcτ 3 hub0) 3) g3 (pl_len2 hw (ub0 + 3) (show ub0 + 3 < τ.1 0 + 3 from Nat.add_lt_add_right (lt_c hcτ 3 hub0) 3))) (cwV 1 hts (gVA wm254 wm255 wm256 wm13 wm257) rfl rfl rfl (by decide +kernel) ⟨(by show 2 + 1 ≤ 1 * (nr + 1) + 7; omega), (by show 8 + (2 + 11) + 43 ≤ 23 * (nr + 1) + 241; omega)⟩) (pl_preV hA hS hw hK (ub0 + 3) (show ub0 + 3 < τ.1 0 + 3 from Nat.add_lt_add_right (lt_c hcτ 3 hub0) 3) [.int xb3]) rfl rfl hl.1 rfl (lv_room (Nat.le_of_ble_eq_true rfl)) dX7_listFrom_31 ⟨(by show ((τ.2.2.2.2 1).length - (σ.2.2.2.2 1).length) + 0 ≤ ((σ1.2.2.2.2 1).length - (σ.2.2.2.2 1).length); omega), (by show (96 * ((τ.2.2.2.2 1).length - (σ.2.2.2.2 1).length)) + 0 ≤ (96 * ((σ1.2.2.2.2 1).length - (σ.2.2.2.2 1).length)); omega)⟩) hS (fun zy4 ezy4 H locs hw hS => ?_)
        obtain rfl : y4 = zy4 := ey4.trans ezy4.symm
        have hy4 : y4 < pvM τ 3 := by rw [ey4]; exact pl_lt hw (ub0 + 3) (show ub0 + 3 < τ.1 0 + 3 from Nat.add_lt_add_right (lt_c hcτ 3 hub0) 3) _ (Nat.not_le.mp fun q => g3 (Or.inr q)) (pvK_c _)
        have hy4 : y4 < pvM σ 3 := lt_c hcτ.symm 3 hy4
        refine pcast hx hb hown hK hw 3 y4 (lt_c hcτ 3 hy4) (by decide) rfl (hts _ wm40) dX7_listFrom_34 ?_
        refine lv_aload_n hx hb dX7_listFrom_37 rfl (lv_at hl 1 rfl) ?_
        refine lv_iload_n hx hb dX7_listFrom_38 rfl (lv_at hl 2 rfl) ?_
        refine lv_iconst (v := 1) hx hb dX7_listFrom_39 (by decide) ?_
        refine lv_iadd hx hb dX7_listFrom_40 ?_
        obtain ⟨σ6, e7, h⟩ := ob1_e h
        have hmσ6 := lf_mono nr _ _ _ _ e7
        have hrσ6 := (lf_mono_loop (lf_mono nr) _ _ _ _ _ _ h).1
        have hmσ6 := hmσ6.1
        refine pcallv (va_runS (As := [.ref (G.2.2.1 3 y4), .ref (G.2.2.1 10 1), .int (xb2 + 1)]) (rest := []) ⟨hx, hb, hml, hown, hts⟩ (ih (lt_c hcτ 3 hy4) e7) (va_cwS 3 hts (gSA wm300 wm301 wm28 wm302) rfl rfl rfl (by decide +kernel) ⟨(by show 1 * nr + 7 + 1 ≤ 1 * (nr + 1) + 7; omega), (by show 8 + (4 + 11) + (23 * nr + 241) ≤ 23 * (nr + 1) + 241; omega)⟩) (pv_preS hA hS hw hK [.ref (G.2.2.1 3 y4), .ref (G.2.2.1 10 1), .int (xb2 + 1)]) rfl rfl hl.1 rfl (lv_room (Nat.le_of_ble_eq_true rfl)) dX7_listFrom_41 ⟨(by show ((τ.2.2.2.2 1).length - (σ.2.2.2.2 1).length) + ((σ6.2.2.2.2 1).length - (τ.2.2.2.2 1).length) ≤ ((σ1.2.2.2.2 1).length - (σ.2.2.2.2 1).length); omega), (by show (96 * ((τ.2.2.2.2 1).length - (σ.2.2.2.2 1).length)) + (96 * ((σ6.2.2.2.2 1).length - (τ.2.2.2.2 1).length)) ≤ (96 * ((σ1.2.2.2.2 1).length - (σ.2.2.2.2 1).length)); omega)⟩) hS (fun s10 H locs hp8 hw hS => ?_)
        refine W.widen (k := ((σ6.2.2.2.2 1).length - (σ.2.2.2.2 1).length)) (n := (96 * ((σ6.2.2.2.2 1).length - (σ.2.2.2.2 1).length))) (by omega) (by omega) ?_
        obtain ⟨esσ6, hdσ6⟩ := hp8
        obtain rfl := esσ6.symm
        have hcσ6 : σ6.1 = σ.1 := hdσ6.trans hcτ
        refine lv_iinc (v := xb3 + 1) (lv' := [(3, .int (xb3 + 1)), (0, .ref (G.2.2.1 3 ub0)), (1, .ref (G.2.2.1 10 1)), (2, .int xb2)]) hx hb dX7_listFrom_44 hl (k := 3) rfl (by rfl) (by decide) rfl (fun ls hl => ?_)
        refine lv_goto (tgt := 15) hx hb dX7_listFrom_47 (by decide) ?_
        exact ih15 σ6 ub0 xb2 (xb3 + 1) hcσ6 (by omega) hub0 h _ _ hw hS ls (lv_sub hl [1, 2, 3, 0] rfl)
  refine lv_iload_n hx hb dX7_listFrom_0 rfl (lv_at hl 2 rfl) ?_
  refine lv_bipush (v := 10) hx hb dX7_listFrom_1 (by decide) ?_
  refine lv_icmp_le (tgt := 7) hx hb dX7_listFrom_3 (by decide) (fun c11 => ?_) (fun c11 => ?_)
  · skip
    replace h := ite_p c11 h
    refine lv_aload_n hx hb dX7_listFrom_7 rfl (lv_at hl 1 rfl) ?_
    refine lv_aload_n hx hb dX7_listFrom_8 rfl (lv_at hl 0 rfl) ?_
    obtain ⟨g13, h⟩ := gd_e h
    obtain ⟨σ12, eσ12, h⟩ := nq_e h
    have hrσ12 := (lf_mono_loop (lf_mono nr) _ _ _ _ _ _ h).1
    have hlnσ12 : (σ12.2.2.2.2 1).length = (σ.2.2.2.2 1).length + 1 := by rw [eσ12]; show (σ.2.2.2.2 1 ++ [_]).length = _; rw [List.length_append]; rfl
    refine pcalli (va_runV (As := [.ref (G.2.2.1 3 u0)]) (rest := []) ⟨hx, hb, hml, hown, hts⟩ (c_ladd (l := l) (G := G) (tys := tys) (σ := σ) htys (j := 1) (show 1 < σ.1 0 + 3 from Nat.lt_of_lt_of_le (by decide) (Nat.le_add_left 3 _)) (show u0 < pvM σ (pvK 1) from by rw [show pvK 1 = 3 from rfl]; exact hu0) g13) (cwV 1 hts (gVA wm116 wm117 wm118 wm13 wm119) rfl rfl rfl (by decide +kernel) ⟨(by show 6 + 1 ≤ 1 * (nr + 1) + 7; omega), (by show 8 + (2 + 11) + 220 ≤ 23 * (nr + 1) + 241; omega)⟩) (pl_preV hA hS hw hK 1 (show 1 < σ.1 0 + 3 from Nat.lt_of_lt_of_le (by decide) (Nat.le_add_left 3 _)) [.ref (G.2.2.1 3 u0)]) rfl rfl hl.1 rfl (lv_room (Nat.le_of_ble_eq_true rfl)) dX7_listFrom_9 ⟨(by show 0 + 1 ≤ ((σ1.2.2.2.2 1).length - (σ.2.2.2.2 1).length); omega), (by show 0 + 96 ≤ (96 * ((σ1.2.2.2.2 1).length - (σ.2.2.2.2 1).length)); omega)⟩) hS (fun r15 s16 H locs hp14 hw hS => ?_)
    obtain ⟨erσ12, esσ12⟩ := hp14
    obtain rfl : σ12 = s16 := eσ12.trans esσ12.symm
    subst erσ12
    have hcσ12 : σ12.1 = σ.1 := by rw [eσ12]; exact rfl
    refine W.widen (k := ((σ12.2.2.2.2 1).length - (σ.2.2.2.2 1).length)) (n := (96 * ((σ12.2.2.2.2 1).length - (σ.2.2.2.2 1).length))) (by omega) (by omega) ?_
    refine lv_pop hx hb dX7_listFrom_12 rfl ?_
    refine lv_iconst (v := 0) hx hb dX7_listFrom_13 (by decide) ?_
    refine lv_istore_n (lv' := [(3, .int 0), (0, .ref (G.2.2.1 3 u0)), (1, .ref (G.2.2.1 10 1)), (2, .int x2)]) hx hb dX7_listFrom_14 rfl hl (by decide) rfl (fun ls hl => ?_)
    exact loop15 fu σ12 u0 x2 0 hcσ12 (by omega) hu0 h _ _ hw hS ls (lv_sub hl [1, 2, 3, 0] rfl)
  · skip
    replace h := ite_n c11 h
    refine W.widen (k := ((σ1.2.2.2.2 1).length - (σ.2.2.2.2 1).length)) (n := (96 * ((σ1.2.2.2.2 1).length - (σ.2.2.2.2 1).length))) (by first | omega | (cases h; omega)) (by first | omega | (cases h; omega)) ?_
    exact pev hx hb hr hlocks hA hw hK hS (psv h rfl) dX7_listFrom_6
def f_X7_listAnew (σ : PvS)  : Option PvS :=
  nm (pvL σ 1 []) (fun σ1 => ob1 (f_X7_listFrom 12 σ1 0 0) (fun σ6 => some σ6))
set_option maxHeartbeats 4000000 in
set_option maxRecDepth 100000 in
theorem c_X7_listAnew {l : Launch} {G : PvG} {tys : List (ClassId × FieldType)} {σ : PvS} (htys : tys = pvT G)    {σ1 : PvS} (h : f_X7_listAnew σ = some σ1) : Met l yX7_listAnew (Cond.code yX7_listAnew cX7_listAnew 1 none :: WA) ({ frames := 20, cells := 64, slots := 6144, locals := 540 }) (va_Pc [.ref (G.2.2.1 7 0)] (pvU G tys σ)) (va_Qv (fun σ' => σ' = σ1 ∧ σ'.1 = σ.1) (pvU G tys) (pvB G)) 64 6144 (pvB G) := by
  refine Met.ofW (cc := cX7_listAnew) (maxL := 1) (ret := none) (by decide) rfl ?_
  intro p e s m args below meth c s₁ B hml hv
  obtain ⟨rfl, hw, hK, hA⟩ := hv
  have hx := B.exec
  have hb := B.bytes
  have hr := B.returns
  have hts0 := atoms_spec (ws := (Cond.code yX7_listAnew cX7_listAnew 1 none :: WA)) B.pre
  have hts : ∀ w ∈ WA, w.before _ s = true := fun w h => hts0 w (List.mem_cons_of_mem _ h)
  have hown : s.vm.findClass RX7 = some m.cls := findClass_of_methodNamed B.named
  have hlocks := B.notSynchronized
  have hS : va_S (pvB G) s.heap s.heap [] := va_S.rf
  have hl := lv_entry ([.ref (G.2.2.1 7 0)]) (n := 1) (Nat.le_of_ble_eq_true rfl)
  rw [lg_entry_eq]
  generalize (lg_sl ([.ref (G.2.2.1 7 0)]) ++ List.replicate (1 - (lg_sl ([.ref (G.2.2.1 7 0)])).length) Slot.unset).toArray = ls at hl ⊢
  have hl : lv_has ls 1 [(0, .ref (G.2.2.1 7 0))] := hl
  have hroot := pv_root hw
  unfold f_X7_listAnew at h
  refine lv_aload_n hx hb dX7_listAnew_0 rfl (lv_at hl 0 rfl) ?_
  refine pgL (C := RX7) (T := TX7) (N := 3) hx hb hts hown hK hw 7 1 0 Nat.one_pos (by decide) rfl rfl inF_X7 (by decide) (v := .ref (G.2.2.1 10 1)) rfl (hts _ wm34) (fun _ h9 => h9) dX7_listAnew_1 ?_
  obtain ⟨σ1, eσ1, h⟩ := nq_e h
  refine pcallv (va_runV (As := []) (rest := []) ⟨hx, hb, hml, hown, hts⟩ (c_lclear (l := l) (G := G) (tys := tys) (σ := σ) htys (j := 1) (show 1 < σ.1 0 + 3 from Nat.lt_of_lt_of_le (by decide) (Nat.le_add_left 3 _))) (cwV 0 hts (gVA wm296 wm297 wm298 wm13 wm299) rfl rfl rfl (by decide +kernel) ⟨(Nat.le_of_ble_eq_true rfl), (Nat.le_of_ble_eq_true rfl)⟩) (pl_preV hA hS hw hK 1 (show 1 < σ.1 0 + 3 from Nat.lt_of_lt_of_le (by decide) (Nat.le_add_left 3 _)) []) rfl rfl hl.1 rfl (lv_room (Nat.le_of_ble_eq_true rfl)) dX7_listAnew_4 ⟨Nat.zero_le _, Nat.zero_le _⟩) hS (fun s4 H locs hp2 hw hS => ?_)
  obtain rfl : σ1 = s4 := eσ1.trans hp2.symm
  have hcσ1 : σ1.1 = σ.1 := by rw [eσ1]; exact rfl
  refine lv_aload_n hx hb dX7_listAnew_7 rfl (lv_at hl 0 rfl) ?_
  refine pgL (C := RX7) (T := TX7) (N := 3) hx hb hts hown hK hw 7 2 0 Nat.one_pos (by decide) rfl rfl inF_X7 (by decide) (v := .ref (G.2.2.1 3 0)) rfl (hts _ wm33) (fun _ h9 => h9) dX7_listAnew_8 ?_
  refine lv_aload_n hx hb dX7_listAnew_11 rfl (lv_at hl 0 rfl) ?_
  refine pgL (C := RX7) (T := TX7) (N := 3) hx hb hts hown hK hw 7 1 0 Nat.one_pos (by decide) rfl rfl inF_X7 (by decide) (v := .ref (G.2.2.1 10 1)) rfl (hts _ wm34) (fun _ h9 => h9) dX7_listAnew_12 ?_
  refine lv_iconst (v := 0) hx hb dX7_listAnew_15 (by decide) ?_
  obtain ⟨σ6, e7, h⟩ := ob1_e h
  have hmσ6 := lf_mono 12 _ _ _ _ e7
  have hqσ6 := hmσ6.2 (pl_len hw 1 (show 1 < σ1.1 0 + 3 from Nat.lt_of_lt_of_le (by decide) (Nat.le_add_left 3 _)))
  refine pcallv (va_runS (As := [.ref (G.2.2.1 3 0), .ref (G.2.2.1 10 1), .int 0]) (rest := []) ⟨hx, hb, hml, hown, hts⟩ (c_X7_listFrom (l := l) (G := G) (tys := tys) htys 12 (σ := σ1) (lt_c hcσ1 3 hroot) e7) (va_cwS 3 hts (gSA wm300 wm301 wm28 wm302) rfl rfl rfl (by decide +kernel) ⟨(Nat.le_of_ble_eq_true rfl), (Nat.le_of_ble_eq_true rfl)⟩) (pv_preS hA hS hw hK [.ref (G.2.2.1 3 0), .ref (G.2.2.1 10 1), .int 0]) rfl rfl hl.1 rfl (lv_room (Nat.le_of_ble_eq_true rfl)) dX7_listAnew_16 ⟨(by show 0 + ((σ6.2.2.2.2 1).length - (σ1.2.2.2.2 1).length) ≤ 64; omega), (by show 0 + (96 * ((σ6.2.2.2.2 1).length - (σ1.2.2.2.2 1).length)) ≤ 6144; omega)⟩) hS (fun s10 H locs hp8 hw hS => ?_)
  refine W.widen (k := 64) (n := 6144) (by omega) (by omega) ?_
  obtain ⟨esσ6, hdσ6⟩ := hp8
  obtain rfl := esσ6.symm
  have hcσ6 : σ6.1 = σ.1 := hdσ6.trans hcσ1
  refine W.widen (k := 64) (n := 6144) (Nat.le_of_ble_eq_true rfl) (Nat.le_of_ble_eq_true rfl) ?_
  exact pev hx hb hr hlocks hA hw hK hS (psv h hcσ6) dX7_listAnew_19
def f_X7_detach (σ : PvS) (u1 : Nat) : Option PvS :=
  ob1 (f_X3_placeAmongSiblings σ u1) (fun r1 => nm (σ.2.2.1 3 8 u1) (fun o6 => oc o6 (some σ) (fun jo6 => if r1 < 0 then (some σ) else (nm (σ.2.2.1 3 8 u1) (fun o8 => oc o8 none (fun jo8 => if (nI (σ.2.2.2.2 (jo8 + 3)).length) ≤ r1 then (some σ) else (nm (σ.2.2.1 3 8 u1) (fun o11 => oc o11 none (fun jo11 => gd (vin r1 (σ.2.2.2.2 (jo11 + 3)).length) (nm (pvL σ (jo11 + 3) ((σ.2.2.2.2 (jo11 + 3)).eraseIdx r1.toNatClampNeg)) (fun σ12 => nm (pvR σ12 3 8 u1 none) (fun σ18 => some σ18))))))))))))
set_option maxHeartbeats 4000000 in
set_option maxRecDepth 100000 in
theorem c_X7_detach {l : Launch} {G : PvG} {tys : List (ClassId × FieldType)} {σ : PvS} (htys : tys = pvT G)  {u1 : Nat} (hu1 : u1 < pvM σ 3) {σ1 : PvS} (h : f_X7_detach σ u1 = some σ1) : Met l yX7_detach (Cond.code yX7_detach cX7_detach 3 none :: WA) ({ frames := 4, cells := 0, slots := 0, locals := 113 }) (va_Pc [.ref (G.2.2.1 7 0), .ref (G.2.2.1 3 u1)] (pvU G tys σ)) (va_Qv (fun σ' => σ' = σ1 ∧ σ'.1 = σ.1) (pvU G tys) (pvB G)) 0 0 (pvB G) := by
  refine Met.ofW (cc := cX7_detach) (maxL := 3) (ret := none) (by decide) rfl ?_
  intro p e s m args below meth c s₁ B hml hv
  obtain ⟨rfl, hw, hK, hA⟩ := hv
  have hx := B.exec
  have hb := B.bytes
  have hr := B.returns
  have hts0 := atoms_spec (ws := (Cond.code yX7_detach cX7_detach 3 none :: WA)) B.pre
  have hts : ∀ w ∈ WA, w.before _ s = true := fun w h => hts0 w (List.mem_cons_of_mem _ h)
  have hown : s.vm.findClass RX7 = some m.cls := findClass_of_methodNamed B.named
  have hlocks := B.notSynchronized
  have hS : va_S (pvB G) s.heap s.heap [] := va_S.rf
  have hl := lv_entry ([.ref (G.2.2.1 7 0), .ref (G.2.2.1 3 u1)]) (n := 3) (Nat.le_of_ble_eq_true rfl)
  rw [lg_entry_eq]
  generalize (lg_sl ([.ref (G.2.2.1 7 0), .ref (G.2.2.1 3 u1)]) ++ List.replicate (3 - (lg_sl ([.ref (G.2.2.1 7 0), .ref (G.2.2.1 3 u1)])).length) Slot.unset).toArray = ls at hl ⊢
  have hl : lv_has ls 3 [(0, .ref (G.2.2.1 7 0)), (1, .ref (G.2.2.1 3 u1))] := hl
  have hroot := pv_root hw
  unfold f_X7_detach at h
  refine lv_aload_n hx hb dX7_detach_0 rfl (lv_at hl 1 rfl) ?_
  obtain ⟨r1, e2, h⟩ := ob1_e h
  refine pcalli (va_runV (As := []) (rest := []) ⟨hx, hb, hml, hown, hts⟩ (c_X3_placeAmongSiblings (l := l) (G := G) (tys := tys) (σ := σ) htys hu1 e2) (cwV 0 hts (gVA wm872 wm873 wm874 wm42 wm875) rfl rfl rfl (by decide +kernel) ⟨(Nat.le_of_ble_eq_true rfl), (Nat.le_of_ble_eq_true rfl)⟩) (pv_preV hA hS hw hK 3 u1 hu1 (by decide) rfl []) rfl rfl hl.1 rfl (lv_room (Nat.le_of_ble_eq_true rfl)) dX7_detach_1 ⟨Nat.zero_le _, Nat.zero_le _⟩) hS (fun r4 s5 H locs hp3 hw hS => ?_)
  obtain ⟨err1, esr1⟩ := hp3
  obtain rfl := esr1.symm
  obtain rfl := err1.symm
  refine lv_istore_n (lv' := [(2, .int r1), (0, .ref (G.2.2.1 7 0)), (1, .ref (G.2.2.1 3 u1))]) hx hb dX7_detach_4 rfl hl (by decide) rfl (fun ls hl => ?_)
  refine lv_aload_n hx hb dX7_detach_5 rfl (lv_at hl 2 rfl) ?_
  obtain ⟨o6, eo6, h⟩ := nq_e h
  have ho6 := pv_cl hw eo6
  refine pgR (C := RX3) (T := TX3) (N := 14) hx hb hts hown hK hw 3 8 u1 hu1 (by decide) rfl rfl inF_X3 (by decide) rfl o6 eo6 (hts _ wm289) (fun _ h9 => h9) dX7_detach_6 ?_
  rcases o6 with _ | jo6
  · skip
    replace h := oc_n h
    refine lv_ifnullN (tgt := 47) hx hb dX7_detach_9 (by decide) ?_
    exact pev hx hb hr hlocks hA hw hK hS (psv h rfl) dX7_detach_47
  · skip
    replace h := oc_s h
    have hjo6 := ho6 jo6 rfl
    refine lv_ifnull hx hb dX7_detach_9 ?_
    refine lv_iload_n hx hb dX7_detach_12 rfl (lv_at hl 0 rfl) ?_
    refine lv_if_lt (tgt := 47) hx hb dX7_detach_13 (by decide) (fun c7 => ?_) (fun c7 => ?_)
    · skip
      replace h := ite_p c7 h
      exact pev hx hb hr hlocks hA hw hK hS (psv h rfl) dX7_detach_47
    · skip
      replace h := ite_n c7 h
      refine lv_iload_n hx hb dX7_detach_16 rfl (lv_at hl 0 rfl) ?_
      refine lv_aload_n hx hb dX7_detach_17 rfl (lv_at hl 2 rfl) ?_
      obtain ⟨o8, eo8, h⟩ := nq_e h
      have ho8 := pv_cl hw eo8
      refine pgR (C := RX3) (T := TX3) (N := 14) hx hb hts hown hK hw 3 8 u1 hu1 (by decide) rfl rfl inF_X3 (by decide) rfl o8 eo8 (hts _ wm289) (fun _ h9 => h9) dX7_detach_18 ?_
      rcases o8 with _ | jo8
      · cases (oc_n h)
      replace h := oc_s h
      have hjo8 := ho8 jo8 rfl
      refine pgL (C := RX3) (T := TX3) (N := 14) hx hb hts hown hK hw 3 3 jo8 hjo8 (by decide) rfl rfl inF_X3 (by decide) (v := .ref (G.2.2.1 10 (jo8 + 3))) rfl (hts _ wm290) (fun _ h9 => h9) dX7_detach_21 ?_
      refine pcalli (va_runV (As := []) (rest := [.int r1]) ⟨hx, hb, hml, hown, hts⟩ (c_lsize (l := l) (G := G) (tys := tys) (σ := σ) (j := jo8 + 3) (show jo8 + 3 < σ.1 0 + 3 from Nat.add_lt_add_right hjo8 3)) (cwV 0 hts (gVA wm250 wm251 wm252 wm13 wm253) rfl rfl rfl (by decide +kernel) ⟨(Nat.le_of_ble_eq_true rfl), (Nat.le_of_ble_eq_true rfl)⟩) (pl_preV hA hS hw hK (jo8 + 3) (show jo8 + 3 < σ.1 0 + 3 from Nat.add_lt_add_right hjo8 3) []) rfl rfl hl.1 rfl (lv_room (Nat.le_of_ble_eq_true rfl)) dX7_detach_24 ⟨Nat.zero_le _, Nat.zero_le _⟩) hS (fun rz9 sz9 H locs hpz9 hw hS => ?_)
      obtain ⟨rfl, ez9⟩ := hpz9
      obtain rfl := ez9.symm
      refine lv_icmp_ge (tgt := 47) hx hb dX7_detach_27 (by decide) (fun c10 => ?_) (fun c10 => ?_)
      · skip
        replace h := ite_p c10 h
        exact pev hx hb hr hlocks hA hw hK hS (psv h rfl) dX7_detach_47
      · skip
        replace h := ite_n c10 h
        refine lv_aload_n hx hb dX7_detach_30 rfl (lv_at hl 2 rfl) ?_
        obtain ⟨o11, eo11, h⟩ := nq_e h
        have ho11 := pv_cl hw eo11
        refine pgR (C := RX3) (T := TX3) (N := 14) hx hb hts hown hK hw 3 8 u1 hu1 (by decide) rfl rfl inF_X3 (by decide) rfl o11 eo11 (hts _ wm289) (fun _ h9 => h9) dX7_detach_31 ?_
        rcases o11 with _ | jo11
        · cases (oc_n h)
        replace h := oc_s h
        have hjo11 := ho11 jo11 rfl
        refine pgL (C := RX3) (T := TX3) (N := 14) hx hb hts hown hK hw 3 3 jo11 hjo11 (by decide) rfl rfl inF_X3 (by decide) (v := .ref (G.2.2.1 10 (jo11 + 3))) rfl (hts _ wm290) (fun _ h9 => h9) dX7_detach_34 ?_
        refine lv_iload_n hx hb dX7_detach_37 rfl (lv_at hl 0 rfl) ?_
        obtain ⟨g13, h⟩ := gd_e h
        have hy14 : (σ.2.2.2.2 (jo11 + 3)).getD r1.toNatClampNeg 0 < pvM σ 3 := pl_lt hw (jo11 + 3) (show jo11 + 3 < σ.1 0 + 3 from Nat.add_lt_add_right hjo11 3) _ (Nat.not_le.mp fun q => g13 (Or.inr q)) (pvK_c _)
        obtain ⟨σ12, eσ12, h⟩ := nq_e h
        refine pcallq (va_runV (As := [.int r1]) (rest := []) ⟨hx, hb, hml, hown, hts⟩ (c_lremoveI (l := l) (G := G) (tys := tys) (σ := σ) htys (j := jo11 + 3) (show jo11 + 3 < σ.1 0 + 3 from Nat.add_lt_add_right hjo11 3) g13 (pl_len2 hw (jo11 + 3) (show jo11 + 3 < σ.1 0 + 3 from Nat.add_lt_add_right hjo11 3))) (cwV 1 hts (gVA wm878 wm879 wm880 wm13 wm881) rfl rfl rfl (by decide +kernel) ⟨(Nat.le_of_ble_eq_true rfl), (Nat.le_of_ble_eq_true rfl)⟩) (pl_preV hA hS hw hK (jo11 + 3) (show jo11 + 3 < σ.1 0 + 3 from Nat.add_lt_add_right hjo11 3) [.int r1]) rfl rfl hl.1 rfl (lv_room (Nat.le_of_ble_eq_true rfl)) dX7_detach_38 ⟨Nat.zero_le _, Nat.zero_le _⟩) hS (fun r16 s17 H locs hp15 hw hS => ?_)
        obtain ⟨erσ12, esσ12⟩ := hp15
        obtain rfl : σ12 = s17 := eσ12.trans esσ12.symm
        subst erσ12
        have hcσ12 : σ12.1 = σ.1 := by rw [eσ12]; exact rfl
        refine lv_pop hx hb dX7_detach_41 rfl ?_
        refine lv_aload_n hx hb dX7_detach_42 rfl (lv_at hl 2 rfl) ?_
        refine lv_null hx hb dX7_detach_43 ?_
        obtain ⟨σ18, eσ18, h⟩ := nq_e h
        refine ppR (ty := .object "PinnaceView$Node") (C := RX3) (T := TX3) (N := 14) hx hb hts hown hK hw hS 3 8 u1 (lt_c hcσ12 3 hu1) (by decide) rfl rfl inF_X3 (by decide) rfl tyX3_ok nmX3 (hts _ wm289) (fun _ h9 => h9) rfl (by decide +kernel) (v := none) (fun _ z => nomatch z) rfl rfl dX7_detach_44 (fun H locs hw hS => ?_)
        rw [← eσ18] at hw
        have hcσ18 : σ18.1 = σ.1 := by rw [eσ18]; exact hcσ12
        exact pev hx hb hr hlocks hA hw hK hS (psv h hcσ18) dX7_detach_47
def f_X7_remove (σ : PvS) (u1 : Nat) : Option (Int32 × PvS) :=
  ob1 (f_X7_detach σ u1) (fun σ3 => ob1 (f_X7_markGone 12 σ3 u1 0) (fun σ9 => ob1 (f_X7_listAnew σ9) (fun σ15 => some ((nI (σ.2.2.2.2 1).length) - (nI (σ15.2.2.2.2 1).length), σ15))))
set_option maxHeartbeats 4000000 in
set_option maxRecDepth 100000 in
theorem c_X7_remove {l : Launch} {G : PvG} {tys : List (ClassId × FieldType)} {σ : PvS} (htys : tys = pvT G)  {u1 : Nat} (hu1 : u1 < pvM σ 3) {r : Int32} {σ1 : PvS} (h : f_X7_remove σ u1 = some (r, σ1)) : Met l yX7_remove (Cond.code yX7_remove cX7_remove 3 (some .int) :: WA) ({ frames := 21, cells := 64, slots := 6144, locals := 560 }) (va_Pc [.ref (G.2.2.1 7 0), .ref (G.2.2.1 3 u1)] (pvU G tys σ)) (va_Qi (fun r' σ' => r' = r ∧ σ' = σ1 ∧ σ'.1 = σ.1) (pvU G tys) (pvB G)) 64 6144 (pvB G) := by
  refine Met.ofW (cc := cX7_remove) (maxL := 3) (ret := (some .int)) (by decide) rfl ?_
  intro p e s m args below meth c s₁ B hml hv
  obtain ⟨rfl, hw, hK, hA⟩ := hv
  have hx := B.exec
  have hb := B.bytes
  have hr := B.returns
  have hts0 := atoms_spec (ws := (Cond.code yX7_remove cX7_remove 3 (some .int) :: WA)) B.pre
  have hts : ∀ w ∈ WA, w.before _ s = true := fun w h => hts0 w (List.mem_cons_of_mem _ h)
  have hown : s.vm.findClass RX7 = some m.cls := findClass_of_methodNamed B.named
  have hlocks := B.notSynchronized
  have hS : va_S (pvB G) s.heap s.heap [] := va_S.rf
  have hl := lv_entry ([.ref (G.2.2.1 7 0), .ref (G.2.2.1 3 u1)]) (n := 3) (Nat.le_of_ble_eq_true rfl)
  rw [lg_entry_eq]
  generalize (lg_sl ([.ref (G.2.2.1 7 0), .ref (G.2.2.1 3 u1)]) ++ List.replicate (3 - (lg_sl ([.ref (G.2.2.1 7 0), .ref (G.2.2.1 3 u1)])).length) Slot.unset).toArray = ls at hl ⊢
  have hl : lv_has ls 3 [(0, .ref (G.2.2.1 7 0)), (1, .ref (G.2.2.1 3 u1))] := hl
  have hroot := pv_root hw
  unfold f_X7_remove at h
  refine lv_aload_n hx hb dX7_remove_0 rfl (lv_at hl 0 rfl) ?_
  refine pgL (C := RX7) (T := TX7) (N := 3) hx hb hts hown hK hw 7 1 0 Nat.one_pos (by decide) rfl rfl inF_X7 (by decide) (v := .ref (G.2.2.1 10 1)) rfl (hts _ wm34) (fun _ h9 => h9) dX7_remove_1 ?_
  refine pcalli (va_runV (As := []) (rest := []) ⟨hx, hb, hml, hown, hts⟩ (c_lsize (l := l) (G := G) (tys := tys) (σ := σ) (j := 1) (show 1 < σ.1 0 + 3 from Nat.lt_of_lt_of_le (by decide) (Nat.le_add_left 3 _))) (cwV 0 hts (gVA wm250 wm251 wm252 wm13 wm253) rfl rfl rfl (by decide +kernel) ⟨(Nat.le_of_ble_eq_true rfl), (Nat.le_of_ble_eq_true rfl)⟩) (pl_preV hA hS hw hK 1 (show 1 < σ.1 0 + 3 from Nat.lt_of_lt_of_le (by decide) (Nat.le_add_left 3 _)) []) rfl rfl hl.1 rfl (lv_room (Nat.le_of_ble_eq_true rfl)) dX7_remove_4 ⟨Nat.zero_le _, Nat.zero_le _⟩) hS (fun rz1 sz1 H locs hpz1 hw hS => ?_)
  obtain ⟨rfl, ez1⟩ := hpz1
  obtain rfl := ez1.symm
  refine lv_istore_n (lv' := [(2, .int (nI (σ.2.2.2.2 1).length)), (0, .ref (G.2.2.1 7 0)), (1, .ref (G.2.2.1 3 u1))]) hx hb dX7_remove_7 rfl hl (by decide) rfl (fun ls hl => ?_)
  refine lv_aload_n hx hb dX7_remove_8 rfl (lv_at hl 1 rfl) ?_
  refine lv_aload_n hx hb dX7_remove_9 rfl (lv_at hl 2 rfl) ?_
  obtain ⟨σ3, e4, h⟩ := ob1_e h
  refine pcallv (va_runV (As := [.ref (G.2.2.1 3 u1)]) (rest := []) ⟨hx, hb, hml, hown, hts⟩ (c_X7_detach (l := l) (G := G) (tys := tys) (σ := σ) htys hu1 e4) (cwV 1 hts (gVA wm868 wm869 wm870 wm28 wm871) rfl rfl rfl (by decide +kernel) ⟨(Nat.le_of_ble_eq_true rfl), (Nat.le_of_ble_eq_true rfl)⟩) (pv_preV hA hS hw hK 7 0 Nat.one_pos (by decide) rfl [.ref (G.2.2.1 3 u1)]) rfl rfl hl.1 rfl (lv_room (Nat.le_of_ble_eq_true rfl)) dX7_remove_10 ⟨Nat.zero_le _, Nat.zero_le _⟩) hS (fun s7 H locs hp5 hw hS => ?_)
  obtain ⟨esσ3, hdσ3⟩ := hp5
  obtain rfl := esσ3.symm
  have hcσ3 : σ3.1 = σ.1 := hdσ3
  refine lv_aload_n hx hb dX7_remove_13 rfl (lv_at hl 2 rfl) ?_
  refine lv_iconst (v := 0) hx hb dX7_remove_14 (by decide) ?_
  obtain ⟨σ9, e10, h⟩ := ob1_e h
  refine pcallv (va_runS (As := [.ref (G.2.2.1 3 u1), .int 0]) (rest := []) ⟨hx, hb, hml, hown, hts⟩ (c_X7_markGone (l := l) (G := G) (tys := tys) htys 12 (σ := σ3) (lt_c hcσ3 3 hu1) e10) (va_cwS 2 hts (gSA wm908 wm909 wm28 wm910) rfl rfl rfl (by decide +kernel) ⟨(Nat.le_of_ble_eq_true rfl), (Nat.le_of_ble_eq_true rfl)⟩) (pv_preS hA hS hw hK [.ref (G.2.2.1 3 u1), .int 0]) rfl rfl hl.1 rfl (lv_room (Nat.le_of_ble_eq_true rfl)) dX7_remove_15 ⟨Nat.zero_le _, Nat.zero_le _⟩) hS (fun s13 H locs hp11 hw hS => ?_)
  obtain ⟨esσ9, hdσ9⟩ := hp11
  obtain rfl := esσ9.symm
  have hcσ9 : σ9.1 = σ.1 := hdσ9.trans hcσ3
  refine lv_aload_n hx hb dX7_remove_18 rfl (lv_at hl 1 rfl) ?_
  obtain ⟨σ15, e16, h⟩ := ob1_e h
  refine pcallv (va_runV (As := []) (rest := []) ⟨hx, hb, hml, hown, hts⟩ (c_X7_listAnew (l := l) (G := G) (tys := tys) (σ := σ9) htys  e16) (cwV 0 hts (gVA wm292 wm293 wm294 wm28 wm295) rfl rfl rfl (by decide +kernel) ⟨(Nat.le_of_ble_eq_true rfl), (Nat.le_of_ble_eq_true rfl)⟩) (pv_preV hA hS hw hK 7 0 Nat.one_pos (by decide) rfl []) rfl rfl hl.1 rfl (lv_room (Nat.le_of_ble_eq_true rfl)) dX7_remove_19 ⟨Nat.le_of_ble_eq_true rfl, Nat.le_of_ble_eq_true rfl⟩) hS (fun s19 H locs hp17 hw hS => ?_)
  obtain ⟨esσ15, hdσ15⟩ := hp17
  obtain rfl := esσ15.symm
  have hcσ15 : σ15.1 = σ.1 := hdσ15.trans hcσ9
  refine lv_iload_n hx hb dX7_remove_22 rfl (lv_at hl 0 rfl) ?_
  refine lv_aload_n hx hb dX7_remove_23 rfl (lv_at hl 1 rfl) ?_
  refine pgL (C := RX7) (T := TX7) (N := 3) hx hb hts hown hK hw 7 1 0 Nat.one_pos (by decide) rfl rfl inF_X7 (by decide) (v := .ref (G.2.2.1 10 1)) rfl (hts _ wm34) (fun _ h9 => h9) dX7_remove_24 ?_
  refine pcalli (va_runV (As := []) (rest := [.int (nI (σ.2.2.2.2 1).length)]) ⟨hx, hb, hml, hown, hts⟩ (c_lsize (l := l) (G := G) (tys := tys) (σ := σ15) (j := 1) (show 1 < σ15.1 0 + 3 from Nat.lt_of_lt_of_le (by decide) (Nat.le_add_left 3 _))) (cwV 0 hts (gVA wm250 wm251 wm252 wm13 wm253) rfl rfl rfl (by decide +kernel) ⟨(Nat.le_of_ble_eq_true rfl), (Nat.le_of_ble_eq_true rfl)⟩) (pl_preV hA hS hw hK 1 (show 1 < σ15.1 0 + 3 from Nat.lt_of_lt_of_le (by decide) (Nat.le_add_left 3 _)) []) rfl rfl hl.1 rfl (lv_room (Nat.le_of_ble_eq_true rfl)) dX7_remove_27 ⟨Nat.le_of_ble_eq_true rfl, Nat.le_of_ble_eq_true rfl⟩) hS (fun rz20 sz20 H locs hpz20 hw hS => ?_)
  obtain ⟨rfl, ez20⟩ := hpz20
  obtain rfl := ez20.symm
  refine lv_isub hx hb dX7_remove_30 ?_
  refine W.widen (k := 64) (n := 6144) (Nat.le_of_ble_eq_true rfl) (Nat.le_of_ble_eq_true rfl) ?_
  exact pei hx hb hr hlocks hA hw hK hS (pst h hcσ15) dX7_remove_31
def f_X7_putInto_34  (τ : PvS)  : Option PvS :=
  ob1 (f_X7_listAnew τ) (fun σ2 => some σ2)
def f_X7_putInto (σ : PvS) (u1 : Nat) (u2 : Nat) (x3 : Int32) : Option PvS :=
  ob1 (f_X7_detach σ u1) (fun σ8 => if x3 < 0 then (f_X7_putInto_34 σ8) else (if (nI (σ8.2.2.2.2 (u2 + 3)).length) < x3 then (f_X7_putInto_34 σ8) else (gd ((σ8.2.2.2.2 (u2 + 3)).length < 64) (gd (vin x3 ((σ8.2.2.2.2 (u2 + 3)).length + 1)) (nm (pvL σ8 (u2 + 3) ((σ8.2.2.2.2 (u2 + 3)).take x3.toNatClampNeg ++ u1 :: (σ8.2.2.2.2 (u2 + 3)).drop x3.toNatClampNeg)) (fun σ16 => nm (pvR σ16 3 8 u1 (some u2)) (fun σ22 => f_X7_putInto_34 σ22)))))))
set_option maxHeartbeats 4000000 in
set_option maxRecDepth 100000 in
theorem c_X7_putInto {l : Launch} {G : PvG} {tys : List (ClassId × FieldType)} {σ : PvS} (htys : tys = pvT G)  {u1 : Nat} {u2 : Nat} {x3 : Int32} (hu1 : u1 < pvM σ 3) (hu2 : u2 < pvM σ 3) {σ1 : PvS} (h : f_X7_putInto σ u1 u2 x3 = some σ1) : Met l yX7_putInto (Cond.code yX7_putInto cX7_putInto 4 none :: WA) ({ frames := 21, cells := 65, slots := 6240, locals := 560 }) (va_Pc [.ref (G.2.2.1 7 0), .ref (G.2.2.1 3 u1), .ref (G.2.2.1 3 u2), .int x3] (pvU G tys σ)) (va_Qv (fun σ' => σ' = σ1 ∧ σ'.1 = σ.1) (pvU G tys) (pvB G)) 65 6240 (pvB G) := by
  refine Met.ofW (cc := cX7_putInto) (maxL := 4) (ret := none) (by decide) rfl ?_
  intro p e s m args below meth c s₁ B hml hv
  obtain ⟨rfl, hw, hK, hA⟩ := hv
  have hx := B.exec
  have hb := B.bytes
  have hr := B.returns
  have hts0 := atoms_spec (ws := (Cond.code yX7_putInto cX7_putInto 4 none :: WA)) B.pre
  have hts : ∀ w ∈ WA, w.before _ s = true := fun w h => hts0 w (List.mem_cons_of_mem _ h)
  have hown : s.vm.findClass RX7 = some m.cls := findClass_of_methodNamed B.named
  have hlocks := B.notSynchronized
  have hS : va_S (pvB G) s.heap s.heap [] := va_S.rf
  have hl := lv_entry ([.ref (G.2.2.1 7 0), .ref (G.2.2.1 3 u1), .ref (G.2.2.1 3 u2), .int x3]) (n := 4) (Nat.le_of_ble_eq_true rfl)
  rw [lg_entry_eq]
  generalize (lg_sl ([.ref (G.2.2.1 7 0), .ref (G.2.2.1 3 u1), .ref (G.2.2.1 3 u2), .int x3]) ++ List.replicate (4 - (lg_sl ([.ref (G.2.2.1 7 0), .ref (G.2.2.1 3 u1), .ref (G.2.2.1 3 u2), .int x3])).length) Slot.unset).toArray = ls at hl ⊢
  have hl : lv_has ls 4 [(0, .ref (G.2.2.1 7 0)), (1, .ref (G.2.2.1 3 u1)), (2, .ref (G.2.2.1 3 u2)), (3, .int x3)] := hl
  have hroot := pv_root hw
  unfold f_X7_putInto at h
  have blk34 : ∀ (τ : PvS) , (τ.1 = σ.1) → f_X7_putInto_34 τ  = some σ1 → ∀ (H : Heap) (locs : List Loc), pvW G τ H → va_S (pvB G) s.heap H locs → ∀ (ls : Array Slot), lv_has ls 4 [(0, .ref (G.2.2.1 7 0))] → W p l e (headSpec (Cond.code yX7_putInto cX7_putInto 4 none :: WA) ({ frames := 21, cells := 65, slots := 6240, locals := 560 } : Room)).room s m ([.ref (G.2.2.1 7 0), .ref (G.2.2.1 3 u1), .ref (G.2.2.1 3 u2), .int x3] : List Value).toArray below meth c H locs 1 96 (MQ below (va_Qv (fun σ' => σ' = σ1 ∧ σ'.1 = σ.1) (pvU G tys) (pvB G)) ([.ref (G.2.2.1 7 0), .ref (G.2.2.1 3 u1), .ref (G.2.2.1 3 u2), .int x3] : List Value).toArray s 65 6240 (pvB G)) (F0 m 34 ls []) := by
    intro τ hcτ h H locs hw hS ls hl
    unfold f_X7_putInto_34 at h
    refine lv_aload_n hx hb dX7_putInto_34 rfl (lv_at hl 0 rfl) ?_
    obtain ⟨σ2, e3, h⟩ := ob1_e h
    refine pcallv (va_runV (As := []) (rest := []) ⟨hx, hb, hml, hown, hts⟩ (c_X7_listAnew (l := l) (G := G) (tys := tys) (σ := τ) htys  e3) (cwV 0 hts (gVA wm292 wm293 wm294 wm28 wm295) rfl rfl rfl (by decide +kernel) ⟨(Nat.le_of_ble_eq_true rfl), (Nat.le_of_ble_eq_true rfl)⟩) (pv_preV hA hS hw hK 7 0 Nat.one_pos (by decide) rfl []) rfl rfl hl.1 rfl (lv_room (Nat.le_of_ble_eq_true rfl)) dX7_putInto_35 ⟨Nat.le_of_ble_eq_true rfl, Nat.le_of_ble_eq_true rfl⟩) hS (fun s6 H locs hp4 hw hS => ?_)
    obtain ⟨esσ2, hdσ2⟩ := hp4
    obtain rfl := esσ2.symm
    have hcσ2 : σ2.1 = σ.1 := hdσ2.trans hcτ
    refine W.widen (k := 65) (n := 6240) (Nat.le_of_ble_eq_true rfl) (Nat.le_of_ble_eq_true rfl) ?_
    exact pev hx hb hr hlocks hA hw hK hS (psv h hcσ2) dX7_putInto_38
  refine lv_aload_n hx hb dX7_putInto_0 rfl (lv_at hl 0 rfl) ?_
  refine lv_aload_n hx hb dX7_putInto_1 rfl (lv_at hl 1 rfl) ?_
  obtain ⟨σ8, e9, h⟩ := ob1_e h
  refine pcallv (va_runV (As := [.ref (G.2.2.1 3 u1)]) (rest := []) ⟨hx, hb, hml, hown, hts⟩ (c_X7_detach (l := l) (G := G) (tys := tys) (σ := σ) htys hu1 e9) (cwV 1 hts (gVA wm868 wm869 wm870 wm28 wm871) rfl rfl rfl (by decide +kernel) ⟨(Nat.le_of_ble_eq_true rfl), (Nat.le_of_ble_eq_true rfl)⟩) (pv_preV hA hS hw hK 7 0 Nat.one_pos (by decide) rfl [.ref (G.2.2.1 3 u1)]) rfl rfl hl.1 rfl (lv_room (Nat.le_of_ble_eq_true rfl)) dX7_putInto_2 ⟨Nat.zero_le _, Nat.zero_le _⟩) hS (fun s12 H locs hp10 hw hS => ?_)
  obtain ⟨esσ8, hdσ8⟩ := hp10
  obtain rfl := esσ8.symm
  have hcσ8 : σ8.1 = σ.1 := hdσ8
  refine lv_iload_n hx hb dX7_putInto_5 rfl (lv_at hl 3 rfl) ?_
  refine lv_if_lt (tgt := 34) hx hb dX7_putInto_6 (by decide) (fun c13 => ?_) (fun c13 => ?_)
  · skip
    replace h := ite_p c13 h
    refine W.widen (k := 1) (n := 96) (Nat.le_of_ble_eq_true rfl) (Nat.le_of_ble_eq_true rfl) ?_
    exact blk34 σ8 hcσ8 h _ _ hw hS ls (lv_sub hl [0] rfl)
  · skip
    replace h := ite_n c13 h
    refine lv_iload_n hx hb dX7_putInto_9 rfl (lv_at hl 3 rfl) ?_
    refine lv_aload_n hx hb dX7_putInto_10 rfl (lv_at hl 2 rfl) ?_
    refine pgL (C := RX3) (T := TX3) (N := 14) hx hb hts hown hK hw 3 3 u2 (lt_c hcσ8 3 hu2) (by decide) rfl rfl inF_X3 (by decide) (v := .ref (G.2.2.1 10 (u2 + 3))) rfl (hts _ wm290) (fun _ h9 => h9) dX7_putInto_11 ?_
    refine pcalli (va_runV (As := []) (rest := [.int x3]) ⟨hx, hb, hml, hown, hts⟩ (c_lsize (l := l) (G := G) (tys := tys) (σ := σ8) (j := u2 + 3) (show u2 + 3 < σ8.1 0 + 3 from Nat.add_lt_add_right (lt_c hcσ8 3 hu2) 3)) (cwV 0 hts (gVA wm250 wm251 wm252 wm13 wm253) rfl rfl rfl (by decide +kernel) ⟨(Nat.le_of_ble_eq_true rfl), (Nat.le_of_ble_eq_true rfl)⟩) (pl_preV hA hS hw hK (u2 + 3) (show u2 + 3 < σ8.1 0 + 3 from Nat.add_lt_add_right (lt_c hcσ8 3 hu2) 3) []) rfl rfl hl.1 rfl (lv_room (Nat.le_of_ble_eq_true rfl)) dX7_putInto_14 ⟨Nat.zero_le _, Nat.zero_le _⟩) hS (fun rz14 sz14 H locs hpz14 hw hS => ?_)
    obtain ⟨rfl, ez14⟩ := hpz14
    obtain rfl := ez14.symm
    refine lv_icmp_gt (tgt := 34) hx hb dX7_putInto_17 (by decide) (fun c15 => ?_) (fun c15 => ?_)
    · skip
      replace h := ite_p c15 h
      refine W.widen (k := 1) (n := 96) (Nat.le_of_ble_eq_true rfl) (Nat.le_of_ble_eq_true rfl) ?_
      exact blk34 σ8 hcσ8 h _ _ hw hS ls (lv_sub hl [0] rfl)
    · skip
      replace h := ite_n c15 h
      refine lv_aload_n hx hb dX7_putInto_20 rfl (lv_at hl 2 rfl) ?_
      refine pgL (C := RX3) (T := TX3) (N := 14) hx hb hts hown hK hw 3 3 u2 (lt_c hcσ8 3 hu2) (by decide) rfl rfl inF_X3 (by decide) (v := .ref (G.2.2.1 10 (u2 + 3))) rfl (hts _ wm290) (fun _ h9 => h9) dX7_putInto_21 ?_
      refine lv_iload_n hx hb dX7_putInto_24 rfl (lv_at hl 3 rfl) ?_
      refine lv_aload_n hx hb dX7_putInto_25 rfl (lv_at hl 1 rfl) ?_
      obtain ⟨g17, h⟩ := gd_e h
      obtain ⟨g18, h⟩ := gd_e h
      obtain ⟨σ16, eσ16, h⟩ := nq_e h
      refine pcallv (va_runV (As := [.int x3, .ref (G.2.2.1 3 u1)]) (rest := []) ⟨hx, hb, hml, hown, hts⟩ (c_linsI (l := l) (G := G) (tys := tys) (σ := σ8) htys (j := u2 + 3) (show u2 + 3 < σ8.1 0 + 3 from Nat.add_lt_add_right (lt_c hcσ8 3 hu2) 3) (show u1 < pvM σ8 (pvK (u2 + 3)) from by rw [show pvK (u2 + 3) = 3 from pvK_c _]; exact (lt_c hcσ8 3 hu1)) g17 g18) (cwV 2 hts (gVA wm887 wm888 wm889 wm13 wm890) rfl rfl rfl (by decide +kernel) ⟨(Nat.le_of_ble_eq_true rfl), (Nat.le_of_ble_eq_true rfl)⟩) (pl_preV hA hS hw hK (u2 + 3) (show u2 + 3 < σ8.1 0 + 3 from Nat.add_lt_add_right (lt_c hcσ8 3 hu2) 3) [.int x3, .ref (G.2.2.1 3 u1)]) rfl rfl hl.1 rfl (lv_room (Nat.le_of_ble_eq_true rfl)) dX7_putInto_26 ⟨Nat.le_of_ble_eq_true rfl, Nat.le_of_ble_eq_true rfl⟩) hS (fun s21 H locs hp19 hw hS => ?_)
      obtain rfl : σ16 = s21 := eσ16.trans hp19.symm
      have hcσ16 : σ16.1 = σ.1 := by rw [eσ16]; exact hcσ8
      refine lv_aload_n hx hb dX7_putInto_29 rfl (lv_at hl 1 rfl) ?_
      refine lv_aload_n hx hb dX7_putInto_30 rfl (lv_at hl 2 rfl) ?_
      obtain ⟨σ22, eσ22, h⟩ := nq_e h
      refine ppR (ty := .object "PinnaceView$Node") (C := RX3) (T := TX3) (N := 14) hx hb hts hown hK hw hS 3 8 u1 (lt_c hcσ16 3 hu1) (by decide) rfl rfl inF_X3 (by decide) rfl tyX3_ok nmX3 (hts _ wm289) (fun _ h9 => h9) rfl (by decide +kernel) (v := (some u2)) (fun _ z => by cases z; exact (lt_c hcσ16 3 hu2)) rfl rfl dX7_putInto_31 (fun H locs hw hS => ?_)
      rw [← eσ22] at hw
      have hcσ22 : σ22.1 = σ.1 := by rw [eσ22]; exact hcσ16
      refine W.widen (k := 1) (n := 96) (Nat.le_of_ble_eq_true rfl) (Nat.le_of_ble_eq_true rfl) ?_
      exact blk34 σ22 hcσ22 h _ _ hw hS ls (lv_sub hl [0] rfl)
def f_X9_takeAway (σ : PvS) (x1 : Int32) : Option (Int32 × PvS) :=
  ob1 (f_X9_nodeAt σ x1) (fun r1 => nm (σ.2.2.1 3 8 r1) (fun o6 => oc o6 (none) (fun jo6 => ob1 (f_X9_forgetWhatWasWorkedOut σ) (fun σ8 => ob2 (f_X7_remove σ8 r1) (fun r13 σ14 => some (r13, σ14))))))
set_option maxHeartbeats 4000000 in
set_option maxRecDepth 100000 in
theorem c_X9_takeAway {l : Launch} {G : PvG} {tys : List (ClassId × FieldType)} {σ : PvS} (htys : tys = pvT G)  {x1 : Int32}  {r : Int32} {σ1 : PvS} (h : f_X9_takeAway σ x1 = some (r, σ1)) : Met l yX9_takeAway (Cond.code yX9_takeAway cX9_takeAway 3 (some .int) :: WA) ({ frames := 22, cells := 64, slots := 6144, locals := 582 }) (va_Pc [.ref (G.2.2.1 9 0), .int x1] (pvU G tys σ)) (va_Qi (fun r' σ' => r' = r ∧ σ' = σ1 ∧ σ'.1 = σ.1) (pvU G tys) (pvB G)) 64 6144 (pvB G) := by
  refine Met.ofW (cc := cX9_takeAway) (maxL := 3) (ret := (some .int)) (by decide) rfl ?_
  intro p e s m args below meth c s₁ B hml hv
  obtain ⟨rfl, hw, hK, hA⟩ := hv
  have hx := B.exec
  have hb := B.bytes
  have hr := B.returns
  have hts0 := atoms_spec (ws := (Cond.code yX9_takeAway cX9_takeAway 3 (some .int) :: WA)) B.pre
  have hts : ∀ w ∈ WA, w.before _ s = true := fun w h => hts0 w (List.mem_cons_of_mem _ h)
  have hown : s.vm.findClass RX9 = some m.cls := findClass_of_methodNamed B.named
  have hlocks := B.notSynchronized
  have hS : va_S (pvB G) s.heap s.heap [] := va_S.rf
  have hl := lv_entry ([.ref (G.2.2.1 9 0), .int x1]) (n := 3) (Nat.le_of_ble_eq_true rfl)
  rw [lg_entry_eq]
  generalize (lg_sl ([.ref (G.2.2.1 9 0), .int x1]) ++ List.replicate (3 - (lg_sl ([.ref (G.2.2.1 9 0), .int x1])).length) Slot.unset).toArray = ls at hl ⊢
  have hl : lv_has ls 3 [(0, .ref (G.2.2.1 9 0)), (1, .int x1)] := hl
  have hroot := pv_root hw
  unfold f_X9_takeAway at h
  refine lv_aload_n hx hb dX9_takeAway_0 rfl (lv_at hl 0 rfl) ?_
  refine lv_iload_n hx hb dX9_takeAway_1 rfl (lv_at hl 1 rfl) ?_
  obtain ⟨r1, e2, h⟩ := ob1_e h
  refine pcallq (va_runV (As := [.int x1]) (rest := []) ⟨hx, hb, hml, hown, hts⟩ (c_X9_nodeAt (l := l) (G := G) (tys := tys) (σ := σ) htys  e2) (cwV 1 hts (gVA wm236 wm237 wm238 wm2 wm239) rfl rfl rfl (by decide +kernel) ⟨(Nat.le_of_ble_eq_true rfl), (Nat.le_of_ble_eq_true rfl)⟩) (pv_preV hA hS hw hK 9 0 Nat.one_pos (by decide) rfl [.int x1]) rfl rfl hl.1 rfl (lv_room (Nat.le_of_ble_eq_true rfl)) dX9_takeAway_2 ⟨Nat.zero_le _, Nat.zero_le _⟩) hS (fun r4 s5 H locs hp3 hw hS => ?_)
  obtain ⟨err1, esr1, hzr1⟩ := hp3
  obtain rfl := esr1.symm
  subst err1
  refine lv_astore_n (lv' := [(2, .ref (G.2.2.1 3 r1)), (0, .ref (G.2.2.1 9 0)), (1, .int x1)]) hx hb dX9_takeAway_5 rfl hl (by decide) rfl (fun ls hl => ?_)
  refine lv_aload_n hx hb dX9_takeAway_6 rfl (lv_at hl 0 rfl) ?_
  obtain ⟨o6, eo6, h⟩ := nq_e h
  have ho6 := pv_cl hw eo6
  refine pgR (C := RX3) (T := TX3) (N := 14) hx hb hts hown hK hw 3 8 r1 hzr1 (by decide) rfl rfl inF_X3 (by decide) rfl o6 eo6 (hts _ wm695) (fun _ h9 => h9) dX9_takeAway_7 ?_
  rcases o6 with _ | jo6
  · skip
    replace h := oc_n h
    refine lv_ifnonnullN hx hb dX9_takeAway_10 ?_
    cases h
  · skip
    replace h := oc_s h
    have hjo6 := ho6 jo6 rfl
    refine lv_ifnonnull (tgt := 23) hx hb dX9_takeAway_10 (by decide) ?_
    refine lv_aload_n hx hb dX9_takeAway_23 rfl (lv_at hl 1 rfl) ?_
    obtain ⟨σ8, e9, h⟩ := ob1_e h
    refine pcallv (va_runV (As := []) (rest := []) ⟨hx, hb, hml, hown, hts⟩ (c_X9_forgetWhatWasWorkedOut (l := l) (G := G) (tys := tys) (σ := σ) htys  e9) (cwV 0 hts (gVA wm279 wm280 wm281 wm2 wm282) rfl rfl rfl (by decide +kernel) ⟨(Nat.le_of_ble_eq_true rfl), (Nat.le_of_ble_eq_true rfl)⟩) (pv_preV hA hS hw hK 9 0 Nat.one_pos (by decide) rfl []) rfl rfl hl.1 rfl (lv_room (Nat.le_of_ble_eq_true rfl)) dX9_takeAway_24 ⟨Nat.zero_le _, Nat.zero_le _⟩) hS (fun s12 H locs hp10 hw hS => ?_)
    obtain ⟨esσ8, hdσ8⟩ := hp10
    obtain rfl := esσ8.symm
    have hcσ8 : σ8.1 = σ.1 := hdσ8
    refine lv_aload_n hx hb dX9_takeAway_27 rfl (lv_at hl 1 rfl) ?_
    refine pgL (C := RX9) (T := TX9) (N := 6) hx hb hts hown hK hw 9 0 0 Nat.one_pos (by decide) rfl rfl inF_X9 (by decide) (v := .ref (G.2.2.1 7 0)) rfl (hts _ wm10) (fun _ h9 => h9) dX9_takeAway_28 ?_
    refine lv_aload_n hx hb dX9_takeAway_31 rfl (lv_at hl 0 rfl) ?_
    obtain ⟨r13, σ14, e15, h⟩ := ob2_e h
    refine pcalli (va_runV (As := [.ref (G.2.2.1 3 r1)]) (rest := []) ⟨hx, hb, hml, hown, hts⟩ (c_X7_remove (l := l) (G := G) (tys := tys) (σ := σ8) htys (lt_c hcσ8 3 hzr1) e15) (cwV 1 hts (gVA wm904 wm905 wm906 wm28 wm907) rfl rfl rfl (by decide +kernel) ⟨(Nat.le_of_ble_eq_true rfl), (Nat.le_of_ble_eq_true rfl)⟩) (pv_preV hA hS hw hK 7 0 Nat.one_pos (by decide) rfl [.ref (G.2.2.1 3 r1)]) rfl rfl hl.1 rfl (lv_room (Nat.le_of_ble_eq_true rfl)) dX9_takeAway_32 ⟨Nat.le_of_ble_eq_true rfl, Nat.le_of_ble_eq_true rfl⟩) hS (fun r17 s18 H locs hp16 hw hS => ?_)
    obtain ⟨err13, esσ14, hdσ14⟩ := hp16
    obtain rfl := esσ14.symm
    have hcσ14 : σ14.1 = σ.1 := hdσ14.trans hcσ8
    obtain rfl := err13.symm
    refine W.widen (k := 64) (n := 6144) (Nat.le_of_ble_eq_true rfl) (Nat.le_of_ble_eq_true rfl) ?_
    exact pei hx hb hr hlocks hA hw hK hS (pst h hcσ14) dX9_takeAway_35
def f_X9_move (σ : PvS) (x1 : Int32) (x2 : Int32) (x3 : Int32) : Option (Int32 × PvS) :=
  ob1 (f_X9_nodeAt σ x1) (fun r1 => ob1 (f_X9_nodeAt σ x2) (fun r6 => ob1 (f_X7_canMove σ r1 r6 x3) (fun r11 => if r11 = 0 then (none) else (ob1 (f_X9_forgetWhatWasWorkedOut σ) (fun σ18 => ob1 (f_X7_putInto σ18 r1 r6 x3) (fun σ24 => some (nI (σ24.2.2.2.2 (r6 + 3)).length, σ24)))))))
set_option maxHeartbeats 4000000 in
set_option maxRecDepth 100000 in
theorem c_X9_move {l : Launch} {G : PvG} {tys : List (ClassId × FieldType)} {σ : PvS} (htys : tys = pvT G)  {x1 : Int32} {x2 : Int32} {x3 : Int32}  {r : Int32} {σ1 : PvS} (h : f_X9_move σ x1 x2 x3 = some (r, σ1)) : Met l yX9_move (Cond.code yX9_move cX9_move 6 (some .int) :: WA) ({ frames := 22, cells := 65, slots := 6240, locals := 583 }) (va_Pc [.ref (G.2.2.1 9 0), .int x1, .int x2, .int x3] (pvU G tys σ)) (va_Qi (fun r' σ' => r' = r ∧ σ' = σ1 ∧ σ'.1 = σ.1) (pvU G tys) (pvB G)) 65 6240 (pvB G) := by
  refine Met.ofW (cc := cX9_move) (maxL := 6) (ret := (some .int)) (by decide) rfl ?_
  intro p e s m args below meth c s₁ B hml hv
  obtain ⟨rfl, hw, hK, hA⟩ := hv
  have hx := B.exec
  have hb := B.bytes
  have hr := B.returns
  have hts0 := atoms_spec (ws := (Cond.code yX9_move cX9_move 6 (some .int) :: WA)) B.pre
  have hts : ∀ w ∈ WA, w.before _ s = true := fun w h => hts0 w (List.mem_cons_of_mem _ h)
  have hown : s.vm.findClass RX9 = some m.cls := findClass_of_methodNamed B.named
  have hlocks := B.notSynchronized
  have hS : va_S (pvB G) s.heap s.heap [] := va_S.rf
  have hl := lv_entry ([.ref (G.2.2.1 9 0), .int x1, .int x2, .int x3]) (n := 6) (Nat.le_of_ble_eq_true rfl)
  rw [lg_entry_eq]
  generalize (lg_sl ([.ref (G.2.2.1 9 0), .int x1, .int x2, .int x3]) ++ List.replicate (6 - (lg_sl ([.ref (G.2.2.1 9 0), .int x1, .int x2, .int x3])).length) Slot.unset).toArray = ls at hl ⊢
  have hl : lv_has ls 6 [(0, .ref (G.2.2.1 9 0)), (1, .int x1), (2, .int x2), (3, .int x3)] := hl
  have hroot := pv_root hw
  unfold f_X9_move at h
  refine lv_aload_n hx hb dX9_move_0 rfl (lv_at hl 0 rfl) ?_
  refine lv_iload_n hx hb dX9_move_1 rfl (lv_at hl 1 rfl) ?_
  obtain ⟨r1, e2, h⟩ := ob1_e h
  refine pcallq (va_runV (As := [.int x1]) (rest := []) ⟨hx, hb, hml, hown, hts⟩ (c_X9_nodeAt (l := l) (G := G) (tys := tys) (σ := σ) htys  e2) (cwV 1 hts (gVA wm236 wm237 wm238 wm2 wm239) rfl rfl rfl (by decide +kernel) ⟨(Nat.le_of_ble_eq_true rfl), (Nat.le_of_ble_eq_true rfl)⟩) (pv_preV hA hS hw hK 9 0 Nat.one_pos (by decide) rfl [.int x1]) rfl rfl hl.1 rfl (lv_room (Nat.le_of_ble_eq_true rfl)) dX9_move_2 ⟨Nat.zero_le _, Nat.zero_le _⟩) hS (fun r4 s5 H locs hp3 hw hS => ?_)
  obtain ⟨err1, esr1, hzr1⟩ := hp3
  obtain rfl := esr1.symm
  subst err1
  refine lv_astore (lv' := [(4, .ref (G.2.2.1 3 r1)), (0, .ref (G.2.2.1 9 0)), (1, .int x1), (2, .int x2), (3, .int x3)]) hx hb dX9_move_5 hl (by decide) rfl (fun ls hl => ?_)
  refine lv_aload_n hx hb dX9_move_7 rfl (lv_at hl 1 rfl) ?_
  refine lv_iload_n hx hb dX9_move_8 rfl (lv_at hl 3 rfl) ?_
  obtain ⟨r6, e7, h⟩ := ob1_e h
  refine pcallq (va_runV (As := [.int x2]) (rest := []) ⟨hx, hb, hml, hown, hts⟩ (c_X9_nodeAt (l := l) (G := G) (tys := tys) (σ := σ) htys  e7) (cwV 1 hts (gVA wm236 wm237 wm238 wm2 wm239) rfl rfl rfl (by decide +kernel) ⟨(Nat.le_of_ble_eq_true rfl), (Nat.le_of_ble_eq_true rfl)⟩) (pv_preV hA hS hw hK 9 0 Nat.one_pos (by decide) rfl [.int x2]) rfl rfl hl.1 rfl (lv_room (Nat.le_of_ble_eq_true rfl)) dX9_move_9 ⟨Nat.zero_le _, Nat.zero_le _⟩) hS (fun r9 s10 H locs hp8 hw hS => ?_)
  obtain ⟨err6, esr6, hzr6⟩ := hp8
  obtain rfl := esr6.symm
  subst err6
  refine lv_astore (lv' := [(5, .ref (G.2.2.1 3 r6)), (4, .ref (G.2.2.1 3 r1)), (0, .ref (G.2.2.1 9 0)), (1, .int x1), (2, .int x2), (3, .int x3)]) hx hb dX9_move_12 hl (by decide) rfl (fun ls hl => ?_)
  refine lv_aload_n hx hb dX9_move_14 rfl (lv_at hl 2 rfl) ?_
  refine pgL (C := RX9) (T := TX9) (N := 6) hx hb hts hown hK hw 9 0 0 Nat.one_pos (by decide) rfl rfl inF_X9 (by decide) (v := .ref (G.2.2.1 7 0)) rfl (hts _ wm10) (fun _ h9 => h9) dX9_move_15 ?_
  refine lv_aload hx hb dX9_move_18 (lv_at hl 1 rfl) ?_
  refine lv_aload hx hb dX9_move_20 (lv_at hl 0 rfl) ?_
  refine lv_iload_n hx hb dX9_move_22 rfl (lv_at hl 5 rfl) ?_
  obtain ⟨r11, e12, h⟩ := ob1_e h
  refine pcalli (va_runV (As := [.ref (G.2.2.1 3 r1), .ref (G.2.2.1 3 r6), .int x3]) (rest := []) ⟨hx, hb, hml, hown, hts⟩ (c_X7_canMove (l := l) (G := G) (tys := tys) (σ := σ) htys hzr1 hzr6 e12) (cwV 3 hts (gVA wm851 wm852 wm853 wm28 wm854) rfl rfl rfl (by decide +kernel) ⟨(Nat.le_of_ble_eq_true rfl), (Nat.le_of_ble_eq_true rfl)⟩) (pv_preV hA hS hw hK 7 0 Nat.one_pos (by decide) rfl [.ref (G.2.2.1 3 r1), .ref (G.2.2.1 3 r6), .int x3]) rfl rfl hl.1 rfl (lv_room (Nat.le_of_ble_eq_true rfl)) dX9_move_23 ⟨Nat.zero_le _, Nat.zero_le _⟩) hS (fun r14 s15 H locs hp13 hw hS => ?_)
  obtain ⟨err11, esr11, hzr11⟩ := hp13
  obtain rfl := esr11.symm
  obtain rfl := err11.symm
  refine lv_if_ne (tgt := 39) hx hb dX9_move_26 (by decide) (fun c16 => ?_) (fun c16 => ?_)
  · skip
    replace h := ite_n c16 h
    refine lv_aload_n hx hb dX9_move_39 rfl (lv_at hl 2 rfl) ?_
    obtain ⟨σ18, e19, h⟩ := ob1_e h
    refine pcallv (va_runV (As := []) (rest := []) ⟨hx, hb, hml, hown, hts⟩ (c_X9_forgetWhatWasWorkedOut (l := l) (G := G) (tys := tys) (σ := σ) htys  e19) (cwV 0 hts (gVA wm279 wm280 wm281 wm2 wm282) rfl rfl rfl (by decide +kernel) ⟨(Nat.le_of_ble_eq_true rfl), (Nat.le_of_ble_eq_true rfl)⟩) (pv_preV hA hS hw hK 9 0 Nat.one_pos (by decide) rfl []) rfl rfl hl.1 rfl (lv_room (Nat.le_of_ble_eq_true rfl)) dX9_move_40 ⟨Nat.zero_le _, Nat.zero_le _⟩) hS (fun s22 H locs hp20 hw hS => ?_)
    obtain ⟨esσ18, hdσ18⟩ := hp20
    obtain rfl := esσ18.symm
    have hcσ18 : σ18.1 = σ.1 := hdσ18
    refine lv_aload_n hx hb dX9_move_43 rfl (lv_at hl 2 rfl) ?_
    refine pgL (C := RX9) (T := TX9) (N := 6) hx hb hts hown hK hw 9 0 0 Nat.one_pos (by decide) rfl rfl inF_X9 (by decide) (v := .ref (G.2.2.1 7 0)) rfl (hts _ wm10) (fun _ h9 => h9) dX9_move_44 ?_
    refine lv_aload hx hb dX9_move_47 (lv_at hl 1 rfl) ?_
    refine lv_aload hx hb dX9_move_49 (lv_at hl 0 rfl) ?_
    refine lv_iload_n hx hb dX9_move_51 rfl (lv_at hl 5 rfl) ?_
    obtain ⟨σ24, e25, h⟩ := ob1_e h
    refine pcallv (va_runV (As := [.ref (G.2.2.1 3 r1), .ref (G.2.2.1 3 r6), .int x3]) (rest := []) ⟨hx, hb, hml, hown, hts⟩ (c_X7_putInto (l := l) (G := G) (tys := tys) (σ := σ18) htys (lt_c hcσ18 3 hzr1) (lt_c hcσ18 3 hzr6) e25) (cwV 3 hts (gVA wm864 wm865 wm866 wm28 wm867) rfl rfl rfl (by decide +kernel) ⟨(Nat.le_of_ble_eq_true rfl), (Nat.le_of_ble_eq_true rfl)⟩) (pv_preV hA hS hw hK 7 0 Nat.one_pos (by decide) rfl [.ref (G.2.2.1 3 r1), .ref (G.2.2.1 3 r6), .int x3]) rfl rfl hl.1 rfl (lv_room (Nat.le_of_ble_eq_true rfl)) dX9_move_52 ⟨Nat.le_of_ble_eq_true rfl, Nat.le_of_ble_eq_true rfl⟩) hS (fun s28 H locs hp26 hw hS => ?_)
    obtain ⟨esσ24, hdσ24⟩ := hp26
    obtain rfl := esσ24.symm
    have hcσ24 : σ24.1 = σ.1 := hdσ24.trans hcσ18
    refine lv_aload hx hb dX9_move_55 (lv_at hl 0 rfl) ?_
    refine pgL (C := RX3) (T := TX3) (N := 14) hx hb hts hown hK hw 3 3 r6 (lt_c hcσ24 3 hzr6) (by decide) rfl rfl inF_X3 (by decide) (v := .ref (G.2.2.1 10 (r6 + 3))) rfl (hts _ wm326) (fun _ h9 => h9) dX9_move_57 ?_
    refine pcalli (va_runV (As := []) (rest := []) ⟨hx, hb, hml, hown, hts⟩ (c_lsize (l := l) (G := G) (tys := tys) (σ := σ24) (j := r6 + 3) (show r6 + 3 < σ24.1 0 + 3 from Nat.add_lt_add_right (lt_c hcσ24 3 hzr6) 3)) (cwV 0 hts (gVA wm327 wm251 wm252 wm13 wm253) rfl rfl rfl (by decide +kernel) ⟨(Nat.le_of_ble_eq_true rfl), (Nat.le_of_ble_eq_true rfl)⟩) (pl_preV hA hS hw hK (r6 + 3) (show r6 + 3 < σ24.1 0 + 3 from Nat.add_lt_add_right (lt_c hcσ24 3 hzr6) 3) []) rfl rfl hl.1 rfl (lv_room (Nat.le_of_ble_eq_true rfl)) dX9_move_60 ⟨Nat.le_of_ble_eq_true rfl, Nat.le_of_ble_eq_true rfl⟩) hS (fun rz29 sz29 H locs hpz29 hw hS => ?_)
    obtain ⟨rfl, ez29⟩ := hpz29
    obtain rfl := ez29.symm
    refine W.widen (k := 65) (n := 6240) (Nat.le_of_ble_eq_true rfl) (Nat.le_of_ble_eq_true rfl) ?_
    exact pei hx hb hr hlocks hA hw hK hS (pst h hcσ24) dX9_move_63
  · skip
    replace h := ite_p c16 h
    cases h
