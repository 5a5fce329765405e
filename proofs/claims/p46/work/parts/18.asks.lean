def f_X9_nodeAt (σ : PvS) (x1 : Int32) : Option Nat :=
  ob1 (f_X7_holds σ x1) (fun r1 => if r1 = 0 then (none) else (gd (vin x1 (σ.2.2.2.2 0).length) (nm ((σ.2.2.2.2 0).getD x1.toNatClampNeg 0) (fun y8 => some y8))))
set_option maxHeartbeats 4000000 in
set_option maxRecDepth 100000 in
theorem c_X9_nodeAt {l : Launch} {G : PvG} {tys : List (ClassId × FieldType)} {σ : PvS} (htys : tys = pvT G)  {x1 : Int32}  {r : Nat} (h : f_X9_nodeAt σ x1 = some r) : Met l yX9_nodeAt (Cond.code yX9_nodeAt cX9_nodeAt 2 (some (.object "PinnaceView$Node")) :: WA) ({ frames := 4, cells := 0, slots := 0, locals := 85 }) (va_Pc [.ref (G.2.2.1 9 0), .int x1] (pvU G tys σ)) (va_Qq (fun r' σ' => r' = some (G.2.2.1 3 r) ∧ σ' = σ ∧ r < pvM σ' 3) (pvU G tys) (pvB G)) 0 0 (pvB G) := by
  refine Met.ofW (cc := cX9_nodeAt) (maxL := 2) (ret := (some (.object "PinnaceView$Node"))) (by decide) rfl ?_
  intro p e s m args below meth c s₁ B hml hv
  obtain ⟨rfl, hw, hK, hA⟩ := hv
  have hx := B.exec
  have hb := B.bytes
  have hr := B.returns
  have hts0 := atoms_spec (ws := (Cond.code yX9_nodeAt cX9_nodeAt 2 (some (.object "PinnaceView$Node")) :: WA)) B.pre
  have hts : ∀ w ∈ WA, w.before _ s = true := fun w h => hts0 w (List.mem_cons_of_mem _ h)
  have hown : s.vm.findClass RX9 = some m.cls := findClass_of_methodNamed B.named
  have hlocks := B.notSynchronized
  have hS : va_S (pvB G) s.heap s.heap [] := va_S.rf
  have hl := lv_entry ([.ref (G.2.2.1 9 0), .int x1]) (n := 2) (Nat.le_of_ble_eq_true rfl)
  rw [lg_entry_eq]
  generalize (lg_sl ([.ref (G.2.2.1 9 0), .int x1]) ++ List.replicate (2 - (lg_sl ([.ref (G.2.2.1 9 0), .int x1])).length) Slot.unset).toArray = ls at hl ⊢
  have hl : lv_has ls 2 [(0, .ref (G.2.2.1 9 0)), (1, .int x1)] := hl
  have hroot := pv_root hw
  unfold f_X9_nodeAt at h
  refine lv_aload_n hx hb dX9_nodeAt_0 rfl (lv_at hl 0 rfl) ?_
  refine pgL (C := RX9) (T := TX9) (N := 6) hx hb hts hown hK hw 9 0 0 Nat.one_pos (by decide) rfl rfl inF_X9 (by decide) (v := .ref (G.2.2.1 7 0)) rfl (hts _ wm10) (fun _ h9 => h9) dX9_nodeAt_1 ?_
  refine lv_iload_n hx hb dX9_nodeAt_4 rfl (lv_at hl 1 rfl) ?_
  obtain ⟨r1, e2, h⟩ := ob1_e h
  refine pcalli (va_runV (As := [.int x1]) (rest := []) ⟨hx, hb, hml, hown, hts⟩ (c_X7_holds (l := l) (G := G) (tys := tys) (σ := σ) htys  e2) (cwV 1 hts (gVA wm244 wm245 wm246 wm28 wm247) rfl rfl rfl (by decide +kernel) ⟨(Nat.le_of_ble_eq_true rfl), (Nat.le_of_ble_eq_true rfl)⟩) (pv_preV hA hS hw hK 7 0 Nat.one_pos (by decide) rfl [.int x1]) rfl rfl hl.1 rfl (lv_room (Nat.le_of_ble_eq_true rfl)) dX9_nodeAt_5 ⟨Nat.zero_le _, Nat.zero_le _⟩) hS (fun r4 s5 H locs hp3 hw hS => ?_)
  obtain ⟨err1, esr1, hzr1⟩ := hp3
  obtain rfl := esr1.symm
  obtain rfl := err1.symm
  refine lv_if_ne (tgt := 22) hx hb dX9_nodeAt_8 (by decide) (fun c6 => ?_) (fun c6 => ?_)
  · skip
    replace h := ite_n c6 h
    refine lv_aload_n hx hb dX9_nodeAt_22 rfl (lv_at hl 0 rfl) ?_
    refine pgL (C := RX9) (T := TX9) (N := 6) hx hb hts hown hK hw 9 0 0 Nat.one_pos (by decide) rfl rfl inF_X9 (by decide) (v := .ref (G.2.2.1 7 0)) rfl (hts _ wm10) (fun _ h9 => h9) dX9_nodeAt_23 ?_
    refine pgL (C := RX7) (T := TX7) (N := 3) hx hb hts hown hK hw 7 0 0 Nat.one_pos (by decide) rfl rfl inF_X7 (by decide) (v := .ref (G.2.2.1 10 0)) rfl (hts _ wm242) (fun _ h9 => h9) dX9_nodeAt_26 ?_
    refine lv_iload_n hx hb dX9_nodeAt_29 rfl (lv_at hl 1 rfl) ?_
    obtain ⟨g7, h⟩ := gd_e h
    obtain ⟨y8, ey8, h⟩ := nq_e h
    refine pcallg (κ := 3) rfl (va_runV (As := [.int x1]) (rest := []) ⟨hx, hb, hml, hown, hts⟩ (c_lgetI (l := l) (G := G) (tys := tys) (σ := σ) htys (j := 0) (show 0 < σ.1 0 + 3 from Nat.lt_of_lt_of_le (by decide) (Nat.le_add_left 3 _)) g7 (pl_len2 hw 0 (show 0 < σ.1 0 + 3 from Nat.lt_of_lt_of_le (by decide) (Nat.le_add_left 3 _)))) (cwV 1 hts (gVA wm270 wm255 wm256 wm13 wm257) rfl rfl rfl (by decide +kernel) ⟨(Nat.le_of_ble_eq_true rfl), (Nat.le_of_ble_eq_true rfl)⟩) (pl_preV hA hS hw hK 0 (show 0 < σ.1 0 + 3 from Nat.lt_of_lt_of_le (by decide) (Nat.le_add_left 3 _)) [.int x1]) rfl rfl hl.1 rfl (lv_room (Nat.le_of_ble_eq_true rfl)) dX9_nodeAt_30 ⟨Nat.zero_le _, Nat.zero_le _⟩) hS (fun zy8 ezy8 H locs hw hS => ?_)
    obtain rfl : y8 = zy8 := ey8.trans ezy8.symm
    have hy8 : y8 < pvM σ 3 := by rw [ey8]; exact pl_lt hw 0 (show 0 < σ.1 0 + 3 from Nat.lt_of_lt_of_le (by decide) (Nat.le_add_left 3 _)) _ (Nat.not_le.mp fun q => g7 (Or.inr q)) rfl
    refine pcast hx hb hown hK hw 3 y8 hy8 (by decide) rfl (hts _ wm243) dX9_nodeAt_33 ?_
    exact peq (r := some (G.2.2.1 3 y8)) hx hb hr (Or.inl ⟨_, rfl⟩) hlocks hA hw hK hS ⟨by rw [Option.some.inj h], rfl, by rw [← Option.some.inj h]; exact hy8⟩ dX9_nodeAt_36
  · skip
    replace h := ite_p c6 h
    cases h
def f_X9_ruleAt (σ : PvS) (x1 : Int32) : Option Nat :=
  if x1 < 0 then (none) else (if x1 < (nI (σ.2.2.2.2 2).length) then (gd (vin x1 (σ.2.2.2.2 2).length) (nm ((σ.2.2.2.2 2).getD x1.toNatClampNeg 0) (fun y5 => some y5))) else (none))
set_option maxHeartbeats 4000000 in
set_option maxRecDepth 100000 in
theorem c_X9_ruleAt {l : Launch} {G : PvG} {tys : List (ClassId × FieldType)} {σ : PvS} (htys : tys = pvT G)  {x1 : Int32}  {r : Nat} (h : f_X9_ruleAt σ x1 = some r) : Met l yX9_ruleAt (Cond.code yX9_ruleAt cX9_ruleAt 2 (some (.object "PinnaceView$Rule")) :: WA) ({ frames := 3, cells := 0, slots := 0, locals := 64 }) (va_Pc [.ref (G.2.2.1 9 0), .int x1] (pvU G tys σ)) (va_Qq (fun r' σ' => r' = some (G.2.2.1 5 r) ∧ σ' = σ ∧ r < pvM σ' 5) (pvU G tys) (pvB G)) 0 0 (pvB G) := by
  refine Met.ofW (cc := cX9_ruleAt) (maxL := 2) (ret := (some (.object "PinnaceView$Rule"))) (by decide) rfl ?_
  intro p e s m args below meth c s₁ B hml hv
  obtain ⟨rfl, hw, hK, hA⟩ := hv
  have hx := B.exec
  have hb := B.bytes
  have hr := B.returns
  have hts0 := atoms_spec (ws := (Cond.code yX9_ruleAt cX9_ruleAt 2 (some (.object "PinnaceView$Rule")) :: WA)) B.pre
  have hts : ∀ w ∈ WA, w.before _ s = true := fun w h => hts0 w (List.mem_cons_of_mem _ h)
  have hown : s.vm.findClass RX9 = some m.cls := findClass_of_methodNamed B.named
  have hlocks := B.notSynchronized
  have hS : va_S (pvB G) s.heap s.heap [] := va_S.rf
  have hl := lv_entry ([.ref (G.2.2.1 9 0), .int x1]) (n := 2) (Nat.le_of_ble_eq_true rfl)
  rw [lg_entry_eq]
  generalize (lg_sl ([.ref (G.2.2.1 9 0), .int x1]) ++ List.replicate (2 - (lg_sl ([.ref (G.2.2.1 9 0), .int x1])).length) Slot.unset).toArray = ls at hl ⊢
  have hl : lv_has ls 2 [(0, .ref (G.2.2.1 9 0)), (1, .int x1)] := hl
  have hroot := pv_root hw
  unfold f_X9_ruleAt at h
  refine lv_iload_n hx hb dX9_ruleAt_0 rfl (lv_at hl 1 rfl) ?_
  refine lv_if_lt (tgt := 15) hx hb dX9_ruleAt_1 (by decide) (fun c1 => ?_) (fun c1 => ?_)
  · skip
    replace h := ite_p c1 h
    cases h
  · skip
    replace h := ite_n c1 h
    refine lv_iload_n hx hb dX9_ruleAt_4 rfl (lv_at hl 1 rfl) ?_
    refine lv_aload_n hx hb dX9_ruleAt_5 rfl (lv_at hl 0 rfl) ?_
    refine pgL (C := RX9) (T := TX9) (N := 6) hx hb hts hown hK hw 9 1 0 Nat.one_pos (by decide) rfl rfl inF_X9 (by decide) (v := .ref (G.2.2.1 10 2)) rfl (hts _ wm14) (fun _ h9 => h9) dX9_ruleAt_6 ?_
    refine pcalli (va_runV (As := []) (rest := [.int x1]) ⟨hx, hb, hml, hown, hts⟩ (c_lsize (l := l) (G := G) (tys := tys) (σ := σ) (j := 2) (show 2 < σ.1 0 + 3 from Nat.lt_of_lt_of_le (by decide) (Nat.le_add_left 3 _))) (cwV 0 hts (gVA wm327 wm251 wm252 wm13 wm253) rfl rfl rfl (by decide +kernel) ⟨(Nat.le_of_ble_eq_true rfl), (Nat.le_of_ble_eq_true rfl)⟩) (pl_preV hA hS hw hK 2 (show 2 < σ.1 0 + 3 from Nat.lt_of_lt_of_le (by decide) (Nat.le_add_left 3 _)) []) rfl rfl hl.1 rfl (lv_room (Nat.le_of_ble_eq_true rfl)) dX9_ruleAt_9 ⟨Nat.zero_le _, Nat.zero_le _⟩) hS (fun rz2 sz2 H locs hpz2 hw hS => ?_)
    obtain ⟨rfl, ez2⟩ := hpz2
    obtain rfl := ez2.symm
    refine lv_icmp_lt (tgt := 26) hx hb dX9_ruleAt_12 (by decide) (fun c3 => ?_) (fun c3 => ?_)
    · skip
      replace h := ite_p c3 h
      refine lv_aload_n hx hb dX9_ruleAt_26 rfl (lv_at hl 0 rfl) ?_
      refine pgL (C := RX9) (T := TX9) (N := 6) hx hb hts hown hK hw 9 1 0 Nat.one_pos (by decide) rfl rfl inF_X9 (by decide) (v := .ref (G.2.2.1 10 2)) rfl (hts _ wm14) (fun _ h9 => h9) dX9_ruleAt_27 ?_
      refine lv_iload_n hx hb dX9_ruleAt_30 rfl (lv_at hl 1 rfl) ?_
      obtain ⟨g4, h⟩ := gd_e h
      obtain ⟨y5, ey5, h⟩ := nq_e h
      refine pcallg (κ := 5) rfl (va_runV (As := [.int x1]) (rest := []) ⟨hx, hb, hml, hown, hts⟩ (c_lgetI (l := l) (G := G) (tys := tys) (σ := σ) htys (j := 2) (show 2 < σ.1 0 + 3 from Nat.lt_of_lt_of_le (by decide) (Nat.le_add_left 3 _)) g4 (pl_len2 hw 2 (show 2 < σ.1 0 + 3 from Nat.lt_of_lt_of_le (by decide) (Nat.le_add_left 3 _)))) (cwV 1 hts (gVA wm270 wm255 wm256 wm13 wm257) rfl rfl rfl (by decide +kernel) ⟨(Nat.le_of_ble_eq_true rfl), (Nat.le_of_ble_eq_true rfl)⟩) (pl_preV hA hS hw hK 2 (show 2 < σ.1 0 + 3 from Nat.lt_of_lt_of_le (by decide) (Nat.le_add_left 3 _)) [.int x1]) rfl rfl hl.1 rfl (lv_room (Nat.le_of_ble_eq_true rfl)) dX9_ruleAt_31 ⟨Nat.zero_le _, Nat.zero_le _⟩) hS (fun zy5 ezy5 H locs hw hS => ?_)
      obtain rfl : y5 = zy5 := ey5.trans ezy5.symm
      have hy5 : y5 < pvM σ 5 := by rw [ey5]; exact pl_lt hw 2 (show 2 < σ.1 0 + 3 from Nat.lt_of_lt_of_le (by decide) (Nat.le_add_left 3 _)) _ (Nat.not_le.mp fun q => g4 (Or.inr q)) rfl
      refine pcast hx hb hown hK hw 5 y5 hy5 (by decide) rfl (hts _ wm357) dX9_ruleAt_34 ?_
      exact peq (r := some (G.2.2.1 5 y5)) hx hb hr (Or.inl ⟨_, rfl⟩) hlocks hA hw hK hS ⟨by rw [Option.some.inj h], rfl, by rw [← Option.some.inj h]; exact hy5⟩ dX9_ruleAt_37
    · skip
      replace h := ite_n c3 h
      cases h
def f_X9_forgetWhatWasWorkedOut (σ : PvS)  : Option PvS :=
  nm (pvI σ 6 2 0 0) (fun σ1 => nm (pvI σ1 4 3 0 0) (fun σ2 => some σ2))
set_option maxHeartbeats 4000000 in
set_option maxRecDepth 100000 in
theorem c_X9_forgetWhatWasWorkedOut {l : Launch} {G : PvG} {tys : List (ClassId × FieldType)} {σ : PvS} (htys : tys = pvT G)    {σ1 : PvS} (h : f_X9_forgetWhatWasWorkedOut σ = some σ1) : Met l yX9_forgetWhatWasWorkedOut (Cond.code yX9_forgetWhatWasWorkedOut cX9_forgetWhatWasWorkedOut 1 none :: WA) ({ frames := 0, cells := 0, slots := 0, locals := 0 }) (va_Pc [.ref (G.2.2.1 9 0)] (pvU G tys σ)) (va_Qv (fun σ' => σ' = σ1 ∧ σ'.1 = σ.1) (pvU G tys) (pvB G)) 0 0 (pvB G) := by
  refine Met.ofW (cc := cX9_forgetWhatWasWorkedOut) (maxL := 1) (ret := none) (by decide) rfl ?_
  intro p e s m args below meth c s₁ B hml hv
  obtain ⟨rfl, hw, hK, hA⟩ := hv
  have hx := B.exec
  have hb := B.bytes
  have hr := B.returns
  have hts0 := atoms_spec (ws := (Cond.code yX9_forgetWhatWasWorkedOut cX9_forgetWhatWasWorkedOut 1 none :: WA)) B.pre
  have hts : ∀ w ∈ WA, w.before _ s = true := fun w h => hts0 w (List.mem_cons_of_mem _ h)
  have hown : s.vm.findClass RX9 = some m.cls := findClass_of_methodNamed B.named
  have hlocks := B.notSynchronized
  have hS : va_S (pvB G) s.heap s.heap [] := va_S.rf
  have hl := lv_entry ([.ref (G.2.2.1 9 0)]) (n := 1) (Nat.le_of_ble_eq_true rfl)
  rw [lg_entry_eq]
  generalize (lg_sl ([.ref (G.2.2.1 9 0)]) ++ List.replicate (1 - (lg_sl ([.ref (G.2.2.1 9 0)])).length) Slot.unset).toArray = ls at hl ⊢
  have hl : lv_has ls 1 [(0, .ref (G.2.2.1 9 0))] := hl
  have hroot := pv_root hw
  unfold f_X9_forgetWhatWasWorkedOut at h
  refine lv_aload_n hx hb dX9_forgetWhatWasWorkedOut_0 rfl (lv_at hl 0 rfl) ?_
  refine pgL (C := RX9) (T := TX9) (N := 6) hx hb hts hown hK hw 9 3 0 Nat.one_pos (by decide) rfl rfl inF_X9 (by decide) (v := .ref (G.2.2.1 6 0)) rfl (hts _ wm20) (fun _ h9 => h9) dX9_forgetWhatWasWorkedOut_1 ?_
  refine lv_iconst (v := 0) hx hb dX9_forgetWhatWasWorkedOut_4 (by decide) ?_
  obtain ⟨σ1, eσ1, h⟩ := nq_e h
  refine ppI (ty := .boolean) (C := RX6) (T := TX6) (N := 3) hx hb hts hown hK hw hS 6 2 0 (show 0 < 2 from by decide) (by decide) rfl rfl inF_X6 (by decide) rfl (by decide) tyX6_ok nmX6 (hts _ wm283) (fun _ h9 => h9) rfl (by decide +kernel) (is01_nar (Or.inl rfl)) (is01_fit (Or.inl rfl)) dX9_forgetWhatWasWorkedOut_5 (fun H locs hw hS => ?_)
  rw [← eσ1] at hw
  have hcσ1 : σ1.1 = σ.1 := by rw [eσ1]; exact rfl
  refine lv_aload_n hx hb dX9_forgetWhatWasWorkedOut_8 rfl (lv_at hl 0 rfl) ?_
  refine pgL (C := RX9) (T := TX9) (N := 6) hx hb hts hown hK hw 9 2 0 Nat.one_pos (by decide) rfl rfl inF_X9 (by decide) (v := .ref (G.2.2.1 4 0)) rfl (hts _ wm18) (fun _ h9 => h9) dX9_forgetWhatWasWorkedOut_9 ?_
  refine lv_iconst (v := 0) hx hb dX9_forgetWhatWasWorkedOut_12 (by decide) ?_
  obtain ⟨σ2, eσ2, h⟩ := nq_e h
  refine ppI (ty := .int) (C := RX4) (T := TX4) (N := 6) hx hb hts hown hK hw hS 4 3 0 Nat.one_pos (by decide) rfl rfl inF_X4 (by decide) rfl (by decide) tyX4_ok nmX4 (hts _ wm284) (fun _ h9 => h9) rfl (by decide +kernel) rfl rfl dX9_forgetWhatWasWorkedOut_13 (fun H locs hw hS => ?_)
  rw [← eσ2] at hw
  have hcσ2 : σ2.1 = σ.1 := by rw [eσ2]; exact hcσ1
  exact pev hx hb hr hlocks hA hw hK hS (psv h hcσ2) dX9_forgetWhatWasWorkedOut_16
def f_X9_freshenStyles (σ : PvS)  : Option PvS :=
  if (σ.2.1 6 2 0) = 0 then (ob1 (f_X6_workOut σ 0 (-1)) (fun σ3 => some σ3)) else (some σ)
set_option maxHeartbeats 4000000 in
set_option maxRecDepth 100000 in
theorem c_X9_freshenStyles {l : Launch} {G : PvG} {tys : List (ClassId × FieldType)} {σ : PvS} (htys : tys = pvT G)    {σ1 : PvS} (h : f_X9_freshenStyles σ = some σ1) : Met l yX9_freshenStyles (Cond.code yX9_freshenStyles cX9_freshenStyles 1 none :: WA) ({ frames := 9, cells := 0, slots := 0, locals := 214 }) (va_Pc [.ref (G.2.2.1 9 0)] (pvU G tys σ)) (va_Qv (fun σ' => σ' = σ1 ∧ σ'.1 = σ.1) (pvU G tys) (pvB G)) 0 0 (pvB G) := by
  refine Met.ofW (cc := cX9_freshenStyles) (maxL := 1) (ret := none) (by decide) rfl ?_
  intro p e s m args below meth c s₁ B hml hv
  obtain ⟨rfl, hw, hK, hA⟩ := hv
  have hx := B.exec
  have hb := B.bytes
  have hr := B.returns
  have hts0 := atoms_spec (ws := (Cond.code yX9_freshenStyles cX9_freshenStyles 1 none :: WA)) B.pre
  have hts : ∀ w ∈ WA, w.before _ s = true := fun w h => hts0 w (List.mem_cons_of_mem _ h)
  have hown : s.vm.findClass RX9 = some m.cls := findClass_of_methodNamed B.named
  have hlocks := B.notSynchronized
  have hS : va_S (pvB G) s.heap s.heap [] := va_S.rf
  have hl := lv_entry ([.ref (G.2.2.1 9 0)]) (n := 1) (Nat.le_of_ble_eq_true rfl)
  rw [lg_entry_eq]
  generalize (lg_sl ([.ref (G.2.2.1 9 0)]) ++ List.replicate (1 - (lg_sl ([.ref (G.2.2.1 9 0)])).length) Slot.unset).toArray = ls at hl ⊢
  have hl : lv_has ls 1 [(0, .ref (G.2.2.1 9 0))] := hl
  have hroot := pv_root hw
  unfold f_X9_freshenStyles at h
  refine lv_aload_n hx hb dX9_freshenStyles_0 rfl (lv_at hl 0 rfl) ?_
  refine pgL (C := RX9) (T := TX9) (N := 6) hx hb hts hown hK hw 9 3 0 Nat.one_pos (by decide) rfl rfl inF_X9 (by decide) (v := .ref (G.2.2.1 6 0)) rfl (hts _ wm20) (fun _ h9 => h9) dX9_freshenStyles_1 ?_
  refine pgI (C := RX6) (T := TX6) (N := 3) hx hb hts hown hK hw 6 2 0 (show 0 < 2 from by decide) (by decide) rfl rfl inF_X6 (by decide) rfl (hts _ wm283) (fun _ h9 => h9) dX9_freshenStyles_4 ?_
  refine lv_if_ne (tgt := 29) hx hb dX9_freshenStyles_7 (by decide) (fun c1 => ?_) (fun c1 => ?_)
  · skip
    replace h := ite_n c1 h
    exact pev hx hb hr hlocks hA hw hK hS (psv h rfl) dX9_freshenStyles_29
  · skip
    replace h := ite_p c1 h
    refine lv_aload_n hx hb dX9_freshenStyles_10 rfl (lv_at hl 0 rfl) ?_
    refine pgL (C := RX9) (T := TX9) (N := 6) hx hb hts hown hK hw 9 3 0 Nat.one_pos (by decide) rfl rfl inF_X9 (by decide) (v := .ref (G.2.2.1 6 0)) rfl (hts _ wm20) (fun _ h9 => h9) dX9_freshenStyles_11 ?_
    refine lv_aload_n hx hb dX9_freshenStyles_14 rfl (lv_at hl 0 rfl) ?_
    refine pgL (C := RX9) (T := TX9) (N := 6) hx hb hts hown hK hw 9 0 0 Nat.one_pos (by decide) rfl rfl inF_X9 (by decide) (v := .ref (G.2.2.1 7 0)) rfl (hts _ wm10) (fun _ h9 => h9) dX9_freshenStyles_15 ?_
    refine pgL (C := RX7) (T := TX7) (N := 3) hx hb hts hown hK hw 7 1 0 Nat.one_pos (by decide) rfl rfl inF_X7 (by decide) (v := .ref (G.2.2.1 10 1)) rfl (hts _ wm420) (fun _ h9 => h9) dX9_freshenStyles_18 ?_
    refine lv_aload_n hx hb dX9_freshenStyles_21 rfl (lv_at hl 0 rfl) ?_
    refine pgL (C := RX9) (T := TX9) (N := 6) hx hb hts hown hK hw 9 1 0 Nat.one_pos (by decide) rfl rfl inF_X9 (by decide) (v := .ref (G.2.2.1 10 2)) rfl (hts _ wm14) (fun _ h9 => h9) dX9_freshenStyles_22 ?_
    refine lv_iconst (v := (-1)) hx hb dX9_freshenStyles_25 (by decide) ?_
    obtain ⟨σ3, e4, h⟩ := ob1_e h
    refine pcallv (va_runV (As := [.ref (G.2.2.1 10 1), .ref (G.2.2.1 10 2), .int (-1)]) (rest := []) ⟨hx, hb, hml, hown, hts⟩ (c_X6_workOut (l := l) (G := G) (tys := tys) (σ := σ) htys (show 0 < 2 from by decide) e4) (cwV 3 hts (gVA wm421 wm422 wm423 wm23 wm424) rfl rfl rfl (by decide +kernel) ⟨(Nat.le_of_ble_eq_true rfl), (Nat.le_of_ble_eq_true rfl)⟩) (pv_preV hA hS hw hK 6 0 (show 0 < 2 from by decide) (by decide) rfl [.ref (G.2.2.1 10 1), .ref (G.2.2.1 10 2), .int (-1)]) rfl rfl hl.1 rfl (lv_room (Nat.le_of_ble_eq_true rfl)) dX9_freshenStyles_26 ⟨Nat.zero_le _, Nat.zero_le _⟩) hS (fun s7 H locs hp5 hw hS => ?_)
    obtain ⟨esσ3, hdσ3⟩ := hp5
    obtain rfl := esσ3.symm
    have hcσ3 : σ3.1 = σ.1 := hdσ3
    exact pev hx hb hr hlocks hA hw hK hS (psv h hcσ3) dX9_freshenStyles_29
def f_X9_laidOut (σ : PvS) (x1 : Int32) (x2 : Int32) : Option (Nat × PvS) :=
  ob1 (f_X9_nodeAt σ x1) (fun r1 => ob1 (f_X9_freshenStyles σ) (fun σ7 => if (σ7.2.1 4 3 0) = x2 then (some (r1, σ7)) else (ob1 (f_X4_layOut σ7 x2) (fun σ14 => some (r1, σ14)))))
set_option maxHeartbeats 4000000 in
set_option maxRecDepth 100000 in
theorem c_X9_laidOut {l : Launch} {G : PvG} {tys : List (ClassId × FieldType)} {σ : PvS} (htys : tys = pvT G)  {x1 : Int32} {x2 : Int32}  {r : Nat} {σ1 : PvS} (h : f_X9_laidOut σ x1 x2 = some (r, σ1)) : Met l yX9_laidOut (Cond.code yX9_laidOut cX9_laidOut 4 (some (.object "PinnaceView$Layout")) :: WA) ({ frames := 71, cells := 0, slots := 0, locals := 1687 }) (va_Pc [.ref (G.2.2.1 9 0), .int x1, .int x2] (pvU G tys σ)) (va_Qq (fun r' σ' => r' = some (G.2.2.1 2 r) ∧ σ' = σ1 ∧ σ'.1 = σ.1 ∧ r < pvM σ' 2) (pvU G tys) (pvB G)) 0 0 (pvB G) := by
  refine Met.ofW (cc := cX9_laidOut) (maxL := 4) (ret := (some (.object "PinnaceView$Layout"))) (by decide) rfl ?_
  intro p e s m args below meth c s₁ B hml hv
  obtain ⟨rfl, hw, hK, hA⟩ := hv
  have hx := B.exec
  have hb := B.bytes
  have hr := B.returns
  have hts0 := atoms_spec (ws := (Cond.code yX9_laidOut cX9_laidOut 4 (some (.object "PinnaceView$Layout")) :: WA)) B.pre
  have hts : ∀ w ∈ WA, w.before _ s = true := fun w h => hts0 w (List.mem_cons_of_mem _ h)
  have hown : s.vm.findClass RX9 = some m.cls := findClass_of_methodNamed B.named
  have hlocks := B.notSynchronized
  have hS : va_S (pvB G) s.heap s.heap [] := va_S.rf
  have hl := lv_entry ([.ref (G.2.2.1 9 0), .int x1, .int x2]) (n := 4) (Nat.le_of_ble_eq_true rfl)
  rw [lg_entry_eq]
  generalize (lg_sl ([.ref (G.2.2.1 9 0), .int x1, .int x2]) ++ List.replicate (4 - (lg_sl ([.ref (G.2.2.1 9 0), .int x1, .int x2])).length) Slot.unset).toArray = ls at hl ⊢
  have hl : lv_has ls 4 [(0, .ref (G.2.2.1 9 0)), (1, .int x1), (2, .int x2)] := hl
  have hroot := pv_root hw
  unfold f_X9_laidOut at h
  refine lv_aload_n hx hb dX9_laidOut_0 rfl (lv_at hl 0 rfl) ?_
  refine lv_iload_n hx hb dX9_laidOut_1 rfl (lv_at hl 1 rfl) ?_
  obtain ⟨r1, e2, h⟩ := ob1_e h
  refine pcallq (va_runV (As := [.int x1]) (rest := []) ⟨hx, hb, hml, hown, hts⟩ (c_X9_nodeAt (l := l) (G := G) (tys := tys) (σ := σ) htys  e2) (cwV 1 hts (gVA wm236 wm237 wm238 wm2 wm239) rfl rfl rfl (by decide +kernel) ⟨(Nat.le_of_ble_eq_true rfl), (Nat.le_of_ble_eq_true rfl)⟩) (pv_preV hA hS hw hK 9 0 Nat.one_pos (by decide) rfl [.int x1]) rfl rfl hl.1 rfl (lv_room (Nat.le_of_ble_eq_true rfl)) dX9_laidOut_2 ⟨Nat.zero_le _, Nat.zero_le _⟩) hS (fun r4 s5 H locs hp3 hw hS => ?_)
  obtain ⟨err1, esr1, hzr1⟩ := hp3
  obtain rfl := esr1.symm
  subst err1
  refine lv_astore_n (lv' := [(3, .ref (G.2.2.1 3 r1)), (0, .ref (G.2.2.1 9 0)), (1, .int x1), (2, .int x2)]) hx hb dX9_laidOut_5 rfl hl (by decide) rfl (fun ls hl => ?_)
  refine lv_aload_n hx hb dX9_laidOut_6 rfl (lv_at hl 1 rfl) ?_
  obtain ⟨σ7, e8, h⟩ := ob1_e h
  refine pcallv (va_runV (As := []) (rest := []) ⟨hx, hb, hml, hown, hts⟩ (c_X9_freshenStyles (l := l) (G := G) (tys := tys) (σ := σ) htys  e8) (cwV 0 hts (gVA wm416 wm417 wm418 wm2 wm419) rfl rfl rfl (by decide +kernel) ⟨(Nat.le_of_ble_eq_true rfl), (Nat.le_of_ble_eq_true rfl)⟩) (pv_preV hA hS hw hK 9 0 Nat.one_pos (by decide) rfl []) rfl rfl hl.1 rfl (lv_room (Nat.le_of_ble_eq_true rfl)) dX9_laidOut_7 ⟨Nat.zero_le _, Nat.zero_le _⟩) hS (fun s11 H locs hp9 hw hS => ?_)
  obtain ⟨esσ7, hdσ7⟩ := hp9
  obtain rfl := esσ7.symm
  have hcσ7 : σ7.1 = σ.1 := hdσ7
  refine lv_aload_n hx hb dX9_laidOut_10 rfl (lv_at hl 1 rfl) ?_
  refine pgL (C := RX9) (T := TX9) (N := 6) hx hb hts hown hK hw 9 2 0 Nat.one_pos (by decide) rfl rfl inF_X9 (by decide) (v := .ref (G.2.2.1 4 0)) rfl (hts _ wm18) (fun _ h9 => h9) dX9_laidOut_11 ?_
  refine pgI (C := RX4) (T := TX4) (N := 6) hx hb hts hown hK hw 4 3 0 Nat.one_pos (by decide) rfl rfl inF_X4 (by decide) rfl (hts _ wm284) (fun _ h9 => h9) dX9_laidOut_14 ?_
  refine lv_iload_n hx hb dX9_laidOut_17 rfl (lv_at hl 3 rfl) ?_
  refine lv_icmp_eq (tgt := 33) hx hb dX9_laidOut_18 (by decide) (fun c12 => ?_) (fun c12 => ?_)
  · skip
    replace h := ite_p c12 h
    refine lv_aload_n hx hb dX9_laidOut_33 rfl (lv_at hl 0 rfl) ?_
    refine pgL (C := RX3) (T := TX3) (N := 14) hx hb hts hown hK hw 3 6 r1 (lt_c hcσ7 3 hzr1) (by decide) rfl rfl inF_X3 (by decide) (v := .ref (G.2.2.1 2 r1)) rfl (hts _ wm415) (fun _ h9 => h9) dX9_laidOut_34 ?_
    exact peq (r := some (G.2.2.1 2 r1)) hx hb hr (Or.inl ⟨_, rfl⟩) hlocks hA hw hK hS ⟨by rw [← (pst h hcσ7).1], (pst h hcσ7).2.1, (pst h hcσ7).2.2, by rw [← (pst h hcσ7).1]; exact (lt_c hcσ7 2 hzr1)⟩ dX9_laidOut_37
  · skip
    replace h := ite_n c12 h
    refine lv_aload_n hx hb dX9_laidOut_21 rfl (lv_at hl 1 rfl) ?_
    refine pgL (C := RX9) (T := TX9) (N := 6) hx hb hts hown hK hw 9 2 0 Nat.one_pos (by decide) rfl rfl inF_X9 (by decide) (v := .ref (G.2.2.1 4 0)) rfl (hts _ wm18) (fun _ h9 => h9) dX9_laidOut_22 ?_
    refine lv_aload_n hx hb dX9_laidOut_25 rfl (lv_at hl 1 rfl) ?_
    refine pgL (C := RX9) (T := TX9) (N := 6) hx hb hts hown hK hw 9 0 0 Nat.one_pos (by decide) rfl rfl inF_X9 (by decide) (v := .ref (G.2.2.1 7 0)) rfl (hts _ wm10) (fun _ h9 => h9) dX9_laidOut_26 ?_
    refine lv_iload_n hx hb dX9_laidOut_29 rfl (lv_at hl 3 rfl) ?_
    obtain ⟨σ14, e15, h⟩ := ob1_e h
    refine pcallv (va_runV (As := [.ref (G.2.2.1 7 0), .int x2]) (rest := []) ⟨hx, hb, hml, hown, hts⟩ (c_X4_layOut (l := l) (G := G) (tys := tys) (σ := σ7) htys  e15) (cwV 2 hts (gVA wm476 wm477 wm478 wm17 wm479) rfl rfl rfl (by decide +kernel) ⟨(Nat.le_of_ble_eq_true rfl), (Nat.le_of_ble_eq_true rfl)⟩) (pv_preV hA hS hw hK 4 0 Nat.one_pos (by decide) rfl [.ref (G.2.2.1 7 0), .int x2]) rfl rfl hl.1 rfl (lv_room (Nat.le_of_ble_eq_true rfl)) dX9_laidOut_30 ⟨Nat.zero_le _, Nat.zero_le _⟩) hS (fun s18 H locs hp16 hw hS => ?_)
    obtain ⟨esσ14, hdσ14⟩ := hp16
    obtain rfl := esσ14.symm
    have hcσ14 : σ14.1 = σ.1 := hdσ14.trans hcσ7
    refine lv_aload_n hx hb dX9_laidOut_33 rfl (lv_at hl 0 rfl) ?_
    refine pgL (C := RX3) (T := TX3) (N := 14) hx hb hts hown hK hw 3 6 r1 (lt_c hcσ14 3 hzr1) (by decide) rfl rfl inF_X3 (by decide) (v := .ref (G.2.2.1 2 r1)) rfl (hts _ wm415) (fun _ h9 => h9) dX9_laidOut_34 ?_
    exact peq (r := some (G.2.2.1 2 r1)) hx hb hr (Or.inl ⟨_, rfl⟩) hlocks hA hw hK hS ⟨by rw [← (pst h hcσ14).1], (pst h hcσ14).2.1, (pst h hcσ14).2.2, by rw [← (pst h hcσ14).1]; exact (lt_c hcσ14 2 hzr1)⟩ dX9_laidOut_37
def f_X9_added (σ : PvS)  : Option Int32 :=
  some (nI (σ.2.2.2.2 0).length)
set_option maxHeartbeats 4000000 in
set_option maxRecDepth 100000 in
theorem c_X9_added {l : Launch} {G : PvG} {tys : List (ClassId × FieldType)} {σ : PvS} (htys : tys = pvT G)    {r : Int32} (h : f_X9_added σ = some r) : Met l yX9_added (Cond.code yX9_added cX9_added 1 (some .int) :: WA) ({ frames := 1, cells := 0, slots := 0, locals := 20 }) (va_Pc [.ref (G.2.2.1 9 0)] (pvU G tys σ)) (va_Qi (fun r' σ' => r' = r ∧ σ' = σ) (pvU G tys) (pvB G)) 0 0 (pvB G) := by
  refine Met.ofW (cc := cX9_added) (maxL := 1) (ret := (some .int)) (by decide) rfl ?_
  intro p e s m args below meth c s₁ B hml hv
  obtain ⟨rfl, hw, hK, hA⟩ := hv
  have hx := B.exec
  have hb := B.bytes
  have hr := B.returns
  have hts0 := atoms_spec (ws := (Cond.code yX9_added cX9_added 1 (some .int) :: WA)) B.pre
  have hts : ∀ w ∈ WA, w.before _ s = true := fun w h => hts0 w (List.mem_cons_of_mem _ h)
  have hown : s.vm.findClass RX9 = some m.cls := findClass_of_methodNamed B.named
  have hlocks := B.notSynchronized
  have hS : va_S (pvB G) s.heap s.heap [] := va_S.rf
  have hl := lv_entry ([.ref (G.2.2.1 9 0)]) (n := 1) (Nat.le_of_ble_eq_true rfl)
  rw [lg_entry_eq]
  generalize (lg_sl ([.ref (G.2.2.1 9 0)]) ++ List.replicate (1 - (lg_sl ([.ref (G.2.2.1 9 0)])).length) Slot.unset).toArray = ls at hl ⊢
  have hl : lv_has ls 1 [(0, .ref (G.2.2.1 9 0))] := hl
  have hroot := pv_root hw
  unfold f_X9_added at h
  refine lv_aload_n hx hb dX9_added_0 rfl (lv_at hl 0 rfl) ?_
  refine pgL (C := RX9) (T := TX9) (N := 6) hx hb hts hown hK hw 9 0 0 Nat.one_pos (by decide) rfl rfl inF_X9 (by decide) (v := .ref (G.2.2.1 7 0)) rfl (hts _ wm10) (fun _ h9 => h9) dX9_added_1 ?_
  refine pgL (C := RX7) (T := TX7) (N := 3) hx hb hts hown hK hw 7 0 0 Nat.one_pos (by decide) rfl rfl inF_X7 (by decide) (v := .ref (G.2.2.1 10 0)) rfl (hts _ wm242) (fun _ h9 => h9) dX9_added_4 ?_
  refine pcalli (va_runV (As := []) (rest := []) ⟨hx, hb, hml, hown, hts⟩ (c_lsize (l := l) (G := G) (tys := tys) (σ := σ) (j := 0) (show 0 < σ.1 0 + 3 from Nat.lt_of_lt_of_le (by decide) (Nat.le_add_left 3 _))) (cwV 0 hts (gVA wm327 wm251 wm252 wm13 wm253) rfl rfl rfl (by decide +kernel) ⟨(Nat.le_of_ble_eq_true rfl), (Nat.le_of_ble_eq_true rfl)⟩) (pl_preV hA hS hw hK 0 (show 0 < σ.1 0 + 3 from Nat.lt_of_lt_of_le (by decide) (Nat.le_add_left 3 _)) []) rfl rfl hl.1 rfl (lv_room (Nat.le_of_ble_eq_true rfl)) dX9_added_7 ⟨Nat.zero_le _, Nat.zero_le _⟩) hS (fun rz1 sz1 H locs hpz1 hw hS => ?_)
  obtain ⟨rfl, ez1⟩ := hpz1
  obtain rfl := ez1.symm
  exact pei hx hb hr hlocks hA hw hK hS ⟨Option.some.inj h, rfl⟩ dX9_added_10
def f_X9_nodes (σ : PvS)  : Option Int32 :=
  some (nI (σ.2.2.2.2 1).length)
set_option maxHeartbeats 4000000 in
set_option maxRecDepth 100000 in
theorem c_X9_nodes {l : Launch} {G : PvG} {tys : List (ClassId × FieldType)} {σ : PvS} (htys : tys = pvT G)    {r : Int32} (h : f_X9_nodes σ = some r) : Met l yX9_nodes (Cond.code yX9_nodes cX9_nodes 1 (some .int) :: WA) ({ frames := 1, cells := 0, slots := 0, locals := 20 }) (va_Pc [.ref (G.2.2.1 9 0)] (pvU G tys σ)) (va_Qi (fun r' σ' => r' = r ∧ σ' = σ) (pvU G tys) (pvB G)) 0 0 (pvB G) := by
  refine Met.ofW (cc := cX9_nodes) (maxL := 1) (ret := (some .int)) (by decide) rfl ?_
  intro p e s m args below meth c s₁ B hml hv
  obtain ⟨rfl, hw, hK, hA⟩ := hv
  have hx := B.exec
  have hb := B.bytes
  have hr := B.returns
  have hts0 := atoms_spec (ws := (Cond.code yX9_nodes cX9_nodes 1 (some .int) :: WA)) B.pre
  have hts : ∀ w ∈ WA, w.before _ s = true := fun w h => hts0 w (List.mem_cons_of_mem _ h)
  have hown : s.vm.findClass RX9 = some m.cls := findClass_of_methodNamed B.named
  have hlocks := B.notSynchronized
  have hS : va_S (pvB G) s.heap s.heap [] := va_S.rf
  have hl := lv_entry ([.ref (G.2.2.1 9 0)]) (n := 1) (Nat.le_of_ble_eq_true rfl)
  rw [lg_entry_eq]
  generalize (lg_sl ([.ref (G.2.2.1 9 0)]) ++ List.replicate (1 - (lg_sl ([.ref (G.2.2.1 9 0)])).length) Slot.unset).toArray = ls at hl ⊢
  have hl : lv_has ls 1 [(0, .ref (G.2.2.1 9 0))] := hl
  have hroot := pv_root hw
  unfold f_X9_nodes at h
  refine lv_aload_n hx hb dX9_nodes_0 rfl (lv_at hl 0 rfl) ?_
  refine pgL (C := RX9) (T := TX9) (N := 6) hx hb hts hown hK hw 9 0 0 Nat.one_pos (by decide) rfl rfl inF_X9 (by decide) (v := .ref (G.2.2.1 7 0)) rfl (hts _ wm10) (fun _ h9 => h9) dX9_nodes_1 ?_
  refine pgL (C := RX7) (T := TX7) (N := 3) hx hb hts hown hK hw 7 1 0 Nat.one_pos (by decide) rfl rfl inF_X7 (by decide) (v := .ref (G.2.2.1 10 1)) rfl (hts _ wm420) (fun _ h9 => h9) dX9_nodes_4 ?_
  refine pcalli (va_runV (As := []) (rest := []) ⟨hx, hb, hml, hown, hts⟩ (c_lsize (l := l) (G := G) (tys := tys) (σ := σ) (j := 1) (show 1 < σ.1 0 + 3 from Nat.lt_of_lt_of_le (by decide) (Nat.le_add_left 3 _))) (cwV 0 hts (gVA wm327 wm251 wm252 wm13 wm253) rfl rfl rfl (by decide +kernel) ⟨(Nat.le_of_ble_eq_true rfl), (Nat.le_of_ble_eq_true rfl)⟩) (pl_preV hA hS hw hK 1 (show 1 < σ.1 0 + 3 from Nat.lt_of_lt_of_le (by decide) (Nat.le_add_left 3 _)) []) rfl rfl hl.1 rfl (lv_room (Nat.le_of_ble_eq_true rfl)) dX9_nodes_7 ⟨Nat.zero_le _, Nat.zero_le _⟩) hS (fun rz1 sz1 H locs hpz1 hw hS => ?_)
  obtain ⟨rfl, ez1⟩ := hpz1
  obtain rfl := ez1.symm
  exact pei hx hb hr hlocks hA hw hK hS ⟨Option.some.inj h, rfl⟩ dX9_nodes_10
def f_X9_isThere (σ : PvS) (x1 : Int32) : Option Int32 :=
  ob1 (f_X7_holds σ x1) (fun r1 => some r1)
set_option maxHeartbeats 4000000 in
set_option maxRecDepth 100000 in
theorem c_X9_isThere {l : Launch} {G : PvG} {tys : List (ClassId × FieldType)} {σ : PvS} (htys : tys = pvT G)  {x1 : Int32}  {r : Int32} (h : f_X9_isThere σ x1 = some r) : Met l yX9_isThere (Cond.code yX9_isThere cX9_isThere 2 (some .boolean) :: WA) ({ frames := 4, cells := 0, slots := 0, locals := 85 }) (va_Pc [.ref (G.2.2.1 9 0), .int x1] (pvU G tys σ)) (va_Qi (fun r' σ' => r' = r ∧ σ' = σ ∧ is01 r') (pvU G tys) (pvB G)) 0 0 (pvB G) := by
  refine Met.ofW (cc := cX9_isThere) (maxL := 2) (ret := (some .boolean)) (by decide) rfl ?_
  intro p e s m args below meth c s₁ B hml hv
  obtain ⟨rfl, hw, hK, hA⟩ := hv
  have hx := B.exec
  have hb := B.bytes
  have hr := B.returns
  have hts0 := atoms_spec (ws := (Cond.code yX9_isThere cX9_isThere 2 (some .boolean) :: WA)) B.pre
  have hts : ∀ w ∈ WA, w.before _ s = true := fun w h => hts0 w (List.mem_cons_of_mem _ h)
  have hown : s.vm.findClass RX9 = some m.cls := findClass_of_methodNamed B.named
  have hlocks := B.notSynchronized
  have hS : va_S (pvB G) s.heap s.heap [] := va_S.rf
  have hl := lv_entry ([.ref (G.2.2.1 9 0), .int x1]) (n := 2) (Nat.le_of_ble_eq_true rfl)
  rw [lg_entry_eq]
  generalize (lg_sl ([.ref (G.2.2.1 9 0), .int x1]) ++ List.replicate (2 - (lg_sl ([.ref (G.2.2.1 9 0), .int x1])).length) Slot.unset).toArray = ls at hl ⊢
  have hl : lv_has ls 2 [(0, .ref (G.2.2.1 9 0)), (1, .int x1)] := hl
  have hroot := pv_root hw
  unfold f_X9_isThere at h
  refine lv_aload_n hx hb dX9_isThere_0 rfl (lv_at hl 0 rfl) ?_
  refine pgL (C := RX9) (T := TX9) (N := 6) hx hb hts hown hK hw 9 0 0 Nat.one_pos (by decide) rfl rfl inF_X9 (by decide) (v := .ref (G.2.2.1 7 0)) rfl (hts _ wm10) (fun _ h9 => h9) dX9_isThere_1 ?_
  refine lv_iload_n hx hb dX9_isThere_4 rfl (lv_at hl 1 rfl) ?_
  obtain ⟨r1, e2, h⟩ := ob1_e h
  refine pcalli (va_runV (As := [.int x1]) (rest := []) ⟨hx, hb, hml, hown, hts⟩ (c_X7_holds (l := l) (G := G) (tys := tys) (σ := σ) htys  e2) (cwV 1 hts (gVA wm244 wm245 wm246 wm28 wm247) rfl rfl rfl (by decide +kernel) ⟨(Nat.le_of_ble_eq_true rfl), (Nat.le_of_ble_eq_true rfl)⟩) (pv_preV hA hS hw hK 7 0 Nat.one_pos (by decide) rfl [.int x1]) rfl rfl hl.1 rfl (lv_room (Nat.le_of_ble_eq_true rfl)) dX9_isThere_5 ⟨Nat.zero_le _, Nat.zero_le _⟩) hS (fun r4 s5 H locs hp3 hw hS => ?_)
  obtain ⟨err1, esr1, hzr1⟩ := hp3
  obtain rfl := esr1.symm
  obtain rfl := err1.symm
  exact pez hx hb hr (is01_nar hzr1) hlocks hA hw hK hS ⟨Option.some.inj h, rfl, hzr1⟩ dX9_isThere_8
def f_X9_isText (σ : PvS) (x1 : Int32) : Option Int32 :=
  ob1 (f_X9_nodeAt σ x1) (fun r1 => gd (is01 (σ.2.1 3 1 r1)) (some (σ.2.1 3 1 r1)))
set_option maxHeartbeats 4000000 in
set_option maxRecDepth 100000 in
theorem c_X9_isText {l : Launch} {G : PvG} {tys : List (ClassId × FieldType)} {σ : PvS} (htys : tys = pvT G)  {x1 : Int32}  {r : Int32} (h : f_X9_isText σ x1 = some r) : Met l yX9_isText (Cond.code yX9_isText cX9_isText 2 (some .boolean) :: WA) ({ frames := 5, cells := 0, slots := 0, locals := 106 }) (va_Pc [.ref (G.2.2.1 9 0), .int x1] (pvU G tys σ)) (va_Qi (fun r' σ' => r' = r ∧ σ' = σ ∧ is01 r') (pvU G tys) (pvB G)) 0 0 (pvB G) := by
  refine Met.ofW (cc := cX9_isText) (maxL := 2) (ret := (some .boolean)) (by decide) rfl ?_
  intro p e s m args below meth c s₁ B hml hv
  obtain ⟨rfl, hw, hK, hA⟩ := hv
  have hx := B.exec
  have hb := B.bytes
  have hr := B.returns
  have hts0 := atoms_spec (ws := (Cond.code yX9_isText cX9_isText 2 (some .boolean) :: WA)) B.pre
  have hts : ∀ w ∈ WA, w.before _ s = true := fun w h => hts0 w (List.mem_cons_of_mem _ h)
  have hown : s.vm.findClass RX9 = some m.cls := findClass_of_methodNamed B.named
  have hlocks := B.notSynchronized
  have hS : va_S (pvB G) s.heap s.heap [] := va_S.rf
  have hl := lv_entry ([.ref (G.2.2.1 9 0), .int x1]) (n := 2) (Nat.le_of_ble_eq_true rfl)
  rw [lg_entry_eq]
  generalize (lg_sl ([.ref (G.2.2.1 9 0), .int x1]) ++ List.replicate (2 - (lg_sl ([.ref (G.2.2.1 9 0), .int x1])).length) Slot.unset).toArray = ls at hl ⊢
  have hl : lv_has ls 2 [(0, .ref (G.2.2.1 9 0)), (1, .int x1)] := hl
  have hroot := pv_root hw
  unfold f_X9_isText at h
  refine lv_aload_n hx hb dX9_isText_0 rfl (lv_at hl 0 rfl) ?_
  refine lv_iload_n hx hb dX9_isText_1 rfl (lv_at hl 1 rfl) ?_
  obtain ⟨r1, e2, h⟩ := ob1_e h
  refine pcallq (va_runV (As := [.int x1]) (rest := []) ⟨hx, hb, hml, hown, hts⟩ (c_X9_nodeAt (l := l) (G := G) (tys := tys) (σ := σ) htys  e2) (cwV 1 hts (gVA wm236 wm237 wm238 wm2 wm239) rfl rfl rfl (by decide +kernel) ⟨(Nat.le_of_ble_eq_true rfl), (Nat.le_of_ble_eq_true rfl)⟩) (pv_preV hA hS hw hK 9 0 Nat.one_pos (by decide) rfl [.int x1]) rfl rfl hl.1 rfl (lv_room (Nat.le_of_ble_eq_true rfl)) dX9_isText_2 ⟨Nat.zero_le _, Nat.zero_le _⟩) hS (fun r4 s5 H locs hp3 hw hS => ?_)
  obtain ⟨err1, esr1, hzr1⟩ := hp3
  obtain rfl := esr1.symm
  subst err1
  refine pgI (C := RX3) (T := TX3) (N := 14) hx hb hts hown hK hw 3 1 r1 hzr1 (by decide) rfl rfl inF_X3 (by decide) rfl (hts _ wm235) (fun _ h9 => h9) dX9_isText_5 ?_
  obtain ⟨g6, h⟩ := gd_e h
  exact pez hx hb hr (is01_nar g6) hlocks hA hw hK hS ⟨Option.some.inj h, rfl, g6⟩ dX9_isText_8
def f_X9_parent (σ : PvS) (x1 : Int32) : Option Int32 :=
  ob1 (f_X9_nodeAt σ x1) (fun r1 => nm (σ.2.2.1 3 8 r1) (fun o6 => oc o6 (some (-1)) (fun jo6 => some (σ.2.1 3 0 jo6))))
set_option maxHeartbeats 4000000 in
set_option maxRecDepth 100000 in
theorem c_X9_parent {l : Launch} {G : PvG} {tys : List (ClassId × FieldType)} {σ : PvS} (htys : tys = pvT G)  {x1 : Int32}  {r : Int32} (h : f_X9_parent σ x1 = some r) : Met l yX9_parent (Cond.code yX9_parent cX9_parent 3 (some .int) :: WA) ({ frames := 5, cells := 0, slots := 0, locals := 106 }) (va_Pc [.ref (G.2.2.1 9 0), .int x1] (pvU G tys σ)) (va_Qi (fun r' σ' => r' = r ∧ σ' = σ) (pvU G tys) (pvB G)) 0 0 (pvB G) := by
  refine Met.ofW (cc := cX9_parent) (maxL := 3) (ret := (some .int)) (by decide) rfl ?_
  intro p e s m args below meth c s₁ B hml hv
  obtain ⟨rfl, hw, hK, hA⟩ := hv
  have hx := B.exec
  have hb := B.bytes
  have hr := B.returns
  have hts0 := atoms_spec (ws := (Cond.code yX9_parent cX9_parent 3 (some .int) :: WA)) B.pre
  have hts : ∀ w ∈ WA, w.before _ s = true := fun w h => hts0 w (List.mem_cons_of_mem _ h)
  have hown : s.vm.findClass RX9 = some m.cls := findClass_of_methodNamed B.named
  have hlocks := B.notSynchronized
  have hS : va_S (pvB G) s.heap s.heap [] := va_S.rf
  have hl := lv_entry ([.ref (G.2.2.1 9 0), .int x1]) (n := 3) (Nat.le_of_ble_eq_true rfl)
  rw [lg_entry_eq]
  generalize (lg_sl ([.ref (G.2.2.1 9 0), .int x1]) ++ List.replicate (3 - (lg_sl ([.ref (G.2.2.1 9 0), .int x1])).length) Slot.unset).toArray = ls at hl ⊢
  have hl : lv_has ls 3 [(0, .ref (G.2.2.1 9 0)), (1, .int x1)] := hl
  have hroot := pv_root hw
  unfold f_X9_parent at h
  refine lv_aload_n hx hb dX9_parent_0 rfl (lv_at hl 0 rfl) ?_
  refine lv_iload_n hx hb dX9_parent_1 rfl (lv_at hl 1 rfl) ?_
  obtain ⟨r1, e2, h⟩ := ob1_e h
  refine pcallq (va_runV (As := [.int x1]) (rest := []) ⟨hx, hb, hml, hown, hts⟩ (c_X9_nodeAt (l := l) (G := G) (tys := tys) (σ := σ) htys  e2) (cwV 1 hts (gVA wm236 wm237 wm238 wm2 wm239) rfl rfl rfl (by decide +kernel) ⟨(Nat.le_of_ble_eq_true rfl), (Nat.le_of_ble_eq_true rfl)⟩) (pv_preV hA hS hw hK 9 0 Nat.one_pos (by decide) rfl [.int x1]) rfl rfl hl.1 rfl (lv_room (Nat.le_of_ble_eq_true rfl)) dX9_parent_2 ⟨Nat.zero_le _, Nat.zero_le _⟩) hS (fun r4 s5 H locs hp3 hw hS => ?_)
  obtain ⟨err1, esr1, hzr1⟩ := hp3
  obtain rfl := esr1.symm
  subst err1
  obtain ⟨o6, eo6, h⟩ := nq_e h
  have ho6 := pv_cl hw eo6
  refine pgR (C := RX3) (T := TX3) (N := 14) hx hb hts hown hK hw 3 8 r1 hzr1 (by decide) rfl rfl inF_X3 (by decide) rfl o6 eo6 (hts _ wm695) (fun _ h9 => h9) dX9_parent_5 ?_
  refine qst_n (lv' := [(2, va_rf (o6.map (G.2.2.1 3))), (0, .ref (G.2.2.1 9 0)), (1, .int x1)]) hx hb dX9_parent_8 rfl hl (by decide) rfl (fun ls hl => ?_)
  refine qld_n hx hb dX9_parent_9 rfl (lv_at hl 0 rfl) ?_
  rcases o6 with _ | jo6
  · skip
    replace h := oc_n h
    have hl : lv_has ls 3 [(2, .null), (0, .ref (G.2.2.1 9 0)), (1, .int x1)] := hl
    refine lv_ifnonnullN hx hb dX9_parent_10 ?_
    refine lv_iconst (v := (-1)) hx hb dX9_parent_13 (by decide) ?_
    refine lv_goto (tgt := 21) hx hb dX9_parent_14 (by decide) ?_
    exact pei hx hb hr hlocks hA hw hK hS ⟨Option.some.inj h, rfl⟩ dX9_parent_21
  · skip
    replace h := oc_s h
    have hl : lv_has ls 3 [(2, .ref (G.2.2.1 3 jo6)), (0, .ref (G.2.2.1 9 0)), (1, .int x1)] := hl
    have hjo6 := ho6 jo6 rfl
    refine lv_ifnonnull (tgt := 17) hx hb dX9_parent_10 (by decide) ?_
    refine lv_aload_n hx hb dX9_parent_17 rfl (lv_at hl 0 rfl) ?_
    refine pgI (C := RX3) (T := TX3) (N := 14) hx hb hts hown hK hw 3 0 jo6 hjo6 (by decide) rfl rfl inF_X3 (by decide) rfl (hts _ wm696) (fun _ h9 => h9) dX9_parent_18 ?_
    exact pei hx hb hr hlocks hA hw hK hS ⟨Option.some.inj h, rfl⟩ dX9_parent_21
def f_X9_size (σ : PvS) (x1 : Int32) : Option Int32 :=
  ob1 (f_X9_nodeAt σ x1) (fun r1 => if (σ.2.1 3 1 r1) = 0 then (some (nI (σ.2.2.2.2 (r1 + 3)).length)) else (some (σ.2.1 3 9 r1)))
set_option maxHeartbeats 4000000 in
set_option maxRecDepth 100000 in
theorem c_X9_size {l : Launch} {G : PvG} {tys : List (ClassId × FieldType)} {σ : PvS} (htys : tys = pvT G)  {x1 : Int32}  {r : Int32} (h : f_X9_size σ x1 = some r) : Met l yX9_size (Cond.code yX9_size cX9_size 3 (some .int) :: WA) ({ frames := 5, cells := 0, slots := 0, locals := 106 }) (va_Pc [.ref (G.2.2.1 9 0), .int x1] (pvU G tys σ)) (va_Qi (fun r' σ' => r' = r ∧ σ' = σ) (pvU G tys) (pvB G)) 0 0 (pvB G) := by
  refine Met.ofW (cc := cX9_size) (maxL := 3) (ret := (some .int)) (by decide) rfl ?_
  intro p e s m args below meth c s₁ B hml hv
  obtain ⟨rfl, hw, hK, hA⟩ := hv
  have hx := B.exec
  have hb := B.bytes
  have hr := B.returns
  have hts0 := atoms_spec (ws := (Cond.code yX9_size cX9_size 3 (some .int) :: WA)) B.pre
  have hts : ∀ w ∈ WA, w.before _ s = true := fun w h => hts0 w (List.mem_cons_of_mem _ h)
  have hown : s.vm.findClass RX9 = some m.cls := findClass_of_methodNamed B.named
  have hlocks := B.notSynchronized
  have hS : va_S (pvB G) s.heap s.heap [] := va_S.rf
  have hl := lv_entry ([.ref (G.2.2.1 9 0), .int x1]) (n := 3) (Nat.le_of_ble_eq_true rfl)
  rw [lg_entry_eq]
  generalize (lg_sl ([.ref (G.2.2.1 9 0), .int x1]) ++ List.replicate (3 - (lg_sl ([.ref (G.2.2.1 9 0), .int x1])).length) Slot.unset).toArray = ls at hl ⊢
  have hl : lv_has ls 3 [(0, .ref (G.2.2.1 9 0)), (1, .int x1)] := hl
  have hroot := pv_root hw
  unfold f_X9_size at h
  refine lv_aload_n hx hb dX9_size_0 rfl (lv_at hl 0 rfl) ?_
  refine lv_iload_n hx hb dX9_size_1 rfl (lv_at hl 1 rfl) ?_
  obtain ⟨r1, e2, h⟩ := ob1_e h
  refine pcallq (va_runV (As := [.int x1]) (rest := []) ⟨hx, hb, hml, hown, hts⟩ (c_X9_nodeAt (l := l) (G := G) (tys := tys) (σ := σ) htys  e2) (cwV 1 hts (gVA wm236 wm237 wm238 wm2 wm239) rfl rfl rfl (by decide +kernel) ⟨(Nat.le_of_ble_eq_true rfl), (Nat.le_of_ble_eq_true rfl)⟩) (pv_preV hA hS hw hK 9 0 Nat.one_pos (by decide) rfl [.int x1]) rfl rfl hl.1 rfl (lv_room (Nat.le_of_ble_eq_true rfl)) dX9_size_2 ⟨Nat.zero_le _, Nat.zero_le _⟩) hS (fun r4 s5 H locs hp3 hw hS => ?_)
  obtain ⟨err1, esr1, hzr1⟩ := hp3
  obtain rfl := esr1.symm
  subst err1
  refine lv_astore_n (lv' := [(2, .ref (G.2.2.1 3 r1)), (0, .ref (G.2.2.1 9 0)), (1, .int x1)]) hx hb dX9_size_5 rfl hl (by decide) rfl (fun ls hl => ?_)
  refine lv_aload_n hx hb dX9_size_6 rfl (lv_at hl 0 rfl) ?_
  refine pgI (C := RX3) (T := TX3) (N := 14) hx hb hts hown hK hw 3 1 r1 hzr1 (by decide) rfl rfl inF_X3 (by decide) rfl (hts _ wm235) (fun _ h9 => h9) dX9_size_7 ?_
  refine lv_if_eq (tgt := 20) hx hb dX9_size_10 (by decide) (fun c6 => ?_) (fun c6 => ?_)
  · skip
    replace h := ite_p c6 h
    refine lv_aload_n hx hb dX9_size_20 rfl (lv_at hl 0 rfl) ?_
    refine pgL (C := RX3) (T := TX3) (N := 14) hx hb hts hown hK hw 3 3 r1 hzr1 (by decide) rfl rfl inF_X3 (by decide) (v := .ref (G.2.2.1 10 (r1 + 3))) rfl (hts _ wm326) (fun _ h9 => h9) dX9_size_21 ?_
    refine pcalli (va_runV (As := []) (rest := []) ⟨hx, hb, hml, hown, hts⟩ (c_lsize (l := l) (G := G) (tys := tys) (σ := σ) (j := r1 + 3) (show r1 + 3 < σ.1 0 + 3 from Nat.add_lt_add_right hzr1 3)) (cwV 0 hts (gVA wm327 wm251 wm252 wm13 wm253) rfl rfl rfl (by decide +kernel) ⟨(Nat.le_of_ble_eq_true rfl), (Nat.le_of_ble_eq_true rfl)⟩) (pl_preV hA hS hw hK (r1 + 3) (show r1 + 3 < σ.1 0 + 3 from Nat.add_lt_add_right hzr1 3) []) rfl rfl hl.1 rfl (lv_room (Nat.le_of_ble_eq_true rfl)) dX9_size_24 ⟨Nat.zero_le _, Nat.zero_le _⟩) hS (fun rz7 sz7 H locs hpz7 hw hS => ?_)
    obtain ⟨rfl, ez7⟩ := hpz7
    obtain rfl := ez7.symm
    exact pei hx hb hr hlocks hA hw hK hS ⟨Option.some.inj h, rfl⟩ dX9_size_27
  · skip
    replace h := ite_n c6 h
    refine lv_aload_n hx hb dX9_size_13 rfl (lv_at hl 0 rfl) ?_
    refine pgI (C := RX3) (T := TX3) (N := 14) hx hb hts hown hK hw 3 9 r1 hzr1 (by decide) rfl rfl inF_X3 (by decide) rfl (hts _ wm325) (fun _ h9 => h9) dX9_size_14 ?_
    refine lv_goto (tgt := 27) hx hb dX9_size_17 (by decide) ?_
    exact pei hx hb hr hlocks hA hw hK hS ⟨Option.some.inj h, rfl⟩ dX9_size_27
def f_X9_childAt (σ : PvS) (x1 : Int32) (x2 : Int32) : Option Int32 :=
  ob1 (f_X9_nodeAt σ x1) (fun r1 => if (σ.2.1 3 1 r1) = 0 then (if x2 < 0 then (none) else (if x2 < (nI (σ.2.2.2.2 (r1 + 3)).length) then (gd (vin x2 (σ.2.2.2.2 (r1 + 3)).length) (nm ((σ.2.2.2.2 (r1 + 3)).getD x2.toNatClampNeg 0) (fun y11 => some (σ.2.1 3 0 y11)))) else (none))) else (none))
set_option maxHeartbeats 4000000 in
set_option maxRecDepth 100000 in
theorem c_X9_childAt {l : Launch} {G : PvG} {tys : List (ClassId × FieldType)} {σ : PvS} (htys : tys = pvT G)  {x1 : Int32} {x2 : Int32}  {r : Int32} (h : f_X9_childAt σ x1 x2 = some r) : Met l yX9_childAt (Cond.code yX9_childAt cX9_childAt 4 (some .int) :: WA) ({ frames := 5, cells := 0, slots := 0, locals := 106 }) (va_Pc [.ref (G.2.2.1 9 0), .int x1, .int x2] (pvU G tys σ)) (va_Qi (fun r' σ' => r' = r ∧ σ' = σ) (pvU G tys) (pvB G)) 0 0 (pvB G) := by
  refine Met.ofW (cc := cX9_childAt) (maxL := 4) (ret := (some .int)) (by decide) rfl ?_
  intro p e s m args below meth c s₁ B hml hv
  obtain ⟨rfl, hw, hK, hA⟩ := hv
  have hx := B.exec
  have hb := B.bytes
  have hr := B.returns
  have hts0 := atoms_spec (ws := (Cond.code yX9_childAt cX9_childAt 4 (some .int) :: WA)) B.pre
  have hts : ∀ w ∈ WA, w.before _ s = true := fun w h => hts0 w (List.mem_cons_of_mem _ h)
  have hown : s.vm.findClass RX9 = some m.cls := findClass_of_methodNamed B.named
  have hlocks := B.notSynchronized
  have hS : va_S (pvB G) s.heap s.heap [] := va_S.rf
  have hl := lv_entry ([.ref (G.2.2.1 9 0), .int x1, .int x2]) (n := 4) (Nat.le_of_ble_eq_true rfl)
  rw [lg_entry_eq]
  generalize (lg_sl ([.ref (G.2.2.1 9 0), .int x1, .int x2]) ++ List.replicate (4 - (lg_sl ([.ref (G.2.2.1 9 0), .int x1, .int x2])).length) Slot.unset).toArray = ls at hl ⊢
  have hl : lv_has ls 4 [(0, .ref (G.2.2.1 9 0)), (1, .int x1), (2, .int x2)] := hl
  have hroot := pv_root hw
  unfold f_X9_childAt at h
  refine lv_aload_n hx hb dX9_childAt_0 rfl (lv_at hl 0 rfl) ?_
  refine lv_iload_n hx hb dX9_childAt_1 rfl (lv_at hl 1 rfl) ?_
  obtain ⟨r1, e2, h⟩ := ob1_e h
  refine pcallq (va_runV (As := [.int x1]) (rest := []) ⟨hx, hb, hml, hown, hts⟩ (c_X9_nodeAt (l := l) (G := G) (tys := tys) (σ := σ) htys  e2) (cwV 1 hts (gVA wm236 wm237 wm238 wm2 wm239) rfl rfl rfl (by decide +kernel) ⟨(Nat.le_of_ble_eq_true rfl), (Nat.le_of_ble_eq_true rfl)⟩) (pv_preV hA hS hw hK 9 0 Nat.one_pos (by decide) rfl [.int x1]) rfl rfl hl.1 rfl (lv_room (Nat.le_of_ble_eq_true rfl)) dX9_childAt_2 ⟨Nat.zero_le _, Nat.zero_le _⟩) hS (fun r4 s5 H locs hp3 hw hS => ?_)
  obtain ⟨err1, esr1, hzr1⟩ := hp3
  obtain rfl := esr1.symm
  subst err1
  refine lv_astore_n (lv' := [(3, .ref (G.2.2.1 3 r1)), (0, .ref (G.2.2.1 9 0)), (1, .int x1), (2, .int x2)]) hx hb dX9_childAt_5 rfl hl (by decide) rfl (fun ls hl => ?_)
  refine lv_aload_n hx hb dX9_childAt_6 rfl (lv_at hl 0 rfl) ?_
  refine pgI (C := RX3) (T := TX3) (N := 14) hx hb hts hown hK hw 3 1 r1 hzr1 (by decide) rfl rfl inF_X3 (by decide) rfl (hts _ wm235) (fun _ h9 => h9) dX9_childAt_7 ?_
  refine lv_if_ne (tgt := 28) hx hb dX9_childAt_10 (by decide) (fun c6 => ?_) (fun c6 => ?_)
  · skip
    replace h := ite_n c6 h
    cases h
  · skip
    replace h := ite_p c6 h
    refine lv_iload_n hx hb dX9_childAt_13 rfl (lv_at hl 3 rfl) ?_
    refine lv_if_lt (tgt := 28) hx hb dX9_childAt_14 (by decide) (fun c7 => ?_) (fun c7 => ?_)
    · skip
      replace h := ite_p c7 h
      cases h
    · skip
      replace h := ite_n c7 h
      refine lv_iload_n hx hb dX9_childAt_17 rfl (lv_at hl 3 rfl) ?_
      refine lv_aload_n hx hb dX9_childAt_18 rfl (lv_at hl 0 rfl) ?_
      refine pgL (C := RX3) (T := TX3) (N := 14) hx hb hts hown hK hw 3 3 r1 hzr1 (by decide) rfl rfl inF_X3 (by decide) (v := .ref (G.2.2.1 10 (r1 + 3))) rfl (hts _ wm326) (fun _ h9 => h9) dX9_childAt_19 ?_
      refine pcalli (va_runV (As := []) (rest := [.int x2]) ⟨hx, hb, hml, hown, hts⟩ (c_lsize (l := l) (G := G) (tys := tys) (σ := σ) (j := r1 + 3) (show r1 + 3 < σ.1 0 + 3 from Nat.add_lt_add_right hzr1 3)) (cwV 0 hts (gVA wm327 wm251 wm252 wm13 wm253) rfl rfl rfl (by decide +kernel) ⟨(Nat.le_of_ble_eq_true rfl), (Nat.le_of_ble_eq_true rfl)⟩) (pl_preV hA hS hw hK (r1 + 3) (show r1 + 3 < σ.1 0 + 3 from Nat.add_lt_add_right hzr1 3) []) rfl rfl hl.1 rfl (lv_room (Nat.le_of_ble_eq_true rfl)) dX9_childAt_22 ⟨Nat.zero_le _, Nat.zero_le _⟩) hS (fun rz8 sz8 H locs hpz8 hw hS => ?_)
      obtain ⟨rfl, ez8⟩ := hpz8
      obtain rfl := ez8.symm
      refine lv_icmp_lt (tgt := 38) hx hb dX9_childAt_25 (by decide) (fun c9 => ?_) (fun c9 => ?_)
      · skip
        replace h := ite_p c9 h
        refine lv_aload_n hx hb dX9_childAt_38 rfl (lv_at hl 0 rfl) ?_
        refine pgL (C := RX3) (T := TX3) (N := 14) hx hb hts hown hK hw 3 3 r1 hzr1 (by decide) rfl rfl inF_X3 (by decide) (v := .ref (G.2.2.1 10 (r1 + 3))) rfl (hts _ wm326) (fun _ h9 => h9) dX9_childAt_39 ?_
        refine lv_iload_n hx hb dX9_childAt_42 rfl (lv_at hl 3 rfl) ?_
        obtain ⟨g10, h⟩ := gd_e h
        obtain ⟨y11, ey11, h⟩ := nq_e h
        refine pcallg (κ := 3) (pvK_c _) (va_runV (As := [.int x2]) (rest := []) ⟨hx, hb, hml, hown, hts⟩ (c_lgetI (l := l) (G := G) (tys := tys) (σ := σ) htys (j := r1 + 3) (show r1 + 3 < σ.1 0 + 3 from Nat.add_lt_add_right hzr1 3) g10 (pl_len2 hw (r1 + 3) (show r1 + 3 < σ.1 0 + 3 from Nat.add_lt_add_right hzr1 3))) (cwV 1 hts (gVA wm270 wm255 wm256 wm13 wm257) rfl rfl rfl (by decide +kernel) ⟨(Nat.le_of_ble_eq_true rfl), (Nat.le_of_ble_eq_true rfl)⟩) (pl_preV hA hS hw hK (r1 + 3) (show r1 + 3 < σ.1 0 + 3 from Nat.add_lt_add_right hzr1 3) [.int x2]) rfl rfl hl.1 rfl (lv_room (Nat.le_of_ble_eq_true rfl)) dX9_childAt_43 ⟨Nat.zero_le _, Nat.zero_le _⟩) hS (fun zy11 ezy11 H locs hw hS => ?_)
        obtain rfl : y11 = zy11 := ey11.trans ezy11.symm
        have hy11 : y11 < pvM σ 3 := by rw [ey11]; exact pl_lt hw (r1 + 3) (show r1 + 3 < σ.1 0 + 3 from Nat.add_lt_add_right hzr1 3) _ (Nat.not_le.mp fun q => g10 (Or.inr q)) (pvK_c _)
        refine pcast hx hb hown hK hw 3 y11 hy11 (by decide) rfl (hts _ wm243) dX9_childAt_46 ?_
        refine pgI (C := RX3) (T := TX3) (N := 14) hx hb hts hown hK hw 3 0 y11 hy11 (by decide) rfl rfl inF_X3 (by decide) rfl (hts _ wm696) (fun _ h9 => h9) dX9_childAt_49 ?_
        exact pei hx hb hr hlocks hA hw hK hS ⟨Option.some.inj h, rfl⟩ dX9_childAt_52
      · skip
        replace h := ite_n c9 h
        cases h
def f_X9_rules (σ : PvS)  : Option Int32 :=
  some (nI (σ.2.2.2.2 2).length)
set_option maxHeartbeats 4000000 in
set_option maxRecDepth 100000 in
theorem c_X9_rules {l : Launch} {G : PvG} {tys : List (ClassId × FieldType)} {σ : PvS} (htys : tys = pvT G)    {r : Int32} (h : f_X9_rules σ = some r) : Met l yX9_rules (Cond.code yX9_rules cX9_rules 1 (some .int) :: WA) ({ frames := 1, cells := 0, slots := 0, locals := 20 }) (va_Pc [.ref (G.2.2.1 9 0)] (pvU G tys σ)) (va_Qi (fun r' σ' => r' = r ∧ σ' = σ) (pvU G tys) (pvB G)) 0 0 (pvB G) := by
  refine Met.ofW (cc := cX9_rules) (maxL := 1) (ret := (some .int)) (by decide) rfl ?_
  intro p e s m args below meth c s₁ B hml hv
  obtain ⟨rfl, hw, hK, hA⟩ := hv
  have hx := B.exec
  have hb := B.bytes
  have hr := B.returns
  have hts0 := atoms_spec (ws := (Cond.code yX9_rules cX9_rules 1 (some .int) :: WA)) B.pre
  have hts : ∀ w ∈ WA, w.before _ s = true := fun w h => hts0 w (List.mem_cons_of_mem _ h)
  have hown : s.vm.findClass RX9 = some m.cls := findClass_of_methodNamed B.named
  have hlocks := B.notSynchronized
  have hS : va_S (pvB G) s.heap s.heap [] := va_S.rf
  have hl := lv_entry ([.ref (G.2.2.1 9 0)]) (n := 1) (Nat.le_of_ble_eq_true rfl)
  rw [lg_entry_eq]
  generalize (lg_sl ([.ref (G.2.2.1 9 0)]) ++ List.replicate (1 - (lg_sl ([.ref (G.2.2.1 9 0)])).length) Slot.unset).toArray = ls at hl ⊢
  have hl : lv_has ls 1 [(0, .ref (G.2.2.1 9 0))] := hl
  have hroot := pv_root hw
  unfold f_X9_rules at h
  refine lv_aload_n hx hb dX9_rules_0 rfl (lv_at hl 0 rfl) ?_
  refine pgL (C := RX9) (T := TX9) (N := 6) hx hb hts hown hK hw 9 1 0 Nat.one_pos (by decide) rfl rfl inF_X9 (by decide) (v := .ref (G.2.2.1 10 2)) rfl (hts _ wm14) (fun _ h9 => h9) dX9_rules_1 ?_
  refine pcalli (va_runV (As := []) (rest := []) ⟨hx, hb, hml, hown, hts⟩ (c_lsize (l := l) (G := G) (tys := tys) (σ := σ) (j := 2) (show 2 < σ.1 0 + 3 from Nat.lt_of_lt_of_le (by decide) (Nat.le_add_left 3 _))) (cwV 0 hts (gVA wm327 wm251 wm252 wm13 wm253) rfl rfl rfl (by decide +kernel) ⟨(Nat.le_of_ble_eq_true rfl), (Nat.le_of_ble_eq_true rfl)⟩) (pl_preV hA hS hw hK 2 (show 2 < σ.1 0 + 3 from Nat.lt_of_lt_of_le (by decide) (Nat.le_add_left 3 _)) []) rfl rfl hl.1 rfl (lv_room (Nat.le_of_ble_eq_true rfl)) dX9_rules_4 ⟨Nat.zero_le _, Nat.zero_le _⟩) hS (fun rz1 sz1 H locs hpz1 hw hS => ?_)
  obtain ⟨rfl, ez1⟩ := hpz1
  obtain rfl := ez1.symm
  exact pei hx hb hr hlocks hA hw hK hS ⟨Option.some.inj h, rfl⟩ dX9_rules_7
def f_X9_weight (σ : PvS) (x1 : Int32) : Option Int32 :=
  ob1 (f_X9_ruleAt σ x1) (fun r1 => some (σ.2.1 5 8 r1))
set_option maxHeartbeats 4000000 in
set_option maxRecDepth 100000 in
theorem c_X9_weight {l : Launch} {G : PvG} {tys : List (ClassId × FieldType)} {σ : PvS} (htys : tys = pvT G)  {x1 : Int32}  {r : Int32} (h : f_X9_weight σ x1 = some r) : Met l yX9_weight (Cond.code yX9_weight cX9_weight 2 (some .int) :: WA) ({ frames := 4, cells := 0, slots := 0, locals := 85 }) (va_Pc [.ref (G.2.2.1 9 0), .int x1] (pvU G tys σ)) (va_Qi (fun r' σ' => r' = r ∧ σ' = σ) (pvU G tys) (pvB G)) 0 0 (pvB G) := by
  refine Met.ofW (cc := cX9_weight) (maxL := 2) (ret := (some .int)) (by decide) rfl ?_
  intro p e s m args below meth c s₁ B hml hv
  obtain ⟨rfl, hw, hK, hA⟩ := hv
  have hx := B.exec
  have hb := B.bytes
  have hr := B.returns
  have hts0 := atoms_spec (ws := (Cond.code yX9_weight cX9_weight 2 (some .int) :: WA)) B.pre
  have hts : ∀ w ∈ WA, w.before _ s = true := fun w h => hts0 w (List.mem_cons_of_mem _ h)
  have hown : s.vm.findClass RX9 = some m.cls := findClass_of_methodNamed B.named
  have hlocks := B.notSynchronized
  have hS : va_S (pvB G) s.heap s.heap [] := va_S.rf
  have hl := lv_entry ([.ref (G.2.2.1 9 0), .int x1]) (n := 2) (Nat.le_of_ble_eq_true rfl)
  rw [lg_entry_eq]
  generalize (lg_sl ([.ref (G.2.2.1 9 0), .int x1]) ++ List.replicate (2 - (lg_sl ([.ref (G.2.2.1 9 0), .int x1])).length) Slot.unset).toArray = ls at hl ⊢
  have hl : lv_has ls 2 [(0, .ref (G.2.2.1 9 0)), (1, .int x1)] := hl
  have hroot := pv_root hw
  unfold f_X9_weight at h
  refine lv_aload_n hx hb dX9_weight_0 rfl (lv_at hl 0 rfl) ?_
  refine lv_iload_n hx hb dX9_weight_1 rfl (lv_at hl 1 rfl) ?_
  obtain ⟨r1, e2, h⟩ := ob1_e h
  refine pcallq (va_runV (As := [.int x1]) (rest := []) ⟨hx, hb, hml, hown, hts⟩ (c_X9_ruleAt (l := l) (G := G) (tys := tys) (σ := σ) htys  e2) (cwV 1 hts (gVA wm381 wm382 wm383 wm2 wm384) rfl rfl rfl (by decide +kernel) ⟨(Nat.le_of_ble_eq_true rfl), (Nat.le_of_ble_eq_true rfl)⟩) (pv_preV hA hS hw hK 9 0 Nat.one_pos (by decide) rfl [.int x1]) rfl rfl hl.1 rfl (lv_room (Nat.le_of_ble_eq_true rfl)) dX9_weight_2 ⟨Nat.zero_le _, Nat.zero_le _⟩) hS (fun r4 s5 H locs hp3 hw hS => ?_)
  obtain ⟨err1, esr1, hzr1⟩ := hp3
  obtain rfl := esr1.symm
  subst err1
  refine pgI (C := RX5) (T := TX5) (N := 10) hx hb hts hown hK hw 5 8 r1 hzr1 (by decide) rfl rfl inF_X5 (by decide) rfl (hts _ wm805) (fun _ h9 => h9) dX9_weight_5 ?_
  exact pei hx hb hr hlocks hA hw hK hS ⟨Option.some.inj h, rfl⟩ dX9_weight_8
def f_X9_matches (σ : PvS) (x1 : Int32) (x2 : Int32) : Option Int32 :=
  ob1 (f_X9_ruleAt σ x1) (fun r1 => ob1 (f_X9_nodeAt σ x2) (fun r6 => ob1 (f_X5_selects σ r1 r6) (fun r11 => some r11)))
set_option maxHeartbeats 4000000 in
set_option maxRecDepth 100000 in
theorem c_X9_matches {l : Launch} {G : PvG} {tys : List (ClassId × FieldType)} {σ : PvS} (htys : tys = pvT G)  {x1 : Int32} {x2 : Int32}  {r : Int32} (h : f_X9_matches σ x1 x2 = some r) : Met l yX9_matches (Cond.code yX9_matches cX9_matches 4 (some .boolean) :: WA) ({ frames := 7, cells := 0, slots := 0, locals := 161 }) (va_Pc [.ref (G.2.2.1 9 0), .int x1, .int x2] (pvU G tys σ)) (va_Qi (fun r' σ' => r' = r ∧ σ' = σ ∧ is01 r') (pvU G tys) (pvB G)) 0 0 (pvB G) := by
  refine Met.ofW (cc := cX9_matches) (maxL := 4) (ret := (some .boolean)) (by decide) rfl ?_
  intro p e s m args below meth c s₁ B hml hv
  obtain ⟨rfl, hw, hK, hA⟩ := hv
  have hx := B.exec
  have hb := B.bytes
  have hr := B.returns
  have hts0 := atoms_spec (ws := (Cond.code yX9_matches cX9_matches 4 (some .boolean) :: WA)) B.pre
  have hts : ∀ w ∈ WA, w.before _ s = true := fun w h => hts0 w (List.mem_cons_of_mem _ h)
  have hown : s.vm.findClass RX9 = some m.cls := findClass_of_methodNamed B.named
  have hlocks := B.notSynchronized
  have hS : va_S (pvB G) s.heap s.heap [] := va_S.rf
  have hl := lv_entry ([.ref (G.2.2.1 9 0), .int x1, .int x2]) (n := 4) (Nat.le_of_ble_eq_true rfl)
  rw [lg_entry_eq]
  generalize (lg_sl ([.ref (G.2.2.1 9 0), .int x1, .int x2]) ++ List.replicate (4 - (lg_sl ([.ref (G.2.2.1 9 0), .int x1, .int x2])).length) Slot.unset).toArray = ls at hl ⊢
  have hl : lv_has ls 4 [(0, .ref (G.2.2.1 9 0)), (1, .int x1), (2, .int x2)] := hl
  have hroot := pv_root hw
  unfold f_X9_matches at h
  refine lv_aload_n hx hb dX9_matches_0 rfl (lv_at hl 0 rfl) ?_
  refine lv_iload_n hx hb dX9_matches_1 rfl (lv_at hl 1 rfl) ?_
  obtain ⟨r1, e2, h⟩ := ob1_e h
  refine pcallq (va_runV (As := [.int x1]) (rest := []) ⟨hx, hb, hml, hown, hts⟩ (c_X9_ruleAt (l := l) (G := G) (tys := tys) (σ := σ) htys  e2) (cwV 1 hts (gVA wm381 wm382 wm383 wm2 wm384) rfl rfl rfl (by decide +kernel) ⟨(Nat.le_of_ble_eq_true rfl), (Nat.le_of_ble_eq_true rfl)⟩) (pv_preV hA hS hw hK 9 0 Nat.one_pos (by decide) rfl [.int x1]) rfl rfl hl.1 rfl (lv_room (Nat.le_of_ble_eq_true rfl)) dX9_matches_2 ⟨Nat.zero_le _, Nat.zero_le _⟩) hS (fun r4 s5 H locs hp3 hw hS => ?_)
  obtain ⟨err1, esr1, hzr1⟩ := hp3
  obtain rfl := esr1.symm
  subst err1
  refine lv_astore_n (lv' := [(3, .ref (G.2.2.1 5 r1)), (0, .ref (G.2.2.1 9 0)), (1, .int x1), (2, .int x2)]) hx hb dX9_matches_5 rfl hl (by decide) rfl (fun ls hl => ?_)
  refine lv_aload_n hx hb dX9_matches_6 rfl (lv_at hl 0 rfl) ?_
  refine lv_aload_n hx hb dX9_matches_7 rfl (lv_at hl 1 rfl) ?_
  refine lv_iload_n hx hb dX9_matches_8 rfl (lv_at hl 3 rfl) ?_
  obtain ⟨r6, e7, h⟩ := ob1_e h
  refine pcallq (va_runV (As := [.int x2]) (rest := [.ref (G.2.2.1 5 r1)]) ⟨hx, hb, hml, hown, hts⟩ (c_X9_nodeAt (l := l) (G := G) (tys := tys) (σ := σ) htys  e7) (cwV 1 hts (gVA wm236 wm237 wm238 wm2 wm239) rfl rfl rfl (by decide +kernel) ⟨(Nat.le_of_ble_eq_true rfl), (Nat.le_of_ble_eq_true rfl)⟩) (pv_preV hA hS hw hK 9 0 Nat.one_pos (by decide) rfl [.int x2]) rfl rfl hl.1 rfl (lv_room (Nat.le_of_ble_eq_true rfl)) dX9_matches_9 ⟨Nat.zero_le _, Nat.zero_le _⟩) hS (fun r9 s10 H locs hp8 hw hS => ?_)
  obtain ⟨err6, esr6, hzr6⟩ := hp8
  obtain rfl := esr6.symm
  subst err6
  obtain ⟨r11, e12, h⟩ := ob1_e h
  refine pcalli (va_runV (As := [.ref (G.2.2.1 3 r6)]) (rest := []) ⟨hx, hb, hml, hown, hts⟩ (c_X5_selects (l := l) (G := G) (tys := tys) (σ := σ) htys hzr1 hzr6 e12) (cwV 1 hts (gVA wm749 wm443 wm444 wm359 wm445) rfl rfl rfl (by decide +kernel) ⟨(Nat.le_of_ble_eq_true rfl), (Nat.le_of_ble_eq_true rfl)⟩) (pv_preV hA hS hw hK 5 r1 hzr1 (by decide) rfl [.ref (G.2.2.1 3 r6)]) rfl rfl hl.1 rfl (lv_room (Nat.le_of_ble_eq_true rfl)) dX9_matches_12 ⟨Nat.zero_le _, Nat.zero_le _⟩) hS (fun r14 s15 H locs hp13 hw hS => ?_)
  obtain ⟨err11, esr11, hzr11⟩ := hp13
  obtain rfl := esr11.symm
  obtain rfl := err11.symm
  exact pez hx hb hr (is01_nar hzr11) hlocks hA hw hK hS ⟨Option.some.inj h, rfl, hzr11⟩ dX9_matches_15
def f_X9_matched_11  (σ : PvS) : Nat → Nat → Int32 → Int32 → Option Int32
  | 0, _, _, _ => none
  | n + 1, ub2, xb3, xb4 => if (nI (σ.2.2.2.2 1).length) ≤ xb4 then (some xb3) else (gd (vin xb4 (σ.2.2.2.2 1).length) (nm ((σ.2.2.2.2 1).getD xb4.toNatClampNeg 0) (fun y4 => ob1 (f_X5_selects σ ub2 y4) (fun r5 => if r5 = 0 then (f_X9_matched_11 σ n ub2 xb3 (xb4 + 1)) else (f_X9_matched_11 σ n ub2 (xb3 + 1) (xb4 + 1))))))
theorem f_X9_matched_11_z {σ : PvS} {ub2 : Nat} {xb3 : Int32} {xb4 : Int32} : f_X9_matched_11 σ 0 ub2 xb3 xb4 = none := rfl
theorem f_X9_matched_11_s {n : Nat} {σ : PvS} {ub2 : Nat} {xb3 : Int32} {xb4 : Int32} : f_X9_matched_11 σ (n + 1) ub2 xb3 xb4 = if (nI (σ.2.2.2.2 1).length) ≤ xb4 then (some xb3) else (gd (vin xb4 (σ.2.2.2.2 1).length) (nm ((σ.2.2.2.2 1).getD xb4.toNatClampNeg 0) (fun y4 => ob1 (f_X5_selects σ ub2 y4) (fun r5 => if r5 = 0 then (f_X9_matched_11 σ n ub2 xb3 (xb4 + 1)) else (f_X9_matched_11 σ n ub2 (xb3 + 1) (xb4 + 1)))))) := rfl
def f_X9_matched (σ : PvS) (x1 : Int32) : Option Int32 :=
  ob1 (f_X9_ruleAt σ x1) (fun r11 => f_X9_matched_11 σ fu r11 0 0)
set_option maxHeartbeats 4000000 in
set_option maxRecDepth 100000 in
theorem c_X9_matched {l : Launch} {G : PvG} {tys : List (ClassId × FieldType)} {σ : PvS} (htys : tys = pvT G)  {x1 : Int32}  {r : Int32} (h : f_X9_matched σ x1 = some r) : Met l yX9_matched (Cond.code yX9_matched cX9_matched 5 (some .int) :: WA) ({ frames := 7, cells := 0, slots := 0, locals := 161 }) (va_Pc [.ref (G.2.2.1 9 0), .int x1] (pvU G tys σ)) (va_Qi (fun r' σ' => r' = r ∧ σ' = σ) (pvU G tys) (pvB G)) 0 0 (pvB G) := by
  refine Met.ofW (cc := cX9_matched) (maxL := 5) (ret := (some .int)) (by decide) rfl ?_
  intro p e s m args below meth c s₁ B hml hv
  obtain ⟨rfl, hw, hK, hA⟩ := hv
  have hx := B.exec
  have hb := B.bytes
  have hr := B.returns
  have hts0 := atoms_spec (ws := (Cond.code yX9_matched cX9_matched 5 (some .int) :: WA)) B.pre
  have hts : ∀ w ∈ WA, w.before _ s = true := fun w h => hts0 w (List.mem_cons_of_mem _ h)
  have hown : s.vm.findClass RX9 = some m.cls := findClass_of_methodNamed B.named
  have hlocks := B.notSynchronized
  have hS : va_S (pvB G) s.heap s.heap [] := va_S.rf
  have hl := lv_entry ([.ref (G.2.2.1 9 0), .int x1]) (n := 5) (Nat.le_of_ble_eq_true rfl)
  rw [lg_entry_eq]
  generalize (lg_sl ([.ref (G.2.2.1 9 0), .int x1]) ++ List.replicate (5 - (lg_sl ([.ref (G.2.2.1 9 0), .int x1])).length) Slot.unset).toArray = ls at hl ⊢
  have hl : lv_has ls 5 [(0, .ref (G.2.2.1 9 0)), (1, .int x1)] := hl
  have hroot := pv_root hw
  unfold f_X9_matched at h
  have loop11 : ∀ (n : Nat) (ub2 : Nat) (xb3 : Int32) (xb4 : Int32), (ub2 < pvM σ 5) → f_X9_matched_11 σ n ub2 xb3 xb4 = some r → ∀ (H : Heap) (locs : List Loc), pvW G σ H → va_S (pvB G) s.heap H locs → ∀ (ls : Array Slot), lv_has ls 5 [(0, .ref (G.2.2.1 9 0)), (2, .ref (G.2.2.1 5 ub2)), (3, .int xb3), (4, .int xb4)] → W p l e (headSpec (Cond.code yX9_matched cX9_matched 5 (some .int) :: WA) ({ frames := 7, cells := 0, slots := 0, locals := 161 } : Room)).room s m ([.ref (G.2.2.1 9 0), .int x1] : List Value).toArray below meth c H locs 0 0 (MQ below (va_Qi (fun r' σ' => r' = r ∧ σ' = σ) (pvU G tys) (pvB G)) ([.ref (G.2.2.1 9 0), .int x1] : List Value).toArray s 0 0 (pvB G)) (F0 m 11 ls []) := by
    intro n11
    induction n11 with
    | zero =>
      intro ub2 xb3 xb4 hub2 h
      rw [f_X9_matched_11_z] at h
      cases h
    | succ n11 ih11 =>
      intro ub2 xb3 xb4 hub2 h H locs hw hS ls hl
      rw [f_X9_matched_11_s] at h
      refine lv_iload hx hb dX9_matched_11 (lv_at hl 3 rfl) ?_
      refine lv_aload_n hx hb dX9_matched_13 rfl (lv_at hl 0 rfl) ?_
      refine pgL (C := RX9) (T := TX9) (N := 6) hx hb hts hown hK hw 9 0 0 Nat.one_pos (by decide) rfl rfl inF_X9 (by decide) (v := .ref (G.2.2.1 7 0)) rfl (hts _ wm10) (fun _ h9 => h9) dX9_matched_14 ?_
      refine pgL (C := RX7) (T := TX7) (N := 3) hx hb hts hown hK hw 7 1 0 Nat.one_pos (by decide) rfl rfl inF_X7 (by decide) (v := .ref (G.2.2.1 10 1)) rfl (hts _ wm420) (fun _ h9 => h9) dX9_matched_17 ?_
      refine pcalli (va_runV (As := []) (rest := [.int xb4]) ⟨hx, hb, hml, hown, hts⟩ (c_lsize (l := l) (G := G) (tys := tys) (σ := σ) (j := 1) (show 1 < σ.1 0 + 3 from Nat.lt_of_lt_of_le (by decide) (Nat.le_add_left 3 _))) (cwV 0 hts (gVA wm327 wm251 wm252 wm13 wm253) rfl rfl rfl (by decide +kernel) ⟨(Nat.le_of_ble_eq_true rfl), (Nat.le_of_ble_eq_true rfl)⟩) (pl_preV hA hS hw hK 1 (show 1 < σ.1 0 + 3 from Nat.lt_of_lt_of_le (by decide) (Nat.le_add_left 3 _)) []) rfl rfl hl.1 rfl (lv_room (Nat.le_of_ble_eq_true rfl)) dX9_matched_20 ⟨Nat.zero_le _, Nat.zero_le _⟩) hS (fun rz1 sz1 H locs hpz1 hw hS => ?_)
      obtain ⟨rfl, ez1⟩ := hpz1
      obtain rfl := ez1.symm
      refine lv_icmp_ge (tgt := 57) hx hb dX9_matched_23 (by decide) (fun c2 => ?_) (fun c2 => ?_)
      · skip
        replace h := ite_p c2 h
        refine lv_iload_n hx hb dX9_matched_57 rfl (lv_at hl 2 rfl) ?_
        exact pei hx hb hr hlocks hA hw hK hS ⟨Option.some.inj h, rfl⟩ dX9_matched_58
      · skip
        replace h := ite_n c2 h
        refine lv_aload_n hx hb dX9_matched_26 rfl (lv_at hl 1 rfl) ?_
        refine lv_aload_n hx hb dX9_matched_27 rfl (lv_at hl 0 rfl) ?_
        refine pgL (C := RX9) (T := TX9) (N := 6) hx hb hts hown hK hw 9 0 0 Nat.one_pos (by decide) rfl rfl inF_X9 (by decide) (v := .ref (G.2.2.1 7 0)) rfl (hts _ wm10) (fun _ h9 => h9) dX9_matched_28 ?_
        refine pgL (C := RX7) (T := TX7) (N := 3) hx hb hts hown hK hw 7 1 0 Nat.one_pos (by decide) rfl rfl inF_X7 (by decide) (v := .ref (G.2.2.1 10 1)) rfl (hts _ wm420) (fun _ h9 => h9) dX9_matched_31 ?_
        refine lv_iload hx hb dX9_matched_34 (lv_at hl 3 rfl) ?_
        obtain ⟨g3, h⟩ := gd_e h
        obtain ⟨y4, ey4, h⟩ := nq_e h
        refine pcallg (κ := 3) rfl (va_runV (As := [.int xb4]) (rest := [.ref (G.2.2.1 5 ub2)]) ⟨hx, hb, hml, hown, hts⟩ (c_lgetI (l := l) (G := G) (tys := tys) (σ := σ) htys (j := 1) (show 1 < σ.1 0 + 3 from Nat.lt_of_lt_of_le (by decide) (Nat.le_add_left 3 _)) g3 (pl_len2 hw 1 (show 1 < σ.1 0 + 3 from Nat.lt_of_lt_of_le (by decide) (Nat.le_add_left 3 _)))) (cwV 1 hts (gVA wm270 wm255 wm256 wm13 wm257) rfl rfl rfl (by decide +kernel) ⟨(Nat.le_of_ble_eq_true rfl), (Nat.le_of_ble_eq_true rfl)⟩) (pl_preV hA hS hw hK 1 (show 1 < σ.1 0 + 3 from Nat.lt_of_lt_of_le (by decide) (Nat.le_add_left 3 _)) [.int xb4]) rfl rfl hl.1 rfl (lv_room (Nat.le_of_ble_eq_true rfl)) dX9_matched_36 ⟨Nat.zero_le _, Nat.zero_le _⟩) hS (fun zy4 ezy4 H locs hw hS => ?_)
        obtain rfl : y4 = zy4 := ey4.trans ezy4.symm
        have hy4 : y4 < pvM σ 3 := by rw [ey4]; exact pl_lt hw 1 (show 1 < σ.1 0 + 3 from Nat.lt_of_lt_of_le (by decide) (Nat.le_add_left 3 _)) _ (Nat.not_le.mp fun q => g3 (Or.inr q)) rfl
        refine pcast hx hb hown hK hw 3 y4 hy4 (by decide) rfl (hts _ wm243) dX9_matched_39 ?_
        obtain ⟨r5, e6, h⟩ := ob1_e h
        refine pcalli (va_runV (As := [.ref (G.2.2.1 3 y4)]) (rest := []) ⟨hx, hb, hml, hown, hts⟩ (c_X5_selects (l := l) (G := G) (tys := tys) (σ := σ) htys hub2 hy4 e6) (cwV 1 hts (gVA wm749 wm443 wm444 wm359 wm445) rfl rfl rfl (by decide +kernel) ⟨(Nat.le_of_ble_eq_true rfl), (Nat.le_of_ble_eq_true rfl)⟩) (pv_preV hA hS hw hK 5 ub2 hub2 (by decide) rfl [.ref (G.2.2.1 3 y4)]) rfl rfl hl.1 rfl (lv_room (Nat.le_of_ble_eq_true rfl)) dX9_matched_42 ⟨Nat.zero_le _, Nat.zero_le _⟩) hS (fun r8 s9 H locs hp7 hw hS => ?_)
        obtain ⟨err5, esr5, hzr5⟩ := hp7
        obtain rfl := esr5.symm
        obtain rfl := err5.symm
        refine lv_if_eq (tgt := 51) hx hb dX9_matched_45 (by decide) (fun c10 => ?_) (fun c10 => ?_)
        · skip
          replace h := ite_p c10 h
          refine lv_iinc (v := xb4 + 1) (lv' := [(4, .int (xb4 + 1)), (0, .ref (G.2.2.1 9 0)), (2, .ref (G.2.2.1 5 ub2)), (3, .int xb3)]) hx hb dX9_matched_51 hl (k := 3) rfl (by rfl) (by decide) rfl (fun ls hl => ?_)
          refine lv_goto (tgt := 11) hx hb dX9_matched_54 (by decide) ?_
          exact ih11 ub2 xb3 (xb4 + 1) hub2 h _ _ hw hS ls (lv_sub hl [1, 2, 3, 0] rfl)
        · skip
          replace h := ite_n c10 h
          refine lv_iinc (v := xb3 + 1) (lv' := [(3, .int (xb3 + 1)), (0, .ref (G.2.2.1 9 0)), (2, .ref (G.2.2.1 5 ub2)), (4, .int xb4)]) hx hb dX9_matched_48 hl (k := 2) rfl (by rfl) (by decide) rfl (fun ls hl => ?_)
          refine lv_iinc (v := xb4 + 1) (lv' := [(4, .int (xb4 + 1)), (3, .int (xb3 + 1)), (0, .ref (G.2.2.1 9 0)), (2, .ref (G.2.2.1 5 ub2))]) hx hb dX9_matched_51 hl (k := 3) rfl (by rfl) (by decide) rfl (fun ls hl => ?_)
          refine lv_goto (tgt := 11) hx hb dX9_matched_54 (by decide) ?_
          exact ih11 ub2 (xb3 + 1) (xb4 + 1) hub2 h _ _ hw hS ls (lv_sub hl [2, 3, 1, 0] rfl)
  refine lv_aload_n hx hb dX9_matched_0 rfl (lv_at hl 0 rfl) ?_
  refine lv_iload_n hx hb dX9_matched_1 rfl (lv_at hl 1 rfl) ?_
  obtain ⟨r11, e12, h⟩ := ob1_e h
  refine pcallq (va_runV (As := [.int x1]) (rest := []) ⟨hx, hb, hml, hown, hts⟩ (c_X9_ruleAt (l := l) (G := G) (tys := tys) (σ := σ) htys  e12) (cwV 1 hts (gVA wm381 wm382 wm383 wm2 wm384) rfl rfl rfl (by decide +kernel) ⟨(Nat.le_of_ble_eq_true rfl), (Nat.le_of_ble_eq_true rfl)⟩) (pv_preV hA hS hw hK 9 0 Nat.one_pos (by decide) rfl [.int x1]) rfl rfl hl.1 rfl (lv_room (Nat.le_of_ble_eq_true rfl)) dX9_matched_2 ⟨Nat.zero_le _, Nat.zero_le _⟩) hS (fun r14 s15 H locs hp13 hw hS => ?_)
  obtain ⟨err11, esr11, hzr11⟩ := hp13
  obtain rfl := esr11.symm
  subst err11
  refine lv_astore_n (lv' := [(2, .ref (G.2.2.1 5 r11)), (0, .ref (G.2.2.1 9 0)), (1, .int x1)]) hx hb dX9_matched_5 rfl hl (by decide) rfl (fun ls hl => ?_)
  refine lv_iconst (v := 0) hx hb dX9_matched_6 (by decide) ?_
  refine lv_istore_n (lv' := [(3, .int 0), (2, .ref (G.2.2.1 5 r11)), (0, .ref (G.2.2.1 9 0)), (1, .int x1)]) hx hb dX9_matched_7 rfl hl (by decide) rfl (fun ls hl => ?_)
  refine lv_iconst (v := 0) hx hb dX9_matched_8 (by decide) ?_
  refine lv_istore (lv' := [(4, .int 0), (3, .int 0), (2, .ref (G.2.2.1 5 r11)), (0, .ref (G.2.2.1 9 0)), (1, .int x1)]) hx hb dX9_matched_9 hl (by decide) rfl (fun ls hl => ?_)
  exact loop11 fu r11 0 0 hzr11 h _ _ hw hS ls (lv_sub hl [3, 2, 1, 0] rfl)
def f_X9_styleOf (σ : PvS) (x1 : Int32) (x2 : Int32) : Option (Int32 × PvS) :=
  ob1 (f_X9_nodeAt σ x1) (fun r1 => ob1 (f_X9_isProperty σ x2) (fun r6 => if r6 = 0 then (none) else (ob1 (f_X9_freshenStyles σ) (fun σ13 => ob1 (f_X6_of σ13 0 r1 x2) (fun r18 => some (r18, σ13))))))
set_option maxHeartbeats 4000000 in
set_option maxRecDepth 100000 in
theorem c_X9_styleOf {l : Launch} {G : PvG} {tys : List (ClassId × FieldType)} {σ : PvS} (htys : tys = pvT G)  {x1 : Int32} {x2 : Int32}  {r : Int32} {σ1 : PvS} (h : f_X9_styleOf σ x1 x2 = some (r, σ1)) : Met l yX9_styleOf (Cond.code yX9_styleOf cX9_styleOf 4 (some .int) :: WA) ({ frames := 10, cells := 0, slots := 0, locals := 234 }) (va_Pc [.ref (G.2.2.1 9 0), .int x1, .int x2] (pvU G tys σ)) (va_Qi (fun r' σ' => r' = r ∧ σ' = σ1 ∧ σ'.1 = σ.1) (pvU G tys) (pvB G)) 0 0 (pvB G) := by
  refine Met.ofW (cc := cX9_styleOf) (maxL := 4) (ret := (some .int)) (by decide) rfl ?_
  intro p e s m args below meth c s₁ B hml hv
  obtain ⟨rfl, hw, hK, hA⟩ := hv
  have hx := B.exec
  have hb := B.bytes
  have hr := B.returns
  have hts0 := atoms_spec (ws := (Cond.code yX9_styleOf cX9_styleOf 4 (some .int) :: WA)) B.pre
  have hts : ∀ w ∈ WA, w.before _ s = true := fun w h => hts0 w (List.mem_cons_of_mem _ h)
  have hown : s.vm.findClass RX9 = some m.cls := findClass_of_methodNamed B.named
  have hlocks := B.notSynchronized
  have hS : va_S (pvB G) s.heap s.heap [] := va_S.rf
  have hl := lv_entry ([.ref (G.2.2.1 9 0), .int x1, .int x2]) (n := 4) (Nat.le_of_ble_eq_true rfl)
  rw [lg_entry_eq]
  generalize (lg_sl ([.ref (G.2.2.1 9 0), .int x1, .int x2]) ++ List.replicate (4 - (lg_sl ([.ref (G.2.2.1 9 0), .int x1, .int x2])).length) Slot.unset).toArray = ls at hl ⊢
  have hl : lv_has ls 4 [(0, .ref (G.2.2.1 9 0)), (1, .int x1), (2, .int x2)] := hl
  have hroot := pv_root hw
  unfold f_X9_styleOf at h
  refine lv_aload_n hx hb dX9_styleOf_0 rfl (lv_at hl 0 rfl) ?_
  refine lv_iload_n hx hb dX9_styleOf_1 rfl (lv_at hl 1 rfl) ?_
  obtain ⟨r1, e2, h⟩ := ob1_e h
  refine pcallq (va_runV (As := [.int x1]) (rest := []) ⟨hx, hb, hml, hown, hts⟩ (c_X9_nodeAt (l := l) (G := G) (tys := tys) (σ := σ) htys  e2) (cwV 1 hts (gVA wm236 wm237 wm238 wm2 wm239) rfl rfl rfl (by decide +kernel) ⟨(Nat.le_of_ble_eq_true rfl), (Nat.le_of_ble_eq_true rfl)⟩) (pv_preV hA hS hw hK 9 0 Nat.one_pos (by decide) rfl [.int x1]) rfl rfl hl.1 rfl (lv_room (Nat.le_of_ble_eq_true rfl)) dX9_styleOf_2 ⟨Nat.zero_le _, Nat.zero_le _⟩) hS (fun r4 s5 H locs hp3 hw hS => ?_)
  obtain ⟨err1, esr1, hzr1⟩ := hp3
  obtain rfl := esr1.symm
  subst err1
  refine lv_astore_n (lv' := [(3, .ref (G.2.2.1 3 r1)), (0, .ref (G.2.2.1 9 0)), (1, .int x1), (2, .int x2)]) hx hb dX9_styleOf_5 rfl hl (by decide) rfl (fun ls hl => ?_)
  refine lv_iload_n hx hb dX9_styleOf_6 rfl (lv_at hl 3 rfl) ?_
  obtain ⟨r6, e7, h⟩ := ob1_e h
  refine pcalli (va_runS (As := [.int x2]) (rest := []) ⟨hx, hb, hml, hown, hts⟩ (c_X9_isProperty (l := l) (G := G) (tys := tys) (σ := σ) htys  e7) (va_cwS 1 hts (gSA wm337 wm338 wm2 wm339) rfl rfl rfl (by decide +kernel) ⟨(Nat.le_of_ble_eq_true rfl), (Nat.le_of_ble_eq_true rfl)⟩) (pv_preS hA hS hw hK [.int x2]) rfl rfl hl.1 rfl (lv_room (Nat.le_of_ble_eq_true rfl)) dX9_styleOf_7 ⟨Nat.zero_le _, Nat.zero_le _⟩) hS (fun r9 s10 H locs hp8 hw hS => ?_)
  obtain ⟨err6, esr6, hzr6⟩ := hp8
  obtain rfl := esr6.symm
  obtain rfl := err6.symm
  refine lv_if_ne (tgt := 23) hx hb dX9_styleOf_10 (by decide) (fun c11 => ?_) (fun c11 => ?_)
  · skip
    replace h := ite_n c11 h
    refine lv_aload_n hx hb dX9_styleOf_23 rfl (lv_at hl 1 rfl) ?_
    obtain ⟨σ13, e14, h⟩ := ob1_e h
    refine pcallv (va_runV (As := []) (rest := []) ⟨hx, hb, hml, hown, hts⟩ (c_X9_freshenStyles (l := l) (G := G) (tys := tys) (σ := σ) htys  e14) (cwV 0 hts (gVA wm416 wm417 wm418 wm2 wm419) rfl rfl rfl (by decide +kernel) ⟨(Nat.le_of_ble_eq_true rfl), (Nat.le_of_ble_eq_true rfl)⟩) (pv_preV hA hS hw hK 9 0 Nat.one_pos (by decide) rfl []) rfl rfl hl.1 rfl (lv_room (Nat.le_of_ble_eq_true rfl)) dX9_styleOf_24 ⟨Nat.zero_le _, Nat.zero_le _⟩) hS (fun s17 H locs hp15 hw hS => ?_)
    obtain ⟨esσ13, hdσ13⟩ := hp15
    obtain rfl := esσ13.symm
    have hcσ13 : σ13.1 = σ.1 := hdσ13
    refine lv_aload_n hx hb dX9_styleOf_27 rfl (lv_at hl 1 rfl) ?_
    refine pgL (C := RX9) (T := TX9) (N := 6) hx hb hts hown hK hw 9 3 0 Nat.one_pos (by decide) rfl rfl inF_X9 (by decide) (v := .ref (G.2.2.1 6 0)) rfl (hts _ wm20) (fun _ h9 => h9) dX9_styleOf_28 ?_
    refine lv_aload_n hx hb dX9_styleOf_31 rfl (lv_at hl 0 rfl) ?_
    refine lv_iload_n hx hb dX9_styleOf_32 rfl (lv_at hl 3 rfl) ?_
    obtain ⟨r18, e19, h⟩ := ob1_e h
    refine pcalli (va_runV (As := [.ref (G.2.2.1 3 r1), .int x2]) (rest := []) ⟨hx, hb, hml, hown, hts⟩ (c_X6_of (l := l) (G := G) (tys := tys) (σ := σ13) htys (show 0 < 2 from by decide) (lt_c hcσ13 3 hzr1) e19) (cwV 2 hts (gVA wm732 wm473 wm474 wm23 wm475) rfl rfl rfl (by decide +kernel) ⟨(Nat.le_of_ble_eq_true rfl), (Nat.le_of_ble_eq_true rfl)⟩) (pv_preV hA hS hw hK 6 0 (show 0 < 2 from by decide) (by decide) rfl [.ref (G.2.2.1 3 r1), .int x2]) rfl rfl hl.1 rfl (lv_room (Nat.le_of_ble_eq_true rfl)) dX9_styleOf_33 ⟨Nat.zero_le _, Nat.zero_le _⟩) hS (fun r21 s22 H locs hp20 hw hS => ?_)
    obtain ⟨err18, esr18⟩ := hp20
    obtain rfl := esr18.symm
    obtain rfl := err18.symm
    exact pei hx hb hr hlocks hA hw hK hS (pst h hcσ13) dX9_styleOf_36
  · skip
    replace h := ite_p c11 h
    cases h
def f_X9_because (σ : PvS) (x1 : Int32) (x2 : Int32) : Option (Int32 × PvS) :=
  ob1 (f_X9_nodeAt σ x1) (fun r1 => ob1 (f_X9_isProperty σ x2) (fun r6 => if r6 = 0 then (none) else (ob1 (f_X9_freshenStyles σ) (fun σ13 => ob1 (f_X6_reasonOf σ13 0 r1 x2) (fun r18 => some (r18, σ13))))))
set_option maxHeartbeats 4000000 in
set_option maxRecDepth 100000 in
theorem c_X9_because {l : Launch} {G : PvG} {tys : List (ClassId × FieldType)} {σ : PvS} (htys : tys = pvT G)  {x1 : Int32} {x2 : Int32}  {r : Int32} {σ1 : PvS} (h : f_X9_because σ x1 x2 = some (r, σ1)) : Met l yX9_because (Cond.code yX9_because cX9_because 4 (some .int) :: WA) ({ frames := 10, cells := 0, slots := 0, locals := 234 }) (va_Pc [.ref (G.2.2.1 9 0), .int x1, .int x2] (pvU G tys σ)) (va_Qi (fun r' σ' => r' = r ∧ σ' = σ1 ∧ σ'.1 = σ.1) (pvU G tys) (pvB G)) 0 0 (pvB G) := by
  refine Met.ofW (cc := cX9_because) (maxL := 4) (ret := (some .int)) (by decide) rfl ?_
  intro p e s m args below meth c s₁ B hml hv
  obtain ⟨rfl, hw, hK, hA⟩ := hv
  have hx := B.exec
  have hb := B.bytes
  have hr := B.returns
  have hts0 := atoms_spec (ws := (Cond.code yX9_because cX9_because 4 (some .int) :: WA)) B.pre
  have hts : ∀ w ∈ WA, w.before _ s = true := fun w h => hts0 w (List.mem_cons_of_mem _ h)
  have hown : s.vm.findClass RX9 = some m.cls := findClass_of_methodNamed B.named
  have hlocks := B.notSynchronized
  have hS : va_S (pvB G) s.heap s.heap [] := va_S.rf
  have hl := lv_entry ([.ref (G.2.2.1 9 0), .int x1, .int x2]) (n := 4) (Nat.le_of_ble_eq_true rfl)
  rw [lg_entry_eq]
  generalize (lg_sl ([.ref (G.2.2.1 9 0), .int x1, .int x2]) ++ List.replicate (4 - (lg_sl ([.ref (G.2.2.1 9 0), .int x1, .int x2])).length) Slot.unset).toArray = ls at hl ⊢
  have hl : lv_has ls 4 [(0, .ref (G.2.2.1 9 0)), (1, .int x1), (2, .int x2)] := hl
  have hroot := pv_root hw
  unfold f_X9_because at h
  refine lv_aload_n hx hb dX9_because_0 rfl (lv_at hl 0 rfl) ?_
  refine lv_iload_n hx hb dX9_because_1 rfl (lv_at hl 1 rfl) ?_
  obtain ⟨r1, e2, h⟩ := ob1_e h
  refine pcallq (va_runV (As := [.int x1]) (rest := []) ⟨hx, hb, hml, hown, hts⟩ (c_X9_nodeAt (l := l) (G := G) (tys := tys) (σ := σ) htys  e2) (cwV 1 hts (gVA wm236 wm237 wm238 wm2 wm239) rfl rfl rfl (by decide +kernel) ⟨(Nat.le_of_ble_eq_true rfl), (Nat.le_of_ble_eq_true rfl)⟩) (pv_preV hA hS hw hK 9 0 Nat.one_pos (by decide) rfl [.int x1]) rfl rfl hl.1 rfl (lv_room (Nat.le_of_ble_eq_true rfl)) dX9_because_2 ⟨Nat.zero_le _, Nat.zero_le _⟩) hS (fun r4 s5 H locs hp3 hw hS => ?_)
  obtain ⟨err1, esr1, hzr1⟩ := hp3
  obtain rfl := esr1.symm
  subst err1
  refine lv_astore_n (lv' := [(3, .ref (G.2.2.1 3 r1)), (0, .ref (G.2.2.1 9 0)), (1, .int x1), (2, .int x2)]) hx hb dX9_because_5 rfl hl (by decide) rfl (fun ls hl => ?_)
  refine lv_iload_n hx hb dX9_because_6 rfl (lv_at hl 3 rfl) ?_
  obtain ⟨r6, e7, h⟩ := ob1_e h
  refine pcalli (va_runS (As := [.int x2]) (rest := []) ⟨hx, hb, hml, hown, hts⟩ (c_X9_isProperty (l := l) (G := G) (tys := tys) (σ := σ) htys  e7) (va_cwS 1 hts (gSA wm337 wm338 wm2 wm339) rfl rfl rfl (by decide +kernel) ⟨(Nat.le_of_ble_eq_true rfl), (Nat.le_of_ble_eq_true rfl)⟩) (pv_preS hA hS hw hK [.int x2]) rfl rfl hl.1 rfl (lv_room (Nat.le_of_ble_eq_true rfl)) dX9_because_7 ⟨Nat.zero_le _, Nat.zero_le _⟩) hS (fun r9 s10 H locs hp8 hw hS => ?_)
  obtain ⟨err6, esr6, hzr6⟩ := hp8
  obtain rfl := esr6.symm
  obtain rfl := err6.symm
  refine lv_if_ne (tgt := 23) hx hb dX9_because_10 (by decide) (fun c11 => ?_) (fun c11 => ?_)
  · skip
    replace h := ite_n c11 h
    refine lv_aload_n hx hb dX9_because_23 rfl (lv_at hl 1 rfl) ?_
    obtain ⟨σ13, e14, h⟩ := ob1_e h
    refine pcallv (va_runV (As := []) (rest := []) ⟨hx, hb, hml, hown, hts⟩ (c_X9_freshenStyles (l := l) (G := G) (tys := tys) (σ := σ) htys  e14) (cwV 0 hts (gVA wm416 wm417 wm418 wm2 wm419) rfl rfl rfl (by decide +kernel) ⟨(Nat.le_of_ble_eq_true rfl), (Nat.le_of_ble_eq_true rfl)⟩) (pv_preV hA hS hw hK 9 0 Nat.one_pos (by decide) rfl []) rfl rfl hl.1 rfl (lv_room (Nat.le_of_ble_eq_true rfl)) dX9_because_24 ⟨Nat.zero_le _, Nat.zero_le _⟩) hS (fun s17 H locs hp15 hw hS => ?_)
    obtain ⟨esσ13, hdσ13⟩ := hp15
    obtain rfl := esσ13.symm
    have hcσ13 : σ13.1 = σ.1 := hdσ13
    refine lv_aload_n hx hb dX9_because_27 rfl (lv_at hl 1 rfl) ?_
    refine pgL (C := RX9) (T := TX9) (N := 6) hx hb hts hown hK hw 9 3 0 Nat.one_pos (by decide) rfl rfl inF_X9 (by decide) (v := .ref (G.2.2.1 6 0)) rfl (hts _ wm20) (fun _ h9 => h9) dX9_because_28 ?_
    refine lv_aload_n hx hb dX9_because_31 rfl (lv_at hl 0 rfl) ?_
    refine lv_iload_n hx hb dX9_because_32 rfl (lv_at hl 3 rfl) ?_
    obtain ⟨r18, e19, h⟩ := ob1_e h
    refine pcalli (va_runV (As := [.ref (G.2.2.1 3 r1), .int x2]) (rest := []) ⟨hx, hb, hml, hown, hts⟩ (c_X6_reasonOf (l := l) (G := G) (tys := tys) (σ := σ13) htys (show 0 < 2 from by decide) (lt_c hcσ13 3 hzr1) e19) (cwV 2 hts (gVA wm737 wm738 wm739 wm23 wm740) rfl rfl rfl (by decide +kernel) ⟨(Nat.le_of_ble_eq_true rfl), (Nat.le_of_ble_eq_true rfl)⟩) (pv_preV hA hS hw hK 6 0 (show 0 < 2 from by decide) (by decide) rfl [.ref (G.2.2.1 3 r1), .int x2]) rfl rfl hl.1 rfl (lv_room (Nat.le_of_ble_eq_true rfl)) dX9_because_33 ⟨Nat.zero_le _, Nat.zero_le _⟩) hS (fun r21 s22 H locs hp20 hw hS => ?_)
    obtain ⟨err18, esr18⟩ := hp20
    obtain rfl := esr18.symm
    obtain rfl := err18.symm
    exact pei hx hb hr hlocks hA hw hK hS (pst h hcσ13) dX9_because_36
  · skip
    replace h := ite_p c11 h
    cases h
def f_X9_sortOf (σ : PvS) (x1 : Int32) : Option (Int32 × PvS) :=
  ob2 (f_X9_laidOut σ x1 (σ.2.1 9 5 0)) (fun r1 σ2 => some (σ2.2.1 2 0 r1, σ2))
set_option maxHeartbeats 4000000 in
set_option maxRecDepth 100000 in
theorem c_X9_sortOf {l : Launch} {G : PvG} {tys : List (ClassId × FieldType)} {σ : PvS} (htys : tys = pvT G)  {x1 : Int32}  {r : Int32} {σ1 : PvS} (h : f_X9_sortOf σ x1 = some (r, σ1)) : Met l yX9_sortOf (Cond.code yX9_sortOf cX9_sortOf 2 (some .int) :: WA) ({ frames := 72, cells := 0, slots := 0, locals := 1710 }) (va_Pc [.ref (G.2.2.1 9 0), .int x1] (pvU G tys σ)) (va_Qi (fun r' σ' => r' = r ∧ σ' = σ1 ∧ σ'.1 = σ.1) (pvU G tys) (pvB G)) 0 0 (pvB G) := by
  refine Met.ofW (cc := cX9_sortOf) (maxL := 2) (ret := (some .int)) (by decide) rfl ?_
  intro p e s m args below meth c s₁ B hml hv
  obtain ⟨rfl, hw, hK, hA⟩ := hv
  have hx := B.exec
  have hb := B.bytes
  have hr := B.returns
  have hts0 := atoms_spec (ws := (Cond.code yX9_sortOf cX9_sortOf 2 (some .int) :: WA)) B.pre
  have hts : ∀ w ∈ WA, w.before _ s = true := fun w h => hts0 w (List.mem_cons_of_mem _ h)
  have hown : s.vm.findClass RX9 = some m.cls := findClass_of_methodNamed B.named
  have hlocks := B.notSynchronized
  have hS : va_S (pvB G) s.heap s.heap [] := va_S.rf
  have hl := lv_entry ([.ref (G.2.2.1 9 0), .int x1]) (n := 2) (Nat.le_of_ble_eq_true rfl)
  rw [lg_entry_eq]
  generalize (lg_sl ([.ref (G.2.2.1 9 0), .int x1]) ++ List.replicate (2 - (lg_sl ([.ref (G.2.2.1 9 0), .int x1])).length) Slot.unset).toArray = ls at hl ⊢
  have hl : lv_has ls 2 [(0, .ref (G.2.2.1 9 0)), (1, .int x1)] := hl
  have hroot := pv_root hw
  unfold f_X9_sortOf at h
  refine lv_aload_n hx hb dX9_sortOf_0 rfl (lv_at hl 0 rfl) ?_
  refine lv_iload_n hx hb dX9_sortOf_1 rfl (lv_at hl 1 rfl) ?_
  refine lv_aload_n hx hb dX9_sortOf_2 rfl (lv_at hl 0 rfl) ?_
  refine pgI (C := RX9) (T := TX9) (N := 6) hx hb hts hown hK hw 9 5 0 Nat.one_pos (by decide) rfl rfl inF_X9 (by decide) rfl (hts _ wm25) (fun _ h9 => h9) dX9_sortOf_3 ?_
  obtain ⟨r1, σ2, e3, h⟩ := ob2_e h
  refine pcallq (va_runV (As := [.int x1, .int (σ.2.1 9 5 0)]) (rest := []) ⟨hx, hb, hml, hown, hts⟩ (c_X9_laidOut (l := l) (G := G) (tys := tys) (σ := σ) htys  e3) (cwV 2 hts (gVA wm411 wm412 wm413 wm2 wm414) rfl rfl rfl (by decide +kernel) ⟨(Nat.le_of_ble_eq_true rfl), (Nat.le_of_ble_eq_true rfl)⟩) (pv_preV hA hS hw hK 9 0 Nat.one_pos (by decide) rfl [.int x1, .int (σ.2.1 9 5 0)]) rfl rfl hl.1 rfl (lv_room (Nat.le_of_ble_eq_true rfl)) dX9_sortOf_6 ⟨Nat.zero_le _, Nat.zero_le _⟩) hS (fun r5 s6 H locs hp4 hw hS => ?_)
  obtain ⟨err1, esσ2, hdσ2, hzr1⟩ := hp4
  obtain rfl := esσ2.symm
  have hcσ2 : σ2.1 = σ.1 := hdσ2
  subst err1
  have hzr1 : r1 < pvM σ 2 := lt_c hcσ2.symm 2 hzr1
  refine pgI (C := RX2) (T := TX2) (N := 16) hx hb hts hown hK hw 2 0 r1 (lt_c hcσ2 2 hzr1) (by decide) rfl rfl inF_X2 (by decide) rfl (hts _ wm410) (fun _ h9 => h9) dX9_sortOf_9 ?_
  exact pei hx hb hr hlocks hA hw hK hS (pst h hcσ2) dX9_sortOf_12
def f_X9_xOf (σ : PvS) (x1 : Int32) : Option (Int32 × PvS) :=
  ob2 (f_X9_laidOut σ x1 (σ.2.1 9 5 0)) (fun r1 σ2 => ob1 (f_X2_borderX σ2 r1) (fun r7 => some (r7, σ2)))
set_option maxHeartbeats 4000000 in
set_option maxRecDepth 100000 in
theorem c_X9_xOf {l : Launch} {G : PvG} {tys : List (ClassId × FieldType)} {σ : PvS} (htys : tys = pvT G)  {x1 : Int32}  {r : Int32} {σ1 : PvS} (h : f_X9_xOf σ x1 = some (r, σ1)) : Met l yX9_xOf (Cond.code yX9_xOf cX9_xOf 2 (some .int) :: WA) ({ frames := 72, cells := 0, slots := 0, locals := 1710 }) (va_Pc [.ref (G.2.2.1 9 0), .int x1] (pvU G tys σ)) (va_Qi (fun r' σ' => r' = r ∧ σ' = σ1 ∧ σ'.1 = σ.1) (pvU G tys) (pvB G)) 0 0 (pvB G) := by
  refine Met.ofW (cc := cX9_xOf) (maxL := 2) (ret := (some .int)) (by decide) rfl ?_
  intro p e s m args below meth c s₁ B hml hv
  obtain ⟨rfl, hw, hK, hA⟩ := hv
  have hx := B.exec
  have hb := B.bytes
  have hr := B.returns
  have hts0 := atoms_spec (ws := (Cond.code yX9_xOf cX9_xOf 2 (some .int) :: WA)) B.pre
  have hts : ∀ w ∈ WA, w.before _ s = true := fun w h => hts0 w (List.mem_cons_of_mem _ h)
  have hown : s.vm.findClass RX9 = some m.cls := findClass_of_methodNamed B.named
  have hlocks := B.notSynchronized
  have hS : va_S (pvB G) s.heap s.heap [] := va_S.rf
  have hl := lv_entry ([.ref (G.2.2.1 9 0), .int x1]) (n := 2) (Nat.le_of_ble_eq_true rfl)
  rw [lg_entry_eq]
  generalize (lg_sl ([.ref (G.2.2.1 9 0), .int x1]) ++ List.replicate (2 - (lg_sl ([.ref (G.2.2.1 9 0), .int x1])).length) Slot.unset).toArray = ls at hl ⊢
  have hl : lv_has ls 2 [(0, .ref (G.2.2.1 9 0)), (1, .int x1)] := hl
  have hroot := pv_root hw
  unfold f_X9_xOf at h
  refine lv_aload_n hx hb dX9_xOf_0 rfl (lv_at hl 0 rfl) ?_
  refine lv_iload_n hx hb dX9_xOf_1 rfl (lv_at hl 1 rfl) ?_
  refine lv_aload_n hx hb dX9_xOf_2 rfl (lv_at hl 0 rfl) ?_
  refine pgI (C := RX9) (T := TX9) (N := 6) hx hb hts hown hK hw 9 5 0 Nat.one_pos (by decide) rfl rfl inF_X9 (by decide) rfl (hts _ wm25) (fun _ h9 => h9) dX9_xOf_3 ?_
  obtain ⟨r1, σ2, e3, h⟩ := ob2_e h
  refine pcallq (va_runV (As := [.int x1, .int (σ.2.1 9 5 0)]) (rest := []) ⟨hx, hb, hml, hown, hts⟩ (c_X9_laidOut (l := l) (G := G) (tys := tys) (σ := σ) htys  e3) (cwV 2 hts (gVA wm411 wm412 wm413 wm2 wm414) rfl rfl rfl (by decide +kernel) ⟨(Nat.le_of_ble_eq_true rfl), (Nat.le_of_ble_eq_true rfl)⟩) (pv_preV hA hS hw hK 9 0 Nat.one_pos (by decide) rfl [.int x1, .int (σ.2.1 9 5 0)]) rfl rfl hl.1 rfl (lv_room (Nat.le_of_ble_eq_true rfl)) dX9_xOf_6 ⟨Nat.zero_le _, Nat.zero_le _⟩) hS (fun r5 s6 H locs hp4 hw hS => ?_)
  obtain ⟨err1, esσ2, hdσ2, hzr1⟩ := hp4
  obtain rfl := esσ2.symm
  have hcσ2 : σ2.1 = σ.1 := hdσ2
  subst err1
  have hzr1 : r1 < pvM σ 2 := lt_c hcσ2.symm 2 hzr1
  obtain ⟨r7, e8, h⟩ := ob1_e h
  refine pcalli (va_runV (As := []) (rest := []) ⟨hx, hb, hml, hown, hts⟩ (c_X2_borderX (l := l) (G := G) (tys := tys) (σ := σ2) htys (lt_c hcσ2 2 hzr1) e8) (cwV 0 hts (gVA wm674 wm675 wm676 wm81 wm677) rfl rfl rfl (by decide +kernel) ⟨(Nat.le_of_ble_eq_true rfl), (Nat.le_of_ble_eq_true rfl)⟩) (pv_preV hA hS hw hK 2 r1 (lt_c hcσ2 2 hzr1) (by decide) rfl []) rfl rfl hl.1 rfl (lv_room (Nat.le_of_ble_eq_true rfl)) dX9_xOf_9 ⟨Nat.zero_le _, Nat.zero_le _⟩) hS (fun r10 s11 H locs hp9 hw hS => ?_)
  obtain ⟨err7, esr7⟩ := hp9
  obtain rfl := esr7.symm
  obtain rfl := err7.symm
  exact pei hx hb hr hlocks hA hw hK hS (pst h hcσ2) dX9_xOf_12
def f_X9_wideOf (σ : PvS) (x1 : Int32) : Option (Int32 × PvS) :=
  ob2 (f_X9_laidOut σ x1 (σ.2.1 9 5 0)) (fun r1 σ2 => ob1 (f_X2_borderWide σ2 r1) (fun r7 => some (r7, σ2)))
set_option maxHeartbeats 4000000 in
set_option maxRecDepth 100000 in
theorem c_X9_wideOf {l : Launch} {G : PvG} {tys : List (ClassId × FieldType)} {σ : PvS} (htys : tys = pvT G)  {x1 : Int32}  {r : Int32} {σ1 : PvS} (h : f_X9_wideOf σ x1 = some (r, σ1)) : Met l yX9_wideOf (Cond.code yX9_wideOf cX9_wideOf 2 (some .int) :: WA) ({ frames := 72, cells := 0, slots := 0, locals := 1710 }) (va_Pc [.ref (G.2.2.1 9 0), .int x1] (pvU G tys σ)) (va_Qi (fun r' σ' => r' = r ∧ σ' = σ1 ∧ σ'.1 = σ.1) (pvU G tys) (pvB G)) 0 0 (pvB G) := by
  refine Met.ofW (cc := cX9_wideOf) (maxL := 2) (ret := (some .int)) (by decide) rfl ?_
  intro p e s m args below meth c s₁ B hml hv
  obtain ⟨rfl, hw, hK, hA⟩ := hv
  have hx := B.exec
  have hb := B.bytes
  have hr := B.returns
  have hts0 := atoms_spec (ws := (Cond.code yX9_wideOf cX9_wideOf 2 (some .int) :: WA)) B.pre
  have hts : ∀ w ∈ WA, w.before _ s = true := fun w h => hts0 w (List.mem_cons_of_mem _ h)
  have hown : s.vm.findClass RX9 = some m.cls := findClass_of_methodNamed B.named
  have hlocks := B.notSynchronized
  have hS : va_S (pvB G) s.heap s.heap [] := va_S.rf
  have hl := lv_entry ([.ref (G.2.2.1 9 0), .int x1]) (n := 2) (Nat.le_of_ble_eq_true rfl)
  rw [lg_entry_eq]
  generalize (lg_sl ([.ref (G.2.2.1 9 0), .int x1]) ++ List.replicate (2 - (lg_sl ([.ref (G.2.2.1 9 0), .int x1])).length) Slot.unset).toArray = ls at hl ⊢
  have hl : lv_has ls 2 [(0, .ref (G.2.2.1 9 0)), (1, .int x1)] := hl
  have hroot := pv_root hw
  unfold f_X9_wideOf at h
  refine lv_aload_n hx hb dX9_wideOf_0 rfl (lv_at hl 0 rfl) ?_
  refine lv_iload_n hx hb dX9_wideOf_1 rfl (lv_at hl 1 rfl) ?_
  refine lv_aload_n hx hb dX9_wideOf_2 rfl (lv_at hl 0 rfl) ?_
  refine pgI (C := RX9) (T := TX9) (N := 6) hx hb hts hown hK hw 9 5 0 Nat.one_pos (by decide) rfl rfl inF_X9 (by decide) rfl (hts _ wm25) (fun _ h9 => h9) dX9_wideOf_3 ?_
  obtain ⟨r1, σ2, e3, h⟩ := ob2_e h
  refine pcallq (va_runV (As := [.int x1, .int (σ.2.1 9 5 0)]) (rest := []) ⟨hx, hb, hml, hown, hts⟩ (c_X9_laidOut (l := l) (G := G) (tys := tys) (σ := σ) htys  e3) (cwV 2 hts (gVA wm411 wm412 wm413 wm2 wm414) rfl rfl rfl (by decide +kernel) ⟨(Nat.le_of_ble_eq_true rfl), (Nat.le_of_ble_eq_true rfl)⟩) (pv_preV hA hS hw hK 9 0 Nat.one_pos (by decide) rfl [.int x1, .int (σ.2.1 9 5 0)]) rfl rfl hl.1 rfl (lv_room (Nat.le_of_ble_eq_true rfl)) dX9_wideOf_6 ⟨Nat.zero_le _, Nat.zero_le _⟩) hS (fun r5 s6 H locs hp4 hw hS => ?_)
  obtain ⟨err1, esσ2, hdσ2, hzr1⟩ := hp4
  obtain rfl := esσ2.symm
  have hcσ2 : σ2.1 = σ.1 := hdσ2
  subst err1
  have hzr1 : r1 < pvM σ 2 := lt_c hcσ2.symm 2 hzr1
  obtain ⟨r7, e8, h⟩ := ob1_e h
  refine pcalli (va_runV (As := []) (rest := []) ⟨hx, hb, hml, hown, hts⟩ (c_X2_borderWide (l := l) (G := G) (tys := tys) (σ := σ2) htys (lt_c hcσ2 2 hzr1) e8) (cwV 0 hts (gVA wm649 wm650 wm651 wm81 wm652) rfl rfl rfl (by decide +kernel) ⟨(Nat.le_of_ble_eq_true rfl), (Nat.le_of_ble_eq_true rfl)⟩) (pv_preV hA hS hw hK 2 r1 (lt_c hcσ2 2 hzr1) (by decide) rfl []) rfl rfl hl.1 rfl (lv_room (Nat.le_of_ble_eq_true rfl)) dX9_wideOf_9 ⟨Nat.zero_le _, Nat.zero_le _⟩) hS (fun r10 s11 H locs hp9 hw hS => ?_)
  obtain ⟨err7, esr7⟩ := hp9
  obtain rfl := esr7.symm
  obtain rfl := err7.symm
  exact pei hx hb hr hlocks hA hw hK hS (pst h hcσ2) dX9_wideOf_12
def f_X9_highOf (σ : PvS) (x1 : Int32) : Option (Int32 × PvS) :=
  ob2 (f_X9_laidOut σ x1 (σ.2.1 9 5 0)) (fun r1 σ2 => ob1 (f_X2_borderHigh σ2 r1) (fun r7 => some (r7, σ2)))
set_option maxHeartbeats 4000000 in
set_option maxRecDepth 100000 in
theorem c_X9_highOf {l : Launch} {G : PvG} {tys : List (ClassId × FieldType)} {σ : PvS} (htys : tys = pvT G)  {x1 : Int32}  {r : Int32} {σ1 : PvS} (h : f_X9_highOf σ x1 = some (r, σ1)) : Met l yX9_highOf (Cond.code yX9_highOf cX9_highOf 2 (some .int) :: WA) ({ frames := 72, cells := 0, slots := 0, locals := 1710 }) (va_Pc [.ref (G.2.2.1 9 0), .int x1] (pvU G tys σ)) (va_Qi (fun r' σ' => r' = r ∧ σ' = σ1 ∧ σ'.1 = σ.1) (pvU G tys) (pvB G)) 0 0 (pvB G) := by
  refine Met.ofW (cc := cX9_highOf) (maxL := 2) (ret := (some .int)) (by decide) rfl ?_
  intro p e s m args below meth c s₁ B hml hv
  obtain ⟨rfl, hw, hK, hA⟩ := hv
  have hx := B.exec
  have hb := B.bytes
  have hr := B.returns
  have hts0 := atoms_spec (ws := (Cond.code yX9_highOf cX9_highOf 2 (some .int) :: WA)) B.pre
  have hts : ∀ w ∈ WA, w.before _ s = true := fun w h => hts0 w (List.mem_cons_of_mem _ h)
  have hown : s.vm.findClass RX9 = some m.cls := findClass_of_methodNamed B.named
  have hlocks := B.notSynchronized
  have hS : va_S (pvB G) s.heap s.heap [] := va_S.rf
  have hl := lv_entry ([.ref (G.2.2.1 9 0), .int x1]) (n := 2) (Nat.le_of_ble_eq_true rfl)
  rw [lg_entry_eq]
  generalize (lg_sl ([.ref (G.2.2.1 9 0), .int x1]) ++ List.replicate (2 - (lg_sl ([.ref (G.2.2.1 9 0), .int x1])).length) Slot.unset).toArray = ls at hl ⊢
  have hl : lv_has ls 2 [(0, .ref (G.2.2.1 9 0)), (1, .int x1)] := hl
  have hroot := pv_root hw
  unfold f_X9_highOf at h
  refine lv_aload_n hx hb dX9_highOf_0 rfl (lv_at hl 0 rfl) ?_
  refine lv_iload_n hx hb dX9_highOf_1 rfl (lv_at hl 1 rfl) ?_
  refine lv_aload_n hx hb dX9_highOf_2 rfl (lv_at hl 0 rfl) ?_
  refine pgI (C := RX9) (T := TX9) (N := 6) hx hb hts hown hK hw 9 5 0 Nat.one_pos (by decide) rfl rfl inF_X9 (by decide) rfl (hts _ wm25) (fun _ h9 => h9) dX9_highOf_3 ?_
  obtain ⟨r1, σ2, e3, h⟩ := ob2_e h
  refine pcallq (va_runV (As := [.int x1, .int (σ.2.1 9 5 0)]) (rest := []) ⟨hx, hb, hml, hown, hts⟩ (c_X9_laidOut (l := l) (G := G) (tys := tys) (σ := σ) htys  e3) (cwV 2 hts (gVA wm411 wm412 wm413 wm2 wm414) rfl rfl rfl (by decide +kernel) ⟨(Nat.le_of_ble_eq_true rfl), (Nat.le_of_ble_eq_true rfl)⟩) (pv_preV hA hS hw hK 9 0 Nat.one_pos (by decide) rfl [.int x1, .int (σ.2.1 9 5 0)]) rfl rfl hl.1 rfl (lv_room (Nat.le_of_ble_eq_true rfl)) dX9_highOf_6 ⟨Nat.zero_le _, Nat.zero_le _⟩) hS (fun r5 s6 H locs hp4 hw hS => ?_)
  obtain ⟨err1, esσ2, hdσ2, hzr1⟩ := hp4
  obtain rfl := esσ2.symm
  have hcσ2 : σ2.1 = σ.1 := hdσ2
  subst err1
  have hzr1 : r1 < pvM σ 2 := lt_c hcσ2.symm 2 hzr1
  obtain ⟨r7, e8, h⟩ := ob1_e h
  refine pcalli (va_runV (As := []) (rest := []) ⟨hx, hb, hml, hown, hts⟩ (c_X2_borderHigh (l := l) (G := G) (tys := tys) (σ := σ2) htys (lt_c hcσ2 2 hzr1) e8) (cwV 0 hts (gVA wm658 wm659 wm660 wm81 wm661) rfl rfl rfl (by decide +kernel) ⟨(Nat.le_of_ble_eq_true rfl), (Nat.le_of_ble_eq_true rfl)⟩) (pv_preV hA hS hw hK 2 r1 (lt_c hcσ2 2 hzr1) (by decide) rfl []) rfl rfl hl.1 rfl (lv_room (Nat.le_of_ble_eq_true rfl)) dX9_highOf_9 ⟨Nat.zero_le _, Nat.zero_le _⟩) hS (fun r10 s11 H locs hp9 hw hS => ?_)
  obtain ⟨err7, esr7⟩ := hp9
  obtain rfl := esr7.symm
  obtain rfl := err7.symm
  exact pei hx hb hr hlocks hA hw hK hS (pst h hcσ2) dX9_highOf_12
def f_X9_reachOf (σ : PvS) (x1 : Int32) : Option (Int32 × PvS) :=
  ob2 (f_X9_laidOut σ x1 (σ.2.1 9 5 0)) (fun r1 σ2 => ob1 (f_X2_reachOrNone σ2 r1) (fun r7 => some (r7, σ2)))
set_option maxHeartbeats 4000000 in
set_option maxRecDepth 100000 in
theorem c_X9_reachOf {l : Launch} {G : PvG} {tys : List (ClassId × FieldType)} {σ : PvS} (htys : tys = pvT G)  {x1 : Int32}  {r : Int32} {σ1 : PvS} (h : f_X9_reachOf σ x1 = some (r, σ1)) : Met l yX9_reachOf (Cond.code yX9_reachOf cX9_reachOf 2 (some .int) :: WA) ({ frames := 72, cells := 0, slots := 0, locals := 1710 }) (va_Pc [.ref (G.2.2.1 9 0), .int x1] (pvU G tys σ)) (va_Qi (fun r' σ' => r' = r ∧ σ' = σ1 ∧ σ'.1 = σ.1) (pvU G tys) (pvB G)) 0 0 (pvB G) := by
  refine Met.ofW (cc := cX9_reachOf) (maxL := 2) (ret := (some .int)) (by decide) rfl ?_
  intro p e s m args below meth c s₁ B hml hv
  obtain ⟨rfl, hw, hK, hA⟩ := hv
  have hx := B.exec
  have hb := B.bytes
  have hr := B.returns
  have hts0 := atoms_spec (ws := (Cond.code yX9_reachOf cX9_reachOf 2 (some .int) :: WA)) B.pre
  have hts : ∀ w ∈ WA, w.before _ s = true := fun w h => hts0 w (List.mem_cons_of_mem _ h)
  have hown : s.vm.findClass RX9 = some m.cls := findClass_of_methodNamed B.named
  have hlocks := B.notSynchronized
  have hS : va_S (pvB G) s.heap s.heap [] := va_S.rf
  have hl := lv_entry ([.ref (G.2.2.1 9 0), .int x1]) (n := 2) (Nat.le_of_ble_eq_true rfl)
  rw [lg_entry_eq]
  generalize (lg_sl ([.ref (G.2.2.1 9 0), .int x1]) ++ List.replicate (2 - (lg_sl ([.ref (G.2.2.1 9 0), .int x1])).length) Slot.unset).toArray = ls at hl ⊢
  have hl : lv_has ls 2 [(0, .ref (G.2.2.1 9 0)), (1, .int x1)] := hl
  have hroot := pv_root hw
  unfold f_X9_reachOf at h
  refine lv_aload_n hx hb dX9_reachOf_0 rfl (lv_at hl 0 rfl) ?_
  refine lv_iload_n hx hb dX9_reachOf_1 rfl (lv_at hl 1 rfl) ?_
  refine lv_aload_n hx hb dX9_reachOf_2 rfl (lv_at hl 0 rfl) ?_
  refine pgI (C := RX9) (T := TX9) (N := 6) hx hb hts hown hK hw 9 5 0 Nat.one_pos (by decide) rfl rfl inF_X9 (by decide) rfl (hts _ wm25) (fun _ h9 => h9) dX9_reachOf_3 ?_
  obtain ⟨r1, σ2, e3, h⟩ := ob2_e h
  refine pcallq (va_runV (As := [.int x1, .int (σ.2.1 9 5 0)]) (rest := []) ⟨hx, hb, hml, hown, hts⟩ (c_X9_laidOut (l := l) (G := G) (tys := tys) (σ := σ) htys  e3) (cwV 2 hts (gVA wm411 wm412 wm413 wm2 wm414) rfl rfl rfl (by decide +kernel) ⟨(Nat.le_of_ble_eq_true rfl), (Nat.le_of_ble_eq_true rfl)⟩) (pv_preV hA hS hw hK 9 0 Nat.one_pos (by decide) rfl [.int x1, .int (σ.2.1 9 5 0)]) rfl rfl hl.1 rfl (lv_room (Nat.le_of_ble_eq_true rfl)) dX9_reachOf_6 ⟨Nat.zero_le _, Nat.zero_le _⟩) hS (fun r5 s6 H locs hp4 hw hS => ?_)
  obtain ⟨err1, esσ2, hdσ2, hzr1⟩ := hp4
  obtain rfl := esσ2.symm
  have hcσ2 : σ2.1 = σ.1 := hdσ2
  subst err1
  have hzr1 : r1 < pvM σ 2 := lt_c hcσ2.symm 2 hzr1
  obtain ⟨r7, e8, h⟩ := ob1_e h
  refine pcalli (va_runV (As := []) (rest := []) ⟨hx, hb, hml, hown, hts⟩ (c_X2_reachOrNone (l := l) (G := G) (tys := tys) (σ := σ2) htys (lt_c hcσ2 2 hzr1) e8) (cwV 0 hts (gVA wm666 wm667 wm668 wm81 wm669) rfl rfl rfl (by decide +kernel) ⟨(Nat.le_of_ble_eq_true rfl), (Nat.le_of_ble_eq_true rfl)⟩) (pv_preV hA hS hw hK 2 r1 (lt_c hcσ2 2 hzr1) (by decide) rfl []) rfl rfl hl.1 rfl (lv_room (Nat.le_of_ble_eq_true rfl)) dX9_reachOf_9 ⟨Nat.zero_le _, Nat.zero_le _⟩) hS (fun r10 s11 H locs hp9 hw hS => ?_)
  obtain ⟨err7, esr7⟩ := hp9
  obtain rfl := esr7.symm
  obtain rfl := err7.symm
  exact pei hx hb hr hlocks hA hw hK hS (pst h hcσ2) dX9_reachOf_12
def f_X9_scrolled (σ : PvS) (x1 : Int32) : Option (Int32 × PvS) :=
  ob2 (f_X9_laidOut σ x1 (σ.2.1 9 5 0)) (fun r1 σ2 => some (σ2.2.1 2 13 r1, σ2))
set_option maxHeartbeats 4000000 in
set_option maxRecDepth 100000 in
theorem c_X9_scrolled {l : Launch} {G : PvG} {tys : List (ClassId × FieldType)} {σ : PvS} (htys : tys = pvT G)  {x1 : Int32}  {r : Int32} {σ1 : PvS} (h : f_X9_scrolled σ x1 = some (r, σ1)) : Met l yX9_scrolled (Cond.code yX9_scrolled cX9_scrolled 2 (some .int) :: WA) ({ frames := 72, cells := 0, slots := 0, locals := 1710 }) (va_Pc [.ref (G.2.2.1 9 0), .int x1] (pvU G tys σ)) (va_Qi (fun r' σ' => r' = r ∧ σ' = σ1 ∧ σ'.1 = σ.1) (pvU G tys) (pvB G)) 0 0 (pvB G) := by
  refine Met.ofW (cc := cX9_scrolled) (maxL := 2) (ret := (some .int)) (by decide) rfl ?_
  intro p e s m args below meth c s₁ B hml hv
  obtain ⟨rfl, hw, hK, hA⟩ := hv
  have hx := B.exec
  have hb := B.bytes
  have hr := B.returns
  have hts0 := atoms_spec (ws := (Cond.code yX9_scrolled cX9_scrolled 2 (some .int) :: WA)) B.pre
  have hts : ∀ w ∈ WA, w.before _ s = true := fun w h => hts0 w (List.mem_cons_of_mem _ h)
  have hown : s.vm.findClass RX9 = some m.cls := findClass_of_methodNamed B.named
  have hlocks := B.notSynchronized
  have hS : va_S (pvB G) s.heap s.heap [] := va_S.rf
  have hl := lv_entry ([.ref (G.2.2.1 9 0), .int x1]) (n := 2) (Nat.le_of_ble_eq_true rfl)
  rw [lg_entry_eq]
  generalize (lg_sl ([.ref (G.2.2.1 9 0), .int x1]) ++ List.replicate (2 - (lg_sl ([.ref (G.2.2.1 9 0), .int x1])).length) Slot.unset).toArray = ls at hl ⊢
  have hl : lv_has ls 2 [(0, .ref (G.2.2.1 9 0)), (1, .int x1)] := hl
  have hroot := pv_root hw
  unfold f_X9_scrolled at h
  refine lv_aload_n hx hb dX9_scrolled_0 rfl (lv_at hl 0 rfl) ?_
  refine lv_iload_n hx hb dX9_scrolled_1 rfl (lv_at hl 1 rfl) ?_
  refine lv_aload_n hx hb dX9_scrolled_2 rfl (lv_at hl 0 rfl) ?_
  refine pgI (C := RX9) (T := TX9) (N := 6) hx hb hts hown hK hw 9 5 0 Nat.one_pos (by decide) rfl rfl inF_X9 (by decide) rfl (hts _ wm25) (fun _ h9 => h9) dX9_scrolled_3 ?_
  obtain ⟨r1, σ2, e3, h⟩ := ob2_e h
  refine pcallq (va_runV (As := [.int x1, .int (σ.2.1 9 5 0)]) (rest := []) ⟨hx, hb, hml, hown, hts⟩ (c_X9_laidOut (l := l) (G := G) (tys := tys) (σ := σ) htys  e3) (cwV 2 hts (gVA wm411 wm412 wm413 wm2 wm414) rfl rfl rfl (by decide +kernel) ⟨(Nat.le_of_ble_eq_true rfl), (Nat.le_of_ble_eq_true rfl)⟩) (pv_preV hA hS hw hK 9 0 Nat.one_pos (by decide) rfl [.int x1, .int (σ.2.1 9 5 0)]) rfl rfl hl.1 rfl (lv_room (Nat.le_of_ble_eq_true rfl)) dX9_scrolled_6 ⟨Nat.zero_le _, Nat.zero_le _⟩) hS (fun r5 s6 H locs hp4 hw hS => ?_)
  obtain ⟨err1, esσ2, hdσ2, hzr1⟩ := hp4
  obtain rfl := esσ2.symm
  have hcσ2 : σ2.1 = σ.1 := hdσ2
  subst err1
  have hzr1 : r1 < pvM σ 2 := lt_c hcσ2.symm 2 hzr1
  refine pgI (C := RX2) (T := TX2) (N := 16) hx hb hts hown hK hw 2 13 r1 (lt_c hcσ2 2 hzr1) (by decide) rfl rfl inF_X2 (by decide) rfl (hts _ wm690) (fun _ h9 => h9) dX9_scrolled_9 ?_
  exact pei hx hb hr hlocks hA hw hK hS (pst h hcσ2) dX9_scrolled_12
def f_X9_lines (σ : PvS) (x1 : Int32) : Option (Int32 × PvS) :=
  ob2 (f_X9_laidOut σ x1 (σ.2.1 9 5 0)) (fun r1 σ2 => ob1 (f_X2_linesOrNone σ2 r1) (fun r7 => some (r7, σ2)))
set_option maxHeartbeats 4000000 in
set_option maxRecDepth 100000 in
theorem c_X9_lines {l : Launch} {G : PvG} {tys : List (ClassId × FieldType)} {σ : PvS} (htys : tys = pvT G)  {x1 : Int32}  {r : Int32} {σ1 : PvS} (h : f_X9_lines σ x1 = some (r, σ1)) : Met l yX9_lines (Cond.code yX9_lines cX9_lines 2 (some .int) :: WA) ({ frames := 72, cells := 0, slots := 0, locals := 1710 }) (va_Pc [.ref (G.2.2.1 9 0), .int x1] (pvU G tys σ)) (va_Qi (fun r' σ' => r' = r ∧ σ' = σ1 ∧ σ'.1 = σ.1) (pvU G tys) (pvB G)) 0 0 (pvB G) := by
  refine Met.ofW (cc := cX9_lines) (maxL := 2) (ret := (some .int)) (by decide) rfl ?_
  intro p e s m args below meth c s₁ B hml hv
  obtain ⟨rfl, hw, hK, hA⟩ := hv
  have hx := B.exec
  have hb := B.bytes
  have hr := B.returns
  have hts0 := atoms_spec (ws := (Cond.code yX9_lines cX9_lines 2 (some .int) :: WA)) B.pre
  have hts : ∀ w ∈ WA, w.before _ s = true := fun w h => hts0 w (List.mem_cons_of_mem _ h)
  have hown : s.vm.findClass RX9 = some m.cls := findClass_of_methodNamed B.named
  have hlocks := B.notSynchronized
  have hS : va_S (pvB G) s.heap s.heap [] := va_S.rf
  have hl := lv_entry ([.ref (G.2.2.1 9 0), .int x1]) (n := 2) (Nat.le_of_ble_eq_true rfl)
  rw [lg_entry_eq]
  generalize (lg_sl ([.ref (G.2.2.1 9 0), .int x1]) ++ List.replicate (2 - (lg_sl ([.ref (G.2.2.1 9 0), .int x1])).length) Slot.unset).toArray = ls at hl ⊢
  have hl : lv_has ls 2 [(0, .ref (G.2.2.1 9 0)), (1, .int x1)] := hl
  have hroot := pv_root hw
  unfold f_X9_lines at h
  refine lv_aload_n hx hb dX9_lines_0 rfl (lv_at hl 0 rfl) ?_
  refine lv_iload_n hx hb dX9_lines_1 rfl (lv_at hl 1 rfl) ?_
  refine lv_aload_n hx hb dX9_lines_2 rfl (lv_at hl 0 rfl) ?_
  refine pgI (C := RX9) (T := TX9) (N := 6) hx hb hts hown hK hw 9 5 0 Nat.one_pos (by decide) rfl rfl inF_X9 (by decide) rfl (hts _ wm25) (fun _ h9 => h9) dX9_lines_3 ?_
  obtain ⟨r1, σ2, e3, h⟩ := ob2_e h
  refine pcallq (va_runV (As := [.int x1, .int (σ.2.1 9 5 0)]) (rest := []) ⟨hx, hb, hml, hown, hts⟩ (c_X9_laidOut (l := l) (G := G) (tys := tys) (σ := σ) htys  e3) (cwV 2 hts (gVA wm411 wm412 wm413 wm2 wm414) rfl rfl rfl (by decide +kernel) ⟨(Nat.le_of_ble_eq_true rfl), (Nat.le_of_ble_eq_true rfl)⟩) (pv_preV hA hS hw hK 9 0 Nat.one_pos (by decide) rfl [.int x1, .int (σ.2.1 9 5 0)]) rfl rfl hl.1 rfl (lv_room (Nat.le_of_ble_eq_true rfl)) dX9_lines_6 ⟨Nat.zero_le _, Nat.zero_le _⟩) hS (fun r5 s6 H locs hp4 hw hS => ?_)
  obtain ⟨err1, esσ2, hdσ2, hzr1⟩ := hp4
  obtain rfl := esσ2.symm
  have hcσ2 : σ2.1 = σ.1 := hdσ2
  subst err1
  have hzr1 : r1 < pvM σ 2 := lt_c hcσ2.symm 2 hzr1
  obtain ⟨r7, e8, h⟩ := ob1_e h
  refine pcalli (va_runV (As := []) (rest := []) ⟨hx, hb, hml, hown, hts⟩ (c_X2_linesOrNone (l := l) (G := G) (tys := tys) (σ := σ2) htys (lt_c hcσ2 2 hzr1) e8) (cwV 0 hts (gVA wm682 wm683 wm684 wm81 wm685) rfl rfl rfl (by decide +kernel) ⟨(Nat.le_of_ble_eq_true rfl), (Nat.le_of_ble_eq_true rfl)⟩) (pv_preV hA hS hw hK 2 r1 (lt_c hcσ2 2 hzr1) (by decide) rfl []) rfl rfl hl.1 rfl (lv_room (Nat.le_of_ble_eq_true rfl)) dX9_lines_9 ⟨Nat.zero_le _, Nat.zero_le _⟩) hS (fun r10 s11 H locs hp9 hw hS => ?_)
  obtain ⟨err7, esr7⟩ := hp9
  obtain rfl := esr7.symm
  obtain rfl := err7.symm
  exact pei hx hb hr hlocks hA hw hK hS (pst h hcσ2) dX9_lines_12
def f_X9_pageHeight (σ : PvS)  : Option (Int32 × PvS) :=
  ob2 (f_X9_laidOut σ 0 (σ.2.1 9 5 0)) (fun r1 σ2 => ob1 (f_X2_highWithEdges σ2 r1) (fun r7 => some (r7, σ2)))
set_option maxHeartbeats 4000000 in
set_option maxRecDepth 100000 in
theorem c_X9_pageHeight {l : Launch} {G : PvG} {tys : List (ClassId × FieldType)} {σ : PvS} (htys : tys = pvT G)    {r : Int32} {σ1 : PvS} (h : f_X9_pageHeight σ = some (r, σ1)) : Met l yX9_pageHeight (Cond.code yX9_pageHeight cX9_pageHeight 1 (some .int) :: WA) ({ frames := 72, cells := 0, slots := 0, locals := 1710 }) (va_Pc [.ref (G.2.2.1 9 0)] (pvU G tys σ)) (va_Qi (fun r' σ' => r' = r ∧ σ' = σ1 ∧ σ'.1 = σ.1) (pvU G tys) (pvB G)) 0 0 (pvB G) := by
  refine Met.ofW (cc := cX9_pageHeight) (maxL := 1) (ret := (some .int)) (by decide) rfl ?_
  intro p e s m args below meth c s₁ B hml hv
  obtain ⟨rfl, hw, hK, hA⟩ := hv
  have hx := B.exec
  have hb := B.bytes
  have hr := B.returns
  have hts0 := atoms_spec (ws := (Cond.code yX9_pageHeight cX9_pageHeight 1 (some .int) :: WA)) B.pre
  have hts : ∀ w ∈ WA, w.before _ s = true := fun w h => hts0 w (List.mem_cons_of_mem _ h)
  have hown : s.vm.findClass RX9 = some m.cls := findClass_of_methodNamed B.named
  have hlocks := B.notSynchronized
  have hS : va_S (pvB G) s.heap s.heap [] := va_S.rf
  have hl := lv_entry ([.ref (G.2.2.1 9 0)]) (n := 1) (Nat.le_of_ble_eq_true rfl)
  rw [lg_entry_eq]
  generalize (lg_sl ([.ref (G.2.2.1 9 0)]) ++ List.replicate (1 - (lg_sl ([.ref (G.2.2.1 9 0)])).length) Slot.unset).toArray = ls at hl ⊢
  have hl : lv_has ls 1 [(0, .ref (G.2.2.1 9 0))] := hl
  have hroot := pv_root hw
  unfold f_X9_pageHeight at h
  refine lv_aload_n hx hb dX9_pageHeight_0 rfl (lv_at hl 0 rfl) ?_
  refine lv_iconst (v := 0) hx hb dX9_pageHeight_1 (by decide) ?_
  refine lv_aload_n hx hb dX9_pageHeight_2 rfl (lv_at hl 0 rfl) ?_
  refine pgI (C := RX9) (T := TX9) (N := 6) hx hb hts hown hK hw 9 5 0 Nat.one_pos (by decide) rfl rfl inF_X9 (by decide) rfl (hts _ wm25) (fun _ h9 => h9) dX9_pageHeight_3 ?_
  obtain ⟨r1, σ2, e3, h⟩ := ob2_e h
  refine pcallq (va_runV (As := [.int 0, .int (σ.2.1 9 5 0)]) (rest := []) ⟨hx, hb, hml, hown, hts⟩ (c_X9_laidOut (l := l) (G := G) (tys := tys) (σ := σ) htys  e3) (cwV 2 hts (gVA wm411 wm412 wm413 wm2 wm414) rfl rfl rfl (by decide +kernel) ⟨(Nat.le_of_ble_eq_true rfl), (Nat.le_of_ble_eq_true rfl)⟩) (pv_preV hA hS hw hK 9 0 Nat.one_pos (by decide) rfl [.int 0, .int (σ.2.1 9 5 0)]) rfl rfl hl.1 rfl (lv_room (Nat.le_of_ble_eq_true rfl)) dX9_pageHeight_6 ⟨Nat.zero_le _, Nat.zero_le _⟩) hS (fun r5 s6 H locs hp4 hw hS => ?_)
  obtain ⟨err1, esσ2, hdσ2, hzr1⟩ := hp4
  obtain rfl := esσ2.symm
  have hcσ2 : σ2.1 = σ.1 := hdσ2
  subst err1
  have hzr1 : r1 < pvM σ 2 := lt_c hcσ2.symm 2 hzr1
  obtain ⟨r7, e8, h⟩ := ob1_e h
  refine pcalli (va_runV (As := []) (rest := []) ⟨hx, hb, hml, hown, hts⟩ (c_X2_highWithEdges (l := l) (G := G) (tys := tys) (σ := σ2) htys (lt_c hcσ2 2 hzr1) e8) (cwV 0 hts (gVA wm758 wm759 wm760 wm81 wm761) rfl rfl rfl (by decide +kernel) ⟨(Nat.le_of_ble_eq_true rfl), (Nat.le_of_ble_eq_true rfl)⟩) (pv_preV hA hS hw hK 2 r1 (lt_c hcσ2 2 hzr1) (by decide) rfl []) rfl rfl hl.1 rfl (lv_room (Nat.le_of_ble_eq_true rfl)) dX9_pageHeight_9 ⟨Nat.zero_le _, Nat.zero_le _⟩) hS (fun r10 s11 H locs hp9 hw hS => ?_)
  obtain ⟨err7, esr7⟩ := hp9
  obtain rfl := esr7.symm
  obtain rfl := err7.symm
  exact pei hx hb hr hlocks hA hw hK hS (pst h hcσ2) dX9_pageHeight_12
def f_X9_hit_15  : Nat → PvS → Int32 → Int32 → Int32 → Int32 → Option (Int32 × PvS)
  | 0, _, _, _, _, _ => none
  | n + 1, τ, xb1, xb2, xb3, xb4 => if (nI (τ.2.2.2.2 1).length) ≤ xb4 then (some (xb3, τ)) else (gd (vin xb4 (τ.2.2.2.2 1).length) (nm ((τ.2.2.2.2 1).getD xb4.toNatClampNeg 0) (fun y4 => ob1 (f_X4_isAt τ y4 xb1 xb2) (fun r5 => if r5 = 0 then (f_X9_hit_15 n τ xb1 xb2 xb3 (xb4 + 1)) else (ob1 (f_X4_isCutAt τ y4 xb1 xb2) (fun r11 => if r11 = 0 then (f_X9_hit_15 n τ xb1 xb2 (τ.2.1 3 0 y4) (xb4 + 1)) else (f_X9_hit_15 n τ xb1 xb2 xb3 (xb4 + 1))))))))
theorem f_X9_hit_15_z {τ : PvS} {xb1 : Int32} {xb2 : Int32} {xb3 : Int32} {xb4 : Int32} : f_X9_hit_15 0 τ xb1 xb2 xb3 xb4 = none := rfl
theorem f_X9_hit_15_s {n : Nat} {τ : PvS} {xb1 : Int32} {xb2 : Int32} {xb3 : Int32} {xb4 : Int32} : f_X9_hit_15 (n + 1) τ xb1 xb2 xb3 xb4 = if (nI (τ.2.2.2.2 1).length) ≤ xb4 then (some (xb3, τ)) else (gd (vin xb4 (τ.2.2.2.2 1).length) (nm ((τ.2.2.2.2 1).getD xb4.toNatClampNeg 0) (fun y4 => ob1 (f_X4_isAt τ y4 xb1 xb2) (fun r5 => if r5 = 0 then (f_X9_hit_15 n τ xb1 xb2 xb3 (xb4 + 1)) else (ob1 (f_X4_isCutAt τ y4 xb1 xb2) (fun r11 => if r11 = 0 then (f_X9_hit_15 n τ xb1 xb2 (τ.2.1 3 0 y4) (xb4 + 1)) else (f_X9_hit_15 n τ xb1 xb2 xb3 (xb4 + 1)))))))) := rfl
def f_X9_hit (σ : PvS) (x1 : Int32) (x2 : Int32) : Option (Int32 × PvS) :=
  ob2 (f_X9_laidOut σ 0 (σ.2.1 9 5 0)) (fun r17 σ18 => f_X9_hit_15 fu σ18 x1 x2 (-1) 0)
set_option maxHeartbeats 4000000 in
set_option maxRecDepth 100000 in
theorem c_X9_hit {l : Launch} {G : PvG} {tys : List (ClassId × FieldType)} {σ : PvS} (htys : tys = pvT G)  {x1 : Int32} {x2 : Int32}  {r : Int32} {σ1 : PvS} (h : f_X9_hit σ x1 x2 = some (r, σ1)) : Met l yX9_hit (Cond.code yX9_hit cX9_hit 6 (some .int) :: WA) ({ frames := 72, cells := 0, slots := 0, locals := 1710 }) (va_Pc [.ref (G.2.2.1 9 0), .int x1, .int x2] (pvU G tys σ)) (va_Qi (fun r' σ' => r' = r ∧ σ' = σ1 ∧ σ'.1 = σ.1) (pvU G tys) (pvB G)) 0 0 (pvB G) := by
  refine Met.ofW (cc := cX9_hit) (maxL := 6) (ret := (some .int)) (by decide) rfl ?_
  intro p e s m args below meth c s₁ B hml hv
  obtain ⟨rfl, hw, hK, hA⟩ := hv
  have hx := B.exec
  have hb := B.bytes
  have hr := B.returns
  have hts0 := atoms_spec (ws := (Cond.code yX9_hit cX9_hit 6 (some .int) :: WA)) B.pre
  have hts : ∀ w ∈ WA, w.before _ s = true := fun w h => hts0 w (List.mem_cons_of_mem _ h)
  have hown : s.vm.findClass RX9 = some m.cls := findClass_of_methodNamed B.named
  have hlocks := B.notSynchronized
  have hS : va_S (pvB G) s.heap s.heap [] := va_S.rf
  have hl := lv_entry ([.ref (G.2.2.1 9 0), .int x1, .int x2]) (n := 6) (Nat.le_of_ble_eq_true rfl)
  rw [lg_entry_eq]
  generalize (lg_sl ([.ref (G.2.2.1 9 0), .int x1, .int x2]) ++ List.replicate (6 - (lg_sl ([.ref (G.2.2.1 9 0), .int x1, .int x2])).length) Slot.unset).toArray = ls at hl ⊢
  have hl : lv_has ls 6 [(0, .ref (G.2.2.1 9 0)), (1, .int x1), (2, .int x2)] := hl
  have hroot := pv_root hw
  unfold f_X9_hit at h
  have loop15 : ∀ (n : Nat) (τ : PvS) (xb1 : Int32) (xb2 : Int32) (xb3 : Int32) (xb4 : Int32), (τ.1 = σ.1) → f_X9_hit_15 n τ xb1 xb2 xb3 xb4 = some (r, σ1) → ∀ (H : Heap) (locs : List Loc), pvW G τ H → va_S (pvB G) s.heap H locs → ∀ (ls : Array Slot), lv_has ls 6 [(0, .ref (G.2.2.1 9 0)), (1, .int xb1), (2, .int xb2), (3, .int xb3), (4, .int xb4)] → W p l e (headSpec (Cond.code yX9_hit cX9_hit 6 (some .int) :: WA) ({ frames := 72, cells := 0, slots := 0, locals := 1710 } : Room)).room s m ([.ref (G.2.2.1 9 0), .int x1, .int x2] : List Value).toArray below meth c H locs 0 0 (MQ below (va_Qi (fun r' σ' => r' = r ∧ σ' = σ1 ∧ σ'.1 = σ.1) (pvU G tys) (pvB G)) ([.ref (G.2.2.1 9 0), .int x1, .int x2] : List Value).toArray s 0 0 (pvB G)) (F0 m 15 ls []) := by
    intro n15
    induction n15 with
    | zero =>
      intro τ xb1 xb2 xb3 xb4 hcτ h
      rw [f_X9_hit_15_z] at h
      cases h
    | succ n15 ih15 =>
      intro τ xb1 xb2 xb3 xb4 hcτ h H locs hw hS ls hl
      rw [f_X9_hit_15_s] at h
      refine lv_iload hx hb dX9_hit_15 (lv_at hl 4 rfl) ?_
      refine lv_aload_n hx hb dX9_hit_17 rfl (lv_at hl 0 rfl) ?_
      refine pgL (C := RX9) (T := TX9) (N := 6) hx hb hts hown hK hw 9 0 0 Nat.one_pos (by decide) rfl rfl inF_X9 (by decide) (v := .ref (G.2.2.1 7 0)) rfl (hts _ wm10) (fun _ h9 => h9) dX9_hit_18 ?_
      refine pgL (C := RX7) (T := TX7) (N := 3) hx hb hts hown hK hw 7 1 0 Nat.one_pos (by decide) rfl rfl inF_X7 (by decide) (v := .ref (G.2.2.1 10 1)) rfl (hts _ wm420) (fun _ h9 => h9) dX9_hit_21 ?_
      refine pcalli (va_runV (As := []) (rest := [.int xb4]) ⟨hx, hb, hml, hown, hts⟩ (c_lsize (l := l) (G := G) (tys := tys) (σ := τ) (j := 1) (show 1 < τ.1 0 + 3 from Nat.lt_of_lt_of_le (by decide) (Nat.le_add_left 3 _))) (cwV 0 hts (gVA wm327 wm251 wm252 wm13 wm253) rfl rfl rfl (by decide +kernel) ⟨(Nat.le_of_ble_eq_true rfl), (Nat.le_of_ble_eq_true rfl)⟩) (pl_preV hA hS hw hK 1 (show 1 < τ.1 0 + 3 from Nat.lt_of_lt_of_le (by decide) (Nat.le_add_left 3 _)) []) rfl rfl hl.1 rfl (lv_room (Nat.le_of_ble_eq_true rfl)) dX9_hit_24 ⟨Nat.zero_le _, Nat.zero_le _⟩) hS (fun rz1 sz1 H locs hpz1 hw hS => ?_)
      obtain ⟨rfl, ez1⟩ := hpz1
      obtain rfl := ez1.symm
      refine lv_icmp_ge (tgt := 87) hx hb dX9_hit_27 (by decide) (fun c2 => ?_) (fun c2 => ?_)
      · skip
        replace h := ite_p c2 h
        refine lv_iload_n hx hb dX9_hit_87 rfl (lv_at hl 3 rfl) ?_
        exact pei hx hb hr hlocks hA hw hK hS (pst h hcτ) dX9_hit_88
      · skip
        replace h := ite_n c2 h
        refine lv_aload_n hx hb dX9_hit_30 rfl (lv_at hl 0 rfl) ?_
        refine pgL (C := RX9) (T := TX9) (N := 6) hx hb hts hown hK hw 9 0 0 Nat.one_pos (by decide) rfl rfl inF_X9 (by decide) (v := .ref (G.2.2.1 7 0)) rfl (hts _ wm10) (fun _ h9 => h9) dX9_hit_31 ?_
        refine pgL (C := RX7) (T := TX7) (N := 3) hx hb hts hown hK hw 7 1 0 Nat.one_pos (by decide) rfl rfl inF_X7 (by decide) (v := .ref (G.2.2.1 10 1)) rfl (hts _ wm420) (fun _ h9 => h9) dX9_hit_34 ?_
        refine lv_iload hx hb dX9_hit_37 (lv_at hl 4 rfl) ?_
        obtain ⟨g3, h⟩ := gd_e h
        obtain ⟨y4, ey4, h⟩ := nq_e h
        refine pcallg (κ := 3) rfl (va_runV (As := [.int xb4]) (rest := []) ⟨hx, hb, hml, hown, hts⟩ (c_lgetI (l := l) (G := G) (tys := tys) (σ := τ) htys (j := 1) (show 1 < τ.1 0 + 3 from Nat.lt_of_lt_of_le (by decide) (Nat.le_add_left 3 _)) g3 (pl_len2 hw 1 (show 1 < τ.1 0 + 3 from Nat.lt_of_lt_of_le (by decide) (Nat.le_add_left 3 _)))) (cwV 1 hts (gVA wm270 wm255 wm256 wm13 wm257) rfl rfl rfl (by decide +kernel) ⟨(Nat.le_of_ble_eq_true rfl), (Nat.le_of_ble_eq_true rfl)⟩) (pl_preV hA hS hw hK 1 (show 1 < τ.1 0 + 3 from Nat.lt_of_lt_of_le (by decide) (Nat.le_add_left 3 _)) [.int xb4]) rfl rfl hl.1 rfl (lv_room (Nat.le_of_ble_eq_true rfl)) dX9_hit_39 ⟨Nat.zero_le _, Nat.zero_le _⟩) hS (fun zy4 ezy4 H locs hw hS => ?_)
        obtain rfl : y4 = zy4 := ey4.trans ezy4.symm
        have hy4 : y4 < pvM τ 3 := by rw [ey4]; exact pl_lt hw 1 (show 1 < τ.1 0 + 3 from Nat.lt_of_lt_of_le (by decide) (Nat.le_add_left 3 _)) _ (Nat.not_le.mp fun q => g3 (Or.inr q)) rfl
        have hy4 : y4 < pvM σ 3 := lt_c hcτ.symm 3 hy4
        refine pcast hx hb hown hK hw 3 y4 (lt_c hcτ 3 hy4) (by decide) rfl (hts _ wm243) dX9_hit_42 ?_
        refine lv_astore (lv' := [(5, .ref (G.2.2.1 3 y4)), (0, .ref (G.2.2.1 9 0)), (1, .int xb1), (2, .int xb2), (3, .int xb3), (4, .int xb4)]) hx hb dX9_hit_45 hl (by decide) rfl (fun ls hl => ?_)
        refine lv_aload_n hx hb dX9_hit_47 rfl (lv_at hl 1 rfl) ?_
        refine pgL (C := RX9) (T := TX9) (N := 6) hx hb hts hown hK hw 9 2 0 Nat.one_pos (by decide) rfl rfl inF_X9 (by decide) (v := .ref (G.2.2.1 4 0)) rfl (hts _ wm18) (fun _ h9 => h9) dX9_hit_48 ?_
        refine lv_aload hx hb dX9_hit_51 (lv_at hl 0 rfl) ?_
        refine lv_iload_n hx hb dX9_hit_53 rfl (lv_at hl 2 rfl) ?_
        refine lv_iload_n hx hb dX9_hit_54 rfl (lv_at hl 3 rfl) ?_
        obtain ⟨r5, e6, h⟩ := ob1_e h
        refine pcalli (va_runV (As := [.ref (G.2.2.1 3 y4), .int xb1, .int xb2]) (rest := []) ⟨hx, hb, hml, hown, hts⟩ (c_X4_isAt (l := l) (G := G) (tys := tys) (σ := τ) htys (lt_c hcτ 3 hy4) e6) (cwV 3 hts (gVA wm829 wm830 wm831 wm17 wm832) rfl rfl rfl (by decide +kernel) ⟨(Nat.le_of_ble_eq_true rfl), (Nat.le_of_ble_eq_true rfl)⟩) (pv_preV hA hS hw hK 4 0 Nat.one_pos (by decide) rfl [.ref (G.2.2.1 3 y4), .int xb1, .int xb2]) rfl rfl hl.1 rfl (lv_room (Nat.le_of_ble_eq_true rfl)) dX9_hit_55 ⟨Nat.zero_le _, Nat.zero_le _⟩) hS (fun r8 s9 H locs hp7 hw hS => ?_)
        obtain ⟨err5, esr5, hzr5⟩ := hp7
        obtain rfl := esr5.symm
        obtain rfl := err5.symm
        refine lv_if_eq (tgt := 81) hx hb dX9_hit_58 (by decide) (fun c10 => ?_) (fun c10 => ?_)
        · skip
          replace h := ite_p c10 h
          refine lv_iinc (v := xb4 + 1) (lv' := [(4, .int (xb4 + 1)), (5, .ref (G.2.2.1 3 y4)), (0, .ref (G.2.2.1 9 0)), (1, .int xb1), (2, .int xb2), (3, .int xb3)]) hx hb dX9_hit_81 hl (k := 5) rfl (by rfl) (by decide) rfl (fun ls hl => ?_)
          refine lv_goto (tgt := 15) hx hb dX9_hit_84 (by decide) ?_
          exact ih15 τ xb1 xb2 xb3 (xb4 + 1) hcτ h _ _ hw hS ls (lv_sub hl [2, 3, 4, 5, 0] rfl)
        · skip
          replace h := ite_n c10 h
          refine lv_aload_n hx hb dX9_hit_61 rfl (lv_at hl 1 rfl) ?_
          refine pgL (C := RX9) (T := TX9) (N := 6) hx hb hts hown hK hw 9 2 0 Nat.one_pos (by decide) rfl rfl inF_X9 (by decide) (v := .ref (G.2.2.1 4 0)) rfl (hts _ wm18) (fun _ h9 => h9) dX9_hit_62 ?_
          refine lv_aload hx hb dX9_hit_65 (lv_at hl 0 rfl) ?_
          refine lv_iload_n hx hb dX9_hit_67 rfl (lv_at hl 2 rfl) ?_
          refine lv_iload_n hx hb dX9_hit_68 rfl (lv_at hl 3 rfl) ?_
          obtain ⟨r11, e12, h⟩ := ob1_e h
          refine pcalli (va_runV (As := [.ref (G.2.2.1 3 y4), .int xb1, .int xb2]) (rest := []) ⟨hx, hb, hml, hown, hts⟩ (c_X4_isCutAt (l := l) (G := G) (tys := tys) (σ := τ) htys (lt_c hcτ 3 hy4) e12) (cwV 3 hts (gVA wm842 wm714 wm715 wm17 wm716) rfl rfl rfl (by decide +kernel) ⟨(Nat.le_of_ble_eq_true rfl), (Nat.le_of_ble_eq_true rfl)⟩) (pv_preV hA hS hw hK 4 0 Nat.one_pos (by decide) rfl [.ref (G.2.2.1 3 y4), .int xb1, .int xb2]) rfl rfl hl.1 rfl (lv_room (Nat.le_of_ble_eq_true rfl)) dX9_hit_69 ⟨Nat.zero_le _, Nat.zero_le _⟩) hS (fun r14 s15 H locs hp13 hw hS => ?_)
          obtain ⟨err11, esr11, hzr11⟩ := hp13
          obtain rfl := esr11.symm
          obtain rfl := err11.symm
          refine lv_if_ne (tgt := 81) hx hb dX9_hit_72 (by decide) (fun c16 => ?_) (fun c16 => ?_)
          · skip
            replace h := ite_n c16 h
            refine lv_iinc (v := xb4 + 1) (lv' := [(4, .int (xb4 + 1)), (5, .ref (G.2.2.1 3 y4)), (0, .ref (G.2.2.1 9 0)), (1, .int xb1), (2, .int xb2), (3, .int xb3)]) hx hb dX9_hit_81 hl (k := 5) rfl (by rfl) (by decide) rfl (fun ls hl => ?_)
            refine lv_goto (tgt := 15) hx hb dX9_hit_84 (by decide) ?_
            exact ih15 τ xb1 xb2 xb3 (xb4 + 1) hcτ h _ _ hw hS ls (lv_sub hl [2, 3, 4, 5, 0] rfl)
          · skip
            replace h := ite_p c16 h
            refine lv_aload hx hb dX9_hit_75 (lv_at hl 0 rfl) ?_
            refine pgI (C := RX3) (T := TX3) (N := 14) hx hb hts hown hK hw 3 0 y4 (lt_c hcτ 3 hy4) (by decide) rfl rfl inF_X3 (by decide) rfl (hts _ wm696) (fun _ h9 => h9) dX9_hit_77 ?_
            refine lv_istore_n (lv' := [(3, .int (τ.2.1 3 0 y4)), (5, .ref (G.2.2.1 3 y4)), (0, .ref (G.2.2.1 9 0)), (1, .int xb1), (2, .int xb2), (4, .int xb4)]) hx hb dX9_hit_80 rfl hl (by decide) rfl (fun ls hl => ?_)
            refine lv_iinc (v := xb4 + 1) (lv' := [(4, .int (xb4 + 1)), (3, .int (τ.2.1 3 0 y4)), (5, .ref (G.2.2.1 3 y4)), (0, .ref (G.2.2.1 9 0)), (1, .int xb1), (2, .int xb2)]) hx hb dX9_hit_81 hl (k := 5) rfl (by rfl) (by decide) rfl (fun ls hl => ?_)
            refine lv_goto (tgt := 15) hx hb dX9_hit_84 (by decide) ?_
            exact ih15 τ xb1 xb2 (τ.2.1 3 0 y4) (xb4 + 1) hcτ h _ _ hw hS ls (lv_sub hl [3, 4, 5, 1, 0] rfl)
  refine lv_aload_n hx hb dX9_hit_0 rfl (lv_at hl 0 rfl) ?_
  refine lv_iconst (v := 0) hx hb dX9_hit_1 (by decide) ?_
  refine lv_aload_n hx hb dX9_hit_2 rfl (lv_at hl 0 rfl) ?_
  refine pgI (C := RX9) (T := TX9) (N := 6) hx hb hts hown hK hw 9 5 0 Nat.one_pos (by decide) rfl rfl inF_X9 (by decide) rfl (hts _ wm25) (fun _ h9 => h9) dX9_hit_3 ?_
  obtain ⟨r17, σ18, e19, h⟩ := ob2_e h
  refine pcallq (va_runV (As := [.int 0, .int (σ.2.1 9 5 0)]) (rest := []) ⟨hx, hb, hml, hown, hts⟩ (c_X9_laidOut (l := l) (G := G) (tys := tys) (σ := σ) htys  e19) (cwV 2 hts (gVA wm411 wm412 wm413 wm2 wm414) rfl rfl rfl (by decide +kernel) ⟨(Nat.le_of_ble_eq_true rfl), (Nat.le_of_ble_eq_true rfl)⟩) (pv_preV hA hS hw hK 9 0 Nat.one_pos (by decide) rfl [.int 0, .int (σ.2.1 9 5 0)]) rfl rfl hl.1 rfl (lv_room (Nat.le_of_ble_eq_true rfl)) dX9_hit_6 ⟨Nat.zero_le _, Nat.zero_le _⟩) hS (fun r21 s22 H locs hp20 hw hS => ?_)
  obtain ⟨err17, esσ18, hdσ18, hzr17⟩ := hp20
  obtain rfl := esσ18.symm
  have hcσ18 : σ18.1 = σ.1 := hdσ18
  subst err17
  have hzr17 : r17 < pvM σ 2 := lt_c hcσ18.symm 2 hzr17
  refine lv_pop hx hb dX9_hit_9 rfl ?_
  refine lv_iconst (v := (-1)) hx hb dX9_hit_10 (by decide) ?_
  refine lv_istore_n (lv' := [(3, .int (-1)), (0, .ref (G.2.2.1 9 0)), (1, .int x1), (2, .int x2)]) hx hb dX9_hit_11 rfl hl (by decide) rfl (fun ls hl => ?_)
  refine lv_iconst (v := 0) hx hb dX9_hit_12 (by decide) ?_
  refine lv_istore (lv' := [(4, .int 0), (3, .int (-1)), (0, .ref (G.2.2.1 9 0)), (1, .int x1), (2, .int x2)]) hx hb dX9_hit_13 hl (by decide) rfl (fun ls hl => ?_)
  exact loop15 fu σ18 x1 x2 (-1) 0 hcσ18 h _ _ hw hS ls (lv_sub hl [2, 3, 4, 1, 0] rfl)
def f_X9_seen (σ : PvS) (x1 : Int32) : Option (Int32 × PvS) :=
  ob1 (f_X9_nodeAt σ x1) (fun r1 => if (σ.2.1 3 1 r1) = 0 then (none) else (ob2 (f_X9_laidOut σ x1 (σ.2.1 9 5 0)) (fun r7 σ8 => ob1 (f_X4_wordsSeen σ8 r1) (fun r13 => some (r13, σ8)))))
set_option maxHeartbeats 4000000 in
set_option maxRecDepth 100000 in
theorem c_X9_seen {l : Launch} {G : PvG} {tys : List (ClassId × FieldType)} {σ : PvS} (htys : tys = pvT G)  {x1 : Int32}  {r : Int32} {σ1 : PvS} (h : f_X9_seen σ x1 = some (r, σ1)) : Met l yX9_seen (Cond.code yX9_seen cX9_seen 3 (some .int) :: WA) ({ frames := 72, cells := 0, slots := 0, locals := 1710 }) (va_Pc [.ref (G.2.2.1 9 0), .int x1] (pvU G tys σ)) (va_Qi (fun r' σ' => r' = r ∧ σ' = σ1 ∧ σ'.1 = σ.1) (pvU G tys) (pvB G)) 0 0 (pvB G) := by
  refine Met.ofW (cc := cX9_seen) (maxL := 3) (ret := (some .int)) (by decide) rfl ?_
  intro p e s m args below meth c s₁ B hml hv
  obtain ⟨rfl, hw, hK, hA⟩ := hv
  have hx := B.exec
  have hb := B.bytes
  have hr := B.returns
  have hts0 := atoms_spec (ws := (Cond.code yX9_seen cX9_seen 3 (some .int) :: WA)) B.pre
  have hts : ∀ w ∈ WA, w.before _ s = true := fun w h => hts0 w (List.mem_cons_of_mem _ h)
  have hown : s.vm.findClass RX9 = some m.cls := findClass_of_methodNamed B.named
  have hlocks := B.notSynchronized
  have hS : va_S (pvB G) s.heap s.heap [] := va_S.rf
  have hl := lv_entry ([.ref (G.2.2.1 9 0), .int x1]) (n := 3) (Nat.le_of_ble_eq_true rfl)
  rw [lg_entry_eq]
  generalize (lg_sl ([.ref (G.2.2.1 9 0), .int x1]) ++ List.replicate (3 - (lg_sl ([.ref (G.2.2.1 9 0), .int x1])).length) Slot.unset).toArray = ls at hl ⊢
  have hl : lv_has ls 3 [(0, .ref (G.2.2.1 9 0)), (1, .int x1)] := hl
  have hroot := pv_root hw
  unfold f_X9_seen at h
  refine lv_aload_n hx hb dX9_seen_0 rfl (lv_at hl 0 rfl) ?_
  refine lv_iload_n hx hb dX9_seen_1 rfl (lv_at hl 1 rfl) ?_
  obtain ⟨r1, e2, h⟩ := ob1_e h
  refine pcallq (va_runV (As := [.int x1]) (rest := []) ⟨hx, hb, hml, hown, hts⟩ (c_X9_nodeAt (l := l) (G := G) (tys := tys) (σ := σ) htys  e2) (cwV 1 hts (gVA wm236 wm237 wm238 wm2 wm239) rfl rfl rfl (by decide +kernel) ⟨(Nat.le_of_ble_eq_true rfl), (Nat.le_of_ble_eq_true rfl)⟩) (pv_preV hA hS hw hK 9 0 Nat.one_pos (by decide) rfl [.int x1]) rfl rfl hl.1 rfl (lv_room (Nat.le_of_ble_eq_true rfl)) dX9_seen_2 ⟨Nat.zero_le _, Nat.zero_le _⟩) hS (fun r4 s5 H locs hp3 hw hS => ?_)
  obtain ⟨err1, esr1, hzr1⟩ := hp3
  obtain rfl := esr1.symm
  subst err1
  refine lv_astore_n (lv' := [(2, .ref (G.2.2.1 3 r1)), (0, .ref (G.2.2.1 9 0)), (1, .int x1)]) hx hb dX9_seen_5 rfl hl (by decide) rfl (fun ls hl => ?_)
  refine lv_aload_n hx hb dX9_seen_6 rfl (lv_at hl 0 rfl) ?_
  refine pgI (C := RX3) (T := TX3) (N := 14) hx hb hts hown hK hw 3 1 r1 hzr1 (by decide) rfl rfl inF_X3 (by decide) rfl (hts _ wm235) (fun _ h9 => h9) dX9_seen_7 ?_
  refine lv_if_ne (tgt := 24) hx hb dX9_seen_10 (by decide) (fun c6 => ?_) (fun c6 => ?_)
  · skip
    replace h := ite_n c6 h
    refine lv_aload_n hx hb dX9_seen_24 rfl (lv_at hl 1 rfl) ?_
    refine lv_iload_n hx hb dX9_seen_25 rfl (lv_at hl 2 rfl) ?_
    refine lv_aload_n hx hb dX9_seen_26 rfl (lv_at hl 1 rfl) ?_
    refine pgI (C := RX9) (T := TX9) (N := 6) hx hb hts hown hK hw 9 5 0 Nat.one_pos (by decide) rfl rfl inF_X9 (by decide) rfl (hts _ wm25) (fun _ h9 => h9) dX9_seen_27 ?_
    obtain ⟨r7, σ8, e9, h⟩ := ob2_e h
    refine pcallq (va_runV (As := [.int x1, .int (σ.2.1 9 5 0)]) (rest := []) ⟨hx, hb, hml, hown, hts⟩ (c_X9_laidOut (l := l) (G := G) (tys := tys) (σ := σ) htys  e9) (cwV 2 hts (gVA wm411 wm412 wm413 wm2 wm414) rfl rfl rfl (by decide +kernel) ⟨(Nat.le_of_ble_eq_true rfl), (Nat.le_of_ble_eq_true rfl)⟩) (pv_preV hA hS hw hK 9 0 Nat.one_pos (by decide) rfl [.int x1, .int (σ.2.1 9 5 0)]) rfl rfl hl.1 rfl (lv_room (Nat.le_of_ble_eq_true rfl)) dX9_seen_30 ⟨Nat.zero_le _, Nat.zero_le _⟩) hS (fun r11 s12 H locs hp10 hw hS => ?_)
    obtain ⟨err7, esσ8, hdσ8, hzr7⟩ := hp10
    obtain rfl := esσ8.symm
    have hcσ8 : σ8.1 = σ.1 := hdσ8
    subst err7
    have hzr7 : r7 < pvM σ 2 := lt_c hcσ8.symm 2 hzr7
    refine lv_pop hx hb dX9_seen_33 rfl ?_
    refine lv_aload_n hx hb dX9_seen_34 rfl (lv_at hl 1 rfl) ?_
    refine pgL (C := RX9) (T := TX9) (N := 6) hx hb hts hown hK hw 9 2 0 Nat.one_pos (by decide) rfl rfl inF_X9 (by decide) (v := .ref (G.2.2.1 4 0)) rfl (hts _ wm18) (fun _ h9 => h9) dX9_seen_35 ?_
    refine lv_aload_n hx hb dX9_seen_38 rfl (lv_at hl 0 rfl) ?_
    obtain ⟨r13, e14, h⟩ := ob1_e h
    refine pcalli (va_runV (As := [.ref (G.2.2.1 3 r1)]) (rest := []) ⟨hx, hb, hml, hown, hts⟩ (c_X4_wordsSeen (l := l) (G := G) (tys := tys) (σ := σ8) htys (lt_c hcσ8 3 hzr1) e14) (cwV 1 hts (gVA wm701 wm702 wm703 wm17 wm704) rfl rfl rfl (by decide +kernel) ⟨(Nat.le_of_ble_eq_true rfl), (Nat.le_of_ble_eq_true rfl)⟩) (pv_preV hA hS hw hK 4 0 Nat.one_pos (by decide) rfl [.ref (G.2.2.1 3 r1)]) rfl rfl hl.1 rfl (lv_room (Nat.le_of_ble_eq_true rfl)) dX9_seen_39 ⟨Nat.zero_le _, Nat.zero_le _⟩) hS (fun r16 s17 H locs hp15 hw hS => ?_)
    obtain ⟨err13, esr13⟩ := hp15
    obtain rfl := esr13.symm
    obtain rfl := err13.symm
    exact pei hx hb hr hlocks hA hw hK hS (pst h hcσ8) dX9_seen_42
  · skip
    replace h := ite_p c6 h
    cases h
def f_X9_meanLine (σ : PvS)  : Option (UInt64 × PvS) :=
  ob2 (f_X9_laidOut σ 0 (σ.2.1 9 5 0)) (fun r1 σ2 => if (σ2.2.1 4 4 0) = 0 then (some (FP.dconst0, σ2)) else (gd ((FP.ddiv (FP.i2d (σ2.2.1 4 5 0)) (FP.i2d (σ2.2.1 4 4 0))) &&& 0x7fffffffffffffff ≤ 0x7ff0000000000000) (some (FP.ddiv (FP.i2d (σ2.2.1 4 5 0)) (FP.i2d (σ2.2.1 4 4 0)), σ2))))
set_option maxHeartbeats 4000000 in
set_option maxRecDepth 100000 in
theorem c_X9_meanLine {l : Launch} {G : PvG} {tys : List (ClassId × FieldType)} {σ : PvS} (htys : tys = pvT G)    {r : UInt64} {σ1 : PvS} (h : f_X9_meanLine σ = some (r, σ1)) : Met l yX9_meanLine (Cond.code yX9_meanLine cX9_meanLine 1 (some .double) :: WA) ({ frames := 72, cells := 0, slots := 0, locals := 1710 }) (va_Pc [.ref (G.2.2.1 9 0)] (pvU G tys σ)) (va_Qd (fun r' σ' => r' = r ∧ σ' = σ1 ∧ σ'.1 = σ.1) (pvU G tys) (pvB G)) 0 0 (pvB G) := by
  refine Met.ofW (cc := cX9_meanLine) (maxL := 1) (ret := (some .double)) (by decide) rfl ?_
  intro p e s m args below meth c s₁ B hml hv
  obtain ⟨rfl, hw, hK, hA⟩ := hv
  have hx := B.exec
  have hb := B.bytes
  have hr := B.returns
  have hts0 := atoms_spec (ws := (Cond.code yX9_meanLine cX9_meanLine 1 (some .double) :: WA)) B.pre
  have hts : ∀ w ∈ WA, w.before _ s = true := fun w h => hts0 w (List.mem_cons_of_mem _ h)
  have hown : s.vm.findClass RX9 = some m.cls := findClass_of_methodNamed B.named
  have hlocks := B.notSynchronized
  have hS : va_S (pvB G) s.heap s.heap [] := va_S.rf
  have hl := lv_entry ([.ref (G.2.2.1 9 0)]) (n := 1) (Nat.le_of_ble_eq_true rfl)
  rw [lg_entry_eq]
  generalize (lg_sl ([.ref (G.2.2.1 9 0)]) ++ List.replicate (1 - (lg_sl ([.ref (G.2.2.1 9 0)])).length) Slot.unset).toArray = ls at hl ⊢
  have hl : lv_has ls 1 [(0, .ref (G.2.2.1 9 0))] := hl
  have hroot := pv_root hw
  unfold f_X9_meanLine at h
  refine lv_aload_n hx hb dX9_meanLine_0 rfl (lv_at hl 0 rfl) ?_
  refine lv_iconst (v := 0) hx hb dX9_meanLine_1 (by decide) ?_
  refine lv_aload_n hx hb dX9_meanLine_2 rfl (lv_at hl 0 rfl) ?_
  refine pgI (C := RX9) (T := TX9) (N := 6) hx hb hts hown hK hw 9 5 0 Nat.one_pos (by decide) rfl rfl inF_X9 (by decide) rfl (hts _ wm25) (fun _ h9 => h9) dX9_meanLine_3 ?_
  obtain ⟨r1, σ2, e3, h⟩ := ob2_e h
  refine pcallq (va_runV (As := [.int 0, .int (σ.2.1 9 5 0)]) (rest := []) ⟨hx, hb, hml, hown, hts⟩ (c_X9_laidOut (l := l) (G := G) (tys := tys) (σ := σ) htys  e3) (cwV 2 hts (gVA wm411 wm412 wm413 wm2 wm414) rfl rfl rfl (by decide +kernel) ⟨(Nat.le_of_ble_eq_true rfl), (Nat.le_of_ble_eq_true rfl)⟩) (pv_preV hA hS hw hK 9 0 Nat.one_pos (by decide) rfl [.int 0, .int (σ.2.1 9 5 0)]) rfl rfl hl.1 rfl (lv_room (Nat.le_of_ble_eq_true rfl)) dX9_meanLine_6 ⟨Nat.zero_le _, Nat.zero_le _⟩) hS (fun r5 s6 H locs hp4 hw hS => ?_)
  obtain ⟨err1, esσ2, hdσ2, hzr1⟩ := hp4
  obtain rfl := esσ2.symm
  have hcσ2 : σ2.1 = σ.1 := hdσ2
  subst err1
  have hzr1 : r1 < pvM σ 2 := lt_c hcσ2.symm 2 hzr1
  refine lv_pop hx hb dX9_meanLine_9 rfl ?_
  refine lv_aload_n hx hb dX9_meanLine_10 rfl (lv_at hl 0 rfl) ?_
  refine pgL (C := RX9) (T := TX9) (N := 6) hx hb hts hown hK hw 9 2 0 Nat.one_pos (by decide) rfl rfl inF_X9 (by decide) (v := .ref (G.2.2.1 4 0)) rfl (hts _ wm18) (fun _ h9 => h9) dX9_meanLine_11 ?_
  refine pgI (C := RX4) (T := TX4) (N := 6) hx hb hts hown hK hw 4 4 0 Nat.one_pos (by decide) rfl rfl inF_X4 (by decide) rfl (hts _ wm766) (fun _ h9 => h9) dX9_meanLine_14 ?_
  refine lv_if_ne (tgt := 24) hx hb dX9_meanLine_17 (by decide) (fun c7 => ?_) (fun c7 => ?_)
  · skip
    replace h := ite_n c7 h
    refine lv_aload_n hx hb dX9_meanLine_24 rfl (lv_at hl 0 rfl) ?_
    refine pgL (C := RX9) (T := TX9) (N := 6) hx hb hts hown hK hw 9 2 0 Nat.one_pos (by decide) rfl rfl inF_X9 (by decide) (v := .ref (G.2.2.1 4 0)) rfl (hts _ wm18) (fun _ h9 => h9) dX9_meanLine_25 ?_
    refine pgI (C := RX4) (T := TX4) (N := 6) hx hb hts hown hK hw 4 5 0 Nat.one_pos (by decide) rfl rfl inF_X4 (by decide) rfl (hts _ wm767) (fun _ h9 => h9) dX9_meanLine_28 ?_
    refine lv_i2d hx hb dX9_meanLine_31 ?_
    refine lv_aload_n hx hb dX9_meanLine_32 rfl (lv_at hl 0 rfl) ?_
    refine pgL (C := RX9) (T := TX9) (N := 6) hx hb hts hown hK hw 9 2 0 Nat.one_pos (by decide) rfl rfl inF_X9 (by decide) (v := .ref (G.2.2.1 4 0)) rfl (hts _ wm18) (fun _ h9 => h9) dX9_meanLine_33 ?_
    refine pgI (C := RX4) (T := TX4) (N := 6) hx hb hts hown hK hw 4 4 0 Nat.one_pos (by decide) rfl rfl inF_X4 (by decide) rfl (hts _ wm766) (fun _ h9 => h9) dX9_meanLine_36 ?_
    refine lv_i2d hx hb dX9_meanLine_39 ?_
    obtain ⟨g8, h⟩ := gd_e h
    refine lv_ddiv hx hb dX9_meanLine_40 g8 ?_
    exact ped hx hb hr hlocks hA hw hK hS (pst h hcσ2) dX9_meanLine_41
  · skip
    replace h := ite_p c7 h
    refine lv_dconst0 hx hb dX9_meanLine_20 ?_
    refine lv_goto (tgt := 41) hx hb dX9_meanLine_21 (by decide) ?_
    exact ped hx hb hr hlocks hA hw hK hS (pst h hcσ2) dX9_meanLine_41
def f_X9_heightIn (σ : PvS) (x1 : Int32) : Option (Int32 × PvS) :=
  ob1 (f_X9_isViewWidth σ x1) (fun r1 => if r1 = 0 then (none) else (ob2 (f_X9_laidOut σ 0 x1) (fun r7 σ8 => ob1 (f_X2_highWithEdges σ8 r7) (fun r13 => some (r13, σ8)))))
set_option maxHeartbeats 4000000 in
set_option maxRecDepth 100000 in
theorem c_X9_heightIn {l : Launch} {G : PvG} {tys : List (ClassId × FieldType)} {σ : PvS} (htys : tys = pvT G)  {x1 : Int32}  {r : Int32} {σ1 : PvS} (h : f_X9_heightIn σ x1 = some (r, σ1)) : Met l yX9_heightIn (Cond.code yX9_heightIn cX9_heightIn 2 (some .int) :: WA) ({ frames := 72, cells := 0, slots := 0, locals := 1710 }) (va_Pc [.ref (G.2.2.1 9 0), .int x1] (pvU G tys σ)) (va_Qi (fun r' σ' => r' = r ∧ σ' = σ1 ∧ σ'.1 = σ.1) (pvU G tys) (pvB G)) 0 0 (pvB G) := by
  refine Met.ofW (cc := cX9_heightIn) (maxL := 2) (ret := (some .int)) (by decide) rfl ?_
  intro p e s m args below meth c s₁ B hml hv
  obtain ⟨rfl, hw, hK, hA⟩ := hv
  have hx := B.exec
  have hb := B.bytes
  have hr := B.returns
  have hts0 := atoms_spec (ws := (Cond.code yX9_heightIn cX9_heightIn 2 (some .int) :: WA)) B.pre
  have hts : ∀ w ∈ WA, w.before _ s = true := fun w h => hts0 w (List.mem_cons_of_mem _ h)
  have hown : s.vm.findClass RX9 = some m.cls := findClass_of_methodNamed B.named
  have hlocks := B.notSynchronized
  have hS : va_S (pvB G) s.heap s.heap [] := va_S.rf
  have hl := lv_entry ([.ref (G.2.2.1 9 0), .int x1]) (n := 2) (Nat.le_of_ble_eq_true rfl)
  rw [lg_entry_eq]
  generalize (lg_sl ([.ref (G.2.2.1 9 0), .int x1]) ++ List.replicate (2 - (lg_sl ([.ref (G.2.2.1 9 0), .int x1])).length) Slot.unset).toArray = ls at hl ⊢
  have hl : lv_has ls 2 [(0, .ref (G.2.2.1 9 0)), (1, .int x1)] := hl
  have hroot := pv_root hw
  unfold f_X9_heightIn at h
  refine lv_iload_n hx hb dX9_heightIn_0 rfl (lv_at hl 1 rfl) ?_
  obtain ⟨r1, e2, h⟩ := ob1_e h
  refine pcalli (va_runS (As := [.int x1]) (rest := []) ⟨hx, hb, hml, hown, hts⟩ (c_X9_isViewWidth (l := l) (G := G) (tys := tys) (σ := σ) htys  e2) (va_cwS 1 hts (gSA wm814 wm815 wm2 wm816) rfl rfl rfl (by decide +kernel) ⟨(Nat.le_of_ble_eq_true rfl), (Nat.le_of_ble_eq_true rfl)⟩) (pv_preS hA hS hw hK [.int x1]) rfl rfl hl.1 rfl (lv_room (Nat.le_of_ble_eq_true rfl)) dX9_heightIn_1 ⟨Nat.zero_le _, Nat.zero_le _⟩) hS (fun r4 s5 H locs hp3 hw hS => ?_)
  obtain ⟨err1, esr1, hzr1⟩ := hp3
  obtain rfl := esr1.symm
  obtain rfl := err1.symm
  refine lv_if_ne (tgt := 17) hx hb dX9_heightIn_4 (by decide) (fun c6 => ?_) (fun c6 => ?_)
  · skip
    replace h := ite_n c6 h
    refine lv_aload_n hx hb dX9_heightIn_17 rfl (lv_at hl 0 rfl) ?_
    refine lv_iconst (v := 0) hx hb dX9_heightIn_18 (by decide) ?_
    refine lv_iload_n hx hb dX9_heightIn_19 rfl (lv_at hl 1 rfl) ?_
    obtain ⟨r7, σ8, e9, h⟩ := ob2_e h
    refine pcallq (va_runV (As := [.int 0, .int x1]) (rest := []) ⟨hx, hb, hml, hown, hts⟩ (c_X9_laidOut (l := l) (G := G) (tys := tys) (σ := σ) htys  e9) (cwV 2 hts (gVA wm411 wm412 wm413 wm2 wm414) rfl rfl rfl (by decide +kernel) ⟨(Nat.le_of_ble_eq_true rfl), (Nat.le_of_ble_eq_true rfl)⟩) (pv_preV hA hS hw hK 9 0 Nat.one_pos (by decide) rfl [.int 0, .int x1]) rfl rfl hl.1 rfl (lv_room (Nat.le_of_ble_eq_true rfl)) dX9_heightIn_20 ⟨Nat.zero_le _, Nat.zero_le _⟩) hS (fun r11 s12 H locs hp10 hw hS => ?_)
    obtain ⟨err7, esσ8, hdσ8, hzr7⟩ := hp10
    obtain rfl := esσ8.symm
    have hcσ8 : σ8.1 = σ.1 := hdσ8
    subst err7
    have hzr7 : r7 < pvM σ 2 := lt_c hcσ8.symm 2 hzr7
    obtain ⟨r13, e14, h⟩ := ob1_e h
    refine pcalli (va_runV (As := []) (rest := []) ⟨hx, hb, hml, hown, hts⟩ (c_X2_highWithEdges (l := l) (G := G) (tys := tys) (σ := σ8) htys (lt_c hcσ8 2 hzr7) e14) (cwV 0 hts (gVA wm758 wm759 wm760 wm81 wm761) rfl rfl rfl (by decide +kernel) ⟨(Nat.le_of_ble_eq_true rfl), (Nat.le_of_ble_eq_true rfl)⟩) (pv_preV hA hS hw hK 2 r7 (lt_c hcσ8 2 hzr7) (by decide) rfl []) rfl rfl hl.1 rfl (lv_room (Nat.le_of_ble_eq_true rfl)) dX9_heightIn_23 ⟨Nat.zero_le _, Nat.zero_le _⟩) hS (fun r16 s17 H locs hp15 hw hS => ?_)
    obtain ⟨err13, esr13⟩ := hp15
    obtain rfl := esr13.symm
    obtain rfl := err13.symm
    exact pei hx hb hr hlocks hA hw hK hS (pst h hcσ8) dX9_heightIn_26
  · skip
    replace h := ite_p c6 h
    cases h
def f_X9_changedBy_33  : Nat → PvS → Int32 → Int32 → Option (Int32 × PvS)
  | 0, _, _, _ => none
  | n + 1, τ, xb2, xb3 => if (nI (τ.2.2.2.2 1).length) ≤ xb3 then (some (xb2, τ)) else (gd (vin xb3 (τ.2.2.2.2 1).length) (nm ((τ.2.2.2.2 1).getD xb3.toNatClampNeg 0) (fun y4 => ob1 (f_X6_differFor τ 0 y4 1) (fun r5 => if r5 = 0 then (f_X9_changedBy_33 n τ xb2 (xb3 + 1)) else (f_X9_changedBy_33 n τ (xb2 + 1) (xb3 + 1))))))
theorem f_X9_changedBy_33_z {τ : PvS} {xb2 : Int32} {xb3 : Int32} : f_X9_changedBy_33 0 τ xb2 xb3 = none := rfl
theorem f_X9_changedBy_33_s {n : Nat} {τ : PvS} {xb2 : Int32} {xb3 : Int32} : f_X9_changedBy_33 (n + 1) τ xb2 xb3 = if (nI (τ.2.2.2.2 1).length) ≤ xb3 then (some (xb2, τ)) else (gd (vin xb3 (τ.2.2.2.2 1).length) (nm ((τ.2.2.2.2 1).getD xb3.toNatClampNeg 0) (fun y4 => ob1 (f_X6_differFor τ 0 y4 1) (fun r5 => if r5 = 0 then (f_X9_changedBy_33 n τ xb2 (xb3 + 1)) else (f_X9_changedBy_33 n τ (xb2 + 1) (xb3 + 1)))))) := rfl
def f_X9_changedBy (σ : PvS) (x1 : Int32) : Option (Int32 × PvS) :=
  ob1 (f_X9_ruleAt σ x1) (fun r11 => ob1 (f_X9_freshenStyles σ) (fun σ17 => ob1 (f_X6_workOut σ17 1 x1) (fun σ23 => f_X9_changedBy_33 fu σ23 0 0)))
set_option maxHeartbeats 4000000 in
set_option maxRecDepth 100000 in
theorem c_X9_changedBy {l : Launch} {G : PvG} {tys : List (ClassId × FieldType)} {σ : PvS} (htys : tys = pvT G)  {x1 : Int32}  {r : Int32} {σ1 : PvS} (h : f_X9_changedBy σ x1 = some (r, σ1)) : Met l yX9_changedBy (Cond.code yX9_changedBy cX9_changedBy 4 (some .int) :: WA) ({ frames := 10, cells := 0, slots := 0, locals := 234 }) (va_Pc [.ref (G.2.2.1 9 0), .int x1] (pvU G tys σ)) (va_Qi (fun r' σ' => r' = r ∧ σ' = σ1 ∧ σ'.1 = σ.1) (pvU G tys) (pvB G)) 0 0 (pvB G) := by
  refine Met.ofW (cc := cX9_changedBy) (maxL := 4) (ret := (some .int)) (by decide) rfl ?_
  intro p e s m args below meth c s₁ B hml hv
  obtain ⟨rfl, hw, hK, hA⟩ := hv
  have hx := B.exec
  have hb := B.bytes
  have hr := B.returns
  have hts0 := atoms_spec (ws := (Cond.code yX9_changedBy cX9_changedBy 4 (some .int) :: WA)) B.pre
  have hts : ∀ w ∈ WA, w.before _ s = true := fun w h => hts0 w (List.mem_cons_of_mem _ h)
  have hown : s.vm.findClass RX9 = some m.cls := findClass_of_methodNamed B.named
  have hlocks := B.notSynchronized
  have hS : va_S (pvB G) s.heap s.heap [] := va_S.rf
  have hl := lv_entry ([.ref (G.2.2.1 9 0), .int x1]) (n := 4) (Nat.le_of_ble_eq_true rfl)
  rw [lg_entry_eq]
  generalize (lg_sl ([.ref (G.2.2.1 9 0), .int x1]) ++ List.replicate (4 - (lg_sl ([.ref (G.2.2.1 9 0), .int x1])).length) Slot.unset).toArray = ls at hl ⊢
  have hl : lv_has ls 4 [(0, .ref (G.2.2.1 9 0)), (1, .int x1)] := hl
  have hroot := pv_root hw
  unfold f_X9_changedBy at h
  have loop33 : ∀ (n : Nat) (τ : PvS) (xb2 : Int32) (xb3 : Int32), (τ.1 = σ.1) → f_X9_changedBy_33 n τ xb2 xb3 = some (r, σ1) → ∀ (H : Heap) (locs : List Loc), pvW G τ H → va_S (pvB G) s.heap H locs → ∀ (ls : Array Slot), lv_has ls 4 [(0, .ref (G.2.2.1 9 0)), (2, .int xb2), (3, .int xb3)] → W p l e (headSpec (Cond.code yX9_changedBy cX9_changedBy 4 (some .int) :: WA) ({ frames := 10, cells := 0, slots := 0, locals := 234 } : Room)).room s m ([.ref (G.2.2.1 9 0), .int x1] : List Value).toArray below meth c H locs 0 0 (MQ below (va_Qi (fun r' σ' => r' = r ∧ σ' = σ1 ∧ σ'.1 = σ.1) (pvU G tys) (pvB G)) ([.ref (G.2.2.1 9 0), .int x1] : List Value).toArray s 0 0 (pvB G)) (F0 m 33 ls []) := by
    intro n33
    induction n33 with
    | zero =>
      intro τ xb2 xb3 hcτ h
      rw [f_X9_changedBy_33_z] at h
      cases h
    | succ n33 ih33 =>
      intro τ xb2 xb3 hcτ h H locs hw hS ls hl
      rw [f_X9_changedBy_33_s] at h
      refine lv_iload_n hx hb dX9_changedBy_33 rfl (lv_at hl 2 rfl) ?_
      refine lv_aload_n hx hb dX9_changedBy_34 rfl (lv_at hl 0 rfl) ?_
      refine pgL (C := RX9) (T := TX9) (N := 6) hx hb hts hown hK hw 9 0 0 Nat.one_pos (by decide) rfl rfl inF_X9 (by decide) (v := .ref (G.2.2.1 7 0)) rfl (hts _ wm10) (fun _ h9 => h9) dX9_changedBy_35 ?_
      refine pgL (C := RX7) (T := TX7) (N := 3) hx hb hts hown hK hw 7 1 0 Nat.one_pos (by decide) rfl rfl inF_X7 (by decide) (v := .ref (G.2.2.1 10 1)) rfl (hts _ wm420) (fun _ h9 => h9) dX9_changedBy_38 ?_
      refine pcalli (va_runV (As := []) (rest := [.int xb3]) ⟨hx, hb, hml, hown, hts⟩ (c_lsize (l := l) (G := G) (tys := tys) (σ := τ) (j := 1) (show 1 < τ.1 0 + 3 from Nat.lt_of_lt_of_le (by decide) (Nat.le_add_left 3 _))) (cwV 0 hts (gVA wm327 wm251 wm252 wm13 wm253) rfl rfl rfl (by decide +kernel) ⟨(Nat.le_of_ble_eq_true rfl), (Nat.le_of_ble_eq_true rfl)⟩) (pl_preV hA hS hw hK 1 (show 1 < τ.1 0 + 3 from Nat.lt_of_lt_of_le (by decide) (Nat.le_add_left 3 _)) []) rfl rfl hl.1 rfl (lv_room (Nat.le_of_ble_eq_true rfl)) dX9_changedBy_41 ⟨Nat.zero_le _, Nat.zero_le _⟩) hS (fun rz1 sz1 H locs hpz1 hw hS => ?_)
      obtain ⟨rfl, ez1⟩ := hpz1
      obtain rfl := ez1.symm
      refine lv_icmp_ge (tgt := 84) hx hb dX9_changedBy_44 (by decide) (fun c2 => ?_) (fun c2 => ?_)
      · skip
        replace h := ite_p c2 h
        refine lv_iload_n hx hb dX9_changedBy_84 rfl (lv_at hl 1 rfl) ?_
        exact pei hx hb hr hlocks hA hw hK hS (pst h hcτ) dX9_changedBy_85
      · skip
        replace h := ite_n c2 h
        refine lv_aload_n hx hb dX9_changedBy_47 rfl (lv_at hl 0 rfl) ?_
        refine pgL (C := RX9) (T := TX9) (N := 6) hx hb hts hown hK hw 9 3 0 Nat.one_pos (by decide) rfl rfl inF_X9 (by decide) (v := .ref (G.2.2.1 6 0)) rfl (hts _ wm20) (fun _ h9 => h9) dX9_changedBy_48 ?_
        refine lv_aload_n hx hb dX9_changedBy_51 rfl (lv_at hl 0 rfl) ?_
        refine pgL (C := RX9) (T := TX9) (N := 6) hx hb hts hown hK hw 9 0 0 Nat.one_pos (by decide) rfl rfl inF_X9 (by decide) (v := .ref (G.2.2.1 7 0)) rfl (hts _ wm10) (fun _ h9 => h9) dX9_changedBy_52 ?_
        refine pgL (C := RX7) (T := TX7) (N := 3) hx hb hts hown hK hw 7 1 0 Nat.one_pos (by decide) rfl rfl inF_X7 (by decide) (v := .ref (G.2.2.1 10 1)) rfl (hts _ wm420) (fun _ h9 => h9) dX9_changedBy_55 ?_
        refine lv_iload_n hx hb dX9_changedBy_58 rfl (lv_at hl 2 rfl) ?_
        obtain ⟨g3, h⟩ := gd_e h
        obtain ⟨y4, ey4, h⟩ := nq_e h
        refine pcallg (κ := 3) rfl (va_runV (As := [.int xb3]) (rest := [.ref (G.2.2.1 6 0)]) ⟨hx, hb, hml, hown, hts⟩ (c_lgetI (l := l) (G := G) (tys := tys) (σ := τ) htys (j := 1) (show 1 < τ.1 0 + 3 from Nat.lt_of_lt_of_le (by decide) (Nat.le_add_left 3 _)) g3 (pl_len2 hw 1 (show 1 < τ.1 0 + 3 from Nat.lt_of_lt_of_le (by decide) (Nat.le_add_left 3 _)))) (cwV 1 hts (gVA wm270 wm255 wm256 wm13 wm257) rfl rfl rfl (by decide +kernel) ⟨(Nat.le_of_ble_eq_true rfl), (Nat.le_of_ble_eq_true rfl)⟩) (pl_preV hA hS hw hK 1 (show 1 < τ.1 0 + 3 from Nat.lt_of_lt_of_le (by decide) (Nat.le_add_left 3 _)) [.int xb3]) rfl rfl hl.1 rfl (lv_room (Nat.le_of_ble_eq_true rfl)) dX9_changedBy_59 ⟨Nat.zero_le _, Nat.zero_le _⟩) hS (fun zy4 ezy4 H locs hw hS => ?_)
        obtain rfl : y4 = zy4 := ey4.trans ezy4.symm
        have hy4 : y4 < pvM τ 3 := by rw [ey4]; exact pl_lt hw 1 (show 1 < τ.1 0 + 3 from Nat.lt_of_lt_of_le (by decide) (Nat.le_add_left 3 _)) _ (Nat.not_le.mp fun q => g3 (Or.inr q)) rfl
        have hy4 : y4 < pvM σ 3 := lt_c hcτ.symm 3 hy4
        refine pcast hx hb hown hK hw 3 y4 (lt_c hcτ 3 hy4) (by decide) rfl (hts _ wm243) dX9_changedBy_62 ?_
        refine lv_aload_n hx hb dX9_changedBy_65 rfl (lv_at hl 0 rfl) ?_
        refine pgL (C := RX9) (T := TX9) (N := 6) hx hb hts hown hK hw 9 4 0 Nat.one_pos (by decide) rfl rfl inF_X9 (by decide) (v := .ref (G.2.2.1 6 1)) rfl (hts _ wm24) (fun _ h9 => h9) dX9_changedBy_66 ?_
        obtain ⟨r5, e6, h⟩ := ob1_e h
        refine pcalli (va_runV (As := [.ref (G.2.2.1 3 y4), .ref (G.2.2.1 6 1)]) (rest := []) ⟨hx, hb, hml, hown, hts⟩ (c_X6_differFor (l := l) (G := G) (tys := tys) (σ := τ) htys (show 0 < 2 from by decide) (lt_c hcτ 3 hy4) (show 1 < 2 from by decide) e6) (cwV 2 hts (gVA wm821 wm822 wm823 wm23 wm824) rfl rfl rfl (by decide +kernel) ⟨(Nat.le_of_ble_eq_true rfl), (Nat.le_of_ble_eq_true rfl)⟩) (pv_preV hA hS hw hK 6 0 (show 0 < 2 from by decide) (by decide) rfl [.ref (G.2.2.1 3 y4), .ref (G.2.2.1 6 1)]) rfl rfl hl.1 rfl (lv_room (Nat.le_of_ble_eq_true rfl)) dX9_changedBy_69 ⟨Nat.zero_le _, Nat.zero_le _⟩) hS (fun r8 s9 H locs hp7 hw hS => ?_)
        obtain ⟨err5, esr5, hzr5⟩ := hp7
        obtain rfl := esr5.symm
        obtain rfl := err5.symm
        refine lv_if_eq (tgt := 78) hx hb dX9_changedBy_72 (by decide) (fun c10 => ?_) (fun c10 => ?_)
        · skip
          replace h := ite_p c10 h
          refine lv_iinc (v := xb3 + 1) (lv' := [(3, .int (xb3 + 1)), (0, .ref (G.2.2.1 9 0)), (2, .int xb2)]) hx hb dX9_changedBy_78 hl (k := 2) rfl (by rfl) (by decide) rfl (fun ls hl => ?_)
          refine lv_goto (tgt := 33) hx hb dX9_changedBy_81 (by decide) ?_
          exact ih33 τ xb2 (xb3 + 1) hcτ h _ _ hw hS ls (lv_sub hl [1, 2, 0] rfl)
        · skip
          replace h := ite_n c10 h
          refine lv_iinc (v := xb2 + 1) (lv' := [(2, .int (xb2 + 1)), (0, .ref (G.2.2.1 9 0)), (3, .int xb3)]) hx hb dX9_changedBy_75 hl (k := 1) rfl (by rfl) (by decide) rfl (fun ls hl => ?_)
          refine lv_iinc (v := xb3 + 1) (lv' := [(3, .int (xb3 + 1)), (2, .int (xb2 + 1)), (0, .ref (G.2.2.1 9 0))]) hx hb dX9_changedBy_78 hl (k := 2) rfl (by rfl) (by decide) rfl (fun ls hl => ?_)
          refine lv_goto (tgt := 33) hx hb dX9_changedBy_81 (by decide) ?_
          exact ih33 τ (xb2 + 1) (xb3 + 1) hcτ h _ _ hw hS ls (lv_sub hl [2, 1, 0] rfl)
  refine lv_aload_n hx hb dX9_changedBy_0 rfl (lv_at hl 0 rfl) ?_
  refine lv_iload_n hx hb dX9_changedBy_1 rfl (lv_at hl 1 rfl) ?_
  obtain ⟨r11, e12, h⟩ := ob1_e h
  refine pcallq (va_runV (As := [.int x1]) (rest := []) ⟨hx, hb, hml, hown, hts⟩ (c_X9_ruleAt (l := l) (G := G) (tys := tys) (σ := σ) htys  e12) (cwV 1 hts (gVA wm381 wm382 wm383 wm2 wm384) rfl rfl rfl (by decide +kernel) ⟨(Nat.le_of_ble_eq_true rfl), (Nat.le_of_ble_eq_true rfl)⟩) (pv_preV hA hS hw hK 9 0 Nat.one_pos (by decide) rfl [.int x1]) rfl rfl hl.1 rfl (lv_room (Nat.le_of_ble_eq_true rfl)) dX9_changedBy_2 ⟨Nat.zero_le _, Nat.zero_le _⟩) hS (fun r14 s15 H locs hp13 hw hS => ?_)
  obtain ⟨err11, esr11, hzr11⟩ := hp13
  obtain rfl := esr11.symm
  subst err11
  refine lv_pop hx hb dX9_changedBy_5 rfl ?_
  refine lv_aload_n hx hb dX9_changedBy_6 rfl (lv_at hl 0 rfl) ?_
  obtain ⟨σ17, e18, h⟩ := ob1_e h
  refine pcallv (va_runV (As := []) (rest := []) ⟨hx, hb, hml, hown, hts⟩ (c_X9_freshenStyles (l := l) (G := G) (tys := tys) (σ := σ) htys  e18) (cwV 0 hts (gVA wm416 wm417 wm418 wm2 wm419) rfl rfl rfl (by decide +kernel) ⟨(Nat.le_of_ble_eq_true rfl), (Nat.le_of_ble_eq_true rfl)⟩) (pv_preV hA hS hw hK 9 0 Nat.one_pos (by decide) rfl []) rfl rfl hl.1 rfl (lv_room (Nat.le_of_ble_eq_true rfl)) dX9_changedBy_7 ⟨Nat.zero_le _, Nat.zero_le _⟩) hS (fun s21 H locs hp19 hw hS => ?_)
  obtain ⟨esσ17, hdσ17⟩ := hp19
  obtain rfl := esσ17.symm
  have hcσ17 : σ17.1 = σ.1 := hdσ17
  refine lv_aload_n hx hb dX9_changedBy_10 rfl (lv_at hl 0 rfl) ?_
  refine pgL (C := RX9) (T := TX9) (N := 6) hx hb hts hown hK hw 9 4 0 Nat.one_pos (by decide) rfl rfl inF_X9 (by decide) (v := .ref (G.2.2.1 6 1)) rfl (hts _ wm24) (fun _ h9 => h9) dX9_changedBy_11 ?_
  refine lv_aload_n hx hb dX9_changedBy_14 rfl (lv_at hl 0 rfl) ?_
  refine pgL (C := RX9) (T := TX9) (N := 6) hx hb hts hown hK hw 9 0 0 Nat.one_pos (by decide) rfl rfl inF_X9 (by decide) (v := .ref (G.2.2.1 7 0)) rfl (hts _ wm10) (fun _ h9 => h9) dX9_changedBy_15 ?_
  refine pgL (C := RX7) (T := TX7) (N := 3) hx hb hts hown hK hw 7 1 0 Nat.one_pos (by decide) rfl rfl inF_X7 (by decide) (v := .ref (G.2.2.1 10 1)) rfl (hts _ wm420) (fun _ h9 => h9) dX9_changedBy_18 ?_
  refine lv_aload_n hx hb dX9_changedBy_21 rfl (lv_at hl 0 rfl) ?_
  refine pgL (C := RX9) (T := TX9) (N := 6) hx hb hts hown hK hw 9 1 0 Nat.one_pos (by decide) rfl rfl inF_X9 (by decide) (v := .ref (G.2.2.1 10 2)) rfl (hts _ wm14) (fun _ h9 => h9) dX9_changedBy_22 ?_
  refine lv_iload_n hx hb dX9_changedBy_25 rfl (lv_at hl 1 rfl) ?_
  obtain ⟨σ23, e24, h⟩ := ob1_e h
  refine pcallv (va_runV (As := [.ref (G.2.2.1 10 1), .ref (G.2.2.1 10 2), .int x1]) (rest := []) ⟨hx, hb, hml, hown, hts⟩ (c_X6_workOut (l := l) (G := G) (tys := tys) (σ := σ17) htys (show 1 < 2 from by decide) e24) (cwV 3 hts (gVA wm421 wm422 wm423 wm23 wm424) rfl rfl rfl (by decide +kernel) ⟨(Nat.le_of_ble_eq_true rfl), (Nat.le_of_ble_eq_true rfl)⟩) (pv_preV hA hS hw hK 6 1 (show 1 < 2 from by decide) (by decide) rfl [.ref (G.2.2.1 10 1), .ref (G.2.2.1 10 2), .int x1]) rfl rfl hl.1 rfl (lv_room (Nat.le_of_ble_eq_true rfl)) dX9_changedBy_26 ⟨Nat.zero_le _, Nat.zero_le _⟩) hS (fun s27 H locs hp25 hw hS => ?_)
  obtain ⟨esσ23, hdσ23⟩ := hp25
  obtain rfl := esσ23.symm
  have hcσ23 : σ23.1 = σ.1 := hdσ23.trans hcσ17
  refine lv_iconst (v := 0) hx hb dX9_changedBy_29 (by decide) ?_
  refine lv_istore_n (lv' := [(2, .int 0), (0, .ref (G.2.2.1 9 0)), (1, .int x1)]) hx hb dX9_changedBy_30 rfl hl (by decide) rfl (fun ls hl => ?_)
  refine lv_iconst (v := 0) hx hb dX9_changedBy_31 (by decide) ?_
  refine lv_istore_n (lv' := [(3, .int 0), (2, .int 0), (0, .ref (G.2.2.1 9 0)), (1, .int x1)]) hx hb dX9_changedBy_32 rfl hl (by decide) rfl (fun ls hl => ?_)
  exact loop33 fu σ23 0 0 hcσ23 h _ _ hw hS ls (lv_sub hl [2, 1, 0] rfl)
