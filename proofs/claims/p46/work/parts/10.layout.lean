def f_X2_isBox (σ : PvS) (u0 : Nat) : Option Int32 :=
  if (σ.2.1 2 0 u0) = 3 then (some 1) else (if (σ.2.1 2 0 u0) = 4 then (some 1) else (some 0))
set_option maxHeartbeats 4000000 in
set_option maxRecDepth 100000 in
theorem c_X2_isBox {l : Launch} {G : PvG} {tys : List (ClassId × FieldType)} {σ : PvS} (htys : tys = pvT G)  {u0 : Nat} (hu0 : u0 < pvM σ 2) {r : Int32} (h : f_X2_isBox σ u0 = some r) : Met l yX2_isBox (Cond.code yX2_isBox cX2_isBox 1 (some .boolean) :: WA) ({ frames := 0, cells := 0, slots := 0, locals := 0 }) (va_Pc [.ref (G.2.2.1 2 u0)] (pvU G tys σ)) (va_Qi (fun r' σ' => r' = r ∧ σ' = σ ∧ is01 r') (pvU G tys) (pvB G)) 0 0 (pvB G) := by
  refine Met.ofW (cc := cX2_isBox) (maxL := 1) (ret := (some .boolean)) (by decide) rfl ?_
  intro p e s m args below meth c s₁ B hml hv
  obtain ⟨rfl, hw, hK, hA⟩ := hv
  have hx := B.exec
  have hb := B.bytes
  have hr := B.returns
  have hts0 := atoms_spec (ws := (Cond.code yX2_isBox cX2_isBox 1 (some .boolean) :: WA)) B.pre
  have hts : ∀ w ∈ WA, w.before _ s = true := fun w h => hts0 w (List.mem_cons_of_mem _ h)
  have hown : s.vm.findClass RX2 = some m.cls := findClass_of_methodNamed B.named
  have hlocks := B.notSynchronized
  have hS : va_S (pvB G) s.heap s.heap [] := va_S.rf
  have hl := lv_entry ([.ref (G.2.2.1 2 u0)]) (n := 1) (Nat.le_of_ble_eq_true rfl)
  rw [lg_entry_eq]
  generalize (lg_sl ([.ref (G.2.2.1 2 u0)]) ++ List.replicate (1 - (lg_sl ([.ref (G.2.2.1 2 u0)])).length) Slot.unset).toArray = ls at hl ⊢
  have hl : lv_has ls 1 [(0, .ref (G.2.2.1 2 u0))] := hl
  have hroot := pv_root hw
  unfold f_X2_isBox at h
  refine lv_aload_n hx hb dX2_isBox_0 rfl (lv_at hl 0 rfl) ?_
  refine pgI (C := RX2) (T := TX2) (N := 16) hx hb hts hown hK hw 2 0 u0 hu0 (by decide) rfl rfl inF_X2 (by decide) rfl (hts _ wm96) (fun _ h9 => h9) dX2_isBox_1 ?_
  refine lv_iconst (v := 3) hx hb dX2_isBox_4 (by decide) ?_
  refine lv_icmp_eq (tgt := 16) hx hb dX2_isBox_5 (by decide) (fun c1 => ?_) (fun c1 => ?_)
  · skip
    replace h := ite_p c1 h
    refine lv_iconst (v := 1) hx hb dX2_isBox_16 (by decide) ?_
    refine lv_goto (tgt := 21) hx hb dX2_isBox_17 (by decide) ?_
    exact pez hx hb hr (is01_nar (Or.inr rfl)) hlocks hA hw hK hS ⟨Option.some.inj h, rfl, (Or.inr rfl)⟩ dX2_isBox_21
  · skip
    replace h := ite_n c1 h
    refine lv_aload_n hx hb dX2_isBox_8 rfl (lv_at hl 0 rfl) ?_
    refine pgI (C := RX2) (T := TX2) (N := 16) hx hb hts hown hK hw 2 0 u0 hu0 (by decide) rfl rfl inF_X2 (by decide) rfl (hts _ wm96) (fun _ h9 => h9) dX2_isBox_9 ?_
    refine lv_iconst (v := 4) hx hb dX2_isBox_12 (by decide) ?_
    refine lv_icmp_ne (tgt := 20) hx hb dX2_isBox_13 (by decide) (fun c2 => ?_) (fun c2 => ?_)
    · skip
      replace h := ite_n c2 h
      refine lv_iconst (v := 0) hx hb dX2_isBox_20 (by decide) ?_
      exact pez hx hb hr (is01_nar (Or.inl rfl)) hlocks hA hw hK hS ⟨Option.some.inj h, rfl, (Or.inl rfl)⟩ dX2_isBox_21
    · skip
      replace h := ite_p c2 h
      refine lv_iconst (v := 1) hx hb dX2_isBox_16 (by decide) ?_
      refine lv_goto (tgt := 21) hx hb dX2_isBox_17 (by decide) ?_
      exact pez hx hb hr (is01_nar (Or.inr rfl)) hlocks hA hw hK hS ⟨Option.some.inj h, rfl, (Or.inr rfl)⟩ dX2_isBox_21
def f_X2_borderX (σ : PvS) (u0 : Nat) : Option Int32 :=
  ob1 (f_X2_isBox σ u0) (fun r1 => if r1 = 0 then (some (-9999)) else (some (((σ.2.1 2 5 u0) - (σ.2.1 2 2 u0)) + (σ.2.1 2 11 u0))))
set_option maxHeartbeats 4000000 in
set_option maxRecDepth 100000 in
theorem c_X2_borderX {l : Launch} {G : PvG} {tys : List (ClassId × FieldType)} {σ : PvS} (htys : tys = pvT G)  {u0 : Nat} (hu0 : u0 < pvM σ 2) {r : Int32} (h : f_X2_borderX σ u0 = some r) : Met l yX2_borderX (Cond.code yX2_borderX cX2_borderX 1 (some .int) :: WA) ({ frames := 1, cells := 0, slots := 0, locals := 20 }) (va_Pc [.ref (G.2.2.1 2 u0)] (pvU G tys σ)) (va_Qi (fun r' σ' => r' = r ∧ σ' = σ) (pvU G tys) (pvB G)) 0 0 (pvB G) := by
  refine Met.ofW (cc := cX2_borderX) (maxL := 1) (ret := (some .int)) (by decide) rfl ?_
  intro p e s m args below meth c s₁ B hml hv
  obtain ⟨rfl, hw, hK, hA⟩ := hv
  have hx := B.exec
  have hb := B.bytes
  have hr := B.returns
  have hts0 := atoms_spec (ws := (Cond.code yX2_borderX cX2_borderX 1 (some .int) :: WA)) B.pre
  have hts : ∀ w ∈ WA, w.before _ s = true := fun w h => hts0 w (List.mem_cons_of_mem _ h)
  have hown : s.vm.findClass RX2 = some m.cls := findClass_of_methodNamed B.named
  have hlocks := B.notSynchronized
  have hS : va_S (pvB G) s.heap s.heap [] := va_S.rf
  have hl := lv_entry ([.ref (G.2.2.1 2 u0)]) (n := 1) (Nat.le_of_ble_eq_true rfl)
  rw [lg_entry_eq]
  generalize (lg_sl ([.ref (G.2.2.1 2 u0)]) ++ List.replicate (1 - (lg_sl ([.ref (G.2.2.1 2 u0)])).length) Slot.unset).toArray = ls at hl ⊢
  have hl : lv_has ls 1 [(0, .ref (G.2.2.1 2 u0))] := hl
  have hroot := pv_root hw
  unfold f_X2_borderX at h
  refine lv_aload_n hx hb dX2_borderX_0 rfl (lv_at hl 0 rfl) ?_
  obtain ⟨r1, e2, h⟩ := ob1_e h
  refine pcalli (va_runV (As := []) (rest := []) ⟨hx, hb, hml, hown, hts⟩ (c_X2_isBox (l := l) (G := G) (tys := tys) (σ := σ) htys hu0 e2) (cwV 0 hts (gVA wm653 wm520 wm521 wm81 wm522) rfl rfl rfl (by decide +kernel) ⟨(Nat.le_of_ble_eq_true rfl), (Nat.le_of_ble_eq_true rfl)⟩) (pv_preV hA hS hw hK 2 u0 hu0 (by decide) rfl []) rfl rfl hl.1 rfl (lv_room (Nat.le_of_ble_eq_true rfl)) dX2_borderX_1 ⟨Nat.zero_le _, Nat.zero_le _⟩) hS (fun r4 s5 H locs hp3 hw hS => ?_)
  obtain ⟨err1, esr1, hzr1⟩ := hp3
  obtain rfl := esr1.symm
  obtain rfl := err1.symm
  refine lv_if_eq (tgt := 24) hx hb dX2_borderX_4 (by decide) (fun c6 => ?_) (fun c6 => ?_)
  · skip
    replace h := ite_p c6 h
    refine lv_sipush (v := (-9999)) hx hb dX2_borderX_24 (by decide) ?_
    exact pei hx hb hr hlocks hA hw hK hS ⟨Option.some.inj h, rfl⟩ dX2_borderX_27
  · skip
    replace h := ite_n c6 h
    refine lv_aload_n hx hb dX2_borderX_7 rfl (lv_at hl 0 rfl) ?_
    refine pgI (C := RX2) (T := TX2) (N := 16) hx hb hts hown hK hw 2 5 u0 hu0 (by decide) rfl rfl inF_X2 (by decide) rfl (hts _ wm101) (fun _ h9 => h9) dX2_borderX_8 ?_
    refine lv_aload_n hx hb dX2_borderX_11 rfl (lv_at hl 0 rfl) ?_
    refine pgI (C := RX2) (T := TX2) (N := 16) hx hb hts hown hK hw 2 2 u0 hu0 (by decide) rfl rfl inF_X2 (by decide) rfl (hts _ wm98) (fun _ h9 => h9) dX2_borderX_12 ?_
    refine lv_isub hx hb dX2_borderX_15 ?_
    refine lv_aload_n hx hb dX2_borderX_16 rfl (lv_at hl 0 rfl) ?_
    refine pgI (C := RX2) (T := TX2) (N := 16) hx hb hts hown hK hw 2 11 u0 hu0 (by decide) rfl rfl inF_X2 (by decide) rfl (hts _ wm107) (fun _ h9 => h9) dX2_borderX_17 ?_
    refine lv_iadd hx hb dX2_borderX_20 ?_
    refine lv_goto (tgt := 27) hx hb dX2_borderX_21 (by decide) ?_
    exact pei hx hb hr hlocks hA hw hK hS ⟨Option.some.inj h, rfl⟩ dX2_borderX_27
def f_X2_borderY (σ : PvS) (u0 : Nat) : Option Int32 :=
  ob1 (f_X2_isBox σ u0) (fun r1 => if r1 = 0 then (some (-9999)) else (some (((σ.2.1 2 6 u0) - (σ.2.1 2 2 u0)) + (σ.2.1 2 12 u0))))
set_option maxHeartbeats 4000000 in
set_option maxRecDepth 100000 in
theorem c_X2_borderY {l : Launch} {G : PvG} {tys : List (ClassId × FieldType)} {σ : PvS} (htys : tys = pvT G)  {u0 : Nat} (hu0 : u0 < pvM σ 2) {r : Int32} (h : f_X2_borderY σ u0 = some r) : Met l yX2_borderY (Cond.code yX2_borderY cX2_borderY 1 (some .int) :: WA) ({ frames := 1, cells := 0, slots := 0, locals := 20 }) (va_Pc [.ref (G.2.2.1 2 u0)] (pvU G tys σ)) (va_Qi (fun r' σ' => r' = r ∧ σ' = σ) (pvU G tys) (pvB G)) 0 0 (pvB G) := by
  refine Met.ofW (cc := cX2_borderY) (maxL := 1) (ret := (some .int)) (by decide) rfl ?_
  intro p e s m args below meth c s₁ B hml hv
  obtain ⟨rfl, hw, hK, hA⟩ := hv
  have hx := B.exec
  have hb := B.bytes
  have hr := B.returns
  have hts0 := atoms_spec (ws := (Cond.code yX2_borderY cX2_borderY 1 (some .int) :: WA)) B.pre
  have hts : ∀ w ∈ WA, w.before _ s = true := fun w h => hts0 w (List.mem_cons_of_mem _ h)
  have hown : s.vm.findClass RX2 = some m.cls := findClass_of_methodNamed B.named
  have hlocks := B.notSynchronized
  have hS : va_S (pvB G) s.heap s.heap [] := va_S.rf
  have hl := lv_entry ([.ref (G.2.2.1 2 u0)]) (n := 1) (Nat.le_of_ble_eq_true rfl)
  rw [lg_entry_eq]
  generalize (lg_sl ([.ref (G.2.2.1 2 u0)]) ++ List.replicate (1 - (lg_sl ([.ref (G.2.2.1 2 u0)])).length) Slot.unset).toArray = ls at hl ⊢
  have hl : lv_has ls 1 [(0, .ref (G.2.2.1 2 u0))] := hl
  have hroot := pv_root hw
  unfold f_X2_borderY at h
  refine lv_aload_n hx hb dX2_borderY_0 rfl (lv_at hl 0 rfl) ?_
  obtain ⟨r1, e2, h⟩ := ob1_e h
  refine pcalli (va_runV (As := []) (rest := []) ⟨hx, hb, hml, hown, hts⟩ (c_X2_isBox (l := l) (G := G) (tys := tys) (σ := σ) htys hu0 e2) (cwV 0 hts (gVA wm653 wm520 wm521 wm81 wm522) rfl rfl rfl (by decide +kernel) ⟨(Nat.le_of_ble_eq_true rfl), (Nat.le_of_ble_eq_true rfl)⟩) (pv_preV hA hS hw hK 2 u0 hu0 (by decide) rfl []) rfl rfl hl.1 rfl (lv_room (Nat.le_of_ble_eq_true rfl)) dX2_borderY_1 ⟨Nat.zero_le _, Nat.zero_le _⟩) hS (fun r4 s5 H locs hp3 hw hS => ?_)
  obtain ⟨err1, esr1, hzr1⟩ := hp3
  obtain rfl := esr1.symm
  obtain rfl := err1.symm
  refine lv_if_eq (tgt := 24) hx hb dX2_borderY_4 (by decide) (fun c6 => ?_) (fun c6 => ?_)
  · skip
    replace h := ite_p c6 h
    refine lv_sipush (v := (-9999)) hx hb dX2_borderY_24 (by decide) ?_
    exact pei hx hb hr hlocks hA hw hK hS ⟨Option.some.inj h, rfl⟩ dX2_borderY_27
  · skip
    replace h := ite_n c6 h
    refine lv_aload_n hx hb dX2_borderY_7 rfl (lv_at hl 0 rfl) ?_
    refine pgI (C := RX2) (T := TX2) (N := 16) hx hb hts hown hK hw 2 6 u0 hu0 (by decide) rfl rfl inF_X2 (by decide) rfl (hts _ wm102) (fun _ h9 => h9) dX2_borderY_8 ?_
    refine lv_aload_n hx hb dX2_borderY_11 rfl (lv_at hl 0 rfl) ?_
    refine pgI (C := RX2) (T := TX2) (N := 16) hx hb hts hown hK hw 2 2 u0 hu0 (by decide) rfl rfl inF_X2 (by decide) rfl (hts _ wm98) (fun _ h9 => h9) dX2_borderY_12 ?_
    refine lv_isub hx hb dX2_borderY_15 ?_
    refine lv_aload_n hx hb dX2_borderY_16 rfl (lv_at hl 0 rfl) ?_
    refine pgI (C := RX2) (T := TX2) (N := 16) hx hb hts hown hK hw 2 12 u0 hu0 (by decide) rfl rfl inF_X2 (by decide) rfl (hts _ wm108) (fun _ h9 => h9) dX2_borderY_17 ?_
    refine lv_iadd hx hb dX2_borderY_20 ?_
    refine lv_goto (tgt := 27) hx hb dX2_borderY_21 (by decide) ?_
    exact pei hx hb hr hlocks hA hw hK hS ⟨Option.some.inj h, rfl⟩ dX2_borderY_27
def f_X2_borderWide (σ : PvS) (u0 : Nat) : Option Int32 :=
  ob1 (f_X2_isBox σ u0) (fun r1 => if r1 = 0 then (some (-1)) else (some ((σ.2.1 2 7 u0) + (2 * (σ.2.1 2 2 u0)))))
set_option maxHeartbeats 4000000 in
set_option maxRecDepth 100000 in
theorem c_X2_borderWide {l : Launch} {G : PvG} {tys : List (ClassId × FieldType)} {σ : PvS} (htys : tys = pvT G)  {u0 : Nat} (hu0 : u0 < pvM σ 2) {r : Int32} (h : f_X2_borderWide σ u0 = some r) : Met l yX2_borderWide (Cond.code yX2_borderWide cX2_borderWide 1 (some .int) :: WA) ({ frames := 1, cells := 0, slots := 0, locals := 20 }) (va_Pc [.ref (G.2.2.1 2 u0)] (pvU G tys σ)) (va_Qi (fun r' σ' => r' = r ∧ σ' = σ) (pvU G tys) (pvB G)) 0 0 (pvB G) := by
  refine Met.ofW (cc := cX2_borderWide) (maxL := 1) (ret := (some .int)) (by decide) rfl ?_
  intro p e s m args below meth c s₁ B hml hv
  obtain ⟨rfl, hw, hK, hA⟩ := hv
  have hx := B.exec
  have hb := B.bytes
  have hr := B.returns
  have hts0 := atoms_spec (ws := (Cond.code yX2_borderWide cX2_borderWide 1 (some .int) :: WA)) B.pre
  have hts : ∀ w ∈ WA, w.before _ s = true := fun w h => hts0 w (List.mem_cons_of_mem _ h)
  have hown : s.vm.findClass RX2 = some m.cls := findClass_of_methodNamed B.named
  have hlocks := B.notSynchronized
  have hS : va_S (pvB G) s.heap s.heap [] := va_S.rf
  have hl := lv_entry ([.ref (G.2.2.1 2 u0)]) (n := 1) (Nat.le_of_ble_eq_true rfl)
  rw [lg_entry_eq]
  generalize (lg_sl ([.ref (G.2.2.1 2 u0)]) ++ List.replicate (1 - (lg_sl ([.ref (G.2.2.1 2 u0)])).length) Slot.unset).toArray = ls at hl ⊢
  have hl : lv_has ls 1 [(0, .ref (G.2.2.1 2 u0))] := hl
  have hroot := pv_root hw
  unfold f_X2_borderWide at h
  refine lv_aload_n hx hb dX2_borderWide_0 rfl (lv_at hl 0 rfl) ?_
  obtain ⟨r1, e2, h⟩ := ob1_e h
  refine pcalli (va_runV (As := []) (rest := []) ⟨hx, hb, hml, hown, hts⟩ (c_X2_isBox (l := l) (G := G) (tys := tys) (σ := σ) htys hu0 e2) (cwV 0 hts (gVA wm653 wm520 wm521 wm81 wm522) rfl rfl rfl (by decide +kernel) ⟨(Nat.le_of_ble_eq_true rfl), (Nat.le_of_ble_eq_true rfl)⟩) (pv_preV hA hS hw hK 2 u0 hu0 (by decide) rfl []) rfl rfl hl.1 rfl (lv_room (Nat.le_of_ble_eq_true rfl)) dX2_borderWide_1 ⟨Nat.zero_le _, Nat.zero_le _⟩) hS (fun r4 s5 H locs hp3 hw hS => ?_)
  obtain ⟨err1, esr1, hzr1⟩ := hp3
  obtain rfl := esr1.symm
  obtain rfl := err1.symm
  refine lv_if_eq (tgt := 21) hx hb dX2_borderWide_4 (by decide) (fun c6 => ?_) (fun c6 => ?_)
  · skip
    replace h := ite_p c6 h
    refine lv_iconst (v := (-1)) hx hb dX2_borderWide_21 (by decide) ?_
    exact pei hx hb hr hlocks hA hw hK hS ⟨Option.some.inj h, rfl⟩ dX2_borderWide_22
  · skip
    replace h := ite_n c6 h
    refine lv_aload_n hx hb dX2_borderWide_7 rfl (lv_at hl 0 rfl) ?_
    refine pgI (C := RX2) (T := TX2) (N := 16) hx hb hts hown hK hw 2 7 u0 hu0 (by decide) rfl rfl inF_X2 (by decide) rfl (hts _ wm103) (fun _ h9 => h9) dX2_borderWide_8 ?_
    refine lv_iconst (v := 2) hx hb dX2_borderWide_11 (by decide) ?_
    refine lv_aload_n hx hb dX2_borderWide_12 rfl (lv_at hl 0 rfl) ?_
    refine pgI (C := RX2) (T := TX2) (N := 16) hx hb hts hown hK hw 2 2 u0 hu0 (by decide) rfl rfl inF_X2 (by decide) rfl (hts _ wm98) (fun _ h9 => h9) dX2_borderWide_13 ?_
    refine lv_imul hx hb dX2_borderWide_16 ?_
    refine lv_iadd hx hb dX2_borderWide_17 ?_
    refine lv_goto (tgt := 22) hx hb dX2_borderWide_18 (by decide) ?_
    exact pei hx hb hr hlocks hA hw hK hS ⟨Option.some.inj h, rfl⟩ dX2_borderWide_22
def f_X2_borderHigh (σ : PvS) (u0 : Nat) : Option Int32 :=
  ob1 (f_X2_isBox σ u0) (fun r1 => if r1 = 0 then (some (-1)) else (some ((σ.2.1 2 8 u0) + (2 * (σ.2.1 2 2 u0)))))
set_option maxHeartbeats 4000000 in
set_option maxRecDepth 100000 in
theorem c_X2_borderHigh {l : Launch} {G : PvG} {tys : List (ClassId × FieldType)} {σ : PvS} (htys : tys = pvT G)  {u0 : Nat} (hu0 : u0 < pvM σ 2) {r : Int32} (h : f_X2_borderHigh σ u0 = some r) : Met l yX2_borderHigh (Cond.code yX2_borderHigh cX2_borderHigh 1 (some .int) :: WA) ({ frames := 1, cells := 0, slots := 0, locals := 20 }) (va_Pc [.ref (G.2.2.1 2 u0)] (pvU G tys σ)) (va_Qi (fun r' σ' => r' = r ∧ σ' = σ) (pvU G tys) (pvB G)) 0 0 (pvB G) := by
  refine Met.ofW (cc := cX2_borderHigh) (maxL := 1) (ret := (some .int)) (by decide) rfl ?_
  intro p e s m args below meth c s₁ B hml hv
  obtain ⟨rfl, hw, hK, hA⟩ := hv
  have hx := B.exec
  have hb := B.bytes
  have hr := B.returns
  have hts0 := atoms_spec (ws := (Cond.code yX2_borderHigh cX2_borderHigh 1 (some .int) :: WA)) B.pre
  have hts : ∀ w ∈ WA, w.before _ s = true := fun w h => hts0 w (List.mem_cons_of_mem _ h)
  have hown : s.vm.findClass RX2 = some m.cls := findClass_of_methodNamed B.named
  have hlocks := B.notSynchronized
  have hS : va_S (pvB G) s.heap s.heap [] := va_S.rf
  have hl := lv_entry ([.ref (G.2.2.1 2 u0)]) (n := 1) (Nat.le_of_ble_eq_true rfl)
  rw [lg_entry_eq]
  generalize (lg_sl ([.ref (G.2.2.1 2 u0)]) ++ List.replicate (1 - (lg_sl ([.ref (G.2.2.1 2 u0)])).length) Slot.unset).toArray = ls at hl ⊢
  have hl : lv_has ls 1 [(0, .ref (G.2.2.1 2 u0))] := hl
  have hroot := pv_root hw
  unfold f_X2_borderHigh at h
  refine lv_aload_n hx hb dX2_borderHigh_0 rfl (lv_at hl 0 rfl) ?_
  obtain ⟨r1, e2, h⟩ := ob1_e h
  refine pcalli (va_runV (As := []) (rest := []) ⟨hx, hb, hml, hown, hts⟩ (c_X2_isBox (l := l) (G := G) (tys := tys) (σ := σ) htys hu0 e2) (cwV 0 hts (gVA wm653 wm520 wm521 wm81 wm522) rfl rfl rfl (by decide +kernel) ⟨(Nat.le_of_ble_eq_true rfl), (Nat.le_of_ble_eq_true rfl)⟩) (pv_preV hA hS hw hK 2 u0 hu0 (by decide) rfl []) rfl rfl hl.1 rfl (lv_room (Nat.le_of_ble_eq_true rfl)) dX2_borderHigh_1 ⟨Nat.zero_le _, Nat.zero_le _⟩) hS (fun r4 s5 H locs hp3 hw hS => ?_)
  obtain ⟨err1, esr1, hzr1⟩ := hp3
  obtain rfl := esr1.symm
  obtain rfl := err1.symm
  refine lv_if_eq (tgt := 21) hx hb dX2_borderHigh_4 (by decide) (fun c6 => ?_) (fun c6 => ?_)
  · skip
    replace h := ite_p c6 h
    refine lv_iconst (v := (-1)) hx hb dX2_borderHigh_21 (by decide) ?_
    exact pei hx hb hr hlocks hA hw hK hS ⟨Option.some.inj h, rfl⟩ dX2_borderHigh_22
  · skip
    replace h := ite_n c6 h
    refine lv_aload_n hx hb dX2_borderHigh_7 rfl (lv_at hl 0 rfl) ?_
    refine pgI (C := RX2) (T := TX2) (N := 16) hx hb hts hown hK hw 2 8 u0 hu0 (by decide) rfl rfl inF_X2 (by decide) rfl (hts _ wm104) (fun _ h9 => h9) dX2_borderHigh_8 ?_
    refine lv_iconst (v := 2) hx hb dX2_borderHigh_11 (by decide) ?_
    refine lv_aload_n hx hb dX2_borderHigh_12 rfl (lv_at hl 0 rfl) ?_
    refine pgI (C := RX2) (T := TX2) (N := 16) hx hb hts hown hK hw 2 2 u0 hu0 (by decide) rfl rfl inF_X2 (by decide) rfl (hts _ wm98) (fun _ h9 => h9) dX2_borderHigh_13 ?_
    refine lv_imul hx hb dX2_borderHigh_16 ?_
    refine lv_iadd hx hb dX2_borderHigh_17 ?_
    refine lv_goto (tgt := 22) hx hb dX2_borderHigh_18 (by decide) ?_
    exact pei hx hb hr hlocks hA hw hK hS ⟨Option.some.inj h, rfl⟩ dX2_borderHigh_22
def f_X2_reachOrNone (σ : PvS) (u0 : Nat) : Option Int32 :=
  ob1 (f_X2_isBox σ u0) (fun r1 => if r1 = 0 then (some (-1)) else (some (σ.2.1 2 9 u0)))
set_option maxHeartbeats 4000000 in
set_option maxRecDepth 100000 in
theorem c_X2_reachOrNone {l : Launch} {G : PvG} {tys : List (ClassId × FieldType)} {σ : PvS} (htys : tys = pvT G)  {u0 : Nat} (hu0 : u0 < pvM σ 2) {r : Int32} (h : f_X2_reachOrNone σ u0 = some r) : Met l yX2_reachOrNone (Cond.code yX2_reachOrNone cX2_reachOrNone 1 (some .int) :: WA) ({ frames := 1, cells := 0, slots := 0, locals := 20 }) (va_Pc [.ref (G.2.2.1 2 u0)] (pvU G tys σ)) (va_Qi (fun r' σ' => r' = r ∧ σ' = σ) (pvU G tys) (pvB G)) 0 0 (pvB G) := by
  refine Met.ofW (cc := cX2_reachOrNone) (maxL := 1) (ret := (some .int)) (by decide) rfl ?_
  intro p e s m args below meth c s₁ B hml hv
  obtain ⟨rfl, hw, hK, hA⟩ := hv
  have hx := B.exec
  have hb := B.bytes
  have hr := B.returns
  have hts0 := atoms_spec (ws := (Cond.code yX2_reachOrNone cX2_reachOrNone 1 (some .int) :: WA)) B.pre
  have hts : ∀ w ∈ WA, w.before _ s = true := fun w h => hts0 w (List.mem_cons_of_mem _ h)
  have hown : s.vm.findClass RX2 = some m.cls := findClass_of_methodNamed B.named
  have hlocks := B.notSynchronized
  have hS : va_S (pvB G) s.heap s.heap [] := va_S.rf
  have hl := lv_entry ([.ref (G.2.2.1 2 u0)]) (n := 1) (Nat.le_of_ble_eq_true rfl)
  rw [lg_entry_eq]
  generalize (lg_sl ([.ref (G.2.2.1 2 u0)]) ++ List.replicate (1 - (lg_sl ([.ref (G.2.2.1 2 u0)])).length) Slot.unset).toArray = ls at hl ⊢
  have hl : lv_has ls 1 [(0, .ref (G.2.2.1 2 u0))] := hl
  have hroot := pv_root hw
  unfold f_X2_reachOrNone at h
  refine lv_aload_n hx hb dX2_reachOrNone_0 rfl (lv_at hl 0 rfl) ?_
  obtain ⟨r1, e2, h⟩ := ob1_e h
  refine pcalli (va_runV (As := []) (rest := []) ⟨hx, hb, hml, hown, hts⟩ (c_X2_isBox (l := l) (G := G) (tys := tys) (σ := σ) htys hu0 e2) (cwV 0 hts (gVA wm653 wm520 wm521 wm81 wm522) rfl rfl rfl (by decide +kernel) ⟨(Nat.le_of_ble_eq_true rfl), (Nat.le_of_ble_eq_true rfl)⟩) (pv_preV hA hS hw hK 2 u0 hu0 (by decide) rfl []) rfl rfl hl.1 rfl (lv_room (Nat.le_of_ble_eq_true rfl)) dX2_reachOrNone_1 ⟨Nat.zero_le _, Nat.zero_le _⟩) hS (fun r4 s5 H locs hp3 hw hS => ?_)
  obtain ⟨err1, esr1, hzr1⟩ := hp3
  obtain rfl := esr1.symm
  obtain rfl := err1.symm
  refine lv_if_eq (tgt := 14) hx hb dX2_reachOrNone_4 (by decide) (fun c6 => ?_) (fun c6 => ?_)
  · skip
    replace h := ite_p c6 h
    refine lv_iconst (v := (-1)) hx hb dX2_reachOrNone_14 (by decide) ?_
    exact pei hx hb hr hlocks hA hw hK hS ⟨Option.some.inj h, rfl⟩ dX2_reachOrNone_15
  · skip
    replace h := ite_n c6 h
    refine lv_aload_n hx hb dX2_reachOrNone_7 rfl (lv_at hl 0 rfl) ?_
    refine pgI (C := RX2) (T := TX2) (N := 16) hx hb hts hown hK hw 2 9 u0 hu0 (by decide) rfl rfl inF_X2 (by decide) rfl (hts _ wm105) (fun _ h9 => h9) dX2_reachOrNone_8 ?_
    refine lv_goto (tgt := 15) hx hb dX2_reachOrNone_11 (by decide) ?_
    exact pei hx hb hr hlocks hA hw hK hS ⟨Option.some.inj h, rfl⟩ dX2_reachOrNone_15
def f_X2_linesOrNone (σ : PvS) (u0 : Nat) : Option Int32 :=
  ob1 (f_X2_isBox σ u0) (fun r1 => if r1 = 0 then (some 0) else (some (σ.2.1 2 10 u0)))
set_option maxHeartbeats 4000000 in
set_option maxRecDepth 100000 in
theorem c_X2_linesOrNone {l : Launch} {G : PvG} {tys : List (ClassId × FieldType)} {σ : PvS} (htys : tys = pvT G)  {u0 : Nat} (hu0 : u0 < pvM σ 2) {r : Int32} (h : f_X2_linesOrNone σ u0 = some r) : Met l yX2_linesOrNone (Cond.code yX2_linesOrNone cX2_linesOrNone 1 (some .int) :: WA) ({ frames := 1, cells := 0, slots := 0, locals := 20 }) (va_Pc [.ref (G.2.2.1 2 u0)] (pvU G tys σ)) (va_Qi (fun r' σ' => r' = r ∧ σ' = σ) (pvU G tys) (pvB G)) 0 0 (pvB G) := by
  refine Met.ofW (cc := cX2_linesOrNone) (maxL := 1) (ret := (some .int)) (by decide) rfl ?_
  intro p e s m args below meth c s₁ B hml hv
  obtain ⟨rfl, hw, hK, hA⟩ := hv
  have hx := B.exec
  have hb := B.bytes
  have hr := B.returns
  have hts0 := atoms_spec (ws := (Cond.code yX2_linesOrNone cX2_linesOrNone 1 (some .int) :: WA)) B.pre
  have hts : ∀ w ∈ WA, w.before _ s = true := fun w h => hts0 w (List.mem_cons_of_mem _ h)
  have hown : s.vm.findClass RX2 = some m.cls := findClass_of_methodNamed B.named
  have hlocks := B.notSynchronized
  have hS : va_S (pvB G) s.heap s.heap [] := va_S.rf
  have hl := lv_entry ([.ref (G.2.2.1 2 u0)]) (n := 1) (Nat.le_of_ble_eq_true rfl)
  rw [lg_entry_eq]
  generalize (lg_sl ([.ref (G.2.2.1 2 u0)]) ++ List.replicate (1 - (lg_sl ([.ref (G.2.2.1 2 u0)])).length) Slot.unset).toArray = ls at hl ⊢
  have hl : lv_has ls 1 [(0, .ref (G.2.2.1 2 u0))] := hl
  have hroot := pv_root hw
  unfold f_X2_linesOrNone at h
  refine lv_aload_n hx hb dX2_linesOrNone_0 rfl (lv_at hl 0 rfl) ?_
  obtain ⟨r1, e2, h⟩ := ob1_e h
  refine pcalli (va_runV (As := []) (rest := []) ⟨hx, hb, hml, hown, hts⟩ (c_X2_isBox (l := l) (G := G) (tys := tys) (σ := σ) htys hu0 e2) (cwV 0 hts (gVA wm653 wm520 wm521 wm81 wm522) rfl rfl rfl (by decide +kernel) ⟨(Nat.le_of_ble_eq_true rfl), (Nat.le_of_ble_eq_true rfl)⟩) (pv_preV hA hS hw hK 2 u0 hu0 (by decide) rfl []) rfl rfl hl.1 rfl (lv_room (Nat.le_of_ble_eq_true rfl)) dX2_linesOrNone_1 ⟨Nat.zero_le _, Nat.zero_le _⟩) hS (fun r4 s5 H locs hp3 hw hS => ?_)
  obtain ⟨err1, esr1, hzr1⟩ := hp3
  obtain rfl := esr1.symm
  obtain rfl := err1.symm
  refine lv_if_eq (tgt := 14) hx hb dX2_linesOrNone_4 (by decide) (fun c6 => ?_) (fun c6 => ?_)
  · skip
    replace h := ite_p c6 h
    refine lv_iconst (v := 0) hx hb dX2_linesOrNone_14 (by decide) ?_
    exact pei hx hb hr hlocks hA hw hK hS ⟨Option.some.inj h, rfl⟩ dX2_linesOrNone_15
  · skip
    replace h := ite_n c6 h
    refine lv_aload_n hx hb dX2_linesOrNone_7 rfl (lv_at hl 0 rfl) ?_
    refine pgI (C := RX2) (T := TX2) (N := 16) hx hb hts hown hK hw 2 10 u0 hu0 (by decide) rfl rfl inF_X2 (by decide) rfl (hts _ wm106) (fun _ h9 => h9) dX2_linesOrNone_8 ?_
    refine lv_goto (tgt := 15) hx hb dX2_linesOrNone_11 (by decide) ?_
    exact pei hx hb hr hlocks hA hw hK hS ⟨Option.some.inj h, rfl⟩ dX2_linesOrNone_15
def f_X2_highWithEdges (σ : PvS) (u0 : Nat) : Option Int32 :=
  some ((σ.2.1 2 8 u0) + (2 * (σ.2.1 2 3 u0)))
set_option maxHeartbeats 4000000 in
set_option maxRecDepth 100000 in
theorem c_X2_highWithEdges {l : Launch} {G : PvG} {tys : List (ClassId × FieldType)} {σ : PvS} (htys : tys = pvT G)  {u0 : Nat} (hu0 : u0 < pvM σ 2) {r : Int32} (h : f_X2_highWithEdges σ u0 = some r) : Met l yX2_highWithEdges (Cond.code yX2_highWithEdges cX2_highWithEdges 1 (some .int) :: WA) ({ frames := 0, cells := 0, slots := 0, locals := 0 }) (va_Pc [.ref (G.2.2.1 2 u0)] (pvU G tys σ)) (va_Qi (fun r' σ' => r' = r ∧ σ' = σ) (pvU G tys) (pvB G)) 0 0 (pvB G) := by
  refine Met.ofW (cc := cX2_highWithEdges) (maxL := 1) (ret := (some .int)) (by decide) rfl ?_
  intro p e s m args below meth c s₁ B hml hv
  obtain ⟨rfl, hw, hK, hA⟩ := hv
  have hx := B.exec
  have hb := B.bytes
  have hr := B.returns
  have hts0 := atoms_spec (ws := (Cond.code yX2_highWithEdges cX2_highWithEdges 1 (some .int) :: WA)) B.pre
  have hts : ∀ w ∈ WA, w.before _ s = true := fun w h => hts0 w (List.mem_cons_of_mem _ h)
  have hown : s.vm.findClass RX2 = some m.cls := findClass_of_methodNamed B.named
  have hlocks := B.notSynchronized
  have hS : va_S (pvB G) s.heap s.heap [] := va_S.rf
  have hl := lv_entry ([.ref (G.2.2.1 2 u0)]) (n := 1) (Nat.le_of_ble_eq_true rfl)
  rw [lg_entry_eq]
  generalize (lg_sl ([.ref (G.2.2.1 2 u0)]) ++ List.replicate (1 - (lg_sl ([.ref (G.2.2.1 2 u0)])).length) Slot.unset).toArray = ls at hl ⊢
  have hl : lv_has ls 1 [(0, .ref (G.2.2.1 2 u0))] := hl
  have hroot := pv_root hw
  unfold f_X2_highWithEdges at h
  refine lv_aload_n hx hb dX2_highWithEdges_0 rfl (lv_at hl 0 rfl) ?_
  refine pgI (C := RX2) (T := TX2) (N := 16) hx hb hts hown hK hw 2 8 u0 hu0 (by decide) rfl rfl inF_X2 (by decide) rfl (hts _ wm104) (fun _ h9 => h9) dX2_highWithEdges_1 ?_
  refine lv_iconst (v := 2) hx hb dX2_highWithEdges_4 (by decide) ?_
  refine lv_aload_n hx hb dX2_highWithEdges_5 rfl (lv_at hl 0 rfl) ?_
  refine pgI (C := RX2) (T := TX2) (N := 16) hx hb hts hown hK hw 2 3 u0 hu0 (by decide) rfl rfl inF_X2 (by decide) rfl (hts _ wm99) (fun _ h9 => h9) dX2_highWithEdges_6 ?_
  refine lv_imul hx hb dX2_highWithEdges_9 ?_
  refine lv_iadd hx hb dX2_highWithEdges_10 ?_
  exact pei hx hb hr hlocks hA hw hK hS ⟨Option.some.inj h, rfl⟩ dX2_highWithEdges_11
def f_X2_isWithin (σ : PvS) (x0 : Int32) (x1 : Int32) (x2 : Int32) : Option Int32 :=
  if x0 < x1 then (some 0) else (if (x1 + x2) ≤ x0 then (some 0) else (some 1))
set_option maxHeartbeats 4000000 in
set_option maxRecDepth 100000 in
theorem c_X2_isWithin {l : Launch} {G : PvG} {tys : List (ClassId × FieldType)} {σ : PvS} (htys : tys = pvT G)  {x0 : Int32} {x1 : Int32} {x2 : Int32}  {r : Int32} (h : f_X2_isWithin σ x0 x1 x2 = some r) : Met l yX2_isWithin (Cond.code yX2_isWithin cX2_isWithin 3 (some .boolean) :: WA) ({ frames := 0, cells := 0, slots := 0, locals := 0 }) (va_Pc [.int x0, .int x1, .int x2] (pvU G tys σ)) (va_Qi (fun r' σ' => r' = r ∧ σ' = σ ∧ is01 r') (pvU G tys) (pvB G)) 0 0 (pvB G) := by
  refine Met.ofW (cc := cX2_isWithin) (maxL := 3) (ret := (some .boolean)) (by decide) rfl ?_
  intro p e s m args below meth c s₁ B hml hv
  obtain ⟨rfl, hw, hK, hA⟩ := hv
  have hx := B.exec
  have hb := B.bytes
  have hr := B.returns
  have hts0 := atoms_spec (ws := (Cond.code yX2_isWithin cX2_isWithin 3 (some .boolean) :: WA)) B.pre
  have hts : ∀ w ∈ WA, w.before _ s = true := fun w h => hts0 w (List.mem_cons_of_mem _ h)
  have hown : s.vm.findClass RX2 = some m.cls := findClass_of_methodNamed B.named
  have hlocks := B.notSynchronized
  have hS : va_S (pvB G) s.heap s.heap [] := va_S.rf
  have hl := lv_entry ([.int x0, .int x1, .int x2]) (n := 3) (Nat.le_of_ble_eq_true rfl)
  rw [lg_entry_eq]
  generalize (lg_sl ([.int x0, .int x1, .int x2]) ++ List.replicate (3 - (lg_sl ([.int x0, .int x1, .int x2])).length) Slot.unset).toArray = ls at hl ⊢
  have hl : lv_has ls 3 [(0, .int x0), (1, .int x1), (2, .int x2)] := hl
  have hroot := pv_root hw
  unfold f_X2_isWithin at h
  refine lv_iload_n hx hb dX2_isWithin_0 rfl (lv_at hl 0 rfl) ?_
  refine lv_iload_n hx hb dX2_isWithin_1 rfl (lv_at hl 1 rfl) ?_
  refine lv_icmp_lt (tgt := 16) hx hb dX2_isWithin_2 (by decide) (fun c1 => ?_) (fun c1 => ?_)
  · skip
    replace h := ite_p c1 h
    refine lv_iconst (v := 0) hx hb dX2_isWithin_16 (by decide) ?_
    exact pez hx hb hr (is01_nar (Or.inl rfl)) hlocks hA hw hK hS ⟨Option.some.inj h, rfl, (Or.inl rfl)⟩ dX2_isWithin_17
  · skip
    replace h := ite_n c1 h
    refine lv_iload_n hx hb dX2_isWithin_5 rfl (lv_at hl 0 rfl) ?_
    refine lv_iload_n hx hb dX2_isWithin_6 rfl (lv_at hl 1 rfl) ?_
    refine lv_iload_n hx hb dX2_isWithin_7 rfl (lv_at hl 2 rfl) ?_
    refine lv_iadd hx hb dX2_isWithin_8 ?_
    refine lv_icmp_ge (tgt := 16) hx hb dX2_isWithin_9 (by decide) (fun c2 => ?_) (fun c2 => ?_)
    · skip
      replace h := ite_p c2 h
      refine lv_iconst (v := 0) hx hb dX2_isWithin_16 (by decide) ?_
      exact pez hx hb hr (is01_nar (Or.inl rfl)) hlocks hA hw hK hS ⟨Option.some.inj h, rfl, (Or.inl rfl)⟩ dX2_isWithin_17
    · skip
      replace h := ite_n c2 h
      refine lv_iconst (v := 1) hx hb dX2_isWithin_12 (by decide) ?_
      refine lv_goto (tgt := 17) hx hb dX2_isWithin_13 (by decide) ?_
      exact pez hx hb hr (is01_nar (Or.inr rfl)) hlocks hA hw hK hS ⟨Option.some.inj h, rfl, (Or.inr rfl)⟩ dX2_isWithin_17
def f_X2_hasInBorder (σ : PvS) (u0 : Nat) (x1 : Int32) (x2 : Int32) : Option Int32 :=
  ob1 (f_X2_isBox σ u0) (fun r1 => if r1 = 0 then (some 0) else (ob1 (f_X2_borderX σ u0) (fun r7 => ob1 (f_X2_borderWide σ u0) (fun r12 => ob1 (f_X2_isWithin σ x1 r7 r12) (fun r17 => if r17 = 0 then (some 0) else (ob1 (f_X2_borderY σ u0) (fun r23 => ob1 (f_X2_borderHigh σ u0) (fun r28 => ob1 (f_X2_isWithin σ x2 r23 r28) (fun r33 => if r33 = 0 then (some 0) else (some 1))))))))))
set_option maxHeartbeats 4000000 in
set_option maxRecDepth 100000 in
theorem c_X2_hasInBorder {l : Launch} {G : PvG} {tys : List (ClassId × FieldType)} {σ : PvS} (htys : tys = pvT G)  {u0 : Nat} {x1 : Int32} {x2 : Int32} (hu0 : u0 < pvM σ 2) {r : Int32} (h : f_X2_hasInBorder σ u0 x1 x2 = some r) : Met l yX2_hasInBorder (Cond.code yX2_hasInBorder cX2_hasInBorder 3 (some .boolean) :: WA) ({ frames := 2, cells := 0, slots := 0, locals := 40 }) (va_Pc [.ref (G.2.2.1 2 u0), .int x1, .int x2] (pvU G tys σ)) (va_Qi (fun r' σ' => r' = r ∧ σ' = σ ∧ is01 r') (pvU G tys) (pvB G)) 0 0 (pvB G) := by
  refine Met.ofW (cc := cX2_hasInBorder) (maxL := 3) (ret := (some .boolean)) (by decide) rfl ?_
  intro p e s m args below meth c s₁ B hml hv
  obtain ⟨rfl, hw, hK, hA⟩ := hv
  have hx := B.exec
  have hb := B.bytes
  have hr := B.returns
  have hts0 := atoms_spec (ws := (Cond.code yX2_hasInBorder cX2_hasInBorder 3 (some .boolean) :: WA)) B.pre
  have hts : ∀ w ∈ WA, w.before _ s = true := fun w h => hts0 w (List.mem_cons_of_mem _ h)
  have hown : s.vm.findClass RX2 = some m.cls := findClass_of_methodNamed B.named
  have hlocks := B.notSynchronized
  have hS : va_S (pvB G) s.heap s.heap [] := va_S.rf
  have hl := lv_entry ([.ref (G.2.2.1 2 u0), .int x1, .int x2]) (n := 3) (Nat.le_of_ble_eq_true rfl)
  rw [lg_entry_eq]
  generalize (lg_sl ([.ref (G.2.2.1 2 u0), .int x1, .int x2]) ++ List.replicate (3 - (lg_sl ([.ref (G.2.2.1 2 u0), .int x1, .int x2])).length) Slot.unset).toArray = ls at hl ⊢
  have hl : lv_has ls 3 [(0, .ref (G.2.2.1 2 u0)), (1, .int x1), (2, .int x2)] := hl
  have hroot := pv_root hw
  unfold f_X2_hasInBorder at h
  refine lv_aload_n hx hb dX2_hasInBorder_0 rfl (lv_at hl 0 rfl) ?_
  obtain ⟨r1, e2, h⟩ := ob1_e h
  refine pcalli (va_runV (As := []) (rest := []) ⟨hx, hb, hml, hown, hts⟩ (c_X2_isBox (l := l) (G := G) (tys := tys) (σ := σ) htys hu0 e2) (cwV 0 hts (gVA wm653 wm520 wm521 wm81 wm522) rfl rfl rfl (by decide +kernel) ⟨(Nat.le_of_ble_eq_true rfl), (Nat.le_of_ble_eq_true rfl)⟩) (pv_preV hA hS hw hK 2 u0 hu0 (by decide) rfl []) rfl rfl hl.1 rfl (lv_room (Nat.le_of_ble_eq_true rfl)) dX2_hasInBorder_1 ⟨Nat.zero_le _, Nat.zero_le _⟩) hS (fun r4 s5 H locs hp3 hw hS => ?_)
  obtain ⟨err1, esr1, hzr1⟩ := hp3
  obtain rfl := esr1.symm
  obtain rfl := err1.symm
  refine lv_if_eq (tgt := 41) hx hb dX2_hasInBorder_4 (by decide) (fun c6 => ?_) (fun c6 => ?_)
  · skip
    replace h := ite_p c6 h
    refine lv_iconst (v := 0) hx hb dX2_hasInBorder_41 (by decide) ?_
    exact pez hx hb hr (is01_nar (Or.inl rfl)) hlocks hA hw hK hS ⟨Option.some.inj h, rfl, (Or.inl rfl)⟩ dX2_hasInBorder_42
  · skip
    replace h := ite_n c6 h
    refine lv_iload_n hx hb dX2_hasInBorder_7 rfl (lv_at hl 1 rfl) ?_
    refine lv_aload_n hx hb dX2_hasInBorder_8 rfl (lv_at hl 0 rfl) ?_
    obtain ⟨r7, e8, h⟩ := ob1_e h
    refine pcalli (va_runV (As := []) (rest := [.int x1]) ⟨hx, hb, hml, hown, hts⟩ (c_X2_borderX (l := l) (G := G) (tys := tys) (σ := σ) htys hu0 e8) (cwV 0 hts (gVA wm837 wm675 wm676 wm81 wm677) rfl rfl rfl (by decide +kernel) ⟨(Nat.le_of_ble_eq_true rfl), (Nat.le_of_ble_eq_true rfl)⟩) (pv_preV hA hS hw hK 2 u0 hu0 (by decide) rfl []) rfl rfl hl.1 rfl (lv_room (Nat.le_of_ble_eq_true rfl)) dX2_hasInBorder_9 ⟨Nat.zero_le _, Nat.zero_le _⟩) hS (fun r10 s11 H locs hp9 hw hS => ?_)
    obtain ⟨err7, esr7⟩ := hp9
    obtain rfl := esr7.symm
    obtain rfl := err7.symm
    refine lv_aload_n hx hb dX2_hasInBorder_12 rfl (lv_at hl 0 rfl) ?_
    obtain ⟨r12, e13, h⟩ := ob1_e h
    refine pcalli (va_runV (As := []) (rest := [.int r7, .int x1]) ⟨hx, hb, hml, hown, hts⟩ (c_X2_borderWide (l := l) (G := G) (tys := tys) (σ := σ) htys hu0 e13) (cwV 0 hts (gVA wm838 wm650 wm651 wm81 wm652) rfl rfl rfl (by decide +kernel) ⟨(Nat.le_of_ble_eq_true rfl), (Nat.le_of_ble_eq_true rfl)⟩) (pv_preV hA hS hw hK 2 u0 hu0 (by decide) rfl []) rfl rfl hl.1 rfl (lv_room (Nat.le_of_ble_eq_true rfl)) dX2_hasInBorder_13 ⟨Nat.zero_le _, Nat.zero_le _⟩) hS (fun r15 s16 H locs hp14 hw hS => ?_)
    obtain ⟨err12, esr12⟩ := hp14
    obtain rfl := esr12.symm
    obtain rfl := err12.symm
    obtain ⟨r17, e18, h⟩ := ob1_e h
    refine pcalli (va_runS (As := [.int x1, .int r7, .int r12]) (rest := []) ⟨hx, hb, hml, hown, hts⟩ (c_X2_isWithin (l := l) (G := G) (tys := tys) (σ := σ) htys  e18) (va_cwS 3 hts (gSA wm721 wm722 wm81 wm723) rfl rfl rfl (by decide +kernel) ⟨(Nat.le_of_ble_eq_true rfl), (Nat.le_of_ble_eq_true rfl)⟩) (pv_preS hA hS hw hK [.int x1, .int r7, .int r12]) rfl rfl hl.1 rfl (lv_room (Nat.le_of_ble_eq_true rfl)) dX2_hasInBorder_16 ⟨Nat.zero_le _, Nat.zero_le _⟩) hS (fun r20 s21 H locs hp19 hw hS => ?_)
    obtain ⟨err17, esr17, hzr17⟩ := hp19
    obtain rfl := esr17.symm
    obtain rfl := err17.symm
    refine lv_if_eq (tgt := 41) hx hb dX2_hasInBorder_19 (by decide) (fun c22 => ?_) (fun c22 => ?_)
    · skip
      replace h := ite_p c22 h
      refine lv_iconst (v := 0) hx hb dX2_hasInBorder_41 (by decide) ?_
      exact pez hx hb hr (is01_nar (Or.inl rfl)) hlocks hA hw hK hS ⟨Option.some.inj h, rfl, (Or.inl rfl)⟩ dX2_hasInBorder_42
    · skip
      replace h := ite_n c22 h
      refine lv_iload_n hx hb dX2_hasInBorder_22 rfl (lv_at hl 2 rfl) ?_
      refine lv_aload_n hx hb dX2_hasInBorder_23 rfl (lv_at hl 0 rfl) ?_
      obtain ⟨r23, e24, h⟩ := ob1_e h
      refine pcalli (va_runV (As := []) (rest := [.int x2]) ⟨hx, hb, hml, hown, hts⟩ (c_X2_borderY (l := l) (G := G) (tys := tys) (σ := σ) htys hu0 e24) (cwV 0 hts (gVA wm839 wm788 wm789 wm81 wm790) rfl rfl rfl (by decide +kernel) ⟨(Nat.le_of_ble_eq_true rfl), (Nat.le_of_ble_eq_true rfl)⟩) (pv_preV hA hS hw hK 2 u0 hu0 (by decide) rfl []) rfl rfl hl.1 rfl (lv_room (Nat.le_of_ble_eq_true rfl)) dX2_hasInBorder_24 ⟨Nat.zero_le _, Nat.zero_le _⟩) hS (fun r26 s27 H locs hp25 hw hS => ?_)
      obtain ⟨err23, esr23⟩ := hp25
      obtain rfl := esr23.symm
      obtain rfl := err23.symm
      refine lv_aload_n hx hb dX2_hasInBorder_27 rfl (lv_at hl 0 rfl) ?_
      obtain ⟨r28, e29, h⟩ := ob1_e h
      refine pcalli (va_runV (As := []) (rest := [.int r23, .int x2]) ⟨hx, hb, hml, hown, hts⟩ (c_X2_borderHigh (l := l) (G := G) (tys := tys) (σ := σ) htys hu0 e29) (cwV 0 hts (gVA wm840 wm659 wm660 wm81 wm661) rfl rfl rfl (by decide +kernel) ⟨(Nat.le_of_ble_eq_true rfl), (Nat.le_of_ble_eq_true rfl)⟩) (pv_preV hA hS hw hK 2 u0 hu0 (by decide) rfl []) rfl rfl hl.1 rfl (lv_room (Nat.le_of_ble_eq_true rfl)) dX2_hasInBorder_28 ⟨Nat.zero_le _, Nat.zero_le _⟩) hS (fun r31 s32 H locs hp30 hw hS => ?_)
      obtain ⟨err28, esr28⟩ := hp30
      obtain rfl := esr28.symm
      obtain rfl := err28.symm
      obtain ⟨r33, e34, h⟩ := ob1_e h
      refine pcalli (va_runS (As := [.int x2, .int r23, .int r28]) (rest := []) ⟨hx, hb, hml, hown, hts⟩ (c_X2_isWithin (l := l) (G := G) (tys := tys) (σ := σ) htys  e34) (va_cwS 3 hts (gSA wm721 wm722 wm81 wm723) rfl rfl rfl (by decide +kernel) ⟨(Nat.le_of_ble_eq_true rfl), (Nat.le_of_ble_eq_true rfl)⟩) (pv_preS hA hS hw hK [.int x2, .int r23, .int r28]) rfl rfl hl.1 rfl (lv_room (Nat.le_of_ble_eq_true rfl)) dX2_hasInBorder_31 ⟨Nat.zero_le _, Nat.zero_le _⟩) hS (fun r36 s37 H locs hp35 hw hS => ?_)
      obtain ⟨err33, esr33, hzr33⟩ := hp35
      obtain rfl := esr33.symm
      obtain rfl := err33.symm
      refine lv_if_eq (tgt := 41) hx hb dX2_hasInBorder_34 (by decide) (fun c38 => ?_) (fun c38 => ?_)
      · skip
        replace h := ite_p c38 h
        refine lv_iconst (v := 0) hx hb dX2_hasInBorder_41 (by decide) ?_
        exact pez hx hb hr (is01_nar (Or.inl rfl)) hlocks hA hw hK hS ⟨Option.some.inj h, rfl, (Or.inl rfl)⟩ dX2_hasInBorder_42
      · skip
        replace h := ite_n c38 h
        refine lv_iconst (v := 1) hx hb dX2_hasInBorder_37 (by decide) ?_
        refine lv_goto (tgt := 42) hx hb dX2_hasInBorder_38 (by decide) ?_
        exact pez hx hb hr (is01_nar (Or.inr rfl)) hlocks hA hw hK hS ⟨Option.some.inj h, rfl, (Or.inr rfl)⟩ dX2_hasInBorder_42
def f_X2_cutsOffAt_45  (σ : PvS) (ub0 : Nat) (xbs0 : Int32) : Option Int32 :=
  if (σ.2.1 2 4 ub0) = 0 then (some 0) else (if xbs0 = 0 then (some 1) else (some 0))
def f_X2_cutsOffAt_44  (σ : PvS) (ub0 : Nat) : Option Int32 :=
  f_X2_cutsOffAt_45 σ ub0 0
def f_X2_cutsOffAt (σ : PvS) (u0 : Nat) (x1 : Int32) (x2 : Int32) : Option Int32 :=
  ob1 (f_X2_isWithin σ x1 ((σ.2.1 2 5 u0) + (σ.2.1 2 11 u0)) (σ.2.1 2 7 u0)) (fun r3 => if r3 = 0 then (f_X2_cutsOffAt_44 σ u0) else (ob1 (f_X2_isWithin σ x2 ((σ.2.1 2 6 u0) + (σ.2.1 2 12 u0)) (σ.2.1 2 8 u0)) (fun r9 => if r9 = 0 then (f_X2_cutsOffAt_44 σ u0) else (f_X2_cutsOffAt_45 σ u0 1))))
set_option maxHeartbeats 4000000 in
set_option maxRecDepth 100000 in
theorem c_X2_cutsOffAt {l : Launch} {G : PvG} {tys : List (ClassId × FieldType)} {σ : PvS} (htys : tys = pvT G)  {u0 : Nat} {x1 : Int32} {x2 : Int32} (hu0 : u0 < pvM σ 2) {r : Int32} (h : f_X2_cutsOffAt σ u0 x1 x2 = some r) : Met l yX2_cutsOffAt (Cond.code yX2_cutsOffAt cX2_cutsOffAt 4 (some .boolean) :: WA) ({ frames := 1, cells := 0, slots := 0, locals := 22 }) (va_Pc [.ref (G.2.2.1 2 u0), .int x1, .int x2] (pvU G tys σ)) (va_Qi (fun r' σ' => r' = r ∧ σ' = σ ∧ is01 r') (pvU G tys) (pvB G)) 0 0 (pvB G) := by
  refine Met.ofW (cc := cX2_cutsOffAt) (maxL := 4) (ret := (some .boolean)) (by decide) rfl ?_
  intro p e s m args below meth c s₁ B hml hv
  obtain ⟨rfl, hw, hK, hA⟩ := hv
  have hx := B.exec
  have hb := B.bytes
  have hr := B.returns
  have hts0 := atoms_spec (ws := (Cond.code yX2_cutsOffAt cX2_cutsOffAt 4 (some .boolean) :: WA)) B.pre
  have hts : ∀ w ∈ WA, w.before _ s = true := fun w h => hts0 w (List.mem_cons_of_mem _ h)
  have hown : s.vm.findClass RX2 = some m.cls := findClass_of_methodNamed B.named
  have hlocks := B.notSynchronized
  have hS : va_S (pvB G) s.heap s.heap [] := va_S.rf
  have hl := lv_entry ([.ref (G.2.2.1 2 u0), .int x1, .int x2]) (n := 4) (Nat.le_of_ble_eq_true rfl)
  rw [lg_entry_eq]
  generalize (lg_sl ([.ref (G.2.2.1 2 u0), .int x1, .int x2]) ++ List.replicate (4 - (lg_sl ([.ref (G.2.2.1 2 u0), .int x1, .int x2])).length) Slot.unset).toArray = ls at hl ⊢
  have hl : lv_has ls 4 [(0, .ref (G.2.2.1 2 u0)), (1, .int x1), (2, .int x2)] := hl
  have hroot := pv_root hw
  unfold f_X2_cutsOffAt at h
  have blk45 : ∀ (ub0 : Nat) (xbs0 : Int32), (ub0 < pvM σ 2) → f_X2_cutsOffAt_45 σ ub0 xbs0 = some r → ∀ (H : Heap) (locs : List Loc), pvW G σ H → va_S (pvB G) s.heap H locs → ∀ (ls : Array Slot), lv_has ls 4 [(0, .ref (G.2.2.1 2 ub0))] → W p l e (headSpec (Cond.code yX2_cutsOffAt cX2_cutsOffAt 4 (some .boolean) :: WA) ({ frames := 1, cells := 0, slots := 0, locals := 22 } : Room)).room s m ([.ref (G.2.2.1 2 u0), .int x1, .int x2] : List Value).toArray below meth c H locs 0 0 (MQ below (va_Qi (fun r' σ' => r' = r ∧ σ' = σ ∧ is01 r') (pvU G tys) (pvB G)) ([.ref (G.2.2.1 2 u0), .int x1, .int x2] : List Value).toArray s 0 0 (pvB G)) (F0 m 45 ls [.int xbs0]) := by
    intro ub0 xbs0 hub0 h H locs hw hS ls hl
    unfold f_X2_cutsOffAt_45 at h
    refine lv_istore_n (lv' := [(3, .int xbs0), (0, .ref (G.2.2.1 2 ub0))]) hx hb dX2_cutsOffAt_45 rfl hl (by decide) rfl (fun ls hl => ?_)
    refine lv_aload_n hx hb dX2_cutsOffAt_46 rfl (lv_at hl 1 rfl) ?_
    refine pgI (C := RX2) (T := TX2) (N := 16) hx hb hts hown hK hw 2 4 ub0 hub0 (by decide) rfl rfl inF_X2 (by decide) rfl (hts _ wm100) (fun _ h9 => h9) dX2_cutsOffAt_47 ?_
    refine lv_if_eq (tgt := 61) hx hb dX2_cutsOffAt_50 (by decide) (fun c1 => ?_) (fun c1 => ?_)
    · skip
      replace h := ite_p c1 h
      refine lv_iconst (v := 0) hx hb dX2_cutsOffAt_61 (by decide) ?_
      exact pez hx hb hr (is01_nar (Or.inl rfl)) hlocks hA hw hK hS ⟨Option.some.inj h, rfl, (Or.inl rfl)⟩ dX2_cutsOffAt_62
    · skip
      replace h := ite_n c1 h
      refine lv_iload_n hx hb dX2_cutsOffAt_53 rfl (lv_at hl 0 rfl) ?_
      refine lv_if_ne (tgt := 61) hx hb dX2_cutsOffAt_54 (by decide) (fun c2 => ?_) (fun c2 => ?_)
      · skip
        replace h := ite_n c2 h
        refine lv_iconst (v := 0) hx hb dX2_cutsOffAt_61 (by decide) ?_
        exact pez hx hb hr (is01_nar (Or.inl rfl)) hlocks hA hw hK hS ⟨Option.some.inj h, rfl, (Or.inl rfl)⟩ dX2_cutsOffAt_62
      · skip
        replace h := ite_p c2 h
        refine lv_iconst (v := 1) hx hb dX2_cutsOffAt_57 (by decide) ?_
        refine lv_goto (tgt := 62) hx hb dX2_cutsOffAt_58 (by decide) ?_
        exact pez hx hb hr (is01_nar (Or.inr rfl)) hlocks hA hw hK hS ⟨Option.some.inj h, rfl, (Or.inr rfl)⟩ dX2_cutsOffAt_62
  have blk44 : ∀ (ub0 : Nat), (ub0 < pvM σ 2) → f_X2_cutsOffAt_44 σ ub0 = some r → ∀ (H : Heap) (locs : List Loc), pvW G σ H → va_S (pvB G) s.heap H locs → ∀ (ls : Array Slot), lv_has ls 4 [(0, .ref (G.2.2.1 2 ub0))] → W p l e (headSpec (Cond.code yX2_cutsOffAt cX2_cutsOffAt 4 (some .boolean) :: WA) ({ frames := 1, cells := 0, slots := 0, locals := 22 } : Room)).room s m ([.ref (G.2.2.1 2 u0), .int x1, .int x2] : List Value).toArray below meth c H locs 0 0 (MQ below (va_Qi (fun r' σ' => r' = r ∧ σ' = σ ∧ is01 r') (pvU G tys) (pvB G)) ([.ref (G.2.2.1 2 u0), .int x1, .int x2] : List Value).toArray s 0 0 (pvB G)) (F0 m 44 ls []) := by
    intro ub0 hub0 h H locs hw hS ls hl
    unfold f_X2_cutsOffAt_44 at h
    refine lv_iconst (v := 0) hx hb dX2_cutsOffAt_44 (by decide) ?_
    exact blk45 ub0 0 hub0 h _ _ hw hS ls (lv_sub hl [0] rfl)
  refine lv_iload_n hx hb dX2_cutsOffAt_0 rfl (lv_at hl 1 rfl) ?_
  refine lv_aload_n hx hb dX2_cutsOffAt_1 rfl (lv_at hl 0 rfl) ?_
  refine pgI (C := RX2) (T := TX2) (N := 16) hx hb hts hown hK hw 2 5 u0 hu0 (by decide) rfl rfl inF_X2 (by decide) rfl (hts _ wm101) (fun _ h9 => h9) dX2_cutsOffAt_2 ?_
  refine lv_aload_n hx hb dX2_cutsOffAt_5 rfl (lv_at hl 0 rfl) ?_
  refine pgI (C := RX2) (T := TX2) (N := 16) hx hb hts hown hK hw 2 11 u0 hu0 (by decide) rfl rfl inF_X2 (by decide) rfl (hts _ wm107) (fun _ h9 => h9) dX2_cutsOffAt_6 ?_
  refine lv_iadd hx hb dX2_cutsOffAt_9 ?_
  refine lv_aload_n hx hb dX2_cutsOffAt_10 rfl (lv_at hl 0 rfl) ?_
  refine pgI (C := RX2) (T := TX2) (N := 16) hx hb hts hown hK hw 2 7 u0 hu0 (by decide) rfl rfl inF_X2 (by decide) rfl (hts _ wm103) (fun _ h9 => h9) dX2_cutsOffAt_11 ?_
  obtain ⟨r3, e4, h⟩ := ob1_e h
  refine pcalli (va_runS (As := [.int x1, .int ((σ.2.1 2 5 u0) + (σ.2.1 2 11 u0)), .int (σ.2.1 2 7 u0)]) (rest := []) ⟨hx, hb, hml, hown, hts⟩ (c_X2_isWithin (l := l) (G := G) (tys := tys) (σ := σ) htys  e4) (va_cwS 3 hts (gSA wm721 wm722 wm81 wm723) rfl rfl rfl (by decide +kernel) ⟨(Nat.le_of_ble_eq_true rfl), (Nat.le_of_ble_eq_true rfl)⟩) (pv_preS hA hS hw hK [.int x1, .int ((σ.2.1 2 5 u0) + (σ.2.1 2 11 u0)), .int (σ.2.1 2 7 u0)]) rfl rfl hl.1 rfl (lv_room (Nat.le_of_ble_eq_true rfl)) dX2_cutsOffAt_14 ⟨Nat.zero_le _, Nat.zero_le _⟩) hS (fun r6 s7 H locs hp5 hw hS => ?_)
  obtain ⟨err3, esr3, hzr3⟩ := hp5
  obtain rfl := esr3.symm
  obtain rfl := err3.symm
  refine lv_if_eq (tgt := 44) hx hb dX2_cutsOffAt_17 (by decide) (fun c8 => ?_) (fun c8 => ?_)
  · skip
    replace h := ite_p c8 h
    exact blk44 u0 hu0 h _ _ hw hS ls (lv_sub hl [0] rfl)
  · skip
    replace h := ite_n c8 h
    refine lv_iload_n hx hb dX2_cutsOffAt_20 rfl (lv_at hl 2 rfl) ?_
    refine lv_aload_n hx hb dX2_cutsOffAt_21 rfl (lv_at hl 0 rfl) ?_
    refine pgI (C := RX2) (T := TX2) (N := 16) hx hb hts hown hK hw 2 6 u0 hu0 (by decide) rfl rfl inF_X2 (by decide) rfl (hts _ wm102) (fun _ h9 => h9) dX2_cutsOffAt_22 ?_
    refine lv_aload_n hx hb dX2_cutsOffAt_25 rfl (lv_at hl 0 rfl) ?_
    refine pgI (C := RX2) (T := TX2) (N := 16) hx hb hts hown hK hw 2 12 u0 hu0 (by decide) rfl rfl inF_X2 (by decide) rfl (hts _ wm108) (fun _ h9 => h9) dX2_cutsOffAt_26 ?_
    refine lv_iadd hx hb dX2_cutsOffAt_29 ?_
    refine lv_aload_n hx hb dX2_cutsOffAt_30 rfl (lv_at hl 0 rfl) ?_
    refine pgI (C := RX2) (T := TX2) (N := 16) hx hb hts hown hK hw 2 8 u0 hu0 (by decide) rfl rfl inF_X2 (by decide) rfl (hts _ wm104) (fun _ h9 => h9) dX2_cutsOffAt_31 ?_
    obtain ⟨r9, e10, h⟩ := ob1_e h
    refine pcalli (va_runS (As := [.int x2, .int ((σ.2.1 2 6 u0) + (σ.2.1 2 12 u0)), .int (σ.2.1 2 8 u0)]) (rest := []) ⟨hx, hb, hml, hown, hts⟩ (c_X2_isWithin (l := l) (G := G) (tys := tys) (σ := σ) htys  e10) (va_cwS 3 hts (gSA wm721 wm722 wm81 wm723) rfl rfl rfl (by decide +kernel) ⟨(Nat.le_of_ble_eq_true rfl), (Nat.le_of_ble_eq_true rfl)⟩) (pv_preS hA hS hw hK [.int x2, .int ((σ.2.1 2 6 u0) + (σ.2.1 2 12 u0)), .int (σ.2.1 2 8 u0)]) rfl rfl hl.1 rfl (lv_room (Nat.le_of_ble_eq_true rfl)) dX2_cutsOffAt_34 ⟨Nat.zero_le _, Nat.zero_le _⟩) hS (fun r12 s13 H locs hp11 hw hS => ?_)
    obtain ⟨err9, esr9, hzr9⟩ := hp11
    obtain rfl := esr9.symm
    obtain rfl := err9.symm
    refine lv_if_eq (tgt := 44) hx hb dX2_cutsOffAt_37 (by decide) (fun c14 => ?_) (fun c14 => ?_)
    · skip
      replace h := ite_p c14 h
      exact blk44 u0 hu0 h _ _ hw hS ls (lv_sub hl [0] rfl)
    · skip
      replace h := ite_n c14 h
      refine lv_iconst (v := 1) hx hb dX2_cutsOffAt_40 (by decide) ?_
      refine lv_goto (tgt := 45) hx hb dX2_cutsOffAt_41 (by decide) ?_
      exact blk45 u0 1 hu0 h _ _ hw hS ls (lv_sub hl [0] rfl)
def f_X2_setWord (σ : PvS) (u0 : Nat) (x1 : Int32) (x2 : Int32) (x3 : Int32) : Option PvS :=
  if x1 < 0 then (some σ) else (if (nI (pvLen σ 32 u0)) ≤ x1 then (some σ) else (if (nI (pvLen σ 33 u0)) ≤ x1 then (some σ) else (gd (vin x1 (pvLen σ 32 u0)) (nm (pvA σ 32 u0 (x1.toNatClampNeg) x2) (fun σ5 => gd (vin x1 (pvLen σ5 33 u0)) (nm (pvA σ5 33 u0 (x1.toNatClampNeg) x3) (fun σ7 => some σ7)))))))
set_option maxHeartbeats 4000000 in
set_option maxRecDepth 100000 in
theorem c_X2_setWord {l : Launch} {G : PvG} {tys : List (ClassId × FieldType)} {σ : PvS} (htys : tys = pvT G)  {u0 : Nat} {x1 : Int32} {x2 : Int32} {x3 : Int32} (hu0 : u0 < pvM σ 2) {σ1 : PvS} (h : f_X2_setWord σ u0 x1 x2 x3 = some σ1) : Met l yX2_setWord (Cond.code yX2_setWord cX2_setWord 4 none :: WA) ({ frames := 0, cells := 0, slots := 0, locals := 0 }) (va_Pc [.ref (G.2.2.1 2 u0), .int x1, .int x2, .int x3] (pvU G tys σ)) (va_Qv (fun σ' => σ' = σ1 ∧ σ'.1 = σ.1) (pvU G tys) (pvB G)) 0 0 (pvB G) := by
  refine Met.ofW (cc := cX2_setWord) (maxL := 4) (ret := none) (by decide) rfl ?_
  intro p e s m args below meth c s₁ B hml hv
  obtain ⟨rfl, hw, hK, hA⟩ := hv
  have hx := B.exec
  have hb := B.bytes
  have hr := B.returns
  have hts0 := atoms_spec (ws := (Cond.code yX2_setWord cX2_setWord 4 none :: WA)) B.pre
  have hts : ∀ w ∈ WA, w.before _ s = true := fun w h => hts0 w (List.mem_cons_of_mem _ h)
  have hown : s.vm.findClass RX2 = some m.cls := findClass_of_methodNamed B.named
  have hlocks := B.notSynchronized
  have hS : va_S (pvB G) s.heap s.heap [] := va_S.rf
  have hl := lv_entry ([.ref (G.2.2.1 2 u0), .int x1, .int x2, .int x3]) (n := 4) (Nat.le_of_ble_eq_true rfl)
  rw [lg_entry_eq]
  generalize (lg_sl ([.ref (G.2.2.1 2 u0), .int x1, .int x2, .int x3]) ++ List.replicate (4 - (lg_sl ([.ref (G.2.2.1 2 u0), .int x1, .int x2, .int x3])).length) Slot.unset).toArray = ls at hl ⊢
  have hl : lv_has ls 4 [(0, .ref (G.2.2.1 2 u0)), (1, .int x1), (2, .int x2), (3, .int x3)] := hl
  have hroot := pv_root hw
  unfold f_X2_setWord at h
  refine lv_iload_n hx hb dX2_setWord_0 rfl (lv_at hl 1 rfl) ?_
  refine lv_if_lt (tgt := 36) hx hb dX2_setWord_1 (by decide) (fun c1 => ?_) (fun c1 => ?_)
  · skip
    replace h := ite_p c1 h
    exact pev hx hb hr hlocks hA hw hK hS (psv h rfl) dX2_setWord_36
  · skip
    replace h := ite_n c1 h
    refine lv_iload_n hx hb dX2_setWord_4 rfl (lv_at hl 1 rfl) ?_
    refine lv_aload_n hx hb dX2_setWord_5 rfl (lv_at hl 0 rfl) ?_
    refine pgL (C := RX2) (T := TX2) (N := 16) hx hb hts hown hK hw 2 14 u0 hu0 (by decide) rfl rfl inF_X2 (by decide) (v := .ref (G.2.2.1 32 u0)) rfl (hts _ wm114) (fun _ h9 => h9) dX2_setWord_6 ?_
    refine palen hx hb hK htys hw 32 u0 hu0 rfl (by decide) dX2_setWord_9 ?_
    refine lv_icmp_ge (tgt := 36) hx hb dX2_setWord_10 (by decide) (fun c2 => ?_) (fun c2 => ?_)
    · skip
      replace h := ite_p c2 h
      exact pev hx hb hr hlocks hA hw hK hS (psv h rfl) dX2_setWord_36
    · skip
      replace h := ite_n c2 h
      refine lv_iload_n hx hb dX2_setWord_13 rfl (lv_at hl 1 rfl) ?_
      refine lv_aload_n hx hb dX2_setWord_14 rfl (lv_at hl 0 rfl) ?_
      refine pgL (C := RX2) (T := TX2) (N := 16) hx hb hts hown hK hw 2 15 u0 hu0 (by decide) rfl rfl inF_X2 (by decide) (v := .ref (G.2.2.1 33 u0)) rfl (hts _ wm115) (fun _ h9 => h9) dX2_setWord_15 ?_
      refine palen hx hb hK htys hw 33 u0 hu0 rfl (by decide) dX2_setWord_18 ?_
      refine lv_icmp_ge (tgt := 36) hx hb dX2_setWord_19 (by decide) (fun c3 => ?_) (fun c3 => ?_)
      · skip
        replace h := ite_p c3 h
        exact pev hx hb hr hlocks hA hw hK hS (psv h rfl) dX2_setWord_36
      · skip
        replace h := ite_n c3 h
        refine lv_aload_n hx hb dX2_setWord_22 rfl (lv_at hl 0 rfl) ?_
        refine pgL (C := RX2) (T := TX2) (N := 16) hx hb hts hown hK hw 2 14 u0 hu0 (by decide) rfl rfl inF_X2 (by decide) (v := .ref (G.2.2.1 32 u0)) rfl (hts _ wm114) (fun _ h9 => h9) dX2_setWord_23 ?_
        refine lv_iload_n hx hb dX2_setWord_26 rfl (lv_at hl 1 rfl) ?_
        refine lv_iload_n hx hb dX2_setWord_27 rfl (lv_at hl 2 rfl) ?_
        obtain ⟨g4, h⟩ := gd_e h
        obtain ⟨σ5, eσ5, h⟩ := nq_e h
        refine ppA hx hb hK htys hw hS 32 u0 hu0 rfl (by decide) g4 dX2_setWord_28 (fun H locs hw hS => ?_)
        rw [← eσ5] at hw
        have hcσ5 : σ5.1 = σ.1 := by rw [eσ5]; exact rfl
        refine lv_aload_n hx hb dX2_setWord_29 rfl (lv_at hl 0 rfl) ?_
        refine pgL (C := RX2) (T := TX2) (N := 16) hx hb hts hown hK hw 2 15 u0 (lt_c hcσ5 2 hu0) (by decide) rfl rfl inF_X2 (by decide) (v := .ref (G.2.2.1 33 u0)) rfl (hts _ wm115) (fun _ h9 => h9) dX2_setWord_30 ?_
        refine lv_iload_n hx hb dX2_setWord_33 rfl (lv_at hl 1 rfl) ?_
        refine lv_iload_n hx hb dX2_setWord_34 rfl (lv_at hl 3 rfl) ?_
        obtain ⟨g6, h⟩ := gd_e h
        obtain ⟨σ7, eσ7, h⟩ := nq_e h
        refine ppA hx hb hK htys hw hS 33 u0 (lt_c hcσ5 33 hu0) rfl (by decide) g6 dX2_setWord_35 (fun H locs hw hS => ?_)
        rw [← eσ7] at hw
        have hcσ7 : σ7.1 = σ.1 := by rw [eσ7]; exact hcσ5
        exact pev hx hb hr hlocks hA hw hK hS (psv h hcσ7) dX2_setWord_36
def f_X2_wordLeft_26  (σ : PvS) (ub0 : Nat) (xb1 : Int32) (xbs0 : Int32) : Option Int32 :=
  if xbs0 = 0 then (some (-9999)) else (gd (vin xb1 (pvLen σ 32 ub0)) (some ((σ.2.2.2.1 32 ub0 xb1.toNatClampNeg) + (σ.2.1 2 11 ub0))))
def f_X2_wordLeft_25  (σ : PvS) (ub0 : Nat) (xb1 : Int32) : Option Int32 :=
  f_X2_wordLeft_26 σ ub0 xb1 0
def f_X2_wordLeft (σ : PvS) (u0 : Nat) (x1 : Int32) : Option Int32 :=
  if (σ.2.1 2 0 u0) = 1 then (if x1 < 0 then (f_X2_wordLeft_25 σ u0 x1) else (if (nI (pvLen σ 32 u0)) ≤ x1 then (f_X2_wordLeft_25 σ u0 x1) else (f_X2_wordLeft_26 σ u0 x1 1))) else (f_X2_wordLeft_25 σ u0 x1)
set_option maxHeartbeats 4000000 in
set_option maxRecDepth 100000 in
theorem c_X2_wordLeft {l : Launch} {G : PvG} {tys : List (ClassId × FieldType)} {σ : PvS} (htys : tys = pvT G)  {u0 : Nat} {x1 : Int32} (hu0 : u0 < pvM σ 2) {r : Int32} (h : f_X2_wordLeft σ u0 x1 = some r) : Met l yX2_wordLeft (Cond.code yX2_wordLeft cX2_wordLeft 3 (some .int) :: WA) ({ frames := 0, cells := 0, slots := 0, locals := 0 }) (va_Pc [.ref (G.2.2.1 2 u0), .int x1] (pvU G tys σ)) (va_Qi (fun r' σ' => r' = r ∧ σ' = σ) (pvU G tys) (pvB G)) 0 0 (pvB G) := by
  refine Met.ofW (cc := cX2_wordLeft) (maxL := 3) (ret := (some .int)) (by decide) rfl ?_
  intro p e s m args below meth c s₁ B hml hv
  obtain ⟨rfl, hw, hK, hA⟩ := hv
  have hx := B.exec
  have hb := B.bytes
  have hr := B.returns
  have hts0 := atoms_spec (ws := (Cond.code yX2_wordLeft cX2_wordLeft 3 (some .int) :: WA)) B.pre
  have hts : ∀ w ∈ WA, w.before _ s = true := fun w h => hts0 w (List.mem_cons_of_mem _ h)
  have hown : s.vm.findClass RX2 = some m.cls := findClass_of_methodNamed B.named
  have hlocks := B.notSynchronized
  have hS : va_S (pvB G) s.heap s.heap [] := va_S.rf
  have hl := lv_entry ([.ref (G.2.2.1 2 u0), .int x1]) (n := 3) (Nat.le_of_ble_eq_true rfl)
  rw [lg_entry_eq]
  generalize (lg_sl ([.ref (G.2.2.1 2 u0), .int x1]) ++ List.replicate (3 - (lg_sl ([.ref (G.2.2.1 2 u0), .int x1])).length) Slot.unset).toArray = ls at hl ⊢
  have hl : lv_has ls 3 [(0, .ref (G.2.2.1 2 u0)), (1, .int x1)] := hl
  have hroot := pv_root hw
  unfold f_X2_wordLeft at h
  have blk26 : ∀ (ub0 : Nat) (xb1 : Int32) (xbs0 : Int32), (ub0 < pvM σ 2) → f_X2_wordLeft_26 σ ub0 xb1 xbs0 = some r → ∀ (H : Heap) (locs : List Loc), pvW G σ H → va_S (pvB G) s.heap H locs → ∀ (ls : Array Slot), lv_has ls 3 [(0, .ref (G.2.2.1 2 ub0)), (1, .int xb1)] → W p l e (headSpec (Cond.code yX2_wordLeft cX2_wordLeft 3 (some .int) :: WA) ({ frames := 0, cells := 0, slots := 0, locals := 0 } : Room)).room s m ([.ref (G.2.2.1 2 u0), .int x1] : List Value).toArray below meth c H locs 0 0 (MQ below (va_Qi (fun r' σ' => r' = r ∧ σ' = σ) (pvU G tys) (pvB G)) ([.ref (G.2.2.1 2 u0), .int x1] : List Value).toArray s 0 0 (pvB G)) (F0 m 26 ls [.int xbs0]) := by
    intro ub0 xb1 xbs0 hub0 h H locs hw hS ls hl
    unfold f_X2_wordLeft_26 at h
    refine lv_istore_n (lv' := [(2, .int xbs0), (0, .ref (G.2.2.1 2 ub0)), (1, .int xb1)]) hx hb dX2_wordLeft_26 rfl hl (by decide) rfl (fun ls hl => ?_)
    refine lv_iload_n hx hb dX2_wordLeft_27 rfl (lv_at hl 0 rfl) ?_
    refine lv_if_eq (tgt := 45) hx hb dX2_wordLeft_28 (by decide) (fun c1 => ?_) (fun c1 => ?_)
    · skip
      replace h := ite_p c1 h
      refine lv_sipush (v := (-9999)) hx hb dX2_wordLeft_45 (by decide) ?_
      exact pei hx hb hr hlocks hA hw hK hS ⟨Option.some.inj h, rfl⟩ dX2_wordLeft_48
    · skip
      replace h := ite_n c1 h
      refine lv_aload_n hx hb dX2_wordLeft_31 rfl (lv_at hl 1 rfl) ?_
      refine pgL (C := RX2) (T := TX2) (N := 16) hx hb hts hown hK hw 2 14 ub0 hub0 (by decide) rfl rfl inF_X2 (by decide) (v := .ref (G.2.2.1 32 ub0)) rfl (hts _ wm114) (fun _ h9 => h9) dX2_wordLeft_32 ?_
      refine lv_iload_n hx hb dX2_wordLeft_35 rfl (lv_at hl 2 rfl) ?_
      obtain ⟨g2, h⟩ := gd_e h
      refine pgA hx hb hK htys hw 32 ub0 hub0 rfl (by decide) g2 dX2_wordLeft_36 ?_
      refine lv_aload_n hx hb dX2_wordLeft_37 rfl (lv_at hl 1 rfl) ?_
      refine pgI (C := RX2) (T := TX2) (N := 16) hx hb hts hown hK hw 2 11 ub0 hub0 (by decide) rfl rfl inF_X2 (by decide) rfl (hts _ wm107) (fun _ h9 => h9) dX2_wordLeft_38 ?_
      refine lv_iadd hx hb dX2_wordLeft_41 ?_
      refine lv_goto (tgt := 48) hx hb dX2_wordLeft_42 (by decide) ?_
      exact pei hx hb hr hlocks hA hw hK hS ⟨Option.some.inj h, rfl⟩ dX2_wordLeft_48
  have blk25 : ∀ (ub0 : Nat) (xb1 : Int32), (ub0 < pvM σ 2) → f_X2_wordLeft_25 σ ub0 xb1 = some r → ∀ (H : Heap) (locs : List Loc), pvW G σ H → va_S (pvB G) s.heap H locs → ∀ (ls : Array Slot), lv_has ls 3 [(0, .ref (G.2.2.1 2 ub0)), (1, .int xb1)] → W p l e (headSpec (Cond.code yX2_wordLeft cX2_wordLeft 3 (some .int) :: WA) ({ frames := 0, cells := 0, slots := 0, locals := 0 } : Room)).room s m ([.ref (G.2.2.1 2 u0), .int x1] : List Value).toArray below meth c H locs 0 0 (MQ below (va_Qi (fun r' σ' => r' = r ∧ σ' = σ) (pvU G tys) (pvB G)) ([.ref (G.2.2.1 2 u0), .int x1] : List Value).toArray s 0 0 (pvB G)) (F0 m 25 ls []) := by
    intro ub0 xb1 hub0 h H locs hw hS ls hl
    unfold f_X2_wordLeft_25 at h
    refine lv_iconst (v := 0) hx hb dX2_wordLeft_25 (by decide) ?_
    exact blk26 ub0 xb1 0 hub0 h _ _ hw hS ls (lv_sub hl [0, 1] rfl)
  refine lv_aload_n hx hb dX2_wordLeft_0 rfl (lv_at hl 0 rfl) ?_
  refine pgI (C := RX2) (T := TX2) (N := 16) hx hb hts hown hK hw 2 0 u0 hu0 (by decide) rfl rfl inF_X2 (by decide) rfl (hts _ wm96) (fun _ h9 => h9) dX2_wordLeft_1 ?_
  refine lv_iconst (v := 1) hx hb dX2_wordLeft_4 (by decide) ?_
  refine lv_icmp_ne (tgt := 25) hx hb dX2_wordLeft_5 (by decide) (fun c3 => ?_) (fun c3 => ?_)
  · skip
    replace h := ite_n c3 h
    exact blk25 u0 x1 hu0 h _ _ hw hS ls (lv_sub hl [0, 1] rfl)
  · skip
    replace h := ite_p c3 h
    refine lv_iload_n hx hb dX2_wordLeft_8 rfl (lv_at hl 1 rfl) ?_
    refine lv_if_lt (tgt := 25) hx hb dX2_wordLeft_9 (by decide) (fun c4 => ?_) (fun c4 => ?_)
    · skip
      replace h := ite_p c4 h
      exact blk25 u0 x1 hu0 h _ _ hw hS ls (lv_sub hl [0, 1] rfl)
    · skip
      replace h := ite_n c4 h
      refine lv_iload_n hx hb dX2_wordLeft_12 rfl (lv_at hl 1 rfl) ?_
      refine lv_aload_n hx hb dX2_wordLeft_13 rfl (lv_at hl 0 rfl) ?_
      refine pgL (C := RX2) (T := TX2) (N := 16) hx hb hts hown hK hw 2 14 u0 hu0 (by decide) rfl rfl inF_X2 (by decide) (v := .ref (G.2.2.1 32 u0)) rfl (hts _ wm114) (fun _ h9 => h9) dX2_wordLeft_14 ?_
      refine palen hx hb hK htys hw 32 u0 hu0 rfl (by decide) dX2_wordLeft_17 ?_
      refine lv_icmp_ge (tgt := 25) hx hb dX2_wordLeft_18 (by decide) (fun c5 => ?_) (fun c5 => ?_)
      · skip
        replace h := ite_p c5 h
        exact blk25 u0 x1 hu0 h _ _ hw hS ls (lv_sub hl [0, 1] rfl)
      · skip
        replace h := ite_n c5 h
        refine lv_iconst (v := 1) hx hb dX2_wordLeft_21 (by decide) ?_
        refine lv_goto (tgt := 26) hx hb dX2_wordLeft_22 (by decide) ?_
        exact blk26 u0 x1 1 hu0 h _ _ hw hS ls (lv_sub hl [0, 1] rfl)
def f_X2_wordTop_26  (σ : PvS) (ub0 : Nat) (xb1 : Int32) (xbs0 : Int32) : Option Int32 :=
  if xbs0 = 0 then (some (-9999)) else (gd (vin xb1 (pvLen σ 33 ub0)) (some ((σ.2.2.2.1 33 ub0 xb1.toNatClampNeg) + (σ.2.1 2 12 ub0))))
def f_X2_wordTop_25  (σ : PvS) (ub0 : Nat) (xb1 : Int32) : Option Int32 :=
  f_X2_wordTop_26 σ ub0 xb1 0
def f_X2_wordTop (σ : PvS) (u0 : Nat) (x1 : Int32) : Option Int32 :=
  if (σ.2.1 2 0 u0) = 1 then (if x1 < 0 then (f_X2_wordTop_25 σ u0 x1) else (if (nI (pvLen σ 33 u0)) ≤ x1 then (f_X2_wordTop_25 σ u0 x1) else (f_X2_wordTop_26 σ u0 x1 1))) else (f_X2_wordTop_25 σ u0 x1)
set_option maxHeartbeats 4000000 in
set_option maxRecDepth 100000 in
theorem c_X2_wordTop {l : Launch} {G : PvG} {tys : List (ClassId × FieldType)} {σ : PvS} (htys : tys = pvT G)  {u0 : Nat} {x1 : Int32} (hu0 : u0 < pvM σ 2) {r : Int32} (h : f_X2_wordTop σ u0 x1 = some r) : Met l yX2_wordTop (Cond.code yX2_wordTop cX2_wordTop 3 (some .int) :: WA) ({ frames := 0, cells := 0, slots := 0, locals := 0 }) (va_Pc [.ref (G.2.2.1 2 u0), .int x1] (pvU G tys σ)) (va_Qi (fun r' σ' => r' = r ∧ σ' = σ) (pvU G tys) (pvB G)) 0 0 (pvB G) := by
  refine Met.ofW (cc := cX2_wordTop) (maxL := 3) (ret := (some .int)) (by decide) rfl ?_
  intro p e s m args below meth c s₁ B hml hv
  obtain ⟨rfl, hw, hK, hA⟩ := hv
  have hx := B.exec
  have hb := B.bytes
  have hr := B.returns
  have hts0 := atoms_spec (ws := (Cond.code yX2_wordTop cX2_wordTop 3 (some .int) :: WA)) B.pre
  have hts : ∀ w ∈ WA, w.before _ s = true := fun w h => hts0 w (List.mem_cons_of_mem _ h)
  have hown : s.vm.findClass RX2 = some m.cls := findClass_of_methodNamed B.named
  have hlocks := B.notSynchronized
  have hS : va_S (pvB G) s.heap s.heap [] := va_S.rf
  have hl := lv_entry ([.ref (G.2.2.1 2 u0), .int x1]) (n := 3) (Nat.le_of_ble_eq_true rfl)
  rw [lg_entry_eq]
  generalize (lg_sl ([.ref (G.2.2.1 2 u0), .int x1]) ++ List.replicate (3 - (lg_sl ([.ref (G.2.2.1 2 u0), .int x1])).length) Slot.unset).toArray = ls at hl ⊢
  have hl : lv_has ls 3 [(0, .ref (G.2.2.1 2 u0)), (1, .int x1)] := hl
  have hroot := pv_root hw
  unfold f_X2_wordTop at h
  have blk26 : ∀ (ub0 : Nat) (xb1 : Int32) (xbs0 : Int32), (ub0 < pvM σ 2) → f_X2_wordTop_26 σ ub0 xb1 xbs0 = some r → ∀ (H : Heap) (locs : List Loc), pvW G σ H → va_S (pvB G) s.heap H locs → ∀ (ls : Array Slot), lv_has ls 3 [(0, .ref (G.2.2.1 2 ub0)), (1, .int xb1)] → W p l e (headSpec (Cond.code yX2_wordTop cX2_wordTop 3 (some .int) :: WA) ({ frames := 0, cells := 0, slots := 0, locals := 0 } : Room)).room s m ([.ref (G.2.2.1 2 u0), .int x1] : List Value).toArray below meth c H locs 0 0 (MQ below (va_Qi (fun r' σ' => r' = r ∧ σ' = σ) (pvU G tys) (pvB G)) ([.ref (G.2.2.1 2 u0), .int x1] : List Value).toArray s 0 0 (pvB G)) (F0 m 26 ls [.int xbs0]) := by
    intro ub0 xb1 xbs0 hub0 h H locs hw hS ls hl
    unfold f_X2_wordTop_26 at h
    refine lv_istore_n (lv' := [(2, .int xbs0), (0, .ref (G.2.2.1 2 ub0)), (1, .int xb1)]) hx hb dX2_wordTop_26 rfl hl (by decide) rfl (fun ls hl => ?_)
    refine lv_iload_n hx hb dX2_wordTop_27 rfl (lv_at hl 0 rfl) ?_
    refine lv_if_eq (tgt := 45) hx hb dX2_wordTop_28 (by decide) (fun c1 => ?_) (fun c1 => ?_)
    · skip
      replace h := ite_p c1 h
      refine lv_sipush (v := (-9999)) hx hb dX2_wordTop_45 (by decide) ?_
      exact pei hx hb hr hlocks hA hw hK hS ⟨Option.some.inj h, rfl⟩ dX2_wordTop_48
    · skip
      replace h := ite_n c1 h
      refine lv_aload_n hx hb dX2_wordTop_31 rfl (lv_at hl 1 rfl) ?_
      refine pgL (C := RX2) (T := TX2) (N := 16) hx hb hts hown hK hw 2 15 ub0 hub0 (by decide) rfl rfl inF_X2 (by decide) (v := .ref (G.2.2.1 33 ub0)) rfl (hts _ wm115) (fun _ h9 => h9) dX2_wordTop_32 ?_
      refine lv_iload_n hx hb dX2_wordTop_35 rfl (lv_at hl 2 rfl) ?_
      obtain ⟨g2, h⟩ := gd_e h
      refine pgA hx hb hK htys hw 33 ub0 hub0 rfl (by decide) g2 dX2_wordTop_36 ?_
      refine lv_aload_n hx hb dX2_wordTop_37 rfl (lv_at hl 1 rfl) ?_
      refine pgI (C := RX2) (T := TX2) (N := 16) hx hb hts hown hK hw 2 12 ub0 hub0 (by decide) rfl rfl inF_X2 (by decide) rfl (hts _ wm108) (fun _ h9 => h9) dX2_wordTop_38 ?_
      refine lv_iadd hx hb dX2_wordTop_41 ?_
      refine lv_goto (tgt := 48) hx hb dX2_wordTop_42 (by decide) ?_
      exact pei hx hb hr hlocks hA hw hK hS ⟨Option.some.inj h, rfl⟩ dX2_wordTop_48
  have blk25 : ∀ (ub0 : Nat) (xb1 : Int32), (ub0 < pvM σ 2) → f_X2_wordTop_25 σ ub0 xb1 = some r → ∀ (H : Heap) (locs : List Loc), pvW G σ H → va_S (pvB G) s.heap H locs → ∀ (ls : Array Slot), lv_has ls 3 [(0, .ref (G.2.2.1 2 ub0)), (1, .int xb1)] → W p l e (headSpec (Cond.code yX2_wordTop cX2_wordTop 3 (some .int) :: WA) ({ frames := 0, cells := 0, slots := 0, locals := 0 } : Room)).room s m ([.ref (G.2.2.1 2 u0), .int x1] : List Value).toArray below meth c H locs 0 0 (MQ below (va_Qi (fun r' σ' => r' = r ∧ σ' = σ) (pvU G tys) (pvB G)) ([.ref (G.2.2.1 2 u0), .int x1] : List Value).toArray s 0 0 (pvB G)) (F0 m 25 ls []) := by
    intro ub0 xb1 hub0 h H locs hw hS ls hl
    unfold f_X2_wordTop_25 at h
    refine lv_iconst (v := 0) hx hb dX2_wordTop_25 (by decide) ?_
    exact blk26 ub0 xb1 0 hub0 h _ _ hw hS ls (lv_sub hl [0, 1] rfl)
  refine lv_aload_n hx hb dX2_wordTop_0 rfl (lv_at hl 0 rfl) ?_
  refine pgI (C := RX2) (T := TX2) (N := 16) hx hb hts hown hK hw 2 0 u0 hu0 (by decide) rfl rfl inF_X2 (by decide) rfl (hts _ wm96) (fun _ h9 => h9) dX2_wordTop_1 ?_
  refine lv_iconst (v := 1) hx hb dX2_wordTop_4 (by decide) ?_
  refine lv_icmp_ne (tgt := 25) hx hb dX2_wordTop_5 (by decide) (fun c3 => ?_) (fun c3 => ?_)
  · skip
    replace h := ite_n c3 h
    exact blk25 u0 x1 hu0 h _ _ hw hS ls (lv_sub hl [0, 1] rfl)
  · skip
    replace h := ite_p c3 h
    refine lv_iload_n hx hb dX2_wordTop_8 rfl (lv_at hl 1 rfl) ?_
    refine lv_if_lt (tgt := 25) hx hb dX2_wordTop_9 (by decide) (fun c4 => ?_) (fun c4 => ?_)
    · skip
      replace h := ite_p c4 h
      exact blk25 u0 x1 hu0 h _ _ hw hS ls (lv_sub hl [0, 1] rfl)
    · skip
      replace h := ite_n c4 h
      refine lv_iload_n hx hb dX2_wordTop_12 rfl (lv_at hl 1 rfl) ?_
      refine lv_aload_n hx hb dX2_wordTop_13 rfl (lv_at hl 0 rfl) ?_
      refine pgL (C := RX2) (T := TX2) (N := 16) hx hb hts hown hK hw 2 15 u0 hu0 (by decide) rfl rfl inF_X2 (by decide) (v := .ref (G.2.2.1 33 u0)) rfl (hts _ wm115) (fun _ h9 => h9) dX2_wordTop_14 ?_
      refine palen hx hb hK htys hw 33 u0 hu0 rfl (by decide) dX2_wordTop_17 ?_
      refine lv_icmp_ge (tgt := 25) hx hb dX2_wordTop_18 (by decide) (fun c5 => ?_) (fun c5 => ?_)
      · skip
        replace h := ite_p c5 h
        exact blk25 u0 x1 hu0 h _ _ hw hS ls (lv_sub hl [0, 1] rfl)
      · skip
        replace h := ite_n c5 h
        refine lv_iconst (v := 1) hx hb dX2_wordTop_21 (by decide) ?_
        refine lv_goto (tgt := 26) hx hb dX2_wordTop_22 (by decide) ?_
        exact blk26 u0 x1 1 hu0 h _ _ hw hS ls (lv_sub hl [0, 1] rfl)
