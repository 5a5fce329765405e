set_option maxHeartbeats 4000000 in
set_option maxRecDepth 100000 in
theorem c_isBox {l : Launch} {G : PvG} {tys : List (ClassId × FieldType)} {σ : PvS} {i : Nat} (hi : i < σ.1.1) : Met l yX2_isBox wsX2_isBox ({ frames := 0, cells := 0, slots := 0, locals := 0 }) (va_Pc [.ref (G.2.2.1 2 i)] (pvU G tys σ)) (va_Qi (fun r σ' => r = (if (σ.2.1 2 0 i = 3 ∨ σ.2.1 2 0 i = 4) then 1 else 0) ∧ σ' = σ) (pvU G tys) (pvB G)) 0 0 (pvB G) := by
  refine Met.ofW (cc := cX2_isBox) (maxL := 1) (ret := (some .boolean)) (by decide) rfl ?_
  intro p e s m args below meth c s₁ B hml hv
  obtain ⟨rfl, hw, hK, hA⟩ := hv
  have hx := B.exec
  have hb := B.bytes
  have hr := B.returns
  have hts := atoms_spec (ws := wsX2_isBox) B.pre
  have hown : s.vm.findClass RX2 = some m.cls := findClass_of_methodNamed B.named
  have hlocks := B.notSynchronized
  have hS : va_S (pvB G) s.heap s.heap [] := va_S.rf
  have hl := lv_entry ([.ref (G.2.2.1 2 i)]) (n := 1) (Nat.le_of_ble_eq_true rfl)
  rw [lg_entry_eq]
  generalize (lg_sl ([.ref (G.2.2.1 2 i)]) ++ List.replicate (1 - (lg_sl ([.ref (G.2.2.1 2 i)])).length) Slot.unset).toArray = ls at hl ⊢
  have hl : lv_has ls 1 [(0, .ref (G.2.2.1 2 i))] := hl
  refine lv_aload_n hx hb dX2_isBox_0 rfl (lv_at hl 0 rfl) ?_
  refine pgI (C := RX2) (T := TX2) (N := 16) hx hb hts hown hK hw 2 0 i (hi) (by decide) rfl rfl (by decide +kernel) (by decide) rfl (hts (.fieldLink RX2 9 "PinnaceView$Layout" "sort" "I") (by decide +kernel)) (fun _ h9 => h9) dX2_isBox_1 ?_
  refine lv_iconst (v := 3) hx hb dX2_isBox_4 (by decide) ?_
  refine lv_icmp_eq (tgt := 16) hx hb dX2_isBox_5 (by decide) (fun c_5_1 => ?_) (fun c_5_1 => ?_)
  · skip
    refine lv_iconst (v := 1) hx hb dX2_isBox_16 (by decide) ?_
    refine lv_goto (tgt := 21) hx hb dX2_isBox_17 (by decide) ?_
    exact pez hx hb hr hlocks hA hw hK hS (by subst_vars; first | decide | (split <;> decide)) (by clear hA hw hS hl hts hK B hx hb hr hown hlocks; (try subst_vars); simp_all [Int32.not_lt, Int32.not_le]) dX2_isBox_21
  · skip
    refine lv_aload_n hx hb dX2_isBox_8 rfl (lv_at hl 0 rfl) ?_
    refine pgI (C := RX2) (T := TX2) (N := 16) hx hb hts hown hK hw 2 0 i (hi) (by decide) rfl rfl (by decide +kernel) (by decide) rfl (hts (.fieldLink RX2 9 "PinnaceView$Layout" "sort" "I") (by decide +kernel)) (fun _ h9 => h9) dX2_isBox_9 ?_
    refine lv_iconst (v := 4) hx hb dX2_isBox_12 (by decide) ?_
    refine lv_icmp_ne (tgt := 20) hx hb dX2_isBox_13 (by decide) (fun c_13_2 => ?_) (fun c_13_2 => ?_)
    · skip
      refine lv_iconst (v := 0) hx hb dX2_isBox_20 (by decide) ?_
      exact pez hx hb hr hlocks hA hw hK hS (by subst_vars; first | decide | (split <;> decide)) (by clear hA hw hS hl hts hK B hx hb hr hown hlocks; (try subst_vars); simp_all [Int32.not_lt, Int32.not_le]) dX2_isBox_21
    · skip
      refine lv_iconst (v := 1) hx hb dX2_isBox_16 (by decide) ?_
      refine lv_goto (tgt := 21) hx hb dX2_isBox_17 (by decide) ?_
      exact pez hx hb hr hlocks hA hw hK hS (by subst_vars; first | decide | (split <;> decide)) (by clear hA hw hS hl hts hK B hx hb hr hown hlocks; (try subst_vars); simp_all [Int32.not_lt, Int32.not_le]) dX2_isBox_21
set_option maxHeartbeats 4000000 in
set_option maxRecDepth 100000 in
theorem c_borderX {l : Launch} {G : PvG} {tys : List (ClassId × FieldType)} {σ : PvS} {i : Nat} (hi : i < σ.1.1) : Met l yX2_borderX wsX2_borderX ({ frames := 1, cells := 0, slots := 0, locals := 20 }) (va_Pc [.ref (G.2.2.1 2 i)] (pvU G tys σ)) (va_Qi (fun r σ' => r = (if (σ.2.1 2 0 i = 3 ∨ σ.2.1 2 0 i = 4) then σ.2.1 2 5 i - σ.2.1 2 2 i + σ.2.1 2 11 i else -9999) ∧ σ' = σ) (pvU G tys) (pvB G)) 0 0 (pvB G) := by
  refine Met.ofW (cc := cX2_borderX) (maxL := 1) (ret := (some .int)) (by decide) rfl ?_
  intro p e s m args below meth c s₁ B hml hv
  obtain ⟨rfl, hw, hK, hA⟩ := hv
  have hx := B.exec
  have hb := B.bytes
  have hr := B.returns
  have hts := atoms_spec (ws := wsX2_borderX) B.pre
  have hown : s.vm.findClass RX2 = some m.cls := findClass_of_methodNamed B.named
  have hlocks := B.notSynchronized
  have hS : va_S (pvB G) s.heap s.heap [] := va_S.rf
  have hl := lv_entry ([.ref (G.2.2.1 2 i)]) (n := 1) (Nat.le_of_ble_eq_true rfl)
  rw [lg_entry_eq]
  generalize (lg_sl ([.ref (G.2.2.1 2 i)]) ++ List.replicate (1 - (lg_sl ([.ref (G.2.2.1 2 i)])).length) Slot.unset).toArray = ls at hl ⊢
  have hl : lv_has ls 1 [(0, .ref (G.2.2.1 2 i))] := hl
  refine lv_aload_n hx hb dX2_borderX_0 rfl (lv_at hl 0 rfl) ?_
  refine pcalli (va_runV (As := []) (rest := []) ⟨hx, hb, hml, hown, hts⟩ (c_isBox (l := l) (G := G) (tys := tys) (σ := σ) hi) (cwV 0 hts gX2_borderX_X2_isBox rfl rfl rfl (by decide +kernel) ⟨Nat.le_of_ble_eq_true rfl, Nat.le_of_ble_eq_true rfl⟩) (pv_preV hA hS hw hK 2 i (hi) (by decide) rfl []) rfl rfl hl.1 rfl (lv_room (Nat.le_of_ble_eq_true rfl)) dX2_borderX_1 ⟨Nat.zero_le _, Nat.zero_le _⟩) hS (fun r1 σ1 H locs hp1 hw hS => ?_)
  obtain ⟨er1, eσ1⟩ := hp1
  obtain rfl := eσ1.symm
  refine lv_if_eq (tgt := 24) hx hb dX2_borderX_4 (by decide) (fun c_4_2 => ?_) (fun c_4_2 => ?_)
  · skip
    refine lv_sipush (v := (-9999)) hx hb dX2_borderX_24 (by decide) ?_
    exact pei hx hb hr hlocks hA hw hK hS (by clear hA hw hS hl hts hK B hx hb hr hown hlocks; (try subst_vars); simp_all [Int32.not_lt, Int32.not_le]) dX2_borderX_27
  · skip
    refine lv_aload_n hx hb dX2_borderX_7 rfl (lv_at hl 0 rfl) ?_
    refine pgI (C := RX2) (T := TX2) (N := 16) hx hb hts hown hK hw 2 5 i (hi) (by decide) rfl rfl (by decide +kernel) (by decide) rfl (hts (.fieldLink RX2 29 "PinnaceView$Layout" "left" "I") (by decide +kernel)) (fun _ h9 => h9) dX2_borderX_8 ?_
    refine lv_aload_n hx hb dX2_borderX_11 rfl (lv_at hl 0 rfl) ?_
    refine pgI (C := RX2) (T := TX2) (N := 16) hx hb hts hown hK hw 2 2 i (hi) (by decide) rfl rfl (by decide +kernel) (by decide) rfl (hts (.fieldLink RX2 19 "PinnaceView$Layout" "inset" "I") (by decide +kernel)) (fun _ h9 => h9) dX2_borderX_12 ?_
    refine lv_isub hx hb dX2_borderX_15 ?_
    refine lv_aload_n hx hb dX2_borderX_16 rfl (lv_at hl 0 rfl) ?_
    refine pgI (C := RX2) (T := TX2) (N := 16) hx hb hts hown hK hw 2 11 i (hi) (by decide) rfl rfl (by decide +kernel) (by decide) rfl (hts (.fieldLink RX2 47 "PinnaceView$Layout" "shiftX" "I") (by decide +kernel)) (fun _ h9 => h9) dX2_borderX_17 ?_
    refine lv_iadd hx hb dX2_borderX_20 ?_
    refine lv_goto (tgt := 27) hx hb dX2_borderX_21 (by decide) ?_
    exact pei hx hb hr hlocks hA hw hK hS (by clear hA hw hS hl hts hK B hx hb hr hown hlocks; (try subst_vars); simp_all [Int32.not_lt, Int32.not_le]) dX2_borderX_27
set_option maxHeartbeats 4000000 in
set_option maxRecDepth 100000 in
theorem c_borderY {l : Launch} {G : PvG} {tys : List (ClassId × FieldType)} {σ : PvS} {i : Nat} (hi : i < σ.1.1) : Met l yX2_borderY wsX2_borderY ({ frames := 1, cells := 0, slots := 0, locals := 20 }) (va_Pc [.ref (G.2.2.1 2 i)] (pvU G tys σ)) (va_Qi (fun r σ' => r = (if (σ.2.1 2 0 i = 3 ∨ σ.2.1 2 0 i = 4) then σ.2.1 2 6 i - σ.2.1 2 2 i + σ.2.1 2 12 i else -9999) ∧ σ' = σ) (pvU G tys) (pvB G)) 0 0 (pvB G) := by
  refine Met.ofW (cc := cX2_borderY) (maxL := 1) (ret := (some .int)) (by decide) rfl ?_
  intro p e s m args below meth c s₁ B hml hv
  obtain ⟨rfl, hw, hK, hA⟩ := hv
  have hx := B.exec
  have hb := B.bytes
  have hr := B.returns
  have hts := atoms_spec (ws := wsX2_borderY) B.pre
  have hown : s.vm.findClass RX2 = some m.cls := findClass_of_methodNamed B.named
  have hlocks := B.notSynchronized
  have hS : va_S (pvB G) s.heap s.heap [] := va_S.rf
  have hl := lv_entry ([.ref (G.2.2.1 2 i)]) (n := 1) (Nat.le_of_ble_eq_true rfl)
  rw [lg_entry_eq]
  generalize (lg_sl ([.ref (G.2.2.1 2 i)]) ++ List.replicate (1 - (lg_sl ([.ref (G.2.2.1 2 i)])).length) Slot.unset).toArray = ls at hl ⊢
  have hl : lv_has ls 1 [(0, .ref (G.2.2.1 2 i))] := hl
  refine lv_aload_n hx hb dX2_borderY_0 rfl (lv_at hl 0 rfl) ?_
  refine pcalli (va_runV (As := []) (rest := []) ⟨hx, hb, hml, hown, hts⟩ (c_isBox (l := l) (G := G) (tys := tys) (σ := σ) hi) (cwV 0 hts gX2_borderY_X2_isBox rfl rfl rfl (by decide +kernel) ⟨Nat.le_of_ble_eq_true rfl, Nat.le_of_ble_eq_true rfl⟩) (pv_preV hA hS hw hK 2 i (hi) (by decide) rfl []) rfl rfl hl.1 rfl (lv_room (Nat.le_of_ble_eq_true rfl)) dX2_borderY_1 ⟨Nat.zero_le _, Nat.zero_le _⟩) hS (fun r1 σ1 H locs hp1 hw hS => ?_)
  obtain ⟨er1, eσ1⟩ := hp1
  obtain rfl := eσ1.symm
  refine lv_if_eq (tgt := 24) hx hb dX2_borderY_4 (by decide) (fun c_4_2 => ?_) (fun c_4_2 => ?_)
  · skip
    refine lv_sipush (v := (-9999)) hx hb dX2_borderY_24 (by decide) ?_
    exact pei hx hb hr hlocks hA hw hK hS (by clear hA hw hS hl hts hK B hx hb hr hown hlocks; (try subst_vars); simp_all [Int32.not_lt, Int32.not_le]) dX2_borderY_27
  · skip
    refine lv_aload_n hx hb dX2_borderY_7 rfl (lv_at hl 0 rfl) ?_
    refine pgI (C := RX2) (T := TX2) (N := 16) hx hb hts hown hK hw 2 6 i (hi) (by decide) rfl rfl (by decide +kernel) (by decide) rfl (hts (.fieldLink RX2 32 "PinnaceView$Layout" "top" "I") (by decide +kernel)) (fun _ h9 => h9) dX2_borderY_8 ?_
    refine lv_aload_n hx hb dX2_borderY_11 rfl (lv_at hl 0 rfl) ?_
    refine pgI (C := RX2) (T := TX2) (N := 16) hx hb hts hown hK hw 2 2 i (hi) (by decide) rfl rfl (by decide +kernel) (by decide) rfl (hts (.fieldLink RX2 19 "PinnaceView$Layout" "inset" "I") (by decide +kernel)) (fun _ h9 => h9) dX2_borderY_12 ?_
    refine lv_isub hx hb dX2_borderY_15 ?_
    refine lv_aload_n hx hb dX2_borderY_16 rfl (lv_at hl 0 rfl) ?_
    refine pgI (C := RX2) (T := TX2) (N := 16) hx hb hts hown hK hw 2 12 i (hi) (by decide) rfl rfl (by decide +kernel) (by decide) rfl (hts (.fieldLink RX2 50 "PinnaceView$Layout" "shiftY" "I") (by decide +kernel)) (fun _ h9 => h9) dX2_borderY_17 ?_
    refine lv_iadd hx hb dX2_borderY_20 ?_
    refine lv_goto (tgt := 27) hx hb dX2_borderY_21 (by decide) ?_
    exact pei hx hb hr hlocks hA hw hK hS (by clear hA hw hS hl hts hK B hx hb hr hown hlocks; (try subst_vars); simp_all [Int32.not_lt, Int32.not_le]) dX2_borderY_27
set_option maxHeartbeats 4000000 in
set_option maxRecDepth 100000 in
theorem c_borderWide {l : Launch} {G : PvG} {tys : List (ClassId × FieldType)} {σ : PvS} {i : Nat} (hi : i < σ.1.1) : Met l yX2_borderWide wsX2_borderWide ({ frames := 1, cells := 0, slots := 0, locals := 20 }) (va_Pc [.ref (G.2.2.1 2 i)] (pvU G tys σ)) (va_Qi (fun r σ' => r = (if (σ.2.1 2 0 i = 3 ∨ σ.2.1 2 0 i = 4) then σ.2.1 2 7 i + 2 * σ.2.1 2 2 i else -1) ∧ σ' = σ) (pvU G tys) (pvB G)) 0 0 (pvB G) := by
  refine Met.ofW (cc := cX2_borderWide) (maxL := 1) (ret := (some .int)) (by decide) rfl ?_
  intro p e s m args below meth c s₁ B hml hv
  obtain ⟨rfl, hw, hK, hA⟩ := hv
  have hx := B.exec
  have hb := B.bytes
  have hr := B.returns
  have hts := atoms_spec (ws := wsX2_borderWide) B.pre
  have hown : s.vm.findClass RX2 = some m.cls := findClass_of_methodNamed B.named
  have hlocks := B.notSynchronized
  have hS : va_S (pvB G) s.heap s.heap [] := va_S.rf
  have hl := lv_entry ([.ref (G.2.2.1 2 i)]) (n := 1) (Nat.le_of_ble_eq_true rfl)
  rw [lg_entry_eq]
  generalize (lg_sl ([.ref (G.2.2.1 2 i)]) ++ List.replicate (1 - (lg_sl ([.ref (G.2.2.1 2 i)])).length) Slot.unset).toArray = ls at hl ⊢
  have hl : lv_has ls 1 [(0, .ref (G.2.2.1 2 i))] := hl
  refine lv_aload_n hx hb dX2_borderWide_0 rfl (lv_at hl 0 rfl) ?_
  refine pcalli (va_runV (As := []) (rest := []) ⟨hx, hb, hml, hown, hts⟩ (c_isBox (l := l) (G := G) (tys := tys) (σ := σ) hi) (cwV 0 hts gX2_borderWide_X2_isBox rfl rfl rfl (by decide +kernel) ⟨Nat.le_of_ble_eq_true rfl, Nat.le_of_ble_eq_true rfl⟩) (pv_preV hA hS hw hK 2 i (hi) (by decide) rfl []) rfl rfl hl.1 rfl (lv_room (Nat.le_of_ble_eq_true rfl)) dX2_borderWide_1 ⟨Nat.zero_le _, Nat.zero_le _⟩) hS (fun r1 σ1 H locs hp1 hw hS => ?_)
  obtain ⟨er1, eσ1⟩ := hp1
  obtain rfl := eσ1.symm
  refine lv_if_eq (tgt := 21) hx hb dX2_borderWide_4 (by decide) (fun c_4_2 => ?_) (fun c_4_2 => ?_)
  · skip
    refine lv_iconst (v := (-1)) hx hb dX2_borderWide_21 (by decide) ?_
    exact pei hx hb hr hlocks hA hw hK hS (by clear hA hw hS hl hts hK B hx hb hr hown hlocks; (try subst_vars); simp_all [Int32.not_lt, Int32.not_le]) dX2_borderWide_22
  · skip
    refine lv_aload_n hx hb dX2_borderWide_7 rfl (lv_at hl 0 rfl) ?_
    refine pgI (C := RX2) (T := TX2) (N := 16) hx hb hts hown hK hw 2 7 i (hi) (by decide) rfl rfl (by decide +kernel) (by decide) rfl (hts (.fieldLink RX2 35 "PinnaceView$Layout" "wide" "I") (by decide +kernel)) (fun _ h9 => h9) dX2_borderWide_8 ?_
    refine lv_iconst (v := 2) hx hb dX2_borderWide_11 (by decide) ?_
    refine lv_aload_n hx hb dX2_borderWide_12 rfl (lv_at hl 0 rfl) ?_
    refine pgI (C := RX2) (T := TX2) (N := 16) hx hb hts hown hK hw 2 2 i (hi) (by decide) rfl rfl (by decide +kernel) (by decide) rfl (hts (.fieldLink RX2 19 "PinnaceView$Layout" "inset" "I") (by decide +kernel)) (fun _ h9 => h9) dX2_borderWide_13 ?_
    refine lv_imul hx hb dX2_borderWide_16 ?_
    refine lv_iadd hx hb dX2_borderWide_17 ?_
    refine lv_goto (tgt := 22) hx hb dX2_borderWide_18 (by decide) ?_
    exact pei hx hb hr hlocks hA hw hK hS (by clear hA hw hS hl hts hK B hx hb hr hown hlocks; (try subst_vars); simp_all [Int32.not_lt, Int32.not_le]) dX2_borderWide_22
set_option maxHeartbeats 4000000 in
set_option maxRecDepth 100000 in
theorem c_borderHigh {l : Launch} {G : PvG} {tys : List (ClassId × FieldType)} {σ : PvS} {i : Nat} (hi : i < σ.1.1) : Met l yX2_borderHigh wsX2_borderHigh ({ frames := 1, cells := 0, slots := 0, locals := 20 }) (va_Pc [.ref (G.2.2.1 2 i)] (pvU G tys σ)) (va_Qi (fun r σ' => r = (if (σ.2.1 2 0 i = 3 ∨ σ.2.1 2 0 i = 4) then σ.2.1 2 8 i + 2 * σ.2.1 2 2 i else -1) ∧ σ' = σ) (pvU G tys) (pvB G)) 0 0 (pvB G) := by
  refine Met.ofW (cc := cX2_borderHigh) (maxL := 1) (ret := (some .int)) (by decide) rfl ?_
  intro p e s m args below meth c s₁ B hml hv
  obtain ⟨rfl, hw, hK, hA⟩ := hv
  have hx := B.exec
  have hb := B.bytes
  have hr := B.returns
  have hts := atoms_spec (ws := wsX2_borderHigh) B.pre
  have hown : s.vm.findClass RX2 = some m.cls := findClass_of_methodNamed B.named
  have hlocks := B.notSynchronized
  have hS : va_S (pvB G) s.heap s.heap [] := va_S.rf
  have hl := lv_entry ([.ref (G.2.2.1 2 i)]) (n := 1) (Nat.le_of_ble_eq_true rfl)
  rw [lg_entry_eq]
  generalize (lg_sl ([.ref (G.2.2.1 2 i)]) ++ List.replicate (1 - (lg_sl ([.ref (G.2.2.1 2 i)])).length) Slot.unset).toArray = ls at hl ⊢
  have hl : lv_has ls 1 [(0, .ref (G.2.2.1 2 i))] := hl
  refine lv_aload_n hx hb dX2_borderHigh_0 rfl (lv_at hl 0 rfl) ?_
  refine pcalli (va_runV (As := []) (rest := []) ⟨hx, hb, hml, hown, hts⟩ (c_isBox (l := l) (G := G) (tys := tys) (σ := σ) hi) (cwV 0 hts gX2_borderHigh_X2_isBox rfl rfl rfl (by decide +kernel) ⟨Nat.le_of_ble_eq_true rfl, Nat.le_of_ble_eq_true rfl⟩) (pv_preV hA hS hw hK 2 i (hi) (by decide) rfl []) rfl rfl hl.1 rfl (lv_room (Nat.le_of_ble_eq_true rfl)) dX2_borderHigh_1 ⟨Nat.zero_le _, Nat.zero_le _⟩) hS (fun r1 σ1 H locs hp1 hw hS => ?_)
  obtain ⟨er1, eσ1⟩ := hp1
  obtain rfl := eσ1.symm
  refine lv_if_eq (tgt := 21) hx hb dX2_borderHigh_4 (by decide) (fun c_4_2 => ?_) (fun c_4_2 => ?_)
  · skip
    refine lv_iconst (v := (-1)) hx hb dX2_borderHigh_21 (by decide) ?_
    exact pei hx hb hr hlocks hA hw hK hS (by clear hA hw hS hl hts hK B hx hb hr hown hlocks; (try subst_vars); simp_all [Int32.not_lt, Int32.not_le]) dX2_borderHigh_22
  · skip
    refine lv_aload_n hx hb dX2_borderHigh_7 rfl (lv_at hl 0 rfl) ?_
    refine pgI (C := RX2) (T := TX2) (N := 16) hx hb hts hown hK hw 2 8 i (hi) (by decide) rfl rfl (by decide +kernel) (by decide) rfl (hts (.fieldLink RX2 38 "PinnaceView$Layout" "high" "I") (by decide +kernel)) (fun _ h9 => h9) dX2_borderHigh_8 ?_
    refine lv_iconst (v := 2) hx hb dX2_borderHigh_11 (by decide) ?_
    refine lv_aload_n hx hb dX2_borderHigh_12 rfl (lv_at hl 0 rfl) ?_
    refine pgI (C := RX2) (T := TX2) (N := 16) hx hb hts hown hK hw 2 2 i (hi) (by decide) rfl rfl (by decide +kernel) (by decide) rfl (hts (.fieldLink RX2 19 "PinnaceView$Layout" "inset" "I") (by decide +kernel)) (fun _ h9 => h9) dX2_borderHigh_13 ?_
    refine lv_imul hx hb dX2_borderHigh_16 ?_
    refine lv_iadd hx hb dX2_borderHigh_17 ?_
    refine lv_goto (tgt := 22) hx hb dX2_borderHigh_18 (by decide) ?_
    exact pei hx hb hr hlocks hA hw hK hS (by clear hA hw hS hl hts hK B hx hb hr hown hlocks; (try subst_vars); simp_all [Int32.not_lt, Int32.not_le]) dX2_borderHigh_22
set_option maxHeartbeats 4000000 in
set_option maxRecDepth 100000 in
theorem c_reachOrNone {l : Launch} {G : PvG} {tys : List (ClassId × FieldType)} {σ : PvS} {i : Nat} (hi : i < σ.1.1) : Met l yX2_reachOrNone wsX2_reachOrNone ({ frames := 1, cells := 0, slots := 0, locals := 20 }) (va_Pc [.ref (G.2.2.1 2 i)] (pvU G tys σ)) (va_Qi (fun r σ' => r = (if (σ.2.1 2 0 i = 3 ∨ σ.2.1 2 0 i = 4) then σ.2.1 2 9 i else -1) ∧ σ' = σ) (pvU G tys) (pvB G)) 0 0 (pvB G) := by
  refine Met.ofW (cc := cX2_reachOrNone) (maxL := 1) (ret := (some .int)) (by decide) rfl ?_
  intro p e s m args below meth c s₁ B hml hv
  obtain ⟨rfl, hw, hK, hA⟩ := hv
  have hx := B.exec
  have hb := B.bytes
  have hr := B.returns
  have hts := atoms_spec (ws := wsX2_reachOrNone) B.pre
  have hown : s.vm.findClass RX2 = some m.cls := findClass_of_methodNamed B.named
  have hlocks := B.notSynchronized
  have hS : va_S (pvB G) s.heap s.heap [] := va_S.rf
  have hl := lv_entry ([.ref (G.2.2.1 2 i)]) (n := 1) (Nat.le_of_ble_eq_true rfl)
  rw [lg_entry_eq]
  generalize (lg_sl ([.ref (G.2.2.1 2 i)]) ++ List.replicate (1 - (lg_sl ([.ref (G.2.2.1 2 i)])).length) Slot.unset).toArray = ls at hl ⊢
  have hl : lv_has ls 1 [(0, .ref (G.2.2.1 2 i))] := hl
  refine lv_aload_n hx hb dX2_reachOrNone_0 rfl (lv_at hl 0 rfl) ?_
  refine pcalli (va_runV (As := []) (rest := []) ⟨hx, hb, hml, hown, hts⟩ (c_isBox (l := l) (G := G) (tys := tys) (σ := σ) hi) (cwV 0 hts gX2_reachOrNone_X2_isBox rfl rfl rfl (by decide +kernel) ⟨Nat.le_of_ble_eq_true rfl, Nat.le_of_ble_eq_true rfl⟩) (pv_preV hA hS hw hK 2 i (hi) (by decide) rfl []) rfl rfl hl.1 rfl (lv_room (Nat.le_of_ble_eq_true rfl)) dX2_reachOrNone_1 ⟨Nat.zero_le _, Nat.zero_le _⟩) hS (fun r1 σ1 H locs hp1 hw hS => ?_)
  obtain ⟨er1, eσ1⟩ := hp1
  obtain rfl := eσ1.symm
  refine lv_if_eq (tgt := 14) hx hb dX2_reachOrNone_4 (by decide) (fun c_4_2 => ?_) (fun c_4_2 => ?_)
  · skip
    refine lv_iconst (v := (-1)) hx hb dX2_reachOrNone_14 (by decide) ?_
    exact pei hx hb hr hlocks hA hw hK hS (by clear hA hw hS hl hts hK B hx hb hr hown hlocks; (try subst_vars); simp_all [Int32.not_lt, Int32.not_le]) dX2_reachOrNone_15
  · skip
    refine lv_aload_n hx hb dX2_reachOrNone_7 rfl (lv_at hl 0 rfl) ?_
    refine pgI (C := RX2) (T := TX2) (N := 16) hx hb hts hown hK hw 2 9 i (hi) (by decide) rfl rfl (by decide +kernel) (by decide) rfl (hts (.fieldLink RX2 41 "PinnaceView$Layout" "reach" "I") (by decide +kernel)) (fun _ h9 => h9) dX2_reachOrNone_8 ?_
    refine lv_goto (tgt := 15) hx hb dX2_reachOrNone_11 (by decide) ?_
    exact pei hx hb hr hlocks hA hw hK hS (by clear hA hw hS hl hts hK B hx hb hr hown hlocks; (try subst_vars); simp_all [Int32.not_lt, Int32.not_le]) dX2_reachOrNone_15
set_option maxHeartbeats 4000000 in
set_option maxRecDepth 100000 in
theorem c_linesOrNone {l : Launch} {G : PvG} {tys : List (ClassId × FieldType)} {σ : PvS} {i : Nat} (hi : i < σ.1.1) : Met l yX2_linesOrNone wsX2_linesOrNone ({ frames := 1, cells := 0, slots := 0, locals := 20 }) (va_Pc [.ref (G.2.2.1 2 i)] (pvU G tys σ)) (va_Qi (fun r σ' => r = (if (σ.2.1 2 0 i = 3 ∨ σ.2.1 2 0 i = 4) then σ.2.1 2 10 i else 0) ∧ σ' = σ) (pvU G tys) (pvB G)) 0 0 (pvB G) := by
  refine Met.ofW (cc := cX2_linesOrNone) (maxL := 1) (ret := (some .int)) (by decide) rfl ?_
  intro p e s m args below meth c s₁ B hml hv
  obtain ⟨rfl, hw, hK, hA⟩ := hv
  have hx := B.exec
  have hb := B.bytes
  have hr := B.returns
  have hts := atoms_spec (ws := wsX2_linesOrNone) B.pre
  have hown : s.vm.findClass RX2 = some m.cls := findClass_of_methodNamed B.named
  have hlocks := B.notSynchronized
  have hS : va_S (pvB G) s.heap s.heap [] := va_S.rf
  have hl := lv_entry ([.ref (G.2.2.1 2 i)]) (n := 1) (Nat.le_of_ble_eq_true rfl)
  rw [lg_entry_eq]
  generalize (lg_sl ([.ref (G.2.2.1 2 i)]) ++ List.replicate (1 - (lg_sl ([.ref (G.2.2.1 2 i)])).length) Slot.unset).toArray = ls at hl ⊢
  have hl : lv_has ls 1 [(0, .ref (G.2.2.1 2 i))] := hl
  refine lv_aload_n hx hb dX2_linesOrNone_0 rfl (lv_at hl 0 rfl) ?_
  refine pcalli (va_runV (As := []) (rest := []) ⟨hx, hb, hml, hown, hts⟩ (c_isBox (l := l) (G := G) (tys := tys) (σ := σ) hi) (cwV 0 hts gX2_linesOrNone_X2_isBox rfl rfl rfl (by decide +kernel) ⟨Nat.le_of_ble_eq_true rfl, Nat.le_of_ble_eq_true rfl⟩) (pv_preV hA hS hw hK 2 i (hi) (by decide) rfl []) rfl rfl hl.1 rfl (lv_room (Nat.le_of_ble_eq_true rfl)) dX2_linesOrNone_1 ⟨Nat.zero_le _, Nat.zero_le _⟩) hS (fun r1 σ1 H locs hp1 hw hS => ?_)
  obtain ⟨er1, eσ1⟩ := hp1
  obtain rfl := eσ1.symm
  refine lv_if_eq (tgt := 14) hx hb dX2_linesOrNone_4 (by decide) (fun c_4_2 => ?_) (fun c_4_2 => ?_)
  · skip
    refine lv_iconst (v := 0) hx hb dX2_linesOrNone_14 (by decide) ?_
    exact pei hx hb hr hlocks hA hw hK hS (by clear hA hw hS hl hts hK B hx hb hr hown hlocks; (try subst_vars); simp_all [Int32.not_lt, Int32.not_le]) dX2_linesOrNone_15
  · skip
    refine lv_aload_n hx hb dX2_linesOrNone_7 rfl (lv_at hl 0 rfl) ?_
    refine pgI (C := RX2) (T := TX2) (N := 16) hx hb hts hown hK hw 2 10 i (hi) (by decide) rfl rfl (by decide +kernel) (by decide) rfl (hts (.fieldLink RX2 44 "PinnaceView$Layout" "lineCount" "I") (by decide +kernel)) (fun _ h9 => h9) dX2_linesOrNone_8 ?_
    refine lv_goto (tgt := 15) hx hb dX2_linesOrNone_11 (by decide) ?_
    exact pei hx hb hr hlocks hA hw hK hS (by clear hA hw hS hl hts hK B hx hb hr hown hlocks; (try subst_vars); simp_all [Int32.not_lt, Int32.not_le]) dX2_linesOrNone_15
set_option maxHeartbeats 4000000 in
set_option maxRecDepth 100000 in
theorem c_highWithEdges {l : Launch} {G : PvG} {tys : List (ClassId × FieldType)} {σ : PvS} {i : Nat} (hi : i < σ.1.1) : Met l yX2_highWithEdges wsX2_highWithEdges ({ frames := 0, cells := 0, slots := 0, locals := 0 }) (va_Pc [.ref (G.2.2.1 2 i)] (pvU G tys σ)) (va_Qi (fun r σ' => r = σ.2.1 2 8 i + 2 * σ.2.1 2 3 i ∧ σ' = σ) (pvU G tys) (pvB G)) 0 0 (pvB G) := by
  refine Met.ofW (cc := cX2_highWithEdges) (maxL := 1) (ret := (some .int)) (by decide) rfl ?_
  intro p e s m args below meth c s₁ B hml hv
  obtain ⟨rfl, hw, hK, hA⟩ := hv
  have hx := B.exec
  have hb := B.bytes
  have hr := B.returns
  have hts := atoms_spec (ws := wsX2_highWithEdges) B.pre
  have hown : s.vm.findClass RX2 = some m.cls := findClass_of_methodNamed B.named
  have hlocks := B.notSynchronized
  have hS : va_S (pvB G) s.heap s.heap [] := va_S.rf
  have hl := lv_entry ([.ref (G.2.2.1 2 i)]) (n := 1) (Nat.le_of_ble_eq_true rfl)
  rw [lg_entry_eq]
  generalize (lg_sl ([.ref (G.2.2.1 2 i)]) ++ List.replicate (1 - (lg_sl ([.ref (G.2.2.1 2 i)])).length) Slot.unset).toArray = ls at hl ⊢
  have hl : lv_has ls 1 [(0, .ref (G.2.2.1 2 i))] := hl
  refine lv_aload_n hx hb dX2_highWithEdges_0 rfl (lv_at hl 0 rfl) ?_
  refine pgI (C := RX2) (T := TX2) (N := 16) hx hb hts hown hK hw 2 8 i (hi) (by decide) rfl rfl (by decide +kernel) (by decide) rfl (hts (.fieldLink RX2 38 "PinnaceView$Layout" "high" "I") (by decide +kernel)) (fun _ h9 => h9) dX2_highWithEdges_1 ?_
  refine lv_iconst (v := 2) hx hb dX2_highWithEdges_4 (by decide) ?_
  refine lv_aload_n hx hb dX2_highWithEdges_5 rfl (lv_at hl 0 rfl) ?_
  refine pgI (C := RX2) (T := TX2) (N := 16) hx hb hts hown hK hw 2 3 i (hi) (by decide) rfl rfl (by decide +kernel) (by decide) rfl (hts (.fieldLink RX2 22 "PinnaceView$Layout" "edge" "I") (by decide +kernel)) (fun _ h9 => h9) dX2_highWithEdges_6 ?_
  refine lv_imul hx hb dX2_highWithEdges_9 ?_
  refine lv_iadd hx hb dX2_highWithEdges_10 ?_
  exact pei hx hb hr hlocks hA hw hK hS (by clear hA hw hS hl hts hK B hx hb hr hown hlocks; (try subst_vars); simp_all [Int32.not_lt, Int32.not_le]) dX2_highWithEdges_11
set_option maxHeartbeats 4000000 in
set_option maxRecDepth 100000 in
theorem c_isWithin {l : Launch} {G : PvG} {tys : List (ClassId × FieldType)} {σ : PvS} {x y z : Int32} : Met l yX2_isWithin wsX2_isWithin ({ frames := 0, cells := 0, slots := 0, locals := 0 }) (va_Pc [.int x, .int y, .int z] (pvU G tys σ)) (va_Qi (fun r σ' => r = (if x < y then 0 else if x < y + z then 1 else 0) ∧ σ' = σ) (pvU G tys) (pvB G)) 0 0 (pvB G) := by
  refine Met.ofW (cc := cX2_isWithin) (maxL := 3) (ret := (some .boolean)) (by decide) rfl ?_
  intro p e s m args below meth c s₁ B hml hv
  obtain ⟨rfl, hw, hK, hA⟩ := hv
  have hx := B.exec
  have hb := B.bytes
  have hr := B.returns
  have hts := atoms_spec (ws := wsX2_isWithin) B.pre
  have hown : s.vm.findClass RX2 = some m.cls := findClass_of_methodNamed B.named
  have hlocks := B.notSynchronized
  have hS : va_S (pvB G) s.heap s.heap [] := va_S.rf
  have hl := lv_entry ([.int x, .int y, .int z]) (n := 3) (Nat.le_of_ble_eq_true rfl)
  rw [lg_entry_eq]
  generalize (lg_sl ([.int x, .int y, .int z]) ++ List.replicate (3 - (lg_sl ([.int x, .int y, .int z])).length) Slot.unset).toArray = ls at hl ⊢
  have hl : lv_has ls 3 [(0, .int x), (1, .int y), (2, .int z)] := hl
  refine lv_iload_n hx hb dX2_isWithin_0 rfl (lv_at hl 0 rfl) ?_
  refine lv_iload_n hx hb dX2_isWithin_1 rfl (lv_at hl 1 rfl) ?_
  refine lv_icmp_lt (tgt := 16) hx hb dX2_isWithin_2 (by decide) (fun c_2_1 => ?_) (fun c_2_1 => ?_)
  · skip
    refine lv_iconst (v := 0) hx hb dX2_isWithin_16 (by decide) ?_
    exact pez hx hb hr hlocks hA hw hK hS (by subst_vars; first | decide | (split <;> decide)) (by clear hA hw hS hl hts hK B hx hb hr hown hlocks; (try subst_vars); simp_all [Int32.not_lt, Int32.not_le]) dX2_isWithin_17
  · skip
    refine lv_iload_n hx hb dX2_isWithin_5 rfl (lv_at hl 0 rfl) ?_
    refine lv_iload_n hx hb dX2_isWithin_6 rfl (lv_at hl 1 rfl) ?_
    refine lv_iload_n hx hb dX2_isWithin_7 rfl (lv_at hl 2 rfl) ?_
    refine lv_iadd hx hb dX2_isWithin_8 ?_
    refine lv_icmp_ge (tgt := 16) hx hb dX2_isWithin_9 (by decide) (fun c_9_2 => ?_) (fun c_9_2 => ?_)
    · skip
      refine lv_iconst (v := 0) hx hb dX2_isWithin_16 (by decide) ?_
      exact pez hx hb hr hlocks hA hw hK hS (by subst_vars; first | decide | (split <;> decide)) (by clear hA hw hS hl hts hK B hx hb hr hown hlocks; (try subst_vars); simp_all [Int32.not_lt, Int32.not_le]) dX2_isWithin_17
    · skip
      refine lv_iconst (v := 1) hx hb dX2_isWithin_12 (by decide) ?_
      refine lv_goto (tgt := 17) hx hb dX2_isWithin_13 (by decide) ?_
      exact pez hx hb hr hlocks hA hw hK hS (by subst_vars; first | decide | (split <;> decide)) (by clear hA hw hS hl hts hK B hx hb hr hown hlocks; (try subst_vars); simp_all [Int32.not_lt, Int32.not_le]) dX2_isWithin_17
