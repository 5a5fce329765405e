set_option maxHeartbeats 4000000 in
set_option maxRecDepth 100000 in
theorem c_Jxa1e45_init_da8c8 {l : Launch} {G : PvG} {tys : List (ClassId × FieldType)} (htys : tys = pvT G) {X : va_W} {k a : Nat}  (hX : X[k]? = some (yO a 0 [.int 0, .null, .int 0]))  : Met l yJxa1e45_init_da8c8 (Cond.code yJxa1e45_init_da8c8 cJxa1e45_init_da8c8 1 none :: WA) ({ frames := 1, cells := 0, slots := 0, locals := 12 }) (va_Pc [.ref a] (pvY G tys X)) (va_Qv (fun X' : va_W => X' = X.set k (yO a 0 [.int 0, .null, .int 0]) ++ []) (pvY G tys) (pvB G)) 0 0 (pvB G) := by
  refine Met.ofW (cc := cJxa1e45_init_da8c8) (maxL := 1) (ret := none) (by decide) rfl ?_
  intro p e s m args below meth c s₁ B hml hv
  obtain ⟨rfl, hw, hK, hA⟩ := hv
  have hx := B.exec
  have hb := B.bytes
  have hr := B.returns
  have hts0 := atoms_spec (ws := (Cond.code yJxa1e45_init_da8c8 cJxa1e45_init_da8c8 1 none :: WA)) B.pre
  have hts : ∀ w ∈ WA, w.before _ s = true := fun w h => hts0 w (List.mem_cons_of_mem _ h)
  have hown : s.vm.findClass RJxa1e45 = some m.cls := findClass_of_methodNamed B.named
  have hlocks := B.notSynchronized
  have hin : meth.name = "<init>" := (name_of_methodNamed B.named B.method).1
  have hS : va_S (pvB G) s.heap s.heap [] := va_S.rf
  have hk := y_lt hX
  rw [y_start hX] at hw
  have hl := lv_entry ([.ref a]) (n := 1) (Nat.le_of_ble_eq_true rfl)
  rw [lg_entry_eq]
  generalize (lg_sl ([.ref a]) ++ List.replicate (1 - (lg_sl ([.ref a])).length) Slot.unset).toArray = ls at hl ⊢
  have hl : lv_has ls 1 [(0, .ref a)] := hl
  refine lv_aload_n hx hb dJxa1e45_init_da8c8_0 rfl (lv_at hl 0 rfl) ?_
  refine yobj hx hb (hml.trans hl.1.symm) hown (hts _ wm57) (hts _ wm8) (hts _ wm9) dJxa1e45_init_da8c8_1 (Nat.le_of_ble_eq_true rfl) (Nat.le_of_ble_eq_true rfl) ?_
  exact yev hx hb hr hlocks hA hw hK hS rfl dJxa1e45_init_da8c8_4
set_option maxHeartbeats 4000000 in
set_option maxRecDepth 100000 in
theorem c_Jxc12de_init_da8c8 {l : Launch} {G : PvG} {tys : List (ClassId × FieldType)} (htys : tys = pvT G) {X : va_W} {k a : Nat}  (hX : X[k]? = some (yO a 0 [.int 0, .null, .int 0]))  : Met l yJxc12de_init_da8c8 (Cond.code yJxc12de_init_da8c8 cJxc12de_init_da8c8 1 none :: WA) ({ frames := 2, cells := 0, slots := 0, locals := 32 }) (va_Pc [.ref a] (pvY G tys X)) (va_Qv (fun X' : va_W => X' = X.set k (yO a 0 [.int 0, .null, .int 0]) ++ []) (pvY G tys) (pvB G)) 0 0 (pvB G) := by
  refine Met.ofW (cc := cJxc12de_init_da8c8) (maxL := 1) (ret := none) (by decide) rfl ?_
  intro p e s m args below meth c s₁ B hml hv
  obtain ⟨rfl, hw, hK, hA⟩ := hv
  have hx := B.exec
  have hb := B.bytes
  have hr := B.returns
  have hts0 := atoms_spec (ws := (Cond.code yJxc12de_init_da8c8 cJxc12de_init_da8c8 1 none :: WA)) B.pre
  have hts : ∀ w ∈ WA, w.before _ s = true := fun w h => hts0 w (List.mem_cons_of_mem _ h)
  have hown : s.vm.findClass RJxc12de = some m.cls := findClass_of_methodNamed B.named
  have hlocks := B.notSynchronized
  have hin : meth.name = "<init>" := (name_of_methodNamed B.named B.method).1
  have hS : va_S (pvB G) s.heap s.heap [] := va_S.rf
  have hk := y_lt hX
  rw [y_start hX] at hw
  have hl := lv_entry ([.ref a]) (n := 1) (Nat.le_of_ble_eq_true rfl)
  rw [lg_entry_eq]
  generalize (lg_sl ([.ref a]) ++ List.replicate (1 - (lg_sl ([.ref a])).length) Slot.unset).toArray = ls at hl ⊢
  have hl : lv_has ls 1 [(0, .ref a)] := hl
  refine lv_aload_n hx hb dJxc12de_init_da8c8_0 rfl (lv_at hl 0 rfl) ?_
  refine ycallv (va_runI (As := []) (rest := []) ⟨hx, hb, hml, hown, hts⟩ (c_Jxa1e45_init_da8c8 (l := l) (G := G) (tys := tys) htys (X := (X.set k (yO a 0 [.int 0, .null, .int 0]) ++ [])) (k := k) (a := a)  (y_at0 hk)) (cwI 0 hts (gNA wm56) rfl rfl rfl (hts _ wm55) (hts _ wm53) (hts _ wm54) rfl (by decide +kernel) ⟨Nat.le_of_ble_eq_true rfl, Nat.le_of_ble_eq_true rfl⟩) (y_pre hA hS hw hK _) rfl rfl hl.1 rfl (lv_room (Nat.le_of_ble_eq_true rfl)) dJxc12de_init_da8c8_1 ⟨Nat.le_of_ble_eq_true rfl, Nat.le_of_ble_eq_true rfl⟩) hS (fun X1 H locs hp hw hS => ?_)
  obtain ⟨rfl⟩ := hp
  rw [y_set0 hk] at hw
  rw [List.append_nil] at hw
  have hw : yP G (X.set k (yO a 0 [.int 0, .null, .int 0]) ++ []) H := hw
  refine lv_aload_n hx hb dJxc12de_init_da8c8_4 rfl (lv_at hl 0 rfl) ?_
  refine lv_iconst (v := 0) hx hb dJxc12de_init_da8c8_5 (by decide) ?_
  refine va_put (D := G.2.1) (ci := 0) (C := RJx4a65c) (T := TJx4a65c) (N := 3) hx hb hts inF_Jx4a65c tyJx4a65c tyJx4a65c_ok nmJx4a65c hown hK hw.1 hw.2 hS k (y_at0 hk) rfl 0 (by decide) (hts _ wm52) (fun _ h9 => h9) rfl (ty := .int) (v := .int 0) (by decide +kernel) rfl rfl (Nat.le_of_ble_eq_true rfl) dJxc12de_init_da8c8_6 (fun H locs hP hD hS => ?_)
  rw [y_set0 hk] at hP hD
  have hw : yP G (X.set k (yO a 0 [.int 0, .null, .int 0]) ++ []) H := ⟨hP, hD⟩
  exact yev hx hb hr hlocks hA hw hK hS rfl dJxc12de_init_da8c8_9
set_option maxHeartbeats 4000000 in
set_option maxRecDepth 100000 in
theorem c_Jx4a65c_init_da8c8 {l : Launch} {G : PvG} {tys : List (ClassId × FieldType)} (htys : tys = pvT G) {X : va_W} {k a : Nat}  (hX : X[k]? = some (yO a 0 [.int 0, .null, .int 0]))  : Met l yJx4a65c_init_da8c8 (Cond.code yJx4a65c_init_da8c8 cJx4a65c_init_da8c8 1 none :: WA) ({ frames := 3, cells := 0, slots := 0, locals := 52 }) (va_Pc [.ref a] (pvY G tys X)) (va_Qv (fun X' : va_W => X' = X.set k (yO a 0 [.int 0, .ref (G.2.2.2.1.1 0), .int 0]) ++ []) (pvY G tys) (pvB G)) 0 0 (pvB G) := by
  refine Met.ofW (cc := cJx4a65c_init_da8c8) (maxL := 1) (ret := none) (by decide) rfl ?_
  intro p e s m args below meth c s₁ B hml hv
  obtain ⟨rfl, hw, hK, hA⟩ := hv
  have hx := B.exec
  have hb := B.bytes
  have hr := B.returns
  have hts0 := atoms_spec (ws := (Cond.code yJx4a65c_init_da8c8 cJx4a65c_init_da8c8 1 none :: WA)) B.pre
  have hts : ∀ w ∈ WA, w.before _ s = true := fun w h => hts0 w (List.mem_cons_of_mem _ h)
  have hown : s.vm.findClass RJx4a65c = some m.cls := findClass_of_methodNamed B.named
  have hlocks := B.notSynchronized
  have hin : meth.name = "<init>" := (name_of_methodNamed B.named B.method).1
  have hS : va_S (pvB G) s.heap s.heap [] := va_S.rf
  have hk := y_lt hX
  rw [y_start hX] at hw
  have hl := lv_entry ([.ref a]) (n := 1) (Nat.le_of_ble_eq_true rfl)
  rw [lg_entry_eq]
  generalize (lg_sl ([.ref a]) ++ List.replicate (1 - (lg_sl ([.ref a])).length) Slot.unset).toArray = ls at hl ⊢
  have hl : lv_has ls 1 [(0, .ref a)] := hl
  refine lv_aload_n hx hb dJx4a65c_init_da8c8_0 rfl (lv_at hl 0 rfl) ?_
  refine ycallv (va_runI (As := []) (rest := []) ⟨hx, hb, hml, hown, hts⟩ (c_Jxc12de_init_da8c8 (l := l) (G := G) (tys := tys) htys (X := (X.set k (yO a 0 [.int 0, .null, .int 0]) ++ [])) (k := k) (a := a)  (y_at0 hk)) (cwI 0 hts (gNA wm51) rfl rfl rfl (hts _ wm50) (hts _ wm48) (hts _ wm49) rfl (by decide +kernel) ⟨Nat.le_of_ble_eq_true rfl, Nat.le_of_ble_eq_true rfl⟩) (y_pre hA hS hw hK _) rfl rfl hl.1 rfl (lv_room (Nat.le_of_ble_eq_true rfl)) dJx4a65c_init_da8c8_1 ⟨Nat.le_of_ble_eq_true rfl, Nat.le_of_ble_eq_true rfl⟩) hS (fun X1 H locs hp hw hS => ?_)
  obtain ⟨rfl⟩ := hp
  rw [y_set0 hk] at hw
  rw [List.append_nil] at hw
  have hw : yP G (X.set k (yO a 0 [.int 0, .null, .int 0]) ++ []) H := hw
  refine lv_aload_n hx hb dJx4a65c_init_da8c8_4 rfl (lv_at hl 0 rfl) ?_
  refine va_gets (C := RJx4a65c) hx hb hA.2.1.1.1 hS hown (hts _ wm46) (fun _ h9 => h9) dJx4a65c_init_da8c8_5 ?_
  refine va_put (D := G.2.1) (ci := 0) (C := RJx4a65c) (T := TJx4a65c) (N := 3) hx hb hts inF_Jx4a65c tyJx4a65c tyJx4a65c_ok nmJx4a65c hown hK hw.1 hw.2 hS k (y_at0 hk) rfl 1 (by decide) (hts _ wm47) (fun _ h9 => h9) rfl (ty := .array (.object "java/lang/Object")) (v := .ref (G.2.2.2.1.1 0)) (by decide +kernel) rfl rfl (Nat.le_of_ble_eq_true rfl) dJx4a65c_init_da8c8_8 (fun H locs hP hD hS => ?_)
  rw [y_set0 hk] at hP hD
  have hw : yP G (X.set k (yO a 0 [.int 0, .ref (G.2.2.2.1.1 0), .int 0]) ++ []) H := ⟨hP, hD⟩
  exact yev hx hb hr hlocks hA hw hK hS rfl dJx4a65c_init_da8c8_11
set_option maxHeartbeats 4000000 in
set_option maxRecDepth 100000 in
theorem c_X1_init {l : Launch} {G : PvG} {tys : List (ClassId × FieldType)} (htys : tys = pvT G) {X : va_W} {k a : Nat}  (hX : X[k]? = some (yO a 2 [.int 0, .int 0, .int 0, .int 0, .int 0]))  : Met l yX1_init (Cond.code yX1_init cX1_init 1 none :: WA) ({ frames := 1, cells := 0, slots := 0, locals := 12 }) (va_Pc [.ref a] (pvY G tys X)) (va_Qv (fun X' : va_W => X' = X.set k (yO a 2 [.int 0, .int 0, .int 0, .int 0, .int 0]) ++ []) (pvY G tys) (pvB G)) 0 0 (pvB G) := by
  refine Met.ofW (cc := cX1_init) (maxL := 1) (ret := none) (by decide) rfl ?_
  intro p e s m args below meth c s₁ B hml hv
  obtain ⟨rfl, hw, hK, hA⟩ := hv
  have hx := B.exec
  have hb := B.bytes
  have hr := B.returns
  have hts0 := atoms_spec (ws := (Cond.code yX1_init cX1_init 1 none :: WA)) B.pre
  have hts : ∀ w ∈ WA, w.before _ s = true := fun w h => hts0 w (List.mem_cons_of_mem _ h)
  have hown : s.vm.findClass RX1 = some m.cls := findClass_of_methodNamed B.named
  have hlocks := B.notSynchronized
  have hin : meth.name = "<init>" := (name_of_methodNamed B.named B.method).1
  have hS : va_S (pvB G) s.heap s.heap [] := va_S.rf
  have hk := y_lt hX
  rw [y_start hX] at hw
  have hl := lv_entry ([.ref a]) (n := 1) (Nat.le_of_ble_eq_true rfl)
  rw [lg_entry_eq]
  generalize (lg_sl ([.ref a]) ++ List.replicate (1 - (lg_sl ([.ref a])).length) Slot.unset).toArray = ls at hl ⊢
  have hl : lv_has ls 1 [(0, .ref a)] := hl
  refine lv_aload_n hx hb dX1_init_0 rfl (lv_at hl 0 rfl) ?_
  refine yobj hx hb (hml.trans hl.1.symm) hown (hts _ wm86) (hts _ wm8) (hts _ wm9) dX1_init_1 (Nat.le_of_ble_eq_true rfl) (Nat.le_of_ble_eq_true rfl) ?_
  refine lv_aload_n hx hb dX1_init_4 rfl (lv_at hl 0 rfl) ?_
  refine lv_iconst (v := 0) hx hb dX1_init_5 (by decide) ?_
  refine va_put (D := G.2.1) (ci := 2) (C := RX1) (T := TX1) (N := 5) hx hb hts inF_X1 tyX1 tyX1_ok nmX1 hown hK hw.1 hw.2 hS k (y_at0 hk) rfl 0 (by decide) (hts _ wm87) (fun _ h9 => h9) rfl (ty := .int) (v := .int 0) (by decide +kernel) rfl rfl (Nat.le_of_ble_eq_true rfl) dX1_init_6 (fun H locs hP hD hS => ?_)
  rw [y_set0 hk] at hP hD
  have hw : yP G (X.set k (yO a 2 [.int 0, .int 0, .int 0, .int 0, .int 0]) ++ []) H := ⟨hP, hD⟩
  refine lv_aload_n hx hb dX1_init_9 rfl (lv_at hl 0 rfl) ?_
  refine lv_iconst (v := 0) hx hb dX1_init_10 (by decide) ?_
  refine va_put (D := G.2.1) (ci := 2) (C := RX1) (T := TX1) (N := 5) hx hb hts inF_X1 tyX1 tyX1_ok nmX1 hown hK hw.1 hw.2 hS k (y_at0 hk) rfl 1 (by decide) (hts _ wm88) (fun _ h9 => h9) rfl (ty := .int) (v := .int 0) (by decide +kernel) rfl rfl (Nat.le_of_ble_eq_true rfl) dX1_init_11 (fun H locs hP hD hS => ?_)
  rw [y_set0 hk] at hP hD
  have hw : yP G (X.set k (yO a 2 [.int 0, .int 0, .int 0, .int 0, .int 0]) ++ []) H := ⟨hP, hD⟩
  refine lv_aload_n hx hb dX1_init_14 rfl (lv_at hl 0 rfl) ?_
  refine lv_iconst (v := 0) hx hb dX1_init_15 (by decide) ?_
  refine va_put (D := G.2.1) (ci := 2) (C := RX1) (T := TX1) (N := 5) hx hb hts inF_X1 tyX1 tyX1_ok nmX1 hown hK hw.1 hw.2 hS k (y_at0 hk) rfl 2 (by decide) (hts _ wm89) (fun _ h9 => h9) rfl (ty := .int) (v := .int 0) (by decide +kernel) rfl rfl (Nat.le_of_ble_eq_true rfl) dX1_init_16 (fun H locs hP hD hS => ?_)
  rw [y_set0 hk] at hP hD
  have hw : yP G (X.set k (yO a 2 [.int 0, .int 0, .int 0, .int 0, .int 0]) ++ []) H := ⟨hP, hD⟩
  refine lv_aload_n hx hb dX1_init_19 rfl (lv_at hl 0 rfl) ?_
  refine lv_iconst (v := 0) hx hb dX1_init_20 (by decide) ?_
  refine va_put (D := G.2.1) (ci := 2) (C := RX1) (T := TX1) (N := 5) hx hb hts inF_X1 tyX1 tyX1_ok nmX1 hown hK hw.1 hw.2 hS k (y_at0 hk) rfl 3 (by decide) (hts _ wm90) (fun _ h9 => h9) rfl (ty := .int) (v := .int 0) (by decide +kernel) rfl rfl (Nat.le_of_ble_eq_true rfl) dX1_init_21 (fun H locs hP hD hS => ?_)
  rw [y_set0 hk] at hP hD
  have hw : yP G (X.set k (yO a 2 [.int 0, .int 0, .int 0, .int 0, .int 0]) ++ []) H := ⟨hP, hD⟩
  refine lv_aload_n hx hb dX1_init_24 rfl (lv_at hl 0 rfl) ?_
  refine lv_iconst (v := 0) hx hb dX1_init_25 (by decide) ?_
  refine va_put (D := G.2.1) (ci := 2) (C := RX1) (T := TX1) (N := 5) hx hb hts inF_X1 tyX1 tyX1_ok nmX1 hown hK hw.1 hw.2 hS k (y_at0 hk) rfl 4 (by decide) (hts _ wm91) (fun _ h9 => h9) rfl (ty := .int) (v := .int 0) (by decide +kernel) rfl rfl (Nat.le_of_ble_eq_true rfl) dX1_init_26 (fun H locs hP hD hS => ?_)
  rw [y_set0 hk] at hP hD
  have hw : yP G (X.set k (yO a 2 [.int 0, .int 0, .int 0, .int 0, .int 0]) ++ []) H := ⟨hP, hD⟩
  exact yev hx hb hr hlocks hA hw hK hS rfl dX1_init_29
set_option maxHeartbeats 4000000 in
set_option maxRecDepth 100000 in
theorem c_X2_init0 {l : Launch} {G : PvG} {tys : List (ClassId × FieldType)} (htys : tys = pvT G) {X : va_W} {k a : Nat}  (hX : X[k]? = some (yO a 3 [.int 0, .null, .int 0, .int 0, .int 0, .int 0, .int 0, .int 0, .int 0, .int 0, .int 0, .int 0, .int 0, .int 0, .null, .null]))  : Met l yX2_init (Cond.code yX2_init cX2_init 2 none :: WA) ({ frames := 1, cells := 2, slots := 0, locals := 14 }) (va_Pc [.ref a, .int 0] (pvY G tys X)) (va_Qv (fun X' : va_W => ∃ (q1 : Nat) (q2 : Nat), X' = X.set k (yO a 3 [.int 0, .null, .int 0, .int 0, .int 0, .int 0, .int 0, .int 0, .int 0, .int 0, .int 0, .int 0, .int 0, .int 0, .ref q1, .ref q2]) ++ ([yA q1 (G.1 0) 0 (fun _ => 0)] ++ [yA q2 (G.1 0) 0 (fun _ => 0)])) (pvY G tys) (pvB G)) 2 0 (pvB G) := by
  refine Met.ofW (cc := cX2_init) (maxL := 2) (ret := none) (by decide) rfl ?_
  intro p e s m args below meth c s₁ B hml hv
  obtain ⟨rfl, hw, hK, hA⟩ := hv
  have hx := B.exec
  have hb := B.bytes
  have hr := B.returns
  have hts0 := atoms_spec (ws := (Cond.code yX2_init cX2_init 2 none :: WA)) B.pre
  have hts : ∀ w ∈ WA, w.before _ s = true := fun w h => hts0 w (List.mem_cons_of_mem _ h)
  have hown : s.vm.findClass RX2 = some m.cls := findClass_of_methodNamed B.named
  have hlocks := B.notSynchronized
  have hin : meth.name = "<init>" := (name_of_methodNamed B.named B.method).1
  have hS : va_S (pvB G) s.heap s.heap [] := va_S.rf
  have hk := y_lt hX
  rw [y_start hX] at hw
  have hl := lv_entry ([.ref a, .int 0]) (n := 2) (Nat.le_of_ble_eq_true rfl)
  rw [lg_entry_eq]
  generalize (lg_sl ([.ref a, .int 0]) ++ List.replicate (2 - (lg_sl ([.ref a, .int 0])).length) Slot.unset).toArray = ls at hl ⊢
  have hl : lv_has ls 2 [(0, .ref a), (1, .int 0)] := hl
  refine lv_aload_n hx hb dX2_init_0 rfl (lv_at hl 0 rfl) ?_
  refine yobj hx hb (hml.trans hl.1.symm) hown (hts _ wm95) (hts _ wm8) (hts _ wm9) dX2_init_1 (Nat.le_of_ble_eq_true rfl) (Nat.le_of_ble_eq_true rfl) ?_
  refine lv_aload_n hx hb dX2_init_4 rfl (lv_at hl 0 rfl) ?_
  refine lv_iconst (v := 0) hx hb dX2_init_5 (by decide) ?_
  refine va_put (D := G.2.1) (ci := 3) (C := RX2) (T := TX2) (N := 16) hx hb hts inF_X2 tyX2 tyX2_ok nmX2 hown hK hw.1 hw.2 hS k (y_at0 hk) rfl 0 (by decide) (hts _ wm96) (fun _ h9 => h9) rfl (ty := .int) (v := .int 0) (by decide +kernel) rfl rfl (Nat.le_of_ble_eq_true rfl) dX2_init_6 (fun H locs hP hD hS => ?_)
  rw [y_set0 hk] at hP hD
  have hw : yP G (X.set k (yO a 3 [.int 0, .null, .int 0, .int 0, .int 0, .int 0, .int 0, .int 0, .int 0, .int 0, .int 0, .int 0, .int 0, .int 0, .null, .null]) ++ []) H := ⟨hP, hD⟩
  refine lv_aload_n hx hb dX2_init_9 rfl (lv_at hl 0 rfl) ?_
  refine lv_null hx hb dX2_init_10 ?_
  refine va_put (D := G.2.1) (ci := 3) (C := RX2) (T := TX2) (N := 16) hx hb hts inF_X2 tyX2 tyX2_ok nmX2 hown hK hw.1 hw.2 hS k (y_at0 hk) rfl 1 (by decide) (hts _ wm97) (fun _ h9 => h9) rfl (ty := .object "PinnaceView$Node") (v := .null) (by decide +kernel) rfl rfl (Nat.le_of_ble_eq_true rfl) dX2_init_11 (fun H locs hP hD hS => ?_)
  rw [y_set0 hk] at hP hD
  have hw : yP G (X.set k (yO a 3 [.int 0, .null, .int 0, .int 0, .int 0, .int 0, .int 0, .int 0, .int 0, .int 0, .int 0, .int 0, .int 0, .int 0, .null, .null]) ++ []) H := ⟨hP, hD⟩
  refine lv_aload_n hx hb dX2_init_14 rfl (lv_at hl 0 rfl) ?_
  refine lv_iconst (v := 0) hx hb dX2_init_15 (by decide) ?_
  refine va_put (D := G.2.1) (ci := 3) (C := RX2) (T := TX2) (N := 16) hx hb hts inF_X2 tyX2 tyX2_ok nmX2 hown hK hw.1 hw.2 hS k (y_at0 hk) rfl 2 (by decide) (hts _ wm98) (fun _ h9 => h9) rfl (ty := .int) (v := .int 0) (by decide +kernel) rfl rfl (Nat.le_of_ble_eq_true rfl) dX2_init_16 (fun H locs hP hD hS => ?_)
  rw [y_set0 hk] at hP hD
  have hw : yP G (X.set k (yO a 3 [.int 0, .null, .int 0, .int 0, .int 0, .int 0, .int 0, .int 0, .int 0, .int 0, .int 0, .int 0, .int 0, .int 0, .null, .null]) ++ []) H := ⟨hP, hD⟩
  refine lv_aload_n hx hb dX2_init_19 rfl (lv_at hl 0 rfl) ?_
  refine lv_iconst (v := 0) hx hb dX2_init_20 (by decide) ?_
  refine va_put (D := G.2.1) (ci := 3) (C := RX2) (T := TX2) (N := 16) hx hb hts inF_X2 tyX2 tyX2_ok nmX2 hown hK hw.1 hw.2 hS k (y_at0 hk) rfl 3 (by decide) (hts _ wm99) (fun _ h9 => h9) rfl (ty := .int) (v := .int 0) (by decide +kernel) rfl rfl (Nat.le_of_ble_eq_true rfl) dX2_init_21 (fun H locs hP hD hS => ?_)
  rw [y_set0 hk] at hP hD
  have hw : yP G (X.set k (yO a 3 [.int 0, .null, .int 0, .int 0, .int 0, .int 0, .int 0, .int 0, .int 0, .int 0, .int 0, .int 0, .int 0, .int 0, .null, .null]) ++ []) H := ⟨hP, hD⟩
  refine lv_aload_n hx hb dX2_init_24 rfl (lv_at hl 0 rfl) ?_
  refine lv_iconst (v := 0) hx hb dX2_init_25 (by decide) ?_
  refine va_put (D := G.2.1) (ci := 3) (C := RX2) (T := TX2) (N := 16) hx hb hts inF_X2 tyX2 tyX2_ok nmX2 hown hK hw.1 hw.2 hS k (y_at0 hk) rfl 4 (by decide) (hts _ wm100) (fun _ h9 => h9) rfl (ty := .boolean) (v := .int 0) (by decide +kernel) rfl rfl (Nat.le_of_ble_eq_true rfl) dX2_init_26 (fun H locs hP hD hS => ?_)
  rw [y_set0 hk] at hP hD
  have hw : yP G (X.set k (yO a 3 [.int 0, .null, .int 0, .int 0, .int 0, .int 0, .int 0, .int 0, .int 0, .int 0, .int 0, .int 0, .int 0, .int 0, .null, .null]) ++ []) H := ⟨hP, hD⟩
  refine lv_aload_n hx hb dX2_init_29 rfl (lv_at hl 0 rfl) ?_
  refine lv_iconst (v := 0) hx hb dX2_init_30 (by decide) ?_
  refine va_put (D := G.2.1) (ci := 3) (C := RX2) (T := TX2) (N := 16) hx hb hts inF_X2 tyX2 tyX2_ok nmX2 hown hK hw.1 hw.2 hS k (y_at0 hk) rfl 5 (by decide) (hts _ wm101) (fun _ h9 => h9) rfl (ty := .int) (v := .int 0) (by decide +kernel) rfl rfl (Nat.le_of_ble_eq_true rfl) dX2_init_31 (fun H locs hP hD hS => ?_)
  rw [y_set0 hk] at hP hD
  have hw : yP G (X.set k (yO a 3 [.int 0, .null, .int 0, .int 0, .int 0, .int 0, .int 0, .int 0, .int 0, .int 0, .int 0, .int 0, .int 0, .int 0, .null, .null]) ++ []) H := ⟨hP, hD⟩
  refine lv_aload_n hx hb dX2_init_34 rfl (lv_at hl 0 rfl) ?_
  refine lv_iconst (v := 0) hx hb dX2_init_35 (by decide) ?_
  refine va_put (D := G.2.1) (ci := 3) (C := RX2) (T := TX2) (N := 16) hx hb hts inF_X2 tyX2 tyX2_ok nmX2 hown hK hw.1 hw.2 hS k (y_at0 hk) rfl 6 (by decide) (hts _ wm102) (fun _ h9 => h9) rfl (ty := .int) (v := .int 0) (by decide +kernel) rfl rfl (Nat.le_of_ble_eq_true rfl) dX2_init_36 (fun H locs hP hD hS => ?_)
  rw [y_set0 hk] at hP hD
  have hw : yP G (X.set k (yO a 3 [.int 0, .null, .int 0, .int 0, .int 0, .int 0, .int 0, .int 0, .int 0, .int 0, .int 0, .int 0, .int 0, .int 0, .null, .null]) ++ []) H := ⟨hP, hD⟩
  refine lv_aload_n hx hb dX2_init_39 rfl (lv_at hl 0 rfl) ?_
  refine lv_iconst (v := 0) hx hb dX2_init_40 (by decide) ?_
  refine va_put (D := G.2.1) (ci := 3) (C := RX2) (T := TX2) (N := 16) hx hb hts inF_X2 tyX2 tyX2_ok nmX2 hown hK hw.1 hw.2 hS k (y_at0 hk) rfl 7 (by decide) (hts _ wm103) (fun _ h9 => h9) rfl (ty := .int) (v := .int 0) (by decide +kernel) rfl rfl (Nat.le_of_ble_eq_true rfl) dX2_init_41 (fun H locs hP hD hS => ?_)
  rw [y_set0 hk] at hP hD
  have hw : yP G (X.set k (yO a 3 [.int 0, .null, .int 0, .int 0, .int 0, .int 0, .int 0, .int 0, .int 0, .int 0, .int 0, .int 0, .int 0, .int 0, .null, .null]) ++ []) H := ⟨hP, hD⟩
  refine lv_aload_n hx hb dX2_init_44 rfl (lv_at hl 0 rfl) ?_
  refine lv_iconst (v := 0) hx hb dX2_init_45 (by decide) ?_
  refine va_put (D := G.2.1) (ci := 3) (C := RX2) (T := TX2) (N := 16) hx hb hts inF_X2 tyX2 tyX2_ok nmX2 hown hK hw.1 hw.2 hS k (y_at0 hk) rfl 8 (by decide) (hts _ wm104) (fun _ h9 => h9) rfl (ty := .int) (v := .int 0) (by decide +kernel) rfl rfl (Nat.le_of_ble_eq_true rfl) dX2_init_46 (fun H locs hP hD hS => ?_)
  rw [y_set0 hk] at hP hD
  have hw : yP G (X.set k (yO a 3 [.int 0, .null, .int 0, .int 0, .int 0, .int 0, .int 0, .int 0, .int 0, .int 0, .int 0, .int 0, .int 0, .int 0, .null, .null]) ++ []) H := ⟨hP, hD⟩
  refine lv_aload_n hx hb dX2_init_49 rfl (lv_at hl 0 rfl) ?_
  refine lv_iconst (v := 0) hx hb dX2_init_50 (by decide) ?_
  refine va_put (D := G.2.1) (ci := 3) (C := RX2) (T := TX2) (N := 16) hx hb hts inF_X2 tyX2 tyX2_ok nmX2 hown hK hw.1 hw.2 hS k (y_at0 hk) rfl 9 (by decide) (hts _ wm105) (fun _ h9 => h9) rfl (ty := .int) (v := .int 0) (by decide +kernel) rfl rfl (Nat.le_of_ble_eq_true rfl) dX2_init_51 (fun H locs hP hD hS => ?_)
  rw [y_set0 hk] at hP hD
  have hw : yP G (X.set k (yO a 3 [.int 0, .null, .int 0, .int 0, .int 0, .int 0, .int 0, .int 0, .int 0, .int 0, .int 0, .int 0, .int 0, .int 0, .null, .null]) ++ []) H := ⟨hP, hD⟩
  refine lv_aload_n hx hb dX2_init_54 rfl (lv_at hl 0 rfl) ?_
  refine lv_iconst (v := 0) hx hb dX2_init_55 (by decide) ?_
  refine va_put (D := G.2.1) (ci := 3) (C := RX2) (T := TX2) (N := 16) hx hb hts inF_X2 tyX2 tyX2_ok nmX2 hown hK hw.1 hw.2 hS k (y_at0 hk) rfl 10 (by decide) (hts _ wm106) (fun _ h9 => h9) rfl (ty := .int) (v := .int 0) (by decide +kernel) rfl rfl (Nat.le_of_ble_eq_true rfl) dX2_init_56 (fun H locs hP hD hS => ?_)
  rw [y_set0 hk] at hP hD
  have hw : yP G (X.set k (yO a 3 [.int 0, .null, .int 0, .int 0, .int 0, .int 0, .int 0, .int 0, .int 0, .int 0, .int 0, .int 0, .int 0, .int 0, .null, .null]) ++ []) H := ⟨hP, hD⟩
  refine lv_aload_n hx hb dX2_init_59 rfl (lv_at hl 0 rfl) ?_
  refine lv_iconst (v := 0) hx hb dX2_init_60 (by decide) ?_
  refine va_put (D := G.2.1) (ci := 3) (C := RX2) (T := TX2) (N := 16) hx hb hts inF_X2 tyX2 tyX2_ok nmX2 hown hK hw.1 hw.2 hS k (y_at0 hk) rfl 11 (by decide) (hts _ wm107) (fun _ h9 => h9) rfl (ty := .int) (v := .int 0) (by decide +kernel) rfl rfl (Nat.le_of_ble_eq_true rfl) dX2_init_61 (fun H locs hP hD hS => ?_)
  rw [y_set0 hk] at hP hD
  have hw : yP G (X.set k (yO a 3 [.int 0, .null, .int 0, .int 0, .int 0, .int 0, .int 0, .int 0, .int 0, .int 0, .int 0, .int 0, .int 0, .int 0, .null, .null]) ++ []) H := ⟨hP, hD⟩
  refine lv_aload_n hx hb dX2_init_64 rfl (lv_at hl 0 rfl) ?_
  refine lv_iconst (v := 0) hx hb dX2_init_65 (by decide) ?_
  refine va_put (D := G.2.1) (ci := 3) (C := RX2) (T := TX2) (N := 16) hx hb hts inF_X2 tyX2 tyX2_ok nmX2 hown hK hw.1 hw.2 hS k (y_at0 hk) rfl 12 (by decide) (hts _ wm108) (fun _ h9 => h9) rfl (ty := .int) (v := .int 0) (by decide +kernel) rfl rfl (Nat.le_of_ble_eq_true rfl) dX2_init_66 (fun H locs hP hD hS => ?_)
  rw [y_set0 hk] at hP hD
  have hw : yP G (X.set k (yO a 3 [.int 0, .null, .int 0, .int 0, .int 0, .int 0, .int 0, .int 0, .int 0, .int 0, .int 0, .int 0, .int 0, .int 0, .null, .null]) ++ []) H := ⟨hP, hD⟩
  refine lv_aload_n hx hb dX2_init_69 rfl (lv_at hl 0 rfl) ?_
  refine lv_iconst (v := 0) hx hb dX2_init_70 (by decide) ?_
  refine va_put (D := G.2.1) (ci := 3) (C := RX2) (T := TX2) (N := 16) hx hb hts inF_X2 tyX2 tyX2_ok nmX2 hown hK hw.1 hw.2 hS k (y_at0 hk) rfl 13 (by decide) (hts _ wm109) (fun _ h9 => h9) rfl (ty := .int) (v := .int 0) (by decide +kernel) rfl rfl (Nat.le_of_ble_eq_true rfl) dX2_init_71 (fun H locs hP hD hS => ?_)
  rw [y_set0 hk] at hP hD
  have hw : yP G (X.set k (yO a 3 [.int 0, .null, .int 0, .int 0, .int 0, .int 0, .int 0, .int 0, .int 0, .int 0, .int 0, .int 0, .int 0, .int 0, .null, .null]) ++ []) H := ⟨hP, hD⟩
  refine lv_aload_n hx hb dX2_init_74 rfl (lv_at hl 0 rfl) ?_
  refine lv_iconst (v := 0) hx hb dX2_init_75 (by decide) ?_
  refine lv_iload_n hx hb dX2_init_76 rfl (lv_at hl 1 rfl) ?_
  refine pmmax hx hb (hml.trans hl.1.symm) hown (hts _ wm110) (hts _ wm111) (hts _ wm112) (hts _ wm113) (Nat.le_of_ble_eq_true rfl) (Nat.le_of_ble_eq_true rfl) (Nat.le_of_ble_eq_true rfl) (Nat.le_of_ble_eq_true rfl) dX2_init_77 ?_
  rw [show imax 0 0 = 0 from by decide]
  refine ynewI hx hb (hts _ wm3) hA hK htys hw hS (N := 0) (by decide) (by decide) (by decide) (Nat.le_of_ble_eq_true rfl) (Nat.le_of_ble_eq_true rfl) dX2_init_80 (fun q1 H hw hS => ?_)
  rw [List.append_assoc] at hw
  have hw : yP G (X.set k (yO a 3 [.int 0, .null, .int 0, .int 0, .int 0, .int 0, .int 0, .int 0, .int 0, .int 0, .int 0, .int 0, .int 0, .int 0, .null, .null]) ++ [yA q1 (G.1 0) 0 (fun _ => 0)]) H := hw
  refine va_putF (D := G.2.1) (ci := 3) (C := RX2) (T := TX2) (N := 16) hx hb hts inF_X2 tyX2 tyX2_ok nmX2 hown hK hw.1 hw.2 hS k (y_at0 hk) rfl 14 (by decide) (hts _ wm114) (fun _ h9 => h9) rfl hin rfl (ty := .array .int) (v := .ref q1) (by decide +kernel) rfl rfl (Nat.le_of_ble_eq_true rfl) dX2_init_82 (fun H locs hP hD hS => ?_)
  rw [y_set0 hk] at hP hD
  have hw : yP G (X.set k (yO a 3 [.int 0, .null, .int 0, .int 0, .int 0, .int 0, .int 0, .int 0, .int 0, .int 0, .int 0, .int 0, .int 0, .int 0, .ref q1, .null]) ++ [yA q1 (G.1 0) 0 (fun _ => 0)]) H := ⟨hP, hD⟩
  refine lv_aload_n hx hb dX2_init_85 rfl (lv_at hl 0 rfl) ?_
  refine lv_iconst (v := 0) hx hb dX2_init_86 (by decide) ?_
  refine lv_iload_n hx hb dX2_init_87 rfl (lv_at hl 1 rfl) ?_
  refine pmmax hx hb (hml.trans hl.1.symm) hown (hts _ wm110) (hts _ wm111) (hts _ wm112) (hts _ wm113) (Nat.le_of_ble_eq_true rfl) (Nat.le_of_ble_eq_true rfl) (Nat.le_of_ble_eq_true rfl) (Nat.le_of_ble_eq_true rfl) dX2_init_88 ?_
  rw [show imax 0 0 = 0 from by decide]
  refine ynewI hx hb (hts _ wm3) hA hK htys hw hS (N := 0) (by decide) (by decide) (by decide) (Nat.le_of_ble_eq_true rfl) (Nat.le_of_ble_eq_true rfl) dX2_init_91 (fun q2 H hw hS => ?_)
  rw [List.append_assoc] at hw
  have hw : yP G (X.set k (yO a 3 [.int 0, .null, .int 0, .int 0, .int 0, .int 0, .int 0, .int 0, .int 0, .int 0, .int 0, .int 0, .int 0, .int 0, .ref q1, .null]) ++ ([yA q1 (G.1 0) 0 (fun _ => 0)] ++ [yA q2 (G.1 0) 0 (fun _ => 0)])) H := hw
  refine va_putF (D := G.2.1) (ci := 3) (C := RX2) (T := TX2) (N := 16) hx hb hts inF_X2 tyX2 tyX2_ok nmX2 hown hK hw.1 hw.2 hS k (y_at0 hk) rfl 15 (by decide) (hts _ wm115) (fun _ h9 => h9) rfl hin rfl (ty := .array .int) (v := .ref q2) (by decide +kernel) rfl rfl (Nat.le_of_ble_eq_true rfl) dX2_init_93 (fun H locs hP hD hS => ?_)
  rw [y_set0 hk] at hP hD
  have hw : yP G (X.set k (yO a 3 [.int 0, .null, .int 0, .int 0, .int 0, .int 0, .int 0, .int 0, .int 0, .int 0, .int 0, .int 0, .int 0, .int 0, .ref q1, .ref q2]) ++ ([yA q1 (G.1 0) 0 (fun _ => 0)] ++ [yA q2 (G.1 0) 0 (fun _ => 0)])) H := ⟨hP, hD⟩
  exact yev hx hb hr hlocks hA hw hK hS ⟨q1, q2, rfl⟩ dX2_init_96
set_option maxHeartbeats 4000000 in
set_option maxRecDepth 100000 in
theorem c_X2_init20 {l : Launch} {G : PvG} {tys : List (ClassId × FieldType)} (htys : tys = pvT G) {X : va_W} {k a : Nat}  (hX : X[k]? = some (yO a 3 [.int 0, .null, .int 0, .int 0, .int 0, .int 0, .int 0, .int 0, .int 0, .int 0, .int 0, .int 0, .int 0, .int 0, .null, .null]))  : Met l yX2_init (Cond.code yX2_init cX2_init 2 none :: WA) ({ frames := 1, cells := 2, slots := 40, locals := 14 }) (va_Pc [.ref a, .int 20] (pvY G tys X)) (va_Qv (fun X' : va_W => ∃ (q1 : Nat) (q2 : Nat), X' = X.set k (yO a 3 [.int 0, .null, .int 0, .int 0, .int 0, .int 0, .int 0, .int 0, .int 0, .int 0, .int 0, .int 0, .int 0, .int 0, .ref q1, .ref q2]) ++ ([yA q1 (G.1 0) 20 (fun _ => 0)] ++ [yA q2 (G.1 0) 20 (fun _ => 0)])) (pvY G tys) (pvB G)) 2 40 (pvB G) := by
  refine Met.ofW (cc := cX2_init) (maxL := 2) (ret := none) (by decide) rfl ?_
  intro p e s m args below meth c s₁ B hml hv
  obtain ⟨rfl, hw, hK, hA⟩ := hv
  have hx := B.exec
  have hb := B.bytes
  have hr := B.returns
  have hts0 := atoms_spec (ws := (Cond.code yX2_init cX2_init 2 none :: WA)) B.pre
  have hts : ∀ w ∈ WA, w.before _ s = true := fun w h => hts0 w (List.mem_cons_of_mem _ h)
  have hown : s.vm.findClass RX2 = some m.cls := findClass_of_methodNamed B.named
  have hlocks := B.notSynchronized
  have hin : meth.name = "<init>" := (name_of_methodNamed B.named B.method).1
  have hS : va_S (pvB G) s.heap s.heap [] := va_S.rf
  have hk := y_lt hX
  rw [y_start hX] at hw
  have hl := lv_entry ([.ref a, .int 20]) (n := 2) (Nat.le_of_ble_eq_true rfl)
  rw [lg_entry_eq]
  generalize (lg_sl ([.ref a, .int 20]) ++ List.replicate (2 - (lg_sl ([.ref a, .int 20])).length) Slot.unset).toArray = ls at hl ⊢
  have hl : lv_has ls 2 [(0, .ref a), (1, .int 20)] := hl
  refine lv_aload_n hx hb dX2_init_0 rfl (lv_at hl 0 rfl) ?_
  refine yobj hx hb (hml.trans hl.1.symm) hown (hts _ wm95) (hts _ wm8) (hts _ wm9) dX2_init_1 (Nat.le_of_ble_eq_true rfl) (Nat.le_of_ble_eq_true rfl) ?_
  refine lv_aload_n hx hb dX2_init_4 rfl (lv_at hl 0 rfl) ?_
  refine lv_iconst (v := 0) hx hb dX2_init_5 (by decide) ?_
  refine va_put (D := G.2.1) (ci := 3) (C := RX2) (T := TX2) (N := 16) hx hb hts inF_X2 tyX2 tyX2_ok nmX2 hown hK hw.1 hw.2 hS k (y_at0 hk) rfl 0 (by decide) (hts _ wm96) (fun _ h9 => h9) rfl (ty := .int) (v := .int 0) (by decide +kernel) rfl rfl (Nat.le_of_ble_eq_true rfl) dX2_init_6 (fun H locs hP hD hS => ?_)
  rw [y_set0 hk] at hP hD
  have hw : yP G (X.set k (yO a 3 [.int 0, .null, .int 0, .int 0, .int 0, .int 0, .int 0, .int 0, .int 0, .int 0, .int 0, .int 0, .int 0, .int 0, .null, .null]) ++ []) H := ⟨hP, hD⟩
  refine lv_aload_n hx hb dX2_init_9 rfl (lv_at hl 0 rfl) ?_
  refine lv_null hx hb dX2_init_10 ?_
  refine va_put (D := G.2.1) (ci := 3) (C := RX2) (T := TX2) (N := 16) hx hb hts inF_X2 tyX2 tyX2_ok nmX2 hown hK hw.1 hw.2 hS k (y_at0 hk) rfl 1 (by decide) (hts _ wm97) (fun _ h9 => h9) rfl (ty := .object "PinnaceView$Node") (v := .null) (by decide +kernel) rfl rfl (Nat.le_of_ble_eq_true rfl) dX2_init_11 (fun H locs hP hD hS => ?_)
  rw [y_set0 hk] at hP hD
  have hw : yP G (X.set k (yO a 3 [.int 0, .null, .int 0, .int 0, .int 0, .int 0, .int 0, .int 0, .int 0, .int 0, .int 0, .int 0, .int 0, .int 0, .null, .null]) ++ []) H := ⟨hP, hD⟩
  refine lv_aload_n hx hb dX2_init_14 rfl (lv_at hl 0 rfl) ?_
  refine lv_iconst (v := 0) hx hb dX2_init_15 (by decide) ?_
  refine va_put (D := G.2.1) (ci := 3) (C := RX2) (T := TX2) (N := 16) hx hb hts inF_X2 tyX2 tyX2_ok nmX2 hown hK hw.1 hw.2 hS k (y_at0 hk) rfl 2 (by decide) (hts _ wm98) (fun _ h9 => h9) rfl (ty := .int) (v := .int 0) (by decide +kernel) rfl rfl (Nat.le_of_ble_eq_true rfl) dX2_init_16 (fun H locs hP hD hS => ?_)
  rw [y_set0 hk] at hP hD
  have hw : yP G (X.set k (yO a 3 [.int 0, .null, .int 0, .int 0, .int 0, .int 0, .int 0, .int 0, .int 0, .int 0, .int 0, .int 0, .int 0, .int 0, .null, .null]) ++ []) H := ⟨hP, hD⟩
  refine lv_aload_n hx hb dX2_init_19 rfl (lv_at hl 0 rfl) ?_
  refine lv_iconst (v := 0) hx hb dX2_init_20 (by decide) ?_
  refine va_put (D := G.2.1) (ci := 3) (C := RX2) (T := TX2) (N := 16) hx hb hts inF_X2 tyX2 tyX2_ok nmX2 hown hK hw.1 hw.2 hS k (y_at0 hk) rfl 3 (by decide) (hts _ wm99) (fun _ h9 => h9) rfl (ty := .int) (v := .int 0) (by decide +kernel) rfl rfl (Nat.le_of_ble_eq_true rfl) dX2_init_21 (fun H locs hP hD hS => ?_)
  rw [y_set0 hk] at hP hD
  have hw : yP G (X.set k (yO a 3 [.int 0, .null, .int 0, .int 0, .int 0, .int 0, .int 0, .int 0, .int 0, .int 0, .int 0, .int 0, .int 0, .int 0, .null, .null]) ++ []) H := ⟨hP, hD⟩
  refine lv_aload_n hx hb dX2_init_24 rfl (lv_at hl 0 rfl) ?_
  refine lv_iconst (v := 0) hx hb dX2_init_25 (by decide) ?_
  refine va_put (D := G.2.1) (ci := 3) (C := RX2) (T := TX2) (N := 16) hx hb hts inF_X2 tyX2 tyX2_ok nmX2 hown hK hw.1 hw.2 hS k (y_at0 hk) rfl 4 (by decide) (hts _ wm100) (fun _ h9 => h9) rfl (ty := .boolean) (v := .int 0) (by decide +kernel) rfl rfl (Nat.le_of_ble_eq_true rfl) dX2_init_26 (fun H locs hP hD hS => ?_)
  rw [y_set0 hk] at hP hD
  have hw : yP G (X.set k (yO a 3 [.int 0, .null, .int 0, .int 0, .int 0, .int 0, .int 0, .int 0, .int 0, .int 0, .int 0, .int 0, .int 0, .int 0, .null, .null]) ++ []) H := ⟨hP, hD⟩
  refine lv_aload_n hx hb dX2_init_29 rfl (lv_at hl 0 rfl) ?_
  refine lv_iconst (v := 0) hx hb dX2_init_30 (by decide) ?_
  refine va_put (D := G.2.1) (ci := 3) (C := RX2) (T := TX2) (N := 16) hx hb hts inF_X2 tyX2 tyX2_ok nmX2 hown hK hw.1 hw.2 hS k (y_at0 hk) rfl 5 (by decide) (hts _ wm101) (fun _ h9 => h9) rfl (ty := .int) (v := .int 0) (by decide +kernel) rfl rfl (Nat.le_of_ble_eq_true rfl) dX2_init_31 (fun H locs hP hD hS => ?_)
  rw [y_set0 hk] at hP hD
  have hw : yP G (X.set k (yO a 3 [.int 0, .null, .int 0, .int 0, .int 0, .int 0, .int 0, .int 0, .int 0, .int 0, .int 0, .int 0, .int 0, .int 0, .null, .null]) ++ []) H := ⟨hP, hD⟩
  refine lv_aload_n hx hb dX2_init_34 rfl (lv_at hl 0 rfl) ?_
  refine lv_iconst (v := 0) hx hb dX2_init_35 (by decide) ?_
  refine va_put (D := G.2.1) (ci := 3) (C := RX2) (T := TX2) (N := 16) hx hb hts inF_X2 tyX2 tyX2_ok nmX2 hown hK hw.1 hw.2 hS k (y_at0 hk) rfl 6 (by decide) (hts _ wm102) (fun _ h9 => h9) rfl (ty := .int) (v := .int 0) (by decide +kernel) rfl rfl (Nat.le_of_ble_eq_true rfl) dX2_init_36 (fun H locs hP hD hS => ?_)
  rw [y_set0 hk] at hP hD
  have hw : yP G (X.set k (yO a 3 [.int 0, .null, .int 0, .int 0, .int 0, .int 0, .int 0, .int 0, .int 0, .int 0, .int 0, .int 0, .int 0, .int 0, .null, .null]) ++ []) H := ⟨hP, hD⟩
  refine lv_aload_n hx hb dX2_init_39 rfl (lv_at hl 0 rfl) ?_
  refine lv_iconst (v := 0) hx hb dX2_init_40 (by decide) ?_
  refine va_put (D := G.2.1) (ci := 3) (C := RX2) (T := TX2) (N := 16) hx hb hts inF_X2 tyX2 tyX2_ok nmX2 hown hK hw.1 hw.2 hS k (y_at0 hk) rfl 7 (by decide) (hts _ wm103) (fun _ h9 => h9) rfl (ty := .int) (v := .int 0) (by decide +kernel) rfl rfl (Nat.le_of_ble_eq_true rfl) dX2_init_41 (fun H locs hP hD hS => ?_)
  rw [y_set0 hk] at hP hD
  have hw : yP G (X.set k (yO a 3 [.int 0, .null, .int 0, .int 0, .int 0, .int 0, .int 0, .int 0, .int 0, .int 0, .int 0, .int 0, .int 0, .int 0, .null, .null]) ++ []) H := ⟨hP, hD⟩
  refine lv_aload_n hx hb dX2_init_44 rfl (lv_at hl 0 rfl) ?_
  refine lv_iconst (v := 0) hx hb dX2_init_45 (by decide) ?_
  refine va_put (D := G.2.1) (ci := 3) (C := RX2) (T := TX2) (N := 16) hx hb hts inF_X2 tyX2 tyX2_ok nmX2 hown hK hw.1 hw.2 hS k (y_at0 hk) rfl 8 (by decide) (hts _ wm104) (fun _ h9 => h9) rfl (ty := .int) (v := .int 0) (by decide +kernel) rfl rfl (Nat.le_of_ble_eq_true rfl) dX2_init_46 (fun H locs hP hD hS => ?_)
  rw [y_set0 hk] at hP hD
  have hw : yP G (X.set k (yO a 3 [.int 0, .null, .int 0, .int 0, .int 0, .int 0, .int 0, .int 0, .int 0, .int 0, .int 0, .int 0, .int 0, .int 0, .null, .null]) ++ []) H := ⟨hP, hD⟩
  refine lv_aload_n hx hb dX2_init_49 rfl (lv_at hl 0 rfl) ?_
  refine lv_iconst (v := 0) hx hb dX2_init_50 (by decide) ?_
  refine va_put (D := G.2.1) (ci := 3) (C := RX2) (T := TX2) (N := 16) hx hb hts inF_X2 tyX2 tyX2_ok nmX2 hown hK hw.1 hw.2 hS k (y_at0 hk) rfl 9 (by decide) (hts _ wm105) (fun _ h9 => h9) rfl (ty := .int) (v := .int 0) (by decide +kernel) rfl rfl (Nat.le_of_ble_eq_true rfl) dX2_init_51 (fun H locs hP hD hS => ?_)
  rw [y_set0 hk] at hP hD
  have hw : yP G (X.set k (yO a 3 [.int 0, .null, .int 0, .int 0, .int 0, .int 0, .int 0, .int 0, .int 0, .int 0, .int 0, .int 0, .int 0, .int 0, .null, .null]) ++ []) H := ⟨hP, hD⟩
  refine lv_aload_n hx hb dX2_init_54 rfl (lv_at hl 0 rfl) ?_
  refine lv_iconst (v := 0) hx hb dX2_init_55 (by decide) ?_
  refine va_put (D := G.2.1) (ci := 3) (C := RX2) (T := TX2) (N := 16) hx hb hts inF_X2 tyX2 tyX2_ok nmX2 hown hK hw.1 hw.2 hS k (y_at0 hk) rfl 10 (by decide) (hts _ wm106) (fun _ h9 => h9) rfl (ty := .int) (v := .int 0) (by decide +kernel) rfl rfl (Nat.le_of_ble_eq_true rfl) dX2_init_56 (fun H locs hP hD hS => ?_)
  rw [y_set0 hk] at hP hD
  have hw : yP G (X.set k (yO a 3 [.int 0, .null, .int 0, .int 0, .int 0, .int 0, .int 0, .int 0, .int 0, .int 0, .int 0, .int 0, .int 0, .int 0, .null, .null]) ++ []) H := ⟨hP, hD⟩
  refine lv_aload_n hx hb dX2_init_59 rfl (lv_at hl 0 rfl) ?_
  refine lv_iconst (v := 0) hx hb dX2_init_60 (by decide) ?_
  refine va_put (D := G.2.1) (ci := 3) (C := RX2) (T := TX2) (N := 16) hx hb hts inF_X2 tyX2 tyX2_ok nmX2 hown hK hw.1 hw.2 hS k (y_at0 hk) rfl 11 (by decide) (hts _ wm107) (fun _ h9 => h9) rfl (ty := .int) (v := .int 0) (by decide +kernel) rfl rfl (Nat.le_of_ble_eq_true rfl) dX2_init_61 (fun H locs hP hD hS => ?_)
  rw [y_set0 hk] at hP hD
  have hw : yP G (X.set k (yO a 3 [.int 0, .null, .int 0, .int 0, .int 0, .int 0, .int 0, .int 0, .int 0, .int 0, .int 0, .int 0, .int 0, .int 0, .null, .null]) ++ []) H := ⟨hP, hD⟩
  refine lv_aload_n hx hb dX2_init_64 rfl (lv_at hl 0 rfl) ?_
  refine lv_iconst (v := 0) hx hb dX2_init_65 (by decide) ?_
  refine va_put (D := G.2.1) (ci := 3) (C := RX2) (T := TX2) (N := 16) hx hb hts inF_X2 tyX2 tyX2_ok nmX2 hown hK hw.1 hw.2 hS k (y_at0 hk) rfl 12 (by decide) (hts _ wm108) (fun _ h9 => h9) rfl (ty := .int) (v := .int 0) (by decide +kernel) rfl rfl (Nat.le_of_ble_eq_true rfl) dX2_init_66 (fun H locs hP hD hS => ?_)
  rw [y_set0 hk] at hP hD
  have hw : yP G (X.set k (yO a 3 [.int 0, .null, .int 0, .int 0, .int 0, .int 0, .int 0, .int 0, .int 0, .int 0, .int 0, .int 0, .int 0, .int 0, .null, .null]) ++ []) H := ⟨hP, hD⟩
  refine lv_aload_n hx hb dX2_init_69 rfl (lv_at hl 0 rfl) ?_
  refine lv_iconst (v := 0) hx hb dX2_init_70 (by decide) ?_
  refine va_put (D := G.2.1) (ci := 3) (C := RX2) (T := TX2) (N := 16) hx hb hts inF_X2 tyX2 tyX2_ok nmX2 hown hK hw.1 hw.2 hS k (y_at0 hk) rfl 13 (by decide) (hts _ wm109) (fun _ h9 => h9) rfl (ty := .int) (v := .int 0) (by decide +kernel) rfl rfl (Nat.le_of_ble_eq_true rfl) dX2_init_71 (fun H locs hP hD hS => ?_)
  rw [y_set0 hk] at hP hD
  have hw : yP G (X.set k (yO a 3 [.int 0, .null, .int 0, .int 0, .int 0, .int 0, .int 0, .int 0, .int 0, .int 0, .int 0, .int 0, .int 0, .int 0, .null, .null]) ++ []) H := ⟨hP, hD⟩
  refine lv_aload_n hx hb dX2_init_74 rfl (lv_at hl 0 rfl) ?_
  refine lv_iconst (v := 0) hx hb dX2_init_75 (by decide) ?_
  refine lv_iload_n hx hb dX2_init_76 rfl (lv_at hl 1 rfl) ?_
  refine pmmax hx hb (hml.trans hl.1.symm) hown (hts _ wm110) (hts _ wm111) (hts _ wm112) (hts _ wm113) (Nat.le_of_ble_eq_true rfl) (Nat.le_of_ble_eq_true rfl) (Nat.le_of_ble_eq_true rfl) (Nat.le_of_ble_eq_true rfl) dX2_init_77 ?_
  rw [show imax 0 20 = 20 from by decide]
  refine ynewI hx hb (hts _ wm3) hA hK htys hw hS (N := 20) (by decide) (by decide) (by decide) (Nat.le_of_ble_eq_true rfl) (Nat.le_of_ble_eq_true rfl) dX2_init_80 (fun q1 H hw hS => ?_)
  rw [List.append_assoc] at hw
  have hw : yP G (X.set k (yO a 3 [.int 0, .null, .int 0, .int 0, .int 0, .int 0, .int 0, .int 0, .int 0, .int 0, .int 0, .int 0, .int 0, .int 0, .null, .null]) ++ [yA q1 (G.1 0) 20 (fun _ => 0)]) H := hw
  refine va_putF (D := G.2.1) (ci := 3) (C := RX2) (T := TX2) (N := 16) hx hb hts inF_X2 tyX2 tyX2_ok nmX2 hown hK hw.1 hw.2 hS k (y_at0 hk) rfl 14 (by decide) (hts _ wm114) (fun _ h9 => h9) rfl hin rfl (ty := .array .int) (v := .ref q1) (by decide +kernel) rfl rfl (Nat.le_of_ble_eq_true rfl) dX2_init_82 (fun H locs hP hD hS => ?_)
  rw [y_set0 hk] at hP hD
  have hw : yP G (X.set k (yO a 3 [.int 0, .null, .int 0, .int 0, .int 0, .int 0, .int 0, .int 0, .int 0, .int 0, .int 0, .int 0, .int 0, .int 0, .ref q1, .null]) ++ [yA q1 (G.1 0) 20 (fun _ => 0)]) H := ⟨hP, hD⟩
  refine lv_aload_n hx hb dX2_init_85 rfl (lv_at hl 0 rfl) ?_
  refine lv_iconst (v := 0) hx hb dX2_init_86 (by decide) ?_
  refine lv_iload_n hx hb dX2_init_87 rfl (lv_at hl 1 rfl) ?_
  refine pmmax hx hb (hml.trans hl.1.symm) hown (hts _ wm110) (hts _ wm111) (hts _ wm112) (hts _ wm113) (Nat.le_of_ble_eq_true rfl) (Nat.le_of_ble_eq_true rfl) (Nat.le_of_ble_eq_true rfl) (Nat.le_of_ble_eq_true rfl) dX2_init_88 ?_
  rw [show imax 0 20 = 20 from by decide]
  refine ynewI hx hb (hts _ wm3) hA hK htys hw hS (N := 20) (by decide) (by decide) (by decide) (Nat.le_of_ble_eq_true rfl) (Nat.le_of_ble_eq_true rfl) dX2_init_91 (fun q2 H hw hS => ?_)
  rw [List.append_assoc] at hw
  have hw : yP G (X.set k (yO a 3 [.int 0, .null, .int 0, .int 0, .int 0, .int 0, .int 0, .int 0, .int 0, .int 0, .int 0, .int 0, .int 0, .int 0, .ref q1, .null]) ++ ([yA q1 (G.1 0) 20 (fun _ => 0)] ++ [yA q2 (G.1 0) 20 (fun _ => 0)])) H := hw
  refine va_putF (D := G.2.1) (ci := 3) (C := RX2) (T := TX2) (N := 16) hx hb hts inF_X2 tyX2 tyX2_ok nmX2 hown hK hw.1 hw.2 hS k (y_at0 hk) rfl 15 (by decide) (hts _ wm115) (fun _ h9 => h9) rfl hin rfl (ty := .array .int) (v := .ref q2) (by decide +kernel) rfl rfl (Nat.le_of_ble_eq_true rfl) dX2_init_93 (fun H locs hP hD hS => ?_)
  rw [y_set0 hk] at hP hD
  have hw : yP G (X.set k (yO a 3 [.int 0, .null, .int 0, .int 0, .int 0, .int 0, .int 0, .int 0, .int 0, .int 0, .int 0, .int 0, .int 0, .int 0, .ref q1, .ref q2]) ++ ([yA q1 (G.1 0) 20 (fun _ => 0)] ++ [yA q2 (G.1 0) 20 (fun _ => 0)])) H := ⟨hP, hD⟩
  exact yev hx hb hr hlocks hA hw hK hS ⟨q1, q2, rfl⟩ dX2_init_96
set_option maxHeartbeats 4000000 in
set_option maxRecDepth 100000 in
theorem c_X3_init0 {l : Launch} {G : PvG} {tys : List (ClassId × FieldType)} (htys : tys = pvT G) {X : va_W} {k a : Nat} {x y : Int32} (hX : X[k]? = some (yO a 4 [.int 0, .int 0, .int 0, .null, .null, .null, .null, .null, .null, .int 0, .int 0, .int 0, .int 0, .int 0]))  : Met l yX3_init (Cond.code yX3_init cX3_init 5 none :: WA) ({ frames := 4, cells := 7, slots := 38, locals := 72 }) (va_Pc [.ref a, .int x, .int 0, .int y] (pvY G tys X)) (va_Qv (fun X' : va_W => ∃ (q1 : Nat) (q2 : Nat) (q3 : Nat) (q4 : Nat) (q5 : Nat) (q6 : Nat) (q7 : Nat), X' = X.set k (yO a 4 [.int x, .int 0, .int y, .ref q1, .ref q3, .ref q4, .ref q5, .ref q2, .null, .int 0, .int 0, .int 0, .int 0, .int 0]) ++ (((((yO q1 0 [.int 0, .ref (G.2.2.2.1.1 0), .int 0] :: []) ++ (yO q2 2 [.int 0, .int 0, .int 0, .int 0, .int 0] :: [])) ++ [yA q3 (G.1 0) 0 (fun _ => 0)]) ++ [yA q4 (G.1 0) 14 (dcl 14)]) ++ (yO q5 3 [.int 0, .null, .int 0, .int 0, .int 0, .int 0, .int 0, .int 0, .int 0, .int 0, .int 0, .int 0, .int 0, .int 0, .ref q6, .ref q7] :: ([yA q6 (G.1 0) 0 (fun _ => 0)] ++ [yA q7 (G.1 0) 0 (fun _ => 0)])))) (pvY G tys) (pvB G)) 7 38 (pvB G) := by
  refine Met.ofW (cc := cX3_init) (maxL := 5) (ret := none) (by decide) rfl ?_
  intro p e s m args below meth c s₁ B hml hv
  obtain ⟨rfl, hw, hK, hA⟩ := hv
  have hx := B.exec
  have hb := B.bytes
  have hr := B.returns
  have hts0 := atoms_spec (ws := (Cond.code yX3_init cX3_init 5 none :: WA)) B.pre
  have hts : ∀ w ∈ WA, w.before _ s = true := fun w h => hts0 w (List.mem_cons_of_mem _ h)
  have hown : s.vm.findClass RX3 = some m.cls := findClass_of_methodNamed B.named
  have hlocks := B.notSynchronized
  have hin : meth.name = "<init>" := (name_of_methodNamed B.named B.method).1
  have hS : va_S (pvB G) s.heap s.heap [] := va_S.rf
  have hk := y_lt hX
  rw [y_start hX] at hw
  have hl := lv_entry ([.ref a, .int x, .int 0, .int y]) (n := 5) (Nat.le_of_ble_eq_true rfl)
  rw [lg_entry_eq]
  generalize (lg_sl ([.ref a, .int x, .int 0, .int y]) ++ List.replicate (5 - (lg_sl ([.ref a, .int x, .int 0, .int y])).length) Slot.unset).toArray = ls at hl ⊢
  have hl : lv_has ls 5 [(0, .ref a), (1, .int x), (2, .int 0), (3, .int y)] := hl
  refine lv_aload_n hx hb dX3_init_0 rfl (lv_at hl 0 rfl) ?_
  refine yobj hx hb (hml.trans hl.1.symm) hown (hts _ wm61) (hts _ wm8) (hts _ wm9) dX3_init_1 (Nat.le_of_ble_eq_true rfl) (Nat.le_of_ble_eq_true rfl) ?_
  refine lv_aload_n hx hb dX3_init_4 rfl (lv_at hl 0 rfl) ?_
  refine va_new (D := G.2.1) (ci := 0) (fs := [.int 0, .null, .int 0]) (C := RJx4a65c) (T := TJx4a65c) (N := 3) hx hb hts inF_Jx4a65c tyJx4a65c tyJx4a65c_ok hown (hts _ wm62) (hts _ wm12) (hts _ wm13) hK hw.1 hw.2 hS hA.1 rfl (fun j hj => by rcases (show j = 0 ∨ j = 1 ∨ j = 2 by omega) with rfl | rfl | rfl <;> rfl) (Nat.le_of_ble_eq_true rfl) (Nat.le_of_ble_eq_true rfl) dX3_init_5 (fun q1 H hP hD hS => ?_)
  have hw : yP G ((X.set k (yO a 4 [.int 0, .int 0, .int 0, .null, .null, .null, .null, .null, .null, .int 0, .int 0, .int 0, .int 0, .int 0]) ++ []) ++ [yO q1 0 [.int 0, .null, .int 0]]) H := ⟨hP, hD⟩
  refine lv_dup hx hb dX3_init_8 rfl ?_
  refine ycallv (va_runI (As := []) (rest := [.ref q1, .ref a]) ⟨hx, hb, hml, hown, hts⟩ (c_Jx4a65c_init_da8c8 (l := l) (G := G) (tys := tys) htys (X := ((X.set k (yO a 4 [.int 0, .int 0, .int 0, .null, .null, .null, .null, .null, .null, .int 0, .int 0, .int 0, .int 0, .int 0]) ++ []) ++ [yO q1 0 [.int 0, .null, .int 0]])) (k := (X.set k (yO a 4 [.int 0, .int 0, .int 0, .null, .null, .null, .null, .null, .null, .int 0, .int 0, .int 0, .int 0, .int 0]) ++ []).length) (a := q1)  y_last) (cwI 0 hts (gNA wm45) rfl rfl rfl (hts _ wm13) (hts _ wm83) (hts _ wm44) rfl (by decide +kernel) ⟨Nat.le_of_ble_eq_true rfl, Nat.le_of_ble_eq_true rfl⟩) (y_pre hA hS hw hK _) rfl rfl hl.1 rfl (lv_room (Nat.le_of_ble_eq_true rfl)) dX3_init_9 ⟨Nat.le_of_ble_eq_true rfl, Nat.le_of_ble_eq_true rfl⟩) hS (fun X1 H locs hp hw hS => ?_)
  obtain ⟨rfl⟩ := hp
  rw [y_back, List.append_assoc] at hw
  have hw : yP G (X.set k (yO a 4 [.int 0, .int 0, .int 0, .null, .null, .null, .null, .null, .null, .int 0, .int 0, .int 0, .int 0, .int 0]) ++ (yO q1 0 [.int 0, .ref (G.2.2.2.1.1 0), .int 0] :: [])) H := hw
  refine va_putF (D := G.2.1) (ci := 4) (C := RX3) (T := TX3) (N := 14) hx hb hts inF_X3 tyX3 tyX3_ok nmX3 hown hK hw.1 hw.2 hS k (y_at0 hk) rfl 3 (by decide) (hts _ wm63) (fun _ h9 => h9) rfl hin rfl (ty := .object "java/util/ArrayList") (v := .ref q1) (by decide +kernel) rfl rfl (Nat.le_of_ble_eq_true rfl) dX3_init_12 (fun H locs hP hD hS => ?_)
  rw [y_set0 hk] at hP hD
  have hw : yP G (X.set k (yO a 4 [.int 0, .int 0, .int 0, .ref q1, .null, .null, .null, .null, .null, .int 0, .int 0, .int 0, .int 0, .int 0]) ++ (yO q1 0 [.int 0, .ref (G.2.2.2.1.1 0), .int 0] :: [])) H := ⟨hP, hD⟩
  refine lv_aload_n hx hb dX3_init_15 rfl (lv_at hl 0 rfl) ?_
  refine va_new (D := G.2.1) (ci := 2) (fs := [.int 0, .int 0, .int 0, .int 0, .int 0]) (C := RX1) (T := TX1) (N := 5) hx hb hts inF_X1 tyX1 tyX1_ok hown (hts _ wm64) (hts _ wm65) (hts _ wm66) hK hw.1 hw.2 hS hA.1 rfl (fun j hj => by rcases (show j = 0 ∨ j = 1 ∨ j = 2 ∨ j = 3 ∨ j = 4 by omega) with rfl | rfl | rfl | rfl | rfl <;> rfl) (Nat.le_of_ble_eq_true rfl) (Nat.le_of_ble_eq_true rfl) dX3_init_16 (fun q2 H hP hD hS => ?_)
  have hw : yP G ((X.set k (yO a 4 [.int 0, .int 0, .int 0, .ref q1, .null, .null, .null, .null, .null, .int 0, .int 0, .int 0, .int 0, .int 0]) ++ (yO q1 0 [.int 0, .ref (G.2.2.2.1.1 0), .int 0] :: [])) ++ [yO q2 2 [.int 0, .int 0, .int 0, .int 0, .int 0]]) H := ⟨hP, hD⟩
  refine lv_dup hx hb dX3_init_19 rfl ?_
  refine ycallv (va_runIN (As := []) (rest := [.ref q2, .ref a]) ⟨hx, hb, hml, hown, hts⟩ (c_X1_init (l := l) (G := G) (tys := tys) htys (X := ((X.set k (yO a 4 [.int 0, .int 0, .int 0, .ref q1, .null, .null, .null, .null, .null, .int 0, .int 0, .int 0, .int 0, .int 0]) ++ (yO q1 0 [.int 0, .ref (G.2.2.2.1.1 0), .int 0] :: [])) ++ [yO q2 2 [.int 0, .int 0, .int 0, .int 0, .int 0]])) (k := (X.set k (yO a 4 [.int 0, .int 0, .int 0, .ref q1, .null, .null, .null, .null, .null, .int 0, .int 0, .int 0, .int 0, .int 0]) ++ (yO q1 0 [.int 0, .ref (G.2.2.2.1.1 0), .int 0] :: [])).length) (a := q2)  y_last) ⟨va_cnB 0 hts (gNA wm85) rfl rfl rfl hA.2.2.1 (hts _ wm66) (by decide +kernel) ⟨Nat.le_of_ble_eq_true rfl, Nat.le_of_ble_eq_true rfl⟩, rfl, (hts _ wm84)⟩ (y_pre hA hS hw hK _) rfl rfl hl.1 rfl (lv_room (Nat.le_of_ble_eq_true rfl)) dX3_init_20 ⟨Nat.le_of_ble_eq_true rfl, Nat.le_of_ble_eq_true rfl⟩) hS (fun X1 H locs hp hw hS => ?_)
  obtain ⟨rfl⟩ := hp
  rw [y_back, List.append_assoc] at hw
  have hw : yP G (X.set k (yO a 4 [.int 0, .int 0, .int 0, .ref q1, .null, .null, .null, .null, .null, .int 0, .int 0, .int 0, .int 0, .int 0]) ++ ((yO q1 0 [.int 0, .ref (G.2.2.2.1.1 0), .int 0] :: []) ++ (yO q2 2 [.int 0, .int 0, .int 0, .int 0, .int 0] :: []))) H := hw
  refine va_putF (D := G.2.1) (ci := 4) (C := RX3) (T := TX3) (N := 14) hx hb hts inF_X3 tyX3 tyX3_ok nmX3 hown hK hw.1 hw.2 hS k (y_at0 hk) rfl 7 (by decide) (hts _ wm67) (fun _ h9 => h9) rfl hin rfl (ty := .object "PinnaceView$Flow") (v := .ref q2) (by decide +kernel) rfl rfl (Nat.le_of_ble_eq_true rfl) dX3_init_23 (fun H locs hP hD hS => ?_)
  rw [y_set0 hk] at hP hD
  have hw : yP G (X.set k (yO a 4 [.int 0, .int 0, .int 0, .ref q1, .null, .null, .null, .ref q2, .null, .int 0, .int 0, .int 0, .int 0, .int 0]) ++ ((yO q1 0 [.int 0, .ref (G.2.2.2.1.1 0), .int 0] :: []) ++ (yO q2 2 [.int 0, .int 0, .int 0, .int 0, .int 0] :: []))) H := ⟨hP, hD⟩
  refine lv_aload_n hx hb dX3_init_26 rfl (lv_at hl 0 rfl) ?_
  refine lv_null hx hb dX3_init_27 ?_
  refine va_put (D := G.2.1) (ci := 4) (C := RX3) (T := TX3) (N := 14) hx hb hts inF_X3 tyX3 tyX3_ok nmX3 hown hK hw.1 hw.2 hS k (y_at0 hk) rfl 8 (by decide) (hts _ wm68) (fun _ h9 => h9) rfl (ty := .object "PinnaceView$Node") (v := .null) (by decide +kernel) rfl rfl (Nat.le_of_ble_eq_true rfl) dX3_init_28 (fun H locs hP hD hS => ?_)
  rw [y_set0 hk] at hP hD
  have hw : yP G (X.set k (yO a 4 [.int 0, .int 0, .int 0, .ref q1, .null, .null, .null, .ref q2, .null, .int 0, .int 0, .int 0, .int 0, .int 0]) ++ ((yO q1 0 [.int 0, .ref (G.2.2.2.1.1 0), .int 0] :: []) ++ (yO q2 2 [.int 0, .int 0, .int 0, .int 0, .int 0] :: []))) H := ⟨hP, hD⟩
  refine lv_aload_n hx hb dX3_init_31 rfl (lv_at hl 0 rfl) ?_
  refine lv_iconst (v := 0) hx hb dX3_init_32 (by decide) ?_
  refine va_put (D := G.2.1) (ci := 4) (C := RX3) (T := TX3) (N := 14) hx hb hts inF_X3 tyX3 tyX3_ok nmX3 hown hK hw.1 hw.2 hS k (y_at0 hk) rfl 9 (by decide) (hts _ wm69) (fun _ h9 => h9) rfl (ty := .int) (v := .int 0) (by decide +kernel) rfl rfl (Nat.le_of_ble_eq_true rfl) dX3_init_33 (fun H locs hP hD hS => ?_)
  rw [y_set0 hk] at hP hD
  have hw : yP G (X.set k (yO a 4 [.int 0, .int 0, .int 0, .ref q1, .null, .null, .null, .ref q2, .null, .int 0, .int 0, .int 0, .int 0, .int 0]) ++ ((yO q1 0 [.int 0, .ref (G.2.2.2.1.1 0), .int 0] :: []) ++ (yO q2 2 [.int 0, .int 0, .int 0, .int 0, .int 0] :: []))) H := ⟨hP, hD⟩
  refine lv_aload_n hx hb dX3_init_36 rfl (lv_at hl 0 rfl) ?_
  refine lv_iconst (v := 0) hx hb dX3_init_37 (by decide) ?_
  refine va_put (D := G.2.1) (ci := 4) (C := RX3) (T := TX3) (N := 14) hx hb hts inF_X3 tyX3 tyX3_ok nmX3 hown hK hw.1 hw.2 hS k (y_at0 hk) rfl 10 (by decide) (hts _ wm70) (fun _ h9 => h9) rfl (ty := .int) (v := .int 0) (by decide +kernel) rfl rfl (Nat.le_of_ble_eq_true rfl) dX3_init_38 (fun H locs hP hD hS => ?_)
  rw [y_set0 hk] at hP hD
  have hw : yP G (X.set k (yO a 4 [.int 0, .int 0, .int 0, .ref q1, .null, .null, .null, .ref q2, .null, .int 0, .int 0, .int 0, .int 0, .int 0]) ++ ((yO q1 0 [.int 0, .ref (G.2.2.2.1.1 0), .int 0] :: []) ++ (yO q2 2 [.int 0, .int 0, .int 0, .int 0, .int 0] :: []))) H := ⟨hP, hD⟩
  refine lv_aload_n hx hb dX3_init_41 rfl (lv_at hl 0 rfl) ?_
  refine lv_iconst (v := 0) hx hb dX3_init_42 (by decide) ?_
  refine va_put (D := G.2.1) (ci := 4) (C := RX3) (T := TX3) (N := 14) hx hb hts inF_X3 tyX3 tyX3_ok nmX3 hown hK hw.1 hw.2 hS k (y_at0 hk) rfl 11 (by decide) (hts _ wm71) (fun _ h9 => h9) rfl (ty := .int) (v := .int 0) (by decide +kernel) rfl rfl (Nat.le_of_ble_eq_true rfl) dX3_init_43 (fun H locs hP hD hS => ?_)
  rw [y_set0 hk] at hP hD
  have hw : yP G (X.set k (yO a 4 [.int 0, .int 0, .int 0, .ref q1, .null, .null, .null, .ref q2, .null, .int 0, .int 0, .int 0, .int 0, .int 0]) ++ ((yO q1 0 [.int 0, .ref (G.2.2.2.1.1 0), .int 0] :: []) ++ (yO q2 2 [.int 0, .int 0, .int 0, .int 0, .int 0] :: []))) H := ⟨hP, hD⟩
  refine lv_aload_n hx hb dX3_init_46 rfl (lv_at hl 0 rfl) ?_
  refine lv_iconst (v := 0) hx hb dX3_init_47 (by decide) ?_
  refine va_put (D := G.2.1) (ci := 4) (C := RX3) (T := TX3) (N := 14) hx hb hts inF_X3 tyX3 tyX3_ok nmX3 hown hK hw.1 hw.2 hS k (y_at0 hk) rfl 12 (by decide) (hts _ wm72) (fun _ h9 => h9) rfl (ty := .int) (v := .int 0) (by decide +kernel) rfl rfl (Nat.le_of_ble_eq_true rfl) dX3_init_48 (fun H locs hP hD hS => ?_)
  rw [y_set0 hk] at hP hD
  have hw : yP G (X.set k (yO a 4 [.int 0, .int 0, .int 0, .ref q1, .null, .null, .null, .ref q2, .null, .int 0, .int 0, .int 0, .int 0, .int 0]) ++ ((yO q1 0 [.int 0, .ref (G.2.2.2.1.1 0), .int 0] :: []) ++ (yO q2 2 [.int 0, .int 0, .int 0, .int 0, .int 0] :: []))) H := ⟨hP, hD⟩
  refine lv_aload_n hx hb dX3_init_51 rfl (lv_at hl 0 rfl) ?_
  refine lv_iconst (v := 0) hx hb dX3_init_52 (by decide) ?_
  refine va_put (D := G.2.1) (ci := 4) (C := RX3) (T := TX3) (N := 14) hx hb hts inF_X3 tyX3 tyX3_ok nmX3 hown hK hw.1 hw.2 hS k (y_at0 hk) rfl 13 (by decide) (hts _ wm73) (fun _ h9 => h9) rfl (ty := .boolean) (v := .int 0) (by decide +kernel) rfl rfl (Nat.le_of_ble_eq_true rfl) dX3_init_53 (fun H locs hP hD hS => ?_)
  rw [y_set0 hk] at hP hD
  have hw : yP G (X.set k (yO a 4 [.int 0, .int 0, .int 0, .ref q1, .null, .null, .null, .ref q2, .null, .int 0, .int 0, .int 0, .int 0, .int 0]) ++ ((yO q1 0 [.int 0, .ref (G.2.2.2.1.1 0), .int 0] :: []) ++ (yO q2 2 [.int 0, .int 0, .int 0, .int 0, .int 0] :: []))) H := ⟨hP, hD⟩
  refine lv_aload_n hx hb dX3_init_56 rfl (lv_at hl 0 rfl) ?_
  refine lv_iload_n hx hb dX3_init_57 rfl (lv_at hl 1 rfl) ?_
  refine va_putF (D := G.2.1) (ci := 4) (C := RX3) (T := TX3) (N := 14) hx hb hts inF_X3 tyX3 tyX3_ok nmX3 hown hK hw.1 hw.2 hS k (y_at0 hk) rfl 0 (by decide) (hts _ wm74) (fun _ h9 => h9) rfl hin rfl (ty := .int) (v := .int x) (by decide +kernel) rfl rfl (Nat.le_of_ble_eq_true rfl) dX3_init_58 (fun H locs hP hD hS => ?_)
  rw [y_set0 hk] at hP hD
  have hw : yP G (X.set k (yO a 4 [.int x, .int 0, .int 0, .ref q1, .null, .null, .null, .ref q2, .null, .int 0, .int 0, .int 0, .int 0, .int 0]) ++ ((yO q1 0 [.int 0, .ref (G.2.2.2.1.1 0), .int 0] :: []) ++ (yO q2 2 [.int 0, .int 0, .int 0, .int 0, .int 0] :: []))) H := ⟨hP, hD⟩
  refine lv_aload_n hx hb dX3_init_61 rfl (lv_at hl 0 rfl) ?_
  refine lv_iload_n hx hb dX3_init_62 rfl (lv_at hl 2 rfl) ?_
  refine va_putF (D := G.2.1) (ci := 4) (C := RX3) (T := TX3) (N := 14) hx hb hts inF_X3 tyX3 tyX3_ok nmX3 hown hK hw.1 hw.2 hS k (y_at0 hk) rfl 1 (by decide) (hts _ wm75) (fun _ h9 => h9) rfl hin rfl (ty := .boolean) (v := .int 0) (by decide +kernel) rfl rfl (Nat.le_of_ble_eq_true rfl) dX3_init_63 (fun H locs hP hD hS => ?_)
  rw [y_set0 hk] at hP hD
  have hw : yP G (X.set k (yO a 4 [.int x, .int 0, .int 0, .ref q1, .null, .null, .null, .ref q2, .null, .int 0, .int 0, .int 0, .int 0, .int 0]) ++ ((yO q1 0 [.int 0, .ref (G.2.2.2.1.1 0), .int 0] :: []) ++ (yO q2 2 [.int 0, .int 0, .int 0, .int 0, .int 0] :: []))) H := ⟨hP, hD⟩
  refine lv_aload_n hx hb dX3_init_66 rfl (lv_at hl 0 rfl) ?_
  refine lv_iload_n hx hb dX3_init_67 rfl (lv_at hl 3 rfl) ?_
  refine va_putF (D := G.2.1) (ci := 4) (C := RX3) (T := TX3) (N := 14) hx hb hts inF_X3 tyX3 tyX3_ok nmX3 hown hK hw.1 hw.2 hS k (y_at0 hk) rfl 2 (by decide) (hts _ wm76) (fun _ h9 => h9) rfl hin rfl (ty := .int) (v := .int y) (by decide +kernel) rfl rfl (Nat.le_of_ble_eq_true rfl) dX3_init_68 (fun H locs hP hD hS => ?_)
  rw [y_set0 hk] at hP hD
  have hw : yP G (X.set k (yO a 4 [.int x, .int 0, .int y, .ref q1, .null, .null, .null, .ref q2, .null, .int 0, .int 0, .int 0, .int 0, .int 0]) ++ ((yO q1 0 [.int 0, .ref (G.2.2.2.1.1 0), .int 0] :: []) ++ (yO q2 2 [.int 0, .int 0, .int 0, .int 0, .int 0] :: []))) H := ⟨hP, hD⟩
  refine lv_aload_n hx hb dX3_init_71 rfl (lv_at hl 0 rfl) ?_
  refine lv_iload_n hx hb dX3_init_72 rfl (lv_at hl 2 rfl) ?_
  refine lv_if_eq (tgt := 81) hx hb dX3_init_73 (by decide) (fun _ => ?_) (fun z => absurd z (by decide))
  refine lv_iconst (v := 0) hx hb dX3_init_81 (by decide) ?_
  refine ynewI hx hb (hts _ wm3) hA hK htys hw hS (N := 0) (by decide) (by decide) (by decide) (Nat.le_of_ble_eq_true rfl) (Nat.le_of_ble_eq_true rfl) dX3_init_82 (fun q3 H hw hS => ?_)
  rw [List.append_assoc] at hw
  have hw : yP G (X.set k (yO a 4 [.int x, .int 0, .int y, .ref q1, .null, .null, .null, .ref q2, .null, .int 0, .int 0, .int 0, .int 0, .int 0]) ++ (((yO q1 0 [.int 0, .ref (G.2.2.2.1.1 0), .int 0] :: []) ++ (yO q2 2 [.int 0, .int 0, .int 0, .int 0, .int 0] :: [])) ++ [yA q3 (G.1 0) 0 (fun _ => 0)])) H := hw
  refine va_putF (D := G.2.1) (ci := 4) (C := RX3) (T := TX3) (N := 14) hx hb hts inF_X3 tyX3 tyX3_ok nmX3 hown hK hw.1 hw.2 hS k (y_at0 hk) rfl 4 (by decide) (hts _ wm77) (fun _ h9 => h9) rfl hin rfl (ty := .array .int) (v := .ref q3) (by decide +kernel) rfl rfl (Nat.le_of_ble_eq_true rfl) dX3_init_84 (fun H locs hP hD hS => ?_)
  rw [y_set0 hk] at hP hD
  have hw : yP G (X.set k (yO a 4 [.int x, .int 0, .int y, .ref q1, .ref q3, .null, .null, .ref q2, .null, .int 0, .int 0, .int 0, .int 0, .int 0]) ++ (((yO q1 0 [.int 0, .ref (G.2.2.2.1.1 0), .int 0] :: []) ++ (yO q2 2 [.int 0, .int 0, .int 0, .int 0, .int 0] :: [])) ++ [yA q3 (G.1 0) 0 (fun _ => 0)])) H := ⟨hP, hD⟩
  refine lv_aload_n hx hb dX3_init_87 rfl (lv_at hl 0 rfl) ?_
  refine lv_iload_n hx hb dX3_init_88 rfl (lv_at hl 2 rfl) ?_
  refine lv_if_eq (tgt := 96) hx hb dX3_init_89 (by decide) (fun _ => ?_) (fun z => absurd z (by decide))
  refine lv_bipush (v := 14) hx hb dX3_init_96 (by decide) ?_
  refine ynewI hx hb (hts _ wm3) hA hK htys hw hS (N := 14) (by decide) (by decide) (by decide) (Nat.le_of_ble_eq_true rfl) (Nat.le_of_ble_eq_true rfl) dX3_init_98 (fun q4 H hw hS => ?_)
  rw [List.append_assoc] at hw
  have hw : yP G (X.set k (yO a 4 [.int x, .int 0, .int y, .ref q1, .ref q3, .null, .null, .ref q2, .null, .int 0, .int 0, .int 0, .int 0, .int 0]) ++ ((((yO q1 0 [.int 0, .ref (G.2.2.2.1.1 0), .int 0] :: []) ++ (yO q2 2 [.int 0, .int 0, .int 0, .int 0, .int 0] :: [])) ++ [yA q3 (G.1 0) 0 (fun _ => 0)]) ++ [yA q4 (G.1 0) 14 (dcl 0)])) H := by rw [← dcl_0]; exact hw
  refine va_putF (D := G.2.1) (ci := 4) (C := RX3) (T := TX3) (N := 14) hx hb hts inF_X3 tyX3 tyX3_ok nmX3 hown hK hw.1 hw.2 hS k (y_at0 hk) rfl 5 (by decide) (hts _ wm78) (fun _ h9 => h9) rfl hin rfl (ty := .array .int) (v := .ref q4) (by decide +kernel) rfl rfl (Nat.le_of_ble_eq_true rfl) dX3_init_100 (fun H locs hP hD hS => ?_)
  rw [y_set0 hk] at hP hD
  have hw : yP G (X.set k (yO a 4 [.int x, .int 0, .int y, .ref q1, .ref q3, .ref q4, .null, .ref q2, .null, .int 0, .int 0, .int 0, .int 0, .int 0]) ++ ((((yO q1 0 [.int 0, .ref (G.2.2.2.1.1 0), .int 0] :: []) ++ (yO q2 2 [.int 0, .int 0, .int 0, .int 0, .int 0] :: [])) ++ [yA q3 (G.1 0) 0 (fun _ => 0)]) ++ [yA q4 (G.1 0) 14 (dcl 0)])) H := ⟨hP, hD⟩
  refine lv_iconst (v := 0) hx hb dX3_init_103 (by decide) ?_
  refine lv_istore (lv' := [(4, .int 0), (0, .ref a), (1, .int x), (2, .int 0), (3, .int y)]) hx hb dX3_init_104 hl (by decide) rfl (fun ls hl => ?_)
  refine lv_iload hx hb dX3_init_106 (lv_at hl 0 rfl) ?_
  refine lv_aload_n hx hb dX3_init_108 rfl (lv_at hl 1 rfl) ?_
  refine va_get (D := G.2.1) (ci := 4) (C := RX3) (T := TX3) (N := 14) hx hb hts inF_X3 hown hK hw.1 k (y_at0 hk) rfl 5 (by decide) (hts _ wm78) (fun _ h9 => h9) rfl dX3_init_109 ?_
  refine va_alen (D := G.2.1) (v := 14) hx hb hK hw.1 (X.set k (yO a 4 [.int x, .int 0, .int y, .ref q1, .ref q3, .ref q4, .null, .ref q2, .null, .int 0, .int 0, .int 0, .int 0, .int 0]) ++ (((yO q1 0 [.int 0, .ref (G.2.2.2.1.1 0), .int 0] :: []) ++ (yO q2 2 [.int 0, .int 0, .int 0, .int 0, .int 0] :: [])) ++ [yA q3 (G.1 0) 0 (fun _ => 0)])).length 0 (y_at2 _) (by rw [htys]; rfl) rfl dX3_init_112 ?_
  refine lv_icmp_ge (tgt := 132) hx hb dX3_init_113 (by decide) (fun z => absurd z (by decide)) (fun _ => ?_)
  refine lv_aload_n hx hb dX3_init_116 rfl (lv_at hl 1 rfl) ?_
  refine va_get (D := G.2.1) (ci := 4) (C := RX3) (T := TX3) (N := 14) hx hb hts inF_X3 hown hK hw.1 k (y_at0 hk) rfl 5 (by decide) (hts _ wm78) (fun _ h9 => h9) rfl dX3_init_117 ?_
  refine lv_iload hx hb dX3_init_120 (lv_at hl 0 rfl) ?_
  refine lv_sipush (v := 9998) hx hb dX3_init_122 (by decide) ?_
  refine va_iast (D := G.2.1) (f := dcl 0) hx hb hK hw.1 hw.2 hS (X.set k (yO a 4 [.int x, .int 0, .int y, .ref q1, .ref q3, .ref q4, .null, .ref q2, .null, .int 0, .int 0, .int 0, .int 0, .int 0]) ++ (((yO q1 0 [.int 0, .ref (G.2.2.2.1.1 0), .int 0] :: []) ++ (yO q2 2 [.int 0, .int 0, .int 0, .int 0, .int 0] :: [])) ++ [yA q3 (G.1 0) 0 (fun _ => 0)])).length 0 (y_at2 _) (by rw [htys]; rfl) (show vin 0 14 from by decide) dX3_init_125 (fun H locs hP hD hS => ?_)
  rw [dcl_s (i := 0) rfl, y_set2] at hP hD
  have hw : yP G (X.set k (yO a 4 [.int x, .int 0, .int y, .ref q1, .ref q3, .ref q4, .null, .ref q2, .null, .int 0, .int 0, .int 0, .int 0, .int 0]) ++ ((((yO q1 0 [.int 0, .ref (G.2.2.2.1.1 0), .int 0] :: []) ++ (yO q2 2 [.int 0, .int 0, .int 0, .int 0, .int 0] :: [])) ++ [yA q3 (G.1 0) 0 (fun _ => 0)]) ++ [yA q4 (G.1 0) 14 (dcl 1)])) H := ⟨hP, hD⟩
  refine lv_iinc (v := 1) (lv' := [(4, .int 1), (0, .ref a), (1, .int x), (2, .int 0), (3, .int y)]) hx hb dX3_init_126 hl (k := 0) rfl (by rfl) (by decide) rfl (fun ls hl => ?_)
  refine lv_goto (tgt := 106) hx hb dX3_init_129 (by decide) ?_
  refine lv_iload hx hb dX3_init_106 (lv_at hl 0 rfl) ?_
  refine lv_aload_n hx hb dX3_init_108 rfl (lv_at hl 1 rfl) ?_
  refine va_get (D := G.2.1) (ci := 4) (C := RX3) (T := TX3) (N := 14) hx hb hts inF_X3 hown hK hw.1 k (y_at0 hk) rfl 5 (by decide) (hts _ wm78) (fun _ h9 => h9) rfl dX3_init_109 ?_
  refine va_alen (D := G.2.1) (v := 14) hx hb hK hw.1 (X.set k (yO a 4 [.int x, .int 0, .int y, .ref q1, .ref q3, .ref q4, .null, .ref q2, .null, .int 0, .int 0, .int 0, .int 0, .int 0]) ++ (((yO q1 0 [.int 0, .ref (G.2.2.2.1.1 0), .int 0] :: []) ++ (yO q2 2 [.int 0, .int 0, .int 0, .int 0, .int 0] :: [])) ++ [yA q3 (G.1 0) 0 (fun _ => 0)])).length 0 (y_at2 _) (by rw [htys]; rfl) rfl dX3_init_112 ?_
  refine lv_icmp_ge (tgt := 132) hx hb dX3_init_113 (by decide) (fun z => absurd z (by decide)) (fun _ => ?_)
  refine lv_aload_n hx hb dX3_init_116 rfl (lv_at hl 1 rfl) ?_
  refine va_get (D := G.2.1) (ci := 4) (C := RX3) (T := TX3) (N := 14) hx hb hts inF_X3 hown hK hw.1 k (y_at0 hk) rfl 5 (by decide) (hts _ wm78) (fun _ h9 => h9) rfl dX3_init_117 ?_
  refine lv_iload hx hb dX3_init_120 (lv_at hl 0 rfl) ?_
  refine lv_sipush (v := 9998) hx hb dX3_init_122 (by decide) ?_
  refine va_iast (D := G.2.1) (f := dcl 1) hx hb hK hw.1 hw.2 hS (X.set k (yO a 4 [.int x, .int 0, .int y, .ref q1, .ref q3, .ref q4, .null, .ref q2, .null, .int 0, .int 0, .int 0, .int 0, .int 0]) ++ (((yO q1 0 [.int 0, .ref (G.2.2.2.1.1 0), .int 0] :: []) ++ (yO q2 2 [.int 0, .int 0, .int 0, .int 0, .int 0] :: [])) ++ [yA q3 (G.1 0) 0 (fun _ => 0)])).length 0 (y_at2 _) (by rw [htys]; rfl) (show vin 1 14 from by decide) dX3_init_125 (fun H locs hP hD hS => ?_)
  rw [dcl_s (i := 1) rfl, y_set2] at hP hD
  have hw : yP G (X.set k (yO a 4 [.int x, .int 0, .int y, .ref q1, .ref q3, .ref q4, .null, .ref q2, .null, .int 0, .int 0, .int 0, .int 0, .int 0]) ++ ((((yO q1 0 [.int 0, .ref (G.2.2.2.1.1 0), .int 0] :: []) ++ (yO q2 2 [.int 0, .int 0, .int 0, .int 0, .int 0] :: [])) ++ [yA q3 (G.1 0) 0 (fun _ => 0)]) ++ [yA q4 (G.1 0) 14 (dcl 2)])) H := ⟨hP, hD⟩
  refine lv_iinc (v := 2) (lv' := [(4, .int 2), (0, .ref a), (1, .int x), (2, .int 0), (3, .int y)]) hx hb dX3_init_126 hl (k := 0) rfl (by rfl) (by decide) rfl (fun ls hl => ?_)
  refine lv_goto (tgt := 106) hx hb dX3_init_129 (by decide) ?_
  refine lv_iload hx hb dX3_init_106 (lv_at hl 0 rfl) ?_
  refine lv_aload_n hx hb dX3_init_108 rfl (lv_at hl 1 rfl) ?_
  refine va_get (D := G.2.1) (ci := 4) (C := RX3) (T := TX3) (N := 14) hx hb hts inF_X3 hown hK hw.1 k (y_at0 hk) rfl 5 (by decide) (hts _ wm78) (fun _ h9 => h9) rfl dX3_init_109 ?_
  refine va_alen (D := G.2.1) (v := 14) hx hb hK hw.1 (X.set k (yO a 4 [.int x, .int 0, .int y, .ref q1, .ref q3, .ref q4, .null, .ref q2, .null, .int 0, .int 0, .int 0, .int 0, .int 0]) ++ (((yO q1 0 [.int 0, .ref (G.2.2.2.1.1 0), .int 0] :: []) ++ (yO q2 2 [.int 0, .int 0, .int 0, .int 0, .int 0] :: [])) ++ [yA q3 (G.1 0) 0 (fun _ => 0)])).length 0 (y_at2 _) (by rw [htys]; rfl) rfl dX3_init_112 ?_
  refine lv_icmp_ge (tgt := 132) hx hb dX3_init_113 (by decide) (fun z => absurd z (by decide)) (fun _ => ?_)
  refine lv_aload_n hx hb dX3_init_116 rfl (lv_at hl 1 rfl) ?_
  refine va_get (D := G.2.1) (ci := 4) (C := RX3) (T := TX3) (N := 14) hx hb hts inF_X3 hown hK hw.1 k (y_at0 hk) rfl 5 (by decide) (hts _ wm78) (fun _ h9 => h9) rfl dX3_init_117 ?_
  refine lv_iload hx hb dX3_init_120 (lv_at hl 0 rfl) ?_
  refine lv_sipush (v := 9998) hx hb dX3_init_122 (by decide) ?_
  refine va_iast (D := G.2.1) (f := dcl 2) hx hb hK hw.1 hw.2 hS (X.set k (yO a 4 [.int x, .int 0, .int y, .ref q1, .ref q3, .ref q4, .null, .ref q2, .null, .int 0, .int 0, .int 0, .int 0, .int 0]) ++ (((yO q1 0 [.int 0, .ref (G.2.2.2.1.1 0), .int 0] :: []) ++ (yO q2 2 [.int 0, .int 0, .int 0, .int 0, .int 0] :: [])) ++ [yA q3 (G.1 0) 0 (fun _ => 0)])).length 0 (y_at2 _) (by rw [htys]; rfl) (show vin 2 14 from by decide) dX3_init_125 (fun H locs hP hD hS => ?_)
  rw [dcl_s (i := 2) rfl, y_set2] at hP hD
  have hw : yP G (X.set k (yO a 4 [.int x, .int 0, .int y, .ref q1, .ref q3, .ref q4, .null, .ref q2, .null, .int 0, .int 0, .int 0, .int 0, .int 0]) ++ ((((yO q1 0 [.int 0, .ref (G.2.2.2.1.1 0), .int 0] :: []) ++ (yO q2 2 [.int 0, .int 0, .int 0, .int 0, .int 0] :: [])) ++ [yA q3 (G.1 0) 0 (fun _ => 0)]) ++ [yA q4 (G.1 0) 14 (dcl 3)])) H := ⟨hP, hD⟩
  refine lv_iinc (v := 3) (lv' := [(4, .int 3), (0, .ref a), (1, .int x), (2, .int 0), (3, .int y)]) hx hb dX3_init_126 hl (k := 0) rfl (by rfl) (by decide) rfl (fun ls hl => ?_)
  refine lv_goto (tgt := 106) hx hb dX3_init_129 (by decide) ?_
  refine lv_iload hx hb dX3_init_106 (lv_at hl 0 rfl) ?_
  refine lv_aload_n hx hb dX3_init_108 rfl (lv_at hl 1 rfl) ?_
  refine va_get (D := G.2.1) (ci := 4) (C := RX3) (T := TX3) (N := 14) hx hb hts inF_X3 hown hK hw.1 k (y_at0 hk) rfl 5 (by decide) (hts _ wm78) (fun _ h9 => h9) rfl dX3_init_109 ?_
  refine va_alen (D := G.2.1) (v := 14) hx hb hK hw.1 (X.set k (yO a 4 [.int x, .int 0, .int y, .ref q1, .ref q3, .ref q4, .null, .ref q2, .null, .int 0, .int 0, .int 0, .int 0, .int 0]) ++ (((yO q1 0 [.int 0, .ref (G.2.2.2.1.1 0), .int 0] :: []) ++ (yO q2 2 [.int 0, .int 0, .int 0, .int 0, .int 0] :: [])) ++ [yA q3 (G.1 0) 0 (fun _ => 0)])).length 0 (y_at2 _) (by rw [htys]; rfl) rfl dX3_init_112 ?_
  refine lv_icmp_ge (tgt := 132) hx hb dX3_init_113 (by decide) (fun z => absurd z (by decide)) (fun _ => ?_)
  refine lv_aload_n hx hb dX3_init_116 rfl (lv_at hl 1 rfl) ?_
  refine va_get (D := G.2.1) (ci := 4) (C := RX3) (T := TX3) (N := 14) hx hb hts inF_X3 hown hK hw.1 k (y_at0 hk) rfl 5 (by decide) (hts _ wm78) (fun _ h9 => h9) rfl dX3_init_117 ?_
  refine lv_iload hx hb dX3_init_120 (lv_at hl 0 rfl) ?_
  refine lv_sipush (v := 9998) hx hb dX3_init_122 (by decide) ?_
  refine va_iast (D := G.2.1) (f := dcl 3) hx hb hK hw.1 hw.2 hS (X.set k (yO a 4 [.int x, .int 0, .int y, .ref q1, .ref q3, .ref q4, .null, .ref q2, .null, .int 0, .int 0, .int 0, .int 0, .int 0]) ++ (((yO q1 0 [.int 0, .ref (G.2.2.2.1.1 0), .int 0] :: []) ++ (yO q2 2 [.int 0, .int 0, .int 0, .int 0, .int 0] :: [])) ++ [yA q3 (G.1 0) 0 (fun _ => 0)])).length 0 (y_at2 _) (by rw [htys]; rfl) (show vin 3 14 from by decide) dX3_init_125 (fun H locs hP hD hS => ?_)
  rw [dcl_s (i := 3) rfl, y_set2] at hP hD
  have hw : yP G (X.set k (yO a 4 [.int x, .int 0, .int y, .ref q1, .ref q3, .ref q4, .null, .ref q2, .null, .int 0, .int 0, .int 0, .int 0, .int 0]) ++ ((((yO q1 0 [.int 0, .ref (G.2.2.2.1.1 0), .int 0] :: []) ++ (yO q2 2 [.int 0, .int 0, .int 0, .int 0, .int 0] :: [])) ++ [yA q3 (G.1 0) 0 (fun _ => 0)]) ++ [yA q4 (G.1 0) 14 (dcl 4)])) H := ⟨hP, hD⟩
  refine lv_iinc (v := 4) (lv' := [(4, .int 4), (0, .ref a), (1, .int x), (2, .int 0), (3, .int y)]) hx hb dX3_init_126 hl (k := 0) rfl (by rfl) (by decide) rfl (fun ls hl => ?_)
  refine lv_goto (tgt := 106) hx hb dX3_init_129 (by decide) ?_
  refine lv_iload hx hb dX3_init_106 (lv_at hl 0 rfl) ?_
  refine lv_aload_n hx hb dX3_init_108 rfl (lv_at hl 1 rfl) ?_
  refine va_get (D := G.2.1) (ci := 4) (C := RX3) (T := TX3) (N := 14) hx hb hts inF_X3 hown hK hw.1 k (y_at0 hk) rfl 5 (by decide) (hts _ wm78) (fun _ h9 => h9) rfl dX3_init_109 ?_
  refine va_alen (D := G.2.1) (v := 14) hx hb hK hw.1 (X.set k (yO a 4 [.int x, .int 0, .int y, .ref q1, .ref q3, .ref q4, .null, .ref q2, .null, .int 0, .int 0, .int 0, .int 0, .int 0]) ++ (((yO q1 0 [.int 0, .ref (G.2.2.2.1.1 0), .int 0] :: []) ++ (yO q2 2 [.int 0, .int 0, .int 0, .int 0, .int 0] :: [])) ++ [yA q3 (G.1 0) 0 (fun _ => 0)])).length 0 (y_at2 _) (by rw [htys]; rfl) rfl dX3_init_112 ?_
  refine lv_icmp_ge (tgt := 132) hx hb dX3_init_113 (by decide) (fun z => absurd z (by decide)) (fun _ => ?_)
  refine lv_aload_n hx hb dX3_init_116 rfl (lv_at hl 1 rfl) ?_
  refine va_get (D := G.2.1) (ci := 4) (C := RX3) (T := TX3) (N := 14) hx hb hts inF_X3 hown hK hw.1 k (y_at0 hk) rfl 5 (by decide) (hts _ wm78) (fun _ h9 => h9) rfl dX3_init_117 ?_
  refine lv_iload hx hb dX3_init_120 (lv_at hl 0 rfl) ?_
  refine lv_sipush (v := 9998) hx hb dX3_init_122 (by decide) ?_
  refine va_iast (D := G.2.1) (f := dcl 4) hx hb hK hw.1 hw.2 hS (X.set k (yO a 4 [.int x, .int 0, .int y, .ref q1, .ref q3, .ref q4, .null, .ref q2, .null, .int 0, .int 0, .int 0, .int 0, .int 0]) ++ (((yO q1 0 [.int 0, .ref (G.2.2.2.1.1 0), .int 0] :: []) ++ (yO q2 2 [.int 0, .int 0, .int 0, .int 0, .int 0] :: [])) ++ [yA q3 (G.1 0) 0 (fun _ => 0)])).length 0 (y_at2 _) (by rw [htys]; rfl) (show vin 4 14 from by decide) dX3_init_125 (fun H locs hP hD hS => ?_)
  rw [dcl_s (i := 4) rfl, y_set2] at hP hD
  have hw : yP G (X.set k (yO a 4 [.int x, .int 0, .int y, .ref q1, .ref q3, .ref q4, .null, .ref q2, .null, .int 0, .int 0, .int 0, .int 0, .int 0]) ++ ((((yO q1 0 [.int 0, .ref (G.2.2.2.1.1 0), .int 0] :: []) ++ (yO q2 2 [.int 0, .int 0, .int 0, .int 0, .int 0] :: [])) ++ [yA q3 (G.1 0) 0 (fun _ => 0)]) ++ [yA q4 (G.1 0) 14 (dcl 5)])) H := ⟨hP, hD⟩
  refine lv_iinc (v := 5) (lv' := [(4, .int 5), (0, .ref a), (1, .int x), (2, .int 0), (3, .int y)]) hx hb dX3_init_126 hl (k := 0) rfl (by rfl) (by decide) rfl (fun ls hl => ?_)
  refine lv_goto (tgt := 106) hx hb dX3_init_129 (by decide) ?_
  refine lv_iload hx hb dX3_init_106 (lv_at hl 0 rfl) ?_
  refine lv_aload_n hx hb dX3_init_108 rfl (lv_at hl 1 rfl) ?_
  refine va_get (D := G.2.1) (ci := 4) (C := RX3) (T := TX3) (N := 14) hx hb hts inF_X3 hown hK hw.1 k (y_at0 hk) rfl 5 (by decide) (hts _ wm78) (fun _ h9 => h9) rfl dX3_init_109 ?_
  refine va_alen (D := G.2.1) (v := 14) hx hb hK hw.1 (X.set k (yO a 4 [.int x, .int 0, .int y, .ref q1, .ref q3, .ref q4, .null, .ref q2, .null, .int 0, .int 0, .int 0, .int 0, .int 0]) ++ (((yO q1 0 [.int 0, .ref (G.2.2.2.1.1 0), .int 0] :: []) ++ (yO q2 2 [.int 0, .int 0, .int 0, .int 0, .int 0] :: [])) ++ [yA q3 (G.1 0) 0 (fun _ => 0)])).length 0 (y_at2 _) (by rw [htys]; rfl) rfl dX3_init_112 ?_
  refine lv_icmp_ge (tgt := 132) hx hb dX3_init_113 (by decide) (fun z => absurd z (by decide)) (fun _ => ?_)
  refine lv_aload_n hx hb dX3_init_116 rfl (lv_at hl 1 rfl) ?_
  refine va_get (D := G.2.1) (ci := 4) (C := RX3) (T := TX3) (N := 14) hx hb hts inF_X3 hown hK hw.1 k (y_at0 hk) rfl 5 (by decide) (hts _ wm78) (fun _ h9 => h9) rfl dX3_init_117 ?_
  refine lv_iload hx hb dX3_init_120 (lv_at hl 0 rfl) ?_
  refine lv_sipush (v := 9998) hx hb dX3_init_122 (by decide) ?_
  refine va_iast (D := G.2.1) (f := dcl 5) hx hb hK hw.1 hw.2 hS (X.set k (yO a 4 [.int x, .int 0, .int y, .ref q1, .ref q3, .ref q4, .null, .ref q2, .null, .int 0, .int 0, .int 0, .int 0, .int 0]) ++ (((yO q1 0 [.int 0, .ref (G.2.2.2.1.1 0), .int 0] :: []) ++ (yO q2 2 [.int 0, .int 0, .int 0, .int 0, .int 0] :: [])) ++ [yA q3 (G.1 0) 0 (fun _ => 0)])).length 0 (y_at2 _) (by rw [htys]; rfl) (show vin 5 14 from by decide) dX3_init_125 (fun H locs hP hD hS => ?_)
  rw [dcl_s (i := 5) rfl, y_set2] at hP hD
  have hw : yP G (X.set k (yO a 4 [.int x, .int 0, .int y, .ref q1, .ref q3, .ref q4, .null, .ref q2, .null, .int 0, .int 0, .int 0, .int 0, .int 0]) ++ ((((yO q1 0 [.int 0, .ref (G.2.2.2.1.1 0), .int 0] :: []) ++ (yO q2 2 [.int 0, .int 0, .int 0, .int 0, .int 0] :: [])) ++ [yA q3 (G.1 0) 0 (fun _ => 0)]) ++ [yA q4 (G.1 0) 14 (dcl 6)])) H := ⟨hP, hD⟩
  refine lv_iinc (v := 6) (lv' := [(4, .int 6), (0, .ref a), (1, .int x), (2, .int 0), (3, .int y)]) hx hb dX3_init_126 hl (k := 0) rfl (by rfl) (by decide) rfl (fun ls hl => ?_)
  refine lv_goto (tgt := 106) hx hb dX3_init_129 (by decide) ?_
  refine lv_iload hx hb dX3_init_106 (lv_at hl 0 rfl) ?_
  refine lv_aload_n hx hb dX3_init_108 rfl (lv_at hl 1 rfl) ?_
  refine va_get (D := G.2.1) (ci := 4) (C := RX3) (T := TX3) (N := 14) hx hb hts inF_X3 hown hK hw.1 k (y_at0 hk) rfl 5 (by decide) (hts _ wm78) (fun _ h9 => h9) rfl dX3_init_109 ?_
  refine va_alen (D := G.2.1) (v := 14) hx hb hK hw.1 (X.set k (yO a 4 [.int x, .int 0, .int y, .ref q1, .ref q3, .ref q4, .null, .ref q2, .null, .int 0, .int 0, .int 0, .int 0, .int 0]) ++ (((yO q1 0 [.int 0, .ref (G.2.2.2.1.1 0), .int 0] :: []) ++ (yO q2 2 [.int 0, .int 0, .int 0, .int 0, .int 0] :: [])) ++ [yA q3 (G.1 0) 0 (fun _ => 0)])).length 0 (y_at2 _) (by rw [htys]; rfl) rfl dX3_init_112 ?_
  refine lv_icmp_ge (tgt := 132) hx hb dX3_init_113 (by decide) (fun z => absurd z (by decide)) (fun _ => ?_)
  refine lv_aload_n hx hb dX3_init_116 rfl (lv_at hl 1 rfl) ?_
  refine va_get (D := G.2.1) (ci := 4) (C := RX3) (T := TX3) (N := 14) hx hb hts inF_X3 hown hK hw.1 k (y_at0 hk) rfl 5 (by decide) (hts _ wm78) (fun _ h9 => h9) rfl dX3_init_117 ?_
  refine lv_iload hx hb dX3_init_120 (lv_at hl 0 rfl) ?_
  refine lv_sipush (v := 9998) hx hb dX3_init_122 (by decide) ?_
  refine va_iast (D := G.2.1) (f := dcl 6) hx hb hK hw.1 hw.2 hS (X.set k (yO a 4 [.int x, .int 0, .int y, .ref q1, .ref q3, .ref q4, .null, .ref q2, .null, .int 0, .int 0, .int 0, .int 0, .int 0]) ++ (((yO q1 0 [.int 0, .ref (G.2.2.2.1.1 0), .int 0] :: []) ++ (yO q2 2 [.int 0, .int 0, .int 0, .int 0, .int 0] :: [])) ++ [yA q3 (G.1 0) 0 (fun _ => 0)])).length 0 (y_at2 _) (by rw [htys]; rfl) (show vin 6 14 from by decide) dX3_init_125 (fun H locs hP hD hS => ?_)
  rw [dcl_s (i := 6) rfl, y_set2] at hP hD
  have hw : yP G (X.set k (yO a 4 [.int x, .int 0, .int y, .ref q1, .ref q3, .ref q4, .null, .ref q2, .null, .int 0, .int 0, .int 0, .int 0, .int 0]) ++ ((((yO q1 0 [.int 0, .ref (G.2.2.2.1.1 0), .int 0] :: []) ++ (yO q2 2 [.int 0, .int 0, .int 0, .int 0, .int 0] :: [])) ++ [yA q3 (G.1 0) 0 (fun _ => 0)]) ++ [yA q4 (G.1 0) 14 (dcl 7)])) H := ⟨hP, hD⟩
  refine lv_iinc (v := 7) (lv' := [(4, .int 7), (0, .ref a), (1, .int x), (2, .int 0), (3, .int y)]) hx hb dX3_init_126 hl (k := 0) rfl (by rfl) (by decide) rfl (fun ls hl => ?_)
  refine lv_goto (tgt := 106) hx hb dX3_init_129 (by decide) ?_
  refine lv_iload hx hb dX3_init_106 (lv_at hl 0 rfl) ?_
  refine lv_aload_n hx hb dX3_init_108 rfl (lv_at hl 1 rfl) ?_
  refine va_get (D := G.2.1) (ci := 4) (C := RX3) (T := TX3) (N := 14) hx hb hts inF_X3 hown hK hw.1 k (y_at0 hk) rfl 5 (by decide) (hts _ wm78) (fun _ h9 => h9) rfl dX3_init_109 ?_
  refine va_alen (D := G.2.1) (v := 14) hx hb hK hw.1 (X.set k (yO a 4 [.int x, .int 0, .int y, .ref q1, .ref q3, .ref q4, .null, .ref q2, .null, .int 0, .int 0, .int 0, .int 0, .int 0]) ++ (((yO q1 0 [.int 0, .ref (G.2.2.2.1.1 0), .int 0] :: []) ++ (yO q2 2 [.int 0, .int 0, .int 0, .int 0, .int 0] :: [])) ++ [yA q3 (G.1 0) 0 (fun _ => 0)])).length 0 (y_at2 _) (by rw [htys]; rfl) rfl dX3_init_112 ?_
  refine lv_icmp_ge (tgt := 132) hx hb dX3_init_113 (by decide) (fun z => absurd z (by decide)) (fun _ => ?_)
  refine lv_aload_n hx hb dX3_init_116 rfl (lv_at hl 1 rfl) ?_
  refine va_get (D := G.2.1) (ci := 4) (C := RX3) (T := TX3) (N := 14) hx hb hts inF_X3 hown hK hw.1 k (y_at0 hk) rfl 5 (by decide) (hts _ wm78) (fun _ h9 => h9) rfl dX3_init_117 ?_
  refine lv_iload hx hb dX3_init_120 (lv_at hl 0 rfl) ?_
  refine lv_sipush (v := 9998) hx hb dX3_init_122 (by decide) ?_
  refine va_iast (D := G.2.1) (f := dcl 7) hx hb hK hw.1 hw.2 hS (X.set k (yO a 4 [.int x, .int 0, .int y, .ref q1, .ref q3, .ref q4, .null, .ref q2, .null, .int 0, .int 0, .int 0, .int 0, .int 0]) ++ (((yO q1 0 [.int 0, .ref (G.2.2.2.1.1 0), .int 0] :: []) ++ (yO q2 2 [.int 0, .int 0, .int 0, .int 0, .int 0] :: [])) ++ [yA q3 (G.1 0) 0 (fun _ => 0)])).length 0 (y_at2 _) (by rw [htys]; rfl) (show vin 7 14 from by decide) dX3_init_125 (fun H locs hP hD hS => ?_)
  rw [dcl_s (i := 7) rfl, y_set2] at hP hD
  have hw : yP G (X.set k (yO a 4 [.int x, .int 0, .int y, .ref q1, .ref q3, .ref q4, .null, .ref q2, .null, .int 0, .int 0, .int 0, .int 0, .int 0]) ++ ((((yO q1 0 [.int 0, .ref (G.2.2.2.1.1 0), .int 0] :: []) ++ (yO q2 2 [.int 0, .int 0, .int 0, .int 0, .int 0] :: [])) ++ [yA q3 (G.1 0) 0 (fun _ => 0)]) ++ [yA q4 (G.1 0) 14 (dcl 8)])) H := ⟨hP, hD⟩
  refine lv_iinc (v := 8) (lv' := [(4, .int 8), (0, .ref a), (1, .int x), (2, .int 0), (3, .int y)]) hx hb dX3_init_126 hl (k := 0) rfl (by rfl) (by decide) rfl (fun ls hl => ?_)
  refine lv_goto (tgt := 106) hx hb dX3_init_129 (by decide) ?_
  refine lv_iload hx hb dX3_init_106 (lv_at hl 0 rfl) ?_
  refine lv_aload_n hx hb dX3_init_108 rfl (lv_at hl 1 rfl) ?_
  refine va_get (D := G.2.1) (ci := 4) (C := RX3) (T := TX3) (N := 14) hx hb hts inF_X3 hown hK hw.1 k (y_at0 hk) rfl 5 (by decide) (hts _ wm78) (fun _ h9 => h9) rfl dX3_init_109 ?_
  refine va_alen (D := G.2.1) (v := 14) hx hb hK hw.1 (X.set k (yO a 4 [.int x, .int 0, .int y, .ref q1, .ref q3, .ref q4, .null, .ref q2, .null, .int 0, .int 0, .int 0, .int 0, .int 0]) ++ (((yO q1 0 [.int 0, .ref (G.2.2.2.1.1 0), .int 0] :: []) ++ (yO q2 2 [.int 0, .int 0, .int 0, .int 0, .int 0] :: [])) ++ [yA q3 (G.1 0) 0 (fun _ => 0)])).length 0 (y_at2 _) (by rw [htys]; rfl) rfl dX3_init_112 ?_
  refine lv_icmp_ge (tgt := 132) hx hb dX3_init_113 (by decide) (fun z => absurd z (by decide)) (fun _ => ?_)
  refine lv_aload_n hx hb dX3_init_116 rfl (lv_at hl 1 rfl) ?_
  refine va_get (D := G.2.1) (ci := 4) (C := RX3) (T := TX3) (N := 14) hx hb hts inF_X3 hown hK hw.1 k (y_at0 hk) rfl 5 (by decide) (hts _ wm78) (fun _ h9 => h9) rfl dX3_init_117 ?_
  refine lv_iload hx hb dX3_init_120 (lv_at hl 0 rfl) ?_
  refine lv_sipush (v := 9998) hx hb dX3_init_122 (by decide) ?_
  refine va_iast (D := G.2.1) (f := dcl 8) hx hb hK hw.1 hw.2 hS (X.set k (yO a 4 [.int x, .int 0, .int y, .ref q1, .ref q3, .ref q4, .null, .ref q2, .null, .int 0, .int 0, .int 0, .int 0, .int 0]) ++ (((yO q1 0 [.int 0, .ref (G.2.2.2.1.1 0), .int 0] :: []) ++ (yO q2 2 [.int 0, .int 0, .int 0, .int 0, .int 0] :: [])) ++ [yA q3 (G.1 0) 0 (fun _ => 0)])).length 0 (y_at2 _) (by rw [htys]; rfl) (show vin 8 14 from by decide) dX3_init_125 (fun H locs hP hD hS => ?_)
  rw [dcl_s (i := 8) rfl, y_set2] at hP hD
  have hw : yP G (X.set k (yO a 4 [.int x, .int 0, .int y, .ref q1, .ref q3, .ref q4, .null, .ref q2, .null, .int 0, .int 0, .int 0, .int 0, .int 0]) ++ ((((yO q1 0 [.int 0, .ref (G.2.2.2.1.1 0), .int 0] :: []) ++ (yO q2 2 [.int 0, .int 0, .int 0, .int 0, .int 0] :: [])) ++ [yA q3 (G.1 0) 0 (fun _ => 0)]) ++ [yA q4 (G.1 0) 14 (dcl 9)])) H := ⟨hP, hD⟩
  refine lv_iinc (v := 9) (lv' := [(4, .int 9), (0, .ref a), (1, .int x), (2, .int 0), (3, .int y)]) hx hb dX3_init_126 hl (k := 0) rfl (by rfl) (by decide) rfl (fun ls hl => ?_)
  refine lv_goto (tgt := 106) hx hb dX3_init_129 (by decide) ?_
  refine lv_iload hx hb dX3_init_106 (lv_at hl 0 rfl) ?_
  refine lv_aload_n hx hb dX3_init_108 rfl (lv_at hl 1 rfl) ?_
  refine va_get (D := G.2.1) (ci := 4) (C := RX3) (T := TX3) (N := 14) hx hb hts inF_X3 hown hK hw.1 k (y_at0 hk) rfl 5 (by decide) (hts _ wm78) (fun _ h9 => h9) rfl dX3_init_109 ?_
  refine va_alen (D := G.2.1) (v := 14) hx hb hK hw.1 (X.set k (yO a 4 [.int x, .int 0, .int y, .ref q1, .ref q3, .ref q4, .null, .ref q2, .null, .int 0, .int 0, .int 0, .int 0, .int 0]) ++ (((yO q1 0 [.int 0, .ref (G.2.2.2.1.1 0), .int 0] :: []) ++ (yO q2 2 [.int 0, .int 0, .int 0, .int 0, .int 0] :: [])) ++ [yA q3 (G.1 0) 0 (fun _ => 0)])).length 0 (y_at2 _) (by rw [htys]; rfl) rfl dX3_init_112 ?_
  refine lv_icmp_ge (tgt := 132) hx hb dX3_init_113 (by decide) (fun z => absurd z (by decide)) (fun _ => ?_)
  refine lv_aload_n hx hb dX3_init_116 rfl (lv_at hl 1 rfl) ?_
  refine va_get (D := G.2.1) (ci := 4) (C := RX3) (T := TX3) (N := 14) hx hb hts inF_X3 hown hK hw.1 k (y_at0 hk) rfl 5 (by decide) (hts _ wm78) (fun _ h9 => h9) rfl dX3_init_117 ?_
  refine lv_iload hx hb dX3_init_120 (lv_at hl 0 rfl) ?_
  refine lv_sipush (v := 9998) hx hb dX3_init_122 (by decide) ?_
  refine va_iast (D := G.2.1) (f := dcl 9) hx hb hK hw.1 hw.2 hS (X.set k (yO a 4 [.int x, .int 0, .int y, .ref q1, .ref q3, .ref q4, .null, .ref q2, .null, .int 0, .int 0, .int 0, .int 0, .int 0]) ++ (((yO q1 0 [.int 0, .ref (G.2.2.2.1.1 0), .int 0] :: []) ++ (yO q2 2 [.int 0, .int 0, .int 0, .int 0, .int 0] :: [])) ++ [yA q3 (G.1 0) 0 (fun _ => 0)])).length 0 (y_at2 _) (by rw [htys]; rfl) (show vin 9 14 from by decide) dX3_init_125 (fun H locs hP hD hS => ?_)
  rw [dcl_s (i := 9) rfl, y_set2] at hP hD
  have hw : yP G (X.set k (yO a 4 [.int x, .int 0, .int y, .ref q1, .ref q3, .ref q4, .null, .ref q2, .null, .int 0, .int 0, .int 0, .int 0, .int 0]) ++ ((((yO q1 0 [.int 0, .ref (G.2.2.2.1.1 0), .int 0] :: []) ++ (yO q2 2 [.int 0, .int 0, .int 0, .int 0, .int 0] :: [])) ++ [yA q3 (G.1 0) 0 (fun _ => 0)]) ++ [yA q4 (G.1 0) 14 (dcl 10)])) H := ⟨hP, hD⟩
  refine lv_iinc (v := 10) (lv' := [(4, .int 10), (0, .ref a), (1, .int x), (2, .int 0), (3, .int y)]) hx hb dX3_init_126 hl (k := 0) rfl (by rfl) (by decide) rfl (fun ls hl => ?_)
  refine lv_goto (tgt := 106) hx hb dX3_init_129 (by decide) ?_
  refine lv_iload hx hb dX3_init_106 (lv_at hl 0 rfl) ?_
  refine lv_aload_n hx hb dX3_init_108 rfl (lv_at hl 1 rfl) ?_
  refine va_get (D := G.2.1) (ci := 4) (C := RX3) (T := TX3) (N := 14) hx hb hts inF_X3 hown hK hw.1 k (y_at0 hk) rfl 5 (by decide) (hts _ wm78) (fun _ h9 => h9) rfl dX3_init_109 ?_
  refine va_alen (D := G.2.1) (v := 14) hx hb hK hw.1 (X.set k (yO a 4 [.int x, .int 0, .int y, .ref q1, .ref q3, .ref q4, .null, .ref q2, .null, .int 0, .int 0, .int 0, .int 0, .int 0]) ++ (((yO q1 0 [.int 0, .ref (G.2.2.2.1.1 0), .int 0] :: []) ++ (yO q2 2 [.int 0, .int 0, .int 0, .int 0, .int 0] :: [])) ++ [yA q3 (G.1 0) 0 (fun _ => 0)])).length 0 (y_at2 _) (by rw [htys]; rfl) rfl dX3_init_112 ?_
  refine lv_icmp_ge (tgt := 132) hx hb dX3_init_113 (by decide) (fun z => absurd z (by decide)) (fun _ => ?_)
  refine lv_aload_n hx hb dX3_init_116 rfl (lv_at hl 1 rfl) ?_
  refine va_get (D := G.2.1) (ci := 4) (C := RX3) (T := TX3) (N := 14) hx hb hts inF_X3 hown hK hw.1 k (y_at0 hk) rfl 5 (by decide) (hts _ wm78) (fun _ h9 => h9) rfl dX3_init_117 ?_
  refine lv_iload hx hb dX3_init_120 (lv_at hl 0 rfl) ?_
  refine lv_sipush (v := 9998) hx hb dX3_init_122 (by decide) ?_
  refine va_iast (D := G.2.1) (f := dcl 10) hx hb hK hw.1 hw.2 hS (X.set k (yO a 4 [.int x, .int 0, .int y, .ref q1, .ref q3, .ref q4, .null, .ref q2, .null, .int 0, .int 0, .int 0, .int 0, .int 0]) ++ (((yO q1 0 [.int 0, .ref (G.2.2.2.1.1 0), .int 0] :: []) ++ (yO q2 2 [.int 0, .int 0, .int 0, .int 0, .int 0] :: [])) ++ [yA q3 (G.1 0) 0 (fun _ => 0)])).length 0 (y_at2 _) (by rw [htys]; rfl) (show vin 10 14 from by decide) dX3_init_125 (fun H locs hP hD hS => ?_)
  rw [dcl_s (i := 10) rfl, y_set2] at hP hD
  have hw : yP G (X.set k (yO a 4 [.int x, .int 0, .int y, .ref q1, .ref q3, .ref q4, .null, .ref q2, .null, .int 0, .int 0, .int 0, .int 0, .int 0]) ++ ((((yO q1 0 [.int 0, .ref (G.2.2.2.1.1 0), .int 0] :: []) ++ (yO q2 2 [.int 0, .int 0, .int 0, .int 0, .int 0] :: [])) ++ [yA q3 (G.1 0) 0 (fun _ => 0)]) ++ [yA q4 (G.1 0) 14 (dcl 11)])) H := ⟨hP, hD⟩
  refine lv_iinc (v := 11) (lv' := [(4, .int 11), (0, .ref a), (1, .int x), (2, .int 0), (3, .int y)]) hx hb dX3_init_126 hl (k := 0) rfl (by rfl) (by decide) rfl (fun ls hl => ?_)
  refine lv_goto (tgt := 106) hx hb dX3_init_129 (by decide) ?_
  refine lv_iload hx hb dX3_init_106 (lv_at hl 0 rfl) ?_
  refine lv_aload_n hx hb dX3_init_108 rfl (lv_at hl 1 rfl) ?_
  refine va_get (D := G.2.1) (ci := 4) (C := RX3) (T := TX3) (N := 14) hx hb hts inF_X3 hown hK hw.1 k (y_at0 hk) rfl 5 (by decide) (hts _ wm78) (fun _ h9 => h9) rfl dX3_init_109 ?_
  refine va_alen (D := G.2.1) (v := 14) hx hb hK hw.1 (X.set k (yO a 4 [.int x, .int 0, .int y, .ref q1, .ref q3, .ref q4, .null, .ref q2, .null, .int 0, .int 0, .int 0, .int 0, .int 0]) ++ (((yO q1 0 [.int 0, .ref (G.2.2.2.1.1 0), .int 0] :: []) ++ (yO q2 2 [.int 0, .int 0, .int 0, .int 0, .int 0] :: [])) ++ [yA q3 (G.1 0) 0 (fun _ => 0)])).length 0 (y_at2 _) (by rw [htys]; rfl) rfl dX3_init_112 ?_
  refine lv_icmp_ge (tgt := 132) hx hb dX3_init_113 (by decide) (fun z => absurd z (by decide)) (fun _ => ?_)
  refine lv_aload_n hx hb dX3_init_116 rfl (lv_at hl 1 rfl) ?_
  refine va_get (D := G.2.1) (ci := 4) (C := RX3) (T := TX3) (N := 14) hx hb hts inF_X3 hown hK hw.1 k (y_at0 hk) rfl 5 (by decide) (hts _ wm78) (fun _ h9 => h9) rfl dX3_init_117 ?_
  refine lv_iload hx hb dX3_init_120 (lv_at hl 0 rfl) ?_
  refine lv_sipush (v := 9998) hx hb dX3_init_122 (by decide) ?_
  refine va_iast (D := G.2.1) (f := dcl 11) hx hb hK hw.1 hw.2 hS (X.set k (yO a 4 [.int x, .int 0, .int y, .ref q1, .ref q3, .ref q4, .null, .ref q2, .null, .int 0, .int 0, .int 0, .int 0, .int 0]) ++ (((yO q1 0 [.int 0, .ref (G.2.2.2.1.1 0), .int 0] :: []) ++ (yO q2 2 [.int 0, .int 0, .int 0, .int 0, .int 0] :: [])) ++ [yA q3 (G.1 0) 0 (fun _ => 0)])).length 0 (y_at2 _) (by rw [htys]; rfl) (show vin 11 14 from by decide) dX3_init_125 (fun H locs hP hD hS => ?_)
  rw [dcl_s (i := 11) rfl, y_set2] at hP hD
  have hw : yP G (X.set k (yO a 4 [.int x, .int 0, .int y, .ref q1, .ref q3, .ref q4, .null, .ref q2, .null, .int 0, .int 0, .int 0, .int 0, .int 0]) ++ ((((yO q1 0 [.int 0, .ref (G.2.2.2.1.1 0), .int 0] :: []) ++ (yO q2 2 [.int 0, .int 0, .int 0, .int 0, .int 0] :: [])) ++ [yA q3 (G.1 0) 0 (fun _ => 0)]) ++ [yA q4 (G.1 0) 14 (dcl 12)])) H := ⟨hP, hD⟩
  refine lv_iinc (v := 12) (lv' := [(4, .int 12), (0, .ref a), (1, .int x), (2, .int 0), (3, .int y)]) hx hb dX3_init_126 hl (k := 0) rfl (by rfl) (by decide) rfl (fun ls hl => ?_)
  refine lv_goto (tgt := 106) hx hb dX3_init_129 (by decide) ?_
  refine lv_iload hx hb dX3_init_106 (lv_at hl 0 rfl) ?_
  refine lv_aload_n hx hb dX3_init_108 rfl (lv_at hl 1 rfl) ?_
  refine va_get (D := G.2.1) (ci := 4) (C := RX3) (T := TX3) (N := 14) hx hb hts inF_X3 hown hK hw.1 k (y_at0 hk) rfl 5 (by decide) (hts _ wm78) (fun _ h9 => h9) rfl dX3_init_109 ?_
  refine va_alen (D := G.2.1) (v := 14) hx hb hK hw.1 (X.set k (yO a 4 [.int x, .int 0, .int y, .ref q1, .ref q3, .ref q4, .null, .ref q2, .null, .int 0, .int 0, .int 0, .int 0, .int 0]) ++ (((yO q1 0 [.int 0, .ref (G.2.2.2.1.1 0), .int 0] :: []) ++ (yO q2 2 [.int 0, .int 0, .int 0, .int 0, .int 0] :: [])) ++ [yA q3 (G.1 0) 0 (fun _ => 0)])).length 0 (y_at2 _) (by rw [htys]; rfl) rfl dX3_init_112 ?_
  refine lv_icmp_ge (tgt := 132) hx hb dX3_init_113 (by decide) (fun z => absurd z (by decide)) (fun _ => ?_)
  refine lv_aload_n hx hb dX3_init_116 rfl (lv_at hl 1 rfl) ?_
  refine va_get (D := G.2.1) (ci := 4) (C := RX3) (T := TX3) (N := 14) hx hb hts inF_X3 hown hK hw.1 k (y_at0 hk) rfl 5 (by decide) (hts _ wm78) (fun _ h9 => h9) rfl dX3_init_117 ?_
  refine lv_iload hx hb dX3_init_120 (lv_at hl 0 rfl) ?_
  refine lv_sipush (v := 9998) hx hb dX3_init_122 (by decide) ?_
  refine va_iast (D := G.2.1) (f := dcl 12) hx hb hK hw.1 hw.2 hS (X.set k (yO a 4 [.int x, .int 0, .int y, .ref q1, .ref q3, .ref q4, .null, .ref q2, .null, .int 0, .int 0, .int 0, .int 0, .int 0]) ++ (((yO q1 0 [.int 0, .ref (G.2.2.2.1.1 0), .int 0] :: []) ++ (yO q2 2 [.int 0, .int 0, .int 0, .int 0, .int 0] :: [])) ++ [yA q3 (G.1 0) 0 (fun _ => 0)])).length 0 (y_at2 _) (by rw [htys]; rfl) (show vin 12 14 from by decide) dX3_init_125 (fun H locs hP hD hS => ?_)
  rw [dcl_s (i := 12) rfl, y_set2] at hP hD
  have hw : yP G (X.set k (yO a 4 [.int x, .int 0, .int y, .ref q1, .ref q3, .ref q4, .null, .ref q2, .null, .int 0, .int 0, .int 0, .int 0, .int 0]) ++ ((((yO q1 0 [.int 0, .ref (G.2.2.2.1.1 0), .int 0] :: []) ++ (yO q2 2 [.int 0, .int 0, .int 0, .int 0, .int 0] :: [])) ++ [yA q3 (G.1 0) 0 (fun _ => 0)]) ++ [yA q4 (G.1 0) 14 (dcl 13)])) H := ⟨hP, hD⟩
  refine lv_iinc (v := 13) (lv' := [(4, .int 13), (0, .ref a), (1, .int x), (2, .int 0), (3, .int y)]) hx hb dX3_init_126 hl (k := 0) rfl (by rfl) (by decide) rfl (fun ls hl => ?_)
  refine lv_goto (tgt := 106) hx hb dX3_init_129 (by decide) ?_
  refine lv_iload hx hb dX3_init_106 (lv_at hl 0 rfl) ?_
  refine lv_aload_n hx hb dX3_init_108 rfl (lv_at hl 1 rfl) ?_
  refine va_get (D := G.2.1) (ci := 4) (C := RX3) (T := TX3) (N := 14) hx hb hts inF_X3 hown hK hw.1 k (y_at0 hk) rfl 5 (by decide) (hts _ wm78) (fun _ h9 => h9) rfl dX3_init_109 ?_
  refine va_alen (D := G.2.1) (v := 14) hx hb hK hw.1 (X.set k (yO a 4 [.int x, .int 0, .int y, .ref q1, .ref q3, .ref q4, .null, .ref q2, .null, .int 0, .int 0, .int 0, .int 0, .int 0]) ++ (((yO q1 0 [.int 0, .ref (G.2.2.2.1.1 0), .int 0] :: []) ++ (yO q2 2 [.int 0, .int 0, .int 0, .int 0, .int 0] :: [])) ++ [yA q3 (G.1 0) 0 (fun _ => 0)])).length 0 (y_at2 _) (by rw [htys]; rfl) rfl dX3_init_112 ?_
  refine lv_icmp_ge (tgt := 132) hx hb dX3_init_113 (by decide) (fun z => absurd z (by decide)) (fun _ => ?_)
  refine lv_aload_n hx hb dX3_init_116 rfl (lv_at hl 1 rfl) ?_
  refine va_get (D := G.2.1) (ci := 4) (C := RX3) (T := TX3) (N := 14) hx hb hts inF_X3 hown hK hw.1 k (y_at0 hk) rfl 5 (by decide) (hts _ wm78) (fun _ h9 => h9) rfl dX3_init_117 ?_
  refine lv_iload hx hb dX3_init_120 (lv_at hl 0 rfl) ?_
  refine lv_sipush (v := 9998) hx hb dX3_init_122 (by decide) ?_
  refine va_iast (D := G.2.1) (f := dcl 13) hx hb hK hw.1 hw.2 hS (X.set k (yO a 4 [.int x, .int 0, .int y, .ref q1, .ref q3, .ref q4, .null, .ref q2, .null, .int 0, .int 0, .int 0, .int 0, .int 0]) ++ (((yO q1 0 [.int 0, .ref (G.2.2.2.1.1 0), .int 0] :: []) ++ (yO q2 2 [.int 0, .int 0, .int 0, .int 0, .int 0] :: [])) ++ [yA q3 (G.1 0) 0 (fun _ => 0)])).length 0 (y_at2 _) (by rw [htys]; rfl) (show vin 13 14 from by decide) dX3_init_125 (fun H locs hP hD hS => ?_)
  rw [dcl_s (i := 13) rfl, y_set2] at hP hD
  have hw : yP G (X.set k (yO a 4 [.int x, .int 0, .int y, .ref q1, .ref q3, .ref q4, .null, .ref q2, .null, .int 0, .int 0, .int 0, .int 0, .int 0]) ++ ((((yO q1 0 [.int 0, .ref (G.2.2.2.1.1 0), .int 0] :: []) ++ (yO q2 2 [.int 0, .int 0, .int 0, .int 0, .int 0] :: [])) ++ [yA q3 (G.1 0) 0 (fun _ => 0)]) ++ [yA q4 (G.1 0) 14 (dcl 14)])) H := ⟨hP, hD⟩
  refine lv_iinc (v := 14) (lv' := [(4, .int 14), (0, .ref a), (1, .int x), (2, .int 0), (3, .int y)]) hx hb dX3_init_126 hl (k := 0) rfl (by rfl) (by decide) rfl (fun ls hl => ?_)
  refine lv_goto (tgt := 106) hx hb dX3_init_129 (by decide) ?_
  refine lv_iload hx hb dX3_init_106 (lv_at hl 0 rfl) ?_
  refine lv_aload_n hx hb dX3_init_108 rfl (lv_at hl 1 rfl) ?_
  refine va_get (D := G.2.1) (ci := 4) (C := RX3) (T := TX3) (N := 14) hx hb hts inF_X3 hown hK hw.1 k (y_at0 hk) rfl 5 (by decide) (hts _ wm78) (fun _ h9 => h9) rfl dX3_init_109 ?_
  refine va_alen (D := G.2.1) (v := 14) hx hb hK hw.1 (X.set k (yO a 4 [.int x, .int 0, .int y, .ref q1, .ref q3, .ref q4, .null, .ref q2, .null, .int 0, .int 0, .int 0, .int 0, .int 0]) ++ (((yO q1 0 [.int 0, .ref (G.2.2.2.1.1 0), .int 0] :: []) ++ (yO q2 2 [.int 0, .int 0, .int 0, .int 0, .int 0] :: [])) ++ [yA q3 (G.1 0) 0 (fun _ => 0)])).length 0 (y_at2 _) (by rw [htys]; rfl) rfl dX3_init_112 ?_
  refine lv_icmp_ge (tgt := 132) hx hb dX3_init_113 (by decide) (fun _ => ?_) (fun z => absurd z (by decide))
  refine lv_aload_n hx hb dX3_init_132 rfl (lv_at hl 1 rfl) ?_
  refine va_new (D := G.2.1) (ci := 3) (fs := [.int 0, .null, .int 0, .int 0, .int 0, .int 0, .int 0, .int 0, .int 0, .int 0, .int 0, .int 0, .int 0, .int 0, .null, .null]) (C := RX2) (T := TX2) (N := 16) hx hb hts inF_X2 tyX2 tyX2_ok hown (hts _ wm79) (hts _ wm80) (hts _ wm81) hK hw.1 hw.2 hS hA.1 rfl (fun j hj => by rcases (show j = 0 ∨ j = 1 ∨ j = 2 ∨ j = 3 ∨ j = 4 ∨ j = 5 ∨ j = 6 ∨ j = 7 ∨ j = 8 ∨ j = 9 ∨ j = 10 ∨ j = 11 ∨ j = 12 ∨ j = 13 ∨ j = 14 ∨ j = 15 by omega) with rfl | rfl | rfl | rfl | rfl | rfl | rfl | rfl | rfl | rfl | rfl | rfl | rfl | rfl | rfl | rfl <;> rfl) (Nat.le_of_ble_eq_true rfl) (Nat.le_of_ble_eq_true rfl) dX3_init_133 (fun q5 H hP hD hS => ?_)
  have hw : yP G ((X.set k (yO a 4 [.int x, .int 0, .int y, .ref q1, .ref q3, .ref q4, .null, .ref q2, .null, .int 0, .int 0, .int 0, .int 0, .int 0]) ++ ((((yO q1 0 [.int 0, .ref (G.2.2.2.1.1 0), .int 0] :: []) ++ (yO q2 2 [.int 0, .int 0, .int 0, .int 0, .int 0] :: [])) ++ [yA q3 (G.1 0) 0 (fun _ => 0)]) ++ [yA q4 (G.1 0) 14 (dcl 14)])) ++ [yO q5 3 [.int 0, .null, .int 0, .int 0, .int 0, .int 0, .int 0, .int 0, .int 0, .int 0, .int 0, .int 0, .int 0, .int 0, .null, .null]]) H := ⟨hP, hD⟩
  refine lv_dup hx hb dX3_init_136 rfl ?_
  refine lv_iload_n hx hb dX3_init_137 rfl (lv_at hl 3 rfl) ?_
  refine lv_if_eq (tgt := 146) hx hb dX3_init_138 (by decide) (fun _ => ?_) (fun z => absurd z (by decide))
  refine lv_iconst (v := 0) hx hb dX3_init_146 (by decide) ?_
  refine ycallv (va_runI (As := [.int 0]) (rest := [.ref q5, .ref a]) ⟨hx, hb, hml, hown, hts⟩ (c_X2_init0 (l := l) (G := G) (tys := tys) htys (X := ((X.set k (yO a 4 [.int x, .int 0, .int y, .ref q1, .ref q3, .ref q4, .null, .ref q2, .null, .int 0, .int 0, .int 0, .int 0, .int 0]) ++ ((((yO q1 0 [.int 0, .ref (G.2.2.2.1.1 0), .int 0] :: []) ++ (yO q2 2 [.int 0, .int 0, .int 0, .int 0, .int 0] :: [])) ++ [yA q3 (G.1 0) 0 (fun _ => 0)]) ++ [yA q4 (G.1 0) 14 (dcl 14)])) ++ [yO q5 3 [.int 0, .null, .int 0, .int 0, .int 0, .int 0, .int 0, .int 0, .int 0, .int 0, .int 0, .int 0, .int 0, .int 0, .null, .null]])) (k := (X.set k (yO a 4 [.int x, .int 0, .int y, .ref q1, .ref q3, .ref q4, .null, .ref q2, .null, .int 0, .int 0, .int 0, .int 0, .int 0]) ++ ((((yO q1 0 [.int 0, .ref (G.2.2.2.1.1 0), .int 0] :: []) ++ (yO q2 2 [.int 0, .int 0, .int 0, .int 0, .int 0] :: [])) ++ [yA q3 (G.1 0) 0 (fun _ => 0)]) ++ [yA q4 (G.1 0) 14 (dcl 14)])).length) (a := q5)  y_last) (cwI 1 hts (gNA wm94) rfl rfl rfl (hts _ wm81) (hts _ wm92) (hts _ wm93) rfl (by decide +kernel) ⟨Nat.le_of_ble_eq_true rfl, Nat.le_of_ble_eq_true rfl⟩) (y_pre hA hS hw hK _) rfl rfl hl.1 rfl (lv_room (Nat.le_of_ble_eq_true rfl)) dX3_init_147 ⟨Nat.le_of_ble_eq_true rfl, Nat.le_of_ble_eq_true rfl⟩) hS (fun X1 H locs hp hw hS => ?_)
  obtain ⟨q6, q7, rfl⟩ := hp
  rw [y_back, List.append_assoc] at hw
  have hw : yP G (X.set k (yO a 4 [.int x, .int 0, .int y, .ref q1, .ref q3, .ref q4, .null, .ref q2, .null, .int 0, .int 0, .int 0, .int 0, .int 0]) ++ (((((yO q1 0 [.int 0, .ref (G.2.2.2.1.1 0), .int 0] :: []) ++ (yO q2 2 [.int 0, .int 0, .int 0, .int 0, .int 0] :: [])) ++ [yA q3 (G.1 0) 0 (fun _ => 0)]) ++ [yA q4 (G.1 0) 14 (dcl 14)]) ++ (yO q5 3 [.int 0, .null, .int 0, .int 0, .int 0, .int 0, .int 0, .int 0, .int 0, .int 0, .int 0, .int 0, .int 0, .int 0, .ref q6, .ref q7] :: ([yA q6 (G.1 0) 0 (fun _ => 0)] ++ [yA q7 (G.1 0) 0 (fun _ => 0)])))) H := hw
  refine va_putF (D := G.2.1) (ci := 4) (C := RX3) (T := TX3) (N := 14) hx hb hts inF_X3 tyX3 tyX3_ok nmX3 hown hK hw.1 hw.2 hS k (y_at0 hk) rfl 6 (by decide) (hts _ wm82) (fun _ h9 => h9) rfl hin rfl (ty := .object "PinnaceView$Layout") (v := .ref q5) (by decide +kernel) rfl rfl (Nat.le_of_ble_eq_true rfl) dX3_init_150 (fun H locs hP hD hS => ?_)
  rw [y_set0 hk] at hP hD
  have hw : yP G (X.set k (yO a 4 [.int x, .int 0, .int y, .ref q1, .ref q3, .ref q4, .ref q5, .ref q2, .null, .int 0, .int 0, .int 0, .int 0, .int 0]) ++ (((((yO q1 0 [.int 0, .ref (G.2.2.2.1.1 0), .int 0] :: []) ++ (yO q2 2 [.int 0, .int 0, .int 0, .int 0, .int 0] :: [])) ++ [yA q3 (G.1 0) 0 (fun _ => 0)]) ++ [yA q4 (G.1 0) 14 (dcl 14)]) ++ (yO q5 3 [.int 0, .null, .int 0, .int 0, .int 0, .int 0, .int 0, .int 0, .int 0, .int 0, .int 0, .int 0, .int 0, .int 0, .ref q6, .ref q7] :: ([yA q6 (G.1 0) 0 (fun _ => 0)] ++ [yA q7 (G.1 0) 0 (fun _ => 0)])))) H := ⟨hP, hD⟩
  exact yev hx hb hr hlocks hA hw hK hS ⟨q1, q2, q3, q4, q5, q6, q7, rfl⟩ dX3_init_153
set_option maxHeartbeats 4000000 in
set_option maxRecDepth 100000 in
theorem c_X3_init1 {l : Launch} {G : PvG} {tys : List (ClassId × FieldType)} (htys : tys = pvT G) {X : va_W} {k a : Nat} {x y : Int32} (hX : X[k]? = some (yO a 4 [.int 0, .int 0, .int 0, .null, .null, .null, .null, .null, .null, .int 0, .int 0, .int 0, .int 0, .int 0]))  : Met l yX3_init (Cond.code yX3_init cX3_init 5 none :: WA) ({ frames := 4, cells := 7, slots := 84, locals := 72 }) (va_Pc [.ref a, .int x, .int 1, .int y] (pvY G tys X)) (va_Qv (fun X' : va_W => ∃ (q1 : Nat) (q2 : Nat) (q3 : Nat) (q4 : Nat) (q5 : Nat) (q6 : Nat) (q7 : Nat), X' = X.set k (yO a 4 [.int x, .int 1, .int y, .ref q1, .ref q3, .ref q4, .ref q5, .ref q2, .null, .int 0, .int 0, .int 0, .int 0, .int 0]) ++ (((((yO q1 0 [.int 0, .ref (G.2.2.2.1.1 0), .int 0] :: []) ++ (yO q2 2 [.int 0, .int 0, .int 0, .int 0, .int 0] :: [])) ++ [yA q3 (G.1 0) 20 (fun _ => 0)]) ++ [yA q4 (G.1 0) 0 (fun _ => 0)]) ++ (yO q5 3 [.int 0, .null, .int 0, .int 0, .int 0, .int 0, .int 0, .int 0, .int 0, .int 0, .int 0, .int 0, .int 0, .int 0, .ref q6, .ref q7] :: ([yA q6 (G.1 0) 20 (fun _ => 0)] ++ [yA q7 (G.1 0) 20 (fun _ => 0)])))) (pvY G tys) (pvB G)) 7 84 (pvB G) := by
  refine Met.ofW (cc := cX3_init) (maxL := 5) (ret := none) (by decide) rfl ?_
  intro p e s m args below meth c s₁ B hml hv
  obtain ⟨rfl, hw, hK, hA⟩ := hv
  have hx := B.exec
  have hb := B.bytes
  have hr := B.returns
  have hts0 := atoms_spec (ws := (Cond.code yX3_init cX3_init 5 none :: WA)) B.pre
  have hts : ∀ w ∈ WA, w.before _ s = true := fun w h => hts0 w (List.mem_cons_of_mem _ h)
  have hown : s.vm.findClass RX3 = some m.cls := findClass_of_methodNamed B.named
  have hlocks := B.notSynchronized
  have hin : meth.name = "<init>" := (name_of_methodNamed B.named B.method).1
  have hS : va_S (pvB G) s.heap s.heap [] := va_S.rf
  have hk := y_lt hX
  rw [y_start hX] at hw
  have hl := lv_entry ([.ref a, .int x, .int 1, .int y]) (n := 5) (Nat.le_of_ble_eq_true rfl)
  rw [lg_entry_eq]
  generalize (lg_sl ([.ref a, .int x, .int 1, .int y]) ++ List.replicate (5 - (lg_sl ([.ref a, .int x, .int 1, .int y])).length) Slot.unset).toArray = ls at hl ⊢
  have hl : lv_has ls 5 [(0, .ref a), (1, .int x), (2, .int 1), (3, .int y)] := hl
  refine lv_aload_n hx hb dX3_init_0 rfl (lv_at hl 0 rfl) ?_
  refine yobj hx hb (hml.trans hl.1.symm) hown (hts _ wm61) (hts _ wm8) (hts _ wm9) dX3_init_1 (Nat.le_of_ble_eq_true rfl) (Nat.le_of_ble_eq_true rfl) ?_
  refine lv_aload_n hx hb dX3_init_4 rfl (lv_at hl 0 rfl) ?_
  refine va_new (D := G.2.1) (ci := 0) (fs := [.int 0, .null, .int 0]) (C := RJx4a65c) (T := TJx4a65c) (N := 3) hx hb hts inF_Jx4a65c tyJx4a65c tyJx4a65c_ok hown (hts _ wm62) (hts _ wm12) (hts _ wm13) hK hw.1 hw.2 hS hA.1 rfl (fun j hj => by rcases (show j = 0 ∨ j = 1 ∨ j = 2 by omega) with rfl | rfl | rfl <;> rfl) (Nat.le_of_ble_eq_true rfl) (Nat.le_of_ble_eq_true rfl) dX3_init_5 (fun q1 H hP hD hS => ?_)
  have hw : yP G ((X.set k (yO a 4 [.int 0, .int 0, .int 0, .null, .null, .null, .null, .null, .null, .int 0, .int 0, .int 0, .int 0, .int 0]) ++ []) ++ [yO q1 0 [.int 0, .null, .int 0]]) H := ⟨hP, hD⟩
  refine lv_dup hx hb dX3_init_8 rfl ?_
  refine ycallv (va_runI (As := []) (rest := [.ref q1, .ref a]) ⟨hx, hb, hml, hown, hts⟩ (c_Jx4a65c_init_da8c8 (l := l) (G := G) (tys := tys) htys (X := ((X.set k (yO a 4 [.int 0, .int 0, .int 0, .null, .null, .null, .null, .null, .null, .int 0, .int 0, .int 0, .int 0, .int 0]) ++ []) ++ [yO q1 0 [.int 0, .null, .int 0]])) (k := (X.set k (yO a 4 [.int 0, .int 0, .int 0, .null, .null, .null, .null, .null, .null, .int 0, .int 0, .int 0, .int 0, .int 0]) ++ []).length) (a := q1)  y_last) (cwI 0 hts (gNA wm45) rfl rfl rfl (hts _ wm13) (hts _ wm83) (hts _ wm44) rfl (by decide +kernel) ⟨Nat.le_of_ble_eq_true rfl, Nat.le_of_ble_eq_true rfl⟩) (y_pre hA hS hw hK _) rfl rfl hl.1 rfl (lv_room (Nat.le_of_ble_eq_true rfl)) dX3_init_9 ⟨Nat.le_of_ble_eq_true rfl, Nat.le_of_ble_eq_true rfl⟩) hS (fun X1 H locs hp hw hS => ?_)
  obtain ⟨rfl⟩ := hp
  rw [y_back, List.append_assoc] at hw
  have hw : yP G (X.set k (yO a 4 [.int 0, .int 0, .int 0, .null, .null, .null, .null, .null, .null, .int 0, .int 0, .int 0, .int 0, .int 0]) ++ (yO q1 0 [.int 0, .ref (G.2.2.2.1.1 0), .int 0] :: [])) H := hw
  refine va_putF (D := G.2.1) (ci := 4) (C := RX3) (T := TX3) (N := 14) hx hb hts inF_X3 tyX3 tyX3_ok nmX3 hown hK hw.1 hw.2 hS k (y_at0 hk) rfl 3 (by decide) (hts _ wm63) (fun _ h9 => h9) rfl hin rfl (ty := .object "java/util/ArrayList") (v := .ref q1) (by decide +kernel) rfl rfl (Nat.le_of_ble_eq_true rfl) dX3_init_12 (fun H locs hP hD hS => ?_)
  rw [y_set0 hk] at hP hD
  have hw : yP G (X.set k (yO a 4 [.int 0, .int 0, .int 0, .ref q1, .null, .null, .null, .null, .null, .int 0, .int 0, .int 0, .int 0, .int 0]) ++ (yO q1 0 [.int 0, .ref (G.2.2.2.1.1 0), .int 0] :: [])) H := ⟨hP, hD⟩
  refine lv_aload_n hx hb dX3_init_15 rfl (lv_at hl 0 rfl) ?_
  refine va_new (D := G.2.1) (ci := 2) (fs := [.int 0, .int 0, .int 0, .int 0, .int 0]) (C := RX1) (T := TX1) (N := 5) hx hb hts inF_X1 tyX1 tyX1_ok hown (hts _ wm64) (hts _ wm65) (hts _ wm66) hK hw.1 hw.2 hS hA.1 rfl (fun j hj => by rcases (show j = 0 ∨ j = 1 ∨ j = 2 ∨ j = 3 ∨ j = 4 by omega) with rfl | rfl | rfl | rfl | rfl <;> rfl) (Nat.le_of_ble_eq_true rfl) (Nat.le_of_ble_eq_true rfl) dX3_init_16 (fun q2 H hP hD hS => ?_)
  have hw : yP G ((X.set k (yO a 4 [.int 0, .int 0, .int 0, .ref q1, .null, .null, .null, .null, .null, .int 0, .int 0, .int 0, .int 0, .int 0]) ++ (yO q1 0 [.int 0, .ref (G.2.2.2.1.1 0), .int 0] :: [])) ++ [yO q2 2 [.int 0, .int 0, .int 0, .int 0, .int 0]]) H := ⟨hP, hD⟩
  refine lv_dup hx hb dX3_init_19 rfl ?_
  refine ycallv (va_runIN (As := []) (rest := [.ref q2, .ref a]) ⟨hx, hb, hml, hown, hts⟩ (c_X1_init (l := l) (G := G) (tys := tys) htys (X := ((X.set k (yO a 4 [.int 0, .int 0, .int 0, .ref q1, .null, .null, .null, .null, .null, .int 0, .int 0, .int 0, .int 0, .int 0]) ++ (yO q1 0 [.int 0, .ref (G.2.2.2.1.1 0), .int 0] :: [])) ++ [yO q2 2 [.int 0, .int 0, .int 0, .int 0, .int 0]])) (k := (X.set k (yO a 4 [.int 0, .int 0, .int 0, .ref q1, .null, .null, .null, .null, .null, .int 0, .int 0, .int 0, .int 0, .int 0]) ++ (yO q1 0 [.int 0, .ref (G.2.2.2.1.1 0), .int 0] :: [])).length) (a := q2)  y_last) ⟨va_cnB 0 hts (gNA wm85) rfl rfl rfl hA.2.2.1 (hts _ wm66) (by decide +kernel) ⟨Nat.le_of_ble_eq_true rfl, Nat.le_of_ble_eq_true rfl⟩, rfl, (hts _ wm84)⟩ (y_pre hA hS hw hK _) rfl rfl hl.1 rfl (lv_room (Nat.le_of_ble_eq_true rfl)) dX3_init_20 ⟨Nat.le_of_ble_eq_true rfl, Nat.le_of_ble_eq_true rfl⟩) hS (fun X1 H locs hp hw hS => ?_)
  obtain ⟨rfl⟩ := hp
  rw [y_back, List.append_assoc] at hw
  have hw : yP G (X.set k (yO a 4 [.int 0, .int 0, .int 0, .ref q1, .null, .null, .null, .null, .null, .int 0, .int 0, .int 0, .int 0, .int 0]) ++ ((yO q1 0 [.int 0, .ref (G.2.2.2.1.1 0), .int 0] :: []) ++ (yO q2 2 [.int 0, .int 0, .int 0, .int 0, .int 0] :: []))) H := hw
  refine va_putF (D := G.2.1) (ci := 4) (C := RX3) (T := TX3) (N := 14) hx hb hts inF_X3 tyX3 tyX3_ok nmX3 hown hK hw.1 hw.2 hS k (y_at0 hk) rfl 7 (by decide) (hts _ wm67) (fun _ h9 => h9) rfl hin rfl (ty := .object "PinnaceView$Flow") (v := .ref q2) (by decide +kernel) rfl rfl (Nat.le_of_ble_eq_true rfl) dX3_init_23 (fun H locs hP hD hS => ?_)
  rw [y_set0 hk] at hP hD
  have hw : yP G (X.set k (yO a 4 [.int 0, .int 0, .int 0, .ref q1, .null, .null, .null, .ref q2, .null, .int 0, .int 0, .int 0, .int 0, .int 0]) ++ ((yO q1 0 [.int 0, .ref (G.2.2.2.1.1 0), .int 0] :: []) ++ (yO q2 2 [.int 0, .int 0, .int 0, .int 0, .int 0] :: []))) H := ⟨hP, hD⟩
  refine lv_aload_n hx hb dX3_init_26 rfl (lv_at hl 0 rfl) ?_
  refine lv_null hx hb dX3_init_27 ?_
  refine va_put (D := G.2.1) (ci := 4) (C := RX3) (T := TX3) (N := 14) hx hb hts inF_X3 tyX3 tyX3_ok nmX3 hown hK hw.1 hw.2 hS k (y_at0 hk) rfl 8 (by decide) (hts _ wm68) (fun _ h9 => h9) rfl (ty := .object "PinnaceView$Node") (v := .null) (by decide +kernel) rfl rfl (Nat.le_of_ble_eq_true rfl) dX3_init_28 (fun H locs hP hD hS => ?_)
  rw [y_set0 hk] at hP hD
  have hw : yP G (X.set k (yO a 4 [.int 0, .int 0, .int 0, .ref q1, .null, .null, .null, .ref q2, .null, .int 0, .int 0, .int 0, .int 0, .int 0]) ++ ((yO q1 0 [.int 0, .ref (G.2.2.2.1.1 0), .int 0] :: []) ++ (yO q2 2 [.int 0, .int 0, .int 0, .int 0, .int 0] :: []))) H := ⟨hP, hD⟩
  refine lv_aload_n hx hb dX3_init_31 rfl (lv_at hl 0 rfl) ?_
  refine lv_iconst (v := 0) hx hb dX3_init_32 (by decide) ?_
  refine va_put (D := G.2.1) (ci := 4) (C := RX3) (T := TX3) (N := 14) hx hb hts inF_X3 tyX3 tyX3_ok nmX3 hown hK hw.1 hw.2 hS k (y_at0 hk) rfl 9 (by decide) (hts _ wm69) (fun _ h9 => h9) rfl (ty := .int) (v := .int 0) (by decide +kernel) rfl rfl (Nat.le_of_ble_eq_true rfl) dX3_init_33 (fun H locs hP hD hS => ?_)
  rw [y_set0 hk] at hP hD
  have hw : yP G (X.set k (yO a 4 [.int 0, .int 0, .int 0, .ref q1, .null, .null, .null, .ref q2, .null, .int 0, .int 0, .int 0, .int 0, .int 0]) ++ ((yO q1 0 [.int 0, .ref (G.2.2.2.1.1 0), .int 0] :: []) ++ (yO q2 2 [.int 0, .int 0, .int 0, .int 0, .int 0] :: []))) H := ⟨hP, hD⟩
  refine lv_aload_n hx hb dX3_init_36 rfl (lv_at hl 0 rfl) ?_
  refine lv_iconst (v := 0) hx hb dX3_init_37 (by decide) ?_
  refine va_put (D := G.2.1) (ci := 4) (C := RX3) (T := TX3) (N := 14) hx hb hts inF_X3 tyX3 tyX3_ok nmX3 hown hK hw.1 hw.2 hS k (y_at0 hk) rfl 10 (by decide) (hts _ wm70) (fun _ h9 => h9) rfl (ty := .int) (v := .int 0) (by decide +kernel) rfl rfl (Nat.le_of_ble_eq_true rfl) dX3_init_38 (fun H locs hP hD hS => ?_)
  rw [y_set0 hk] at hP hD
  have hw : yP G (X.set k (yO a 4 [.int 0, .int 0, .int 0, .ref q1, .null, .null, .null, .ref q2, .null, .int 0, .int 0, .int 0, .int 0, .int 0]) ++ ((yO q1 0 [.int 0, .ref (G.2.2.2.1.1 0), .int 0] :: []) ++ (yO q2 2 [.int 0, .int 0, .int 0, .int 0, .int 0] :: []))) H := ⟨hP, hD⟩
  refine lv_aload_n hx hb dX3_init_41 rfl (lv_at hl 0 rfl) ?_
  refine lv_iconst (v := 0) hx hb dX3_init_42 (by decide) ?_
  refine va_put (D := G.2.1) (ci := 4) (C := RX3) (T := TX3) (N := 14) hx hb hts inF_X3 tyX3 tyX3_ok nmX3 hown hK hw.1 hw.2 hS k (y_at0 hk) rfl 11 (by decide) (hts _ wm71) (fun _ h9 => h9) rfl (ty := .int) (v := .int 0) (by decide +kernel) rfl rfl (Nat.le_of_ble_eq_true rfl) dX3_init_43 (fun H locs hP hD hS => ?_)
  rw [y_set0 hk] at hP hD
  have hw : yP G (X.set k (yO a 4 [.int 0, .int 0, .int 0, .ref q1, .null, .null, .null, .ref q2, .null, .int 0, .int 0, .int 0, .int 0, .int 0]) ++ ((yO q1 0 [.int 0, .ref (G.2.2.2.1.1 0), .int 0] :: []) ++ (yO q2 2 [.int 0, .int 0, .int 0, .int 0, .int 0] :: []))) H := ⟨hP, hD⟩
  refine lv_aload_n hx hb dX3_init_46 rfl (lv_at hl 0 rfl) ?_
  refine lv_iconst (v := 0) hx hb dX3_init_47 (by decide) ?_
  refine va_put (D := G.2.1) (ci := 4) (C := RX3) (T := TX3) (N := 14) hx hb hts inF_X3 tyX3 tyX3_ok nmX3 hown hK hw.1 hw.2 hS k (y_at0 hk) rfl 12 (by decide) (hts _ wm72) (fun _ h9 => h9) rfl (ty := .int) (v := .int 0) (by decide +kernel) rfl rfl (Nat.le_of_ble_eq_true rfl) dX3_init_48 (fun H locs hP hD hS => ?_)
  rw [y_set0 hk] at hP hD
  have hw : yP G (X.set k (yO a 4 [.int 0, .int 0, .int 0, .ref q1, .null, .null, .null, .ref q2, .null, .int 0, .int 0, .int 0, .int 0, .int 0]) ++ ((yO q1 0 [.int 0, .ref (G.2.2.2.1.1 0), .int 0] :: []) ++ (yO q2 2 [.int 0, .int 0, .int 0, .int 0, .int 0] :: []))) H := ⟨hP, hD⟩
  refine lv_aload_n hx hb dX3_init_51 rfl (lv_at hl 0 rfl) ?_
  refine lv_iconst (v := 0) hx hb dX3_init_52 (by decide) ?_
  refine va_put (D := G.2.1) (ci := 4) (C := RX3) (T := TX3) (N := 14) hx hb hts inF_X3 tyX3 tyX3_ok nmX3 hown hK hw.1 hw.2 hS k (y_at0 hk) rfl 13 (by decide) (hts _ wm73) (fun _ h9 => h9) rfl (ty := .boolean) (v := .int 0) (by decide +kernel) rfl rfl (Nat.le_of_ble_eq_true rfl) dX3_init_53 (fun H locs hP hD hS => ?_)
  rw [y_set0 hk] at hP hD
  have hw : yP G (X.set k (yO a 4 [.int 0, .int 0, .int 0, .ref q1, .null, .null, .null, .ref q2, .null, .int 0, .int 0, .int 0, .int 0, .int 0]) ++ ((yO q1 0 [.int 0, .ref (G.2.2.2.1.1 0), .int 0] :: []) ++ (yO q2 2 [.int 0, .int 0, .int 0, .int 0, .int 0] :: []))) H := ⟨hP, hD⟩
  refine lv_aload_n hx hb dX3_init_56 rfl (lv_at hl 0 rfl) ?_
  refine lv_iload_n hx hb dX3_init_57 rfl (lv_at hl 1 rfl) ?_
  refine va_putF (D := G.2.1) (ci := 4) (C := RX3) (T := TX3) (N := 14) hx hb hts inF_X3 tyX3 tyX3_ok nmX3 hown hK hw.1 hw.2 hS k (y_at0 hk) rfl 0 (by decide) (hts _ wm74) (fun _ h9 => h9) rfl hin rfl (ty := .int) (v := .int x) (by decide +kernel) rfl rfl (Nat.le_of_ble_eq_true rfl) dX3_init_58 (fun H locs hP hD hS => ?_)
  rw [y_set0 hk] at hP hD
  have hw : yP G (X.set k (yO a 4 [.int x, .int 0, .int 0, .ref q1, .null, .null, .null, .ref q2, .null, .int 0, .int 0, .int 0, .int 0, .int 0]) ++ ((yO q1 0 [.int 0, .ref (G.2.2.2.1.1 0), .int 0] :: []) ++ (yO q2 2 [.int 0, .int 0, .int 0, .int 0, .int 0] :: []))) H := ⟨hP, hD⟩
  refine lv_aload_n hx hb dX3_init_61 rfl (lv_at hl 0 rfl) ?_
  refine lv_iload_n hx hb dX3_init_62 rfl (lv_at hl 2 rfl) ?_
  refine va_putF (D := G.2.1) (ci := 4) (C := RX3) (T := TX3) (N := 14) hx hb hts inF_X3 tyX3 tyX3_ok nmX3 hown hK hw.1 hw.2 hS k (y_at0 hk) rfl 1 (by decide) (hts _ wm75) (fun _ h9 => h9) rfl hin rfl (ty := .boolean) (v := .int 1) (by decide +kernel) rfl rfl (Nat.le_of_ble_eq_true rfl) dX3_init_63 (fun H locs hP hD hS => ?_)
  rw [y_set0 hk] at hP hD
  have hw : yP G (X.set k (yO a 4 [.int x, .int 1, .int 0, .ref q1, .null, .null, .null, .ref q2, .null, .int 0, .int 0, .int 0, .int 0, .int 0]) ++ ((yO q1 0 [.int 0, .ref (G.2.2.2.1.1 0), .int 0] :: []) ++ (yO q2 2 [.int 0, .int 0, .int 0, .int 0, .int 0] :: []))) H := ⟨hP, hD⟩
  refine lv_aload_n hx hb dX3_init_66 rfl (lv_at hl 0 rfl) ?_
  refine lv_iload_n hx hb dX3_init_67 rfl (lv_at hl 3 rfl) ?_
  refine va_putF (D := G.2.1) (ci := 4) (C := RX3) (T := TX3) (N := 14) hx hb hts inF_X3 tyX3 tyX3_ok nmX3 hown hK hw.1 hw.2 hS k (y_at0 hk) rfl 2 (by decide) (hts _ wm76) (fun _ h9 => h9) rfl hin rfl (ty := .int) (v := .int y) (by decide +kernel) rfl rfl (Nat.le_of_ble_eq_true rfl) dX3_init_68 (fun H locs hP hD hS => ?_)
  rw [y_set0 hk] at hP hD
  have hw : yP G (X.set k (yO a 4 [.int x, .int 1, .int y, .ref q1, .null, .null, .null, .ref q2, .null, .int 0, .int 0, .int 0, .int 0, .int 0]) ++ ((yO q1 0 [.int 0, .ref (G.2.2.2.1.1 0), .int 0] :: []) ++ (yO q2 2 [.int 0, .int 0, .int 0, .int 0, .int 0] :: []))) H := ⟨hP, hD⟩
  refine lv_aload_n hx hb dX3_init_71 rfl (lv_at hl 0 rfl) ?_
  refine lv_iload_n hx hb dX3_init_72 rfl (lv_at hl 2 rfl) ?_
  refine lv_if_eq (tgt := 81) hx hb dX3_init_73 (by decide) (fun z => absurd z (by decide)) (fun _ => ?_)
  refine lv_bipush (v := 20) hx hb dX3_init_76 (by decide) ?_
  refine lv_goto (tgt := 82) hx hb dX3_init_78 (by decide) ?_
  refine ynewI hx hb (hts _ wm3) hA hK htys hw hS (N := 20) (by decide) (by decide) (by decide) (Nat.le_of_ble_eq_true rfl) (Nat.le_of_ble_eq_true rfl) dX3_init_82 (fun q3 H hw hS => ?_)
  rw [List.append_assoc] at hw
  have hw : yP G (X.set k (yO a 4 [.int x, .int 1, .int y, .ref q1, .null, .null, .null, .ref q2, .null, .int 0, .int 0, .int 0, .int 0, .int 0]) ++ (((yO q1 0 [.int 0, .ref (G.2.2.2.1.1 0), .int 0] :: []) ++ (yO q2 2 [.int 0, .int 0, .int 0, .int 0, .int 0] :: [])) ++ [yA q3 (G.1 0) 20 (fun _ => 0)])) H := hw
  refine va_putF (D := G.2.1) (ci := 4) (C := RX3) (T := TX3) (N := 14) hx hb hts inF_X3 tyX3 tyX3_ok nmX3 hown hK hw.1 hw.2 hS k (y_at0 hk) rfl 4 (by decide) (hts _ wm77) (fun _ h9 => h9) rfl hin rfl (ty := .array .int) (v := .ref q3) (by decide +kernel) rfl rfl (Nat.le_of_ble_eq_true rfl) dX3_init_84 (fun H locs hP hD hS => ?_)
  rw [y_set0 hk] at hP hD
  have hw : yP G (X.set k (yO a 4 [.int x, .int 1, .int y, .ref q1, .ref q3, .null, .null, .ref q2, .null, .int 0, .int 0, .int 0, .int 0, .int 0]) ++ (((yO q1 0 [.int 0, .ref (G.2.2.2.1.1 0), .int 0] :: []) ++ (yO q2 2 [.int 0, .int 0, .int 0, .int 0, .int 0] :: [])) ++ [yA q3 (G.1 0) 20 (fun _ => 0)])) H := ⟨hP, hD⟩
  refine lv_aload_n hx hb dX3_init_87 rfl (lv_at hl 0 rfl) ?_
  refine lv_iload_n hx hb dX3_init_88 rfl (lv_at hl 2 rfl) ?_
  refine lv_if_eq (tgt := 96) hx hb dX3_init_89 (by decide) (fun z => absurd z (by decide)) (fun _ => ?_)
  refine lv_iconst (v := 0) hx hb dX3_init_92 (by decide) ?_
  refine lv_goto (tgt := 98) hx hb dX3_init_93 (by decide) ?_
  refine ynewI hx hb (hts _ wm3) hA hK htys hw hS (N := 0) (by decide) (by decide) (by decide) (Nat.le_of_ble_eq_true rfl) (Nat.le_of_ble_eq_true rfl) dX3_init_98 (fun q4 H hw hS => ?_)
  rw [List.append_assoc] at hw
  have hw : yP G (X.set k (yO a 4 [.int x, .int 1, .int y, .ref q1, .ref q3, .null, .null, .ref q2, .null, .int 0, .int 0, .int 0, .int 0, .int 0]) ++ ((((yO q1 0 [.int 0, .ref (G.2.2.2.1.1 0), .int 0] :: []) ++ (yO q2 2 [.int 0, .int 0, .int 0, .int 0, .int 0] :: [])) ++ [yA q3 (G.1 0) 20 (fun _ => 0)]) ++ [yA q4 (G.1 0) 0 (fun _ => 0)])) H := hw
  refine va_putF (D := G.2.1) (ci := 4) (C := RX3) (T := TX3) (N := 14) hx hb hts inF_X3 tyX3 tyX3_ok nmX3 hown hK hw.1 hw.2 hS k (y_at0 hk) rfl 5 (by decide) (hts _ wm78) (fun _ h9 => h9) rfl hin rfl (ty := .array .int) (v := .ref q4) (by decide +kernel) rfl rfl (Nat.le_of_ble_eq_true rfl) dX3_init_100 (fun H locs hP hD hS => ?_)
  rw [y_set0 hk] at hP hD
  have hw : yP G (X.set k (yO a 4 [.int x, .int 1, .int y, .ref q1, .ref q3, .ref q4, .null, .ref q2, .null, .int 0, .int 0, .int 0, .int 0, .int 0]) ++ ((((yO q1 0 [.int 0, .ref (G.2.2.2.1.1 0), .int 0] :: []) ++ (yO q2 2 [.int 0, .int 0, .int 0, .int 0, .int 0] :: [])) ++ [yA q3 (G.1 0) 20 (fun _ => 0)]) ++ [yA q4 (G.1 0) 0 (fun _ => 0)])) H := ⟨hP, hD⟩
  refine lv_iconst (v := 0) hx hb dX3_init_103 (by decide) ?_
  refine lv_istore (lv' := [(4, .int 0), (0, .ref a), (1, .int x), (2, .int 1), (3, .int y)]) hx hb dX3_init_104 hl (by decide) rfl (fun ls hl => ?_)
  refine lv_iload hx hb dX3_init_106 (lv_at hl 0 rfl) ?_
  refine lv_aload_n hx hb dX3_init_108 rfl (lv_at hl 1 rfl) ?_
  refine va_get (D := G.2.1) (ci := 4) (C := RX3) (T := TX3) (N := 14) hx hb hts inF_X3 hown hK hw.1 k (y_at0 hk) rfl 5 (by decide) (hts _ wm78) (fun _ h9 => h9) rfl dX3_init_109 ?_
  refine va_alen (D := G.2.1) (v := 0) hx hb hK hw.1 (X.set k (yO a 4 [.int x, .int 1, .int y, .ref q1, .ref q3, .ref q4, .null, .ref q2, .null, .int 0, .int 0, .int 0, .int 0, .int 0]) ++ (((yO q1 0 [.int 0, .ref (G.2.2.2.1.1 0), .int 0] :: []) ++ (yO q2 2 [.int 0, .int 0, .int 0, .int 0, .int 0] :: [])) ++ [yA q3 (G.1 0) 20 (fun _ => 0)])).length 0 (y_at2 _) (by rw [htys]; rfl) rfl dX3_init_112 ?_
  refine lv_icmp_ge (tgt := 132) hx hb dX3_init_113 (by decide) (fun _ => ?_) (fun z => absurd z (by decide))
  refine lv_aload_n hx hb dX3_init_132 rfl (lv_at hl 1 rfl) ?_
  refine va_new (D := G.2.1) (ci := 3) (fs := [.int 0, .null, .int 0, .int 0, .int 0, .int 0, .int 0, .int 0, .int 0, .int 0, .int 0, .int 0, .int 0, .int 0, .null, .null]) (C := RX2) (T := TX2) (N := 16) hx hb hts inF_X2 tyX2 tyX2_ok hown (hts _ wm79) (hts _ wm80) (hts _ wm81) hK hw.1 hw.2 hS hA.1 rfl (fun j hj => by rcases (show j = 0 ∨ j = 1 ∨ j = 2 ∨ j = 3 ∨ j = 4 ∨ j = 5 ∨ j = 6 ∨ j = 7 ∨ j = 8 ∨ j = 9 ∨ j = 10 ∨ j = 11 ∨ j = 12 ∨ j = 13 ∨ j = 14 ∨ j = 15 by omega) with rfl | rfl | rfl | rfl | rfl | rfl | rfl | rfl | rfl | rfl | rfl | rfl | rfl | rfl | rfl | rfl <;> rfl) (Nat.le_of_ble_eq_true rfl) (Nat.le_of_ble_eq_true rfl) dX3_init_133 (fun q5 H hP hD hS => ?_)
  have hw : yP G ((X.set k (yO a 4 [.int x, .int 1, .int y, .ref q1, .ref q3, .ref q4, .null, .ref q2, .null, .int 0, .int 0, .int 0, .int 0, .int 0]) ++ ((((yO q1 0 [.int 0, .ref (G.2.2.2.1.1 0), .int 0] :: []) ++ (yO q2 2 [.int 0, .int 0, .int 0, .int 0, .int 0] :: [])) ++ [yA q3 (G.1 0) 20 (fun _ => 0)]) ++ [yA q4 (G.1 0) 0 (fun _ => 0)])) ++ [yO q5 3 [.int 0, .null, .int 0, .int 0, .int 0, .int 0, .int 0, .int 0, .int 0, .int 0, .int 0, .int 0, .int 0, .int 0, .null, .null]]) H := ⟨hP, hD⟩
  refine lv_dup hx hb dX3_init_136 rfl ?_
  refine lv_iload_n hx hb dX3_init_137 rfl (lv_at hl 3 rfl) ?_
  refine lv_if_eq (tgt := 146) hx hb dX3_init_138 (by decide) (fun z => absurd z (by decide)) (fun _ => ?_)
  refine lv_bipush (v := 20) hx hb dX3_init_141 (by decide) ?_
  refine lv_goto (tgt := 147) hx hb dX3_init_143 (by decide) ?_
  refine ycallv (va_runI (As := [.int 20]) (rest := [.ref q5, .ref a]) ⟨hx, hb, hml, hown, hts⟩ (c_X2_init20 (l := l) (G := G) (tys := tys) htys (X := ((X.set k (yO a 4 [.int x, .int 1, .int y, .ref q1, .ref q3, .ref q4, .null, .ref q2, .null, .int 0, .int 0, .int 0, .int 0, .int 0]) ++ ((((yO q1 0 [.int 0, .ref (G.2.2.2.1.1 0), .int 0] :: []) ++ (yO q2 2 [.int 0, .int 0, .int 0, .int 0, .int 0] :: [])) ++ [yA q3 (G.1 0) 20 (fun _ => 0)]) ++ [yA q4 (G.1 0) 0 (fun _ => 0)])) ++ [yO q5 3 [.int 0, .null, .int 0, .int 0, .int 0, .int 0, .int 0, .int 0, .int 0, .int 0, .int 0, .int 0, .int 0, .int 0, .null, .null]])) (k := (X.set k (yO a 4 [.int x, .int 1, .int y, .ref q1, .ref q3, .ref q4, .null, .ref q2, .null, .int 0, .int 0, .int 0, .int 0, .int 0]) ++ ((((yO q1 0 [.int 0, .ref (G.2.2.2.1.1 0), .int 0] :: []) ++ (yO q2 2 [.int 0, .int 0, .int 0, .int 0, .int 0] :: [])) ++ [yA q3 (G.1 0) 20 (fun _ => 0)]) ++ [yA q4 (G.1 0) 0 (fun _ => 0)])).length) (a := q5)  y_last) (cwI 1 hts (gNA wm94) rfl rfl rfl (hts _ wm81) (hts _ wm92) (hts _ wm93) rfl (by decide +kernel) ⟨Nat.le_of_ble_eq_true rfl, Nat.le_of_ble_eq_true rfl⟩) (y_pre hA hS hw hK _) rfl rfl hl.1 rfl (lv_room (Nat.le_of_ble_eq_true rfl)) dX3_init_147 ⟨Nat.le_of_ble_eq_true rfl, Nat.le_of_ble_eq_true rfl⟩) hS (fun X1 H locs hp hw hS => ?_)
  obtain ⟨q6, q7, rfl⟩ := hp
  rw [y_back, List.append_assoc] at hw
  have hw : yP G (X.set k (yO a 4 [.int x, .int 1, .int y, .ref q1, .ref q3, .ref q4, .null, .ref q2, .null, .int 0, .int 0, .int 0, .int 0, .int 0]) ++ (((((yO q1 0 [.int 0, .ref (G.2.2.2.1.1 0), .int 0] :: []) ++ (yO q2 2 [.int 0, .int 0, .int 0, .int 0, .int 0] :: [])) ++ [yA q3 (G.1 0) 20 (fun _ => 0)]) ++ [yA q4 (G.1 0) 0 (fun _ => 0)]) ++ (yO q5 3 [.int 0, .null, .int 0, .int 0, .int 0, .int 0, .int 0, .int 0, .int 0, .int 0, .int 0, .int 0, .int 0, .int 0, .ref q6, .ref q7] :: ([yA q6 (G.1 0) 20 (fun _ => 0)] ++ [yA q7 (G.1 0) 20 (fun _ => 0)])))) H := hw
  refine va_putF (D := G.2.1) (ci := 4) (C := RX3) (T := TX3) (N := 14) hx hb hts inF_X3 tyX3 tyX3_ok nmX3 hown hK hw.1 hw.2 hS k (y_at0 hk) rfl 6 (by decide) (hts _ wm82) (fun _ h9 => h9) rfl hin rfl (ty := .object "PinnaceView$Layout") (v := .ref q5) (by decide +kernel) rfl rfl (Nat.le_of_ble_eq_true rfl) dX3_init_150 (fun H locs hP hD hS => ?_)
  rw [y_set0 hk] at hP hD
  have hw : yP G (X.set k (yO a 4 [.int x, .int 1, .int y, .ref q1, .ref q3, .ref q4, .ref q5, .ref q2, .null, .int 0, .int 0, .int 0, .int 0, .int 0]) ++ (((((yO q1 0 [.int 0, .ref (G.2.2.2.1.1 0), .int 0] :: []) ++ (yO q2 2 [.int 0, .int 0, .int 0, .int 0, .int 0] :: [])) ++ [yA q3 (G.1 0) 20 (fun _ => 0)]) ++ [yA q4 (G.1 0) 0 (fun _ => 0)]) ++ (yO q5 3 [.int 0, .null, .int 0, .int 0, .int 0, .int 0, .int 0, .int 0, .int 0, .int 0, .int 0, .int 0, .int 0, .int 0, .ref q6, .ref q7] :: ([yA q6 (G.1 0) 20 (fun _ => 0)] ++ [yA q7 (G.1 0) 20 (fun _ => 0)])))) H := ⟨hP, hD⟩
  exact yev hx hb hr hlocks hA hw hK hS ⟨q1, q2, q3, q4, q5, q6, q7, rfl⟩ dX3_init_153
