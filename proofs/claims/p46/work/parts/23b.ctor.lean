set_option maxHeartbeats 4000000 in
set_option maxRecDepth 100000 in
theorem c_X5_init {l : Launch} {G : PvG} {tys : List (ClassId × FieldType)} (htys : tys = pvT G) {X : va_W} {k a : Nat} {x y z : Int32} (hX : X[k]? = some (yO a 6 [.int 0, .int 0, .int 0, .null, .null, .null, .null, .int 0, .int 0, .int 0])) (hz : is01 z) : Met l yX5_init (Cond.code yX5_init cX5_init 4 none :: WA) ({ frames := 1, cells := 4, slots := 12, locals := 12 }) (va_Pc [.ref a, .int x, .int y, .int z] (pvY G tys X)) (va_Qv (fun X' : va_W => ∃ (q1 : Nat) (q2 : Nat) (q3 : Nat) (q4 : Nat), X' = X.set k (yO a 6 [.int x, .int y, .int z, .ref q1, .ref q2, .ref q3, .ref q4, .int 0, .int 0, .int 1]) ++ ((([yA q1 (G.1 0) 3 (fun _ => 0)] ++ [yA q2 (G.1 0) 3 (fun _ => 0)]) ++ [yA q3 (G.1 0) 3 (fun _ => 0)]) ++ [yA q4 (G.1 1) 3 (fun _ => 0)])) (pvY G tys) (pvB G)) 4 12 (pvB G) := by
  refine Met.ofW (cc := cX5_init) (maxL := 4) (ret := none) (by decide) rfl ?_
  intro p e s m args below meth c s₁ B hml hv
  obtain ⟨rfl, hw, hK, hA⟩ := hv
  have hx := B.exec
  have hb := B.bytes
  have hr := B.returns
  have hts0 := atoms_spec (ws := (Cond.code yX5_init cX5_init 4 none :: WA)) B.pre
  have hts : ∀ w ∈ WA, w.before _ s = true := fun w h => hts0 w (List.mem_cons_of_mem _ h)
  have hown : s.vm.findClass RX5 = some m.cls := findClass_of_methodNamed B.named
  have hlocks := B.notSynchronized
  have hin : meth.name = "<init>" := (name_of_methodNamed B.named B.method).1
  have hS : va_S (pvB G) s.heap s.heap [] := va_S.rf
  have hk := y_lt hX
  rw [y_start hX] at hw
  have hl := lv_entry ([.ref a, .int x, .int y, .int z]) (n := 4) (Nat.le_of_ble_eq_true rfl)
  rw [lg_entry_eq]
  generalize (lg_sl ([.ref a, .int x, .int y, .int z]) ++ List.replicate (4 - (lg_sl ([.ref a, .int x, .int y, .int z])).length) Slot.unset).toArray = ls at hl ⊢
  have hl : lv_has ls 4 [(0, .ref a), (1, .int x), (2, .int y), (3, .int z)] := hl
  refine lv_aload_n hx hb dX5_init_0 rfl (lv_at hl 0 rfl) ?_
  refine yobj hx hb (hml.trans hl.1.symm) hown (hts _ wm363) (hts _ wm8) (hts _ wm9) dX5_init_1 (Nat.le_of_ble_eq_true rfl) (Nat.le_of_ble_eq_true rfl) ?_
  refine lv_aload_n hx hb dX5_init_4 rfl (lv_at hl 0 rfl) ?_
  refine lv_iconst (v := 3) hx hb dX5_init_5 (by decide) ?_
  refine ynewI hx hb (hts _ wm3) hA hK htys hw hS (N := 3) (by decide) (by decide) (by decide) (Nat.le_of_ble_eq_true rfl) (Nat.le_of_ble_eq_true rfl) dX5_init_6 (fun q1 H hw hS => ?_)
  rw [List.append_assoc] at hw
  have hw : yP G (X.set k (yO a 6 [.int 0, .int 0, .int 0, .null, .null, .null, .null, .int 0, .int 0, .int 0]) ++ [yA q1 (G.1 0) 3 (fun _ => 0)]) H := hw
  refine va_putF (D := G.2.1) (ci := 6) (C := RX5) (T := TX5) (N := 10) hx hb hts inF_X5 tyX5 tyX5_ok nmX5 hown hK hw.1 hw.2 hS k (y_at0 hk) rfl 3 (by decide) (hts _ wm364) (fun _ h9 => h9) rfl hin rfl (ty := .array .int) (v := .ref q1) (by decide +kernel) rfl rfl (Nat.le_of_ble_eq_true rfl) dX5_init_8 (fun H locs hP hD hS => ?_)
  rw [y_set0 hk] at hP hD
  have hw : yP G (X.set k (yO a 6 [.int 0, .int 0, .int 0, .ref q1, .null, .null, .null, .int 0, .int 0, .int 0]) ++ [yA q1 (G.1 0) 3 (fun _ => 0)]) H := ⟨hP, hD⟩
  refine lv_aload_n hx hb dX5_init_11 rfl (lv_at hl 0 rfl) ?_
  refine lv_iconst (v := 3) hx hb dX5_init_12 (by decide) ?_
  refine ynewI hx hb (hts _ wm3) hA hK htys hw hS (N := 3) (by decide) (by decide) (by decide) (Nat.le_of_ble_eq_true rfl) (Nat.le_of_ble_eq_true rfl) dX5_init_13 (fun q2 H hw hS => ?_)
  rw [List.append_assoc] at hw
  have hw : yP G (X.set k (yO a 6 [.int 0, .int 0, .int 0, .ref q1, .null, .null, .null, .int 0, .int 0, .int 0]) ++ ([yA q1 (G.1 0) 3 (fun _ => 0)] ++ [yA q2 (G.1 0) 3 (fun _ => 0)])) H := hw
  refine va_putF (D := G.2.1) (ci := 6) (C := RX5) (T := TX5) (N := 10) hx hb hts inF_X5 tyX5 tyX5_ok nmX5 hown hK hw.1 hw.2 hS k (y_at0 hk) rfl 4 (by decide) (hts _ wm365) (fun _ h9 => h9) rfl hin rfl (ty := .array .int) (v := .ref q2) (by decide +kernel) rfl rfl (Nat.le_of_ble_eq_true rfl) dX5_init_15 (fun H locs hP hD hS => ?_)
  rw [y_set0 hk] at hP hD
  have hw : yP G (X.set k (yO a 6 [.int 0, .int 0, .int 0, .ref q1, .ref q2, .null, .null, .int 0, .int 0, .int 0]) ++ ([yA q1 (G.1 0) 3 (fun _ => 0)] ++ [yA q2 (G.1 0) 3 (fun _ => 0)])) H := ⟨hP, hD⟩
  refine lv_aload_n hx hb dX5_init_18 rfl (lv_at hl 0 rfl) ?_
  refine lv_iconst (v := 3) hx hb dX5_init_19 (by decide) ?_
  refine ynewI hx hb (hts _ wm3) hA hK htys hw hS (N := 3) (by decide) (by decide) (by decide) (Nat.le_of_ble_eq_true rfl) (Nat.le_of_ble_eq_true rfl) dX5_init_20 (fun q3 H hw hS => ?_)
  rw [List.append_assoc] at hw
  have hw : yP G (X.set k (yO a 6 [.int 0, .int 0, .int 0, .ref q1, .ref q2, .null, .null, .int 0, .int 0, .int 0]) ++ (([yA q1 (G.1 0) 3 (fun _ => 0)] ++ [yA q2 (G.1 0) 3 (fun _ => 0)]) ++ [yA q3 (G.1 0) 3 (fun _ => 0)])) H := hw
  refine va_putF (D := G.2.1) (ci := 6) (C := RX5) (T := TX5) (N := 10) hx hb hts inF_X5 tyX5 tyX5_ok nmX5 hown hK hw.1 hw.2 hS k (y_at0 hk) rfl 5 (by decide) (hts _ wm366) (fun _ h9 => h9) rfl hin rfl (ty := .array .int) (v := .ref q3) (by decide +kernel) rfl rfl (Nat.le_of_ble_eq_true rfl) dX5_init_22 (fun H locs hP hD hS => ?_)
  rw [y_set0 hk] at hP hD
  have hw : yP G (X.set k (yO a 6 [.int 0, .int 0, .int 0, .ref q1, .ref q2, .ref q3, .null, .int 0, .int 0, .int 0]) ++ (([yA q1 (G.1 0) 3 (fun _ => 0)] ++ [yA q2 (G.1 0) 3 (fun _ => 0)]) ++ [yA q3 (G.1 0) 3 (fun _ => 0)])) H := ⟨hP, hD⟩
  refine lv_aload_n hx hb dX5_init_25 rfl (lv_at hl 0 rfl) ?_
  refine lv_iconst (v := 3) hx hb dX5_init_26 (by decide) ?_
  refine ynewZ hx hb (hts _ wm367) hA hK htys hw hS (N := 3) (by decide) (by decide) (by decide) (Nat.le_of_ble_eq_true rfl) (Nat.le_of_ble_eq_true rfl) dX5_init_27 (fun q4 H hw hS => ?_)
  rw [List.append_assoc] at hw
  have hw : yP G (X.set k (yO a 6 [.int 0, .int 0, .int 0, .ref q1, .ref q2, .ref q3, .null, .int 0, .int 0, .int 0]) ++ ((([yA q1 (G.1 0) 3 (fun _ => 0)] ++ [yA q2 (G.1 0) 3 (fun _ => 0)]) ++ [yA q3 (G.1 0) 3 (fun _ => 0)]) ++ [yA q4 (G.1 1) 3 (fun _ => 0)])) H := hw
  refine va_putF (D := G.2.1) (ci := 6) (C := RX5) (T := TX5) (N := 10) hx hb hts inF_X5 tyX5 tyX5_ok nmX5 hown hK hw.1 hw.2 hS k (y_at0 hk) rfl 6 (by decide) (hts _ wm368) (fun _ h9 => h9) rfl hin rfl (ty := .array .boolean) (v := .ref q4) (by decide +kernel) rfl rfl (Nat.le_of_ble_eq_true rfl) dX5_init_29 (fun H locs hP hD hS => ?_)
  rw [y_set0 hk] at hP hD
  have hw : yP G (X.set k (yO a 6 [.int 0, .int 0, .int 0, .ref q1, .ref q2, .ref q3, .ref q4, .int 0, .int 0, .int 0]) ++ ((([yA q1 (G.1 0) 3 (fun _ => 0)] ++ [yA q2 (G.1 0) 3 (fun _ => 0)]) ++ [yA q3 (G.1 0) 3 (fun _ => 0)]) ++ [yA q4 (G.1 1) 3 (fun _ => 0)])) H := ⟨hP, hD⟩
  refine lv_aload_n hx hb dX5_init_32 rfl (lv_at hl 0 rfl) ?_
  refine lv_iconst (v := 0) hx hb dX5_init_33 (by decide) ?_
  refine va_put (D := G.2.1) (ci := 6) (C := RX5) (T := TX5) (N := 10) hx hb hts inF_X5 tyX5 tyX5_ok nmX5 hown hK hw.1 hw.2 hS k (y_at0 hk) rfl 7 (by decide) (hts _ wm369) (fun _ h9 => h9) rfl (ty := .int) (v := .int 0) (by decide +kernel) rfl rfl (Nat.le_of_ble_eq_true rfl) dX5_init_34 (fun H locs hP hD hS => ?_)
  rw [y_set0 hk] at hP hD
  have hw : yP G (X.set k (yO a 6 [.int 0, .int 0, .int 0, .ref q1, .ref q2, .ref q3, .ref q4, .int 0, .int 0, .int 0]) ++ ((([yA q1 (G.1 0) 3 (fun _ => 0)] ++ [yA q2 (G.1 0) 3 (fun _ => 0)]) ++ [yA q3 (G.1 0) 3 (fun _ => 0)]) ++ [yA q4 (G.1 1) 3 (fun _ => 0)])) H := ⟨hP, hD⟩
  refine lv_aload_n hx hb dX5_init_37 rfl (lv_at hl 0 rfl) ?_
  refine lv_iconst (v := 0) hx hb dX5_init_38 (by decide) ?_
  refine va_put (D := G.2.1) (ci := 6) (C := RX5) (T := TX5) (N := 10) hx hb hts inF_X5 tyX5 tyX5_ok nmX5 hown hK hw.1 hw.2 hS k (y_at0 hk) rfl 8 (by decide) (hts _ wm370) (fun _ h9 => h9) rfl (ty := .int) (v := .int 0) (by decide +kernel) rfl rfl (Nat.le_of_ble_eq_true rfl) dX5_init_39 (fun H locs hP hD hS => ?_)
  rw [y_set0 hk] at hP hD
  have hw : yP G (X.set k (yO a 6 [.int 0, .int 0, .int 0, .ref q1, .ref q2, .ref q3, .ref q4, .int 0, .int 0, .int 0]) ++ ((([yA q1 (G.1 0) 3 (fun _ => 0)] ++ [yA q2 (G.1 0) 3 (fun _ => 0)]) ++ [yA q3 (G.1 0) 3 (fun _ => 0)]) ++ [yA q4 (G.1 1) 3 (fun _ => 0)])) H := ⟨hP, hD⟩
  refine lv_aload_n hx hb dX5_init_42 rfl (lv_at hl 0 rfl) ?_
  refine lv_iconst (v := 1) hx hb dX5_init_43 (by decide) ?_
  refine va_put (D := G.2.1) (ci := 6) (C := RX5) (T := TX5) (N := 10) hx hb hts inF_X5 tyX5 tyX5_ok nmX5 hown hK hw.1 hw.2 hS k (y_at0 hk) rfl 9 (by decide) (hts _ wm371) (fun _ h9 => h9) rfl (ty := .boolean) (v := .int 1) (by decide +kernel) rfl rfl (Nat.le_of_ble_eq_true rfl) dX5_init_44 (fun H locs hP hD hS => ?_)
  rw [y_set0 hk] at hP hD
  have hw : yP G (X.set k (yO a 6 [.int 0, .int 0, .int 0, .ref q1, .ref q2, .ref q3, .ref q4, .int 0, .int 0, .int 1]) ++ ((([yA q1 (G.1 0) 3 (fun _ => 0)] ++ [yA q2 (G.1 0) 3 (fun _ => 0)]) ++ [yA q3 (G.1 0) 3 (fun _ => 0)]) ++ [yA q4 (G.1 1) 3 (fun _ => 0)])) H := ⟨hP, hD⟩
  refine lv_aload_n hx hb dX5_init_47 rfl (lv_at hl 0 rfl) ?_
  refine lv_iload_n hx hb dX5_init_48 rfl (lv_at hl 1 rfl) ?_
  refine va_putF (D := G.2.1) (ci := 6) (C := RX5) (T := TX5) (N := 10) hx hb hts inF_X5 tyX5 tyX5_ok nmX5 hown hK hw.1 hw.2 hS k (y_at0 hk) rfl 0 (by decide) (hts _ wm372) (fun _ h9 => h9) rfl hin rfl (ty := .int) (v := .int x) (by decide +kernel) rfl rfl (Nat.le_of_ble_eq_true rfl) dX5_init_49 (fun H locs hP hD hS => ?_)
  rw [y_set0 hk] at hP hD
  have hw : yP G (X.set k (yO a 6 [.int x, .int 0, .int 0, .ref q1, .ref q2, .ref q3, .ref q4, .int 0, .int 0, .int 1]) ++ ((([yA q1 (G.1 0) 3 (fun _ => 0)] ++ [yA q2 (G.1 0) 3 (fun _ => 0)]) ++ [yA q3 (G.1 0) 3 (fun _ => 0)]) ++ [yA q4 (G.1 1) 3 (fun _ => 0)])) H := ⟨hP, hD⟩
  refine lv_aload_n hx hb dX5_init_52 rfl (lv_at hl 0 rfl) ?_
  refine lv_iload_n hx hb dX5_init_53 rfl (lv_at hl 2 rfl) ?_
  refine va_putF (D := G.2.1) (ci := 6) (C := RX5) (T := TX5) (N := 10) hx hb hts inF_X5 tyX5 tyX5_ok nmX5 hown hK hw.1 hw.2 hS k (y_at0 hk) rfl 1 (by decide) (hts _ wm373) (fun _ h9 => h9) rfl hin rfl (ty := .int) (v := .int y) (by decide +kernel) rfl rfl (Nat.le_of_ble_eq_true rfl) dX5_init_54 (fun H locs hP hD hS => ?_)
  rw [y_set0 hk] at hP hD
  have hw : yP G (X.set k (yO a 6 [.int x, .int y, .int 0, .ref q1, .ref q2, .ref q3, .ref q4, .int 0, .int 0, .int 1]) ++ ((([yA q1 (G.1 0) 3 (fun _ => 0)] ++ [yA q2 (G.1 0) 3 (fun _ => 0)]) ++ [yA q3 (G.1 0) 3 (fun _ => 0)]) ++ [yA q4 (G.1 1) 3 (fun _ => 0)])) H := ⟨hP, hD⟩
  refine lv_aload_n hx hb dX5_init_57 rfl (lv_at hl 0 rfl) ?_
  refine lv_iload_n hx hb dX5_init_58 rfl (lv_at hl 3 rfl) ?_
  refine va_putF (D := G.2.1) (ci := 6) (C := RX5) (T := TX5) (N := 10) hx hb hts inF_X5 tyX5 tyX5_ok nmX5 hown hK hw.1 hw.2 hS k (y_at0 hk) rfl 2 (by decide) (hts _ wm374) (fun _ h9 => h9) rfl hin rfl (ty := .boolean) (v := .int z) (by decide +kernel) (is01_nar hz) (is01_fit hz) (Nat.le_of_ble_eq_true rfl) dX5_init_59 (fun H locs hP hD hS => ?_)
  rw [y_set0 hk] at hP hD
  have hw : yP G (X.set k (yO a 6 [.int x, .int y, .int z, .ref q1, .ref q2, .ref q3, .ref q4, .int 0, .int 0, .int 1]) ++ ((([yA q1 (G.1 0) 3 (fun _ => 0)] ++ [yA q2 (G.1 0) 3 (fun _ => 0)]) ++ [yA q3 (G.1 0) 3 (fun _ => 0)]) ++ [yA q4 (G.1 1) 3 (fun _ => 0)])) H := ⟨hP, hD⟩
  exact yev hx hb hr hlocks hA hw hK hS ⟨q1, q2, q3, q4, rfl⟩ dX5_init_62
set_option maxHeartbeats 4000000 in
set_option maxRecDepth 100000 in
theorem c_X0_init {l : Launch} {G : PvG} {tys : List (ClassId × FieldType)} (htys : tys = pvT G) {X : va_W} {k a : Nat}  (hX : X[k]? = some (yO a 1 [.null, .null, .null, .null, .null, .null, .int 0, .int 0, .int 0, .int 0]))  : Met l yX0_init (Cond.code yX0_init cX0_init 1 none :: WA) ({ frames := 1, cells := 6, slots := 240, locals := 12 }) (va_Pc [.ref a] (pvY G tys X)) (va_Qv (fun X' : va_W => ∃ (q1 : Nat) (q2 : Nat) (q3 : Nat) (q4 : Nat) (q5 : Nat) (q6 : Nat), X' = X.set k (yO a 1 [.ref q1, .ref q2, .ref q3, .ref q4, .ref q5, .ref q6, .int 0, .int 0, .int 0, .int 0]) ++ ((((([yA q1 (G.1 0) 40 (fun _ => 0)] ++ [yA q2 (G.1 0) 40 (fun _ => 0)]) ++ [yA q3 (G.1 0) 40 (fun _ => 0)]) ++ [yA q4 (G.1 0) 40 (fun _ => 0)]) ++ [yA q5 (G.1 0) 40 (fun _ => 0)]) ++ [yA q6 (G.1 0) 40 (fun _ => 0)])) (pvY G tys) (pvB G)) 6 240 (pvB G) := by
  refine Met.ofW (cc := cX0_init) (maxL := 1) (ret := none) (by decide) rfl ?_
  intro p e s m args below meth c s₁ B hml hv
  obtain ⟨rfl, hw, hK, hA⟩ := hv
  have hx := B.exec
  have hb := B.bytes
  have hr := B.returns
  have hts0 := atoms_spec (ws := (Cond.code yX0_init cX0_init 1 none :: WA)) B.pre
  have hts : ∀ w ∈ WA, w.before _ s = true := fun w h => hts0 w (List.mem_cons_of_mem _ h)
  have hown : s.vm.findClass RX0 = some m.cls := findClass_of_methodNamed B.named
  have hlocks := B.notSynchronized
  have hin : meth.name = "<init>" := (name_of_methodNamed B.named B.method).1
  have hS : va_S (pvB G) s.heap s.heap [] := va_S.rf
  have hk := y_lt hX
  rw [y_start hX] at hw
  have hl := lv_entry ([.ref a]) (n := 1) (Nat.le_of_ble_eq_true rfl)
  rw [lg_entry_eq]
  generalize (lg_sl ([.ref a]) ++ List.replicate (1 - (lg_sl ([.ref a])).length) Slot.unset).toArray = ls at hl ⊢
  have hl : lv_has ls 1 [(0, .ref a)] := hl
  refine lv_aload_n hx hb dX0_init_0 rfl (lv_at hl 0 rfl) ?_
  refine yobj hx hb (hml.trans hl.1.symm) hown (hts _ wm192) (hts _ wm8) (hts _ wm9) dX0_init_1 (Nat.le_of_ble_eq_true rfl) (Nat.le_of_ble_eq_true rfl) ?_
  refine lv_aload_n hx hb dX0_init_4 rfl (lv_at hl 0 rfl) ?_
  refine lv_bipush (v := 40) hx hb dX0_init_5 (by decide) ?_
  refine ynewI hx hb (hts _ wm3) hA hK htys hw hS (N := 40) (by decide) (by decide) (by decide) (Nat.le_of_ble_eq_true rfl) (Nat.le_of_ble_eq_true rfl) dX0_init_7 (fun q1 H hw hS => ?_)
  rw [List.append_assoc] at hw
  have hw : yP G (X.set k (yO a 1 [.null, .null, .null, .null, .null, .null, .int 0, .int 0, .int 0, .int 0]) ++ [yA q1 (G.1 0) 40 (fun _ => 0)]) H := hw
  refine va_putF (D := G.2.1) (ci := 1) (C := RX0) (T := TX0) (N := 10) hx hb hts inF_X0 tyX0 tyX0_ok nmX0 hown hK hw.1 hw.2 hS k (y_at0 hk) rfl 0 (by decide) (hts _ wm193) (fun _ h9 => h9) rfl hin rfl (ty := .array .int) (v := .ref q1) (by decide +kernel) rfl rfl (Nat.le_of_ble_eq_true rfl) dX0_init_9 (fun H locs hP hD hS => ?_)
  rw [y_set0 hk] at hP hD
  have hw : yP G (X.set k (yO a 1 [.ref q1, .null, .null, .null, .null, .null, .int 0, .int 0, .int 0, .int 0]) ++ [yA q1 (G.1 0) 40 (fun _ => 0)]) H := ⟨hP, hD⟩
  refine lv_aload_n hx hb dX0_init_12 rfl (lv_at hl 0 rfl) ?_
  refine lv_bipush (v := 40) hx hb dX0_init_13 (by decide) ?_
  refine ynewI hx hb (hts _ wm3) hA hK htys hw hS (N := 40) (by decide) (by decide) (by decide) (Nat.le_of_ble_eq_true rfl) (Nat.le_of_ble_eq_true rfl) dX0_init_15 (fun q2 H hw hS => ?_)
  rw [List.append_assoc] at hw
  have hw : yP G (X.set k (yO a 1 [.ref q1, .null, .null, .null, .null, .null, .int 0, .int 0, .int 0, .int 0]) ++ ([yA q1 (G.1 0) 40 (fun _ => 0)] ++ [yA q2 (G.1 0) 40 (fun _ => 0)])) H := hw
  refine va_putF (D := G.2.1) (ci := 1) (C := RX0) (T := TX0) (N := 10) hx hb hts inF_X0 tyX0 tyX0_ok nmX0 hown hK hw.1 hw.2 hS k (y_at0 hk) rfl 1 (by decide) (hts _ wm194) (fun _ h9 => h9) rfl hin rfl (ty := .array .int) (v := .ref q2) (by decide +kernel) rfl rfl (Nat.le_of_ble_eq_true rfl) dX0_init_17 (fun H locs hP hD hS => ?_)
  rw [y_set0 hk] at hP hD
  have hw : yP G (X.set k (yO a 1 [.ref q1, .ref q2, .null, .null, .null, .null, .int 0, .int 0, .int 0, .int 0]) ++ ([yA q1 (G.1 0) 40 (fun _ => 0)] ++ [yA q2 (G.1 0) 40 (fun _ => 0)])) H := ⟨hP, hD⟩
  refine lv_aload_n hx hb dX0_init_20 rfl (lv_at hl 0 rfl) ?_
  refine lv_bipush (v := 40) hx hb dX0_init_21 (by decide) ?_
  refine ynewI hx hb (hts _ wm3) hA hK htys hw hS (N := 40) (by decide) (by decide) (by decide) (Nat.le_of_ble_eq_true rfl) (Nat.le_of_ble_eq_true rfl) dX0_init_23 (fun q3 H hw hS => ?_)
  rw [List.append_assoc] at hw
  have hw : yP G (X.set k (yO a 1 [.ref q1, .ref q2, .null, .null, .null, .null, .int 0, .int 0, .int 0, .int 0]) ++ (([yA q1 (G.1 0) 40 (fun _ => 0)] ++ [yA q2 (G.1 0) 40 (fun _ => 0)]) ++ [yA q3 (G.1 0) 40 (fun _ => 0)])) H := hw
  refine va_putF (D := G.2.1) (ci := 1) (C := RX0) (T := TX0) (N := 10) hx hb hts inF_X0 tyX0 tyX0_ok nmX0 hown hK hw.1 hw.2 hS k (y_at0 hk) rfl 2 (by decide) (hts _ wm195) (fun _ h9 => h9) rfl hin rfl (ty := .array .int) (v := .ref q3) (by decide +kernel) rfl rfl (Nat.le_of_ble_eq_true rfl) dX0_init_25 (fun H locs hP hD hS => ?_)
  rw [y_set0 hk] at hP hD
  have hw : yP G (X.set k (yO a 1 [.ref q1, .ref q2, .ref q3, .null, .null, .null, .int 0, .int 0, .int 0, .int 0]) ++ (([yA q1 (G.1 0) 40 (fun _ => 0)] ++ [yA q2 (G.1 0) 40 (fun _ => 0)]) ++ [yA q3 (G.1 0) 40 (fun _ => 0)])) H := ⟨hP, hD⟩
  refine lv_aload_n hx hb dX0_init_28 rfl (lv_at hl 0 rfl) ?_
  refine lv_bipush (v := 40) hx hb dX0_init_29 (by decide) ?_
  refine ynewI hx hb (hts _ wm3) hA hK htys hw hS (N := 40) (by decide) (by decide) (by decide) (Nat.le_of_ble_eq_true rfl) (Nat.le_of_ble_eq_true rfl) dX0_init_31 (fun q4 H hw hS => ?_)
  rw [List.append_assoc] at hw
  have hw : yP G (X.set k (yO a 1 [.ref q1, .ref q2, .ref q3, .null, .null, .null, .int 0, .int 0, .int 0, .int 0]) ++ ((([yA q1 (G.1 0) 40 (fun _ => 0)] ++ [yA q2 (G.1 0) 40 (fun _ => 0)]) ++ [yA q3 (G.1 0) 40 (fun _ => 0)]) ++ [yA q4 (G.1 0) 40 (fun _ => 0)])) H := hw
  refine va_putF (D := G.2.1) (ci := 1) (C := RX0) (T := TX0) (N := 10) hx hb hts inF_X0 tyX0 tyX0_ok nmX0 hown hK hw.1 hw.2 hS k (y_at0 hk) rfl 3 (by decide) (hts _ wm196) (fun _ h9 => h9) rfl hin rfl (ty := .array .int) (v := .ref q4) (by decide +kernel) rfl rfl (Nat.le_of_ble_eq_true rfl) dX0_init_33 (fun H locs hP hD hS => ?_)
  rw [y_set0 hk] at hP hD
  have hw : yP G (X.set k (yO a 1 [.ref q1, .ref q2, .ref q3, .ref q4, .null, .null, .int 0, .int 0, .int 0, .int 0]) ++ ((([yA q1 (G.1 0) 40 (fun _ => 0)] ++ [yA q2 (G.1 0) 40 (fun _ => 0)]) ++ [yA q3 (G.1 0) 40 (fun _ => 0)]) ++ [yA q4 (G.1 0) 40 (fun _ => 0)])) H := ⟨hP, hD⟩
  refine lv_aload_n hx hb dX0_init_36 rfl (lv_at hl 0 rfl) ?_
  refine lv_bipush (v := 40) hx hb dX0_init_37 (by decide) ?_
  refine ynewI hx hb (hts _ wm3) hA hK htys hw hS (N := 40) (by decide) (by decide) (by decide) (Nat.le_of_ble_eq_true rfl) (Nat.le_of_ble_eq_true rfl) dX0_init_39 (fun q5 H hw hS => ?_)
  rw [List.append_assoc] at hw
  have hw : yP G (X.set k (yO a 1 [.ref q1, .ref q2, .ref q3, .ref q4, .null, .null, .int 0, .int 0, .int 0, .int 0]) ++ (((([yA q1 (G.1 0) 40 (fun _ => 0)] ++ [yA q2 (G.1 0) 40 (fun _ => 0)]) ++ [yA q3 (G.1 0) 40 (fun _ => 0)]) ++ [yA q4 (G.1 0) 40 (fun _ => 0)]) ++ [yA q5 (G.1 0) 40 (fun _ => 0)])) H := hw
  refine va_putF (D := G.2.1) (ci := 1) (C := RX0) (T := TX0) (N := 10) hx hb hts inF_X0 tyX0 tyX0_ok nmX0 hown hK hw.1 hw.2 hS k (y_at0 hk) rfl 4 (by decide) (hts _ wm197) (fun _ h9 => h9) rfl hin rfl (ty := .array .int) (v := .ref q5) (by decide +kernel) rfl rfl (Nat.le_of_ble_eq_true rfl) dX0_init_41 (fun H locs hP hD hS => ?_)
  rw [y_set0 hk] at hP hD
  have hw : yP G (X.set k (yO a 1 [.ref q1, .ref q2, .ref q3, .ref q4, .ref q5, .null, .int 0, .int 0, .int 0, .int 0]) ++ (((([yA q1 (G.1 0) 40 (fun _ => 0)] ++ [yA q2 (G.1 0) 40 (fun _ => 0)]) ++ [yA q3 (G.1 0) 40 (fun _ => 0)]) ++ [yA q4 (G.1 0) 40 (fun _ => 0)]) ++ [yA q5 (G.1 0) 40 (fun _ => 0)])) H := ⟨hP, hD⟩
  refine lv_aload_n hx hb dX0_init_44 rfl (lv_at hl 0 rfl) ?_
  refine lv_bipush (v := 40) hx hb dX0_init_45 (by decide) ?_
  refine ynewI hx hb (hts _ wm3) hA hK htys hw hS (N := 40) (by decide) (by decide) (by decide) (Nat.le_of_ble_eq_true rfl) (Nat.le_of_ble_eq_true rfl) dX0_init_47 (fun q6 H hw hS => ?_)
  rw [List.append_assoc] at hw
  have hw : yP G (X.set k (yO a 1 [.ref q1, .ref q2, .ref q3, .ref q4, .ref q5, .null, .int 0, .int 0, .int 0, .int 0]) ++ ((((([yA q1 (G.1 0) 40 (fun _ => 0)] ++ [yA q2 (G.1 0) 40 (fun _ => 0)]) ++ [yA q3 (G.1 0) 40 (fun _ => 0)]) ++ [yA q4 (G.1 0) 40 (fun _ => 0)]) ++ [yA q5 (G.1 0) 40 (fun _ => 0)]) ++ [yA q6 (G.1 0) 40 (fun _ => 0)])) H := hw
  refine va_putF (D := G.2.1) (ci := 1) (C := RX0) (T := TX0) (N := 10) hx hb hts inF_X0 tyX0 tyX0_ok nmX0 hown hK hw.1 hw.2 hS k (y_at0 hk) rfl 5 (by decide) (hts _ wm198) (fun _ h9 => h9) rfl hin rfl (ty := .array .int) (v := .ref q6) (by decide +kernel) rfl rfl (Nat.le_of_ble_eq_true rfl) dX0_init_49 (fun H locs hP hD hS => ?_)
  rw [y_set0 hk] at hP hD
  have hw : yP G (X.set k (yO a 1 [.ref q1, .ref q2, .ref q3, .ref q4, .ref q5, .ref q6, .int 0, .int 0, .int 0, .int 0]) ++ ((((([yA q1 (G.1 0) 40 (fun _ => 0)] ++ [yA q2 (G.1 0) 40 (fun _ => 0)]) ++ [yA q3 (G.1 0) 40 (fun _ => 0)]) ++ [yA q4 (G.1 0) 40 (fun _ => 0)]) ++ [yA q5 (G.1 0) 40 (fun _ => 0)]) ++ [yA q6 (G.1 0) 40 (fun _ => 0)])) H := ⟨hP, hD⟩
  refine lv_aload_n hx hb dX0_init_52 rfl (lv_at hl 0 rfl) ?_
  refine lv_iconst (v := 0) hx hb dX0_init_53 (by decide) ?_
  refine va_put (D := G.2.1) (ci := 1) (C := RX0) (T := TX0) (N := 10) hx hb hts inF_X0 tyX0 tyX0_ok nmX0 hown hK hw.1 hw.2 hS k (y_at0 hk) rfl 6 (by decide) (hts _ wm199) (fun _ h9 => h9) rfl (ty := .int) (v := .int 0) (by decide +kernel) rfl rfl (Nat.le_of_ble_eq_true rfl) dX0_init_54 (fun H locs hP hD hS => ?_)
  rw [y_set0 hk] at hP hD
  have hw : yP G (X.set k (yO a 1 [.ref q1, .ref q2, .ref q3, .ref q4, .ref q5, .ref q6, .int 0, .int 0, .int 0, .int 0]) ++ ((((([yA q1 (G.1 0) 40 (fun _ => 0)] ++ [yA q2 (G.1 0) 40 (fun _ => 0)]) ++ [yA q3 (G.1 0) 40 (fun _ => 0)]) ++ [yA q4 (G.1 0) 40 (fun _ => 0)]) ++ [yA q5 (G.1 0) 40 (fun _ => 0)]) ++ [yA q6 (G.1 0) 40 (fun _ => 0)])) H := ⟨hP, hD⟩
  refine lv_aload_n hx hb dX0_init_57 rfl (lv_at hl 0 rfl) ?_
  refine lv_iconst (v := 0) hx hb dX0_init_58 (by decide) ?_
  refine va_put (D := G.2.1) (ci := 1) (C := RX0) (T := TX0) (N := 10) hx hb hts inF_X0 tyX0 tyX0_ok nmX0 hown hK hw.1 hw.2 hS k (y_at0 hk) rfl 7 (by decide) (hts _ wm200) (fun _ h9 => h9) rfl (ty := .int) (v := .int 0) (by decide +kernel) rfl rfl (Nat.le_of_ble_eq_true rfl) dX0_init_59 (fun H locs hP hD hS => ?_)
  rw [y_set0 hk] at hP hD
  have hw : yP G (X.set k (yO a 1 [.ref q1, .ref q2, .ref q3, .ref q4, .ref q5, .ref q6, .int 0, .int 0, .int 0, .int 0]) ++ ((((([yA q1 (G.1 0) 40 (fun _ => 0)] ++ [yA q2 (G.1 0) 40 (fun _ => 0)]) ++ [yA q3 (G.1 0) 40 (fun _ => 0)]) ++ [yA q4 (G.1 0) 40 (fun _ => 0)]) ++ [yA q5 (G.1 0) 40 (fun _ => 0)]) ++ [yA q6 (G.1 0) 40 (fun _ => 0)])) H := ⟨hP, hD⟩
  refine lv_aload_n hx hb dX0_init_62 rfl (lv_at hl 0 rfl) ?_
  refine lv_iconst (v := 0) hx hb dX0_init_63 (by decide) ?_
  refine va_put (D := G.2.1) (ci := 1) (C := RX0) (T := TX0) (N := 10) hx hb hts inF_X0 tyX0 tyX0_ok nmX0 hown hK hw.1 hw.2 hS k (y_at0 hk) rfl 8 (by decide) (hts _ wm201) (fun _ h9 => h9) rfl (ty := .int) (v := .int 0) (by decide +kernel) rfl rfl (Nat.le_of_ble_eq_true rfl) dX0_init_64 (fun H locs hP hD hS => ?_)
  rw [y_set0 hk] at hP hD
  have hw : yP G (X.set k (yO a 1 [.ref q1, .ref q2, .ref q3, .ref q4, .ref q5, .ref q6, .int 0, .int 0, .int 0, .int 0]) ++ ((((([yA q1 (G.1 0) 40 (fun _ => 0)] ++ [yA q2 (G.1 0) 40 (fun _ => 0)]) ++ [yA q3 (G.1 0) 40 (fun _ => 0)]) ++ [yA q4 (G.1 0) 40 (fun _ => 0)]) ++ [yA q5 (G.1 0) 40 (fun _ => 0)]) ++ [yA q6 (G.1 0) 40 (fun _ => 0)])) H := ⟨hP, hD⟩
  refine lv_aload_n hx hb dX0_init_67 rfl (lv_at hl 0 rfl) ?_
  refine lv_iconst (v := 0) hx hb dX0_init_68 (by decide) ?_
  refine va_put (D := G.2.1) (ci := 1) (C := RX0) (T := TX0) (N := 10) hx hb hts inF_X0 tyX0 tyX0_ok nmX0 hown hK hw.1 hw.2 hS k (y_at0 hk) rfl 9 (by decide) (hts _ wm202) (fun _ h9 => h9) rfl (ty := .int) (v := .int 0) (by decide +kernel) rfl rfl (Nat.le_of_ble_eq_true rfl) dX0_init_69 (fun H locs hP hD hS => ?_)
  rw [y_set0 hk] at hP hD
  have hw : yP G (X.set k (yO a 1 [.ref q1, .ref q2, .ref q3, .ref q4, .ref q5, .ref q6, .int 0, .int 0, .int 0, .int 0]) ++ ((((([yA q1 (G.1 0) 40 (fun _ => 0)] ++ [yA q2 (G.1 0) 40 (fun _ => 0)]) ++ [yA q3 (G.1 0) 40 (fun _ => 0)]) ++ [yA q4 (G.1 0) 40 (fun _ => 0)]) ++ [yA q5 (G.1 0) 40 (fun _ => 0)]) ++ [yA q6 (G.1 0) 40 (fun _ => 0)])) H := ⟨hP, hD⟩
  exact yev hx hb hr hlocks hA hw hK hS ⟨q1, q2, q3, q4, q5, q6, rfl⟩ dX0_init_72
set_option maxHeartbeats 4000000 in
set_option maxRecDepth 100000 in
theorem c_X8_init {l : Launch} {G : PvG} {tys : List (ClassId × FieldType)} (htys : tys = pvT G) {X : va_W} {k a : Nat}  (hX : X[k]? = some (yO a 9 [.null, .null, .null, .null, .int 0, .int 0, .int 0]))  : Met l yX8_init (Cond.code yX8_init cX8_init 1 none :: WA) ({ frames := 1, cells := 4, slots := 3200, locals := 12 }) (va_Pc [.ref a] (fun U => pvY G tys X U ∧ pvN2 U)) (va_Qv (fun X' : va_W => ∃ (q1 : Nat) (q2 : Nat) (q3 : Nat) (q4 : Nat), X' = X.set k (yO a 9 [.ref q1, .ref q2, .ref q3, .ref q4, .int 0, .int 0, .int 0]) ++ ((([yQ q1 (G.1 2) 800] ++ [yA q2 (G.1 0) 800 (fun _ => 0)]) ++ [yA q3 (G.1 0) 800 (fun _ => 0)]) ++ [yA q4 (G.1 0) 800 (fun _ => 0)])) (pvY G tys) (pvB G)) 4 3200 (pvB G) := by
  refine Met.ofW (cc := cX8_init) (maxL := 1) (ret := none) (by decide) rfl ?_
  intro p e s m args below meth c s₁ B hml hv
  obtain ⟨rfl, ⟨hw, hK, hA⟩, hN⟩ := hv
  have hx := B.exec
  have hb := B.bytes
  have hr := B.returns
  have hts0 := atoms_spec (ws := (Cond.code yX8_init cX8_init 1 none :: WA)) B.pre
  have hts : ∀ w ∈ WA, w.before _ s = true := fun w h => hts0 w (List.mem_cons_of_mem _ h)
  have hown : s.vm.findClass RX8 = some m.cls := findClass_of_methodNamed B.named
  have hlocks := B.notSynchronized
  have hin : meth.name = "<init>" := (name_of_methodNamed B.named B.method).1
  have hS : va_S (pvB G) s.heap s.heap [] := va_S.rf
  have hk := y_lt hX
  rw [y_start hX] at hw
  have hl := lv_entry ([.ref a]) (n := 1) (Nat.le_of_ble_eq_true rfl)
  rw [lg_entry_eq]
  generalize (lg_sl ([.ref a]) ++ List.replicate (1 - (lg_sl ([.ref a])).length) Slot.unset).toArray = ls at hl ⊢
  have hl : lv_has ls 1 [(0, .ref a)] := hl
  refine lv_aload_n hx hb dX8_init_0 rfl (lv_at hl 0 rfl) ?_
  refine yobj hx hb (hml.trans hl.1.symm) hown (hts _ wm205) (hts _ wm8) (hts _ wm9) dX8_init_1 (Nat.le_of_ble_eq_true rfl) (Nat.le_of_ble_eq_true rfl) ?_
  refine lv_aload_n hx hb dX8_init_4 rfl (lv_at hl 0 rfl) ?_
  refine lv_sipush (v := 800) hx hb dX8_init_5 (by decide) ?_
  refine ynewQ hx hb hown (hts _ wm206) hN.1 hA hK htys hw hS (N := 800) (by decide) (by decide) (by decide) (Nat.le_of_ble_eq_true rfl) (Nat.le_of_ble_eq_true rfl) dX8_init_8 (fun q1 H hw hS => ?_)
  rw [List.append_assoc] at hw
  have hw : yP G (X.set k (yO a 9 [.null, .null, .null, .null, .int 0, .int 0, .int 0]) ++ [yQ q1 (G.1 2) 800]) H := hw
  refine va_putF (D := G.2.1) (ci := 9) (C := RX8) (T := TX8) (N := 7) hx hb hts inF_X8 tyX8 tyX8_ok nmX8 hown hK hw.1 hw.2 hS k (y_at0 hk) rfl 0 (by decide) (hts _ wm207) (fun _ h9 => h9) rfl hin rfl (ty := .array (.object "PinnaceView$Node")) (v := .ref q1) (by decide +kernel) rfl rfl (Nat.le_of_ble_eq_true rfl) dX8_init_11 (fun H locs hP hD hS => ?_)
  rw [y_set0 hk] at hP hD
  have hw : yP G (X.set k (yO a 9 [.ref q1, .null, .null, .null, .int 0, .int 0, .int 0]) ++ [yQ q1 (G.1 2) 800]) H := ⟨hP, hD⟩
  refine lv_aload_n hx hb dX8_init_14 rfl (lv_at hl 0 rfl) ?_
  refine lv_sipush (v := 800) hx hb dX8_init_15 (by decide) ?_
  refine ynewI hx hb (hts _ wm3) hA hK htys hw hS (N := 800) (by decide) (by decide) (by decide) (Nat.le_of_ble_eq_true rfl) (Nat.le_of_ble_eq_true rfl) dX8_init_18 (fun q2 H hw hS => ?_)
  rw [List.append_assoc] at hw
  have hw : yP G (X.set k (yO a 9 [.ref q1, .null, .null, .null, .int 0, .int 0, .int 0]) ++ ([yQ q1 (G.1 2) 800] ++ [yA q2 (G.1 0) 800 (fun _ => 0)])) H := hw
  refine va_putF (D := G.2.1) (ci := 9) (C := RX8) (T := TX8) (N := 7) hx hb hts inF_X8 tyX8 tyX8_ok nmX8 hown hK hw.1 hw.2 hS k (y_at0 hk) rfl 1 (by decide) (hts _ wm208) (fun _ h9 => h9) rfl hin rfl (ty := .array .int) (v := .ref q2) (by decide +kernel) rfl rfl (Nat.le_of_ble_eq_true rfl) dX8_init_20 (fun H locs hP hD hS => ?_)
  rw [y_set0 hk] at hP hD
  have hw : yP G (X.set k (yO a 9 [.ref q1, .ref q2, .null, .null, .int 0, .int 0, .int 0]) ++ ([yQ q1 (G.1 2) 800] ++ [yA q2 (G.1 0) 800 (fun _ => 0)])) H := ⟨hP, hD⟩
  refine lv_aload_n hx hb dX8_init_23 rfl (lv_at hl 0 rfl) ?_
  refine lv_sipush (v := 800) hx hb dX8_init_24 (by decide) ?_
  refine ynewI hx hb (hts _ wm3) hA hK htys hw hS (N := 800) (by decide) (by decide) (by decide) (Nat.le_of_ble_eq_true rfl) (Nat.le_of_ble_eq_true rfl) dX8_init_27 (fun q3 H hw hS => ?_)
  rw [List.append_assoc] at hw
  have hw : yP G (X.set k (yO a 9 [.ref q1, .ref q2, .null, .null, .int 0, .int 0, .int 0]) ++ (([yQ q1 (G.1 2) 800] ++ [yA q2 (G.1 0) 800 (fun _ => 0)]) ++ [yA q3 (G.1 0) 800 (fun _ => 0)])) H := hw
  refine va_putF (D := G.2.1) (ci := 9) (C := RX8) (T := TX8) (N := 7) hx hb hts inF_X8 tyX8 tyX8_ok nmX8 hown hK hw.1 hw.2 hS k (y_at0 hk) rfl 2 (by decide) (hts _ wm209) (fun _ h9 => h9) rfl hin rfl (ty := .array .int) (v := .ref q3) (by decide +kernel) rfl rfl (Nat.le_of_ble_eq_true rfl) dX8_init_29 (fun H locs hP hD hS => ?_)
  rw [y_set0 hk] at hP hD
  have hw : yP G (X.set k (yO a 9 [.ref q1, .ref q2, .ref q3, .null, .int 0, .int 0, .int 0]) ++ (([yQ q1 (G.1 2) 800] ++ [yA q2 (G.1 0) 800 (fun _ => 0)]) ++ [yA q3 (G.1 0) 800 (fun _ => 0)])) H := ⟨hP, hD⟩
  refine lv_aload_n hx hb dX8_init_32 rfl (lv_at hl 0 rfl) ?_
  refine lv_sipush (v := 800) hx hb dX8_init_33 (by decide) ?_
  refine ynewI hx hb (hts _ wm3) hA hK htys hw hS (N := 800) (by decide) (by decide) (by decide) (Nat.le_of_ble_eq_true rfl) (Nat.le_of_ble_eq_true rfl) dX8_init_36 (fun q4 H hw hS => ?_)
  rw [List.append_assoc] at hw
  have hw : yP G (X.set k (yO a 9 [.ref q1, .ref q2, .ref q3, .null, .int 0, .int 0, .int 0]) ++ ((([yQ q1 (G.1 2) 800] ++ [yA q2 (G.1 0) 800 (fun _ => 0)]) ++ [yA q3 (G.1 0) 800 (fun _ => 0)]) ++ [yA q4 (G.1 0) 800 (fun _ => 0)])) H := hw
  refine va_putF (D := G.2.1) (ci := 9) (C := RX8) (T := TX8) (N := 7) hx hb hts inF_X8 tyX8 tyX8_ok nmX8 hown hK hw.1 hw.2 hS k (y_at0 hk) rfl 3 (by decide) (hts _ wm210) (fun _ h9 => h9) rfl hin rfl (ty := .array .int) (v := .ref q4) (by decide +kernel) rfl rfl (Nat.le_of_ble_eq_true rfl) dX8_init_38 (fun H locs hP hD hS => ?_)
  rw [y_set0 hk] at hP hD
  have hw : yP G (X.set k (yO a 9 [.ref q1, .ref q2, .ref q3, .ref q4, .int 0, .int 0, .int 0]) ++ ((([yQ q1 (G.1 2) 800] ++ [yA q2 (G.1 0) 800 (fun _ => 0)]) ++ [yA q3 (G.1 0) 800 (fun _ => 0)]) ++ [yA q4 (G.1 0) 800 (fun _ => 0)])) H := ⟨hP, hD⟩
  refine lv_aload_n hx hb dX8_init_41 rfl (lv_at hl 0 rfl) ?_
  refine lv_iconst (v := 0) hx hb dX8_init_42 (by decide) ?_
  refine va_put (D := G.2.1) (ci := 9) (C := RX8) (T := TX8) (N := 7) hx hb hts inF_X8 tyX8 tyX8_ok nmX8 hown hK hw.1 hw.2 hS k (y_at0 hk) rfl 4 (by decide) (hts _ wm211) (fun _ h9 => h9) rfl (ty := .int) (v := .int 0) (by decide +kernel) rfl rfl (Nat.le_of_ble_eq_true rfl) dX8_init_43 (fun H locs hP hD hS => ?_)
  rw [y_set0 hk] at hP hD
  have hw : yP G (X.set k (yO a 9 [.ref q1, .ref q2, .ref q3, .ref q4, .int 0, .int 0, .int 0]) ++ ((([yQ q1 (G.1 2) 800] ++ [yA q2 (G.1 0) 800 (fun _ => 0)]) ++ [yA q3 (G.1 0) 800 (fun _ => 0)]) ++ [yA q4 (G.1 0) 800 (fun _ => 0)])) H := ⟨hP, hD⟩
  refine lv_aload_n hx hb dX8_init_46 rfl (lv_at hl 0 rfl) ?_
  refine lv_iconst (v := 0) hx hb dX8_init_47 (by decide) ?_
  refine va_put (D := G.2.1) (ci := 9) (C := RX8) (T := TX8) (N := 7) hx hb hts inF_X8 tyX8 tyX8_ok nmX8 hown hK hw.1 hw.2 hS k (y_at0 hk) rfl 5 (by decide) (hts _ wm212) (fun _ h9 => h9) rfl (ty := .int) (v := .int 0) (by decide +kernel) rfl rfl (Nat.le_of_ble_eq_true rfl) dX8_init_48 (fun H locs hP hD hS => ?_)
  rw [y_set0 hk] at hP hD
  have hw : yP G (X.set k (yO a 9 [.ref q1, .ref q2, .ref q3, .ref q4, .int 0, .int 0, .int 0]) ++ ((([yQ q1 (G.1 2) 800] ++ [yA q2 (G.1 0) 800 (fun _ => 0)]) ++ [yA q3 (G.1 0) 800 (fun _ => 0)]) ++ [yA q4 (G.1 0) 800 (fun _ => 0)])) H := ⟨hP, hD⟩
  refine lv_aload_n hx hb dX8_init_51 rfl (lv_at hl 0 rfl) ?_
  refine lv_iconst (v := 0) hx hb dX8_init_52 (by decide) ?_
  refine va_put (D := G.2.1) (ci := 9) (C := RX8) (T := TX8) (N := 7) hx hb hts inF_X8 tyX8 tyX8_ok nmX8 hown hK hw.1 hw.2 hS k (y_at0 hk) rfl 6 (by decide) (hts _ wm213) (fun _ h9 => h9) rfl (ty := .int) (v := .int 0) (by decide +kernel) rfl rfl (Nat.le_of_ble_eq_true rfl) dX8_init_53 (fun H locs hP hD hS => ?_)
  rw [y_set0 hk] at hP hD
  have hw : yP G (X.set k (yO a 9 [.ref q1, .ref q2, .ref q3, .ref q4, .int 0, .int 0, .int 0]) ++ ((([yQ q1 (G.1 2) 800] ++ [yA q2 (G.1 0) 800 (fun _ => 0)]) ++ [yA q3 (G.1 0) 800 (fun _ => 0)]) ++ [yA q4 (G.1 0) 800 (fun _ => 0)])) H := ⟨hP, hD⟩
  exact yev hx hb hr hlocks hA hw hK hS ⟨q1, q2, q3, q4, rfl⟩ dX8_init_56
set_option maxHeartbeats 4000000 in
set_option maxRecDepth 100000 in
theorem c_X6_init {l : Launch} {G : PvG} {tys : List (ClassId × FieldType)} (htys : tys = pvT G) {X : va_W} {k a : Nat}  (hX : X[k]? = some (yO a 7 [.null, .null, .int 0]))  : Met l yX6_init (Cond.code yX6_init cX6_init 1 none :: WA) ({ frames := 1, cells := 82, slots := 1200, locals := 12 }) (va_Pc [.ref a] (fun U => pvY G tys X U ∧ pvN2 U)) (va_Qv (fun X' : va_W => ∃ (q1 : Nat) (r2 : Nat → Nat) (q3 : Nat) (r4 : Nat → Nat), X' = X.set k (yO a 7 [.ref q1, .ref q3, .int 0]) ++ ((yGrid G q1 r2) ++ (yGrid G q3 r4))) (pvY G tys) (pvB G)) 82 1200 (pvB G) := by
  refine Met.ofW (cc := cX6_init) (maxL := 1) (ret := none) (by decide) rfl ?_
  intro p e s m args below meth c s₁ B hml hv
  obtain ⟨rfl, ⟨hw, hK, hA⟩, hN⟩ := hv
  have hx := B.exec
  have hb := B.bytes
  have hr := B.returns
  have hts0 := atoms_spec (ws := (Cond.code yX6_init cX6_init 1 none :: WA)) B.pre
  have hts : ∀ w ∈ WA, w.before _ s = true := fun w h => hts0 w (List.mem_cons_of_mem _ h)
  have hown : s.vm.findClass RX6 = some m.cls := findClass_of_methodNamed B.named
  have hlocks := B.notSynchronized
  have hin : meth.name = "<init>" := (name_of_methodNamed B.named B.method).1
  have hS : va_S (pvB G) s.heap s.heap [] := va_S.rf
  have hk := y_lt hX
  rw [y_start hX] at hw
  have hl := lv_entry ([.ref a]) (n := 1) (Nat.le_of_ble_eq_true rfl)
  rw [lg_entry_eq]
  generalize (lg_sl ([.ref a]) ++ List.replicate (1 - (lg_sl ([.ref a])).length) Slot.unset).toArray = ls at hl ⊢
  have hl : lv_has ls 1 [(0, .ref a)] := hl
  refine lv_aload_n hx hb dX6_init_0 rfl (lv_at hl 0 rfl) ?_
  refine yobj hx hb (hml.trans hl.1.symm) hown (hts _ wm185) (hts _ wm8) (hts _ wm9) dX6_init_1 (Nat.le_of_ble_eq_true rfl) (Nat.le_of_ble_eq_true rfl) ?_
  refine lv_aload_n hx hb dX6_init_4 rfl (lv_at hl 0 rfl) ?_
  refine lv_bipush (v := 40) hx hb dX6_init_5 (by decide) ?_
  refine lv_bipush (v := 14) hx hb dX6_init_7 (by decide) ?_
  refine ymna hx hb hown (hts _ wm186) hN.2 (hts _ wm3) hA hK htys hw hS (Nat.le_of_ble_eq_true rfl) (Nat.le_of_ble_eq_true rfl) dX6_init_9 (fun q1 r2 H hw hS => ?_)
  rw [List.append_assoc] at hw
  have hw : yP G (X.set k (yO a 7 [.null, .null, .int 0]) ++ (yGrid G q1 r2)) H := hw
  refine va_putF (D := G.2.1) (ci := 7) (C := RX6) (T := TX6) (N := 3) hx hb hts inF_X6 tyX6 tyX6_ok nmX6 hown hK hw.1 hw.2 hS k (y_at0 hk) rfl 0 (by decide) (hts _ wm187) (fun _ h9 => h9) rfl hin rfl (ty := .array (.array .int)) (v := .ref q1) (by decide +kernel) rfl rfl (Nat.le_of_ble_eq_true rfl) dX6_init_13 (fun H locs hP hD hS => ?_)
  rw [y_set0 hk] at hP hD
  have hw : yP G (X.set k (yO a 7 [.ref q1, .null, .int 0]) ++ (yGrid G q1 r2)) H := ⟨hP, hD⟩
  refine lv_aload_n hx hb dX6_init_16 rfl (lv_at hl 0 rfl) ?_
  refine lv_bipush (v := 40) hx hb dX6_init_17 (by decide) ?_
  refine lv_bipush (v := 14) hx hb dX6_init_19 (by decide) ?_
  refine ymna hx hb hown (hts _ wm186) hN.2 (hts _ wm3) hA hK htys hw hS (Nat.le_of_ble_eq_true rfl) (Nat.le_of_ble_eq_true rfl) dX6_init_21 (fun q3 r4 H hw hS => ?_)
  rw [List.append_assoc] at hw
  have hw : yP G (X.set k (yO a 7 [.ref q1, .null, .int 0]) ++ ((yGrid G q1 r2) ++ (yGrid G q3 r4))) H := hw
  refine va_putF (D := G.2.1) (ci := 7) (C := RX6) (T := TX6) (N := 3) hx hb hts inF_X6 tyX6 tyX6_ok nmX6 hown hK hw.1 hw.2 hS k (y_at0 hk) rfl 1 (by decide) (hts _ wm188) (fun _ h9 => h9) rfl hin rfl (ty := .array (.array .int)) (v := .ref q3) (by decide +kernel) rfl rfl (Nat.le_of_ble_eq_true rfl) dX6_init_25 (fun H locs hP hD hS => ?_)
  rw [y_set0 hk] at hP hD
  have hw : yP G (X.set k (yO a 7 [.ref q1, .ref q3, .int 0]) ++ ((yGrid G q1 r2) ++ (yGrid G q3 r4))) H := ⟨hP, hD⟩
  refine lv_aload_n hx hb dX6_init_28 rfl (lv_at hl 0 rfl) ?_
  refine lv_iconst (v := 0) hx hb dX6_init_29 (by decide) ?_
  refine va_put (D := G.2.1) (ci := 7) (C := RX6) (T := TX6) (N := 3) hx hb hts inF_X6 tyX6 tyX6_ok nmX6 hown hK hw.1 hw.2 hS k (y_at0 hk) rfl 2 (by decide) (hts _ wm189) (fun _ h9 => h9) rfl (ty := .boolean) (v := .int 0) (by decide +kernel) rfl rfl (Nat.le_of_ble_eq_true rfl) dX6_init_30 (fun H locs hP hD hS => ?_)
  rw [y_set0 hk] at hP hD
  have hw : yP G (X.set k (yO a 7 [.ref q1, .ref q3, .int 0]) ++ ((yGrid G q1 r2) ++ (yGrid G q3 r4))) H := ⟨hP, hD⟩
  exact yev hx hb hr hlocks hA hw hK hS ⟨q1, r2, q3, r4, rfl⟩ dX6_init_33
set_option maxHeartbeats 4000000 in
set_option maxRecDepth 100000 in
theorem c_X4_init {l : Launch} {G : PvG} {tys : List (ClassId × FieldType)} (htys : tys = pvT G) {X : va_W} {k a : Nat}  (hX : X[k]? = some (yO a 5 [.null, .null, .null, .int 0, .int 0, .int 0]))  : Met l yX4_init (Cond.code yX4_init cX4_init 1 none :: WA) ({ frames := 2, cells := 95, slots := 4660, locals := 32 }) (va_Pc [.ref a] (fun U => pvY G tys X U ∧ pvN2 U)) (va_Qv (fun X' : va_W => ∃ (q1 : Nat) (q2 : Nat) (r3 : Nat → Nat) (q4 : Nat) (r5 : Nat → Nat) (q6 : Nat) (q7 : Nat) (q8 : Nat) (q9 : Nat) (q10 : Nat) (q11 : Nat) (q12 : Nat) (q13 : Nat) (q14 : Nat) (q15 : Nat) (q16 : Nat) (q17 : Nat), X' = X.set k (yO a 5 [.ref q1, .ref q6, .ref q13, .int 0, .int 0, .int 0]) ++ (((yO q1 7 [.ref q2, .ref q4, .int 0] :: ((yGrid G q2 r3) ++ (yGrid G q4 r5))) ++ (yO q6 1 [.ref q7, .ref q8, .ref q9, .ref q10, .ref q11, .ref q12, .int 0, .int 0, .int 0, .int 0] :: ((((([yA q7 (G.1 0) 40 (fun _ => 0)] ++ [yA q8 (G.1 0) 40 (fun _ => 0)]) ++ [yA q9 (G.1 0) 40 (fun _ => 0)]) ++ [yA q10 (G.1 0) 40 (fun _ => 0)]) ++ [yA q11 (G.1 0) 40 (fun _ => 0)]) ++ [yA q12 (G.1 0) 40 (fun _ => 0)]))) ++ (yO q13 9 [.ref q14, .ref q15, .ref q16, .ref q17, .int 0, .int 0, .int 0] :: ((([yQ q14 (G.1 2) 800] ++ [yA q15 (G.1 0) 800 (fun _ => 0)]) ++ [yA q16 (G.1 0) 800 (fun _ => 0)]) ++ [yA q17 (G.1 0) 800 (fun _ => 0)])))) (pvY G tys) (pvB G)) 95 4660 (pvB G) := by
  refine Met.ofW (cc := cX4_init) (maxL := 1) (ret := none) (by decide) rfl ?_
  intro p e s m args below meth c s₁ B hml hv
  obtain ⟨rfl, ⟨hw, hK, hA⟩, hN⟩ := hv
  have hx := B.exec
  have hb := B.bytes
  have hr := B.returns
  have hts0 := atoms_spec (ws := (Cond.code yX4_init cX4_init 1 none :: WA)) B.pre
  have hts : ∀ w ∈ WA, w.before _ s = true := fun w h => hts0 w (List.mem_cons_of_mem _ h)
  have hown : s.vm.findClass RX4 = some m.cls := findClass_of_methodNamed B.named
  have hlocks := B.notSynchronized
  have hin : meth.name = "<init>" := (name_of_methodNamed B.named B.method).1
  have hS : va_S (pvB G) s.heap s.heap [] := va_S.rf
  have hk := y_lt hX
  rw [y_start hX] at hw
  have hl := lv_entry ([.ref a]) (n := 1) (Nat.le_of_ble_eq_true rfl)
  rw [lg_entry_eq]
  generalize (lg_sl ([.ref a]) ++ List.replicate (1 - (lg_sl ([.ref a])).length) Slot.unset).toArray = ls at hl ⊢
  have hl : lv_has ls 1 [(0, .ref a)] := hl
  refine lv_aload_n hx hb dX4_init_0 rfl (lv_at hl 0 rfl) ?_
  refine yobj hx hb (hml.trans hl.1.symm) hown (hts _ wm169) (hts _ wm8) (hts _ wm9) dX4_init_1 (Nat.le_of_ble_eq_true rfl) (Nat.le_of_ble_eq_true rfl) ?_
  refine lv_aload_n hx hb dX4_init_4 rfl (lv_at hl 0 rfl) ?_
  refine va_new (D := G.2.1) (ci := 7) (fs := [.null, .null, .int 0]) (C := RX6) (T := TX6) (N := 3) hx hb hts inF_X6 tyX6 tyX6_ok hown (hts _ wm170) (hts _ wm22) (hts _ wm23) hK hw.1 hw.2 hS hA.1 rfl (fun j hj => by rcases (show j = 0 ∨ j = 1 ∨ j = 2 by omega) with rfl | rfl | rfl <;> rfl) (Nat.le_of_ble_eq_true rfl) (Nat.le_of_ble_eq_true rfl) dX4_init_5 (fun q1 H hP hD hS => ?_)
  have hw : yP G ((X.set k (yO a 5 [.null, .null, .null, .int 0, .int 0, .int 0]) ++ []) ++ [yO q1 7 [.null, .null, .int 0]]) H := ⟨hP, hD⟩
  refine lv_dup hx hb dX4_init_8 rfl ?_
  refine ycallv (va_runIN (As := []) (rest := [.ref q1, .ref a]) ⟨hx, hb, hml, hown, hts⟩ (c_X6_init (l := l) (G := G) (tys := tys) htys (X := ((X.set k (yO a 5 [.null, .null, .null, .int 0, .int 0, .int 0]) ++ []) ++ [yO q1 7 [.null, .null, .int 0]])) (k := (X.set k (yO a 5 [.null, .null, .null, .int 0, .int 0, .int 0]) ++ []).length) (a := q1)  y_last) ⟨va_cnB 0 hts (gNA wm184) rfl rfl rfl hA.2.2.2.2.1 (hts _ wm23) (by decide +kernel) ⟨Nat.le_of_ble_eq_true rfl, Nat.le_of_ble_eq_true rfl⟩, rfl, (hts _ wm183)⟩ (y_pre2 hN hA hS hw hK _) rfl rfl hl.1 rfl (lv_room (Nat.le_of_ble_eq_true rfl)) dX4_init_9 ⟨Nat.le_of_ble_eq_true rfl, Nat.le_of_ble_eq_true rfl⟩) hS (fun X1 H locs hp hw hS => ?_)
  obtain ⟨q2, r3, q4, r5, rfl⟩ := hp
  rw [y_back, List.append_assoc] at hw
  have hw : yP G (X.set k (yO a 5 [.null, .null, .null, .int 0, .int 0, .int 0]) ++ (yO q1 7 [.ref q2, .ref q4, .int 0] :: ((yGrid G q2 r3) ++ (yGrid G q4 r5)))) H := hw
  refine va_putF (D := G.2.1) (ci := 5) (C := RX4) (T := TX4) (N := 6) hx hb hts inF_X4 tyX4 tyX4_ok nmX4 hown hK hw.1 hw.2 hS k (y_at0 hk) rfl 0 (by decide) (hts _ wm171) (fun _ h9 => h9) rfl hin rfl (ty := .object "PinnaceView$Styles") (v := .ref q1) (by decide +kernel) rfl rfl (Nat.le_of_ble_eq_true rfl) dX4_init_12 (fun H locs hP hD hS => ?_)
  rw [y_set0 hk] at hP hD
  have hw : yP G (X.set k (yO a 5 [.ref q1, .null, .null, .int 0, .int 0, .int 0]) ++ (yO q1 7 [.ref q2, .ref q4, .int 0] :: ((yGrid G q2 r3) ++ (yGrid G q4 r5)))) H := ⟨hP, hD⟩
  refine lv_aload_n hx hb dX4_init_15 rfl (lv_at hl 0 rfl) ?_
  refine va_new (D := G.2.1) (ci := 1) (fs := [.null, .null, .null, .null, .null, .null, .int 0, .int 0, .int 0, .int 0]) (C := RX0) (T := TX0) (N := 10) hx hb hts inF_X0 tyX0 tyX0_ok hown (hts _ wm172) (hts _ wm173) (hts _ wm174) hK hw.1 hw.2 hS hA.1 rfl (fun j hj => by rcases (show j = 0 ∨ j = 1 ∨ j = 2 ∨ j = 3 ∨ j = 4 ∨ j = 5 ∨ j = 6 ∨ j = 7 ∨ j = 8 ∨ j = 9 by omega) with rfl | rfl | rfl | rfl | rfl | rfl | rfl | rfl | rfl | rfl <;> rfl) (Nat.le_of_ble_eq_true rfl) (Nat.le_of_ble_eq_true rfl) dX4_init_16 (fun q6 H hP hD hS => ?_)
  have hw : yP G ((X.set k (yO a 5 [.ref q1, .null, .null, .int 0, .int 0, .int 0]) ++ (yO q1 7 [.ref q2, .ref q4, .int 0] :: ((yGrid G q2 r3) ++ (yGrid G q4 r5)))) ++ [yO q6 1 [.null, .null, .null, .null, .null, .null, .int 0, .int 0, .int 0, .int 0]]) H := ⟨hP, hD⟩
  refine lv_dup hx hb dX4_init_19 rfl ?_
  refine ycallv (va_runIN (As := []) (rest := [.ref q6, .ref a]) ⟨hx, hb, hml, hown, hts⟩ (c_X0_init (l := l) (G := G) (tys := tys) htys (X := ((X.set k (yO a 5 [.ref q1, .null, .null, .int 0, .int 0, .int 0]) ++ (yO q1 7 [.ref q2, .ref q4, .int 0] :: ((yGrid G q2 r3) ++ (yGrid G q4 r5)))) ++ [yO q6 1 [.null, .null, .null, .null, .null, .null, .int 0, .int 0, .int 0, .int 0]])) (k := (X.set k (yO a 5 [.ref q1, .null, .null, .int 0, .int 0, .int 0]) ++ (yO q1 7 [.ref q2, .ref q4, .int 0] :: ((yGrid G q2 r3) ++ (yGrid G q4 r5)))).length) (a := q6)  y_last) ⟨va_cnB 0 hts (gNA wm191) rfl rfl rfl hA.2.2.2.2.2.1 (hts _ wm174) (by decide +kernel) ⟨Nat.le_of_ble_eq_true rfl, Nat.le_of_ble_eq_true rfl⟩, rfl, (hts _ wm190)⟩ (y_pre hA hS hw hK _) rfl rfl hl.1 rfl (lv_room (Nat.le_of_ble_eq_true rfl)) dX4_init_20 ⟨Nat.le_of_ble_eq_true rfl, Nat.le_of_ble_eq_true rfl⟩) hS (fun X1 H locs hp hw hS => ?_)
  obtain ⟨q7, q8, q9, q10, q11, q12, rfl⟩ := hp
  rw [y_back, List.append_assoc] at hw
  have hw : yP G (X.set k (yO a 5 [.ref q1, .null, .null, .int 0, .int 0, .int 0]) ++ ((yO q1 7 [.ref q2, .ref q4, .int 0] :: ((yGrid G q2 r3) ++ (yGrid G q4 r5))) ++ (yO q6 1 [.ref q7, .ref q8, .ref q9, .ref q10, .ref q11, .ref q12, .int 0, .int 0, .int 0, .int 0] :: ((((([yA q7 (G.1 0) 40 (fun _ => 0)] ++ [yA q8 (G.1 0) 40 (fun _ => 0)]) ++ [yA q9 (G.1 0) 40 (fun _ => 0)]) ++ [yA q10 (G.1 0) 40 (fun _ => 0)]) ++ [yA q11 (G.1 0) 40 (fun _ => 0)]) ++ [yA q12 (G.1 0) 40 (fun _ => 0)])))) H := hw
  refine va_putF (D := G.2.1) (ci := 5) (C := RX4) (T := TX4) (N := 6) hx hb hts inF_X4 tyX4 tyX4_ok nmX4 hown hK hw.1 hw.2 hS k (y_at0 hk) rfl 1 (by decide) (hts _ wm175) (fun _ h9 => h9) rfl hin rfl (ty := .object "PinnaceView$Floats") (v := .ref q6) (by decide +kernel) rfl rfl (Nat.le_of_ble_eq_true rfl) dX4_init_23 (fun H locs hP hD hS => ?_)
  rw [y_set0 hk] at hP hD
  have hw : yP G (X.set k (yO a 5 [.ref q1, .ref q6, .null, .int 0, .int 0, .int 0]) ++ ((yO q1 7 [.ref q2, .ref q4, .int 0] :: ((yGrid G q2 r3) ++ (yGrid G q4 r5))) ++ (yO q6 1 [.ref q7, .ref q8, .ref q9, .ref q10, .ref q11, .ref q12, .int 0, .int 0, .int 0, .int 0] :: ((((([yA q7 (G.1 0) 40 (fun _ => 0)] ++ [yA q8 (G.1 0) 40 (fun _ => 0)]) ++ [yA q9 (G.1 0) 40 (fun _ => 0)]) ++ [yA q10 (G.1 0) 40 (fun _ => 0)]) ++ [yA q11 (G.1 0) 40 (fun _ => 0)]) ++ [yA q12 (G.1 0) 40 (fun _ => 0)])))) H := ⟨hP, hD⟩
  refine lv_aload_n hx hb dX4_init_26 rfl (lv_at hl 0 rfl) ?_
  refine va_new (D := G.2.1) (ci := 9) (fs := [.null, .null, .null, .null, .int 0, .int 0, .int 0]) (C := RX8) (T := TX8) (N := 7) hx hb hts inF_X8 tyX8 tyX8_ok hown (hts _ wm176) (hts _ wm177) (hts _ wm178) hK hw.1 hw.2 hS hA.1 rfl (fun j hj => by rcases (show j = 0 ∨ j = 1 ∨ j = 2 ∨ j = 3 ∨ j = 4 ∨ j = 5 ∨ j = 6 by omega) with rfl | rfl | rfl | rfl | rfl | rfl | rfl <;> rfl) (Nat.le_of_ble_eq_true rfl) (Nat.le_of_ble_eq_true rfl) dX4_init_27 (fun q13 H hP hD hS => ?_)
  have hw : yP G ((X.set k (yO a 5 [.ref q1, .ref q6, .null, .int 0, .int 0, .int 0]) ++ ((yO q1 7 [.ref q2, .ref q4, .int 0] :: ((yGrid G q2 r3) ++ (yGrid G q4 r5))) ++ (yO q6 1 [.ref q7, .ref q8, .ref q9, .ref q10, .ref q11, .ref q12, .int 0, .int 0, .int 0, .int 0] :: ((((([yA q7 (G.1 0) 40 (fun _ => 0)] ++ [yA q8 (G.1 0) 40 (fun _ => 0)]) ++ [yA q9 (G.1 0) 40 (fun _ => 0)]) ++ [yA q10 (G.1 0) 40 (fun _ => 0)]) ++ [yA q11 (G.1 0) 40 (fun _ => 0)]) ++ [yA q12 (G.1 0) 40 (fun _ => 0)])))) ++ [yO q13 9 [.null, .null, .null, .null, .int 0, .int 0, .int 0]]) H := ⟨hP, hD⟩
  refine lv_dup hx hb dX4_init_30 rfl ?_
  refine ycallv (va_runIN (As := []) (rest := [.ref q13, .ref a]) ⟨hx, hb, hml, hown, hts⟩ (c_X8_init (l := l) (G := G) (tys := tys) htys (X := ((X.set k (yO a 5 [.ref q1, .ref q6, .null, .int 0, .int 0, .int 0]) ++ ((yO q1 7 [.ref q2, .ref q4, .int 0] :: ((yGrid G q2 r3) ++ (yGrid G q4 r5))) ++ (yO q6 1 [.ref q7, .ref q8, .ref q9, .ref q10, .ref q11, .ref q12, .int 0, .int 0, .int 0, .int 0] :: ((((([yA q7 (G.1 0) 40 (fun _ => 0)] ++ [yA q8 (G.1 0) 40 (fun _ => 0)]) ++ [yA q9 (G.1 0) 40 (fun _ => 0)]) ++ [yA q10 (G.1 0) 40 (fun _ => 0)]) ++ [yA q11 (G.1 0) 40 (fun _ => 0)]) ++ [yA q12 (G.1 0) 40 (fun _ => 0)])))) ++ [yO q13 9 [.null, .null, .null, .null, .int 0, .int 0, .int 0]])) (k := (X.set k (yO a 5 [.ref q1, .ref q6, .null, .int 0, .int 0, .int 0]) ++ ((yO q1 7 [.ref q2, .ref q4, .int 0] :: ((yGrid G q2 r3) ++ (yGrid G q4 r5))) ++ (yO q6 1 [.ref q7, .ref q8, .ref q9, .ref q10, .ref q11, .ref q12, .int 0, .int 0, .int 0, .int 0] :: ((((([yA q7 (G.1 0) 40 (fun _ => 0)] ++ [yA q8 (G.1 0) 40 (fun _ => 0)]) ++ [yA q9 (G.1 0) 40 (fun _ => 0)]) ++ [yA q10 (G.1 0) 40 (fun _ => 0)]) ++ [yA q11 (G.1 0) 40 (fun _ => 0)]) ++ [yA q12 (G.1 0) 40 (fun _ => 0)])))).length) (a := q13)  y_last) ⟨va_cnB 0 hts (gNA wm204) rfl rfl rfl hA.2.2.2.2.2.2.1 (hts _ wm178) (by decide +kernel) ⟨Nat.le_of_ble_eq_true rfl, Nat.le_of_ble_eq_true rfl⟩, rfl, (hts _ wm203)⟩ (y_pre2 hN hA hS hw hK _) rfl rfl hl.1 rfl (lv_room (Nat.le_of_ble_eq_true rfl)) dX4_init_31 ⟨Nat.le_of_ble_eq_true rfl, Nat.le_of_ble_eq_true rfl⟩) hS (fun X1 H locs hp hw hS => ?_)
  obtain ⟨q14, q15, q16, q17, rfl⟩ := hp
  rw [y_back, List.append_assoc] at hw
  have hw : yP G (X.set k (yO a 5 [.ref q1, .ref q6, .null, .int 0, .int 0, .int 0]) ++ (((yO q1 7 [.ref q2, .ref q4, .int 0] :: ((yGrid G q2 r3) ++ (yGrid G q4 r5))) ++ (yO q6 1 [.ref q7, .ref q8, .ref q9, .ref q10, .ref q11, .ref q12, .int 0, .int 0, .int 0, .int 0] :: ((((([yA q7 (G.1 0) 40 (fun _ => 0)] ++ [yA q8 (G.1 0) 40 (fun _ => 0)]) ++ [yA q9 (G.1 0) 40 (fun _ => 0)]) ++ [yA q10 (G.1 0) 40 (fun _ => 0)]) ++ [yA q11 (G.1 0) 40 (fun _ => 0)]) ++ [yA q12 (G.1 0) 40 (fun _ => 0)]))) ++ (yO q13 9 [.ref q14, .ref q15, .ref q16, .ref q17, .int 0, .int 0, .int 0] :: ((([yQ q14 (G.1 2) 800] ++ [yA q15 (G.1 0) 800 (fun _ => 0)]) ++ [yA q16 (G.1 0) 800 (fun _ => 0)]) ++ [yA q17 (G.1 0) 800 (fun _ => 0)])))) H := hw
  refine va_putF (D := G.2.1) (ci := 5) (C := RX4) (T := TX4) (N := 6) hx hb hts inF_X4 tyX4 tyX4_ok nmX4 hown hK hw.1 hw.2 hS k (y_at0 hk) rfl 2 (by decide) (hts _ wm179) (fun _ h9 => h9) rfl hin rfl (ty := .object "PinnaceView$Waiting") (v := .ref q13) (by decide +kernel) rfl rfl (Nat.le_of_ble_eq_true rfl) dX4_init_34 (fun H locs hP hD hS => ?_)
  rw [y_set0 hk] at hP hD
  have hw : yP G (X.set k (yO a 5 [.ref q1, .ref q6, .ref q13, .int 0, .int 0, .int 0]) ++ (((yO q1 7 [.ref q2, .ref q4, .int 0] :: ((yGrid G q2 r3) ++ (yGrid G q4 r5))) ++ (yO q6 1 [.ref q7, .ref q8, .ref q9, .ref q10, .ref q11, .ref q12, .int 0, .int 0, .int 0, .int 0] :: ((((([yA q7 (G.1 0) 40 (fun _ => 0)] ++ [yA q8 (G.1 0) 40 (fun _ => 0)]) ++ [yA q9 (G.1 0) 40 (fun _ => 0)]) ++ [yA q10 (G.1 0) 40 (fun _ => 0)]) ++ [yA q11 (G.1 0) 40 (fun _ => 0)]) ++ [yA q12 (G.1 0) 40 (fun _ => 0)]))) ++ (yO q13 9 [.ref q14, .ref q15, .ref q16, .ref q17, .int 0, .int 0, .int 0] :: ((([yQ q14 (G.1 2) 800] ++ [yA q15 (G.1 0) 800 (fun _ => 0)]) ++ [yA q16 (G.1 0) 800 (fun _ => 0)]) ++ [yA q17 (G.1 0) 800 (fun _ => 0)])))) H := ⟨hP, hD⟩
  refine lv_aload_n hx hb dX4_init_37 rfl (lv_at hl 0 rfl) ?_
  refine lv_iconst (v := 0) hx hb dX4_init_38 (by decide) ?_
  refine va_put (D := G.2.1) (ci := 5) (C := RX4) (T := TX4) (N := 6) hx hb hts inF_X4 tyX4 tyX4_ok nmX4 hown hK hw.1 hw.2 hS k (y_at0 hk) rfl 3 (by decide) (hts _ wm180) (fun _ h9 => h9) rfl (ty := .int) (v := .int 0) (by decide +kernel) rfl rfl (Nat.le_of_ble_eq_true rfl) dX4_init_39 (fun H locs hP hD hS => ?_)
  rw [y_set0 hk] at hP hD
  have hw : yP G (X.set k (yO a 5 [.ref q1, .ref q6, .ref q13, .int 0, .int 0, .int 0]) ++ (((yO q1 7 [.ref q2, .ref q4, .int 0] :: ((yGrid G q2 r3) ++ (yGrid G q4 r5))) ++ (yO q6 1 [.ref q7, .ref q8, .ref q9, .ref q10, .ref q11, .ref q12, .int 0, .int 0, .int 0, .int 0] :: ((((([yA q7 (G.1 0) 40 (fun _ => 0)] ++ [yA q8 (G.1 0) 40 (fun _ => 0)]) ++ [yA q9 (G.1 0) 40 (fun _ => 0)]) ++ [yA q10 (G.1 0) 40 (fun _ => 0)]) ++ [yA q11 (G.1 0) 40 (fun _ => 0)]) ++ [yA q12 (G.1 0) 40 (fun _ => 0)]))) ++ (yO q13 9 [.ref q14, .ref q15, .ref q16, .ref q17, .int 0, .int 0, .int 0] :: ((([yQ q14 (G.1 2) 800] ++ [yA q15 (G.1 0) 800 (fun _ => 0)]) ++ [yA q16 (G.1 0) 800 (fun _ => 0)]) ++ [yA q17 (G.1 0) 800 (fun _ => 0)])))) H := ⟨hP, hD⟩
  refine lv_aload_n hx hb dX4_init_42 rfl (lv_at hl 0 rfl) ?_
  refine lv_iconst (v := 0) hx hb dX4_init_43 (by decide) ?_
  refine va_put (D := G.2.1) (ci := 5) (C := RX4) (T := TX4) (N := 6) hx hb hts inF_X4 tyX4 tyX4_ok nmX4 hown hK hw.1 hw.2 hS k (y_at0 hk) rfl 4 (by decide) (hts _ wm181) (fun _ h9 => h9) rfl (ty := .int) (v := .int 0) (by decide +kernel) rfl rfl (Nat.le_of_ble_eq_true rfl) dX4_init_44 (fun H locs hP hD hS => ?_)
  rw [y_set0 hk] at hP hD
  have hw : yP G (X.set k (yO a 5 [.ref q1, .ref q6, .ref q13, .int 0, .int 0, .int 0]) ++ (((yO q1 7 [.ref q2, .ref q4, .int 0] :: ((yGrid G q2 r3) ++ (yGrid G q4 r5))) ++ (yO q6 1 [.ref q7, .ref q8, .ref q9, .ref q10, .ref q11, .ref q12, .int 0, .int 0, .int 0, .int 0] :: ((((([yA q7 (G.1 0) 40 (fun _ => 0)] ++ [yA q8 (G.1 0) 40 (fun _ => 0)]) ++ [yA q9 (G.1 0) 40 (fun _ => 0)]) ++ [yA q10 (G.1 0) 40 (fun _ => 0)]) ++ [yA q11 (G.1 0) 40 (fun _ => 0)]) ++ [yA q12 (G.1 0) 40 (fun _ => 0)]))) ++ (yO q13 9 [.ref q14, .ref q15, .ref q16, .ref q17, .int 0, .int 0, .int 0] :: ((([yQ q14 (G.1 2) 800] ++ [yA q15 (G.1 0) 800 (fun _ => 0)]) ++ [yA q16 (G.1 0) 800 (fun _ => 0)]) ++ [yA q17 (G.1 0) 800 (fun _ => 0)])))) H := ⟨hP, hD⟩
  refine lv_aload_n hx hb dX4_init_47 rfl (lv_at hl 0 rfl) ?_
  refine lv_iconst (v := 0) hx hb dX4_init_48 (by decide) ?_
  refine va_put (D := G.2.1) (ci := 5) (C := RX4) (T := TX4) (N := 6) hx hb hts inF_X4 tyX4 tyX4_ok nmX4 hown hK hw.1 hw.2 hS k (y_at0 hk) rfl 5 (by decide) (hts _ wm182) (fun _ h9 => h9) rfl (ty := .int) (v := .int 0) (by decide +kernel) rfl rfl (Nat.le_of_ble_eq_true rfl) dX4_init_49 (fun H locs hP hD hS => ?_)
  rw [y_set0 hk] at hP hD
  have hw : yP G (X.set k (yO a 5 [.ref q1, .ref q6, .ref q13, .int 0, .int 0, .int 0]) ++ (((yO q1 7 [.ref q2, .ref q4, .int 0] :: ((yGrid G q2 r3) ++ (yGrid G q4 r5))) ++ (yO q6 1 [.ref q7, .ref q8, .ref q9, .ref q10, .ref q11, .ref q12, .int 0, .int 0, .int 0, .int 0] :: ((((([yA q7 (G.1 0) 40 (fun _ => 0)] ++ [yA q8 (G.1 0) 40 (fun _ => 0)]) ++ [yA q9 (G.1 0) 40 (fun _ => 0)]) ++ [yA q10 (G.1 0) 40 (fun _ => 0)]) ++ [yA q11 (G.1 0) 40 (fun _ => 0)]) ++ [yA q12 (G.1 0) 40 (fun _ => 0)]))) ++ (yO q13 9 [.ref q14, .ref q15, .ref q16, .ref q17, .int 0, .int 0, .int 0] :: ((([yQ q14 (G.1 2) 800] ++ [yA q15 (G.1 0) 800 (fun _ => 0)]) ++ [yA q16 (G.1 0) 800 (fun _ => 0)]) ++ [yA q17 (G.1 0) 800 (fun _ => 0)])))) H := ⟨hP, hD⟩
  exact yev hx hb hr hlocks hA hw hK hS ⟨q1, q2, r3, q4, r5, q6, q7, q8, q9, q10, q11, q12, q13, q14, q15, q16, q17, rfl⟩ dX4_init_52
set_option maxHeartbeats 4000000 in
set_option maxRecDepth 100000 in
theorem c_X7_init {l : Launch} {G : PvG} {tys : List (ClassId × FieldType)} (htys : tys = pvT G) {X : va_W} {k a : Nat}  (hX : X[k]? = some (yO a 8 [.null, .null, .null]))  : Met l yX7_init (Cond.code yX7_init cX7_init 1 none :: WA) ({ frames := 5, cells := 10, slots := 58, locals := 96 }) (va_Pc [.ref a] (pvY G tys X)) (va_Qv (fun X' : va_W => ∃ (q1 : Nat) (q2 : Nat) (q3 : Nat) (q4 : Nat) (q5 : Nat) (q6 : Nat) (q7 : Nat) (q8 : Nat) (q9 : Nat) (q10 : Nat), X' = X.set k (yO a 8 [.ref q1, .ref q2, .ref q3]) ++ (((yO q1 0 [.int 0, .ref (G.2.2.2.1.1 0), .int 0] :: []) ++ (yO q2 0 [.int 0, .ref (G.2.2.2.1.1 0), .int 0] :: [])) ++ (yO q3 4 [.int 0, .int 0, .int 0, .ref q4, .ref q6, .ref q7, .ref q8, .ref q5, .null, .int 0, .int 0, .int 0, .int 0, .int 0] :: (((((yO q4 0 [.int 0, .ref (G.2.2.2.1.1 0), .int 0] :: []) ++ (yO q5 2 [.int 0, .int 0, .int 0, .int 0, .int 0] :: [])) ++ [yA q6 (G.1 0) 0 (fun _ => 0)]) ++ [yA q7 (G.1 0) 14 (dcl 14)]) ++ (yO q8 3 [.int 0, .null, .int 0, .int 0, .int 0, .int 0, .int 0, .int 0, .int 0, .int 0, .int 0, .int 0, .int 0, .int 0, .ref q9, .ref q10] :: ([yA q9 (G.1 0) 0 (fun _ => 0)] ++ [yA q10 (G.1 0) 0 (fun _ => 0)])))))) (pvY G tys) (pvB G)) 10 58 (pvB G) := by
  refine Met.ofW (cc := cX7_init) (maxL := 1) (ret := none) (by decide) rfl ?_
  intro p e s m args below meth c s₁ B hml hv
  obtain ⟨rfl, hw, hK, hA⟩ := hv
  have hx := B.exec
  have hb := B.bytes
  have hr := B.returns
  have hts0 := atoms_spec (ws := (Cond.code yX7_init cX7_init 1 none :: WA)) B.pre
  have hts : ∀ w ∈ WA, w.before _ s = true := fun w h => hts0 w (List.mem_cons_of_mem _ h)
  have hown : s.vm.findClass RX7 = some m.cls := findClass_of_methodNamed B.named
  have hlocks := B.notSynchronized
  have hin : meth.name = "<init>" := (name_of_methodNamed B.named B.method).1
  have hS : va_S (pvB G) s.heap s.heap [] := va_S.rf
  have hk := y_lt hX
  rw [y_start hX] at hw
  have hl := lv_entry ([.ref a]) (n := 1) (Nat.le_of_ble_eq_true rfl)
  rw [lg_entry_eq]
  generalize (lg_sl ([.ref a]) ++ List.replicate (1 - (lg_sl ([.ref a])).length) Slot.unset).toArray = ls at hl ⊢
  have hl : lv_has ls 1 [(0, .ref a)] := hl
  refine lv_aload_n hx hb dX7_init_0 rfl (lv_at hl 0 rfl) ?_
  refine yobj hx hb (hml.trans hl.1.symm) hown (hts _ wm38) (hts _ wm8) (hts _ wm9) dX7_init_1 (Nat.le_of_ble_eq_true rfl) (Nat.le_of_ble_eq_true rfl) ?_
  refine lv_aload_n hx hb dX7_init_4 rfl (lv_at hl 0 rfl) ?_
  refine va_new (D := G.2.1) (ci := 0) (fs := [.int 0, .null, .int 0]) (C := RJx4a65c) (T := TJx4a65c) (N := 3) hx hb hts inF_Jx4a65c tyJx4a65c tyJx4a65c_ok hown (hts _ wm39) (hts _ wm12) (hts _ wm13) hK hw.1 hw.2 hS hA.1 rfl (fun j hj => by rcases (show j = 0 ∨ j = 1 ∨ j = 2 by omega) with rfl | rfl | rfl <;> rfl) (Nat.le_of_ble_eq_true rfl) (Nat.le_of_ble_eq_true rfl) dX7_init_5 (fun q1 H hP hD hS => ?_)
  have hw : yP G ((X.set k (yO a 8 [.null, .null, .null]) ++ []) ++ [yO q1 0 [.int 0, .null, .int 0]]) H := ⟨hP, hD⟩
  refine lv_dup hx hb dX7_init_8 rfl ?_
  refine ycallv (va_runI (As := []) (rest := [.ref q1, .ref a]) ⟨hx, hb, hml, hown, hts⟩ (c_Jx4a65c_init_da8c8 (l := l) (G := G) (tys := tys) htys (X := ((X.set k (yO a 8 [.null, .null, .null]) ++ []) ++ [yO q1 0 [.int 0, .null, .int 0]])) (k := (X.set k (yO a 8 [.null, .null, .null]) ++ []).length) (a := q1)  y_last) (cwI 0 hts (gNA wm45) rfl rfl rfl (hts _ wm13) (hts _ wm43) (hts _ wm44) rfl (by decide +kernel) ⟨Nat.le_of_ble_eq_true rfl, Nat.le_of_ble_eq_true rfl⟩) (y_pre hA hS hw hK _) rfl rfl hl.1 rfl (lv_room (Nat.le_of_ble_eq_true rfl)) dX7_init_9 ⟨Nat.le_of_ble_eq_true rfl, Nat.le_of_ble_eq_true rfl⟩) hS (fun X1 H locs hp hw hS => ?_)
  obtain ⟨rfl⟩ := hp
  rw [y_back, List.append_assoc] at hw
  have hw : yP G (X.set k (yO a 8 [.null, .null, .null]) ++ (yO q1 0 [.int 0, .ref (G.2.2.2.1.1 0), .int 0] :: [])) H := hw
  refine va_putF (D := G.2.1) (ci := 8) (C := RX7) (T := TX7) (N := 3) hx hb hts inF_X7 tyX7 tyX7_ok nmX7 hown hK hw.1 hw.2 hS k (y_at0 hk) rfl 0 (by decide) (hts _ wm32) (fun _ h9 => h9) rfl hin rfl (ty := .object "java/util/ArrayList") (v := .ref q1) (by decide +kernel) rfl rfl (Nat.le_of_ble_eq_true rfl) dX7_init_12 (fun H locs hP hD hS => ?_)
  rw [y_set0 hk] at hP hD
  have hw : yP G (X.set k (yO a 8 [.ref q1, .null, .null]) ++ (yO q1 0 [.int 0, .ref (G.2.2.2.1.1 0), .int 0] :: [])) H := ⟨hP, hD⟩
  refine lv_aload_n hx hb dX7_init_15 rfl (lv_at hl 0 rfl) ?_
  refine va_new (D := G.2.1) (ci := 0) (fs := [.int 0, .null, .int 0]) (C := RJx4a65c) (T := TJx4a65c) (N := 3) hx hb hts inF_Jx4a65c tyJx4a65c tyJx4a65c_ok hown (hts _ wm39) (hts _ wm12) (hts _ wm13) hK hw.1 hw.2 hS hA.1 rfl (fun j hj => by rcases (show j = 0 ∨ j = 1 ∨ j = 2 by omega) with rfl | rfl | rfl <;> rfl) (Nat.le_of_ble_eq_true rfl) (Nat.le_of_ble_eq_true rfl) dX7_init_16 (fun q2 H hP hD hS => ?_)
  have hw : yP G ((X.set k (yO a 8 [.ref q1, .null, .null]) ++ (yO q1 0 [.int 0, .ref (G.2.2.2.1.1 0), .int 0] :: [])) ++ [yO q2 0 [.int 0, .null, .int 0]]) H := ⟨hP, hD⟩
  refine lv_dup hx hb dX7_init_19 rfl ?_
  refine ycallv (va_runI (As := []) (rest := [.ref q2, .ref a]) ⟨hx, hb, hml, hown, hts⟩ (c_Jx4a65c_init_da8c8 (l := l) (G := G) (tys := tys) htys (X := ((X.set k (yO a 8 [.ref q1, .null, .null]) ++ (yO q1 0 [.int 0, .ref (G.2.2.2.1.1 0), .int 0] :: [])) ++ [yO q2 0 [.int 0, .null, .int 0]])) (k := (X.set k (yO a 8 [.ref q1, .null, .null]) ++ (yO q1 0 [.int 0, .ref (G.2.2.2.1.1 0), .int 0] :: [])).length) (a := q2)  y_last) (cwI 0 hts (gNA wm45) rfl rfl rfl (hts _ wm13) (hts _ wm43) (hts _ wm44) rfl (by decide +kernel) ⟨Nat.le_of_ble_eq_true rfl, Nat.le_of_ble_eq_true rfl⟩) (y_pre hA hS hw hK _) rfl rfl hl.1 rfl (lv_room (Nat.le_of_ble_eq_true rfl)) dX7_init_20 ⟨Nat.le_of_ble_eq_true rfl, Nat.le_of_ble_eq_true rfl⟩) hS (fun X1 H locs hp hw hS => ?_)
  obtain ⟨rfl⟩ := hp
  rw [y_back, List.append_assoc] at hw
  have hw : yP G (X.set k (yO a 8 [.ref q1, .null, .null]) ++ ((yO q1 0 [.int 0, .ref (G.2.2.2.1.1 0), .int 0] :: []) ++ (yO q2 0 [.int 0, .ref (G.2.2.2.1.1 0), .int 0] :: []))) H := hw
  refine va_putF (D := G.2.1) (ci := 8) (C := RX7) (T := TX7) (N := 3) hx hb hts inF_X7 tyX7 tyX7_ok nmX7 hown hK hw.1 hw.2 hS k (y_at0 hk) rfl 1 (by decide) (hts _ wm34) (fun _ h9 => h9) rfl hin rfl (ty := .object "java/util/ArrayList") (v := .ref q2) (by decide +kernel) rfl rfl (Nat.le_of_ble_eq_true rfl) dX7_init_23 (fun H locs hP hD hS => ?_)
  rw [y_set0 hk] at hP hD
  have hw : yP G (X.set k (yO a 8 [.ref q1, .ref q2, .null]) ++ ((yO q1 0 [.int 0, .ref (G.2.2.2.1.1 0), .int 0] :: []) ++ (yO q2 0 [.int 0, .ref (G.2.2.2.1.1 0), .int 0] :: []))) H := ⟨hP, hD⟩
  refine lv_aload_n hx hb dX7_init_26 rfl (lv_at hl 0 rfl) ?_
  refine va_new (D := G.2.1) (ci := 4) (fs := [.int 0, .int 0, .int 0, .null, .null, .null, .null, .null, .null, .int 0, .int 0, .int 0, .int 0, .int 0]) (C := RX3) (T := TX3) (N := 14) hx hb hts inF_X3 tyX3 tyX3_ok hown (hts _ wm40) (hts _ wm41) (hts _ wm42) hK hw.1 hw.2 hS hA.1 rfl (fun j hj => by rcases (show j = 0 ∨ j = 1 ∨ j = 2 ∨ j = 3 ∨ j = 4 ∨ j = 5 ∨ j = 6 ∨ j = 7 ∨ j = 8 ∨ j = 9 ∨ j = 10 ∨ j = 11 ∨ j = 12 ∨ j = 13 by omega) with rfl | rfl | rfl | rfl | rfl | rfl | rfl | rfl | rfl | rfl | rfl | rfl | rfl | rfl <;> rfl) (Nat.le_of_ble_eq_true rfl) (Nat.le_of_ble_eq_true rfl) dX7_init_27 (fun q3 H hP hD hS => ?_)
  have hw : yP G ((X.set k (yO a 8 [.ref q1, .ref q2, .null]) ++ ((yO q1 0 [.int 0, .ref (G.2.2.2.1.1 0), .int 0] :: []) ++ (yO q2 0 [.int 0, .ref (G.2.2.2.1.1 0), .int 0] :: []))) ++ [yO q3 4 [.int 0, .int 0, .int 0, .null, .null, .null, .null, .null, .null, .int 0, .int 0, .int 0, .int 0, .int 0]]) H := ⟨hP, hD⟩
  refine lv_dup hx hb dX7_init_30 rfl ?_
  refine lv_iconst (v := 0) hx hb dX7_init_31 (by decide) ?_
  refine lv_iconst (v := 0) hx hb dX7_init_32 (by decide) ?_
  refine lv_iconst (v := 0) hx hb dX7_init_33 (by decide) ?_
  refine ycallv (va_runI (As := [.int 0, .int 0, .int 0]) (rest := [.ref q3, .ref a]) ⟨hx, hb, hml, hown, hts⟩ (c_X3_init0 (l := l) (G := G) (tys := tys) htys (X := ((X.set k (yO a 8 [.ref q1, .ref q2, .null]) ++ ((yO q1 0 [.int 0, .ref (G.2.2.2.1.1 0), .int 0] :: []) ++ (yO q2 0 [.int 0, .ref (G.2.2.2.1.1 0), .int 0] :: []))) ++ [yO q3 4 [.int 0, .int 0, .int 0, .null, .null, .null, .null, .null, .null, .int 0, .int 0, .int 0, .int 0, .int 0]])) (k := (X.set k (yO a 8 [.ref q1, .ref q2, .null]) ++ ((yO q1 0 [.int 0, .ref (G.2.2.2.1.1 0), .int 0] :: []) ++ (yO q2 0 [.int 0, .ref (G.2.2.2.1.1 0), .int 0] :: []))).length) (a := q3) (x := 0) (y := 0) y_last) (cwI 3 hts (gNA wm60) rfl rfl rfl (hts _ wm42) (hts _ wm58) (hts _ wm59) rfl (by decide +kernel) ⟨Nat.le_of_ble_eq_true rfl, Nat.le_of_ble_eq_true rfl⟩) (y_pre hA hS hw hK _) rfl rfl hl.1 rfl (lv_room (Nat.le_of_ble_eq_true rfl)) dX7_init_34 ⟨Nat.le_of_ble_eq_true rfl, Nat.le_of_ble_eq_true rfl⟩) hS (fun X1 H locs hp hw hS => ?_)
  obtain ⟨q4, q5, q6, q7, q8, q9, q10, rfl⟩ := hp
  rw [y_back, List.append_assoc] at hw
  have hw : yP G (X.set k (yO a 8 [.ref q1, .ref q2, .null]) ++ (((yO q1 0 [.int 0, .ref (G.2.2.2.1.1 0), .int 0] :: []) ++ (yO q2 0 [.int 0, .ref (G.2.2.2.1.1 0), .int 0] :: [])) ++ (yO q3 4 [.int 0, .int 0, .int 0, .ref q4, .ref q6, .ref q7, .ref q8, .ref q5, .null, .int 0, .int 0, .int 0, .int 0, .int 0] :: (((((yO q4 0 [.int 0, .ref (G.2.2.2.1.1 0), .int 0] :: []) ++ (yO q5 2 [.int 0, .int 0, .int 0, .int 0, .int 0] :: [])) ++ [yA q6 (G.1 0) 0 (fun _ => 0)]) ++ [yA q7 (G.1 0) 14 (dcl 14)]) ++ (yO q8 3 [.int 0, .null, .int 0, .int 0, .int 0, .int 0, .int 0, .int 0, .int 0, .int 0, .int 0, .int 0, .int 0, .int 0, .ref q9, .ref q10] :: ([yA q9 (G.1 0) 0 (fun _ => 0)] ++ [yA q10 (G.1 0) 0 (fun _ => 0)])))))) H := hw
  refine va_putF (D := G.2.1) (ci := 8) (C := RX7) (T := TX7) (N := 3) hx hb hts inF_X7 tyX7 tyX7_ok nmX7 hown hK hw.1 hw.2 hS k (y_at0 hk) rfl 2 (by decide) (hts _ wm33) (fun _ h9 => h9) rfl hin rfl (ty := .object "PinnaceView$Node") (v := .ref q3) (by decide +kernel) rfl rfl (Nat.le_of_ble_eq_true rfl) dX7_init_37 (fun H locs hP hD hS => ?_)
  rw [y_set0 hk] at hP hD
  have hw : yP G (X.set k (yO a 8 [.ref q1, .ref q2, .ref q3]) ++ (((yO q1 0 [.int 0, .ref (G.2.2.2.1.1 0), .int 0] :: []) ++ (yO q2 0 [.int 0, .ref (G.2.2.2.1.1 0), .int 0] :: [])) ++ (yO q3 4 [.int 0, .int 0, .int 0, .ref q4, .ref q6, .ref q7, .ref q8, .ref q5, .null, .int 0, .int 0, .int 0, .int 0, .int 0] :: (((((yO q4 0 [.int 0, .ref (G.2.2.2.1.1 0), .int 0] :: []) ++ (yO q5 2 [.int 0, .int 0, .int 0, .int 0, .int 0] :: [])) ++ [yA q6 (G.1 0) 0 (fun _ => 0)]) ++ [yA q7 (G.1 0) 14 (dcl 14)]) ++ (yO q8 3 [.int 0, .null, .int 0, .int 0, .int 0, .int 0, .int 0, .int 0, .int 0, .int 0, .int 0, .int 0, .int 0, .int 0, .ref q9, .ref q10] :: ([yA q9 (G.1 0) 0 (fun _ => 0)] ++ [yA q10 (G.1 0) 0 (fun _ => 0)])))))) H := ⟨hP, hD⟩
  exact yev hx hb hr hlocks hA hw hK hS ⟨q1, q2, q3, q4, q5, q6, q7, q8, q9, q10, rfl⟩ dX7_init_40
