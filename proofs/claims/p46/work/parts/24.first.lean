/-! A LIST'S FIRST ELEMENT, while nothing is in the pool yet -/
abbrev yR (q : Nat) (cy : ClassId) (N : Nat) (f : Nat → Option Nat) : Nat × va_E := (q, .inl (cy, N, .inr (.inr (.inr (.inr f)))))
section YR3
variable {p : Program} {l : Launch} {e : Env} {R : Room} {s : State} {m : MethodId} {args : Array Value} {below : List Frame} {meth : Method} {c : Code} {H : Heap} {locs : List Loc} {cells slots : Nat} {Q : State → Prop}
variable {cc : ByteArray} {pc : Nat} {ls : Array Slot} {rest st0 : List Value} {a : Array Value} {tys : List (ClassId × FieldType)} {H0 : Heap} {G : PvG} {X : va_W} {mc ms : Nat}
theorem y_recv {k q ci : Nat} {fs : List Value} {C : String} {T : u_T} {N : Nat} (hw : yP G X H) (hK : va_K G.2.1 pvC tys s) (hc : pvC[ci]? = some (C, T, N)) (h : X[k]? = some (yO q ci fs)) : ∃ cell : Cell, H[q]? = some cell ∧ cell.vm.isStatics = false ∧ s.vm.findClass C = some cell.cls :=
  va_recv (ci := ci) hK hw.1 hc h
theorem y_preV {k q ci : Nat} {fs : List Value} {C : String} {T : u_T} {N : Nat} (hA : pvA0 G s s.heap) (hS : va_S (pvB G) s.heap H locs) (hw : yP G X H) (hK : va_K G.2.1 pvC tys s) (hc : pvC[ci]? = some (C, T, N)) (h : X[k]? = some (yO q ci fs)) (As : List Value) : PreV s H C q (va_Pc (.ref q :: As) (pvY G tys X)) As :=
  ⟨pvY_calling, y_recv hw hK hc h, fun U hU hW => ⟨rfl, by rw [hU]; exact hw, va_K.moved hW.alike hK, hA.to hS hW hU⟩⟩
theorem y_any {k q : Nat} {fs : List Value} (hA : pvA0 G s s.heap) (hK : va_K G.2.1 pvC tys s) (hw : yP G X H) (h : X[k]? = some (yO q 4 fs)) : va_Any "java/lang/Object" s H q := by
  have hcast : ∀ C : String, va_Nw (.castable C "java/lang/Object") s → ∀ comp c0 : ClassId, s.vm.findClass "java/lang/Object" = some comp → s.vm.findClass C = some c0 → s.vm.assignable c0 comp = true := by
    intro C h comp c0 h1 h2
    obtain ⟨c1, t1, f1, f2, f3⟩ := Cond.castable_spec (va_Nw.use (A := #[]) rfl h)
    cases h2.symm.trans f1
    cases h1.symm.trans f2
    exact f3
  exact va_rAny (r := (RX3, TX3, 14)) hK hw.1 h rfl (hcast _ hA.2.2.2.2.2.2.2.2.2.2.2.1)
theorem y_ne {k k' : Nat} {e e' : Nat × va_E} {l : va_W} (hk : k < X.length) (h : X[k']? = some e') (hn : k' ≠ k) : (X.set k e ++ l)[k']? = some e' := by
  rw [List.getElem?_append_left (by rw [List.length_set]; exact y_lt h), List.getElem?_set_ne (Ne.symm hn)]; exact h
end YR3
set_option maxHeartbeats 4000000 in
set_option maxRecDepth 100000 in
theorem c_ygrow1 {l : Launch} {G : PvG} {tys : List (ClassId × FieldType)} (htys : tys = pvT G) {X : va_W} {k a : Nat} {mm z : Int32} (hX : X[k]? = some (yO a 0 [.int mm, .ref (G.2.2.2.1.1 0), .int z])) : Met l yJx4a65c_grow_92f84 (Cond.code yJx4a65c_grow_92f84 cJx4a65c_grow_92f84 4 (some (.array (.object "java/lang/Object"))) :: WA) ({ frames := 1, cells := 1, slots := 10, locals := 40 }) (va_Pc [.ref a, .int 1] (pvY G tys X)) (va_Qq (fun r (q : Nat) => r = some q) (fun q => pvY G tys (X.set k (yO a 0 [.int mm, .ref q, .int z]) ++ [yQ q (G.1 3) 10])) (pvB G)) 1 10 (pvB G) := by
  refine Met.ofW (cc := cJx4a65c_grow_92f84) (maxL := 4) (ret := (some (.array (.object "java/lang/Object")))) (by decide) rfl ?_
  intro p e s m args below meth c s₁ B hml hv
  obtain ⟨rfl, hw, hK, hA⟩ := hv
  have hx := B.exec
  have hb := B.bytes
  have hr := B.returns
  have hts0 := atoms_spec (ws := (Cond.code yJx4a65c_grow_92f84 cJx4a65c_grow_92f84 4 (some (.array (.object "java/lang/Object"))) :: WA)) B.pre
  have hts : ∀ w ∈ WA, w.before _ s = true := fun w h => hts0 w (List.mem_cons_of_mem _ h)
  have hown : s.vm.findClass RJx4a65c = some m.cls := findClass_of_methodNamed B.named
  have hlocks := B.notSynchronized
  have hS : va_S (pvB G) s.heap s.heap [] := va_S.rf
  have hl := lv_entry ([.ref a, .int 1]) (n := 4) (Nat.le_of_ble_eq_true rfl)
  rw [lg_entry_eq]
  generalize (lg_sl ([.ref a, .int 1]) ++ List.replicate (4 - (lg_sl ([.ref a, .int 1])).length) Slot.unset).toArray = ls at hl ⊢
  have hl : lv_has ls 4 [(0, .ref a), (1, .int 1)] := hl
  have hk := y_lt hX
  rw [y_start hX] at hw
  refine lv_aload_n hx hb dJx4a65c_grow_92f84_0 rfl (lv_at hl 0 rfl) ?_
  refine va_get (D := G.2.1) (ci := 0) (C := RJx4a65c) (T := TJx4a65c) (N := 3) hx hb hts inF_Jx4a65c hown hK hw.1 k (y_at0 hk) rfl 1 (by decide) (hts _ wm47) (fun _ h9 => h9) rfl dJx4a65c_grow_92f84_1 ?_
  refine va_tlen hx hb hA.2.1.1.2 hS (v := 0) rfl dJx4a65c_grow_92f84_4 ?_
  refine lv_istore_n (lv' := [(2, .int 0), (0, .ref a), (1, .int 1)]) hx hb dJx4a65c_grow_92f84_5 rfl hl (by decide) rfl (fun ls hl => ?_)
  refine lv_iload_n hx hb dJx4a65c_grow_92f84_6 rfl (lv_at hl 0 rfl) ?_
  refine lv_if_gt (tgt := 20) hx hb dJx4a65c_grow_92f84_7 (by decide) (fun z => absurd z (by decide)) (fun _ => ?_)
  refine lv_aload_n hx hb dJx4a65c_grow_92f84_10 rfl (lv_at hl 1 rfl) ?_
  refine va_get (D := G.2.1) (ci := 0) (C := RJx4a65c) (T := TJx4a65c) (N := 3) hx hb hts inF_Jx4a65c hown hK hw.1 k (y_at0 hk) rfl 1 (by decide) (hts _ wm47) (fun _ h9 => h9) rfl dJx4a65c_grow_92f84_11 ?_
  refine va_gets (C := RJx4a65c) hx hb hA.2.1.1.1 hS hown (hts _ wm46) (fun _ h9 => h9) dJx4a65c_grow_92f84_14 ?_
  refine lv_acmp_eq (rx := some (G.2.2.2.1.1 0)) (ry := some (G.2.2.2.1.1 0)) (tgt := 45) hx hb dJx4a65c_grow_92f84_17 (by decide) (fun _ => ?_) (fun z => absurd rfl z)
  refine lv_aload_n hx hb dJx4a65c_grow_92f84_45 rfl (lv_at hl 1 rfl) ?_
  refine lv_bipush (v := 10) hx hb dJx4a65c_grow_92f84_46 (by decide) ?_
  refine lv_iload_n hx hb dJx4a65c_grow_92f84_48 rfl (lv_at hl 2 rfl) ?_
  refine pmmax hx hb (hml.trans hl.1.symm) hown (hts _ wm135) (hts _ wm111) (hts _ wm112) (hts _ wm113) (Nat.le_of_ble_eq_true rfl) (Nat.le_of_ble_eq_true rfl) (Nat.zero_le _) (Nat.zero_le _) dJx4a65c_grow_92f84_49 ?_
  rw [show imax 10 1 = 10 from by decide]
  refine va_newq (D := G.2.1) (N' := 10) hx hb hown (hts _ wm136) hA.2.2.2.2.2.2.2.2.2.2.2.2.2.1 hK hw.1 hw.2 hS hA.1 (by decide) (by decide) (by decide) (Nat.le_of_ble_eq_true rfl) (Nat.le_of_ble_eq_true rfl) dJx4a65c_grow_92f84_52 (fun q cA H hK1 hP hD hS => ?_)
  have e0 : cA = G.1 3 := y_clsO (k := 3) hK1 (by rw [htys]; rfl)
  subst e0
  have hw : yP G (X.set k (yO a 0 [.int mm, .ref (G.2.2.2.1.1 0), .int z]) ++ [yQ q (G.1 3) 10]) H := by rw [List.append_assoc] at hP hD; exact ⟨hP, hD⟩
  refine lv_dup_x1 hx hb dJx4a65c_grow_92f84_55 rfl rfl ?_
  refine va_put (D := G.2.1) (ci := 0) (C := RJx4a65c) (T := TJx4a65c) (N := 3) hx hb hts inF_Jx4a65c tyJx4a65c tyJx4a65c_ok nmJx4a65c hown hK hw.1 hw.2 hS k (y_at0 hk) rfl 1 (by decide) (hts _ wm47) (fun _ h9 => h9) rfl (ty := .array (.object "java/lang/Object")) (v := .ref q) (by decide +kernel) rfl rfl (Nat.le_of_ble_eq_true rfl) dJx4a65c_grow_92f84_56 (fun H locs hP hD hS => ?_)
  rw [y_set0 hk] at hP hD
  have hw : yP G (X.set k (yO a 0 [.int mm, .ref q, .int z]) ++ [yQ q (G.1 3) 10]) H := ⟨hP, hD⟩
  exact W.aret (v := .ref q) hx hb hr (Or.inr ⟨_, rfl⟩) (Or.inr ⟨_, rfl⟩) (fun t ht hW => ⟨⟨some q, q, rfl, rfl, by rw [ht]; exact hw, va_K.moved hW.alike hK, hA.to hS hW ht⟩, hS.F ht⟩) hS.2.2 dJx4a65c_grow_92f84_59
set_option maxHeartbeats 4000000 in
set_option maxRecDepth 100000 in
theorem c_ygrow0 {l : Launch} {G : PvG} {tys : List (ClassId × FieldType)} (htys : tys = pvT G) {X : va_W} {k a : Nat} {mm : Int32} (hX : X[k]? = some (yO a 0 [.int mm, .ref (G.2.2.2.1.1 0), .int 0])) : Met l yJx4a65c_grow_d5877 (Cond.code yJx4a65c_grow_d5877 cJx4a65c_grow_d5877 1 (some (.array (.object "java/lang/Object"))) :: WA) ({ frames := 2, cells := 1, slots := 10, locals := 70 }) (va_Pc [.ref a] (pvY G tys X)) (va_Qq (fun r (q : Nat) => r = some q) (fun q => pvY G tys (X.set k (yO a 0 [.int mm, .ref q, .int 0]) ++ [yQ q (G.1 3) 10])) (pvB G)) 1 10 (pvB G) := by
  refine Met.ofW (cc := cJx4a65c_grow_d5877) (maxL := 1) (ret := (some (.array (.object "java/lang/Object")))) (by decide) rfl ?_
  intro p e s m args below meth c s₁ B hml hv
  obtain ⟨rfl, hw, hK, hA⟩ := hv
  have hx := B.exec
  have hb := B.bytes
  have hr := B.returns
  have hts0 := atoms_spec (ws := (Cond.code yJx4a65c_grow_d5877 cJx4a65c_grow_d5877 1 (some (.array (.object "java/lang/Object"))) :: WA)) B.pre
  have hts : ∀ w ∈ WA, w.before _ s = true := fun w h => hts0 w (List.mem_cons_of_mem _ h)
  have hown : s.vm.findClass RJx4a65c = some m.cls := findClass_of_methodNamed B.named
  have hlocks := B.notSynchronized
  have hS : va_S (pvB G) s.heap s.heap [] := va_S.rf
  have hl := lv_entry ([.ref a]) (n := 1) (Nat.le_of_ble_eq_true rfl)
  rw [lg_entry_eq]
  generalize (lg_sl ([.ref a]) ++ List.replicate (1 - (lg_sl ([.ref a])).length) Slot.unset).toArray = ls at hl ⊢
  have hl : lv_has ls 1 [(0, .ref a)] := hl
  have hk := y_lt hX
  have hw0 := hw
  rw [y_start hX] at hw
  refine lv_aload_n hx hb dJx4a65c_grow_d5877_0 rfl (lv_at hl 0 rfl) ?_
  refine lv_aload_n hx hb dJx4a65c_grow_d5877_1 rfl (lv_at hl 0 rfl) ?_
  refine va_get (D := G.2.1) (ci := 0) (C := RJx4a65c) (T := TJx4a65c) (N := 3) hx hb hts inF_Jx4a65c hown hK hw.1 k (y_at0 hk) rfl 2 (by decide) (hts _ wm122) (fun _ h9 => h9) rfl dJx4a65c_grow_d5877_2 ?_
  refine lv_iconst (v := 1) hx hb dJx4a65c_grow_d5877_5 (by decide) ?_
  refine lv_iadd hx hb dJx4a65c_grow_d5877_6 ?_
  rw [show (0 : Int32) + 1 = 1 from rfl]
  refine va_callq (va_runV (As := [.int 1]) (rest := []) ⟨hx, hb, hml, hown, hts⟩ (c_ygrow1 (l := l) (G := G) (tys := tys) htys hX) (cwV 1 hts (gVA wm131 wm132 wm133 wm13 wm134) rfl rfl rfl (by decide +kernel) ⟨Nat.le_of_ble_eq_true rfl, Nat.le_of_ble_eq_true rfl⟩) (y_preV hA hS hw0 hK rfl hX [.int 1]) rfl rfl hl.1 rfl (lv_room (Nat.le_of_ble_eq_true rfl)) dJx4a65c_grow_d5877_7 ⟨Nat.le_of_ble_eq_true rfl, Nat.le_of_ble_eq_true rfl⟩) hS (fun _ _ h => h) (fun _ h => h) (fun r q t H locs ht hvm hp hB _ _ hS => ?_)
  subst hp
  have hw := hB.1
  rw [ht] at hw
  exact W.aret (v := .ref q) hx hb hr (Or.inr ⟨_, rfl⟩) (Or.inr ⟨_, rfl⟩) (fun t ht hW => ⟨⟨some q, q, rfl, rfl, by rw [ht]; exact hw, va_K.moved hW.alike hK, hA.to hS hW ht⟩, hS.F ht⟩) hS.2.2 dJx4a65c_grow_d5877_10
set_option maxHeartbeats 4000000 in
set_option maxRecDepth 100000 in
theorem c_yadd3 {l : Launch} {G : PvG} {tys : List (ClassId × FieldType)} (htys : tys = pvT G) {X : va_W} {k a : Nat} {mm : Int32} (hX : X[k]? = some (yO a 0 [.int mm, .ref (G.2.2.2.1.1 0), .int 0])) {kv v : Nat} {fv : List Value} (hV : X[kv]? = some (yO v 4 fv)) (hn : kv ≠ k) : Met l yJx4a65c_add_72be8 (Cond.code yJx4a65c_add_72be8 cJx4a65c_add_72be8 4 none :: WA) ({ frames := 3, cells := 1, slots := 10, locals := 100 }) (va_Pc [.ref a, .ref v, .ref (G.2.2.2.1.1 0), .int 0] (pvY G tys X)) (va_Qv (fun X1 : va_W => ∃ q : Nat, X1 = X.set k (yO a 0 [.int mm, .ref q, .int 1]) ++ [yR q (G.1 3) 10 (va_up (fun _ => none) 0 (some v))]) (pvY G tys) (pvB G)) 1 10 (pvB G) := by
  refine Met.ofW (cc := cJx4a65c_add_72be8) (maxL := 4) (ret := none) (by decide) rfl ?_
  intro p e s m args below meth c s₁ B hml hv
  obtain ⟨rfl, hw, hK, hA⟩ := hv
  have hx := B.exec
  have hb := B.bytes
  have hr := B.returns
  have hts0 := atoms_spec (ws := (Cond.code yJx4a65c_add_72be8 cJx4a65c_add_72be8 4 none :: WA)) B.pre
  have hts : ∀ w ∈ WA, w.before _ s = true := fun w h => hts0 w (List.mem_cons_of_mem _ h)
  have hown : s.vm.findClass RJx4a65c = some m.cls := findClass_of_methodNamed B.named
  have hlocks := B.notSynchronized
  have hS : va_S (pvB G) s.heap s.heap [] := va_S.rf
  have hl := lv_entry ([.ref a, .ref v, .ref (G.2.2.2.1.1 0), .int 0]) (n := 4) (Nat.le_of_ble_eq_true rfl)
  rw [lg_entry_eq]
  generalize (lg_sl ([.ref a, .ref v, .ref (G.2.2.2.1.1 0), .int 0]) ++ List.replicate (4 - (lg_sl ([.ref a, .ref v, .ref (G.2.2.2.1.1 0), .int 0])).length) Slot.unset).toArray = ls at hl ⊢
  have hl : lv_has ls 4 [(0, .ref a), (1, .ref v), (2, .ref (G.2.2.2.1.1 0)), (3, .int 0)] := hl
  have hk := y_lt hX
  have hw0 := hw
  refine lv_iload_n hx hb dJx4a65c_add_72be8_0 rfl (lv_at hl 3 rfl) ?_
  refine lv_aload_n hx hb dJx4a65c_add_72be8_1 rfl (lv_at hl 2 rfl) ?_
  refine va_tlen hx hb hA.2.1.1.2 hS (v := 0) rfl dJx4a65c_add_72be8_2 ?_
  refine lv_icmp_ne (tgt := 11) hx hb dJx4a65c_add_72be8_3 (by decide) (fun w => absurd rfl w) (fun _ => ?_)
  refine lv_aload_n hx hb dJx4a65c_add_72be8_6 rfl (lv_at hl 0 rfl) ?_
  refine va_callq (va_runV (As := []) (rest := []) ⟨hx, hb, hml, hown, hts⟩ (c_ygrow0 (l := l) (G := G) (tys := tys) htys hX) (cwV 0 hts (gVA wm127 wm128 wm129 wm13 wm130) rfl rfl rfl (by decide +kernel) ⟨Nat.le_of_ble_eq_true rfl, Nat.le_of_ble_eq_true rfl⟩) (y_preV hA hS hw0 hK rfl hX []) rfl rfl hl.1 rfl (lv_room (Nat.le_of_ble_eq_true rfl)) dJx4a65c_add_72be8_7 ⟨Nat.le_of_ble_eq_true rfl, Nat.le_of_ble_eq_true rfl⟩) hS (fun _ _ h => h) (fun _ h => h) (fun r q t H locs ht hvm hp hB _ _ hS => ?_)
  subst hp
  have hw := hB.1
  rw [ht] at hw
  have hw : yP G (X.set k (yO a 0 [.int mm, .ref q, .int 0]) ++ [yQ q (G.1 3) 10]) H := hw
  refine lv_astore_n (lv' := [(2, .ref q), (0, .ref a), (1, .ref v), (3, .int 0)]) hx hb dJx4a65c_add_72be8_10 rfl hl (by decide) rfl (fun ls hl => ?_)
  refine lv_aload_n hx hb dJx4a65c_add_72be8_11 rfl (lv_at hl 0 rfl) ?_
  refine lv_iload_n hx hb dJx4a65c_add_72be8_12 rfl (lv_at hl 3 rfl) ?_
  refine lv_aload_n hx hb dJx4a65c_add_72be8_13 rfl (lv_at hl 2 rfl) ?_
  refine va_astqM (D := G.2.1) hx hb hK hw.1 hw.2 hS (X.set k (yO a 0 [.int mm, .ref q, .int 0])).length 3 y_last (by rw [htys]; rfl) (y_any hA hK hw (y_ne hk hV hn)) (show vin 0 10 from by decide) dJx4a65c_add_72be8_14 (fun H locs hP hD hS => ?_)
  rw [y_setL] at hP hD
  have hw : yP G (X.set k (yO a 0 [.int mm, .ref q, .int 0]) ++ [yR q (G.1 3) 10 (va_up (fun _ => none) 0 (some v))]) H := ⟨hP, hD⟩
  refine lv_aload_n hx hb dJx4a65c_add_72be8_15 rfl (lv_at hl 1 rfl) ?_
  refine lv_iload_n hx hb dJx4a65c_add_72be8_16 rfl (lv_at hl 3 rfl) ?_
  refine lv_iconst (v := 1) hx hb dJx4a65c_add_72be8_17 (by decide) ?_
  refine lv_iadd hx hb dJx4a65c_add_72be8_18 ?_
  rw [show (0 : Int32) + 1 = 1 from rfl]
  refine va_put (D := G.2.1) (ci := 0) (C := RJx4a65c) (T := TJx4a65c) (N := 3) hx hb hts inF_Jx4a65c tyJx4a65c tyJx4a65c_ok nmJx4a65c hown hK hw.1 hw.2 hS k (y_at0 hk) rfl 2 (by decide) (hts _ wm122) (fun _ h9 => h9) rfl (ty := .int) (v := .int 1) (by decide +kernel) rfl rfl (Nat.le_of_ble_eq_true rfl) dJx4a65c_add_72be8_19 (fun H locs hP hD hS => ?_)
  rw [y_set0 hk] at hP hD
  have hw : yP G (X.set k (yO a 0 [.int mm, .ref q, .int 1]) ++ [yR q (G.1 3) 10 (va_up (fun _ => none) 0 (some v))]) H := ⟨hP, hD⟩
  exact yev hx hb hr hlocks hA hw hK hS ⟨q, rfl⟩ dJx4a65c_add_72be8_22
set_option maxHeartbeats 4000000 in
set_option maxRecDepth 100000 in
theorem c_yadd {l : Launch} {G : PvG} {tys : List (ClassId × FieldType)} (htys : tys = pvT G) {X : va_W} {k a : Nat} (hX : X[k]? = some (yO a 0 [.int 0, .ref (G.2.2.2.1.1 0), .int 0])) {kv v : Nat} {fv : List Value} (hV : X[kv]? = some (yO v 4 fv)) (hn : kv ≠ k) : Met l yJx4a65c_add_9ea2d (Cond.code yJx4a65c_add_9ea2d cJx4a65c_add_9ea2d 2 (some .boolean) :: WA) ({ frames := 4, cells := 1, slots := 10, locals := 130 }) (va_Pc [.ref a, .ref v] (pvY G tys X)) (va_Qi (fun r (X1 : va_W) => r = 1 ∧ ∃ q : Nat, X1 = X.set k (yO a 0 [.int 1, .ref q, .int 1]) ++ [yR q (G.1 3) 10 (va_up (fun _ => none) 0 (some v))]) (pvY G tys) (pvB G)) 1 10 (pvB G) := by
  refine Met.ofW (cc := cJx4a65c_add_9ea2d) (maxL := 2) (ret := (some .boolean)) (by decide) rfl ?_
  intro p e s m args below meth c s₁ B hml hv
  obtain ⟨rfl, hw, hK, hA⟩ := hv
  have hx := B.exec
  have hb := B.bytes
  have hr := B.returns
  have hts0 := atoms_spec (ws := (Cond.code yJx4a65c_add_9ea2d cJx4a65c_add_9ea2d 2 (some .boolean) :: WA)) B.pre
  have hts : ∀ w ∈ WA, w.before _ s = true := fun w h => hts0 w (List.mem_cons_of_mem _ h)
  have hown : s.vm.findClass RJx4a65c = some m.cls := findClass_of_methodNamed B.named
  have hlocks := B.notSynchronized
  have hS : va_S (pvB G) s.heap s.heap [] := va_S.rf
  have hl := lv_entry ([.ref a, .ref v]) (n := 2) (Nat.le_of_ble_eq_true rfl)
  rw [lg_entry_eq]
  generalize (lg_sl ([.ref a, .ref v]) ++ List.replicate (2 - (lg_sl ([.ref a, .ref v])).length) Slot.unset).toArray = ls at hl ⊢
  have hl : lv_has ls 2 [(0, .ref a), (1, .ref v)] := hl
  have hk := y_lt hX
  rw [y_start hX] at hw
  refine lv_aload_n hx hb dJx4a65c_add_9ea2d_0 rfl (lv_at hl 0 rfl) ?_
  refine lv_dup hx hb dJx4a65c_add_9ea2d_1 rfl ?_
  refine va_get (D := G.2.1) (ci := 0) (C := RJx4a65c) (T := TJx4a65c) (N := 3) hx hb hts inF_Jx4a65c hown hK hw.1 k (y_at0 hk) rfl 0 (by decide) (hts _ wm120) (fun x hx => u_same (hts _ wm121) x hx) rfl dJx4a65c_add_9ea2d_2 ?_
  refine lv_iconst (v := 1) hx hb dJx4a65c_add_9ea2d_5 (by decide) ?_
  refine lv_iadd hx hb dJx4a65c_add_9ea2d_6 ?_
  rw [show (0 : Int32) + 1 = 1 from rfl]
  refine va_put (D := G.2.1) (ci := 0) (C := RJx4a65c) (T := TJx4a65c) (N := 3) hx hb hts inF_Jx4a65c tyJx4a65c tyJx4a65c_ok nmJx4a65c hown hK hw.1 hw.2 hS k (y_at0 hk) rfl 0 (by decide) (hts _ wm120) (fun x hx => u_same (hts _ wm121) x hx) rfl (ty := .int) (v := .int 1) (by decide +kernel) rfl rfl (Nat.le_of_ble_eq_true rfl) dJx4a65c_add_9ea2d_7 (fun H locs hP hD hS => ?_)
  rw [y_set0 hk] at hP hD
  have hw : yP G (X.set k (yO a 0 [.int 1, .ref (G.2.2.2.1.1 0), .int 0]) ++ []) H := ⟨hP, hD⟩
  refine lv_aload_n hx hb dJx4a65c_add_9ea2d_10 rfl (lv_at hl 0 rfl) ?_
  refine lv_aload_n hx hb dJx4a65c_add_9ea2d_11 rfl (lv_at hl 1 rfl) ?_
  refine lv_aload_n hx hb dJx4a65c_add_9ea2d_12 rfl (lv_at hl 0 rfl) ?_
  refine va_get (D := G.2.1) (ci := 0) (C := RJx4a65c) (T := TJx4a65c) (N := 3) hx hb hts inF_Jx4a65c hown hK hw.1 k (y_at0 hk) rfl 1 (by decide) (hts _ wm47) (fun _ h9 => h9) rfl dJx4a65c_add_9ea2d_13 ?_
  refine lv_aload_n hx hb dJx4a65c_add_9ea2d_16 rfl (lv_at hl 0 rfl) ?_
  refine va_get (D := G.2.1) (ci := 0) (C := RJx4a65c) (T := TJx4a65c) (N := 3) hx hb hts inF_Jx4a65c hown hK hw.1 k (y_at0 hk) rfl 2 (by decide) (hts _ wm122) (fun _ h9 => h9) rfl dJx4a65c_add_9ea2d_17 ?_
  have hX1 : (X.set k (yO a 0 [.int 1, .ref (G.2.2.2.1.1 0), .int 0]) ++ [])[k]? = some (yO a 0 [.int 1, .ref (G.2.2.2.1.1 0), .int 0]) := y_at0 hk
  refine ycallv (va_runV (As := [.ref v, .ref (G.2.2.2.1.1 0), .int 0]) (rest := []) ⟨hx, hb, hml, hown, hts⟩ (c_yadd3 (l := l) (G := G) (tys := tys) htys hX1 (y_ne hk hV hn) hn) (cwV 3 hts (gVA wm123 wm124 wm125 wm13 wm126) rfl rfl rfl (by decide +kernel) ⟨Nat.le_of_ble_eq_true rfl, Nat.le_of_ble_eq_true rfl⟩) (y_preV hA hS hw hK rfl hX1 _) rfl rfl hl.1 rfl (lv_room (Nat.le_of_ble_eq_true rfl)) dJx4a65c_add_9ea2d_20 ⟨Nat.le_of_ble_eq_true rfl, Nat.le_of_ble_eq_true rfl⟩) hS (fun X1 H locs hp hw hS => ?_)
  obtain ⟨q, rfl⟩ := hp
  rw [y_set0 hk, List.append_assoc] at hw
  refine lv_iconst (v := 1) hx hb dJx4a65c_add_9ea2d_23 (by decide) ?_
  exact W.zret hx hb hr rfl (fun t ht hW => ⟨⟨1, _, rfl, ⟨rfl, q, rfl⟩, by rw [ht]; exact hw, va_K.moved hW.alike hK, hA.to hS hW ht⟩, hS.F ht⟩) hS.2.2 dJx4a65c_add_9ea2d_24 hlocks
theorem y_atj {A l : va_W} {j : Nat} {c : Nat × va_E} (h : l[j]? = some c) : (A ++ l)[A.length + j]? = some c := by
  rw [List.getElem?_append_right (by omega), show A.length + j - A.length = j by omega]; exact h
theorem y_setj {A l : va_W} {j : Nat} {c : Nat × va_E} : (A ++ l).set (A.length + j) c = A ++ l.set j c := by
  rw [List.set_append_right _ _ (by omega), show A.length + j - A.length = j by omega]
theorem y_atm {A l r : va_W} {c : Nat × va_E} : (A ++ (l ++ (c :: r)))[(A ++ l).length]? = some c := by
  rw [← List.append_assoc, List.getElem?_append_right (Nat.le_refl _)]; simp
