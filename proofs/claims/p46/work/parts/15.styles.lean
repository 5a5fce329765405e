def f_X9_isProperty (σ : PvS) (x0 : Int32) : Option Int32 :=
  if x0 < 0 then (some 0) else (if 14 ≤ x0 then (some 0) else (some 1))
set_option maxHeartbeats 4000000 in
set_option maxRecDepth 100000 in
theorem c_X9_isProperty {l : Launch} {G : PvG} {tys : List (ClassId × FieldType)} {σ : PvS} (htys : tys = pvT G)  {x0 : Int32}  {r : Int32} (h : f_X9_isProperty σ x0 = some r) : Met l yX9_isProperty (Cond.code yX9_isProperty cX9_isProperty 1 (some .boolean) :: WA) ({ frames := 0, cells := 0, slots := 0, locals := 0 }) (va_Pc [.int x0] (pvU G tys σ)) (va_Qi (fun r' σ' => r' = r ∧ σ' = σ ∧ is01 r') (pvU G tys) (pvB G)) 0 0 (pvB G) := by
  refine Met.ofW (cc := cX9_isProperty) (maxL := 1) (ret := (some .boolean)) (by decide) rfl ?_
  intro p e s m args below meth c s₁ B hml hv
  obtain ⟨rfl, hw, hK, hA⟩ := hv
  have hx := B.exec
  have hb := B.bytes
  have hr := B.returns
  have hts0 := atoms_spec (ws := (Cond.code yX9_isProperty cX9_isProperty 1 (some .boolean) :: WA)) B.pre
  have hts : ∀ w ∈ WA, w.before _ s = true := fun w h => hts0 w (List.mem_cons_of_mem _ h)
  have hown : s.vm.findClass RX9 = some m.cls := findClass_of_methodNamed B.named
  have hlocks := B.notSynchronized
  have hS : va_S (pvB G) s.heap s.heap [] := va_S.rf
  have hl := lv_entry ([.int x0]) (n := 1) (Nat.le_of_ble_eq_true rfl)
  rw [lg_entry_eq]
  generalize (lg_sl ([.int x0]) ++ List.replicate (1 - (lg_sl ([.int x0])).length) Slot.unset).toArray = ls at hl ⊢
  have hl : lv_has ls 1 [(0, .int x0)] := hl
  have hroot := pv_root hw
  unfold f_X9_isProperty at h
  refine lv_iload_n hx hb dX9_isProperty_0 rfl (lv_at hl 0 rfl) ?_
  refine lv_if_lt (tgt := 14) hx hb dX9_isProperty_1 (by decide) (fun c1 => ?_) (fun c1 => ?_)
  · skip
    replace h := ite_p c1 h
    refine lv_iconst (v := 0) hx hb dX9_isProperty_14 (by decide) ?_
    exact pez hx hb hr (is01_nar (Or.inl rfl)) hlocks hA hw hK hS ⟨Option.some.inj h, rfl, (Or.inl rfl)⟩ dX9_isProperty_15
  · skip
    replace h := ite_n c1 h
    refine lv_iload_n hx hb dX9_isProperty_4 rfl (lv_at hl 0 rfl) ?_
    refine lv_bipush (v := 14) hx hb dX9_isProperty_5 (by decide) ?_
    refine lv_icmp_ge (tgt := 14) hx hb dX9_isProperty_7 (by decide) (fun c2 => ?_) (fun c2 => ?_)
    · skip
      replace h := ite_p c2 h
      refine lv_iconst (v := 0) hx hb dX9_isProperty_14 (by decide) ?_
      exact pez hx hb hr (is01_nar (Or.inl rfl)) hlocks hA hw hK hS ⟨Option.some.inj h, rfl, (Or.inl rfl)⟩ dX9_isProperty_15
    · skip
      replace h := ite_n c2 h
      refine lv_iconst (v := 1) hx hb dX9_isProperty_10 (by decide) ?_
      refine lv_goto (tgt := 15) hx hb dX9_isProperty_11 (by decide) ?_
      exact pez hx hb hr (is01_nar (Or.inr rfl)) hlocks hA hw hK hS ⟨Option.some.inj h, rfl, (Or.inr rfl)⟩ dX9_isProperty_15
def f_X9_isInherited (σ : PvS) (x0 : Int32) : Option Int32 :=
  if x0 = 8 then (some 1) else (if x0 = 9 then (some 1) else (if x0 = 10 then (some 1) else (some 0)))
set_option maxHeartbeats 4000000 in
set_option maxRecDepth 100000 in
theorem c_X9_isInherited {l : Launch} {G : PvG} {tys : List (ClassId × FieldType)} {σ : PvS} (htys : tys = pvT G)  {x0 : Int32}  {r : Int32} (h : f_X9_isInherited σ x0 = some r) : Met l yX9_isInherited (Cond.code yX9_isInherited cX9_isInherited 1 (some .boolean) :: WA) ({ frames := 0, cells := 0, slots := 0, locals := 0 }) (va_Pc [.int x0] (pvU G tys σ)) (va_Qi (fun r' σ' => r' = r ∧ σ' = σ ∧ is01 r') (pvU G tys) (pvB G)) 0 0 (pvB G) := by
  refine Met.ofW (cc := cX9_isInherited) (maxL := 1) (ret := (some .boolean)) (by decide) rfl ?_
  intro p e s m args below meth c s₁ B hml hv
  obtain ⟨rfl, hw, hK, hA⟩ := hv
  have hx := B.exec
  have hb := B.bytes
  have hr := B.returns
  have hts0 := atoms_spec (ws := (Cond.code yX9_isInherited cX9_isInherited 1 (some .boolean) :: WA)) B.pre
  have hts : ∀ w ∈ WA, w.before _ s = true := fun w h => hts0 w (List.mem_cons_of_mem _ h)
  have hown : s.vm.findClass RX9 = some m.cls := findClass_of_methodNamed B.named
  have hlocks := B.notSynchronized
  have hS : va_S (pvB G) s.heap s.heap [] := va_S.rf
  have hl := lv_entry ([.int x0]) (n := 1) (Nat.le_of_ble_eq_true rfl)
  rw [lg_entry_eq]
  generalize (lg_sl ([.int x0]) ++ List.replicate (1 - (lg_sl ([.int x0])).length) Slot.unset).toArray = ls at hl ⊢
  have hl : lv_has ls 1 [(0, .int x0)] := hl
  have hroot := pv_root hw
  unfold f_X9_isInherited at h
  refine lv_iload_n hx hb dX9_isInherited_0 rfl (lv_at hl 0 rfl) ?_
  refine lv_bipush (v := 8) hx hb dX9_isInherited_1 (by decide) ?_
  refine lv_icmp_eq (tgt := 18) hx hb dX9_isInherited_3 (by decide) (fun c1 => ?_) (fun c1 => ?_)
  · skip
    replace h := ite_p c1 h
    refine lv_iconst (v := 1) hx hb dX9_isInherited_18 (by decide) ?_
    refine lv_goto (tgt := 23) hx hb dX9_isInherited_19 (by decide) ?_
    exact pez hx hb hr (is01_nar (Or.inr rfl)) hlocks hA hw hK hS ⟨Option.some.inj h, rfl, (Or.inr rfl)⟩ dX9_isInherited_23
  · skip
    replace h := ite_n c1 h
    refine lv_iload_n hx hb dX9_isInherited_6 rfl (lv_at hl 0 rfl) ?_
    refine lv_bipush (v := 9) hx hb dX9_isInherited_7 (by decide) ?_
    refine lv_icmp_eq (tgt := 18) hx hb dX9_isInherited_9 (by decide) (fun c2 => ?_) (fun c2 => ?_)
    · skip
      replace h := ite_p c2 h
      refine lv_iconst (v := 1) hx hb dX9_isInherited_18 (by decide) ?_
      refine lv_goto (tgt := 23) hx hb dX9_isInherited_19 (by decide) ?_
      exact pez hx hb hr (is01_nar (Or.inr rfl)) hlocks hA hw hK hS ⟨Option.some.inj h, rfl, (Or.inr rfl)⟩ dX9_isInherited_23
    · skip
      replace h := ite_n c2 h
      refine lv_iload_n hx hb dX9_isInherited_12 rfl (lv_at hl 0 rfl) ?_
      refine lv_bipush (v := 10) hx hb dX9_isInherited_13 (by decide) ?_
      refine lv_icmp_ne (tgt := 22) hx hb dX9_isInherited_15 (by decide) (fun c3 => ?_) (fun c3 => ?_)
      · skip
        replace h := ite_n c3 h
        refine lv_iconst (v := 0) hx hb dX9_isInherited_22 (by decide) ?_
        exact pez hx hb hr (is01_nar (Or.inl rfl)) hlocks hA hw hK hS ⟨Option.some.inj h, rfl, (Or.inl rfl)⟩ dX9_isInherited_23
      · skip
        replace h := ite_p c3 h
        refine lv_iconst (v := 1) hx hb dX9_isInherited_18 (by decide) ?_
        refine lv_goto (tgt := 23) hx hb dX9_isInherited_19 (by decide) ?_
        exact pez hx hb hr (is01_nar (Or.inr rfl)) hlocks hA hw hK hS ⟨Option.some.inj h, rfl, (Or.inr rfl)⟩ dX9_isInherited_23
def f_X9_isValueOf (σ : PvS) (x0 : Int32) (x1 : Int32) : Option Int32 :=
  ob1 (f_X9_isProperty σ x0) (fun r1 => if r1 = 0 then (some 0) else (gd (vin x0 14) (if x1 < (tb1 x0.toNatClampNeg) then (some 0) else (gd (vin x0 14) (if (tb2 x0.toNatClampNeg) < x1 then (some 0) else (some 1))))))
set_option maxHeartbeats 4000000 in
set_option maxRecDepth 100000 in
theorem c_X9_isValueOf {l : Launch} {G : PvG} {tys : List (ClassId × FieldType)} {σ : PvS} (htys : tys = pvT G)  {x0 : Int32} {x1 : Int32}  {r : Int32} (h : f_X9_isValueOf σ x0 x1 = some r) : Met l yX9_isValueOf (Cond.code yX9_isValueOf cX9_isValueOf 2 (some .boolean) :: WA) ({ frames := 1, cells := 0, slots := 0, locals := 20 }) (va_Pc [.int x0, .int x1] (pvU G tys σ)) (va_Qi (fun r' σ' => r' = r ∧ σ' = σ ∧ is01 r') (pvU G tys) (pvB G)) 0 0 (pvB G) := by
  refine Met.ofW (cc := cX9_isValueOf) (maxL := 2) (ret := (some .boolean)) (by decide) rfl ?_
  intro p e s m args below meth c s₁ B hml hv
  obtain ⟨rfl, hw, hK, hA⟩ := hv
  have hx := B.exec
  have hb := B.bytes
  have hr := B.returns
  have hts0 := atoms_spec (ws := (Cond.code yX9_isValueOf cX9_isValueOf 2 (some .boolean) :: WA)) B.pre
  have hts : ∀ w ∈ WA, w.before _ s = true := fun w h => hts0 w (List.mem_cons_of_mem _ h)
  have hown : s.vm.findClass RX9 = some m.cls := findClass_of_methodNamed B.named
  have hlocks := B.notSynchronized
  have hS : va_S (pvB G) s.heap s.heap [] := va_S.rf
  have hl := lv_entry ([.int x0, .int x1]) (n := 2) (Nat.le_of_ble_eq_true rfl)
  rw [lg_entry_eq]
  generalize (lg_sl ([.int x0, .int x1]) ++ List.replicate (2 - (lg_sl ([.int x0, .int x1])).length) Slot.unset).toArray = ls at hl ⊢
  have hl : lv_has ls 2 [(0, .int x0), (1, .int x1)] := hl
  have hroot := pv_root hw
  unfold f_X9_isValueOf at h
  refine lv_iload_n hx hb dX9_isValueOf_0 rfl (lv_at hl 0 rfl) ?_
  obtain ⟨r1, e2, h⟩ := ob1_e h
  refine pcalli (va_runS (As := [.int x0]) (rest := []) ⟨hx, hb, hml, hown, hts⟩ (c_X9_isProperty (l := l) (G := G) (tys := tys) (σ := σ) htys  e2) (va_cwS 1 hts (gSA wm337 wm338 wm2 wm339) rfl rfl rfl (by decide +kernel) ⟨(Nat.le_of_ble_eq_true rfl), (Nat.le_of_ble_eq_true rfl)⟩) (pv_preS hA hS hw hK [.int x0]) rfl rfl hl.1 rfl (lv_room (Nat.le_of_ble_eq_true rfl)) dX9_isValueOf_1 ⟨Nat.zero_le _, Nat.zero_le _⟩) hS (fun r4 s5 H locs hp3 hw hS => ?_)
  obtain ⟨err1, esr1, hzr1⟩ := hp3
  obtain rfl := esr1.symm
  obtain rfl := err1.symm
  refine lv_if_eq (tgt := 29) hx hb dX9_isValueOf_4 (by decide) (fun c6 => ?_) (fun c6 => ?_)
  · skip
    replace h := ite_p c6 h
    refine lv_iconst (v := 0) hx hb dX9_isValueOf_29 (by decide) ?_
    exact pez hx hb hr (is01_nar (Or.inl rfl)) hlocks hA hw hK hS ⟨Option.some.inj h, rfl, (Or.inl rfl)⟩ dX9_isValueOf_30
  · skip
    replace h := ite_n c6 h
    refine lv_iload_n hx hb dX9_isValueOf_7 rfl (lv_at hl 1 rfl) ?_
    refine va_gets (C := RX9) hx hb hA.2.1.2.1.1 hS hown (hts _ wm343) (fun _ h9 => h9) dX9_isValueOf_8 ?_
    refine lv_iload_n hx hb dX9_isValueOf_11 rfl (lv_at hl 0 rfl) ?_
    obtain ⟨g7, h⟩ := gd_e h
    refine pgT hx hb hA hS 1 hA.2.1.2.1 g7 dX9_isValueOf_12 ?_
    refine lv_icmp_lt (tgt := 29) hx hb dX9_isValueOf_13 (by decide) (fun c8 => ?_) (fun c8 => ?_)
    · skip
      replace h := ite_p c8 h
      refine lv_iconst (v := 0) hx hb dX9_isValueOf_29 (by decide) ?_
      exact pez hx hb hr (is01_nar (Or.inl rfl)) hlocks hA hw hK hS ⟨Option.some.inj h, rfl, (Or.inl rfl)⟩ dX9_isValueOf_30
    · skip
      replace h := ite_n c8 h
      refine lv_iload_n hx hb dX9_isValueOf_16 rfl (lv_at hl 1 rfl) ?_
      refine va_gets (C := RX9) hx hb hA.2.1.2.2.1.1 hS hown (hts _ wm344) (fun _ h9 => h9) dX9_isValueOf_17 ?_
      refine lv_iload_n hx hb dX9_isValueOf_20 rfl (lv_at hl 0 rfl) ?_
      obtain ⟨g9, h⟩ := gd_e h
      refine pgT hx hb hA hS 2 hA.2.1.2.2.1 g9 dX9_isValueOf_21 ?_
      refine lv_icmp_gt (tgt := 29) hx hb dX9_isValueOf_22 (by decide) (fun c10 => ?_) (fun c10 => ?_)
      · skip
        replace h := ite_p c10 h
        refine lv_iconst (v := 0) hx hb dX9_isValueOf_29 (by decide) ?_
        exact pez hx hb hr (is01_nar (Or.inl rfl)) hlocks hA hw hK hS ⟨Option.some.inj h, rfl, (Or.inl rfl)⟩ dX9_isValueOf_30
      · skip
        replace h := ite_n c10 h
        refine lv_iconst (v := 1) hx hb dX9_isValueOf_25 (by decide) ?_
        refine lv_goto (tgt := 30) hx hb dX9_isValueOf_26 (by decide) ?_
        exact pez hx hb hr (is01_nar (Or.inr rfl)) hlocks hA hw hK hS ⟨Option.some.inj h, rfl, (Or.inr rfl)⟩ dX9_isValueOf_30
def f_X9_isViewWidth (σ : PvS) (x0 : Int32) : Option Int32 :=
  if x0 < 20 then (some 0) else (if 2000 < x0 then (some 0) else (some 1))
set_option maxHeartbeats 4000000 in
set_option maxRecDepth 100000 in
theorem c_X9_isViewWidth {l : Launch} {G : PvG} {tys : List (ClassId × FieldType)} {σ : PvS} (htys : tys = pvT G)  {x0 : Int32}  {r : Int32} (h : f_X9_isViewWidth σ x0 = some r) : Met l yX9_isViewWidth (Cond.code yX9_isViewWidth cX9_isViewWidth 1 (some .boolean) :: WA) ({ frames := 0, cells := 0, slots := 0, locals := 0 }) (va_Pc [.int x0] (pvU G tys σ)) (va_Qi (fun r' σ' => r' = r ∧ σ' = σ ∧ is01 r') (pvU G tys) (pvB G)) 0 0 (pvB G) := by
  refine Met.ofW (cc := cX9_isViewWidth) (maxL := 1) (ret := (some .boolean)) (by decide) rfl ?_
  intro p e s m args below meth c s₁ B hml hv
  obtain ⟨rfl, hw, hK, hA⟩ := hv
  have hx := B.exec
  have hb := B.bytes
  have hr := B.returns
  have hts0 := atoms_spec (ws := (Cond.code yX9_isViewWidth cX9_isViewWidth 1 (some .boolean) :: WA)) B.pre
  have hts : ∀ w ∈ WA, w.before _ s = true := fun w h => hts0 w (List.mem_cons_of_mem _ h)
  have hown : s.vm.findClass RX9 = some m.cls := findClass_of_methodNamed B.named
  have hlocks := B.notSynchronized
  have hS : va_S (pvB G) s.heap s.heap [] := va_S.rf
  have hl := lv_entry ([.int x0]) (n := 1) (Nat.le_of_ble_eq_true rfl)
  rw [lg_entry_eq]
  generalize (lg_sl ([.int x0]) ++ List.replicate (1 - (lg_sl ([.int x0])).length) Slot.unset).toArray = ls at hl ⊢
  have hl : lv_has ls 1 [(0, .int x0)] := hl
  have hroot := pv_root hw
  unfold f_X9_isViewWidth at h
  refine lv_iload_n hx hb dX9_isViewWidth_0 rfl (lv_at hl 0 rfl) ?_
  refine lv_bipush (v := 20) hx hb dX9_isViewWidth_1 (by decide) ?_
  refine lv_icmp_lt (tgt := 17) hx hb dX9_isViewWidth_3 (by decide) (fun c1 => ?_) (fun c1 => ?_)
  · skip
    replace h := ite_p c1 h
    refine lv_iconst (v := 0) hx hb dX9_isViewWidth_17 (by decide) ?_
    exact pez hx hb hr (is01_nar (Or.inl rfl)) hlocks hA hw hK hS ⟨Option.some.inj h, rfl, (Or.inl rfl)⟩ dX9_isViewWidth_18
  · skip
    replace h := ite_n c1 h
    refine lv_iload_n hx hb dX9_isViewWidth_6 rfl (lv_at hl 0 rfl) ?_
    refine lv_sipush (v := 2000) hx hb dX9_isViewWidth_7 (by decide) ?_
    refine lv_icmp_gt (tgt := 17) hx hb dX9_isViewWidth_10 (by decide) (fun c2 => ?_) (fun c2 => ?_)
    · skip
      replace h := ite_p c2 h
      refine lv_iconst (v := 0) hx hb dX9_isViewWidth_17 (by decide) ?_
      exact pez hx hb hr (is01_nar (Or.inl rfl)) hlocks hA hw hK hS ⟨Option.some.inj h, rfl, (Or.inl rfl)⟩ dX9_isViewWidth_18
    · skip
      replace h := ite_n c2 h
      refine lv_iconst (v := 1) hx hb dX9_isViewWidth_13 (by decide) ?_
      refine lv_goto (tgt := 18) hx hb dX9_isViewWidth_14 (by decide) ?_
      exact pez hx hb hr (is01_nar (Or.inr rfl)) hlocks hA hw hK hS ⟨Option.some.inj h, rfl, (Or.inr rfl)⟩ dX9_isViewWidth_18
def f_X6_of_30  (σ : PvS) (ub0 : Nat) (xb2 : Int32) (xb3 : Int32) (xbs0 : Int32) : Option Int32 :=
  if xbs0 = 0 then (some 0) else (gd (vin xb3 40) (gd (vin xb2 (pvLen σ 36 (40 * ub0 + xb3.toNatClampNeg))) (some (σ.2.2.2.1 36 (40 * ub0 + xb3.toNatClampNeg) xb2.toNatClampNeg))))
def f_X6_of_29  (σ : PvS) (ub0 : Nat) (xb2 : Int32) (xb3 : Int32) : Option Int32 :=
  f_X6_of_30 σ ub0 xb2 xb3 0
def f_X6_of (σ : PvS) (u0 : Nat) (u1 : Nat) (x2 : Int32) : Option Int32 :=
  if (σ.2.1 3 0 u1) < 0 then (f_X6_of_29 σ u0 x2 (σ.2.1 3 0 u1)) else (if 40 ≤ (σ.2.1 3 0 u1) then (f_X6_of_29 σ u0 x2 (σ.2.1 3 0 u1)) else (if x2 < 0 then (f_X6_of_29 σ u0 x2 (σ.2.1 3 0 u1)) else (if 14 ≤ x2 then (f_X6_of_29 σ u0 x2 (σ.2.1 3 0 u1)) else (f_X6_of_30 σ u0 x2 (σ.2.1 3 0 u1) 1))))
set_option maxHeartbeats 4000000 in
set_option maxRecDepth 100000 in
theorem c_X6_of {l : Launch} {G : PvG} {tys : List (ClassId × FieldType)} {σ : PvS} (htys : tys = pvT G)  {u0 : Nat} {u1 : Nat} {x2 : Int32} (hu0 : u0 < pvM σ 6) (hu1 : u1 < pvM σ 3) {r : Int32} (h : f_X6_of σ u0 u1 x2 = some r) : Met l yX6_of (Cond.code yX6_of cX6_of 5 (some .int) :: WA) ({ frames := 0, cells := 0, slots := 0, locals := 0 }) (va_Pc [.ref (G.2.2.1 6 u0), .ref (G.2.2.1 3 u1), .int x2] (pvU G tys σ)) (va_Qi (fun r' σ' => r' = r ∧ σ' = σ) (pvU G tys) (pvB G)) 0 0 (pvB G) := by
  refine Met.ofW (cc := cX6_of) (maxL := 5) (ret := (some .int)) (by decide) rfl ?_
  intro p e s m args below meth c s₁ B hml hv
  obtain ⟨rfl, hw, hK, hA⟩ := hv
  have hx := B.exec
  have hb := B.bytes
  have hr := B.returns
  have hts0 := atoms_spec (ws := (Cond.code yX6_of cX6_of 5 (some .int) :: WA)) B.pre
  have hts : ∀ w ∈ WA, w.before _ s = true := fun w h => hts0 w (List.mem_cons_of_mem _ h)
  have hown : s.vm.findClass RX6 = some m.cls := findClass_of_methodNamed B.named
  have hlocks := B.notSynchronized
  have hS : va_S (pvB G) s.heap s.heap [] := va_S.rf
  have hl := lv_entry ([.ref (G.2.2.1 6 u0), .ref (G.2.2.1 3 u1), .int x2]) (n := 5) (Nat.le_of_ble_eq_true rfl)
  rw [lg_entry_eq]
  generalize (lg_sl ([.ref (G.2.2.1 6 u0), .ref (G.2.2.1 3 u1), .int x2]) ++ List.replicate (5 - (lg_sl ([.ref (G.2.2.1 6 u0), .ref (G.2.2.1 3 u1), .int x2])).length) Slot.unset).toArray = ls at hl ⊢
  have hl : lv_has ls 5 [(0, .ref (G.2.2.1 6 u0)), (1, .ref (G.2.2.1 3 u1)), (2, .int x2)] := hl
  have hroot := pv_root hw
  unfold f_X6_of at h
  have blk30 : ∀ (ub0 : Nat) (xb2 : Int32) (xb3 : Int32) (xbs0 : Int32), (ub0 < 2) → f_X6_of_30 σ ub0 xb2 xb3 xbs0 = some r → ∀ (H : Heap) (locs : List Loc), pvW G σ H → va_S (pvB G) s.heap H locs → ∀ (ls : Array Slot), lv_has ls 5 [(0, .ref (G.2.2.1 6 ub0)), (2, .int xb2), (3, .int xb3)] → W p l e (headSpec (Cond.code yX6_of cX6_of 5 (some .int) :: WA) ({ frames := 0, cells := 0, slots := 0, locals := 0 } : Room)).room s m ([.ref (G.2.2.1 6 u0), .ref (G.2.2.1 3 u1), .int x2] : List Value).toArray below meth c H locs 0 0 (MQ below (va_Qi (fun r' σ' => r' = r ∧ σ' = σ) (pvU G tys) (pvB G)) ([.ref (G.2.2.1 6 u0), .ref (G.2.2.1 3 u1), .int x2] : List Value).toArray s 0 0 (pvB G)) (F0 m 30 ls [.int xbs0]) := by
    intro ub0 xb2 xb3 xbs0 hub0 h H locs hw hS ls hl
    unfold f_X6_of_30 at h
    refine lv_istore (lv' := [(4, .int xbs0), (0, .ref (G.2.2.1 6 ub0)), (2, .int xb2), (3, .int xb3)]) hx hb dX6_of_30 hl (by decide) rfl (fun ls hl => ?_)
    refine lv_iload hx hb dX6_of_32 (lv_at hl 0 rfl) ?_
    refine lv_if_eq (tgt := 48) hx hb dX6_of_34 (by decide) (fun c1 => ?_) (fun c1 => ?_)
    · skip
      replace h := ite_p c1 h
      refine lv_iconst (v := 0) hx hb dX6_of_48 (by decide) ?_
      exact pei hx hb hr hlocks hA hw hK hS ⟨Option.some.inj h, rfl⟩ dX6_of_49
    · skip
      replace h := ite_n c1 h
      refine lv_aload_n hx hb dX6_of_37 rfl (lv_at hl 1 rfl) ?_
      refine pgL (C := RX6) (T := TX6) (N := 3) hx hb hts hown hK hw 6 0 ub0 hub0 (by decide) rfl rfl inF_X6 (by decide) (v := .ref (G.2.2.1 34 ub0)) rfl (hts _ wm187) (fun _ h9 => h9) dX6_of_38 ?_
      refine lv_iload_n hx hb dX6_of_41 rfl (lv_at hl 3 rfl) ?_
      obtain ⟨g2, h⟩ := gd_e h
      refine pgRow hx hb hK htys hw 34 ub0 hub0 (by decide) g2 dX6_of_42 ?_
      have hw3 := row80 hub0 g2
      refine lv_iload_n hx hb dX6_of_43 rfl (lv_at hl 2 rfl) ?_
      obtain ⟨g4, h⟩ := gd_e h
      refine pgA hx hb hK htys hw 36 (40 * ub0 + xb3.toNatClampNeg) hw3 rfl (by decide) g4 dX6_of_44 ?_
      refine lv_goto (tgt := 49) hx hb dX6_of_45 (by decide) ?_
      exact pei hx hb hr hlocks hA hw hK hS ⟨Option.some.inj h, rfl⟩ dX6_of_49
  have blk29 : ∀ (ub0 : Nat) (xb2 : Int32) (xb3 : Int32), (ub0 < 2) → f_X6_of_29 σ ub0 xb2 xb3 = some r → ∀ (H : Heap) (locs : List Loc), pvW G σ H → va_S (pvB G) s.heap H locs → ∀ (ls : Array Slot), lv_has ls 5 [(0, .ref (G.2.2.1 6 ub0)), (2, .int xb2), (3, .int xb3)] → W p l e (headSpec (Cond.code yX6_of cX6_of 5 (some .int) :: WA) ({ frames := 0, cells := 0, slots := 0, locals := 0 } : Room)).room s m ([.ref (G.2.2.1 6 u0), .ref (G.2.2.1 3 u1), .int x2] : List Value).toArray below meth c H locs 0 0 (MQ below (va_Qi (fun r' σ' => r' = r ∧ σ' = σ) (pvU G tys) (pvB G)) ([.ref (G.2.2.1 6 u0), .ref (G.2.2.1 3 u1), .int x2] : List Value).toArray s 0 0 (pvB G)) (F0 m 29 ls []) := by
    intro ub0 xb2 xb3 hub0 h H locs hw hS ls hl
    unfold f_X6_of_29 at h
    refine lv_iconst (v := 0) hx hb dX6_of_29 (by decide) ?_
    exact blk30 ub0 xb2 xb3 0 hub0 h _ _ hw hS ls (lv_sub hl [0, 1, 2] rfl)
  refine lv_aload_n hx hb dX6_of_0 rfl (lv_at hl 1 rfl) ?_
  refine pgI (C := RX3) (T := TX3) (N := 14) hx hb hts hown hK hw 3 0 u1 hu1 (by decide) rfl rfl inF_X3 (by decide) rfl (hts _ wm431) (fun _ h9 => h9) dX6_of_1 ?_
  refine lv_istore_n (lv' := [(3, .int (σ.2.1 3 0 u1)), (0, .ref (G.2.2.1 6 u0)), (1, .ref (G.2.2.1 3 u1)), (2, .int x2)]) hx hb dX6_of_4 rfl hl (by decide) rfl (fun ls hl => ?_)
  refine lv_iload_n hx hb dX6_of_5 rfl (lv_at hl 0 rfl) ?_
  refine lv_if_lt (tgt := 29) hx hb dX6_of_6 (by decide) (fun c5 => ?_) (fun c5 => ?_)
  · skip
    replace h := ite_p c5 h
    exact blk29 u0 x2 (σ.2.1 3 0 u1) hu0 h _ _ hw hS ls (lv_sub hl [1, 3, 0] rfl)
  · skip
    replace h := ite_n c5 h
    refine lv_iload_n hx hb dX6_of_9 rfl (lv_at hl 0 rfl) ?_
    refine lv_bipush (v := 40) hx hb dX6_of_10 (by decide) ?_
    refine lv_icmp_ge (tgt := 29) hx hb dX6_of_12 (by decide) (fun c6 => ?_) (fun c6 => ?_)
    · skip
      replace h := ite_p c6 h
      exact blk29 u0 x2 (σ.2.1 3 0 u1) hu0 h _ _ hw hS ls (lv_sub hl [1, 3, 0] rfl)
    · skip
      replace h := ite_n c6 h
      refine lv_iload_n hx hb dX6_of_15 rfl (lv_at hl 3 rfl) ?_
      refine lv_if_lt (tgt := 29) hx hb dX6_of_16 (by decide) (fun c7 => ?_) (fun c7 => ?_)
      · skip
        replace h := ite_p c7 h
        exact blk29 u0 x2 (σ.2.1 3 0 u1) hu0 h _ _ hw hS ls (lv_sub hl [1, 3, 0] rfl)
      · skip
        replace h := ite_n c7 h
        refine lv_iload_n hx hb dX6_of_19 rfl (lv_at hl 3 rfl) ?_
        refine lv_bipush (v := 14) hx hb dX6_of_20 (by decide) ?_
        refine lv_icmp_ge (tgt := 29) hx hb dX6_of_22 (by decide) (fun c8 => ?_) (fun c8 => ?_)
        · skip
          replace h := ite_p c8 h
          exact blk29 u0 x2 (σ.2.1 3 0 u1) hu0 h _ _ hw hS ls (lv_sub hl [1, 3, 0] rfl)
        · skip
          replace h := ite_n c8 h
          refine lv_iconst (v := 1) hx hb dX6_of_25 (by decide) ?_
          refine lv_goto (tgt := 30) hx hb dX6_of_26 (by decide) ?_
          exact blk30 u0 x2 (σ.2.1 3 0 u1) 1 hu0 h _ _ hw hS ls (lv_sub hl [1, 3, 0] rfl)
def f_X6_isKept (σ : PvS) (u0 : Nat) (x1 : Int32) : Option Int32 :=
  if (σ.2.1 3 0 u0) < 0 then (some 0) else (if 40 ≤ (σ.2.1 3 0 u0) then (some 0) else (ob1 (f_X9_isProperty σ x1) (fun r3 => if r3 = 0 then (some 0) else (some 1))))
set_option maxHeartbeats 4000000 in
set_option maxRecDepth 100000 in
theorem c_X6_isKept {l : Launch} {G : PvG} {tys : List (ClassId × FieldType)} {σ : PvS} (htys : tys = pvT G)  {u0 : Nat} {x1 : Int32} (hu0 : u0 < pvM σ 3) {r : Int32} (h : f_X6_isKept σ u0 x1 = some r) : Met l yX6_isKept (Cond.code yX6_isKept cX6_isKept 2 (some .boolean) :: WA) ({ frames := 1, cells := 0, slots := 0, locals := 20 }) (va_Pc [.ref (G.2.2.1 3 u0), .int x1] (pvU G tys σ)) (va_Qi (fun r' σ' => r' = r ∧ σ' = σ ∧ is01 r') (pvU G tys) (pvB G)) 0 0 (pvB G) := by
  refine Met.ofW (cc := cX6_isKept) (maxL := 2) (ret := (some .boolean)) (by decide) rfl ?_
  intro p e s m args below meth c s₁ B hml hv
  obtain ⟨rfl, hw, hK, hA⟩ := hv
  have hx := B.exec
  have hb := B.bytes
  have hr := B.returns
  have hts0 := atoms_spec (ws := (Cond.code yX6_isKept cX6_isKept 2 (some .boolean) :: WA)) B.pre
  have hts : ∀ w ∈ WA, w.before _ s = true := fun w h => hts0 w (List.mem_cons_of_mem _ h)
  have hown : s.vm.findClass RX6 = some m.cls := findClass_of_methodNamed B.named
  have hlocks := B.notSynchronized
  have hS : va_S (pvB G) s.heap s.heap [] := va_S.rf
  have hl := lv_entry ([.ref (G.2.2.1 3 u0), .int x1]) (n := 2) (Nat.le_of_ble_eq_true rfl)
  rw [lg_entry_eq]
  generalize (lg_sl ([.ref (G.2.2.1 3 u0), .int x1]) ++ List.replicate (2 - (lg_sl ([.ref (G.2.2.1 3 u0), .int x1])).length) Slot.unset).toArray = ls at hl ⊢
  have hl : lv_has ls 2 [(0, .ref (G.2.2.1 3 u0)), (1, .int x1)] := hl
  have hroot := pv_root hw
  unfold f_X6_isKept at h
  refine lv_aload_n hx hb dX6_isKept_0 rfl (lv_at hl 0 rfl) ?_
  refine pgI (C := RX3) (T := TX3) (N := 14) hx hb hts hown hK hw 3 0 u0 hu0 (by decide) rfl rfl inF_X3 (by decide) rfl (hts _ wm431) (fun _ h9 => h9) dX6_isKept_1 ?_
  refine lv_if_lt (tgt := 27) hx hb dX6_isKept_4 (by decide) (fun c1 => ?_) (fun c1 => ?_)
  · skip
    replace h := ite_p c1 h
    refine lv_iconst (v := 0) hx hb dX6_isKept_27 (by decide) ?_
    exact pez hx hb hr (is01_nar (Or.inl rfl)) hlocks hA hw hK hS ⟨Option.some.inj h, rfl, (Or.inl rfl)⟩ dX6_isKept_28
  · skip
    replace h := ite_n c1 h
    refine lv_aload_n hx hb dX6_isKept_7 rfl (lv_at hl 0 rfl) ?_
    refine pgI (C := RX3) (T := TX3) (N := 14) hx hb hts hown hK hw 3 0 u0 hu0 (by decide) rfl rfl inF_X3 (by decide) rfl (hts _ wm431) (fun _ h9 => h9) dX6_isKept_8 ?_
    refine lv_bipush (v := 40) hx hb dX6_isKept_11 (by decide) ?_
    refine lv_icmp_ge (tgt := 27) hx hb dX6_isKept_13 (by decide) (fun c2 => ?_) (fun c2 => ?_)
    · skip
      replace h := ite_p c2 h
      refine lv_iconst (v := 0) hx hb dX6_isKept_27 (by decide) ?_
      exact pez hx hb hr (is01_nar (Or.inl rfl)) hlocks hA hw hK hS ⟨Option.some.inj h, rfl, (Or.inl rfl)⟩ dX6_isKept_28
    · skip
      replace h := ite_n c2 h
      refine lv_iload_n hx hb dX6_isKept_16 rfl (lv_at hl 1 rfl) ?_
      obtain ⟨r3, e4, h⟩ := ob1_e h
      refine pcalli (va_runSN (As := [.int x1]) (rest := []) ⟨hx, hb, hml, hown, hts⟩ (c_X9_isProperty (l := l) (G := G) (tys := tys) (σ := σ) htys  e4) ⟨va_cnB 1 hts (gNA wm339) rfl rfl rfl hA.2.2.2.2.2.2.2.2.1 (hts (.initialized RX9) (by decide +kernel)) (by decide +kernel) ⟨(Nat.le_of_ble_eq_true rfl), (Nat.le_of_ble_eq_true rfl)⟩, hts (.static yX9_isProperty) (by decide +kernel), trivial⟩ (pv_preS hA hS hw hK [.int x1]) rfl rfl hl.1 rfl (lv_room (Nat.le_of_ble_eq_true rfl)) dX6_isKept_17 ⟨Nat.zero_le _, Nat.zero_le _⟩) hS (fun r6 s7 H locs hp5 hw hS => ?_)
      obtain ⟨err3, esr3, hzr3⟩ := hp5
      obtain rfl := esr3.symm
      obtain rfl := err3.symm
      refine lv_if_eq (tgt := 27) hx hb dX6_isKept_20 (by decide) (fun c8 => ?_) (fun c8 => ?_)
      · skip
        replace h := ite_p c8 h
        refine lv_iconst (v := 0) hx hb dX6_isKept_27 (by decide) ?_
        exact pez hx hb hr (is01_nar (Or.inl rfl)) hlocks hA hw hK hS ⟨Option.some.inj h, rfl, (Or.inl rfl)⟩ dX6_isKept_28
      · skip
        replace h := ite_n c8 h
        refine lv_iconst (v := 1) hx hb dX6_isKept_23 (by decide) ?_
        refine lv_goto (tgt := 28) hx hb dX6_isKept_24 (by decide) ?_
        exact pez hx hb hr (is01_nar (Or.inr rfl)) hlocks hA hw hK hS ⟨Option.some.inj h, rfl, (Or.inr rfl)⟩ dX6_isKept_28
def f_X6_reasonOf (σ : PvS) (u0 : Nat) (u1 : Nat) (x2 : Int32) : Option Int32 :=
  ob1 (f_X6_isKept σ u1 x2) (fun r1 => if r1 = 0 then (some (-3)) else (gd (vin (σ.2.1 3 0 u1) 40) (gd (vin x2 (pvLen σ 37 (40 * u0 + (σ.2.1 3 0 u1).toNatClampNeg))) (some (σ.2.2.2.1 37 (40 * u0 + (σ.2.1 3 0 u1).toNatClampNeg) x2.toNatClampNeg)))))
set_option maxHeartbeats 4000000 in
set_option maxRecDepth 100000 in
theorem c_X6_reasonOf {l : Launch} {G : PvG} {tys : List (ClassId × FieldType)} {σ : PvS} (htys : tys = pvT G)  {u0 : Nat} {u1 : Nat} {x2 : Int32} (hu0 : u0 < pvM σ 6) (hu1 : u1 < pvM σ 3) {r : Int32} (h : f_X6_reasonOf σ u0 u1 x2 = some r) : Met l yX6_reasonOf (Cond.code yX6_reasonOf cX6_reasonOf 3 (some .int) :: WA) ({ frames := 2, cells := 0, slots := 0, locals := 41 }) (va_Pc [.ref (G.2.2.1 6 u0), .ref (G.2.2.1 3 u1), .int x2] (pvU G tys σ)) (va_Qi (fun r' σ' => r' = r ∧ σ' = σ) (pvU G tys) (pvB G)) 0 0 (pvB G) := by
  refine Met.ofW (cc := cX6_reasonOf) (maxL := 3) (ret := (some .int)) (by decide) rfl ?_
  intro p e s m args below meth c s₁ B hml hv
  obtain ⟨rfl, hw, hK, hA⟩ := hv
  have hx := B.exec
  have hb := B.bytes
  have hr := B.returns
  have hts0 := atoms_spec (ws := (Cond.code yX6_reasonOf cX6_reasonOf 3 (some .int) :: WA)) B.pre
  have hts : ∀ w ∈ WA, w.before _ s = true := fun w h => hts0 w (List.mem_cons_of_mem _ h)
  have hown : s.vm.findClass RX6 = some m.cls := findClass_of_methodNamed B.named
  have hlocks := B.notSynchronized
  have hS : va_S (pvB G) s.heap s.heap [] := va_S.rf
  have hl := lv_entry ([.ref (G.2.2.1 6 u0), .ref (G.2.2.1 3 u1), .int x2]) (n := 3) (Nat.le_of_ble_eq_true rfl)
  rw [lg_entry_eq]
  generalize (lg_sl ([.ref (G.2.2.1 6 u0), .ref (G.2.2.1 3 u1), .int x2]) ++ List.replicate (3 - (lg_sl ([.ref (G.2.2.1 6 u0), .ref (G.2.2.1 3 u1), .int x2])).length) Slot.unset).toArray = ls at hl ⊢
  have hl : lv_has ls 3 [(0, .ref (G.2.2.1 6 u0)), (1, .ref (G.2.2.1 3 u1)), (2, .int x2)] := hl
  have hroot := pv_root hw
  unfold f_X6_reasonOf at h
  refine lv_aload_n hx hb dX6_reasonOf_0 rfl (lv_at hl 1 rfl) ?_
  refine lv_iload_n hx hb dX6_reasonOf_1 rfl (lv_at hl 2 rfl) ?_
  obtain ⟨r1, e2, h⟩ := ob1_e h
  refine pcalli (va_runS (As := [.ref (G.2.2.1 3 u1), .int x2]) (rest := []) ⟨hx, hb, hml, hown, hts⟩ (c_X6_isKept (l := l) (G := G) (tys := tys) (σ := σ) htys hu1 e2) (va_cwS 2 hts (gSA wm428 wm429 wm23 wm430) rfl rfl rfl (by decide +kernel) ⟨(Nat.le_of_ble_eq_true rfl), (Nat.le_of_ble_eq_true rfl)⟩) (pv_preS hA hS hw hK [.ref (G.2.2.1 3 u1), .int x2]) rfl rfl hl.1 rfl (lv_room (Nat.le_of_ble_eq_true rfl)) dX6_reasonOf_2 ⟨Nat.zero_le _, Nat.zero_le _⟩) hS (fun r4 s5 H locs hp3 hw hS => ?_)
  obtain ⟨err1, esr1, hzr1⟩ := hp3
  obtain rfl := esr1.symm
  obtain rfl := err1.symm
  refine lv_if_eq (tgt := 22) hx hb dX6_reasonOf_5 (by decide) (fun c6 => ?_) (fun c6 => ?_)
  · skip
    replace h := ite_p c6 h
    refine lv_bipush (v := (-3)) hx hb dX6_reasonOf_22 (by decide) ?_
    exact pei hx hb hr hlocks hA hw hK hS ⟨Option.some.inj h, rfl⟩ dX6_reasonOf_24
  · skip
    replace h := ite_n c6 h
    refine lv_aload_n hx hb dX6_reasonOf_8 rfl (lv_at hl 0 rfl) ?_
    refine pgL (C := RX6) (T := TX6) (N := 3) hx hb hts hown hK hw 6 1 u0 hu0 (by decide) rfl rfl inF_X6 (by decide) (v := .ref (G.2.2.1 35 u0)) rfl (hts _ wm188) (fun _ h9 => h9) dX6_reasonOf_9 ?_
    refine lv_aload_n hx hb dX6_reasonOf_12 rfl (lv_at hl 1 rfl) ?_
    refine pgI (C := RX3) (T := TX3) (N := 14) hx hb hts hown hK hw 3 0 u1 hu1 (by decide) rfl rfl inF_X3 (by decide) rfl (hts _ wm431) (fun _ h9 => h9) dX6_reasonOf_13 ?_
    obtain ⟨g7, h⟩ := gd_e h
    refine pgRow hx hb hK htys hw 35 u0 hu0 (by decide) g7 dX6_reasonOf_16 ?_
    have hw8 := row80 hu0 g7
    refine lv_iload_n hx hb dX6_reasonOf_17 rfl (lv_at hl 2 rfl) ?_
    obtain ⟨g9, h⟩ := gd_e h
    refine pgA hx hb hK htys hw 37 (40 * u0 + (σ.2.1 3 0 u1).toNatClampNeg) hw8 rfl (by decide) g9 dX6_reasonOf_18 ?_
    refine lv_goto (tgt := 24) hx hb dX6_reasonOf_19 (by decide) ?_
    exact pei hx hb hr hlocks hA hw hK hS ⟨Option.some.inj h, rfl⟩ dX6_reasonOf_24
def f_X6_differFor_2  (σ : PvS) : Nat → Nat → Nat → Nat → Int32 → Option Int32
  | 0, _, _, _, _ => none
  | n + 1, ub0, ub1, ub2, xb3 => if 14 ≤ xb3 then (some 0) else (ob1 (f_X6_of σ ub0 ub1 xb3) (fun r2 => ob1 (f_X6_of σ ub2 ub1 xb3) (fun r7 => if r2 = r7 then (f_X6_differFor_2 σ n ub0 ub1 ub2 (xb3 + 1)) else (some 1))))
theorem f_X6_differFor_2_z {σ : PvS} {ub0 : Nat} {ub1 : Nat} {ub2 : Nat} {xb3 : Int32} : f_X6_differFor_2 σ 0 ub0 ub1 ub2 xb3 = none := rfl
theorem f_X6_differFor_2_s {n : Nat} {σ : PvS} {ub0 : Nat} {ub1 : Nat} {ub2 : Nat} {xb3 : Int32} : f_X6_differFor_2 σ (n + 1) ub0 ub1 ub2 xb3 = if 14 ≤ xb3 then (some 0) else (ob1 (f_X6_of σ ub0 ub1 xb3) (fun r2 => ob1 (f_X6_of σ ub2 ub1 xb3) (fun r7 => if r2 = r7 then (f_X6_differFor_2 σ n ub0 ub1 ub2 (xb3 + 1)) else (some 1)))) := rfl
def f_X6_differFor (σ : PvS) (u0 : Nat) (u1 : Nat) (u2 : Nat) : Option Int32 :=
  f_X6_differFor_2 σ fu u0 u1 u2 0
set_option maxHeartbeats 4000000 in
set_option maxRecDepth 100000 in
theorem c_X6_differFor {l : Launch} {G : PvG} {tys : List (ClassId × FieldType)} {σ : PvS} (htys : tys = pvT G)  {u0 : Nat} {u1 : Nat} {u2 : Nat} (hu0 : u0 < pvM σ 6) (hu1 : u1 < pvM σ 3) (hu2 : u2 < pvM σ 6) {r : Int32} (h : f_X6_differFor σ u0 u1 u2 = some r) : Met l yX6_differFor (Cond.code yX6_differFor cX6_differFor 4 (some .boolean) :: WA) ({ frames := 1, cells := 0, slots := 0, locals := 24 }) (va_Pc [.ref (G.2.2.1 6 u0), .ref (G.2.2.1 3 u1), .ref (G.2.2.1 6 u2)] (pvU G tys σ)) (va_Qi (fun r' σ' => r' = r ∧ σ' = σ ∧ is01 r') (pvU G tys) (pvB G)) 0 0 (pvB G) := by
  refine Met.ofW (cc := cX6_differFor) (maxL := 4) (ret := (some .boolean)) (by decide) rfl ?_
  intro p e s m args below meth c s₁ B hml hv
  obtain ⟨rfl, hw, hK, hA⟩ := hv
  have hx := B.exec
  have hb := B.bytes
  have hr := B.returns
  have hts0 := atoms_spec (ws := (Cond.code yX6_differFor cX6_differFor 4 (some .boolean) :: WA)) B.pre
  have hts : ∀ w ∈ WA, w.before _ s = true := fun w h => hts0 w (List.mem_cons_of_mem _ h)
  have hown : s.vm.findClass RX6 = some m.cls := findClass_of_methodNamed B.named
  have hlocks := B.notSynchronized
  have hS : va_S (pvB G) s.heap s.heap [] := va_S.rf
  have hl := lv_entry ([.ref (G.2.2.1 6 u0), .ref (G.2.2.1 3 u1), .ref (G.2.2.1 6 u2)]) (n := 4) (Nat.le_of_ble_eq_true rfl)
  rw [lg_entry_eq]
  generalize (lg_sl ([.ref (G.2.2.1 6 u0), .ref (G.2.2.1 3 u1), .ref (G.2.2.1 6 u2)]) ++ List.replicate (4 - (lg_sl ([.ref (G.2.2.1 6 u0), .ref (G.2.2.1 3 u1), .ref (G.2.2.1 6 u2)])).length) Slot.unset).toArray = ls at hl ⊢
  have hl : lv_has ls 4 [(0, .ref (G.2.2.1 6 u0)), (1, .ref (G.2.2.1 3 u1)), (2, .ref (G.2.2.1 6 u2))] := hl
  have hroot := pv_root hw
  unfold f_X6_differFor at h
  have loop2 : ∀ (n : Nat) (ub0 : Nat) (ub1 : Nat) (ub2 : Nat) (xb3 : Int32), (ub0 < 2) → (ub1 < pvM σ 3) → (ub2 < 2) → f_X6_differFor_2 σ n ub0 ub1 ub2 xb3 = some r → ∀ (H : Heap) (locs : List Loc), pvW G σ H → va_S (pvB G) s.heap H locs → ∀ (ls : Array Slot), lv_has ls 4 [(0, .ref (G.2.2.1 6 ub0)), (1, .ref (G.2.2.1 3 ub1)), (2, .ref (G.2.2.1 6 ub2)), (3, .int xb3)] → W p l e (headSpec (Cond.code yX6_differFor cX6_differFor 4 (some .boolean) :: WA) ({ frames := 1, cells := 0, slots := 0, locals := 24 } : Room)).room s m ([.ref (G.2.2.1 6 u0), .ref (G.2.2.1 3 u1), .ref (G.2.2.1 6 u2)] : List Value).toArray below meth c H locs 0 0 (MQ below (va_Qi (fun r' σ' => r' = r ∧ σ' = σ ∧ is01 r') (pvU G tys) (pvB G)) ([.ref (G.2.2.1 6 u0), .ref (G.2.2.1 3 u1), .ref (G.2.2.1 6 u2)] : List Value).toArray s 0 0 (pvB G)) (F0 m 2 ls []) := by
    intro n2
    induction n2 with
    | zero =>
      intro ub0 ub1 ub2 xb3 hub0 hub1 hub2 h
      rw [f_X6_differFor_2_z] at h
      cases h
    | succ n2 ih2 =>
      intro ub0 ub1 ub2 xb3 hub0 hub1 hub2 h H locs hw hS ls hl
      rw [f_X6_differFor_2_s] at h
      refine lv_iload_n hx hb dX6_differFor_2 rfl (lv_at hl 3 rfl) ?_
      refine lv_bipush (v := 14) hx hb dX6_differFor_3 (by decide) ?_
      refine lv_icmp_ge (tgt := 31) hx hb dX6_differFor_5 (by decide) (fun c1 => ?_) (fun c1 => ?_)
      · skip
        replace h := ite_p c1 h
        refine lv_iconst (v := 0) hx hb dX6_differFor_31 (by decide) ?_
        exact pez hx hb hr (is01_nar (Or.inl rfl)) hlocks hA hw hK hS ⟨Option.some.inj h, rfl, (Or.inl rfl)⟩ dX6_differFor_32
      · skip
        replace h := ite_n c1 h
        refine lv_aload_n hx hb dX6_differFor_8 rfl (lv_at hl 0 rfl) ?_
        refine lv_aload_n hx hb dX6_differFor_9 rfl (lv_at hl 1 rfl) ?_
        refine lv_iload_n hx hb dX6_differFor_10 rfl (lv_at hl 3 rfl) ?_
        obtain ⟨r2, e3, h⟩ := ob1_e h
        refine pcalli (va_runV (As := [.ref (G.2.2.1 3 ub1), .int xb3]) (rest := []) ⟨hx, hb, hml, hown, hts⟩ (c_X6_of (l := l) (G := G) (tys := tys) (σ := σ) htys hub0 hub1 e3) (cwV 2 hts (gVA wm472 wm473 wm474 wm23 wm475) rfl rfl rfl (by decide +kernel) ⟨(Nat.le_of_ble_eq_true rfl), (Nat.le_of_ble_eq_true rfl)⟩) (pv_preV hA hS hw hK 6 ub0 hub0 (by decide) rfl [.ref (G.2.2.1 3 ub1), .int xb3]) rfl rfl hl.1 rfl (lv_room (Nat.le_of_ble_eq_true rfl)) dX6_differFor_11 ⟨Nat.zero_le _, Nat.zero_le _⟩) hS (fun r5 s6 H locs hp4 hw hS => ?_)
        obtain ⟨err2, esr2⟩ := hp4
        obtain rfl := esr2.symm
        obtain rfl := err2.symm
        refine lv_aload_n hx hb dX6_differFor_14 rfl (lv_at hl 2 rfl) ?_
        refine lv_aload_n hx hb dX6_differFor_15 rfl (lv_at hl 1 rfl) ?_
        refine lv_iload_n hx hb dX6_differFor_16 rfl (lv_at hl 3 rfl) ?_
        obtain ⟨r7, e8, h⟩ := ob1_e h
        refine pcalli (va_runV (As := [.ref (G.2.2.1 3 ub1), .int xb3]) (rest := [.int r2]) ⟨hx, hb, hml, hown, hts⟩ (c_X6_of (l := l) (G := G) (tys := tys) (σ := σ) htys hub2 hub1 e8) (cwV 2 hts (gVA wm472 wm473 wm474 wm23 wm475) rfl rfl rfl (by decide +kernel) ⟨(Nat.le_of_ble_eq_true rfl), (Nat.le_of_ble_eq_true rfl)⟩) (pv_preV hA hS hw hK 6 ub2 hub2 (by decide) rfl [.ref (G.2.2.1 3 ub1), .int xb3]) rfl rfl hl.1 rfl (lv_room (Nat.le_of_ble_eq_true rfl)) dX6_differFor_17 ⟨Nat.zero_le _, Nat.zero_le _⟩) hS (fun r10 s11 H locs hp9 hw hS => ?_)
        obtain ⟨err7, esr7⟩ := hp9
        obtain rfl := esr7.symm
        obtain rfl := err7.symm
        refine lv_icmp_eq (tgt := 25) hx hb dX6_differFor_20 (by decide) (fun c12 => ?_) (fun c12 => ?_)
        · skip
          replace h := ite_p c12 h
          refine lv_iinc (v := xb3 + 1) (lv' := [(3, .int (xb3 + 1)), (0, .ref (G.2.2.1 6 ub0)), (1, .ref (G.2.2.1 3 ub1)), (2, .ref (G.2.2.1 6 ub2))]) hx hb dX6_differFor_25 hl (k := 3) rfl (by rfl) (by decide) rfl (fun ls hl => ?_)
          refine lv_goto (tgt := 2) hx hb dX6_differFor_28 (by decide) ?_
          exact ih2 ub0 ub1 ub2 (xb3 + 1) hub0 hub1 hub2 h _ _ hw hS ls (lv_sub hl [1, 2, 3, 0] rfl)
        · skip
          replace h := ite_n c12 h
          refine lv_iconst (v := 1) hx hb dX6_differFor_23 (by decide) ?_
          exact pez hx hb hr (is01_nar (Or.inr rfl)) hlocks hA hw hK hS ⟨Option.some.inj h, rfl, (Or.inr rfl)⟩ dX6_differFor_24
  refine lv_iconst (v := 0) hx hb dX6_differFor_0 (by decide) ?_
  refine lv_istore_n (lv' := [(3, .int 0), (0, .ref (G.2.2.1 6 u0)), (1, .ref (G.2.2.1 3 u1)), (2, .ref (G.2.2.1 6 u2))]) hx hb dX6_differFor_1 rfl hl (by decide) rfl (fun ls hl => ?_)
  exact loop2 fu u0 u1 u2 0 hu0 hu1 hu2 h _ _ hw hS ls (lv_sub hl [1, 2, 3, 0] rfl)
def f_X6_comesAheadOf (σ : PvS) (u0 : Nat) (x1 : Int32) : Option Int32 :=
  if x1 < 0 then (some 1) else (if x1 < (nI (σ.2.2.2.2 2).length) then (gd (vin x1 (σ.2.2.2.2 2).length) (nm ((σ.2.2.2.2 2).getD x1.toNatClampNeg 0) (fun y5 => if (σ.2.1 5 2 u0) = (σ.2.1 5 2 y5) then (if (σ.2.1 5 8 u0) < (σ.2.1 5 8 y5) then (some 0) else (some 1)) else (gd (is01 (σ.2.1 5 2 u0)) (some (σ.2.1 5 2 u0)))))) else (some 1))
set_option maxHeartbeats 4000000 in
set_option maxRecDepth 100000 in
theorem c_X6_comesAheadOf {l : Launch} {G : PvG} {tys : List (ClassId × FieldType)} {σ : PvS} (htys : tys = pvT G)  {u0 : Nat} {x1 : Int32} (hu0 : u0 < pvM σ 5) {r : Int32} (h : f_X6_comesAheadOf σ u0 x1 = some r) : Met l yX6_comesAheadOf (Cond.code yX6_comesAheadOf cX6_comesAheadOf 4 (some .boolean) :: WA) ({ frames := 3, cells := 0, slots := 0, locals := 64 }) (va_Pc [.ref (G.2.2.1 5 u0), .int x1, .ref (G.2.2.1 10 2)] (pvU G tys σ)) (va_Qi (fun r' σ' => r' = r ∧ σ' = σ ∧ is01 r') (pvU G tys) (pvB G)) 0 0 (pvB G) := by
  refine Met.ofW (cc := cX6_comesAheadOf) (maxL := 4) (ret := (some .boolean)) (by decide) rfl ?_
  intro p e s m args below meth c s₁ B hml hv
  obtain ⟨rfl, hw, hK, hA⟩ := hv
  have hx := B.exec
  have hb := B.bytes
  have hr := B.returns
  have hts0 := atoms_spec (ws := (Cond.code yX6_comesAheadOf cX6_comesAheadOf 4 (some .boolean) :: WA)) B.pre
  have hts : ∀ w ∈ WA, w.before _ s = true := fun w h => hts0 w (List.mem_cons_of_mem _ h)
  have hown : s.vm.findClass RX6 = some m.cls := findClass_of_methodNamed B.named
  have hlocks := B.notSynchronized
  have hS : va_S (pvB G) s.heap s.heap [] := va_S.rf
  have hl := lv_entry ([.ref (G.2.2.1 5 u0), .int x1, .ref (G.2.2.1 10 2)]) (n := 4) (Nat.le_of_ble_eq_true rfl)
  rw [lg_entry_eq]
  generalize (lg_sl ([.ref (G.2.2.1 5 u0), .int x1, .ref (G.2.2.1 10 2)]) ++ List.replicate (4 - (lg_sl ([.ref (G.2.2.1 5 u0), .int x1, .ref (G.2.2.1 10 2)])).length) Slot.unset).toArray = ls at hl ⊢
  have hl : lv_has ls 4 [(0, .ref (G.2.2.1 5 u0)), (1, .int x1), (2, .ref (G.2.2.1 10 2))] := hl
  have hroot := pv_root hw
  unfold f_X6_comesAheadOf at h
  refine lv_iload_n hx hb dX6_comesAheadOf_0 rfl (lv_at hl 1 rfl) ?_
  refine lv_if_lt (tgt := 12) hx hb dX6_comesAheadOf_1 (by decide) (fun c1 => ?_) (fun c1 => ?_)
  · skip
    replace h := ite_p c1 h
    refine lv_iconst (v := 1) hx hb dX6_comesAheadOf_12 (by decide) ?_
    exact pez hx hb hr (is01_nar (Or.inr rfl)) hlocks hA hw hK hS ⟨Option.some.inj h, rfl, (Or.inr rfl)⟩ dX6_comesAheadOf_13
  · skip
    replace h := ite_n c1 h
    refine lv_iload_n hx hb dX6_comesAheadOf_4 rfl (lv_at hl 1 rfl) ?_
    refine lv_aload_n hx hb dX6_comesAheadOf_5 rfl (lv_at hl 2 rfl) ?_
    refine pcalli (va_runV (As := []) (rest := [.int x1]) ⟨hx, hb, hml, hown, hts⟩ (c_lsize (l := l) (G := G) (tys := tys) (σ := σ) (j := 2) (show 2 < σ.1 0 + 3 from Nat.lt_of_lt_of_le (by decide) (Nat.le_add_left 3 _))) (cwV 0 hts (gVA wm426 wm251 wm252 wm13 wm253) rfl rfl rfl (by decide +kernel) ⟨(Nat.le_of_ble_eq_true rfl), (Nat.le_of_ble_eq_true rfl)⟩) (pl_preV hA hS hw hK 2 (show 2 < σ.1 0 + 3 from Nat.lt_of_lt_of_le (by decide) (Nat.le_add_left 3 _)) []) rfl rfl hl.1 rfl (lv_room (Nat.le_of_ble_eq_true rfl)) dX6_comesAheadOf_6 ⟨Nat.zero_le _, Nat.zero_le _⟩) hS (fun rz2 sz2 H locs hpz2 hw hS => ?_)
    obtain ⟨rfl, ez2⟩ := hpz2
    obtain rfl := ez2.symm
    refine lv_icmp_lt (tgt := 14) hx hb dX6_comesAheadOf_9 (by decide) (fun c3 => ?_) (fun c3 => ?_)
    · skip
      replace h := ite_p c3 h
      refine lv_aload_n hx hb dX6_comesAheadOf_14 rfl (lv_at hl 2 rfl) ?_
      refine lv_iload_n hx hb dX6_comesAheadOf_15 rfl (lv_at hl 1 rfl) ?_
      obtain ⟨g4, h⟩ := gd_e h
      obtain ⟨y5, ey5, h⟩ := nq_e h
      refine pcallg (κ := 5) rfl (va_runV (As := [.int x1]) (rest := []) ⟨hx, hb, hml, hown, hts⟩ (c_lgetI (l := l) (G := G) (tys := tys) (σ := σ) htys (j := 2) (show 2 < σ.1 0 + 3 from Nat.lt_of_lt_of_le (by decide) (Nat.le_add_left 3 _)) g4 (pl_len2 hw 2 (show 2 < σ.1 0 + 3 from Nat.lt_of_lt_of_le (by decide) (Nat.le_add_left 3 _)))) (cwV 1 hts (gVA wm427 wm255 wm256 wm13 wm257) rfl rfl rfl (by decide +kernel) ⟨(Nat.le_of_ble_eq_true rfl), (Nat.le_of_ble_eq_true rfl)⟩) (pl_preV hA hS hw hK 2 (show 2 < σ.1 0 + 3 from Nat.lt_of_lt_of_le (by decide) (Nat.le_add_left 3 _)) [.int x1]) rfl rfl hl.1 rfl (lv_room (Nat.le_of_ble_eq_true rfl)) dX6_comesAheadOf_16 ⟨Nat.zero_le _, Nat.zero_le _⟩) hS (fun zy5 ezy5 H locs hw hS => ?_)
      obtain rfl : y5 = zy5 := ey5.trans ezy5.symm
      have hy5 : y5 < pvM σ 5 := by rw [ey5]; exact pl_lt hw 2 (show 2 < σ.1 0 + 3 from Nat.lt_of_lt_of_le (by decide) (Nat.le_add_left 3 _)) _ (Nat.not_le.mp fun q => g4 (Or.inr q)) rfl
      refine pcast hx hb hown hK hw 5 y5 hy5 (by decide) rfl (hts _ wm436) dX6_comesAheadOf_19 ?_
      refine lv_astore_n (lv' := [(3, .ref (G.2.2.1 5 y5)), (0, .ref (G.2.2.1 5 u0)), (1, .int x1), (2, .ref (G.2.2.1 10 2))]) hx hb dX6_comesAheadOf_22 rfl hl (by decide) rfl (fun ls hl => ?_)
      refine lv_aload_n hx hb dX6_comesAheadOf_23 rfl (lv_at hl 1 rfl) ?_
      refine pgI (C := RX5) (T := TX5) (N := 10) hx hb hts hown hK hw 5 2 u0 hu0 (by decide) rfl rfl inF_X5 (by decide) rfl (hts _ wm461) (fun _ h9 => h9) dX6_comesAheadOf_24 ?_
      refine lv_aload_n hx hb dX6_comesAheadOf_27 rfl (lv_at hl 0 rfl) ?_
      refine pgI (C := RX5) (T := TX5) (N := 10) hx hb hts hown hK hw 5 2 y5 hy5 (by decide) rfl rfl inF_X5 (by decide) rfl (hts _ wm461) (fun _ h9 => h9) dX6_comesAheadOf_28 ?_
      refine lv_icmp_eq (tgt := 39) hx hb dX6_comesAheadOf_31 (by decide) (fun c6 => ?_) (fun c6 => ?_)
      · skip
        replace h := ite_p c6 h
        refine lv_aload_n hx hb dX6_comesAheadOf_39 rfl (lv_at hl 1 rfl) ?_
        refine pgI (C := RX5) (T := TX5) (N := 10) hx hb hts hown hK hw 5 8 u0 hu0 (by decide) rfl rfl inF_X5 (by decide) rfl (hts _ wm462) (fun _ h9 => h9) dX6_comesAheadOf_40 ?_
        refine lv_aload_n hx hb dX6_comesAheadOf_43 rfl (lv_at hl 0 rfl) ?_
        refine pgI (C := RX5) (T := TX5) (N := 10) hx hb hts hown hK hw 5 8 y5 hy5 (by decide) rfl rfl inF_X5 (by decide) rfl (hts _ wm462) (fun _ h9 => h9) dX6_comesAheadOf_44 ?_
        refine lv_icmp_lt (tgt := 54) hx hb dX6_comesAheadOf_47 (by decide) (fun c7 => ?_) (fun c7 => ?_)
        · skip
          replace h := ite_p c7 h
          refine lv_iconst (v := 0) hx hb dX6_comesAheadOf_54 (by decide) ?_
          exact pez hx hb hr (is01_nar (Or.inl rfl)) hlocks hA hw hK hS ⟨Option.some.inj h, rfl, (Or.inl rfl)⟩ dX6_comesAheadOf_55
        · skip
          replace h := ite_n c7 h
          refine lv_iconst (v := 1) hx hb dX6_comesAheadOf_50 (by decide) ?_
          refine lv_goto (tgt := 55) hx hb dX6_comesAheadOf_51 (by decide) ?_
          exact pez hx hb hr (is01_nar (Or.inr rfl)) hlocks hA hw hK hS ⟨Option.some.inj h, rfl, (Or.inr rfl)⟩ dX6_comesAheadOf_55
      · skip
        replace h := ite_n c6 h
        refine lv_aload_n hx hb dX6_comesAheadOf_34 rfl (lv_at hl 1 rfl) ?_
        refine pgI (C := RX5) (T := TX5) (N := 10) hx hb hts hown hK hw 5 2 u0 hu0 (by decide) rfl rfl inF_X5 (by decide) rfl (hts _ wm461) (fun _ h9 => h9) dX6_comesAheadOf_35 ?_
        obtain ⟨g8, h⟩ := gd_e h
        exact pez hx hb hr (is01_nar g8) hlocks hA hw hK hS ⟨Option.some.inj h, rfl, g8⟩ dX6_comesAheadOf_38
    · skip
      replace h := ite_n c3 h
      refine lv_iconst (v := 1) hx hb dX6_comesAheadOf_12 (by decide) ?_
      exact pez hx hb hr (is01_nar (Or.inr rfl)) hlocks hA hw hK hS ⟨Option.some.inj h, rfl, (Or.inr rfl)⟩ dX6_comesAheadOf_13
def f_J7_fill_53178_5  : Nat → PvS → Nat → Int32 → Int32 → Int32 → Option PvS
  | 0, _, _, _, _, _ => none
  | n + 1, τ, ub0, xb1, xb2, xb3 => if xb3 ≤ xb2 then (some τ) else (gd (vin xb2 (pvLen τ 37 ub0)) (nm (pvA τ 37 ub0 (xb2.toNatClampNeg) xb1) (fun σ3 => f_J7_fill_53178_5 n σ3 ub0 xb1 (xb2 + 1) xb3)))
theorem f_J7_fill_53178_5_z {τ : PvS} {ub0 : Nat} {xb1 : Int32} {xb2 : Int32} {xb3 : Int32} : f_J7_fill_53178_5 0 τ ub0 xb1 xb2 xb3 = none := rfl
theorem f_J7_fill_53178_5_s {n : Nat} {τ : PvS} {ub0 : Nat} {xb1 : Int32} {xb2 : Int32} {xb3 : Int32} : f_J7_fill_53178_5 (n + 1) τ ub0 xb1 xb2 xb3 = if xb3 ≤ xb2 then (some τ) else (gd (vin xb2 (pvLen τ 37 ub0)) (nm (pvA τ 37 ub0 (xb2.toNatClampNeg) xb1) (fun σ3 => f_J7_fill_53178_5 n σ3 ub0 xb1 (xb2 + 1) xb3))) := rfl
def f_J7_fill_53178 (σ : PvS) (u0 : Nat) (x1 : Int32) : Option PvS :=
  f_J7_fill_53178_5 fu σ u0 x1 0 (nI (pvLen σ 37 u0))
set_option maxHeartbeats 4000000 in
set_option maxRecDepth 100000 in
theorem c_J7_fill_53178 {l : Launch} {G : PvG} {tys : List (ClassId × FieldType)} {σ : PvS} (htys : tys = pvT G)  {u0 : Nat} {x1 : Int32} (hu0 : u0 < pvM σ 37) {σ1 : PvS} (h : f_J7_fill_53178 σ u0 x1 = some σ1) : Met l yJ7_fill_53178 (Cond.code yJ7_fill_53178 cJ7_fill_53178 4 none :: WA) ({ frames := 0, cells := 0, slots := 0, locals := 0 }) (va_Pc [.ref (G.2.2.1 37 u0), .int x1] (pvU G tys σ)) (va_Qv (fun σ' => σ' = σ1 ∧ σ'.1 = σ.1) (pvU G tys) (pvB G)) 0 0 (pvB G) := by
  refine Met.ofW (cc := cJ7_fill_53178) (maxL := 4) (ret := none) (by decide) rfl ?_
  intro p e s m args below meth c s₁ B hml hv
  obtain ⟨rfl, hw, hK, hA⟩ := hv
  have hx := B.exec
  have hb := B.bytes
  have hr := B.returns
  have hts0 := atoms_spec (ws := (Cond.code yJ7_fill_53178 cJ7_fill_53178 4 none :: WA)) B.pre
  have hts : ∀ w ∈ WA, w.before _ s = true := fun w h => hts0 w (List.mem_cons_of_mem _ h)
  have hown : s.vm.findClass RJ7 = some m.cls := findClass_of_methodNamed B.named
  have hlocks := B.notSynchronized
  have hS : va_S (pvB G) s.heap s.heap [] := va_S.rf
  have hl := lv_entry ([.ref (G.2.2.1 37 u0), .int x1]) (n := 4) (Nat.le_of_ble_eq_true rfl)
  rw [lg_entry_eq]
  generalize (lg_sl ([.ref (G.2.2.1 37 u0), .int x1]) ++ List.replicate (4 - (lg_sl ([.ref (G.2.2.1 37 u0), .int x1])).length) Slot.unset).toArray = ls at hl ⊢
  have hl : lv_has ls 4 [(0, .ref (G.2.2.1 37 u0)), (1, .int x1)] := hl
  have hroot := pv_root hw
  unfold f_J7_fill_53178 at h
  have loop5 : ∀ (n : Nat) (τ : PvS) (ub0 : Nat) (xb1 : Int32) (xb2 : Int32) (xb3 : Int32), (τ.1 = σ.1) → (ub0 < 80) → f_J7_fill_53178_5 n τ ub0 xb1 xb2 xb3 = some σ1 → ∀ (H : Heap) (locs : List Loc), pvW G τ H → va_S (pvB G) s.heap H locs → ∀ (ls : Array Slot), lv_has ls 4 [(0, .ref (G.2.2.1 37 ub0)), (1, .int xb1), (2, .int xb2), (3, .int xb3)] → W p l e (headSpec (Cond.code yJ7_fill_53178 cJ7_fill_53178 4 none :: WA) ({ frames := 0, cells := 0, slots := 0, locals := 0 } : Room)).room s m ([.ref (G.2.2.1 37 u0), .int x1] : List Value).toArray below meth c H locs 0 0 (MQ below (va_Qv (fun σ' => σ' = σ1 ∧ σ'.1 = σ.1) (pvU G tys) (pvB G)) ([.ref (G.2.2.1 37 u0), .int x1] : List Value).toArray s 0 0 (pvB G)) (F0 m 5 ls []) := by
    intro n5
    induction n5 with
    | zero =>
      intro τ ub0 xb1 xb2 xb3 hcτ hub0 h
      rw [f_J7_fill_53178_5_z] at h
      cases h
    | succ n5 ih5 =>
      intro τ ub0 xb1 xb2 xb3 hcτ hub0 h H locs hw hS ls hl
      rw [f_J7_fill_53178_5_s] at h
      refine lv_iload_n hx hb dJ7_fill_53178_5 rfl (lv_at hl 2 rfl) ?_
      refine lv_iload_n hx hb dJ7_fill_53178_6 rfl (lv_at hl 3 rfl) ?_
      refine lv_icmp_ge (tgt := 20) hx hb dJ7_fill_53178_7 (by decide) (fun c1 => ?_) (fun c1 => ?_)
      · skip
        replace h := ite_p c1 h
        exact pev hx hb hr hlocks hA hw hK hS (psv h hcτ) dJ7_fill_53178_20
      · skip
        replace h := ite_n c1 h
        refine lv_aload_n hx hb dJ7_fill_53178_10 rfl (lv_at hl 0 rfl) ?_
        refine lv_iload_n hx hb dJ7_fill_53178_11 rfl (lv_at hl 2 rfl) ?_
        refine lv_iload_n hx hb dJ7_fill_53178_12 rfl (lv_at hl 1 rfl) ?_
        obtain ⟨g2, h⟩ := gd_e h
        obtain ⟨σ3, eσ3, h⟩ := nq_e h
        refine ppA hx hb hK htys hw hS 37 ub0 hub0 rfl (by decide) g2 dJ7_fill_53178_13 (fun H locs hw hS => ?_)
        rw [← eσ3] at hw
        have hcσ3 : σ3.1 = σ.1 := by rw [eσ3]; exact hcτ
        refine lv_iinc (v := xb2 + 1) (lv' := [(2, .int (xb2 + 1)), (0, .ref (G.2.2.1 37 ub0)), (1, .int xb1), (3, .int xb3)]) hx hb dJ7_fill_53178_14 hl (k := 2) rfl (by rfl) (by decide) rfl (fun ls hl => ?_)
        refine lv_goto (tgt := 5) hx hb dJ7_fill_53178_17 (by decide) ?_
        exact ih5 σ3 ub0 xb1 (xb2 + 1) xb3 hcσ3 hub0 h _ _ hw hS ls (lv_sub hl [1, 2, 0, 3] rfl)
  refine lv_iconst (v := 0) hx hb dJ7_fill_53178_0 (by decide) ?_
  refine lv_istore_n (lv' := [(2, .int 0), (0, .ref (G.2.2.1 37 u0)), (1, .int x1)]) hx hb dJ7_fill_53178_1 rfl hl (by decide) rfl (fun ls hl => ?_)
  refine lv_aload_n hx hb dJ7_fill_53178_2 rfl (lv_at hl 1 rfl) ?_
  refine palen hx hb hK htys hw 37 u0 hu0 rfl (by decide) dJ7_fill_53178_3 ?_
  refine lv_istore_n (lv' := [(3, .int (nI (pvLen σ 37 u0))), (2, .int 0), (0, .ref (G.2.2.1 37 u0)), (1, .int x1)]) hx hb dJ7_fill_53178_4 rfl hl (by decide) rfl (fun ls hl => ?_)
  exact loop5 fu σ u0 x1 0 (nI (pvLen σ 37 u0)) rfl hu0 h _ _ hw hS ls (lv_sub hl [2, 3, 1, 0] rfl)
def f_X5_fitsUpTo_22  (kf : PvS → Nat → Int32 → Nat → Option Int32) (σ : PvS) : Nat → Nat → Int32 → Option Nat → Option Int32
  | 0, _, _, _ => none
  | n + 1, ub0, xb1, ob3 => oc ob3 (some 0) (fun job3 => ob1 (kf σ ub0 (xb1 - 1) job3) (fun r1 => if r1 = 0 then (gd (vin xb1 3) (if (σ.2.2.2.1 41 ub0 xb1.toNatClampNeg) = 0 then (nm (σ.2.2.1 3 8 job3) (fun o9 => f_X5_fitsUpTo_22 kf σ n ub0 xb1 o9)) else (some 0))) else (some 1)))
theorem f_X5_fitsUpTo_22_z {kf : PvS → Nat → Int32 → Nat → Option Int32} {σ : PvS} {ub0 : Nat} {xb1 : Int32} {ob3 : Option Nat} : f_X5_fitsUpTo_22 kf σ 0 ub0 xb1 ob3 = none := rfl
theorem f_X5_fitsUpTo_22_s {n : Nat} {kf : PvS → Nat → Int32 → Nat → Option Int32} {σ : PvS} {ub0 : Nat} {xb1 : Int32} {ob3 : Option Nat} : f_X5_fitsUpTo_22 kf σ (n + 1) ub0 xb1 ob3 = oc ob3 (some 0) (fun job3 => ob1 (kf σ ub0 (xb1 - 1) job3) (fun r1 => if r1 = 0 then (gd (vin xb1 3) (if (σ.2.2.2.1 41 ub0 xb1.toNatClampNeg) = 0 then (nm (σ.2.2.1 3 8 job3) (fun o9 => f_X5_fitsUpTo_22 kf σ n ub0 xb1 o9)) else (some 0))) else (some 1))) := rfl
def f_X5_fitsUpTo : Nat → PvS → Nat → Int32 → Nat → Option Int32
  | 0, _, _, _, _ => none
  | nr + 1, σ, u0, x1, u2 => ob1 (f_X5_fits σ u0 x1 u2) (fun r10 => if r10 = 0 then (some 0) else (if x1 = 0 then (some 1) else (nm (σ.2.2.1 3 8 u2) (fun o17 => f_X5_fitsUpTo_22 (f_X5_fitsUpTo nr) σ fu u0 x1 o17))))
theorem f_X5_fitsUpTo_z {σ : PvS} {u0 : Nat} {x1 : Int32} {u2 : Nat} : f_X5_fitsUpTo 0 σ u0 x1 u2 = none := rfl
theorem f_X5_fitsUpTo_s {nr : Nat} {σ : PvS} {u0 : Nat} {x1 : Int32} {u2 : Nat} : f_X5_fitsUpTo (nr + 1) σ u0 x1 u2 = ob1 (f_X5_fits σ u0 x1 u2) (fun r10 => if r10 = 0 then (some 0) else (if x1 = 0 then (some 1) else (nm (σ.2.2.1 3 8 u2) (fun o17 => f_X5_fitsUpTo_22 (f_X5_fitsUpTo nr) σ fu u0 x1 o17)))) := rfl
set_option maxHeartbeats 4000000 in
set_option maxRecDepth 100000 in
theorem c_X5_fitsUpTo {l : Launch} {G : PvG} {tys : List (ClassId × FieldType)} (htys : tys = pvT G) : ∀ (nr : Nat) {σ : PvS} {u0 : Nat} {x1 : Int32} {u2 : Nat} {r : Int32}, (u0 < pvM σ 5) → (u2 < pvM σ 3) → f_X5_fitsUpTo nr σ u0 x1 u2 = some r → Met l yX5_fitsUpTo (Cond.code yX5_fitsUpTo cX5_fitsUpTo 4 (some .boolean) :: WA) ({ frames := 1 * nr + 1, cells := 0, slots := 0, locals := 23 * nr + 25 }) (va_Pc [.ref (G.2.2.1 5 u0), .int x1, .ref (G.2.2.1 3 u2)] (pvU G tys σ)) (va_Qi (fun r' σ' => r' = r ∧ σ' = σ ∧ is01 r') (pvU G tys) (pvB G)) 0 0 (pvB G) := by
  intro nr
  induction nr with
  | zero =>
    intros
    rename_i h
    rw [f_X5_fitsUpTo_z] at h
    cases h
  | succ nr ih =>
  intro σ u0 x1 u2 r hu0 hu2 h
  refine Met.ofW (cc := cX5_fitsUpTo) (maxL := 4) (ret := (some .boolean)) (by decide) rfl ?_
  intro p e s m args below meth c s₁ B hml hv
  obtain ⟨rfl, hw, hK, hA⟩ := hv
  have hx := B.exec
  have hb := B.bytes
  have hr := B.returns
  have hts0 := atoms_spec (ws := (Cond.code yX5_fitsUpTo cX5_fitsUpTo 4 (some .boolean) :: WA)) B.pre
  have hts : ∀ w ∈ WA, w.before _ s = true := fun w h => hts0 w (List.mem_cons_of_mem _ h)
  have hown : s.vm.findClass RX5 = some m.cls := findClass_of_methodNamed B.named
  have hlocks := B.notSynchronized
  have hS : va_S (pvB G) s.heap s.heap [] := va_S.rf
  have hl := lv_entry ([.ref (G.2.2.1 5 u0), .int x1, .ref (G.2.2.1 3 u2)]) (n := 4) (Nat.le_of_ble_eq_true rfl)
  rw [lg_entry_eq]
  generalize (lg_sl ([.ref (G.2.2.1 5 u0), .int x1, .ref (G.2.2.1 3 u2)]) ++ List.replicate (4 - (lg_sl ([.ref (G.2.2.1 5 u0), .int x1, .ref (G.2.2.1 3 u2)])).length) Slot.unset).toArray = ls at hl ⊢
  have hl : lv_has ls 4 [(0, .ref (G.2.2.1 5 u0)), (1, .int x1), (2, .ref (G.2.2.1 3 u2))] := hl
  have hroot := pv_root hw
  rw [f_X5_fitsUpTo_s] at h
  have loop22 : ∀ (n : Nat) (ub0 : Nat) (xb1 : Int32) (ob3 : Option Nat), (ub0 < pvM σ 5) → (∀ j, ob3 = some j → j < pvM σ 3) → f_X5_fitsUpTo_22 (f_X5_fitsUpTo nr) σ n ub0 xb1 ob3 = some r → ∀ (H : Heap) (locs : List Loc), pvW G σ H → va_S (pvB G) s.heap H locs → ∀ (ls : Array Slot), lv_has ls 4 [(0, .ref (G.2.2.1 5 ub0)), (1, .int xb1), (3, va_rf (ob3.map (G.2.2.1 3)))] → W p l e (headSpec (Cond.code yX5_fitsUpTo cX5_fitsUpTo 4 (some .boolean) :: WA) ({ frames := 1 * (nr + 1) + 1, cells := 0, slots := 0, locals := 23 * (nr + 1) + 25 } : Room)).room s m ([.ref (G.2.2.1 5 u0), .int x1, .ref (G.2.2.1 3 u2)] : List Value).toArray below meth c H locs 0 0 (MQ below (va_Qi (fun r' σ' => r' = r ∧ σ' = σ ∧ is01 r') (pvU G tys) (pvB G)) ([.ref (G.2.2.1 5 u0), .int x1, .ref (G.2.2.1 3 u2)] : List Value).toArray s 0 0 (pvB G)) (F0 m 22 ls []) := by
    intro n22
    induction n22 with
    | zero =>
      intro ub0 xb1 ob3 hub0 hob3 h
      rw [f_X5_fitsUpTo_22_z] at h
      cases h
    | succ n22 ih22 =>
      intro ub0 xb1 ob3 hub0 hob3 h H locs hw hS ls hl
      rw [f_X5_fitsUpTo_22_s] at h
      refine qld_n hx hb dX5_fitsUpTo_22 rfl (lv_at hl 2 rfl) ?_
      rcases ob3 with _ | job3
      · skip
        replace h := oc_n h
        have hl : lv_has ls 4 [(0, .ref (G.2.2.1 5 ub0)), (1, .int xb1), (3, .null)] := hl
        refine lv_ifnullN (tgt := 58) hx hb dX5_fitsUpTo_23 (by decide) ?_
        refine lv_iconst (v := 0) hx hb dX5_fitsUpTo_58 (by decide) ?_
        exact pez hx hb hr (is01_nar (Or.inl rfl)) hlocks hA hw hK hS ⟨Option.some.inj h, rfl, (Or.inl rfl)⟩ dX5_fitsUpTo_59
      · skip
        replace h := oc_s h
        have hl : lv_has ls 4 [(0, .ref (G.2.2.1 5 ub0)), (1, .int xb1), (3, .ref (G.2.2.1 3 job3))] := hl
        have hjob3 := hob3 job3 rfl
        refine lv_ifnull hx hb dX5_fitsUpTo_23 ?_
        refine lv_aload_n hx hb dX5_fitsUpTo_26 rfl (lv_at hl 0 rfl) ?_
        refine lv_iload_n hx hb dX5_fitsUpTo_27 rfl (lv_at hl 1 rfl) ?_
        refine lv_iconst (v := 1) hx hb dX5_fitsUpTo_28 (by decide) ?_
        refine lv_isub hx hb dX5_fitsUpTo_29 ?_
        refine lv_aload_n hx hb dX5_fitsUpTo_30 rfl (lv_at hl 2 rfl) ?_
        obtain ⟨r1, e2, h⟩ := ob1_e h
        refine pcalli (va_runS (As := [.ref (G.2.2.1 5 ub0), .int (xb1 - 1), .ref (G.2.2.1 3 job3)]) (rest := []) ⟨hx, hb, hml, hown, hts⟩ (ih hub0 hjob3 e2) (va_cwS 3 hts (gSA wm447 wm448 wm359 wm449) rfl rfl rfl (by decide +kernel) ⟨(by show 1 * nr + 1 + 1 ≤ 1 * (nr + 1) + 1; omega), (by show 8 + (4 + 11) + (23 * nr + 25) ≤ 23 * (nr + 1) + 25; omega)⟩) (pv_preS hA hS hw hK [.ref (G.2.2.1 5 ub0), .int (xb1 - 1), .ref (G.2.2.1 3 job3)]) rfl rfl hl.1 rfl (lv_room (Nat.le_of_ble_eq_true rfl)) dX5_fitsUpTo_31 ⟨Nat.zero_le _, Nat.zero_le _⟩) hS (fun r4 s5 H locs hp3 hw hS => ?_)
        obtain ⟨err1, esr1, hzr1⟩ := hp3
        obtain rfl := esr1.symm
        obtain rfl := err1.symm
        refine lv_if_eq (tgt := 39) hx hb dX5_fitsUpTo_34 (by decide) (fun c6 => ?_) (fun c6 => ?_)
        · skip
          replace h := ite_p c6 h
          refine lv_aload_n hx hb dX5_fitsUpTo_39 rfl (lv_at hl 0 rfl) ?_
          refine pgL (C := RX5) (T := TX5) (N := 10) hx hb hts hown hK hw 5 6 ub0 hub0 (by decide) rfl rfl inF_X5 (by decide) (v := .ref (G.2.2.1 41 ub0)) rfl (hts _ wm368) (fun _ h9 => h9) dX5_fitsUpTo_40 ?_
          refine lv_iload_n hx hb dX5_fitsUpTo_43 rfl (lv_at hl 1 rfl) ?_
          obtain ⟨g7, h⟩ := gd_e h
          refine pgZ hx hb hK htys hw ub0 hub0 g7 dX5_fitsUpTo_44 ?_
          refine lv_if_eq (tgt := 50) hx hb dX5_fitsUpTo_45 (by decide) (fun c8 => ?_) (fun c8 => ?_)
          · skip
            replace h := ite_p c8 h
            refine lv_aload_n hx hb dX5_fitsUpTo_50 rfl (lv_at hl 2 rfl) ?_
            obtain ⟨o9, eo9, h⟩ := nq_e h
            have ho9 := pv_cl hw eo9
            refine pgR (C := RX3) (T := TX3) (N := 14) hx hb hts hown hK hw 3 8 job3 hjob3 (by decide) rfl rfl inF_X3 (by decide) rfl o9 eo9 (hts _ wm450) (fun _ h9 => h9) dX5_fitsUpTo_51 ?_
            refine qst_n (lv' := [(3, va_rf (o9.map (G.2.2.1 3))), (0, .ref (G.2.2.1 5 ub0)), (1, .int xb1)]) hx hb dX5_fitsUpTo_54 rfl hl (by decide) rfl (fun ls hl => ?_)
            refine lv_goto (tgt := 22) hx hb dX5_fitsUpTo_55 (by decide) ?_
            exact ih22 ub0 xb1 o9 hub0 ho9 h _ _ hw hS ls (lv_sub hl [1, 2, 0] rfl)
          · skip
            replace h := ite_n c8 h
            refine lv_iconst (v := 0) hx hb dX5_fitsUpTo_48 (by decide) ?_
            exact pez hx hb hr (is01_nar (Or.inl rfl)) hlocks hA hw hK hS ⟨Option.some.inj h, rfl, (Or.inl rfl)⟩ dX5_fitsUpTo_49
        · skip
          replace h := ite_n c6 h
          refine lv_iconst (v := 1) hx hb dX5_fitsUpTo_37 (by decide) ?_
          exact pez hx hb hr (is01_nar (Or.inr rfl)) hlocks hA hw hK hS ⟨Option.some.inj h, rfl, (Or.inr rfl)⟩ dX5_fitsUpTo_38
  refine lv_aload_n hx hb dX5_fitsUpTo_0 rfl (lv_at hl 0 rfl) ?_
  refine lv_iload_n hx hb dX5_fitsUpTo_1 rfl (lv_at hl 1 rfl) ?_
  refine lv_aload_n hx hb dX5_fitsUpTo_2 rfl (lv_at hl 2 rfl) ?_
  obtain ⟨r10, e11, h⟩ := ob1_e h
  refine pcalli (va_runV (As := [.int x1, .ref (G.2.2.1 3 u2)]) (rest := []) ⟨hx, hb, hml, hown, hts⟩ (c_X5_fits (l := l) (G := G) (tys := tys) (σ := σ) htys hu0 hu2 e11) (cwV 2 hts (gVA wm451 wm452 wm453 wm359 wm454) rfl rfl rfl (by decide +kernel) ⟨(by show 0 + 1 ≤ 1 * (nr + 1) + 1; omega), (by show 8 + (6 + 11) + (0) ≤ 23 * (nr + 1) + 25; omega)⟩) (pv_preV hA hS hw hK 5 u0 hu0 (by decide) rfl [.int x1, .ref (G.2.2.1 3 u2)]) rfl rfl hl.1 rfl (lv_room (Nat.le_of_ble_eq_true rfl)) dX5_fitsUpTo_3 ⟨Nat.zero_le _, Nat.zero_le _⟩) hS (fun r13 s14 H locs hp12 hw hS => ?_)
  obtain ⟨err10, esr10, hzr10⟩ := hp12
  obtain rfl := esr10.symm
  obtain rfl := err10.symm
  refine lv_if_ne (tgt := 11) hx hb dX5_fitsUpTo_6 (by decide) (fun c15 => ?_) (fun c15 => ?_)
  · skip
    replace h := ite_n c15 h
    refine lv_iload_n hx hb dX5_fitsUpTo_11 rfl (lv_at hl 1 rfl) ?_
    refine lv_if_ne (tgt := 17) hx hb dX5_fitsUpTo_12 (by decide) (fun c16 => ?_) (fun c16 => ?_)
    · skip
      replace h := ite_n c16 h
      refine lv_aload_n hx hb dX5_fitsUpTo_17 rfl (lv_at hl 2 rfl) ?_
      obtain ⟨o17, eo17, h⟩ := nq_e h
      have ho17 := pv_cl hw eo17
      refine pgR (C := RX3) (T := TX3) (N := 14) hx hb hts hown hK hw 3 8 u2 hu2 (by decide) rfl rfl inF_X3 (by decide) rfl o17 eo17 (hts _ wm450) (fun _ h9 => h9) dX5_fitsUpTo_18 ?_
      refine qst_n (lv' := [(3, va_rf (o17.map (G.2.2.1 3))), (0, .ref (G.2.2.1 5 u0)), (1, .int x1), (2, .ref (G.2.2.1 3 u2))]) hx hb dX5_fitsUpTo_21 rfl hl (by decide) rfl (fun ls hl => ?_)
      exact loop22 fu u0 x1 o17 hu0 ho17 h _ _ hw hS ls (lv_sub hl [1, 2, 0] rfl)
    · skip
      replace h := ite_p c16 h
      refine lv_iconst (v := 1) hx hb dX5_fitsUpTo_15 (by decide) ?_
      exact pez hx hb hr (is01_nar (Or.inr rfl)) hlocks hA hw hK hS ⟨Option.some.inj h, rfl, (Or.inr rfl)⟩ dX5_fitsUpTo_16
  · skip
    replace h := ite_p c15 h
    refine lv_iconst (v := 0) hx hb dX5_fitsUpTo_9 (by decide) ?_
    exact pez hx hb hr (is01_nar (Or.inl rfl)) hlocks hA hw hK hS ⟨Option.some.inj h, rfl, (Or.inl rfl)⟩ dX5_fitsUpTo_10
def f_X5_selects (σ : PvS) (u0 : Nat) (u1 : Nat) : Option Int32 :=
  if (σ.2.1 3 1 u1) = 0 then (if (σ.2.1 5 7 u0) ≤ 0 then (some 0) else (ob1 (f_X5_fitsUpTo 4 σ u0 ((σ.2.1 5 7 u0) - 1) u1) (fun r3 => if r3 = 0 then (some 0) else (some 1)))) else (some 0)
set_option maxHeartbeats 4000000 in
set_option maxRecDepth 100000 in
theorem c_X5_selects {l : Launch} {G : PvG} {tys : List (ClassId × FieldType)} {σ : PvS} (htys : tys = pvT G)  {u0 : Nat} {u1 : Nat} (hu0 : u0 < pvM σ 5) (hu1 : u1 < pvM σ 3) {r : Int32} (h : f_X5_selects σ u0 u1 = some r) : Met l yX5_selects (Cond.code yX5_selects cX5_selects 2 (some .boolean) :: WA) ({ frames := 6, cells := 0, slots := 0, locals := 140 }) (va_Pc [.ref (G.2.2.1 5 u0), .ref (G.2.2.1 3 u1)] (pvU G tys σ)) (va_Qi (fun r' σ' => r' = r ∧ σ' = σ ∧ is01 r') (pvU G tys) (pvB G)) 0 0 (pvB G) := by
  refine Met.ofW (cc := cX5_selects) (maxL := 2) (ret := (some .boolean)) (by decide) rfl ?_
  intro p e s m args below meth c s₁ B hml hv
  obtain ⟨rfl, hw, hK, hA⟩ := hv
  have hx := B.exec
  have hb := B.bytes
  have hr := B.returns
  have hts0 := atoms_spec (ws := (Cond.code yX5_selects cX5_selects 2 (some .boolean) :: WA)) B.pre
  have hts : ∀ w ∈ WA, w.before _ s = true := fun w h => hts0 w (List.mem_cons_of_mem _ h)
  have hown : s.vm.findClass RX5 = some m.cls := findClass_of_methodNamed B.named
  have hlocks := B.notSynchronized
  have hS : va_S (pvB G) s.heap s.heap [] := va_S.rf
  have hl := lv_entry ([.ref (G.2.2.1 5 u0), .ref (G.2.2.1 3 u1)]) (n := 2) (Nat.le_of_ble_eq_true rfl)
  rw [lg_entry_eq]
  generalize (lg_sl ([.ref (G.2.2.1 5 u0), .ref (G.2.2.1 3 u1)]) ++ List.replicate (2 - (lg_sl ([.ref (G.2.2.1 5 u0), .ref (G.2.2.1 3 u1)])).length) Slot.unset).toArray = ls at hl ⊢
  have hl : lv_has ls 2 [(0, .ref (G.2.2.1 5 u0)), (1, .ref (G.2.2.1 3 u1))] := hl
  have hroot := pv_root hw
  unfold f_X5_selects at h
  refine lv_aload_n hx hb dX5_selects_0 rfl (lv_at hl 1 rfl) ?_
  refine pgI (C := RX3) (T := TX3) (N := 14) hx hb hts hown hK hw 3 1 u1 hu1 (by decide) rfl rfl inF_X3 (by decide) rfl (hts _ wm446) (fun _ h9 => h9) dX5_selects_1 ?_
  refine lv_if_ne (tgt := 32) hx hb dX5_selects_4 (by decide) (fun c1 => ?_) (fun c1 => ?_)
  · skip
    replace h := ite_n c1 h
    refine lv_iconst (v := 0) hx hb dX5_selects_32 (by decide) ?_
    exact pez hx hb hr (is01_nar (Or.inl rfl)) hlocks hA hw hK hS ⟨Option.some.inj h, rfl, (Or.inl rfl)⟩ dX5_selects_33
  · skip
    replace h := ite_p c1 h
    refine lv_aload_n hx hb dX5_selects_7 rfl (lv_at hl 0 rfl) ?_
    refine pgI (C := RX5) (T := TX5) (N := 10) hx hb hts hown hK hw 5 7 u0 hu0 (by decide) rfl rfl inF_X5 (by decide) rfl (hts _ wm369) (fun _ h9 => h9) dX5_selects_8 ?_
    refine lv_if_le (tgt := 32) hx hb dX5_selects_11 (by decide) (fun c2 => ?_) (fun c2 => ?_)
    · skip
      replace h := ite_p c2 h
      refine lv_iconst (v := 0) hx hb dX5_selects_32 (by decide) ?_
      exact pez hx hb hr (is01_nar (Or.inl rfl)) hlocks hA hw hK hS ⟨Option.some.inj h, rfl, (Or.inl rfl)⟩ dX5_selects_33
    · skip
      replace h := ite_n c2 h
      refine lv_aload_n hx hb dX5_selects_14 rfl (lv_at hl 0 rfl) ?_
      refine lv_aload_n hx hb dX5_selects_15 rfl (lv_at hl 0 rfl) ?_
      refine pgI (C := RX5) (T := TX5) (N := 10) hx hb hts hown hK hw 5 7 u0 hu0 (by decide) rfl rfl inF_X5 (by decide) rfl (hts _ wm369) (fun _ h9 => h9) dX5_selects_16 ?_
      refine lv_iconst (v := 1) hx hb dX5_selects_19 (by decide) ?_
      refine lv_isub hx hb dX5_selects_20 ?_
      refine lv_aload_n hx hb dX5_selects_21 rfl (lv_at hl 1 rfl) ?_
      obtain ⟨r3, e4, h⟩ := ob1_e h
      refine pcalli (va_runS (As := [.ref (G.2.2.1 5 u0), .int ((σ.2.1 5 7 u0) - 1), .ref (G.2.2.1 3 u1)]) (rest := []) ⟨hx, hb, hml, hown, hts⟩ (c_X5_fitsUpTo (l := l) (G := G) (tys := tys) htys 4 (σ := σ) hu0 hu1 e4) (va_cwS 3 hts (gSA wm447 wm448 wm359 wm449) rfl rfl rfl (by decide +kernel) ⟨(Nat.le_of_ble_eq_true rfl), (Nat.le_of_ble_eq_true rfl)⟩) (pv_preS hA hS hw hK [.ref (G.2.2.1 5 u0), .int ((σ.2.1 5 7 u0) - 1), .ref (G.2.2.1 3 u1)]) rfl rfl hl.1 rfl (lv_room (Nat.le_of_ble_eq_true rfl)) dX5_selects_22 ⟨Nat.zero_le _, Nat.zero_le _⟩) hS (fun r6 s7 H locs hp5 hw hS => ?_)
      obtain ⟨err3, esr3, hzr3⟩ := hp5
      obtain rfl := esr3.symm
      obtain rfl := err3.symm
      refine lv_if_eq (tgt := 32) hx hb dX5_selects_25 (by decide) (fun c8 => ?_) (fun c8 => ?_)
      · skip
        replace h := ite_p c8 h
        refine lv_iconst (v := 0) hx hb dX5_selects_32 (by decide) ?_
        exact pez hx hb hr (is01_nar (Or.inl rfl)) hlocks hA hw hK hS ⟨Option.some.inj h, rfl, (Or.inl rfl)⟩ dX5_selects_33
      · skip
        replace h := ite_n c8 h
        refine lv_iconst (v := 1) hx hb dX5_selects_28 (by decide) ?_
        refine lv_goto (tgt := 33) hx hb dX5_selects_29 (by decide) ?_
        exact pez hx hb hr (is01_nar (Or.inr rfl)) hlocks hA hw hK hS ⟨Option.some.inj h, rfl, (Or.inr rfl)⟩ dX5_selects_33
def f_X6_findRules_84 (k20 : PvS → Nat → Int32 → Nat → Int32 → Option PvS) (τ : PvS) (ub1 : Nat) (xb3 : Int32) (ub4 : Nat) (xb5 : Int32) (ub6 : Nat) (xbs0 : Int32) : Option PvS :=
  if xbs0 = 0 then (k20 τ ub1 xb3 ub4 (xb5 + 1)) else (gd (vin (τ.2.1 5 0 ub6) (pvLen τ 37 ub4)) (ob1 (f_X6_comesAheadOf τ ub6 (τ.2.2.2.1 37 ub4 (τ.2.1 5 0 ub6).toNatClampNeg)) (fun r3 => if r3 = 0 then (k20 τ ub1 xb3 ub4 (xb5 + 1)) else (gd (vin (τ.2.1 5 0 ub6) (pvLen τ 37 ub4)) (nm (pvA τ 37 ub4 ((τ.2.1 5 0 ub6).toNatClampNeg) xb5) (fun σ10 => k20 σ10 ub1 xb3 ub4 (xb5 + 1)))))))
def f_X6_findRules_83 (k20 : PvS → Nat → Int32 → Nat → Int32 → Option PvS) (τ : PvS) (ub1 : Nat) (xb3 : Int32) (ub4 : Nat) (xb5 : Int32) (ub6 : Nat) : Option PvS :=
  f_X6_findRules_84 k20 τ ub1 xb3 ub4 xb5 ub6 0
def f_X6_findRules_56 (k20 : PvS → Nat → Int32 → Nat → Int32 → Option PvS) (τ : PvS) (ub1 : Nat) (xb3 : Int32) (ub4 : Nat) (xb5 : Int32) (ub6 : Nat) (xbs0 : Int32) (xbs1 : Int32) : Option PvS :=
  if xbs1 = xbs0 then (f_X6_findRules_83 k20 τ ub1 xb3 ub4 xb5 ub6) else (ob1 (f_X9_isProperty τ (τ.2.1 5 0 ub6)) (fun r12 => if r12 = 0 then (f_X6_findRules_83 k20 τ ub1 xb3 ub4 xb5 ub6) else (ob1 (f_X5_selects τ ub6 ub1) (fun r18 => if r18 = 0 then (f_X6_findRules_83 k20 τ ub1 xb3 ub4 xb5 ub6) else (f_X6_findRules_84 k20 τ ub1 xb3 ub4 xb5 ub6 1)))))
def f_X6_findRules_20  : Nat → PvS → Nat → Int32 → Nat → Int32 → Option PvS
  | 0, _, _, _, _, _ => none
  | n + 1, τ, ub1, xb3, ub4, xb5 => if (nI (τ.2.2.2.2 2).length) ≤ xb5 then (some τ) else (gd (vin xb5 (τ.2.2.2.2 2).length) (nm ((τ.2.2.2.2 2).getD xb5.toNatClampNeg 0) (fun y27 => if xb5 = xb3 then (f_X6_findRules_56 (f_X6_findRules_20 n) τ ub1 xb3 ub4 xb5 y27 1 (τ.2.1 5 9 y27)) else (f_X6_findRules_56 (f_X6_findRules_20 n) τ ub1 xb3 ub4 xb5 y27 0 (τ.2.1 5 9 y27)))))
theorem f_X6_findRules_20_z {τ : PvS} {ub1 : Nat} {xb3 : Int32} {ub4 : Nat} {xb5 : Int32} : f_X6_findRules_20 0 τ ub1 xb3 ub4 xb5 = none := rfl
theorem f_X6_findRules_20_s {n : Nat} {τ : PvS} {ub1 : Nat} {xb3 : Int32} {ub4 : Nat} {xb5 : Int32} : f_X6_findRules_20 (n + 1) τ ub1 xb3 ub4 xb5 = if (nI (τ.2.2.2.2 2).length) ≤ xb5 then (some τ) else (gd (vin xb5 (τ.2.2.2.2 2).length) (nm ((τ.2.2.2.2 2).getD xb5.toNatClampNeg 0) (fun y27 => if xb5 = xb3 then (f_X6_findRules_56 (f_X6_findRules_20 n) τ ub1 xb3 ub4 xb5 y27 1 (τ.2.1 5 9 y27)) else (f_X6_findRules_56 (f_X6_findRules_20 n) τ ub1 xb3 ub4 xb5 y27 0 (τ.2.1 5 9 y27))))) := rfl
def f_X6_findRules (σ : PvS) (u0 : Nat) (u1 : Nat) (x3 : Int32) : Option PvS :=
  gd (vin (σ.2.1 3 0 u1) 40) (ob1 (f_J7_fill_53178 σ (40 * u0 + (σ.2.1 3 0 u1).toNatClampNeg) (-1)) (fun σ32 => f_X6_findRules_20 fu σ32 u1 x3 (40 * u0 + (σ.2.1 3 0 u1).toNatClampNeg) 0))
set_option maxHeartbeats 4000000 in
set_option maxRecDepth 100000 in
theorem c_X6_findRules {l : Launch} {G : PvG} {tys : List (ClassId × FieldType)} {σ : PvS} (htys : tys = pvT G)  {u0 : Nat} {u1 : Nat} {x3 : Int32} (hu0 : u0 < pvM σ 6) (hu1 : u1 < pvM σ 3) {σ1 : PvS} (h : f_X6_findRules σ u0 u1 x3 = some σ1) : Met l yX6_findRules (Cond.code yX6_findRules cX6_findRules 8 none :: WA) ({ frames := 7, cells := 0, slots := 0, locals := 161 }) (va_Pc [.ref (G.2.2.1 6 u0), .ref (G.2.2.1 3 u1), .ref (G.2.2.1 10 2), .int x3] (pvU G tys σ)) (va_Qv (fun σ' => σ' = σ1 ∧ σ'.1 = σ.1) (pvU G tys) (pvB G)) 0 0 (pvB G) := by
  refine Met.ofW (cc := cX6_findRules) (maxL := 8) (ret := none) (by decide) rfl ?_
  intro p e s m args below meth c s₁ B hml hv
  obtain ⟨rfl, hw, hK, hA⟩ := hv
  have hx := B.exec
  have hb := B.bytes
  have hr := B.returns
  have hts0 := atoms_spec (ws := (Cond.code yX6_findRules cX6_findRules 8 none :: WA)) B.pre
  have hts : ∀ w ∈ WA, w.before _ s = true := fun w h => hts0 w (List.mem_cons_of_mem _ h)
  have hown : s.vm.findClass RX6 = some m.cls := findClass_of_methodNamed B.named
  have hlocks := B.notSynchronized
  have hS : va_S (pvB G) s.heap s.heap [] := va_S.rf
  have hl := lv_entry ([.ref (G.2.2.1 6 u0), .ref (G.2.2.1 3 u1), .ref (G.2.2.1 10 2), .int x3]) (n := 8) (Nat.le_of_ble_eq_true rfl)
  rw [lg_entry_eq]
  generalize (lg_sl ([.ref (G.2.2.1 6 u0), .ref (G.2.2.1 3 u1), .ref (G.2.2.1 10 2), .int x3]) ++ List.replicate (8 - (lg_sl ([.ref (G.2.2.1 6 u0), .ref (G.2.2.1 3 u1), .ref (G.2.2.1 10 2), .int x3])).length) Slot.unset).toArray = ls at hl ⊢
  have hl : lv_has ls 8 [(0, .ref (G.2.2.1 6 u0)), (1, .ref (G.2.2.1 3 u1)), (2, .ref (G.2.2.1 10 2)), (3, .int x3)] := hl
  have hroot := pv_root hw
  unfold f_X6_findRules at h
  have loop20 : ∀ (n : Nat) (τ : PvS) (ub1 : Nat) (xb3 : Int32) (ub4 : Nat) (xb5 : Int32), (τ.1 = σ.1) → (ub1 < pvM σ 3) → (ub4 < 80) → f_X6_findRules_20 n τ ub1 xb3 ub4 xb5 = some σ1 → ∀ (H : Heap) (locs : List Loc), pvW G τ H → va_S (pvB G) s.heap H locs → ∀ (ls : Array Slot), lv_has ls 8 [(1, .ref (G.2.2.1 3 ub1)), (2, .ref (G.2.2.1 10 2)), (3, .int xb3), (4, .ref (G.2.2.1 37 ub4)), (5, .int xb5)] → W p l e (headSpec (Cond.code yX6_findRules cX6_findRules 8 none :: WA) ({ frames := 7, cells := 0, slots := 0, locals := 161 } : Room)).room s m ([.ref (G.2.2.1 6 u0), .ref (G.2.2.1 3 u1), .ref (G.2.2.1 10 2), .int x3] : List Value).toArray below meth c H locs 0 0 (MQ below (va_Qv (fun σ' => σ' = σ1 ∧ σ'.1 = σ.1) (pvU G tys) (pvB G)) ([.ref (G.2.2.1 6 u0), .ref (G.2.2.1 3 u1), .ref (G.2.2.1 10 2), .int x3] : List Value).toArray s 0 0 (pvB G)) (F0 m 20 ls []) := by
    intro n20
    induction n20 with
    | zero =>
      intro τ ub1 xb3 ub4 xb5 hcτ hub1 hub4 h
      rw [f_X6_findRules_20_z] at h
      cases h
    | succ n20 ih20 =>
      have blk84 : ∀ (τ : PvS) (ub1 : Nat) (xb3 : Int32) (ub4 : Nat) (xb5 : Int32) (ub6 : Nat) (xbs0 : Int32), (τ.1 = σ.1) → (ub1 < pvM σ 3) → (ub4 < 80) → (ub6 < pvM σ 5) → f_X6_findRules_84 (f_X6_findRules_20 n20) τ ub1 xb3 ub4 xb5 ub6 xbs0 = some σ1 → ∀ (H : Heap) (locs : List Loc), pvW G τ H → va_S (pvB G) s.heap H locs → ∀ (ls : Array Slot), lv_has ls 8 [(1, .ref (G.2.2.1 3 ub1)), (2, .ref (G.2.2.1 10 2)), (3, .int xb3), (4, .ref (G.2.2.1 37 ub4)), (5, .int xb5), (6, .ref (G.2.2.1 5 ub6))] → W p l e (headSpec (Cond.code yX6_findRules cX6_findRules 8 none :: WA) ({ frames := 7, cells := 0, slots := 0, locals := 161 } : Room)).room s m ([.ref (G.2.2.1 6 u0), .ref (G.2.2.1 3 u1), .ref (G.2.2.1 10 2), .int x3] : List Value).toArray below meth c H locs 0 0 (MQ below (va_Qv (fun σ' => σ' = σ1 ∧ σ'.1 = σ.1) (pvU G tys) (pvB G)) ([.ref (G.2.2.1 6 u0), .ref (G.2.2.1 3 u1), .ref (G.2.2.1 10 2), .int x3] : List Value).toArray s 0 0 (pvB G)) (F0 m 84 ls [.int xbs0]) := by
        intro τ ub1 xb3 ub4 xb5 ub6 xbs0 hcτ hub1 hub4 hub6 h H locs hw hS ls hl
        unfold f_X6_findRules_84 at h
        refine lv_istore (lv' := [(7, .int xbs0), (1, .ref (G.2.2.1 3 ub1)), (2, .ref (G.2.2.1 10 2)), (3, .int xb3), (4, .ref (G.2.2.1 37 ub4)), (5, .int xb5), (6, .ref (G.2.2.1 5 ub6))]) hx hb dX6_findRules_84 hl (by decide) rfl (fun ls hl => ?_)
        refine lv_iload hx hb dX6_findRules_86 (lv_at hl 0 rfl) ?_
        refine lv_if_eq (tgt := 118) hx hb dX6_findRules_88 (by decide) (fun c1 => ?_) (fun c1 => ?_)
        · skip
          replace h := ite_p c1 h
          refine lv_iinc (v := xb5 + 1) (lv' := [(5, .int (xb5 + 1)), (7, .int xbs0), (1, .ref (G.2.2.1 3 ub1)), (2, .ref (G.2.2.1 10 2)), (3, .int xb3), (4, .ref (G.2.2.1 37 ub4)), (6, .ref (G.2.2.1 5 ub6))]) hx hb dX6_findRules_118 hl (k := 5) rfl (by rfl) (by decide) rfl (fun ls hl => ?_)
          refine lv_goto (tgt := 20) hx hb dX6_findRules_121 (by decide) ?_
          exact ih20 τ ub1 xb3 ub4 (xb5 + 1) hcτ hub1 hub4 h _ _ hw hS ls (lv_sub hl [2, 3, 4, 5, 0] rfl)
        · skip
          replace h := ite_n c1 h
          refine lv_aload hx hb dX6_findRules_91 (lv_at hl 6 rfl) ?_
          refine lv_aload hx hb dX6_findRules_93 (lv_at hl 4 rfl) ?_
          refine lv_aload hx hb dX6_findRules_95 (lv_at hl 6 rfl) ?_
          refine pgI (C := RX5) (T := TX5) (N := 10) hx hb hts hown hK hw 5 0 ub6 (lt_c hcτ 5 hub6) (by decide) rfl rfl inF_X5 (by decide) rfl (hts _ wm438) (fun _ h9 => h9) dX6_findRules_97 ?_
          obtain ⟨g2, h⟩ := gd_e h
          refine pgA hx hb hK htys hw 37 ub4 hub4 rfl (by decide) g2 dX6_findRules_100 ?_
          refine lv_aload_n hx hb dX6_findRules_101 rfl (lv_at hl 2 rfl) ?_
          obtain ⟨r3, e4, h⟩ := ob1_e h
          refine pcalli (va_runS (As := [.ref (G.2.2.1 5 ub6), .int (τ.2.2.2.1 37 ub4 (τ.2.1 5 0 ub6).toNatClampNeg), .ref (G.2.2.1 10 2)]) (rest := []) ⟨hx, hb, hml, hown, hts⟩ (c_X6_comesAheadOf (l := l) (G := G) (tys := tys) (σ := τ) htys (lt_c hcτ 5 hub6) e4) (va_cwS 3 hts (gSA wm458 wm459 wm23 wm460) rfl rfl rfl (by decide +kernel) ⟨(Nat.le_of_ble_eq_true rfl), (Nat.le_of_ble_eq_true rfl)⟩) (pv_preS hA hS hw hK [.ref (G.2.2.1 5 ub6), .int (τ.2.2.2.1 37 ub4 (τ.2.1 5 0 ub6).toNatClampNeg), .ref (G.2.2.1 10 2)]) rfl rfl hl.1 rfl (lv_room (Nat.le_of_ble_eq_true rfl)) dX6_findRules_102 ⟨Nat.zero_le _, Nat.zero_le _⟩) hS (fun r6 s7 H locs hp5 hw hS => ?_)
          obtain ⟨err3, esr3, hzr3⟩ := hp5
          obtain rfl := esr3.symm
          obtain rfl := err3.symm
          refine lv_if_eq (tgt := 118) hx hb dX6_findRules_105 (by decide) (fun c8 => ?_) (fun c8 => ?_)
          · skip
            replace h := ite_p c8 h
            refine lv_iinc (v := xb5 + 1) (lv' := [(5, .int (xb5 + 1)), (7, .int xbs0), (1, .ref (G.2.2.1 3 ub1)), (2, .ref (G.2.2.1 10 2)), (3, .int xb3), (4, .ref (G.2.2.1 37 ub4)), (6, .ref (G.2.2.1 5 ub6))]) hx hb dX6_findRules_118 hl (k := 5) rfl (by rfl) (by decide) rfl (fun ls hl => ?_)
            refine lv_goto (tgt := 20) hx hb dX6_findRules_121 (by decide) ?_
            exact ih20 τ ub1 xb3 ub4 (xb5 + 1) hcτ hub1 hub4 h _ _ hw hS ls (lv_sub hl [2, 3, 4, 5, 0] rfl)
          · skip
            replace h := ite_n c8 h
            refine lv_aload hx hb dX6_findRules_108 (lv_at hl 4 rfl) ?_
            refine lv_aload hx hb dX6_findRules_110 (lv_at hl 6 rfl) ?_
            refine pgI (C := RX5) (T := TX5) (N := 10) hx hb hts hown hK hw 5 0 ub6 (lt_c hcτ 5 hub6) (by decide) rfl rfl inF_X5 (by decide) rfl (hts _ wm438) (fun _ h9 => h9) dX6_findRules_112 ?_
            refine lv_iload hx hb dX6_findRules_115 (lv_at hl 5 rfl) ?_
            obtain ⟨g9, h⟩ := gd_e h
            obtain ⟨σ10, eσ10, h⟩ := nq_e h
            refine ppA hx hb hK htys hw hS 37 ub4 hub4 rfl (by decide) g9 dX6_findRules_117 (fun H locs hw hS => ?_)
            rw [← eσ10] at hw
            have hcσ10 : σ10.1 = σ.1 := by rw [eσ10]; exact hcτ
            refine lv_iinc (v := xb5 + 1) (lv' := [(5, .int (xb5 + 1)), (7, .int xbs0), (1, .ref (G.2.2.1 3 ub1)), (2, .ref (G.2.2.1 10 2)), (3, .int xb3), (4, .ref (G.2.2.1 37 ub4)), (6, .ref (G.2.2.1 5 ub6))]) hx hb dX6_findRules_118 hl (k := 5) rfl (by rfl) (by decide) rfl (fun ls hl => ?_)
            refine lv_goto (tgt := 20) hx hb dX6_findRules_121 (by decide) ?_
            exact ih20 σ10 ub1 xb3 ub4 (xb5 + 1) hcσ10 hub1 hub4 h _ _ hw hS ls (lv_sub hl [2, 3, 4, 5, 0] rfl)
      have blk83 : ∀ (τ : PvS) (ub1 : Nat) (xb3 : Int32) (ub4 : Nat) (xb5 : Int32) (ub6 : Nat), (τ.1 = σ.1) → (ub1 < pvM σ 3) → (ub4 < 80) → (ub6 < pvM σ 5) → f_X6_findRules_83 (f_X6_findRules_20 n20) τ ub1 xb3 ub4 xb5 ub6 = some σ1 → ∀ (H : Heap) (locs : List Loc), pvW G τ H → va_S (pvB G) s.heap H locs → ∀ (ls : Array Slot), lv_has ls 8 [(1, .ref (G.2.2.1 3 ub1)), (2, .ref (G.2.2.1 10 2)), (3, .int xb3), (4, .ref (G.2.2.1 37 ub4)), (5, .int xb5), (6, .ref (G.2.2.1 5 ub6))] → W p l e (headSpec (Cond.code yX6_findRules cX6_findRules 8 none :: WA) ({ frames := 7, cells := 0, slots := 0, locals := 161 } : Room)).room s m ([.ref (G.2.2.1 6 u0), .ref (G.2.2.1 3 u1), .ref (G.2.2.1 10 2), .int x3] : List Value).toArray below meth c H locs 0 0 (MQ below (va_Qv (fun σ' => σ' = σ1 ∧ σ'.1 = σ.1) (pvU G tys) (pvB G)) ([.ref (G.2.2.1 6 u0), .ref (G.2.2.1 3 u1), .ref (G.2.2.1 10 2), .int x3] : List Value).toArray s 0 0 (pvB G)) (F0 m 83 ls []) := by
        intro τ ub1 xb3 ub4 xb5 ub6 hcτ hub1 hub4 hub6 h H locs hw hS ls hl
        unfold f_X6_findRules_83 at h
        refine lv_iconst (v := 0) hx hb dX6_findRules_83 (by decide) ?_
        exact blk84 τ ub1 xb3 ub4 xb5 ub6 0 hcτ hub1 hub4 hub6 h _ _ hw hS ls (lv_sub hl [0, 1, 2, 3, 4, 5] rfl)
      have blk56 : ∀ (τ : PvS) (ub1 : Nat) (xb3 : Int32) (ub4 : Nat) (xb5 : Int32) (ub6 : Nat) (xbs0 : Int32) (xbs1 : Int32), (τ.1 = σ.1) → (ub1 < pvM σ 3) → (ub4 < 80) → (ub6 < pvM σ 5) → f_X6_findRules_56 (f_X6_findRules_20 n20) τ ub1 xb3 ub4 xb5 ub6 xbs0 xbs1 = some σ1 → ∀ (H : Heap) (locs : List Loc), pvW G τ H → va_S (pvB G) s.heap H locs → ∀ (ls : Array Slot), lv_has ls 8 [(1, .ref (G.2.2.1 3 ub1)), (2, .ref (G.2.2.1 10 2)), (3, .int xb3), (4, .ref (G.2.2.1 37 ub4)), (5, .int xb5), (6, .ref (G.2.2.1 5 ub6))] → W p l e (headSpec (Cond.code yX6_findRules cX6_findRules 8 none :: WA) ({ frames := 7, cells := 0, slots := 0, locals := 161 } : Room)).room s m ([.ref (G.2.2.1 6 u0), .ref (G.2.2.1 3 u1), .ref (G.2.2.1 10 2), .int x3] : List Value).toArray below meth c H locs 0 0 (MQ below (va_Qv (fun σ' => σ' = σ1 ∧ σ'.1 = σ.1) (pvU G tys) (pvB G)) ([.ref (G.2.2.1 6 u0), .ref (G.2.2.1 3 u1), .ref (G.2.2.1 10 2), .int x3] : List Value).toArray s 0 0 (pvB G)) (F0 m 56 ls [.int xbs0, .int xbs1]) := by
        intro τ ub1 xb3 ub4 xb5 ub6 xbs0 xbs1 hcτ hub1 hub4 hub6 h H locs hw hS ls hl
        unfold f_X6_findRules_56 at h
        refine lv_icmp_eq (tgt := 83) hx hb dX6_findRules_56 (by decide) (fun c11 => ?_) (fun c11 => ?_)
        · skip
          replace h := ite_p c11 h
          exact blk83 τ ub1 xb3 ub4 xb5 ub6 hcτ hub1 hub4 hub6 h _ _ hw hS ls (lv_sub hl [0, 1, 2, 3, 4, 5] rfl)
        · skip
          replace h := ite_n c11 h
          refine lv_aload hx hb dX6_findRules_59 (lv_at hl 5 rfl) ?_
          refine pgI (C := RX5) (T := TX5) (N := 10) hx hb hts hown hK hw 5 0 ub6 (lt_c hcτ 5 hub6) (by decide) rfl rfl inF_X5 (by decide) rfl (hts _ wm438) (fun _ h9 => h9) dX6_findRules_61 ?_
          obtain ⟨r12, e13, h⟩ := ob1_e h
          refine pcalli (va_runSN (As := [.int (τ.2.1 5 0 ub6)]) (rest := []) ⟨hx, hb, hml, hown, hts⟩ (c_X9_isProperty (l := l) (G := G) (tys := tys) (σ := τ) htys  e13) ⟨va_cnB 1 hts (gNA wm339) rfl rfl rfl hA.2.2.2.2.2.2.2.2.1 (hts (.initialized RX9) (by decide +kernel)) (by decide +kernel) ⟨(Nat.le_of_ble_eq_true rfl), (Nat.le_of_ble_eq_true rfl)⟩, hts (.static yX9_isProperty) (by decide +kernel), trivial⟩ (pv_preS hA hS hw hK [.int (τ.2.1 5 0 ub6)]) rfl rfl hl.1 rfl (lv_room (Nat.le_of_ble_eq_true rfl)) dX6_findRules_64 ⟨Nat.zero_le _, Nat.zero_le _⟩) hS (fun r15 s16 H locs hp14 hw hS => ?_)
          obtain ⟨err12, esr12, hzr12⟩ := hp14
          obtain rfl := esr12.symm
          obtain rfl := err12.symm
          refine lv_if_eq (tgt := 83) hx hb dX6_findRules_67 (by decide) (fun c17 => ?_) (fun c17 => ?_)
          · skip
            replace h := ite_p c17 h
            exact blk83 τ ub1 xb3 ub4 xb5 ub6 hcτ hub1 hub4 hub6 h _ _ hw hS ls (lv_sub hl [0, 1, 2, 3, 4, 5] rfl)
          · skip
            replace h := ite_n c17 h
            refine lv_aload hx hb dX6_findRules_70 (lv_at hl 5 rfl) ?_
            refine lv_aload_n hx hb dX6_findRules_72 rfl (lv_at hl 0 rfl) ?_
            obtain ⟨r18, e19, h⟩ := ob1_e h
            refine pcalli (va_runV (As := [.ref (G.2.2.1 3 ub1)]) (rest := []) ⟨hx, hb, hml, hown, hts⟩ (c_X5_selects (l := l) (G := G) (tys := tys) (σ := τ) htys (lt_c hcτ 5 hub6) (lt_c hcτ 3 hub1) e19) (cwV 1 hts (gVA wm442 wm443 wm444 wm359 wm445) rfl rfl rfl (by decide +kernel) ⟨(Nat.le_of_ble_eq_true rfl), (Nat.le_of_ble_eq_true rfl)⟩) (pv_preV hA hS hw hK 5 ub6 (lt_c hcτ 5 hub6) (by decide) rfl [.ref (G.2.2.1 3 ub1)]) rfl rfl hl.1 rfl (lv_room (Nat.le_of_ble_eq_true rfl)) dX6_findRules_73 ⟨Nat.zero_le _, Nat.zero_le _⟩) hS (fun r21 s22 H locs hp20 hw hS => ?_)
            obtain ⟨err18, esr18, hzr18⟩ := hp20
            obtain rfl := esr18.symm
            obtain rfl := err18.symm
            refine lv_if_eq (tgt := 83) hx hb dX6_findRules_76 (by decide) (fun c23 => ?_) (fun c23 => ?_)
            · skip
              replace h := ite_p c23 h
              exact blk83 τ ub1 xb3 ub4 xb5 ub6 hcτ hub1 hub4 hub6 h _ _ hw hS ls (lv_sub hl [0, 1, 2, 3, 4, 5] rfl)
            · skip
              replace h := ite_n c23 h
              refine lv_iconst (v := 1) hx hb dX6_findRules_79 (by decide) ?_
              refine lv_goto (tgt := 84) hx hb dX6_findRules_80 (by decide) ?_
              exact blk84 τ ub1 xb3 ub4 xb5 ub6 1 hcτ hub1 hub4 hub6 h _ _ hw hS ls (lv_sub hl [0, 1, 2, 3, 4, 5] rfl)
      intro τ ub1 xb3 ub4 xb5 hcτ hub1 hub4 h H locs hw hS ls hl
      rw [f_X6_findRules_20_s] at h
      refine lv_iload hx hb dX6_findRules_20 (lv_at hl 4 rfl) ?_
      refine lv_aload_n hx hb dX6_findRules_22 rfl (lv_at hl 1 rfl) ?_
      refine pcalli (va_runV (As := []) (rest := [.int xb5]) ⟨hx, hb, hml, hown, hts⟩ (c_lsize (l := l) (G := G) (tys := tys) (σ := τ) (j := 2) (show 2 < τ.1 0 + 3 from Nat.lt_of_lt_of_le (by decide) (Nat.le_add_left 3 _))) (cwV 0 hts (gVA wm426 wm251 wm252 wm13 wm253) rfl rfl rfl (by decide +kernel) ⟨(Nat.le_of_ble_eq_true rfl), (Nat.le_of_ble_eq_true rfl)⟩) (pl_preV hA hS hw hK 2 (show 2 < τ.1 0 + 3 from Nat.lt_of_lt_of_le (by decide) (Nat.le_add_left 3 _)) []) rfl rfl hl.1 rfl (lv_room (Nat.le_of_ble_eq_true rfl)) dX6_findRules_23 ⟨Nat.zero_le _, Nat.zero_le _⟩) hS (fun rz24 sz24 H locs hpz24 hw hS => ?_)
      obtain ⟨rfl, ez24⟩ := hpz24
      obtain rfl := ez24.symm
      refine lv_icmp_ge (tgt := 124) hx hb dX6_findRules_26 (by decide) (fun c25 => ?_) (fun c25 => ?_)
      · skip
        replace h := ite_p c25 h
        exact pev hx hb hr hlocks hA hw hK hS (psv h hcτ) dX6_findRules_124
      · skip
        replace h := ite_n c25 h
        refine lv_aload_n hx hb dX6_findRules_29 rfl (lv_at hl 1 rfl) ?_
        refine lv_iload hx hb dX6_findRules_30 (lv_at hl 4 rfl) ?_
        obtain ⟨g26, h⟩ := gd_e h
        obtain ⟨y27, ey27, h⟩ := nq_e h
        refine pcallg (κ := 5) rfl (va_runV (As := [.int xb5]) (rest := []) ⟨hx, hb, hml, hown, hts⟩ (c_lgetI (l := l) (G := G) (tys := tys) (σ := τ) htys (j := 2) (show 2 < τ.1 0 + 3 from Nat.lt_of_lt_of_le (by decide) (Nat.le_add_left 3 _)) g26 (pl_len2 hw 2 (show 2 < τ.1 0 + 3 from Nat.lt_of_lt_of_le (by decide) (Nat.le_add_left 3 _)))) (cwV 1 hts (gVA wm427 wm255 wm256 wm13 wm257) rfl rfl rfl (by decide +kernel) ⟨(Nat.le_of_ble_eq_true rfl), (Nat.le_of_ble_eq_true rfl)⟩) (pl_preV hA hS hw hK 2 (show 2 < τ.1 0 + 3 from Nat.lt_of_lt_of_le (by decide) (Nat.le_add_left 3 _)) [.int xb5]) rfl rfl hl.1 rfl (lv_room (Nat.le_of_ble_eq_true rfl)) dX6_findRules_32 ⟨Nat.zero_le _, Nat.zero_le _⟩) hS (fun zy27 ezy27 H locs hw hS => ?_)
        obtain rfl : y27 = zy27 := ey27.trans ezy27.symm
        have hy27 : y27 < pvM τ 5 := by rw [ey27]; exact pl_lt hw 2 (show 2 < τ.1 0 + 3 from Nat.lt_of_lt_of_le (by decide) (Nat.le_add_left 3 _)) _ (Nat.not_le.mp fun q => g26 (Or.inr q)) rfl
        have hy27 : y27 < pvM σ 5 := lt_c hcτ.symm 5 hy27
        refine pcast hx hb hown hK hw 5 y27 (lt_c hcτ 5 hy27) (by decide) rfl (hts _ wm436) dX6_findRules_35 ?_
        refine lv_astore (lv' := [(6, .ref (G.2.2.1 5 y27)), (1, .ref (G.2.2.1 3 ub1)), (2, .ref (G.2.2.1 10 2)), (3, .int xb3), (4, .ref (G.2.2.1 37 ub4)), (5, .int xb5)]) hx hb dX6_findRules_38 hl (by decide) rfl (fun ls hl => ?_)
        refine lv_aload hx hb dX6_findRules_40 (lv_at hl 0 rfl) ?_
        refine pgI (C := RX5) (T := TX5) (N := 10) hx hb hts hown hK hw 5 9 y27 (lt_c hcτ 5 hy27) (by decide) rfl rfl inF_X5 (by decide) rfl (hts _ wm437) (fun _ h9 => h9) dX6_findRules_42 ?_
        refine lv_iload hx hb dX6_findRules_45 (lv_at hl 5 rfl) ?_
        refine lv_iload_n hx hb dX6_findRules_47 rfl (lv_at hl 3 rfl) ?_
        refine lv_icmp_ne (tgt := 55) hx hb dX6_findRules_48 (by decide) (fun c28 => ?_) (fun c28 => ?_)
        · skip
          replace h := ite_n c28 h
          refine lv_iconst (v := 0) hx hb dX6_findRules_55 (by decide) ?_
          exact blk56 τ ub1 xb3 ub4 xb5 y27 0 (τ.2.1 5 9 y27) hcτ hub1 hub4 hy27 h _ _ hw hS ls (lv_sub hl [1, 2, 3, 4, 5, 0] rfl)
        · skip
          replace h := ite_p c28 h
          refine lv_iconst (v := 1) hx hb dX6_findRules_51 (by decide) ?_
          refine lv_goto (tgt := 56) hx hb dX6_findRules_52 (by decide) ?_
          exact blk56 τ ub1 xb3 ub4 xb5 y27 1 (τ.2.1 5 9 y27) hcτ hub1 hub4 hy27 h _ _ hw hS ls (lv_sub hl [1, 2, 3, 4, 5, 0] rfl)
  refine lv_aload_n hx hb dX6_findRules_0 rfl (lv_at hl 0 rfl) ?_
  refine pgL (C := RX6) (T := TX6) (N := 3) hx hb hts hown hK hw 6 1 u0 hu0 (by decide) rfl rfl inF_X6 (by decide) (v := .ref (G.2.2.1 35 u0)) rfl (hts _ wm188) (fun _ h9 => h9) dX6_findRules_1 ?_
  refine lv_aload_n hx hb dX6_findRules_4 rfl (lv_at hl 1 rfl) ?_
  refine pgI (C := RX3) (T := TX3) (N := 14) hx hb hts hown hK hw 3 0 u1 hu1 (by decide) rfl rfl inF_X3 (by decide) rfl (hts _ wm431) (fun _ h9 => h9) dX6_findRules_5 ?_
  obtain ⟨g29, h⟩ := gd_e h
  refine pgRow hx hb hK htys hw 35 u0 hu0 (by decide) g29 dX6_findRules_8 ?_
  have hw30 := row80 hu0 g29
  refine lv_astore (lv' := [(4, .ref (G.2.2.1 37 (40 * u0 + (σ.2.1 3 0 u1).toNatClampNeg))), (0, .ref (G.2.2.1 6 u0)), (1, .ref (G.2.2.1 3 u1)), (2, .ref (G.2.2.1 10 2)), (3, .int x3)]) hx hb dX6_findRules_9 hl (by decide) rfl (fun ls hl => ?_)
  refine lv_aload hx hb dX6_findRules_11 (lv_at hl 0 rfl) ?_
  refine lv_iconst (v := (-1)) hx hb dX6_findRules_13 (by decide) ?_
  obtain ⟨σ32, e33, h⟩ := ob1_e h
  refine pcallv (va_runS (As := [.ref (G.2.2.1 37 (40 * u0 + (σ.2.1 3 0 u1).toNatClampNeg)), .int (-1)]) (rest := []) ⟨hx, hb, hml, hown, hts⟩ (c_J7_fill_53178 (l := l) (G := G) (tys := tys) (σ := σ) htys hw30 e33) (va_cwS 2 hts (gSA wm439 wm440 wm148 wm441) rfl rfl rfl (by decide +kernel) ⟨(Nat.le_of_ble_eq_true rfl), (Nat.le_of_ble_eq_true rfl)⟩) (pv_preS hA hS hw hK [.ref (G.2.2.1 37 (40 * u0 + (σ.2.1 3 0 u1).toNatClampNeg)), .int (-1)]) rfl rfl hl.1 rfl (lv_room (Nat.le_of_ble_eq_true rfl)) dX6_findRules_14 ⟨Nat.zero_le _, Nat.zero_le _⟩) hS (fun s36 H locs hp34 hw hS => ?_)
  obtain ⟨esσ32, hdσ32⟩ := hp34
  obtain rfl := esσ32.symm
  have hcσ32 : σ32.1 = σ.1 := hdσ32
  refine lv_iconst (v := 0) hx hb dX6_findRules_17 (by decide) ?_
  refine lv_istore (lv' := [(5, .int 0), (4, .ref (G.2.2.1 37 (40 * u0 + (σ.2.1 3 0 u1).toNatClampNeg))), (0, .ref (G.2.2.1 6 u0)), (1, .ref (G.2.2.1 3 u1)), (2, .ref (G.2.2.1 10 2)), (3, .int x3)]) hx hb dX6_findRules_18 hl (by decide) rfl (fun ls hl => ?_)
  exact loop20 fu σ32 u1 x3 (40 * u0 + (σ.2.1 3 0 u1).toNatClampNeg) 0 hcσ32 hu1 hw30 h _ _ hw hS ls (lv_sub hl [3, 4, 5, 1, 0] rfl)
def f_X6_settle_185  (τ : PvS) (ub0 : Nat) (ub1 : Nat) (xb2 : Int32) (xb4 : Int32) (xb5 : Int32) : Option PvS :=
  gd (vin (τ.2.1 3 0 ub1) 40) (gd (vin xb2 (pvLen τ 36 (40 * ub0 + (τ.2.1 3 0 ub1).toNatClampNeg))) (nm (pvA τ 36 (40 * ub0 + (τ.2.1 3 0 ub1).toNatClampNeg) (xb2.toNatClampNeg) xb5) (fun σ4 => gd (vin (σ4.2.1 3 0 ub1) 40) (gd (vin xb2 (pvLen σ4 37 (40 * ub0 + (σ4.2.1 3 0 ub1).toNatClampNeg))) (nm (pvA σ4 37 (40 * ub0 + (σ4.2.1 3 0 ub1).toNatClampNeg) (xb2.toNatClampNeg) xb4) (fun σ8 => some σ8))))))
def f_X6_settle_183  (τ : PvS) (ub0 : Nat) (ub1 : Nat) (xb2 : Int32) (xb4 : Int32) (xbs0 : Int32) : Option PvS :=
  f_X6_settle_185 τ ub0 ub1 xb2 xb4 xbs0
def f_X6_settle_151  (τ : PvS) (ub0 : Nat) (ub1 : Nat) (xb2 : Int32) (xb4 : Int32) (xb5 : Int32) : Option PvS :=
  if xb5 = 9999 then (nm (τ.2.2.1 3 8 ub1) (fun o10 => oc o10 (gd (vin xb2 14) (f_X6_settle_183 τ ub0 ub1 xb2 xb4 (tb3 xb2.toNatClampNeg))) (fun jo10 => nm (τ.2.2.1 3 8 ub1) (fun o12 => oc o12 none (fun jo12 => ob1 (f_X6_of τ ub0 jo12 xb2) (fun r13 => f_X6_settle_183 τ ub0 ub1 xb2 xb4 r13)))))) else (f_X6_settle_185 τ ub0 ub1 xb2 xb4 xb5)
def f_X6_settle_149  (τ : PvS) (ub0 : Nat) (ub1 : Nat) (xb2 : Int32) (xb5 : Int32) (xbs0 : Int32) : Option PvS :=
  f_X6_settle_151 τ ub0 ub1 xb2 xbs0 xb5
def f_X6_settle_135  (τ : PvS) (ub0 : Nat) (ub1 : Nat) (xb2 : Int32) (xb8 : Int32) (xbs0 : Int32) : Option PvS :=
  if xb8 = 0 then (f_X6_settle_149 τ ub0 ub1 xb2 xbs0 (-3)) else (f_X6_settle_149 τ ub0 ub1 xb2 xbs0 (-2))
def f_X6_settle_117  (τ : PvS) (ub0 : Nat) (ub1 : Nat) (xb2 : Int32) (xbs0 : Int32) : Option PvS :=
  if xbs0 = 0 then (gd (vin xb2 14) (f_X6_settle_135 τ ub0 ub1 xb2 xbs0 (tb3 xb2.toNatClampNeg))) else (f_X6_settle_135 τ ub0 ub1 xb2 xbs0 9999)
def f_X6_settle_116  (τ : PvS) (ub0 : Nat) (ub1 : Nat) (xb2 : Int32) : Option PvS :=
  f_X6_settle_117 τ ub0 ub1 xb2 0
def f_X6_settle_90  (τ : PvS) (ub0 : Nat) (ub1 : Nat) (xb2 : Int32) (xb4 : Int32) (xb5 : Int32) : Option PvS :=
  if xb5 = 9998 then (ob1 (f_X9_isInherited τ xb2) (fun r22 => if r22 = 0 then (f_X6_settle_116 τ ub0 ub1 xb2) else (nm (τ.2.2.1 3 8 ub1) (fun o28 => oc o28 (f_X6_settle_116 τ ub0 ub1 xb2) (fun jo28 => f_X6_settle_117 τ ub0 ub1 xb2 1))))) else (f_X6_settle_151 τ ub0 ub1 xb2 xb4 xb5)
def f_X6_settle_63  (τ : PvS) (ub0 : Nat) (ub1 : Nat) (xb2 : Int32) (xb4 : Int32) (xb5 : Int32) (xb6 : Int32) : Option PvS :=
  ob1 (f_X3_declaredOf τ ub1 xb2) (fun r29 => if r29 = 9998 then (f_X6_settle_90 τ ub0 ub1 xb2 xb4 xb5) else (if xb6 = 0 then (f_X6_settle_90 τ ub0 ub1 xb2 (-1) r29) else (f_X6_settle_90 τ ub0 ub1 xb2 xb4 xb5)))
def f_X6_settle (σ : PvS) (u0 : Nat) (u1 : Nat) (x2 : Int32) : Option PvS :=
  gd (vin (σ.2.1 3 0 u1) 40) (gd (vin x2 (pvLen σ 37 (40 * u0 + (σ.2.1 3 0 u1).toNatClampNeg))) (if (σ.2.2.2.1 37 (40 * u0 + (σ.2.1 3 0 u1).toNatClampNeg) x2.toNatClampNeg) < 0 then (f_X6_settle_63 σ u0 u1 x2 (σ.2.2.2.1 37 (40 * u0 + (σ.2.1 3 0 u1).toNatClampNeg) x2.toNatClampNeg) 9998 0) else (if (nI (σ.2.2.2.2 2).length) ≤ (σ.2.2.2.1 37 (40 * u0 + (σ.2.1 3 0 u1).toNatClampNeg) x2.toNatClampNeg) then (f_X6_settle_63 σ u0 u1 x2 (σ.2.2.2.1 37 (40 * u0 + (σ.2.1 3 0 u1).toNatClampNeg) x2.toNatClampNeg) 9998 0) else (gd (vin (σ.2.2.2.1 37 (40 * u0 + (σ.2.1 3 0 u1).toNatClampNeg) x2.toNatClampNeg) (σ.2.2.2.2 2).length) (nm ((σ.2.2.2.2 2).getD (σ.2.2.2.1 37 (40 * u0 + (σ.2.1 3 0 u1).toNatClampNeg) x2.toNatClampNeg).toNatClampNeg 0) (fun y43 => gd (vin (σ.2.2.2.1 37 (40 * u0 + (σ.2.1 3 0 u1).toNatClampNeg) x2.toNatClampNeg) (σ.2.2.2.2 2).length) (nm ((σ.2.2.2.2 2).getD (σ.2.2.2.1 37 (40 * u0 + (σ.2.1 3 0 u1).toNatClampNeg) x2.toNatClampNeg).toNatClampNeg 0) (fun y45 => f_X6_settle_63 σ u0 u1 x2 (σ.2.2.2.1 37 (40 * u0 + (σ.2.1 3 0 u1).toNatClampNeg) x2.toNatClampNeg) (σ.2.1 5 1 y43) (σ.2.1 5 2 y45)))))))))
set_option maxHeartbeats 4000000 in
set_option maxRecDepth 100000 in
theorem c_X6_settle {l : Launch} {G : PvG} {tys : List (ClassId × FieldType)} {σ : PvS} (htys : tys = pvT G)  {u0 : Nat} {u1 : Nat} {x2 : Int32} (hu0 : u0 < pvM σ 6) (hu1 : u1 < pvM σ 3) {σ1 : PvS} (h : f_X6_settle σ u0 u1 x2 = some σ1) : Met l yX6_settle (Cond.code yX6_settle cX6_settle 9 none :: WA) ({ frames := 3, cells := 0, slots := 0, locals := 64 }) (va_Pc [.ref (G.2.2.1 6 u0), .ref (G.2.2.1 3 u1), .int x2, .ref (G.2.2.1 10 2)] (pvU G tys σ)) (va_Qv (fun σ' => σ' = σ1 ∧ σ'.1 = σ.1) (pvU G tys) (pvB G)) 0 0 (pvB G) := by
  refine Met.ofW (cc := cX6_settle) (maxL := 9) (ret := none) (by decide) rfl ?_
  intro p e s m args below meth c s₁ B hml hv
  obtain ⟨rfl, hw, hK, hA⟩ := hv
  have hx := B.exec
  have hb := B.bytes
  have hr := B.returns
  have hts0 := atoms_spec (ws := (Cond.code yX6_settle cX6_settle 9 none :: WA)) B.pre
  have hts : ∀ w ∈ WA, w.before _ s = true := fun w h => hts0 w (List.mem_cons_of_mem _ h)
  have hown : s.vm.findClass RX6 = some m.cls := findClass_of_methodNamed B.named
  have hlocks := B.notSynchronized
  have hS : va_S (pvB G) s.heap s.heap [] := va_S.rf
  have hl := lv_entry ([.ref (G.2.2.1 6 u0), .ref (G.2.2.1 3 u1), .int x2, .ref (G.2.2.1 10 2)]) (n := 9) (Nat.le_of_ble_eq_true rfl)
  rw [lg_entry_eq]
  generalize (lg_sl ([.ref (G.2.2.1 6 u0), .ref (G.2.2.1 3 u1), .int x2, .ref (G.2.2.1 10 2)]) ++ List.replicate (9 - (lg_sl ([.ref (G.2.2.1 6 u0), .ref (G.2.2.1 3 u1), .int x2, .ref (G.2.2.1 10 2)])).length) Slot.unset).toArray = ls at hl ⊢
  have hl : lv_has ls 9 [(0, .ref (G.2.2.1 6 u0)), (1, .ref (G.2.2.1 3 u1)), (2, .int x2), (3, .ref (G.2.2.1 10 2))] := hl
  have hroot := pv_root hw
  unfold f_X6_settle at h
  have blk185 : ∀ (τ : PvS) (ub0 : Nat) (ub1 : Nat) (xb2 : Int32) (xb4 : Int32) (xb5 : Int32), (τ.1 = σ.1) → (ub0 < 2) → (ub1 < pvM σ 3) → f_X6_settle_185 τ ub0 ub1 xb2 xb4 xb5 = some σ1 → ∀ (H : Heap) (locs : List Loc), pvW G τ H → va_S (pvB G) s.heap H locs → ∀ (ls : Array Slot), lv_has ls 9 [(0, .ref (G.2.2.1 6 ub0)), (1, .ref (G.2.2.1 3 ub1)), (2, .int xb2), (4, .int xb4), (5, .int xb5)] → W p l e (headSpec (Cond.code yX6_settle cX6_settle 9 none :: WA) ({ frames := 3, cells := 0, slots := 0, locals := 64 } : Room)).room s m ([.ref (G.2.2.1 6 u0), .ref (G.2.2.1 3 u1), .int x2, .ref (G.2.2.1 10 2)] : List Value).toArray below meth c H locs 0 0 (MQ below (va_Qv (fun σ' => σ' = σ1 ∧ σ'.1 = σ.1) (pvU G tys) (pvB G)) ([.ref (G.2.2.1 6 u0), .ref (G.2.2.1 3 u1), .int x2, .ref (G.2.2.1 10 2)] : List Value).toArray s 0 0 (pvB G)) (F0 m 185 ls []) := by
    intro τ ub0 ub1 xb2 xb4 xb5 hcτ hub0 hub1 h H locs hw hS ls hl
    unfold f_X6_settle_185 at h
    refine lv_aload_n hx hb dX6_settle_185 rfl (lv_at hl 0 rfl) ?_
    refine pgL (C := RX6) (T := TX6) (N := 3) hx hb hts hown hK hw 6 0 ub0 hub0 (by decide) rfl rfl inF_X6 (by decide) (v := .ref (G.2.2.1 34 ub0)) rfl (hts _ wm187) (fun _ h9 => h9) dX6_settle_186 ?_
    refine lv_aload_n hx hb dX6_settle_189 rfl (lv_at hl 1 rfl) ?_
    refine pgI (C := RX3) (T := TX3) (N := 14) hx hb hts hown hK hw 3 0 ub1 (lt_c hcτ 3 hub1) (by decide) rfl rfl inF_X3 (by decide) rfl (hts _ wm431) (fun _ h9 => h9) dX6_settle_190 ?_
    obtain ⟨g1, h⟩ := gd_e h
    refine pgRow hx hb hK htys hw 34 ub0 hub0 (by decide) g1 dX6_settle_193 ?_
    have hw2 := row80 hub0 g1
    refine lv_iload_n hx hb dX6_settle_194 rfl (lv_at hl 2 rfl) ?_
    refine lv_iload hx hb dX6_settle_195 (lv_at hl 4 rfl) ?_
    obtain ⟨g3, h⟩ := gd_e h
    obtain ⟨σ4, eσ4, h⟩ := nq_e h
    refine ppA hx hb hK htys hw hS 36 (40 * ub0 + (τ.2.1 3 0 ub1).toNatClampNeg) hw2 rfl (by decide) g3 dX6_settle_197 (fun H locs hw hS => ?_)
    rw [← eσ4] at hw
    have hcσ4 : σ4.1 = σ.1 := by rw [eσ4]; exact hcτ
    refine lv_aload_n hx hb dX6_settle_198 rfl (lv_at hl 0 rfl) ?_
    refine pgL (C := RX6) (T := TX6) (N := 3) hx hb hts hown hK hw 6 1 ub0 hub0 (by decide) rfl rfl inF_X6 (by decide) (v := .ref (G.2.2.1 35 ub0)) rfl (hts _ wm188) (fun _ h9 => h9) dX6_settle_199 ?_
    refine lv_aload_n hx hb dX6_settle_202 rfl (lv_at hl 1 rfl) ?_
    refine pgI (C := RX3) (T := TX3) (N := 14) hx hb hts hown hK hw 3 0 ub1 (lt_c hcσ4 3 hub1) (by decide) rfl rfl inF_X3 (by decide) rfl (hts _ wm431) (fun _ h9 => h9) dX6_settle_203 ?_
    obtain ⟨g5, h⟩ := gd_e h
    refine pgRow hx hb hK htys hw 35 ub0 hub0 (by decide) g5 dX6_settle_206 ?_
    have hw6 := row80 hub0 g5
    refine lv_iload_n hx hb dX6_settle_207 rfl (lv_at hl 2 rfl) ?_
    refine lv_iload hx hb dX6_settle_208 (lv_at hl 3 rfl) ?_
    obtain ⟨g7, h⟩ := gd_e h
    obtain ⟨σ8, eσ8, h⟩ := nq_e h
    refine ppA hx hb hK htys hw hS 37 (40 * ub0 + (σ4.2.1 3 0 ub1).toNatClampNeg) hw6 rfl (by decide) g7 dX6_settle_210 (fun H locs hw hS => ?_)
    rw [← eσ8] at hw
    have hcσ8 : σ8.1 = σ.1 := by rw [eσ8]; exact hcσ4
    exact pev hx hb hr hlocks hA hw hK hS (psv h hcσ8) dX6_settle_211
  have blk183 : ∀ (τ : PvS) (ub0 : Nat) (ub1 : Nat) (xb2 : Int32) (xb4 : Int32) (xbs0 : Int32), (τ.1 = σ.1) → (ub0 < 2) → (ub1 < pvM σ 3) → f_X6_settle_183 τ ub0 ub1 xb2 xb4 xbs0 = some σ1 → ∀ (H : Heap) (locs : List Loc), pvW G τ H → va_S (pvB G) s.heap H locs → ∀ (ls : Array Slot), lv_has ls 9 [(0, .ref (G.2.2.1 6 ub0)), (1, .ref (G.2.2.1 3 ub1)), (2, .int xb2), (4, .int xb4)] → W p l e (headSpec (Cond.code yX6_settle cX6_settle 9 none :: WA) ({ frames := 3, cells := 0, slots := 0, locals := 64 } : Room)).room s m ([.ref (G.2.2.1 6 u0), .ref (G.2.2.1 3 u1), .int x2, .ref (G.2.2.1 10 2)] : List Value).toArray below meth c H locs 0 0 (MQ below (va_Qv (fun σ' => σ' = σ1 ∧ σ'.1 = σ.1) (pvU G tys) (pvB G)) ([.ref (G.2.2.1 6 u0), .ref (G.2.2.1 3 u1), .int x2, .ref (G.2.2.1 10 2)] : List Value).toArray s 0 0 (pvB G)) (F0 m 183 ls [.int xbs0]) := by
    intro τ ub0 ub1 xb2 xb4 xbs0 hcτ hub0 hub1 h H locs hw hS ls hl
    unfold f_X6_settle_183 at h
    refine lv_istore (lv' := [(5, .int xbs0), (0, .ref (G.2.2.1 6 ub0)), (1, .ref (G.2.2.1 3 ub1)), (2, .int xb2), (4, .int xb4)]) hx hb dX6_settle_183 hl (by decide) rfl (fun ls hl => ?_)
    exact blk185 τ ub0 ub1 xb2 xb4 xbs0 hcτ hub0 hub1 h _ _ hw hS ls (lv_sub hl [1, 2, 3, 4, 0] rfl)
  have blk151 : ∀ (τ : PvS) (ub0 : Nat) (ub1 : Nat) (xb2 : Int32) (xb4 : Int32) (xb5 : Int32), (τ.1 = σ.1) → (ub0 < 2) → (ub1 < pvM σ 3) → f_X6_settle_151 τ ub0 ub1 xb2 xb4 xb5 = some σ1 → ∀ (H : Heap) (locs : List Loc), pvW G τ H → va_S (pvB G) s.heap H locs → ∀ (ls : Array Slot), lv_has ls 9 [(0, .ref (G.2.2.1 6 ub0)), (1, .ref (G.2.2.1 3 ub1)), (2, .int xb2), (4, .int xb4), (5, .int xb5)] → W p l e (headSpec (Cond.code yX6_settle cX6_settle 9 none :: WA) ({ frames := 3, cells := 0, slots := 0, locals := 64 } : Room)).room s m ([.ref (G.2.2.1 6 u0), .ref (G.2.2.1 3 u1), .int x2, .ref (G.2.2.1 10 2)] : List Value).toArray below meth c H locs 0 0 (MQ below (va_Qv (fun σ' => σ' = σ1 ∧ σ'.1 = σ.1) (pvU G tys) (pvB G)) ([.ref (G.2.2.1 6 u0), .ref (G.2.2.1 3 u1), .int x2, .ref (G.2.2.1 10 2)] : List Value).toArray s 0 0 (pvB G)) (F0 m 151 ls []) := by
    intro τ ub0 ub1 xb2 xb4 xb5 hcτ hub0 hub1 h H locs hw hS ls hl
    unfold f_X6_settle_151 at h
    refine lv_iload hx hb dX6_settle_151 (lv_at hl 4 rfl) ?_
    refine lv_sipush (v := 9999) hx hb dX6_settle_153 (by decide) ?_
    refine lv_icmp_ne (tgt := 185) hx hb dX6_settle_156 (by decide) (fun c9 => ?_) (fun c9 => ?_)
    · skip
      replace h := ite_n c9 h
      exact blk185 τ ub0 ub1 xb2 xb4 xb5 hcτ hub0 hub1 h _ _ hw hS ls (lv_sub hl [0, 1, 2, 3, 4] rfl)
    · skip
      replace h := ite_p c9 h
      refine lv_aload_n hx hb dX6_settle_159 rfl (lv_at hl 1 rfl) ?_
      obtain ⟨o10, eo10, h⟩ := nq_e h
      have ho10 := pv_cl hw eo10
      refine pgR (C := RX3) (T := TX3) (N := 14) hx hb hts hown hK hw 3 8 ub1 (lt_c hcτ 3 hub1) (by decide) rfl rfl inF_X3 (by decide) rfl o10 eo10 (hts _ wm468) (fun _ h9 => h9) dX6_settle_160 ?_
      have ho10 : ∀ j, o10 = some j → j < pvM σ 3 := fun j z => lt_c hcτ.symm 3 (ho10 j z)
      rcases o10 with _ | jo10
      · skip
        replace h := oc_n h
        refine lv_ifnonnullN hx hb dX6_settle_163 ?_
        refine va_getsN (C := RX9) hx hb hA.2.1.2.2.2.1.1 hS hown (va_Nw.use rfl hA.2.2.2.2.2.2.2.2.2.2.1) (fun _ h9 => h9) dX6_settle_166 ?_
        refine lv_iload_n hx hb dX6_settle_169 rfl (lv_at hl 2 rfl) ?_
        obtain ⟨g11, h⟩ := gd_e h
        refine pgT hx hb hA hS 3 hA.2.1.2.2.2.1 g11 dX6_settle_170 ?_
        refine lv_goto (tgt := 183) hx hb dX6_settle_171 (by decide) ?_
        exact blk183 τ ub0 ub1 xb2 xb4 (tb3 xb2.toNatClampNeg) hcτ hub0 hub1 h _ _ hw hS ls (lv_sub hl [0, 1, 2, 3] rfl)
      · skip
        replace h := oc_s h
        have hjo10 := ho10 jo10 rfl
        refine lv_ifnonnull (tgt := 174) hx hb dX6_settle_163 (by decide) ?_
        refine lv_aload_n hx hb dX6_settle_174 rfl (lv_at hl 0 rfl) ?_
        refine lv_aload_n hx hb dX6_settle_175 rfl (lv_at hl 1 rfl) ?_
        obtain ⟨o12, eo12, h⟩ := nq_e h
        have ho12 := pv_cl hw eo12
        refine pgR (C := RX3) (T := TX3) (N := 14) hx hb hts hown hK hw 3 8 ub1 (lt_c hcτ 3 hub1) (by decide) rfl rfl inF_X3 (by decide) rfl o12 eo12 (hts _ wm468) (fun _ h9 => h9) dX6_settle_176 ?_
        have ho12 : ∀ j, o12 = some j → j < pvM σ 3 := fun j z => lt_c hcτ.symm 3 (ho12 j z)
        refine lv_iload_n hx hb dX6_settle_179 rfl (lv_at hl 2 rfl) ?_
        rcases o12 with _ | jo12
        · cases (oc_n h)
        replace h := oc_s h
        have hjo12 := ho12 jo12 rfl
        obtain ⟨r13, e14, h⟩ := ob1_e h
        refine pcalli (va_runV (As := [.ref (G.2.2.1 3 jo12), .int xb2]) (rest := []) ⟨hx, hb, hml, hown, hts⟩ (c_X6_of (l := l) (G := G) (tys := tys) (σ := τ) htys hub0 (lt_c hcτ 3 hjo12) e14) (cwV 2 hts (gVA wm472 wm473 wm474 wm23 wm475) rfl rfl rfl (by decide +kernel) ⟨(Nat.le_of_ble_eq_true rfl), (Nat.le_of_ble_eq_true rfl)⟩) (pv_preV hA hS hw hK 6 ub0 hub0 (by decide) rfl [.ref (G.2.2.1 3 jo12), .int xb2]) rfl rfl hl.1 rfl (lv_room (Nat.le_of_ble_eq_true rfl)) dX6_settle_180 ⟨Nat.zero_le _, Nat.zero_le _⟩) hS (fun r16 s17 H locs hp15 hw hS => ?_)
        obtain ⟨err13, esr13⟩ := hp15
        obtain rfl := esr13.symm
        obtain rfl := err13.symm
        exact blk183 τ ub0 ub1 xb2 xb4 r13 hcτ hub0 hub1 h _ _ hw hS ls (lv_sub hl [0, 1, 2, 3] rfl)
  have blk149 : ∀ (τ : PvS) (ub0 : Nat) (ub1 : Nat) (xb2 : Int32) (xb5 : Int32) (xbs0 : Int32), (τ.1 = σ.1) → (ub0 < 2) → (ub1 < pvM σ 3) → f_X6_settle_149 τ ub0 ub1 xb2 xb5 xbs0 = some σ1 → ∀ (H : Heap) (locs : List Loc), pvW G τ H → va_S (pvB G) s.heap H locs → ∀ (ls : Array Slot), lv_has ls 9 [(0, .ref (G.2.2.1 6 ub0)), (1, .ref (G.2.2.1 3 ub1)), (2, .int xb2), (5, .int xb5)] → W p l e (headSpec (Cond.code yX6_settle cX6_settle 9 none :: WA) ({ frames := 3, cells := 0, slots := 0, locals := 64 } : Room)).room s m ([.ref (G.2.2.1 6 u0), .ref (G.2.2.1 3 u1), .int x2, .ref (G.2.2.1 10 2)] : List Value).toArray below meth c H locs 0 0 (MQ below (va_Qv (fun σ' => σ' = σ1 ∧ σ'.1 = σ.1) (pvU G tys) (pvB G)) ([.ref (G.2.2.1 6 u0), .ref (G.2.2.1 3 u1), .int x2, .ref (G.2.2.1 10 2)] : List Value).toArray s 0 0 (pvB G)) (F0 m 149 ls [.int xbs0]) := by
    intro τ ub0 ub1 xb2 xb5 xbs0 hcτ hub0 hub1 h H locs hw hS ls hl
    unfold f_X6_settle_149 at h
    refine lv_istore (lv' := [(4, .int xbs0), (0, .ref (G.2.2.1 6 ub0)), (1, .ref (G.2.2.1 3 ub1)), (2, .int xb2), (5, .int xb5)]) hx hb dX6_settle_149 hl (by decide) rfl (fun ls hl => ?_)
    exact blk151 τ ub0 ub1 xb2 xbs0 xb5 hcτ hub0 hub1 h _ _ hw hS ls (lv_sub hl [1, 2, 3, 0, 4] rfl)
  have blk135 : ∀ (τ : PvS) (ub0 : Nat) (ub1 : Nat) (xb2 : Int32) (xb8 : Int32) (xbs0 : Int32), (τ.1 = σ.1) → (ub0 < 2) → (ub1 < pvM σ 3) → f_X6_settle_135 τ ub0 ub1 xb2 xb8 xbs0 = some σ1 → ∀ (H : Heap) (locs : List Loc), pvW G τ H → va_S (pvB G) s.heap H locs → ∀ (ls : Array Slot), lv_has ls 9 [(0, .ref (G.2.2.1 6 ub0)), (1, .ref (G.2.2.1 3 ub1)), (2, .int xb2), (8, .int xb8)] → W p l e (headSpec (Cond.code yX6_settle cX6_settle 9 none :: WA) ({ frames := 3, cells := 0, slots := 0, locals := 64 } : Room)).room s m ([.ref (G.2.2.1 6 u0), .ref (G.2.2.1 3 u1), .int x2, .ref (G.2.2.1 10 2)] : List Value).toArray below meth c H locs 0 0 (MQ below (va_Qv (fun σ' => σ' = σ1 ∧ σ'.1 = σ.1) (pvU G tys) (pvB G)) ([.ref (G.2.2.1 6 u0), .ref (G.2.2.1 3 u1), .int x2, .ref (G.2.2.1 10 2)] : List Value).toArray s 0 0 (pvB G)) (F0 m 135 ls [.int xbs0]) := by
    intro τ ub0 ub1 xb2 xb8 xbs0 hcτ hub0 hub1 h H locs hw hS ls hl
    unfold f_X6_settle_135 at h
    refine lv_istore (lv' := [(5, .int xbs0), (0, .ref (G.2.2.1 6 ub0)), (1, .ref (G.2.2.1 3 ub1)), (2, .int xb2), (8, .int xb8)]) hx hb dX6_settle_135 hl (by decide) rfl (fun ls hl => ?_)
    refine lv_iload hx hb dX6_settle_137 (lv_at hl 4 rfl) ?_
    refine lv_if_eq (tgt := 147) hx hb dX6_settle_139 (by decide) (fun c18 => ?_) (fun c18 => ?_)
    · skip
      replace h := ite_p c18 h
      refine lv_bipush (v := (-3)) hx hb dX6_settle_147 (by decide) ?_
      exact blk149 τ ub0 ub1 xb2 xbs0 (-3) hcτ hub0 hub1 h _ _ hw hS ls (lv_sub hl [1, 2, 3, 0] rfl)
    · skip
      replace h := ite_n c18 h
      refine lv_bipush (v := (-2)) hx hb dX6_settle_142 (by decide) ?_
      refine lv_goto (tgt := 149) hx hb dX6_settle_144 (by decide) ?_
      exact blk149 τ ub0 ub1 xb2 xbs0 (-2) hcτ hub0 hub1 h _ _ hw hS ls (lv_sub hl [1, 2, 3, 0] rfl)
  have blk117 : ∀ (τ : PvS) (ub0 : Nat) (ub1 : Nat) (xb2 : Int32) (xbs0 : Int32), (τ.1 = σ.1) → (ub0 < 2) → (ub1 < pvM σ 3) → f_X6_settle_117 τ ub0 ub1 xb2 xbs0 = some σ1 → ∀ (H : Heap) (locs : List Loc), pvW G τ H → va_S (pvB G) s.heap H locs → ∀ (ls : Array Slot), lv_has ls 9 [(0, .ref (G.2.2.1 6 ub0)), (1, .ref (G.2.2.1 3 ub1)), (2, .int xb2)] → W p l e (headSpec (Cond.code yX6_settle cX6_settle 9 none :: WA) ({ frames := 3, cells := 0, slots := 0, locals := 64 } : Room)).room s m ([.ref (G.2.2.1 6 u0), .ref (G.2.2.1 3 u1), .int x2, .ref (G.2.2.1 10 2)] : List Value).toArray below meth c H locs 0 0 (MQ below (va_Qv (fun σ' => σ' = σ1 ∧ σ'.1 = σ.1) (pvU G tys) (pvB G)) ([.ref (G.2.2.1 6 u0), .ref (G.2.2.1 3 u1), .int x2, .ref (G.2.2.1 10 2)] : List Value).toArray s 0 0 (pvB G)) (F0 m 117 ls [.int xbs0]) := by
    intro τ ub0 ub1 xb2 xbs0 hcτ hub0 hub1 h H locs hw hS ls hl
    unfold f_X6_settle_117 at h
    refine lv_istore (lv' := [(8, .int xbs0), (0, .ref (G.2.2.1 6 ub0)), (1, .ref (G.2.2.1 3 ub1)), (2, .int xb2)]) hx hb dX6_settle_117 hl (by decide) rfl (fun ls hl => ?_)
    refine lv_iload hx hb dX6_settle_119 (lv_at hl 0 rfl) ?_
    refine lv_if_eq (tgt := 130) hx hb dX6_settle_121 (by decide) (fun c19 => ?_) (fun c19 => ?_)
    · skip
      replace h := ite_p c19 h
      refine va_getsN (C := RX9) hx hb hA.2.1.2.2.2.1.1 hS hown (va_Nw.use rfl hA.2.2.2.2.2.2.2.2.2.2.1) (fun _ h9 => h9) dX6_settle_130 ?_
      refine lv_iload_n hx hb dX6_settle_133 rfl (lv_at hl 3 rfl) ?_
      obtain ⟨g20, h⟩ := gd_e h
      refine pgT hx hb hA hS 3 hA.2.1.2.2.2.1 g20 dX6_settle_134 ?_
      exact blk135 τ ub0 ub1 xb2 xbs0 (tb3 xb2.toNatClampNeg) hcτ hub0 hub1 h _ _ hw hS ls (lv_sub hl [1, 2, 3, 0] rfl)
    · skip
      replace h := ite_n c19 h
      refine lv_sipush (v := 9999) hx hb dX6_settle_124 (by decide) ?_
      refine lv_goto (tgt := 135) hx hb dX6_settle_127 (by decide) ?_
      exact blk135 τ ub0 ub1 xb2 xbs0 9999 hcτ hub0 hub1 h _ _ hw hS ls (lv_sub hl [1, 2, 3, 0] rfl)
  have blk116 : ∀ (τ : PvS) (ub0 : Nat) (ub1 : Nat) (xb2 : Int32), (τ.1 = σ.1) → (ub0 < 2) → (ub1 < pvM σ 3) → f_X6_settle_116 τ ub0 ub1 xb2 = some σ1 → ∀ (H : Heap) (locs : List Loc), pvW G τ H → va_S (pvB G) s.heap H locs → ∀ (ls : Array Slot), lv_has ls 9 [(0, .ref (G.2.2.1 6 ub0)), (1, .ref (G.2.2.1 3 ub1)), (2, .int xb2)] → W p l e (headSpec (Cond.code yX6_settle cX6_settle 9 none :: WA) ({ frames := 3, cells := 0, slots := 0, locals := 64 } : Room)).room s m ([.ref (G.2.2.1 6 u0), .ref (G.2.2.1 3 u1), .int x2, .ref (G.2.2.1 10 2)] : List Value).toArray below meth c H locs 0 0 (MQ below (va_Qv (fun σ' => σ' = σ1 ∧ σ'.1 = σ.1) (pvU G tys) (pvB G)) ([.ref (G.2.2.1 6 u0), .ref (G.2.2.1 3 u1), .int x2, .ref (G.2.2.1 10 2)] : List Value).toArray s 0 0 (pvB G)) (F0 m 116 ls []) := by
    intro τ ub0 ub1 xb2 hcτ hub0 hub1 h H locs hw hS ls hl
    unfold f_X6_settle_116 at h
    refine lv_iconst (v := 0) hx hb dX6_settle_116 (by decide) ?_
    exact blk117 τ ub0 ub1 xb2 0 hcτ hub0 hub1 h _ _ hw hS ls (lv_sub hl [0, 1, 2] rfl)
  have blk90 : ∀ (τ : PvS) (ub0 : Nat) (ub1 : Nat) (xb2 : Int32) (xb4 : Int32) (xb5 : Int32), (τ.1 = σ.1) → (ub0 < 2) → (ub1 < pvM σ 3) → f_X6_settle_90 τ ub0 ub1 xb2 xb4 xb5 = some σ1 → ∀ (H : Heap) (locs : List Loc), pvW G τ H → va_S (pvB G) s.heap H locs → ∀ (ls : Array Slot), lv_has ls 9 [(0, .ref (G.2.2.1 6 ub0)), (1, .ref (G.2.2.1 3 ub1)), (2, .int xb2), (4, .int xb4), (5, .int xb5)] → W p l e (headSpec (Cond.code yX6_settle cX6_settle 9 none :: WA) ({ frames := 3, cells := 0, slots := 0, locals := 64 } : Room)).room s m ([.ref (G.2.2.1 6 u0), .ref (G.2.2.1 3 u1), .int x2, .ref (G.2.2.1 10 2)] : List Value).toArray below meth c H locs 0 0 (MQ below (va_Qv (fun σ' => σ' = σ1 ∧ σ'.1 = σ.1) (pvU G tys) (pvB G)) ([.ref (G.2.2.1 6 u0), .ref (G.2.2.1 3 u1), .int x2, .ref (G.2.2.1 10 2)] : List Value).toArray s 0 0 (pvB G)) (F0 m 90 ls []) := by
    intro τ ub0 ub1 xb2 xb4 xb5 hcτ hub0 hub1 h H locs hw hS ls hl
    unfold f_X6_settle_90 at h
    refine lv_iload hx hb dX6_settle_90 (lv_at hl 4 rfl) ?_
    refine lv_sipush (v := 9998) hx hb dX6_settle_92 (by decide) ?_
    refine lv_icmp_ne (tgt := 151) hx hb dX6_settle_95 (by decide) (fun c21 => ?_) (fun c21 => ?_)
    · skip
      replace h := ite_n c21 h
      exact blk151 τ ub0 ub1 xb2 xb4 xb5 hcτ hub0 hub1 h _ _ hw hS ls (lv_sub hl [0, 1, 2, 3, 4] rfl)
    · skip
      replace h := ite_p c21 h
      refine lv_iload_n hx hb dX6_settle_98 rfl (lv_at hl 2 rfl) ?_
      obtain ⟨r22, e23, h⟩ := ob1_e h
      refine pcalli (va_runSN (As := [.int xb2]) (rest := []) ⟨hx, hb, hml, hown, hts⟩ (c_X9_isInherited (l := l) (G := G) (tys := tys) (σ := τ) htys  e23) ⟨va_cnB 1 hts (gNA wm471) rfl rfl rfl hA.2.2.2.2.2.2.2.2.2.1 (hts (.initialized RX9) (by decide +kernel)) (by decide +kernel) ⟨(Nat.le_of_ble_eq_true rfl), (Nat.le_of_ble_eq_true rfl)⟩, hts (.static yX9_isInherited) (by decide +kernel), trivial⟩ (pv_preS hA hS hw hK [.int xb2]) rfl rfl hl.1 rfl (lv_room (Nat.le_of_ble_eq_true rfl)) dX6_settle_99 ⟨Nat.zero_le _, Nat.zero_le _⟩) hS (fun r25 s26 H locs hp24 hw hS => ?_)
      obtain ⟨err22, esr22, hzr22⟩ := hp24
      obtain rfl := esr22.symm
      obtain rfl := err22.symm
      refine lv_if_eq (tgt := 116) hx hb dX6_settle_102 (by decide) (fun c27 => ?_) (fun c27 => ?_)
      · skip
        replace h := ite_p c27 h
        exact blk116 τ ub0 ub1 xb2 hcτ hub0 hub1 h _ _ hw hS ls (lv_sub hl [0, 1, 2] rfl)
      · skip
        replace h := ite_n c27 h
        refine lv_aload_n hx hb dX6_settle_105 rfl (lv_at hl 1 rfl) ?_
        obtain ⟨o28, eo28, h⟩ := nq_e h
        have ho28 := pv_cl hw eo28
        refine pgR (C := RX3) (T := TX3) (N := 14) hx hb hts hown hK hw 3 8 ub1 (lt_c hcτ 3 hub1) (by decide) rfl rfl inF_X3 (by decide) rfl o28 eo28 (hts _ wm468) (fun _ h9 => h9) dX6_settle_106 ?_
        have ho28 : ∀ j, o28 = some j → j < pvM σ 3 := fun j z => lt_c hcτ.symm 3 (ho28 j z)
        rcases o28 with _ | jo28
        · skip
          replace h := oc_n h
          refine lv_ifnullN (tgt := 116) hx hb dX6_settle_109 (by decide) ?_
          exact blk116 τ ub0 ub1 xb2 hcτ hub0 hub1 h _ _ hw hS ls (lv_sub hl [0, 1, 2] rfl)
        · skip
          replace h := oc_s h
          have hjo28 := ho28 jo28 rfl
          refine lv_ifnull hx hb dX6_settle_109 ?_
          refine lv_iconst (v := 1) hx hb dX6_settle_112 (by decide) ?_
          refine lv_goto (tgt := 117) hx hb dX6_settle_113 (by decide) ?_
          exact blk117 τ ub0 ub1 xb2 1 hcτ hub0 hub1 h _ _ hw hS ls (lv_sub hl [0, 1, 2] rfl)
  have blk63 : ∀ (τ : PvS) (ub0 : Nat) (ub1 : Nat) (xb2 : Int32) (xb4 : Int32) (xb5 : Int32) (xb6 : Int32), (τ.1 = σ.1) → (ub0 < 2) → (ub1 < pvM σ 3) → f_X6_settle_63 τ ub0 ub1 xb2 xb4 xb5 xb6 = some σ1 → ∀ (H : Heap) (locs : List Loc), pvW G τ H → va_S (pvB G) s.heap H locs → ∀ (ls : Array Slot), lv_has ls 9 [(0, .ref (G.2.2.1 6 ub0)), (1, .ref (G.2.2.1 3 ub1)), (2, .int xb2), (4, .int xb4), (5, .int xb5), (6, .int xb6)] → W p l e (headSpec (Cond.code yX6_settle cX6_settle 9 none :: WA) ({ frames := 3, cells := 0, slots := 0, locals := 64 } : Room)).room s m ([.ref (G.2.2.1 6 u0), .ref (G.2.2.1 3 u1), .int x2, .ref (G.2.2.1 10 2)] : List Value).toArray below meth c H locs 0 0 (MQ below (va_Qv (fun σ' => σ' = σ1 ∧ σ'.1 = σ.1) (pvU G tys) (pvB G)) ([.ref (G.2.2.1 6 u0), .ref (G.2.2.1 3 u1), .int x2, .ref (G.2.2.1 10 2)] : List Value).toArray s 0 0 (pvB G)) (F0 m 63 ls []) := by
    intro τ ub0 ub1 xb2 xb4 xb5 xb6 hcτ hub0 hub1 h H locs hw hS ls hl
    unfold f_X6_settle_63 at h
    refine lv_aload_n hx hb dX6_settle_63 rfl (lv_at hl 1 rfl) ?_
    refine lv_iload_n hx hb dX6_settle_64 rfl (lv_at hl 2 rfl) ?_
    obtain ⟨r29, e30, h⟩ := ob1_e h
    refine pcalli (va_runV (As := [.int xb2]) (rest := []) ⟨hx, hb, hml, hown, hts⟩ (c_X3_declaredOf (l := l) (G := G) (tys := tys) (σ := τ) htys (lt_c hcτ 3 hub1) e30) (cwV 1 hts (gVA wm469 wm346 wm347 wm42 wm348) rfl rfl rfl (by decide +kernel) ⟨(Nat.le_of_ble_eq_true rfl), (Nat.le_of_ble_eq_true rfl)⟩) (pv_preV hA hS hw hK 3 ub1 (lt_c hcτ 3 hub1) (by decide) rfl [.int xb2]) rfl rfl hl.1 rfl (lv_room (Nat.le_of_ble_eq_true rfl)) dX6_settle_65 ⟨Nat.zero_le _, Nat.zero_le _⟩) hS (fun r32 s33 H locs hp31 hw hS => ?_)
    obtain ⟨err29, esr29⟩ := hp31
    obtain rfl := esr29.symm
    obtain rfl := err29.symm
    refine lv_istore (lv' := [(7, .int r29), (0, .ref (G.2.2.1 6 ub0)), (1, .ref (G.2.2.1 3 ub1)), (2, .int xb2), (4, .int xb4), (5, .int xb5), (6, .int xb6)]) hx hb dX6_settle_68 hl (by decide) rfl (fun ls hl => ?_)
    refine lv_iload hx hb dX6_settle_70 (lv_at hl 0 rfl) ?_
    refine lv_sipush (v := 9998) hx hb dX6_settle_72 (by decide) ?_
    refine lv_icmp_eq (tgt := 90) hx hb dX6_settle_75 (by decide) (fun c34 => ?_) (fun c34 => ?_)
    · skip
      replace h := ite_p c34 h
      exact blk90 τ ub0 ub1 xb2 xb4 xb5 hcτ hub0 hub1 h _ _ hw hS ls (lv_sub hl [1, 2, 3, 4, 5] rfl)
    · skip
      replace h := ite_n c34 h
      refine lv_iload hx hb dX6_settle_78 (lv_at hl 6 rfl) ?_
      refine lv_if_ne (tgt := 90) hx hb dX6_settle_80 (by decide) (fun c35 => ?_) (fun c35 => ?_)
      · skip
        replace h := ite_n c35 h
        exact blk90 τ ub0 ub1 xb2 xb4 xb5 hcτ hub0 hub1 h _ _ hw hS ls (lv_sub hl [1, 2, 3, 4, 5] rfl)
      · skip
        replace h := ite_p c35 h
        refine lv_iload hx hb dX6_settle_83 (lv_at hl 0 rfl) ?_
        refine lv_istore (lv' := [(5, .int r29), (7, .int r29), (0, .ref (G.2.2.1 6 ub0)), (1, .ref (G.2.2.1 3 ub1)), (2, .int xb2), (4, .int xb4), (6, .int xb6)]) hx hb dX6_settle_85 hl (by decide) rfl (fun ls hl => ?_)
        refine lv_iconst (v := (-1)) hx hb dX6_settle_87 (by decide) ?_
        refine lv_istore (lv' := [(4, .int (-1)), (5, .int r29), (7, .int r29), (0, .ref (G.2.2.1 6 ub0)), (1, .ref (G.2.2.1 3 ub1)), (2, .int xb2), (6, .int xb6)]) hx hb dX6_settle_88 hl (by decide) rfl (fun ls hl => ?_)
        exact blk90 τ ub0 ub1 xb2 (-1) r29 hcτ hub0 hub1 h _ _ hw hS ls (lv_sub hl [3, 4, 5, 0, 1] rfl)
  refine lv_aload_n hx hb dX6_settle_0 rfl (lv_at hl 0 rfl) ?_
  refine pgL (C := RX6) (T := TX6) (N := 3) hx hb hts hown hK hw 6 1 u0 hu0 (by decide) rfl rfl inF_X6 (by decide) (v := .ref (G.2.2.1 35 u0)) rfl (hts _ wm188) (fun _ h9 => h9) dX6_settle_1 ?_
  refine lv_aload_n hx hb dX6_settle_4 rfl (lv_at hl 1 rfl) ?_
  refine pgI (C := RX3) (T := TX3) (N := 14) hx hb hts hown hK hw 3 0 u1 hu1 (by decide) rfl rfl inF_X3 (by decide) rfl (hts _ wm431) (fun _ h9 => h9) dX6_settle_5 ?_
  obtain ⟨g36, h⟩ := gd_e h
  refine pgRow hx hb hK htys hw 35 u0 hu0 (by decide) g36 dX6_settle_8 ?_
  have hw37 := row80 hu0 g36
  refine lv_iload_n hx hb dX6_settle_9 rfl (lv_at hl 2 rfl) ?_
  obtain ⟨g38, h⟩ := gd_e h
  refine pgA hx hb hK htys hw 37 (40 * u0 + (σ.2.1 3 0 u1).toNatClampNeg) hw37 rfl (by decide) g38 dX6_settle_10 ?_
  refine lv_istore (lv' := [(4, .int (σ.2.2.2.1 37 (40 * u0 + (σ.2.1 3 0 u1).toNatClampNeg) x2.toNatClampNeg)), (0, .ref (G.2.2.1 6 u0)), (1, .ref (G.2.2.1 3 u1)), (2, .int x2), (3, .ref (G.2.2.1 10 2))]) hx hb dX6_settle_11 hl (by decide) rfl (fun ls hl => ?_)
  refine lv_sipush (v := 9998) hx hb dX6_settle_13 (by decide) ?_
  refine lv_istore (lv' := [(5, .int 9998), (4, .int (σ.2.2.2.1 37 (40 * u0 + (σ.2.1 3 0 u1).toNatClampNeg) x2.toNatClampNeg)), (0, .ref (G.2.2.1 6 u0)), (1, .ref (G.2.2.1 3 u1)), (2, .int x2), (3, .ref (G.2.2.1 10 2))]) hx hb dX6_settle_16 hl (by decide) rfl (fun ls hl => ?_)
  refine lv_iconst (v := 0) hx hb dX6_settle_18 (by decide) ?_
  refine lv_istore (lv' := [(6, .int 0), (5, .int 9998), (4, .int (σ.2.2.2.1 37 (40 * u0 + (σ.2.1 3 0 u1).toNatClampNeg) x2.toNatClampNeg)), (0, .ref (G.2.2.1 6 u0)), (1, .ref (G.2.2.1 3 u1)), (2, .int x2), (3, .ref (G.2.2.1 10 2))]) hx hb dX6_settle_19 hl (by decide) rfl (fun ls hl => ?_)
  refine lv_iload hx hb dX6_settle_21 (lv_at hl 2 rfl) ?_
  refine lv_if_lt (tgt := 63) hx hb dX6_settle_23 (by decide) (fun c39 => ?_) (fun c39 => ?_)
  · skip
    replace h := ite_p c39 h
    exact blk63 σ u0 u1 x2 (σ.2.2.2.1 37 (40 * u0 + (σ.2.1 3 0 u1).toNatClampNeg) x2.toNatClampNeg) 9998 0 rfl hu0 hu1 h _ _ hw hS ls (lv_sub hl [3, 4, 5, 2, 1, 0] rfl)
  · skip
    replace h := ite_n c39 h
    refine lv_iload hx hb dX6_settle_26 (lv_at hl 2 rfl) ?_
    refine lv_aload_n hx hb dX6_settle_28 rfl (lv_at hl 6 rfl) ?_
    refine pcalli (va_runV (As := []) (rest := [.int (σ.2.2.2.1 37 (40 * u0 + (σ.2.1 3 0 u1).toNatClampNeg) x2.toNatClampNeg)]) ⟨hx, hb, hml, hown, hts⟩ (c_lsize (l := l) (G := G) (tys := tys) (σ := σ) (j := 2) (show 2 < σ.1 0 + 3 from Nat.lt_of_lt_of_le (by decide) (Nat.le_add_left 3 _))) (cwV 0 hts (gVA wm426 wm251 wm252 wm13 wm253) rfl rfl rfl (by decide +kernel) ⟨(Nat.le_of_ble_eq_true rfl), (Nat.le_of_ble_eq_true rfl)⟩) (pl_preV hA hS hw hK 2 (show 2 < σ.1 0 + 3 from Nat.lt_of_lt_of_le (by decide) (Nat.le_add_left 3 _)) []) rfl rfl hl.1 rfl (lv_room (Nat.le_of_ble_eq_true rfl)) dX6_settle_29 ⟨Nat.zero_le _, Nat.zero_le _⟩) hS (fun rz40 sz40 H locs hpz40 hw hS => ?_)
    obtain ⟨rfl, ez40⟩ := hpz40
    obtain rfl := ez40.symm
    refine lv_icmp_ge (tgt := 63) hx hb dX6_settle_32 (by decide) (fun c41 => ?_) (fun c41 => ?_)
    · skip
      replace h := ite_p c41 h
      exact blk63 σ u0 u1 x2 (σ.2.2.2.1 37 (40 * u0 + (σ.2.1 3 0 u1).toNatClampNeg) x2.toNatClampNeg) 9998 0 rfl hu0 hu1 h _ _ hw hS ls (lv_sub hl [3, 4, 5, 2, 1, 0] rfl)
    · skip
      replace h := ite_n c41 h
      refine lv_aload_n hx hb dX6_settle_35 rfl (lv_at hl 6 rfl) ?_
      refine lv_iload hx hb dX6_settle_36 (lv_at hl 2 rfl) ?_
      obtain ⟨g42, h⟩ := gd_e h
      obtain ⟨y43, ey43, h⟩ := nq_e h
      refine pcallg (κ := 5) rfl (va_runV (As := [.int (σ.2.2.2.1 37 (40 * u0 + (σ.2.1 3 0 u1).toNatClampNeg) x2.toNatClampNeg)]) (rest := []) ⟨hx, hb, hml, hown, hts⟩ (c_lgetI (l := l) (G := G) (tys := tys) (σ := σ) htys (j := 2) (show 2 < σ.1 0 + 3 from Nat.lt_of_lt_of_le (by decide) (Nat.le_add_left 3 _)) g42 (pl_len2 hw 2 (show 2 < σ.1 0 + 3 from Nat.lt_of_lt_of_le (by decide) (Nat.le_add_left 3 _)))) (cwV 1 hts (gVA wm427 wm255 wm256 wm13 wm257) rfl rfl rfl (by decide +kernel) ⟨(Nat.le_of_ble_eq_true rfl), (Nat.le_of_ble_eq_true rfl)⟩) (pl_preV hA hS hw hK 2 (show 2 < σ.1 0 + 3 from Nat.lt_of_lt_of_le (by decide) (Nat.le_add_left 3 _)) [.int (σ.2.2.2.1 37 (40 * u0 + (σ.2.1 3 0 u1).toNatClampNeg) x2.toNatClampNeg)]) rfl rfl hl.1 rfl (lv_room (Nat.le_of_ble_eq_true rfl)) dX6_settle_38 ⟨Nat.zero_le _, Nat.zero_le _⟩) hS (fun zy43 ezy43 H locs hw hS => ?_)
      obtain rfl : y43 = zy43 := ey43.trans ezy43.symm
      have hy43 : y43 < pvM σ 5 := by rw [ey43]; exact pl_lt hw 2 (show 2 < σ.1 0 + 3 from Nat.lt_of_lt_of_le (by decide) (Nat.le_add_left 3 _)) _ (Nat.not_le.mp fun q => g42 (Or.inr q)) rfl
      refine pcast hx hb hown hK hw 5 y43 hy43 (by decide) rfl (hts _ wm436) dX6_settle_41 ?_
      refine pgI (C := RX5) (T := TX5) (N := 10) hx hb hts hown hK hw 5 1 y43 hy43 (by decide) rfl rfl inF_X5 (by decide) rfl (hts _ wm467) (fun _ h9 => h9) dX6_settle_44 ?_
      refine lv_istore (lv' := [(5, .int (σ.2.1 5 1 y43)), (6, .int 0), (4, .int (σ.2.2.2.1 37 (40 * u0 + (σ.2.1 3 0 u1).toNatClampNeg) x2.toNatClampNeg)), (0, .ref (G.2.2.1 6 u0)), (1, .ref (G.2.2.1 3 u1)), (2, .int x2), (3, .ref (G.2.2.1 10 2))]) hx hb dX6_settle_47 hl (by decide) rfl (fun ls hl => ?_)
      refine lv_aload_n hx hb dX6_settle_49 rfl (lv_at hl 6 rfl) ?_
      refine lv_iload hx hb dX6_settle_50 (lv_at hl 2 rfl) ?_
      obtain ⟨g44, h⟩ := gd_e h
      obtain ⟨y45, ey45, h⟩ := nq_e h
      refine pcallg (κ := 5) rfl (va_runV (As := [.int (σ.2.2.2.1 37 (40 * u0 + (σ.2.1 3 0 u1).toNatClampNeg) x2.toNatClampNeg)]) (rest := []) ⟨hx, hb, hml, hown, hts⟩ (c_lgetI (l := l) (G := G) (tys := tys) (σ := σ) htys (j := 2) (show 2 < σ.1 0 + 3 from Nat.lt_of_lt_of_le (by decide) (Nat.le_add_left 3 _)) g44 (pl_len2 hw 2 (show 2 < σ.1 0 + 3 from Nat.lt_of_lt_of_le (by decide) (Nat.le_add_left 3 _)))) (cwV 1 hts (gVA wm427 wm255 wm256 wm13 wm257) rfl rfl rfl (by decide +kernel) ⟨(Nat.le_of_ble_eq_true rfl), (Nat.le_of_ble_eq_true rfl)⟩) (pl_preV hA hS hw hK 2 (show 2 < σ.1 0 + 3 from Nat.lt_of_lt_of_le (by decide) (Nat.le_add_left 3 _)) [.int (σ.2.2.2.1 37 (40 * u0 + (σ.2.1 3 0 u1).toNatClampNeg) x2.toNatClampNeg)]) rfl rfl hl.1 rfl (lv_room (Nat.le_of_ble_eq_true rfl)) dX6_settle_52 ⟨Nat.zero_le _, Nat.zero_le _⟩) hS (fun zy45 ezy45 H locs hw hS => ?_)
      obtain rfl : y45 = zy45 := ey45.trans ezy45.symm
      have hy45 : y45 < pvM σ 5 := by rw [ey45]; exact pl_lt hw 2 (show 2 < σ.1 0 + 3 from Nat.lt_of_lt_of_le (by decide) (Nat.le_add_left 3 _)) _ (Nat.not_le.mp fun q => g44 (Or.inr q)) rfl
      refine pcast hx hb hown hK hw 5 y45 hy45 (by decide) rfl (hts _ wm436) dX6_settle_55 ?_
      refine pgI (C := RX5) (T := TX5) (N := 10) hx hb hts hown hK hw 5 2 y45 hy45 (by decide) rfl rfl inF_X5 (by decide) rfl (hts _ wm461) (fun _ h9 => h9) dX6_settle_58 ?_
      refine lv_istore (lv' := [(6, .int (σ.2.1 5 2 y45)), (5, .int (σ.2.1 5 1 y43)), (4, .int (σ.2.2.2.1 37 (40 * u0 + (σ.2.1 3 0 u1).toNatClampNeg) x2.toNatClampNeg)), (0, .ref (G.2.2.1 6 u0)), (1, .ref (G.2.2.1 3 u1)), (2, .int x2), (3, .ref (G.2.2.1 10 2))]) hx hb dX6_settle_61 hl (by decide) rfl (fun ls hl => ?_)
      exact blk63 σ u0 u1 x2 (σ.2.2.2.1 37 (40 * u0 + (σ.2.1 3 0 u1).toNatClampNeg) x2.toNatClampNeg) (σ.2.1 5 1 y43) (σ.2.1 5 2 y45) rfl hu0 hu1 h _ _ hw hS ls (lv_sub hl [3, 4, 5, 2, 1, 0] rfl)
def f_X6_workOut_43 (k3 : PvS → Nat → Int32 → Int32 → Option PvS) : Nat → PvS → Nat → Int32 → Int32 → Nat → Int32 → Option PvS
  | 0, _, _, _, _, _, _ => none
  | n + 1, τ, ub0, xb3, xb4, ub5, xb6 => if 14 ≤ xb6 then (k3 τ ub0 xb3 (xb4 + 1)) else (ob1 (f_X6_settle τ ub0 ub5 xb6) (fun σ3 => f_X6_workOut_43 k3 n σ3 ub0 xb3 xb4 ub5 (xb6 + 1)))
theorem f_X6_workOut_43_z {k3 : PvS → Nat → Int32 → Int32 → Option PvS} {τ : PvS} {ub0 : Nat} {xb3 : Int32} {xb4 : Int32} {ub5 : Nat} {xb6 : Int32} : f_X6_workOut_43 k3 0 τ ub0 xb3 xb4 ub5 xb6 = none := rfl
theorem f_X6_workOut_43_s {n : Nat} {k3 : PvS → Nat → Int32 → Int32 → Option PvS} {τ : PvS} {ub0 : Nat} {xb3 : Int32} {xb4 : Int32} {ub5 : Nat} {xb6 : Int32} : f_X6_workOut_43 k3 (n + 1) τ ub0 xb3 xb4 ub5 xb6 = if 14 ≤ xb6 then (k3 τ ub0 xb3 (xb4 + 1)) else (ob1 (f_X6_settle τ ub0 ub5 xb6) (fun σ3 => f_X6_workOut_43 k3 n σ3 ub0 xb3 xb4 ub5 (xb6 + 1))) := rfl
def f_X6_workOut_3  : Nat → PvS → Nat → Int32 → Int32 → Option PvS
  | 0, _, _, _, _ => none
  | n + 1, τ, ub0, xb3, xb4 => if (nI (τ.2.2.2.2 1).length) ≤ xb4 then (nm (pvI τ 6 2 ub0 1) (fun σ10 => some σ10)) else (gd (vin xb4 (τ.2.2.2.2 1).length) (nm ((τ.2.2.2.2 1).getD xb4.toNatClampNeg 0) (fun y12 => ob1 (f_X6_isKept τ y12 0) (fun r13 => if r13 = 0 then (f_X6_workOut_3 n τ ub0 xb3 (xb4 + 1)) else (ob1 (f_X6_findRules τ ub0 y12 xb3) (fun σ20 => f_X6_workOut_43 (f_X6_workOut_3 n) fu σ20 ub0 xb3 xb4 y12 0))))))
theorem f_X6_workOut_3_z {τ : PvS} {ub0 : Nat} {xb3 : Int32} {xb4 : Int32} : f_X6_workOut_3 0 τ ub0 xb3 xb4 = none := rfl
theorem f_X6_workOut_3_s {n : Nat} {τ : PvS} {ub0 : Nat} {xb3 : Int32} {xb4 : Int32} : f_X6_workOut_3 (n + 1) τ ub0 xb3 xb4 = if (nI (τ.2.2.2.2 1).length) ≤ xb4 then (nm (pvI τ 6 2 ub0 1) (fun σ10 => some σ10)) else (gd (vin xb4 (τ.2.2.2.2 1).length) (nm ((τ.2.2.2.2 1).getD xb4.toNatClampNeg 0) (fun y12 => ob1 (f_X6_isKept τ y12 0) (fun r13 => if r13 = 0 then (f_X6_workOut_3 n τ ub0 xb3 (xb4 + 1)) else (ob1 (f_X6_findRules τ ub0 y12 xb3) (fun σ20 => f_X6_workOut_43 (f_X6_workOut_3 n) fu σ20 ub0 xb3 xb4 y12 0)))))) := rfl
def f_X6_workOut (σ : PvS) (u0 : Nat) (x3 : Int32) : Option PvS :=
  f_X6_workOut_3 fu σ u0 x3 0
set_option maxHeartbeats 4000000 in
set_option maxRecDepth 100000 in
theorem c_X6_workOut {l : Launch} {G : PvG} {tys : List (ClassId × FieldType)} {σ : PvS} (htys : tys = pvT G)  {u0 : Nat} {x3 : Int32} (hu0 : u0 < pvM σ 6) {σ1 : PvS} (h : f_X6_workOut σ u0 x3 = some σ1) : Met l yX6_workOut (Cond.code yX6_workOut cX6_workOut 7 none :: WA) ({ frames := 8, cells := 0, slots := 0, locals := 188 }) (va_Pc [.ref (G.2.2.1 6 u0), .ref (G.2.2.1 10 1), .ref (G.2.2.1 10 2), .int x3] (pvU G tys σ)) (va_Qv (fun σ' => σ' = σ1 ∧ σ'.1 = σ.1) (pvU G tys) (pvB G)) 0 0 (pvB G) := by
  refine Met.ofW (cc := cX6_workOut) (maxL := 7) (ret := none) (by decide) rfl ?_
  intro p e s m args below meth c s₁ B hml hv
  obtain ⟨rfl, hw, hK, hA⟩ := hv
  have hx := B.exec
  have hb := B.bytes
  have hr := B.returns
  have hts0 := atoms_spec (ws := (Cond.code yX6_workOut cX6_workOut 7 none :: WA)) B.pre
  have hts : ∀ w ∈ WA, w.before _ s = true := fun w h => hts0 w (List.mem_cons_of_mem _ h)
  have hown : s.vm.findClass RX6 = some m.cls := findClass_of_methodNamed B.named
  have hlocks := B.notSynchronized
  have hS : va_S (pvB G) s.heap s.heap [] := va_S.rf
  have hl := lv_entry ([.ref (G.2.2.1 6 u0), .ref (G.2.2.1 10 1), .ref (G.2.2.1 10 2), .int x3]) (n := 7) (Nat.le_of_ble_eq_true rfl)
  rw [lg_entry_eq]
  generalize (lg_sl ([.ref (G.2.2.1 6 u0), .ref (G.2.2.1 10 1), .ref (G.2.2.1 10 2), .int x3]) ++ List.replicate (7 - (lg_sl ([.ref (G.2.2.1 6 u0), .ref (G.2.2.1 10 1), .ref (G.2.2.1 10 2), .int x3])).length) Slot.unset).toArray = ls at hl ⊢
  have hl : lv_has ls 7 [(0, .ref (G.2.2.1 6 u0)), (1, .ref (G.2.2.1 10 1)), (2, .ref (G.2.2.1 10 2)), (3, .int x3)] := hl
  have hroot := pv_root hw
  unfold f_X6_workOut at h
  have loop3 : ∀ (n : Nat) (τ : PvS) (ub0 : Nat) (xb3 : Int32) (xb4 : Int32), (τ.1 = σ.1) → (ub0 < 2) → f_X6_workOut_3 n τ ub0 xb3 xb4 = some σ1 → ∀ (H : Heap) (locs : List Loc), pvW G τ H → va_S (pvB G) s.heap H locs → ∀ (ls : Array Slot), lv_has ls 7 [(0, .ref (G.2.2.1 6 ub0)), (1, .ref (G.2.2.1 10 1)), (2, .ref (G.2.2.1 10 2)), (3, .int xb3), (4, .int xb4)] → W p l e (headSpec (Cond.code yX6_workOut cX6_workOut 7 none :: WA) ({ frames := 8, cells := 0, slots := 0, locals := 188 } : Room)).room s m ([.ref (G.2.2.1 6 u0), .ref (G.2.2.1 10 1), .ref (G.2.2.1 10 2), .int x3] : List Value).toArray below meth c H locs 0 0 (MQ below (va_Qv (fun σ' => σ' = σ1 ∧ σ'.1 = σ.1) (pvU G tys) (pvB G)) ([.ref (G.2.2.1 6 u0), .ref (G.2.2.1 10 1), .ref (G.2.2.1 10 2), .int x3] : List Value).toArray s 0 0 (pvB G)) (F0 m 3 ls []) := by
    intro n3
    induction n3 with
    | zero =>
      intro τ ub0 xb3 xb4 hcτ hub0 h
      rw [f_X6_workOut_3_z] at h
      cases h
    | succ n3 ih3 =>
      have loop43 : ∀ (n : Nat) (τ : PvS) (ub0 : Nat) (xb3 : Int32) (xb4 : Int32) (ub5 : Nat) (xb6 : Int32), (τ.1 = σ.1) → (ub0 < 2) → (ub5 < pvM σ 3) → f_X6_workOut_43 (f_X6_workOut_3 n3) n τ ub0 xb3 xb4 ub5 xb6 = some σ1 → ∀ (H : Heap) (locs : List Loc), pvW G τ H → va_S (pvB G) s.heap H locs → ∀ (ls : Array Slot), lv_has ls 7 [(0, .ref (G.2.2.1 6 ub0)), (1, .ref (G.2.2.1 10 1)), (2, .ref (G.2.2.1 10 2)), (3, .int xb3), (4, .int xb4), (5, .ref (G.2.2.1 3 ub5)), (6, .int xb6)] → W p l e (headSpec (Cond.code yX6_workOut cX6_workOut 7 none :: WA) ({ frames := 8, cells := 0, slots := 0, locals := 188 } : Room)).room s m ([.ref (G.2.2.1 6 u0), .ref (G.2.2.1 10 1), .ref (G.2.2.1 10 2), .int x3] : List Value).toArray below meth c H locs 0 0 (MQ below (va_Qv (fun σ' => σ' = σ1 ∧ σ'.1 = σ.1) (pvU G tys) (pvB G)) ([.ref (G.2.2.1 6 u0), .ref (G.2.2.1 10 1), .ref (G.2.2.1 10 2), .int x3] : List Value).toArray s 0 0 (pvB G)) (F0 m 43 ls []) := by
        intro n43
        induction n43 with
        | zero =>
          intro τ ub0 xb3 xb4 ub5 xb6 hcτ hub0 hub5 h
          rw [f_X6_workOut_43_z] at h
          cases h
        | succ n43 ih43 =>
          intro τ ub0 xb3 xb4 ub5 xb6 hcτ hub0 hub5 h H locs hw hS ls hl
          rw [f_X6_workOut_43_s] at h
          refine lv_iload hx hb dX6_workOut_43 (lv_at hl 6 rfl) ?_
          refine lv_bipush (v := 14) hx hb dX6_workOut_45 (by decide) ?_
          refine lv_icmp_ge (tgt := 65) hx hb dX6_workOut_47 (by decide) (fun c1 => ?_) (fun c1 => ?_)
          · skip
            replace h := ite_p c1 h
            refine lv_iinc (v := xb4 + 1) (lv' := [(4, .int (xb4 + 1)), (0, .ref (G.2.2.1 6 ub0)), (1, .ref (G.2.2.1 10 1)), (2, .ref (G.2.2.1 10 2)), (3, .int xb3), (5, .ref (G.2.2.1 3 ub5)), (6, .int xb6)]) hx hb dX6_workOut_65 hl (k := 4) rfl (by rfl) (by decide) rfl (fun ls hl => ?_)
            refine lv_goto (tgt := 3) hx hb dX6_workOut_68 (by decide) ?_
            exact ih3 τ ub0 xb3 (xb4 + 1) hcτ hub0 h _ _ hw hS ls (lv_sub hl [1, 2, 3, 4, 0] rfl)
          · skip
            replace h := ite_n c1 h
            refine lv_aload_n hx hb dX6_workOut_50 rfl (lv_at hl 0 rfl) ?_
            refine lv_aload hx hb dX6_workOut_51 (lv_at hl 5 rfl) ?_
            refine lv_iload hx hb dX6_workOut_53 (lv_at hl 6 rfl) ?_
            refine lv_aload_n hx hb dX6_workOut_55 rfl (lv_at hl 2 rfl) ?_
            obtain ⟨σ3, e4, h⟩ := ob1_e h
            refine pcallv (va_runV (As := [.ref (G.2.2.1 3 ub5), .int xb6, .ref (G.2.2.1 10 2)]) (rest := []) ⟨hx, hb, hml, hown, hts⟩ (c_X6_settle (l := l) (G := G) (tys := tys) (σ := τ) htys hub0 (lt_c hcτ 3 hub5) e4) (cwV 3 hts (gVA wm463 wm464 wm465 wm23 wm466) rfl rfl rfl (by decide +kernel) ⟨(Nat.le_of_ble_eq_true rfl), (Nat.le_of_ble_eq_true rfl)⟩) (pv_preV hA hS hw hK 6 ub0 hub0 (by decide) rfl [.ref (G.2.2.1 3 ub5), .int xb6, .ref (G.2.2.1 10 2)]) rfl rfl hl.1 rfl (lv_room (Nat.le_of_ble_eq_true rfl)) dX6_workOut_56 ⟨Nat.zero_le _, Nat.zero_le _⟩) hS (fun s7 H locs hp5 hw hS => ?_)
            obtain ⟨esσ3, hdσ3⟩ := hp5
            obtain rfl := esσ3.symm
            have hcσ3 : σ3.1 = σ.1 := hdσ3.trans hcτ
            refine lv_iinc (v := xb6 + 1) (lv' := [(6, .int (xb6 + 1)), (0, .ref (G.2.2.1 6 ub0)), (1, .ref (G.2.2.1 10 1)), (2, .ref (G.2.2.1 10 2)), (3, .int xb3), (4, .int xb4), (5, .ref (G.2.2.1 3 ub5))]) hx hb dX6_workOut_59 hl (k := 6) rfl (by rfl) (by decide) rfl (fun ls hl => ?_)
            refine lv_goto (tgt := 43) hx hb dX6_workOut_62 (by decide) ?_
            exact ih43 σ3 ub0 xb3 xb4 ub5 (xb6 + 1) hcσ3 hub0 hub5 h _ _ hw hS ls (lv_sub hl [1, 2, 3, 4, 5, 6, 0] rfl)
      intro τ ub0 xb3 xb4 hcτ hub0 h H locs hw hS ls hl
      rw [f_X6_workOut_3_s] at h
      refine lv_iload hx hb dX6_workOut_3 (lv_at hl 4 rfl) ?_
      refine lv_aload_n hx hb dX6_workOut_5 rfl (lv_at hl 1 rfl) ?_
      refine pcalli (va_runV (As := []) (rest := [.int xb4]) ⟨hx, hb, hml, hown, hts⟩ (c_lsize (l := l) (G := G) (tys := tys) (σ := τ) (j := 1) (show 1 < τ.1 0 + 3 from Nat.lt_of_lt_of_le (by decide) (Nat.le_add_left 3 _))) (cwV 0 hts (gVA wm426 wm251 wm252 wm13 wm253) rfl rfl rfl (by decide +kernel) ⟨(Nat.le_of_ble_eq_true rfl), (Nat.le_of_ble_eq_true rfl)⟩) (pl_preV hA hS hw hK 1 (show 1 < τ.1 0 + 3 from Nat.lt_of_lt_of_le (by decide) (Nat.le_add_left 3 _)) []) rfl rfl hl.1 rfl (lv_room (Nat.le_of_ble_eq_true rfl)) dX6_workOut_6 ⟨Nat.zero_le _, Nat.zero_le _⟩) hS (fun rz8 sz8 H locs hpz8 hw hS => ?_)
      obtain ⟨rfl, ez8⟩ := hpz8
      obtain rfl := ez8.symm
      refine lv_icmp_ge (tgt := 71) hx hb dX6_workOut_9 (by decide) (fun c9 => ?_) (fun c9 => ?_)
      · skip
        replace h := ite_p c9 h
        refine lv_aload_n hx hb dX6_workOut_71 rfl (lv_at hl 0 rfl) ?_
        refine lv_iconst (v := 1) hx hb dX6_workOut_72 (by decide) ?_
        obtain ⟨σ10, eσ10, h⟩ := nq_e h
        refine ppI (ty := .boolean) (C := RX6) (T := TX6) (N := 3) hx hb hts hown hK hw hS 6 2 ub0 hub0 (by decide) rfl rfl inF_X6 (by decide) rfl (by decide) tyX6_ok nmX6 (hts _ wm189) (fun _ h9 => h9) rfl (by decide +kernel) (is01_nar (Or.inr rfl)) (is01_fit (Or.inr rfl)) dX6_workOut_73 (fun H locs hw hS => ?_)
        rw [← eσ10] at hw
        have hcσ10 : σ10.1 = σ.1 := by rw [eσ10]; exact hcτ
        exact pev hx hb hr hlocks hA hw hK hS (psv h hcσ10) dX6_workOut_76
      · skip
        replace h := ite_n c9 h
        refine lv_aload_n hx hb dX6_workOut_12 rfl (lv_at hl 1 rfl) ?_
        refine lv_iload hx hb dX6_workOut_13 (lv_at hl 4 rfl) ?_
        obtain ⟨g11, h⟩ := gd_e h
        obtain ⟨y12, ey12, h⟩ := nq_e h
        refine pcallg (κ := 3) rfl (va_runV (As := [.int xb4]) (rest := []) ⟨hx, hb, hml, hown, hts⟩ (c_lgetI (l := l) (G := G) (tys := tys) (σ := τ) htys (j := 1) (show 1 < τ.1 0 + 3 from Nat.lt_of_lt_of_le (by decide) (Nat.le_add_left 3 _)) g11 (pl_len2 hw 1 (show 1 < τ.1 0 + 3 from Nat.lt_of_lt_of_le (by decide) (Nat.le_add_left 3 _)))) (cwV 1 hts (gVA wm427 wm255 wm256 wm13 wm257) rfl rfl rfl (by decide +kernel) ⟨(Nat.le_of_ble_eq_true rfl), (Nat.le_of_ble_eq_true rfl)⟩) (pl_preV hA hS hw hK 1 (show 1 < τ.1 0 + 3 from Nat.lt_of_lt_of_le (by decide) (Nat.le_add_left 3 _)) [.int xb4]) rfl rfl hl.1 rfl (lv_room (Nat.le_of_ble_eq_true rfl)) dX6_workOut_15 ⟨Nat.zero_le _, Nat.zero_le _⟩) hS (fun zy12 ezy12 H locs hw hS => ?_)
        obtain rfl : y12 = zy12 := ey12.trans ezy12.symm
        have hy12 : y12 < pvM τ 3 := by rw [ey12]; exact pl_lt hw 1 (show 1 < τ.1 0 + 3 from Nat.lt_of_lt_of_le (by decide) (Nat.le_add_left 3 _)) _ (Nat.not_le.mp fun q => g11 (Or.inr q)) rfl
        have hy12 : y12 < pvM σ 3 := lt_c hcτ.symm 3 hy12
        refine pcast hx hb hown hK hw 3 y12 (lt_c hcτ 3 hy12) (by decide) rfl (hts _ wm425) dX6_workOut_18 ?_
        refine lv_astore (lv' := [(5, .ref (G.2.2.1 3 y12)), (0, .ref (G.2.2.1 6 ub0)), (1, .ref (G.2.2.1 10 1)), (2, .ref (G.2.2.1 10 2)), (3, .int xb3), (4, .int xb4)]) hx hb dX6_workOut_21 hl (by decide) rfl (fun ls hl => ?_)
        refine lv_aload hx hb dX6_workOut_23 (lv_at hl 0 rfl) ?_
        refine lv_iconst (v := 0) hx hb dX6_workOut_25 (by decide) ?_
        obtain ⟨r13, e14, h⟩ := ob1_e h
        refine pcalli (va_runS (As := [.ref (G.2.2.1 3 y12), .int 0]) (rest := []) ⟨hx, hb, hml, hown, hts⟩ (c_X6_isKept (l := l) (G := G) (tys := tys) (σ := τ) htys (lt_c hcτ 3 hy12) e14) (va_cwS 2 hts (gSA wm428 wm429 wm23 wm430) rfl rfl rfl (by decide +kernel) ⟨(Nat.le_of_ble_eq_true rfl), (Nat.le_of_ble_eq_true rfl)⟩) (pv_preS hA hS hw hK [.ref (G.2.2.1 3 y12), .int 0]) rfl rfl hl.1 rfl (lv_room (Nat.le_of_ble_eq_true rfl)) dX6_workOut_26 ⟨Nat.zero_le _, Nat.zero_le _⟩) hS (fun r16 s17 H locs hp15 hw hS => ?_)
        obtain ⟨err13, esr13, hzr13⟩ := hp15
        obtain rfl := esr13.symm
        obtain rfl := err13.symm
        refine lv_if_eq (tgt := 65) hx hb dX6_workOut_29 (by decide) (fun c18 => ?_) (fun c18 => ?_)
        · skip
          replace h := ite_p c18 h
          refine lv_iinc (v := xb4 + 1) (lv' := [(4, .int (xb4 + 1)), (5, .ref (G.2.2.1 3 y12)), (0, .ref (G.2.2.1 6 ub0)), (1, .ref (G.2.2.1 10 1)), (2, .ref (G.2.2.1 10 2)), (3, .int xb3)]) hx hb dX6_workOut_65 hl (k := 5) rfl (by rfl) (by decide) rfl (fun ls hl => ?_)
          refine lv_goto (tgt := 3) hx hb dX6_workOut_68 (by decide) ?_
          exact ih3 τ ub0 xb3 (xb4 + 1) hcτ hub0 h _ _ hw hS ls (lv_sub hl [2, 3, 4, 5, 0] rfl)
        · skip
          replace h := ite_n c18 h
          refine lv_aload_n hx hb dX6_workOut_32 rfl (lv_at hl 1 rfl) ?_
          refine lv_aload hx hb dX6_workOut_33 (lv_at hl 0 rfl) ?_
          refine lv_aload_n hx hb dX6_workOut_35 rfl (lv_at hl 3 rfl) ?_
          refine lv_iload_n hx hb dX6_workOut_36 rfl (lv_at hl 4 rfl) ?_
          obtain ⟨σ20, e21, h⟩ := ob1_e h
          refine pcallv (va_runV (As := [.ref (G.2.2.1 3 y12), .ref (G.2.2.1 10 2), .int xb3]) (rest := []) ⟨hx, hb, hml, hown, hts⟩ (c_X6_findRules (l := l) (G := G) (tys := tys) (σ := τ) htys hub0 (lt_c hcτ 3 hy12) e21) (cwV 3 hts (gVA wm432 wm433 wm434 wm23 wm435) rfl rfl rfl (by decide +kernel) ⟨(Nat.le_of_ble_eq_true rfl), (Nat.le_of_ble_eq_true rfl)⟩) (pv_preV hA hS hw hK 6 ub0 hub0 (by decide) rfl [.ref (G.2.2.1 3 y12), .ref (G.2.2.1 10 2), .int xb3]) rfl rfl hl.1 rfl (lv_room (Nat.le_of_ble_eq_true rfl)) dX6_workOut_37 ⟨Nat.zero_le _, Nat.zero_le _⟩) hS (fun s24 H locs hp22 hw hS => ?_)
          obtain ⟨esσ20, hdσ20⟩ := hp22
          obtain rfl := esσ20.symm
          have hcσ20 : σ20.1 = σ.1 := hdσ20.trans hcτ
          refine lv_iconst (v := 0) hx hb dX6_workOut_40 (by decide) ?_
          refine lv_istore (lv' := [(6, .int 0), (5, .ref (G.2.2.1 3 y12)), (0, .ref (G.2.2.1 6 ub0)), (1, .ref (G.2.2.1 10 1)), (2, .ref (G.2.2.1 10 2)), (3, .int xb3), (4, .int xb4)]) hx hb dX6_workOut_41 hl (by decide) rfl (fun ls hl => ?_)
          exact loop43 fu σ20 ub0 xb3 xb4 y12 0 hcσ20 hub0 hy12 h _ _ hw hS ls (lv_sub hl [2, 3, 4, 5, 6, 1, 0] rfl)
  refine lv_iconst (v := 0) hx hb dX6_workOut_0 (by decide) ?_
  refine lv_istore (lv' := [(4, .int 0), (0, .ref (G.2.2.1 6 u0)), (1, .ref (G.2.2.1 10 1)), (2, .ref (G.2.2.1 10 2)), (3, .int x3)]) hx hb dX6_workOut_1 hl (by decide) rfl (fun ls hl => ?_)
  exact loop3 fu σ u0 x3 0 rfl hu0 h _ _ hw hS ls (lv_sub hl [1, 2, 3, 4, 0] rfl)
