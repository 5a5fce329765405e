def f_X3_hasClass (σ : PvS) (u0 : Nat) (x1 : Int32) : Option Int32 :=
  if x1 < 0 then (some 0) else (if 7 < x1 then (some 0) else (if (((σ.2.1 3 11 u0) >>> (x1 &&& 31)) &&& 1) = 1 then (some 1) else (some 0)))
set_option maxHeartbeats 4000000 in
set_option maxRecDepth 100000 in
theorem c_X3_hasClass {l : Launch} {G : PvG} {tys : List (ClassId × FieldType)} {σ : PvS} (htys : tys = pvT G)  {u0 : Nat} {x1 : Int32} (hu0 : u0 < pvM σ 3) {r : Int32} (h : f_X3_hasClass σ u0 x1 = some r) : Met l yX3_hasClass (Cond.code yX3_hasClass cX3_hasClass 2 (some .boolean) :: WA) ({ frames := 0, cells := 0, slots := 0, locals := 0 }) (va_Pc [.ref (G.2.2.1 3 u0), .int x1] (pvU G tys σ)) (va_Qi (fun r' σ' => r' = r ∧ σ' = σ ∧ is01 r') (pvU G tys) (pvB G)) 0 0 (pvB G) := by
  refine Met.ofW (cc := cX3_hasClass) (maxL := 2) (ret := (some .boolean)) (by decide) rfl ?_
  intro p e s m args below meth c s₁ B hml hv
  obtain ⟨rfl, hw, hK, hA⟩ := hv
  have hx := B.exec
  have hb := B.bytes
  have hr := B.returns
  have hts0 := atoms_spec (ws := (Cond.code yX3_hasClass cX3_hasClass 2 (some .boolean) :: WA)) B.pre
  have hts : ∀ w ∈ WA, w.before _ s = true := fun w h => hts0 w (List.mem_cons_of_mem _ h)
  have hown : s.vm.findClass RX3 = some m.cls := findClass_of_methodNamed B.named
  have hlocks := B.notSynchronized
  have hS : va_S (pvB G) s.heap s.heap [] := va_S.rf
  have hl := lv_entry ([.ref (G.2.2.1 3 u0), .int x1]) (n := 2) (Nat.le_of_ble_eq_true rfl)
  rw [lg_entry_eq]
  generalize (lg_sl ([.ref (G.2.2.1 3 u0), .int x1]) ++ List.replicate (2 - (lg_sl ([.ref (G.2.2.1 3 u0), .int x1])).length) Slot.unset).toArray = ls at hl ⊢
  have hl : lv_has ls 2 [(0, .ref (G.2.2.1 3 u0)), (1, .int x1)] := hl
  have hroot := pv_root hw
  unfold f_X3_hasClass at h
  refine lv_iload_n hx hb dX3_hasClass_0 rfl (lv_at hl 1 rfl) ?_
  refine lv_if_lt (tgt := 26) hx hb dX3_hasClass_1 (by decide) (fun c1 => ?_) (fun c1 => ?_)
  · skip
    replace h := ite_p c1 h
    refine lv_iconst (v := 0) hx hb dX3_hasClass_26 (by decide) ?_
    exact pez hx hb hr (is01_nar (Or.inl rfl)) hlocks hA hw hK hS ⟨Option.some.inj h, rfl, (Or.inl rfl)⟩ dX3_hasClass_27
  · skip
    replace h := ite_n c1 h
    refine lv_iload_n hx hb dX3_hasClass_4 rfl (lv_at hl 1 rfl) ?_
    refine lv_bipush (v := 7) hx hb dX3_hasClass_5 (by decide) ?_
    refine lv_icmp_gt (tgt := 26) hx hb dX3_hasClass_7 (by decide) (fun c2 => ?_) (fun c2 => ?_)
    · skip
      replace h := ite_p c2 h
      refine lv_iconst (v := 0) hx hb dX3_hasClass_26 (by decide) ?_
      exact pez hx hb hr (is01_nar (Or.inl rfl)) hlocks hA hw hK hS ⟨Option.some.inj h, rfl, (Or.inl rfl)⟩ dX3_hasClass_27
    · skip
      replace h := ite_n c2 h
      refine lv_aload_n hx hb dX3_hasClass_10 rfl (lv_at hl 0 rfl) ?_
      refine pgI (C := RX3) (T := TX3) (N := 14) hx hb hts hown hK hw 3 11 u0 hu0 (by decide) rfl rfl inF_X3 (by decide) rfl (hts _ wm71) (fun _ h9 => h9) dX3_hasClass_11 ?_
      refine lv_iload_n hx hb dX3_hasClass_14 rfl (lv_at hl 1 rfl) ?_
      refine lv_ishr hx hb dX3_hasClass_15 ?_
      refine lv_iconst (v := 1) hx hb dX3_hasClass_16 (by decide) ?_
      refine lv_iand hx hb dX3_hasClass_17 ?_
      refine lv_iconst (v := 1) hx hb dX3_hasClass_18 (by decide) ?_
      refine lv_icmp_ne (tgt := 26) hx hb dX3_hasClass_19 (by decide) (fun c3 => ?_) (fun c3 => ?_)
      · skip
        replace h := ite_n c3 h
        refine lv_iconst (v := 0) hx hb dX3_hasClass_26 (by decide) ?_
        exact pez hx hb hr (is01_nar (Or.inl rfl)) hlocks hA hw hK hS ⟨Option.some.inj h, rfl, (Or.inl rfl)⟩ dX3_hasClass_27
      · skip
        replace h := ite_p c3 h
        refine lv_iconst (v := 1) hx hb dX3_hasClass_22 (by decide) ?_
        refine lv_goto (tgt := 27) hx hb dX3_hasClass_23 (by decide) ?_
        exact pez hx hb hr (is01_nar (Or.inr rfl)) hlocks hA hw hK hS ⟨Option.some.inj h, rfl, (Or.inr rfl)⟩ dX3_hasClass_27
def f_X3_hasWord (σ : PvS) (u0 : Nat) (x1 : Int32) : Option Int32 :=
  if (σ.2.1 3 1 u0) = 0 then (some 0) else (if x1 < 0 then (some 0) else (if (σ.2.1 3 9 u0) ≤ x1 then (some 0) else (if (nI (pvLen σ 30 u0)) ≤ x1 then (some 0) else (some 1))))
set_option maxHeartbeats 4000000 in
set_option maxRecDepth 100000 in
theorem c_X3_hasWord {l : Launch} {G : PvG} {tys : List (ClassId × FieldType)} {σ : PvS} (htys : tys = pvT G)  {u0 : Nat} {x1 : Int32} (hu0 : u0 < pvM σ 3) {r : Int32} (h : f_X3_hasWord σ u0 x1 = some r) : Met l yX3_hasWord (Cond.code yX3_hasWord cX3_hasWord 2 (some .boolean) :: WA) ({ frames := 0, cells := 0, slots := 0, locals := 0 }) (va_Pc [.ref (G.2.2.1 3 u0), .int x1] (pvU G tys σ)) (va_Qi (fun r' σ' => r' = r ∧ σ' = σ ∧ is01 r') (pvU G tys) (pvB G)) 0 0 (pvB G) := by
  refine Met.ofW (cc := cX3_hasWord) (maxL := 2) (ret := (some .boolean)) (by decide) rfl ?_
  intro p e s m args below meth c s₁ B hml hv
  obtain ⟨rfl, hw, hK, hA⟩ := hv
  have hx := B.exec
  have hb := B.bytes
  have hr := B.returns
  have hts0 := atoms_spec (ws := (Cond.code yX3_hasWord cX3_hasWord 2 (some .boolean) :: WA)) B.pre
  have hts : ∀ w ∈ WA, w.before _ s = true := fun w h => hts0 w (List.mem_cons_of_mem _ h)
  have hown : s.vm.findClass RX3 = some m.cls := findClass_of_methodNamed B.named
  have hlocks := B.notSynchronized
  have hS : va_S (pvB G) s.heap s.heap [] := va_S.rf
  have hl := lv_entry ([.ref (G.2.2.1 3 u0), .int x1]) (n := 2) (Nat.le_of_ble_eq_true rfl)
  rw [lg_entry_eq]
  generalize (lg_sl ([.ref (G.2.2.1 3 u0), .int x1]) ++ List.replicate (2 - (lg_sl ([.ref (G.2.2.1 3 u0), .int x1])).length) Slot.unset).toArray = ls at hl ⊢
  have hl : lv_has ls 2 [(0, .ref (G.2.2.1 3 u0)), (1, .int x1)] := hl
  have hroot := pv_root hw
  unfold f_X3_hasWord at h
  refine lv_aload_n hx hb dX3_hasWord_0 rfl (lv_at hl 0 rfl) ?_
  refine pgI (C := RX3) (T := TX3) (N := 14) hx hb hts hown hK hw 3 1 u0 hu0 (by decide) rfl rfl inF_X3 (by decide) rfl (hts _ wm75) (fun _ h9 => h9) dX3_hasWord_1 ?_
  refine lv_if_eq (tgt := 32) hx hb dX3_hasWord_4 (by decide) (fun c1 => ?_) (fun c1 => ?_)
  · skip
    replace h := ite_p c1 h
    refine lv_iconst (v := 0) hx hb dX3_hasWord_32 (by decide) ?_
    exact pez hx hb hr (is01_nar (Or.inl rfl)) hlocks hA hw hK hS ⟨Option.some.inj h, rfl, (Or.inl rfl)⟩ dX3_hasWord_33
  · skip
    replace h := ite_n c1 h
    refine lv_iload_n hx hb dX3_hasWord_7 rfl (lv_at hl 1 rfl) ?_
    refine lv_if_lt (tgt := 32) hx hb dX3_hasWord_8 (by decide) (fun c2 => ?_) (fun c2 => ?_)
    · skip
      replace h := ite_p c2 h
      refine lv_iconst (v := 0) hx hb dX3_hasWord_32 (by decide) ?_
      exact pez hx hb hr (is01_nar (Or.inl rfl)) hlocks hA hw hK hS ⟨Option.some.inj h, rfl, (Or.inl rfl)⟩ dX3_hasWord_33
    · skip
      replace h := ite_n c2 h
      refine lv_iload_n hx hb dX3_hasWord_11 rfl (lv_at hl 1 rfl) ?_
      refine lv_aload_n hx hb dX3_hasWord_12 rfl (lv_at hl 0 rfl) ?_
      refine pgI (C := RX3) (T := TX3) (N := 14) hx hb hts hown hK hw 3 9 u0 hu0 (by decide) rfl rfl inF_X3 (by decide) rfl (hts _ wm69) (fun _ h9 => h9) dX3_hasWord_13 ?_
      refine lv_icmp_ge (tgt := 32) hx hb dX3_hasWord_16 (by decide) (fun c3 => ?_) (fun c3 => ?_)
      · skip
        replace h := ite_p c3 h
        refine lv_iconst (v := 0) hx hb dX3_hasWord_32 (by decide) ?_
        exact pez hx hb hr (is01_nar (Or.inl rfl)) hlocks hA hw hK hS ⟨Option.some.inj h, rfl, (Or.inl rfl)⟩ dX3_hasWord_33
      · skip
        replace h := ite_n c3 h
        refine lv_iload_n hx hb dX3_hasWord_19 rfl (lv_at hl 1 rfl) ?_
        refine lv_aload_n hx hb dX3_hasWord_20 rfl (lv_at hl 0 rfl) ?_
        refine pgL (C := RX3) (T := TX3) (N := 14) hx hb hts hown hK hw 3 4 u0 hu0 (by decide) rfl rfl inF_X3 (by decide) (v := .ref (G.2.2.1 30 u0)) rfl (hts _ wm77) (fun _ h9 => h9) dX3_hasWord_21 ?_
        refine palen hx hb hK htys hw 30 u0 hu0 rfl (by decide) dX3_hasWord_24 ?_
        refine lv_icmp_ge (tgt := 32) hx hb dX3_hasWord_25 (by decide) (fun c4 => ?_) (fun c4 => ?_)
        · skip
          replace h := ite_p c4 h
          refine lv_iconst (v := 0) hx hb dX3_hasWord_32 (by decide) ?_
          exact pez hx hb hr (is01_nar (Or.inl rfl)) hlocks hA hw hK hS ⟨Option.some.inj h, rfl, (Or.inl rfl)⟩ dX3_hasWord_33
        · skip
          replace h := ite_n c4 h
          refine lv_iconst (v := 1) hx hb dX3_hasWord_28 (by decide) ?_
          refine lv_goto (tgt := 33) hx hb dX3_hasWord_29 (by decide) ?_
          exact pez hx hb hr (is01_nar (Or.inr rfl)) hlocks hA hw hK hS ⟨Option.some.inj h, rfl, (Or.inr rfl)⟩ dX3_hasWord_33
def f_X3_lettersOf (σ : PvS) (u0 : Nat) (x1 : Int32) : Option Int32 :=
  ob1 (f_X3_hasWord σ u0 x1) (fun r1 => if r1 = 0 then (some 0) else (gd (vin x1 (pvLen σ 30 u0)) (some (σ.2.2.2.1 30 u0 x1.toNatClampNeg))))
set_option maxHeartbeats 4000000 in
set_option maxRecDepth 100000 in
theorem c_X3_lettersOf {l : Launch} {G : PvG} {tys : List (ClassId × FieldType)} {σ : PvS} (htys : tys = pvT G)  {u0 : Nat} {x1 : Int32} (hu0 : u0 < pvM σ 3) {r : Int32} (h : f_X3_lettersOf σ u0 x1 = some r) : Met l yX3_lettersOf (Cond.code yX3_lettersOf cX3_lettersOf 2 (some .int) :: WA) ({ frames := 1, cells := 0, slots := 0, locals := 21 }) (va_Pc [.ref (G.2.2.1 3 u0), .int x1] (pvU G tys σ)) (va_Qi (fun r' σ' => r' = r ∧ σ' = σ) (pvU G tys) (pvB G)) 0 0 (pvB G) := by
  refine Met.ofW (cc := cX3_lettersOf) (maxL := 2) (ret := (some .int)) (by decide) rfl ?_
  intro p e s m args below meth c s₁ B hml hv
  obtain ⟨rfl, hw, hK, hA⟩ := hv
  have hx := B.exec
  have hb := B.bytes
  have hr := B.returns
  have hts0 := atoms_spec (ws := (Cond.code yX3_lettersOf cX3_lettersOf 2 (some .int) :: WA)) B.pre
  have hts : ∀ w ∈ WA, w.before _ s = true := fun w h => hts0 w (List.mem_cons_of_mem _ h)
  have hown : s.vm.findClass RX3 = some m.cls := findClass_of_methodNamed B.named
  have hlocks := B.notSynchronized
  have hS : va_S (pvB G) s.heap s.heap [] := va_S.rf
  have hl := lv_entry ([.ref (G.2.2.1 3 u0), .int x1]) (n := 2) (Nat.le_of_ble_eq_true rfl)
  rw [lg_entry_eq]
  generalize (lg_sl ([.ref (G.2.2.1 3 u0), .int x1]) ++ List.replicate (2 - (lg_sl ([.ref (G.2.2.1 3 u0), .int x1])).length) Slot.unset).toArray = ls at hl ⊢
  have hl : lv_has ls 2 [(0, .ref (G.2.2.1 3 u0)), (1, .int x1)] := hl
  have hroot := pv_root hw
  unfold f_X3_lettersOf at h
  refine lv_aload_n hx hb dX3_lettersOf_0 rfl (lv_at hl 0 rfl) ?_
  refine lv_iload_n hx hb dX3_lettersOf_1 rfl (lv_at hl 1 rfl) ?_
  obtain ⟨r1, e2, h⟩ := ob1_e h
  refine pcalli (va_runV (As := [.int x1]) (rest := []) ⟨hx, hb, hml, hown, hts⟩ (c_X3_hasWord (l := l) (G := G) (tys := tys) (σ := σ) htys hu0 e2) (cwV 1 hts (gVA wm547 wm548 wm549 wm42 wm550) rfl rfl rfl (by decide +kernel) ⟨(Nat.le_of_ble_eq_true rfl), (Nat.le_of_ble_eq_true rfl)⟩) (pv_preV hA hS hw hK 3 u0 hu0 (by decide) rfl [.int x1]) rfl rfl hl.1 rfl (lv_room (Nat.le_of_ble_eq_true rfl)) dX3_lettersOf_2 ⟨Nat.zero_le _, Nat.zero_le _⟩) hS (fun r4 s5 H locs hp3 hw hS => ?_)
  obtain ⟨err1, esr1, hzr1⟩ := hp3
  obtain rfl := esr1.symm
  obtain rfl := err1.symm
  refine lv_if_eq (tgt := 17) hx hb dX3_lettersOf_5 (by decide) (fun c6 => ?_) (fun c6 => ?_)
  · skip
    replace h := ite_p c6 h
    refine lv_iconst (v := 0) hx hb dX3_lettersOf_17 (by decide) ?_
    exact pei hx hb hr hlocks hA hw hK hS ⟨Option.some.inj h, rfl⟩ dX3_lettersOf_18
  · skip
    replace h := ite_n c6 h
    refine lv_aload_n hx hb dX3_lettersOf_8 rfl (lv_at hl 0 rfl) ?_
    refine pgL (C := RX3) (T := TX3) (N := 14) hx hb hts hown hK hw 3 4 u0 hu0 (by decide) rfl rfl inF_X3 (by decide) (v := .ref (G.2.2.1 30 u0)) rfl (hts _ wm77) (fun _ h9 => h9) dX3_lettersOf_9 ?_
    refine lv_iload_n hx hb dX3_lettersOf_12 rfl (lv_at hl 1 rfl) ?_
    obtain ⟨g7, h⟩ := gd_e h
    refine pgA hx hb hK htys hw 30 u0 hu0 rfl (by decide) g7 dX3_lettersOf_13 ?_
    refine lv_goto (tgt := 18) hx hb dX3_lettersOf_14 (by decide) ?_
    exact pei hx hb hr hlocks hA hw hK hS ⟨Option.some.inj h, rfl⟩ dX3_lettersOf_18
def f_X3_declaredOf (σ : PvS) (u0 : Nat) (x1 : Int32) : Option Int32 :=
  if x1 < 0 then (some 9998) else (if (nI (pvLen σ 31 u0)) ≤ x1 then (some 9998) else (gd (vin x1 (pvLen σ 31 u0)) (some (σ.2.2.2.1 31 u0 x1.toNatClampNeg))))
set_option maxHeartbeats 4000000 in
set_option maxRecDepth 100000 in
theorem c_X3_declaredOf {l : Launch} {G : PvG} {tys : List (ClassId × FieldType)} {σ : PvS} (htys : tys = pvT G)  {u0 : Nat} {x1 : Int32} (hu0 : u0 < pvM σ 3) {r : Int32} (h : f_X3_declaredOf σ u0 x1 = some r) : Met l yX3_declaredOf (Cond.code yX3_declaredOf cX3_declaredOf 2 (some .int) :: WA) ({ frames := 0, cells := 0, slots := 0, locals := 0 }) (va_Pc [.ref (G.2.2.1 3 u0), .int x1] (pvU G tys σ)) (va_Qi (fun r' σ' => r' = r ∧ σ' = σ) (pvU G tys) (pvB G)) 0 0 (pvB G) := by
  refine Met.ofW (cc := cX3_declaredOf) (maxL := 2) (ret := (some .int)) (by decide) rfl ?_
  intro p e s m args below meth c s₁ B hml hv
  obtain ⟨rfl, hw, hK, hA⟩ := hv
  have hx := B.exec
  have hb := B.bytes
  have hr := B.returns
  have hts0 := atoms_spec (ws := (Cond.code yX3_declaredOf cX3_declaredOf 2 (some .int) :: WA)) B.pre
  have hts : ∀ w ∈ WA, w.before _ s = true := fun w h => hts0 w (List.mem_cons_of_mem _ h)
  have hown : s.vm.findClass RX3 = some m.cls := findClass_of_methodNamed B.named
  have hlocks := B.notSynchronized
  have hS : va_S (pvB G) s.heap s.heap [] := va_S.rf
  have hl := lv_entry ([.ref (G.2.2.1 3 u0), .int x1]) (n := 2) (Nat.le_of_ble_eq_true rfl)
  rw [lg_entry_eq]
  generalize (lg_sl ([.ref (G.2.2.1 3 u0), .int x1]) ++ List.replicate (2 - (lg_sl ([.ref (G.2.2.1 3 u0), .int x1])).length) Slot.unset).toArray = ls at hl ⊢
  have hl : lv_has ls 2 [(0, .ref (G.2.2.1 3 u0)), (1, .int x1)] := hl
  have hroot := pv_root hw
  unfold f_X3_declaredOf at h
  refine lv_iload_n hx hb dX3_declaredOf_0 rfl (lv_at hl 1 rfl) ?_
  refine lv_if_lt (tgt := 22) hx hb dX3_declaredOf_1 (by decide) (fun c1 => ?_) (fun c1 => ?_)
  · skip
    replace h := ite_p c1 h
    refine lv_sipush (v := 9998) hx hb dX3_declaredOf_22 (by decide) ?_
    exact pei hx hb hr hlocks hA hw hK hS ⟨Option.some.inj h, rfl⟩ dX3_declaredOf_25
  · skip
    replace h := ite_n c1 h
    refine lv_iload_n hx hb dX3_declaredOf_4 rfl (lv_at hl 1 rfl) ?_
    refine lv_aload_n hx hb dX3_declaredOf_5 rfl (lv_at hl 0 rfl) ?_
    refine pgL (C := RX3) (T := TX3) (N := 14) hx hb hts hown hK hw 3 5 u0 hu0 (by decide) rfl rfl inF_X3 (by decide) (v := .ref (G.2.2.1 31 u0)) rfl (hts _ wm78) (fun _ h9 => h9) dX3_declaredOf_6 ?_
    refine palen hx hb hK htys hw 31 u0 hu0 rfl (by decide) dX3_declaredOf_9 ?_
    refine lv_icmp_ge (tgt := 22) hx hb dX3_declaredOf_10 (by decide) (fun c2 => ?_) (fun c2 => ?_)
    · skip
      replace h := ite_p c2 h
      refine lv_sipush (v := 9998) hx hb dX3_declaredOf_22 (by decide) ?_
      exact pei hx hb hr hlocks hA hw hK hS ⟨Option.some.inj h, rfl⟩ dX3_declaredOf_25
    · skip
      replace h := ite_n c2 h
      refine lv_aload_n hx hb dX3_declaredOf_13 rfl (lv_at hl 0 rfl) ?_
      refine pgL (C := RX3) (T := TX3) (N := 14) hx hb hts hown hK hw 3 5 u0 hu0 (by decide) rfl rfl inF_X3 (by decide) (v := .ref (G.2.2.1 31 u0)) rfl (hts _ wm78) (fun _ h9 => h9) dX3_declaredOf_14 ?_
      refine lv_iload_n hx hb dX3_declaredOf_17 rfl (lv_at hl 1 rfl) ?_
      obtain ⟨g3, h⟩ := gd_e h
      refine pgA hx hb hK htys hw 31 u0 hu0 rfl (by decide) g3 dX3_declaredOf_18 ?_
      refine lv_goto (tgt := 25) hx hb dX3_declaredOf_19 (by decide) ?_
      exact pei hx hb hr hlocks hA hw hK hS ⟨Option.some.inj h, rfl⟩ dX3_declaredOf_25
def f_X3_setDeclared (σ : PvS) (u0 : Nat) (x1 : Int32) (x2 : Int32) : Option PvS :=
  if x1 < 0 then (some σ) else (if (nI (pvLen σ 31 u0)) ≤ x1 then (some σ) else (gd (vin x1 (pvLen σ 31 u0)) (nm (pvA σ 31 u0 (x1.toNatClampNeg) x2) (fun σ4 => some σ4))))
set_option maxHeartbeats 4000000 in
set_option maxRecDepth 100000 in
theorem c_X3_setDeclared {l : Launch} {G : PvG} {tys : List (ClassId × FieldType)} {σ : PvS} (htys : tys = pvT G)  {u0 : Nat} {x1 : Int32} {x2 : Int32} (hu0 : u0 < pvM σ 3) {σ1 : PvS} (h : f_X3_setDeclared σ u0 x1 x2 = some σ1) : Met l yX3_setDeclared (Cond.code yX3_setDeclared cX3_setDeclared 3 none :: WA) ({ frames := 0, cells := 0, slots := 0, locals := 0 }) (va_Pc [.ref (G.2.2.1 3 u0), .int x1, .int x2] (pvU G tys σ)) (va_Qv (fun σ' => σ' = σ1 ∧ σ'.1 = σ.1) (pvU G tys) (pvB G)) 0 0 (pvB G) := by
  refine Met.ofW (cc := cX3_setDeclared) (maxL := 3) (ret := none) (by decide) rfl ?_
  intro p e s m args below meth c s₁ B hml hv
  obtain ⟨rfl, hw, hK, hA⟩ := hv
  have hx := B.exec
  have hb := B.bytes
  have hr := B.returns
  have hts0 := atoms_spec (ws := (Cond.code yX3_setDeclared cX3_setDeclared 3 none :: WA)) B.pre
  have hts : ∀ w ∈ WA, w.before _ s = true := fun w h => hts0 w (List.mem_cons_of_mem _ h)
  have hown : s.vm.findClass RX3 = some m.cls := findClass_of_methodNamed B.named
  have hlocks := B.notSynchronized
  have hS : va_S (pvB G) s.heap s.heap [] := va_S.rf
  have hl := lv_entry ([.ref (G.2.2.1 3 u0), .int x1, .int x2]) (n := 3) (Nat.le_of_ble_eq_true rfl)
  rw [lg_entry_eq]
  generalize (lg_sl ([.ref (G.2.2.1 3 u0), .int x1, .int x2]) ++ List.replicate (3 - (lg_sl ([.ref (G.2.2.1 3 u0), .int x1, .int x2])).length) Slot.unset).toArray = ls at hl ⊢
  have hl : lv_has ls 3 [(0, .ref (G.2.2.1 3 u0)), (1, .int x1), (2, .int x2)] := hl
  have hroot := pv_root hw
  unfold f_X3_setDeclared at h
  refine lv_iload_n hx hb dX3_setDeclared_0 rfl (lv_at hl 1 rfl) ?_
  refine lv_if_lt (tgt := 20) hx hb dX3_setDeclared_1 (by decide) (fun c1 => ?_) (fun c1 => ?_)
  · skip
    replace h := ite_p c1 h
    exact pev hx hb hr hlocks hA hw hK hS (psv h rfl) dX3_setDeclared_20
  · skip
    replace h := ite_n c1 h
    refine lv_iload_n hx hb dX3_setDeclared_4 rfl (lv_at hl 1 rfl) ?_
    refine lv_aload_n hx hb dX3_setDeclared_5 rfl (lv_at hl 0 rfl) ?_
    refine pgL (C := RX3) (T := TX3) (N := 14) hx hb hts hown hK hw 3 5 u0 hu0 (by decide) rfl rfl inF_X3 (by decide) (v := .ref (G.2.2.1 31 u0)) rfl (hts _ wm78) (fun _ h9 => h9) dX3_setDeclared_6 ?_
    refine palen hx hb hK htys hw 31 u0 hu0 rfl (by decide) dX3_setDeclared_9 ?_
    refine lv_icmp_ge (tgt := 20) hx hb dX3_setDeclared_10 (by decide) (fun c2 => ?_) (fun c2 => ?_)
    · skip
      replace h := ite_p c2 h
      exact pev hx hb hr hlocks hA hw hK hS (psv h rfl) dX3_setDeclared_20
    · skip
      replace h := ite_n c2 h
      refine lv_aload_n hx hb dX3_setDeclared_13 rfl (lv_at hl 0 rfl) ?_
      refine pgL (C := RX3) (T := TX3) (N := 14) hx hb hts hown hK hw 3 5 u0 hu0 (by decide) rfl rfl inF_X3 (by decide) (v := .ref (G.2.2.1 31 u0)) rfl (hts _ wm78) (fun _ h9 => h9) dX3_setDeclared_14 ?_
      refine lv_iload_n hx hb dX3_setDeclared_17 rfl (lv_at hl 1 rfl) ?_
      refine lv_iload_n hx hb dX3_setDeclared_18 rfl (lv_at hl 2 rfl) ?_
      obtain ⟨g3, h⟩ := gd_e h
      obtain ⟨σ4, eσ4, h⟩ := nq_e h
      refine ppA hx hb hK htys hw hS 31 u0 hu0 rfl (by decide) g3 dX3_setDeclared_19 (fun H locs hw hS => ?_)
      rw [← eσ4] at hw
      have hcσ4 : σ4.1 = σ.1 := by rw [eσ4]; exact rfl
      exact pev hx hb hr hlocks hA hw hK hS (psv h hcσ4) dX3_setDeclared_20
def f_X3_ancestors_7  (σ : PvS) : Nat → Int32 → Option Nat → Option Int32
  | 0, _, _ => none
  | n + 1, xb1, ob2 => oc ob2 (some xb1) (fun job2 => nm (σ.2.2.1 3 8 job2) (fun o1 => f_X3_ancestors_7 σ n (xb1 + 1) o1))
theorem f_X3_ancestors_7_z {σ : PvS} {xb1 : Int32} {ob2 : Option Nat} : f_X3_ancestors_7 σ 0 xb1 ob2 = none := rfl
theorem f_X3_ancestors_7_s {n : Nat} {σ : PvS} {xb1 : Int32} {ob2 : Option Nat} : f_X3_ancestors_7 σ (n + 1) xb1 ob2 = oc ob2 (some xb1) (fun job2 => nm (σ.2.2.1 3 8 job2) (fun o1 => f_X3_ancestors_7 σ n (xb1 + 1) o1)) := rfl
def f_X3_ancestors (σ : PvS) (u0 : Nat) : Option Int32 :=
  nm (σ.2.2.1 3 8 u0) (fun o2 => f_X3_ancestors_7 σ fu 0 o2)
set_option maxHeartbeats 4000000 in
set_option maxRecDepth 100000 in
theorem c_X3_ancestors {l : Launch} {G : PvG} {tys : List (ClassId × FieldType)} {σ : PvS} (htys : tys = pvT G)  {u0 : Nat} (hu0 : u0 < pvM σ 3) {r : Int32} (h : f_X3_ancestors σ u0 = some r) : Met l yX3_ancestors (Cond.code yX3_ancestors cX3_ancestors 3 (some .int) :: WA) ({ frames := 0, cells := 0, slots := 0, locals := 0 }) (va_Pc [.ref (G.2.2.1 3 u0)] (pvU G tys σ)) (va_Qi (fun r' σ' => r' = r ∧ σ' = σ) (pvU G tys) (pvB G)) 0 0 (pvB G) := by
  refine Met.ofW (cc := cX3_ancestors) (maxL := 3) (ret := (some .int)) (by decide) rfl ?_
  intro p e s m args below meth c s₁ B hml hv
  obtain ⟨rfl, hw, hK, hA⟩ := hv
  have hx := B.exec
  have hb := B.bytes
  have hr := B.returns
  have hts0 := atoms_spec (ws := (Cond.code yX3_ancestors cX3_ancestors 3 (some .int) :: WA)) B.pre
  have hts : ∀ w ∈ WA, w.before _ s = true := fun w h => hts0 w (List.mem_cons_of_mem _ h)
  have hown : s.vm.findClass RX3 = some m.cls := findClass_of_methodNamed B.named
  have hlocks := B.notSynchronized
  have hS : va_S (pvB G) s.heap s.heap [] := va_S.rf
  have hl := lv_entry ([.ref (G.2.2.1 3 u0)]) (n := 3) (Nat.le_of_ble_eq_true rfl)
  rw [lg_entry_eq]
  generalize (lg_sl ([.ref (G.2.2.1 3 u0)]) ++ List.replicate (3 - (lg_sl ([.ref (G.2.2.1 3 u0)])).length) Slot.unset).toArray = ls at hl ⊢
  have hl : lv_has ls 3 [(0, .ref (G.2.2.1 3 u0))] := hl
  have hroot := pv_root hw
  unfold f_X3_ancestors at h
  have loop7 : ∀ (n : Nat) (xb1 : Int32) (ob2 : Option Nat), (∀ j, ob2 = some j → j < pvM σ 3) → f_X3_ancestors_7 σ n xb1 ob2 = some r → ∀ (H : Heap) (locs : List Loc), pvW G σ H → va_S (pvB G) s.heap H locs → ∀ (ls : Array Slot), lv_has ls 3 [(1, .int xb1), (2, va_rf (ob2.map (G.2.2.1 3)))] → W p l e (headSpec (Cond.code yX3_ancestors cX3_ancestors 3 (some .int) :: WA) ({ frames := 0, cells := 0, slots := 0, locals := 0 } : Room)).room s m ([.ref (G.2.2.1 3 u0)] : List Value).toArray below meth c H locs 0 0 (MQ below (va_Qi (fun r' σ' => r' = r ∧ σ' = σ) (pvU G tys) (pvB G)) ([.ref (G.2.2.1 3 u0)] : List Value).toArray s 0 0 (pvB G)) (F0 m 7 ls []) := by
    intro n7
    induction n7 with
    | zero =>
      intro xb1 ob2 hob2 h
      rw [f_X3_ancestors_7_z] at h
      cases h
    | succ n7 ih7 =>
      intro xb1 ob2 hob2 h H locs hw hS ls hl
      rw [f_X3_ancestors_7_s] at h
      refine qld_n hx hb dX3_ancestors_7 rfl (lv_at hl 1 rfl) ?_
      rcases ob2 with _ | job2
      · skip
        replace h := oc_n h
        have hl : lv_has ls 3 [(1, .int xb1), (2, .null)] := hl
        refine lv_ifnullN (tgt := 22) hx hb dX3_ancestors_8 (by decide) ?_
        refine lv_iload_n hx hb dX3_ancestors_22 rfl (lv_at hl 0 rfl) ?_
        exact pei hx hb hr hlocks hA hw hK hS ⟨Option.some.inj h, rfl⟩ dX3_ancestors_23
      · skip
        replace h := oc_s h
        have hl : lv_has ls 3 [(1, .int xb1), (2, .ref (G.2.2.1 3 job2))] := hl
        have hjob2 := hob2 job2 rfl
        refine lv_ifnull hx hb dX3_ancestors_8 ?_
        refine lv_iinc (v := xb1 + 1) (lv' := [(1, .int (xb1 + 1)), (2, .ref (G.2.2.1 3 job2))]) hx hb dX3_ancestors_11 hl (k := 0) rfl (by rfl) (by decide) rfl (fun ls hl => ?_)
        refine lv_aload_n hx hb dX3_ancestors_14 rfl (lv_at hl 1 rfl) ?_
        obtain ⟨o1, eo1, h⟩ := nq_e h
        have ho1 := pv_cl hw eo1
        refine pgR (C := RX3) (T := TX3) (N := 14) hx hb hts hown hK hw 3 8 job2 hjob2 (by decide) rfl rfl inF_X3 (by decide) rfl o1 eo1 (hts _ wm68) (fun _ h9 => h9) dX3_ancestors_15 ?_
        refine qst_n (lv' := [(2, va_rf (o1.map (G.2.2.1 3))), (1, .int (xb1 + 1))]) hx hb dX3_ancestors_18 rfl hl (by decide) rfl (fun ls hl => ?_)
        refine lv_goto (tgt := 7) hx hb dX3_ancestors_19 (by decide) ?_
        exact ih7 (xb1 + 1) o1 ho1 h _ _ hw hS ls (lv_sub hl [1, 0] rfl)
  refine lv_iconst (v := 0) hx hb dX3_ancestors_0 (by decide) ?_
  refine lv_istore_n (lv' := [(1, .int 0), (0, .ref (G.2.2.1 3 u0))]) hx hb dX3_ancestors_1 rfl hl (by decide) rfl (fun ls hl => ?_)
  refine lv_aload_n hx hb dX3_ancestors_2 rfl (lv_at hl 1 rfl) ?_
  obtain ⟨o2, eo2, h⟩ := nq_e h
  have ho2 := pv_cl hw eo2
  refine pgR (C := RX3) (T := TX3) (N := 14) hx hb hts hown hK hw 3 8 u0 hu0 (by decide) rfl rfl inF_X3 (by decide) rfl o2 eo2 (hts _ wm68) (fun _ h9 => h9) dX3_ancestors_3 ?_
  refine qst_n (lv' := [(2, va_rf (o2.map (G.2.2.1 3))), (1, .int 0), (0, .ref (G.2.2.1 3 u0))]) hx hb dX3_ancestors_6 rfl hl (by decide) rfl (fun ls hl => ?_)
  exact loop7 fu 0 o2 ho2 h _ _ hw hS ls (lv_sub hl [1, 0] rfl)
def f_X3_isOrIsIn_2  (σ : PvS) : Nat → Nat → Option Nat → Option Int32
  | 0, _, _ => none
  | n + 1, ub1, ob2 => oc ob2 (some 0) (fun job2 => if job2 = ub1 then (some 1) else (nm (σ.2.2.1 3 8 job2) (fun o2 => f_X3_isOrIsIn_2 σ n ub1 o2)))
theorem f_X3_isOrIsIn_2_z {σ : PvS} {ub1 : Nat} {ob2 : Option Nat} : f_X3_isOrIsIn_2 σ 0 ub1 ob2 = none := rfl
theorem f_X3_isOrIsIn_2_s {n : Nat} {σ : PvS} {ub1 : Nat} {ob2 : Option Nat} : f_X3_isOrIsIn_2 σ (n + 1) ub1 ob2 = oc ob2 (some 0) (fun job2 => if job2 = ub1 then (some 1) else (nm (σ.2.2.1 3 8 job2) (fun o2 => f_X3_isOrIsIn_2 σ n ub1 o2))) := rfl
def f_X3_isOrIsIn (σ : PvS) (u0 : Nat) (u1 : Nat) : Option Int32 :=
  f_X3_isOrIsIn_2 σ fu u1 (some u0)
set_option maxHeartbeats 4000000 in
set_option maxRecDepth 100000 in
theorem c_X3_isOrIsIn {l : Launch} {G : PvG} {tys : List (ClassId × FieldType)} {σ : PvS} (htys : tys = pvT G)  {u0 : Nat} {u1 : Nat} (hu0 : u0 < pvM σ 3) (hu1 : u1 < pvM σ 3) {r : Int32} (h : f_X3_isOrIsIn σ u0 u1 = some r) : Met l yX3_isOrIsIn (Cond.code yX3_isOrIsIn cX3_isOrIsIn 3 (some .boolean) :: WA) ({ frames := 0, cells := 0, slots := 0, locals := 0 }) (va_Pc [.ref (G.2.2.1 3 u0), .ref (G.2.2.1 3 u1)] (pvU G tys σ)) (va_Qi (fun r' σ' => r' = r ∧ σ' = σ ∧ is01 r') (pvU G tys) (pvB G)) 0 0 (pvB G) := by
  refine Met.ofW (cc := cX3_isOrIsIn) (maxL := 3) (ret := (some .boolean)) (by decide) rfl ?_
  intro p e s m args below meth c s₁ B hml hv
  obtain ⟨rfl, hw, hK, hA⟩ := hv
  have hx := B.exec
  have hb := B.bytes
  have hr := B.returns
  have hts0 := atoms_spec (ws := (Cond.code yX3_isOrIsIn cX3_isOrIsIn 3 (some .boolean) :: WA)) B.pre
  have hts : ∀ w ∈ WA, w.before _ s = true := fun w h => hts0 w (List.mem_cons_of_mem _ h)
  have hown : s.vm.findClass RX3 = some m.cls := findClass_of_methodNamed B.named
  have hlocks := B.notSynchronized
  have hS : va_S (pvB G) s.heap s.heap [] := va_S.rf
  have hl := lv_entry ([.ref (G.2.2.1 3 u0), .ref (G.2.2.1 3 u1)]) (n := 3) (Nat.le_of_ble_eq_true rfl)
  rw [lg_entry_eq]
  generalize (lg_sl ([.ref (G.2.2.1 3 u0), .ref (G.2.2.1 3 u1)]) ++ List.replicate (3 - (lg_sl ([.ref (G.2.2.1 3 u0), .ref (G.2.2.1 3 u1)])).length) Slot.unset).toArray = ls at hl ⊢
  have hl : lv_has ls 3 [(0, .ref (G.2.2.1 3 u0)), (1, .ref (G.2.2.1 3 u1))] := hl
  have hroot := pv_root hw
  unfold f_X3_isOrIsIn at h
  have loop2 : ∀ (n : Nat) (ub1 : Nat) (ob2 : Option Nat), (ub1 < pvM σ 3) → (∀ j, ob2 = some j → j < pvM σ 3) → f_X3_isOrIsIn_2 σ n ub1 ob2 = some r → ∀ (H : Heap) (locs : List Loc), pvW G σ H → va_S (pvB G) s.heap H locs → ∀ (ls : Array Slot), lv_has ls 3 [(1, .ref (G.2.2.1 3 ub1)), (2, va_rf (ob2.map (G.2.2.1 3)))] → W p l e (headSpec (Cond.code yX3_isOrIsIn cX3_isOrIsIn 3 (some .boolean) :: WA) ({ frames := 0, cells := 0, slots := 0, locals := 0 } : Room)).room s m ([.ref (G.2.2.1 3 u0), .ref (G.2.2.1 3 u1)] : List Value).toArray below meth c H locs 0 0 (MQ below (va_Qi (fun r' σ' => r' = r ∧ σ' = σ ∧ is01 r') (pvU G tys) (pvB G)) ([.ref (G.2.2.1 3 u0), .ref (G.2.2.1 3 u1)] : List Value).toArray s 0 0 (pvB G)) (F0 m 2 ls []) := by
    intro n2
    induction n2 with
    | zero =>
      intro ub1 ob2 hub1 hob2 h
      rw [f_X3_isOrIsIn_2_z] at h
      cases h
    | succ n2 ih2 =>
      intro ub1 ob2 hub1 hob2 h H locs hw hS ls hl
      rw [f_X3_isOrIsIn_2_s] at h
      refine qld_n hx hb dX3_isOrIsIn_2 rfl (lv_at hl 1 rfl) ?_
      rcases ob2 with _ | job2
      · skip
        replace h := oc_n h
        have hl : lv_has ls 3 [(1, .ref (G.2.2.1 3 ub1)), (2, .null)] := hl
        refine lv_ifnullN (tgt := 21) hx hb dX3_isOrIsIn_3 (by decide) ?_
        refine lv_iconst (v := 0) hx hb dX3_isOrIsIn_21 (by decide) ?_
        exact pez hx hb hr (is01_nar (Or.inl rfl)) hlocks hA hw hK hS ⟨Option.some.inj h, rfl, (Or.inl rfl)⟩ dX3_isOrIsIn_22
      · skip
        replace h := oc_s h
        have hl : lv_has ls 3 [(1, .ref (G.2.2.1 3 ub1)), (2, .ref (G.2.2.1 3 job2))] := hl
        have hjob2 := hob2 job2 rfl
        refine lv_ifnull hx hb dX3_isOrIsIn_3 ?_
        refine lv_aload_n hx hb dX3_isOrIsIn_6 rfl (lv_at hl 1 rfl) ?_
        refine lv_aload_n hx hb dX3_isOrIsIn_7 rfl (lv_at hl 0 rfl) ?_
        refine pacmp_ne (tgt := 13) hx hb hw 3 job2 ub1 hjob2 hub1 dX3_isOrIsIn_8 (by decide) (fun c1 => ?_) (fun c1 => ?_)
        · skip
          replace h := ite_n c1 h
          refine lv_aload_n hx hb dX3_isOrIsIn_13 rfl (lv_at hl 1 rfl) ?_
          obtain ⟨o2, eo2, h⟩ := nq_e h
          have ho2 := pv_cl hw eo2
          refine pgR (C := RX3) (T := TX3) (N := 14) hx hb hts hown hK hw 3 8 job2 hjob2 (by decide) rfl rfl inF_X3 (by decide) rfl o2 eo2 (hts _ wm68) (fun _ h9 => h9) dX3_isOrIsIn_14 ?_
          refine qst_n (lv' := [(2, va_rf (o2.map (G.2.2.1 3))), (1, .ref (G.2.2.1 3 ub1))]) hx hb dX3_isOrIsIn_17 rfl hl (by decide) rfl (fun ls hl => ?_)
          refine lv_goto (tgt := 2) hx hb dX3_isOrIsIn_18 (by decide) ?_
          exact ih2 ub1 o2 hub1 ho2 h _ _ hw hS ls (lv_sub hl [1, 0] rfl)
        · skip
          replace h := ite_p c1 h
          refine lv_iconst (v := 1) hx hb dX3_isOrIsIn_11 (by decide) ?_
          exact pez hx hb hr (is01_nar (Or.inr rfl)) hlocks hA hw hK hS ⟨Option.some.inj h, rfl, (Or.inr rfl)⟩ dX3_isOrIsIn_12
  refine lv_aload_n hx hb dX3_isOrIsIn_0 rfl (lv_at hl 0 rfl) ?_
  refine lv_astore_n (lv' := [(2, .ref (G.2.2.1 3 u0)), (0, .ref (G.2.2.1 3 u0)), (1, .ref (G.2.2.1 3 u1))]) hx hb dX3_isOrIsIn_1 rfl hl (by decide) rfl (fun ls hl => ?_)
  exact loop2 fu u1 (some u0) hu1 (fun _ z => by cases z; exact hu0) h _ _ hw hS ls (lv_sub hl [2, 0] rfl)
def f_X3_placeAmongSiblings_9  (σ : PvS) : Nat → Nat → Int32 → Option Int32
  | 0, _, _ => none
  | n + 1, ub0, xb1 => nm (σ.2.2.1 3 8 ub0) (fun o1 => oc o1 none (fun jo1 => if (nI (σ.2.2.2.2 (jo1 + 3)).length) ≤ xb1 then (some (-1)) else (nm (σ.2.2.1 3 8 ub0) (fun o4 => oc o4 none (fun jo4 => gd (vin xb1 (σ.2.2.2.2 (jo4 + 3)).length) (nm ((σ.2.2.2.2 (jo4 + 3)).getD xb1.toNatClampNeg 0) (fun y6 => if y6 = ub0 then (some xb1) else (f_X3_placeAmongSiblings_9 σ n ub0 (xb1 + 1)))))))))
theorem f_X3_placeAmongSiblings_9_z {σ : PvS} {ub0 : Nat} {xb1 : Int32} : f_X3_placeAmongSiblings_9 σ 0 ub0 xb1 = none := rfl
theorem f_X3_placeAmongSiblings_9_s {n : Nat} {σ : PvS} {ub0 : Nat} {xb1 : Int32} : f_X3_placeAmongSiblings_9 σ (n + 1) ub0 xb1 = nm (σ.2.2.1 3 8 ub0) (fun o1 => oc o1 none (fun jo1 => if (nI (σ.2.2.2.2 (jo1 + 3)).length) ≤ xb1 then (some (-1)) else (nm (σ.2.2.1 3 8 ub0) (fun o4 => oc o4 none (fun jo4 => gd (vin xb1 (σ.2.2.2.2 (jo4 + 3)).length) (nm ((σ.2.2.2.2 (jo4 + 3)).getD xb1.toNatClampNeg 0) (fun y6 => if y6 = ub0 then (some xb1) else (f_X3_placeAmongSiblings_9 σ n ub0 (xb1 + 1))))))))) := rfl
def f_X3_placeAmongSiblings (σ : PvS) (u0 : Nat) : Option Int32 :=
  nm (σ.2.2.1 3 8 u0) (fun o8 => oc o8 (some (-1)) (fun jo8 => f_X3_placeAmongSiblings_9 σ fu u0 0))
set_option maxHeartbeats 4000000 in
set_option maxRecDepth 100000 in
theorem c_X3_placeAmongSiblings {l : Launch} {G : PvG} {tys : List (ClassId × FieldType)} {σ : PvS} (htys : tys = pvT G)  {u0 : Nat} (hu0 : u0 < pvM σ 3) {r : Int32} (h : f_X3_placeAmongSiblings σ u0 = some r) : Met l yX3_placeAmongSiblings (Cond.code yX3_placeAmongSiblings cX3_placeAmongSiblings 2 (some .int) :: WA) ({ frames := 3, cells := 0, slots := 0, locals := 64 }) (va_Pc [.ref (G.2.2.1 3 u0)] (pvU G tys σ)) (va_Qi (fun r' σ' => r' = r ∧ σ' = σ) (pvU G tys) (pvB G)) 0 0 (pvB G) := by
  refine Met.ofW (cc := cX3_placeAmongSiblings) (maxL := 2) (ret := (some .int)) (by decide) rfl ?_
  intro p e s m args below meth c s₁ B hml hv
  obtain ⟨rfl, hw, hK, hA⟩ := hv
  have hx := B.exec
  have hb := B.bytes
  have hr := B.returns
  have hts0 := atoms_spec (ws := (Cond.code yX3_placeAmongSiblings cX3_placeAmongSiblings 2 (some .int) :: WA)) B.pre
  have hts : ∀ w ∈ WA, w.before _ s = true := fun w h => hts0 w (List.mem_cons_of_mem _ h)
  have hown : s.vm.findClass RX3 = some m.cls := findClass_of_methodNamed B.named
  have hlocks := B.notSynchronized
  have hS : va_S (pvB G) s.heap s.heap [] := va_S.rf
  have hl := lv_entry ([.ref (G.2.2.1 3 u0)]) (n := 2) (Nat.le_of_ble_eq_true rfl)
  rw [lg_entry_eq]
  generalize (lg_sl ([.ref (G.2.2.1 3 u0)]) ++ List.replicate (2 - (lg_sl ([.ref (G.2.2.1 3 u0)])).length) Slot.unset).toArray = ls at hl ⊢
  have hl : lv_has ls 2 [(0, .ref (G.2.2.1 3 u0))] := hl
  have hroot := pv_root hw
  unfold f_X3_placeAmongSiblings at h
  have loop9 : ∀ (n : Nat) (ub0 : Nat) (xb1 : Int32), (ub0 < pvM σ 3) → f_X3_placeAmongSiblings_9 σ n ub0 xb1 = some r → ∀ (H : Heap) (locs : List Loc), pvW G σ H → va_S (pvB G) s.heap H locs → ∀ (ls : Array Slot), lv_has ls 2 [(0, .ref (G.2.2.1 3 ub0)), (1, .int xb1)] → W p l e (headSpec (Cond.code yX3_placeAmongSiblings cX3_placeAmongSiblings 2 (some .int) :: WA) ({ frames := 3, cells := 0, slots := 0, locals := 64 } : Room)).room s m ([.ref (G.2.2.1 3 u0)] : List Value).toArray below meth c H locs 0 0 (MQ below (va_Qi (fun r' σ' => r' = r ∧ σ' = σ) (pvU G tys) (pvB G)) ([.ref (G.2.2.1 3 u0)] : List Value).toArray s 0 0 (pvB G)) (F0 m 9 ls []) := by
    intro n9
    induction n9 with
    | zero =>
      intro ub0 xb1 hub0 h
      rw [f_X3_placeAmongSiblings_9_z] at h
      cases h
    | succ n9 ih9 =>
      intro ub0 xb1 hub0 h H locs hw hS ls hl
      rw [f_X3_placeAmongSiblings_9_s] at h
      refine lv_iload_n hx hb dX3_placeAmongSiblings_9 rfl (lv_at hl 1 rfl) ?_
      refine lv_aload_n hx hb dX3_placeAmongSiblings_10 rfl (lv_at hl 0 rfl) ?_
      obtain ⟨o1, eo1, h⟩ := nq_e h
      have ho1 := pv_cl hw eo1
      refine pgR (C := RX3) (T := TX3) (N := 14) hx hb hts hown hK hw 3 8 ub0 hub0 (by decide) rfl rfl inF_X3 (by decide) rfl o1 eo1 (hts _ wm68) (fun _ h9 => h9) dX3_placeAmongSiblings_11 ?_
      rcases o1 with _ | jo1
      · cases (oc_n h)
      replace h := oc_s h
      have hjo1 := ho1 jo1 rfl
      refine pgL (C := RX3) (T := TX3) (N := 14) hx hb hts hown hK hw 3 3 jo1 hjo1 (by decide) rfl rfl inF_X3 (by decide) (v := .ref (G.2.2.1 10 (jo1 + 3))) rfl (hts _ wm63) (fun _ h9 => h9) dX3_placeAmongSiblings_14 ?_
      refine pcalli (va_runV (As := []) (rest := [.int xb1]) ⟨hx, hb, hml, hown, hts⟩ (c_lsize (l := l) (G := G) (tys := tys) (σ := σ) (j := jo1 + 3) (show jo1 + 3 < σ.1 0 + 3 from Nat.add_lt_add_right hjo1 3)) (cwV 0 hts (gVA wm876 wm251 wm252 wm13 wm253) rfl rfl rfl (by decide +kernel) ⟨(Nat.le_of_ble_eq_true rfl), (Nat.le_of_ble_eq_true rfl)⟩) (pl_preV hA hS hw hK (jo1 + 3) (show jo1 + 3 < σ.1 0 + 3 from Nat.add_lt_add_right hjo1 3) []) rfl rfl hl.1 rfl (lv_room (Nat.le_of_ble_eq_true rfl)) dX3_placeAmongSiblings_17 ⟨Nat.zero_le _, Nat.zero_le _⟩) hS (fun rz2 sz2 H locs hpz2 hw hS => ?_)
      obtain ⟨rfl, ez2⟩ := hpz2
      obtain rfl := ez2.symm
      refine lv_icmp_ge (tgt := 46) hx hb dX3_placeAmongSiblings_20 (by decide) (fun c3 => ?_) (fun c3 => ?_)
      · skip
        replace h := ite_p c3 h
        refine lv_iconst (v := (-1)) hx hb dX3_placeAmongSiblings_46 (by decide) ?_
        exact pei hx hb hr hlocks hA hw hK hS ⟨Option.some.inj h, rfl⟩ dX3_placeAmongSiblings_47
      · skip
        replace h := ite_n c3 h
        refine lv_aload_n hx hb dX3_placeAmongSiblings_23 rfl (lv_at hl 0 rfl) ?_
        obtain ⟨o4, eo4, h⟩ := nq_e h
        have ho4 := pv_cl hw eo4
        refine pgR (C := RX3) (T := TX3) (N := 14) hx hb hts hown hK hw 3 8 ub0 hub0 (by decide) rfl rfl inF_X3 (by decide) rfl o4 eo4 (hts _ wm68) (fun _ h9 => h9) dX3_placeAmongSiblings_24 ?_
        rcases o4 with _ | jo4
        · cases (oc_n h)
        replace h := oc_s h
        have hjo4 := ho4 jo4 rfl
        refine pgL (C := RX3) (T := TX3) (N := 14) hx hb hts hown hK hw 3 3 jo4 hjo4 (by decide) rfl rfl inF_X3 (by decide) (v := .ref (G.2.2.1 10 (jo4 + 3))) rfl (hts _ wm63) (fun _ h9 => h9) dX3_placeAmongSiblings_27 ?_
        refine lv_iload_n hx hb dX3_placeAmongSiblings_30 rfl (lv_at hl 1 rfl) ?_
        obtain ⟨g5, h⟩ := gd_e h
        obtain ⟨y6, ey6, h⟩ := nq_e h
        refine pcallg (κ := 3) (pvK_c _) (va_runV (As := [.int xb1]) (rest := []) ⟨hx, hb, hml, hown, hts⟩ (c_lgetI (l := l) (G := G) (tys := tys) (σ := σ) htys (j := jo4 + 3) (show jo4 + 3 < σ.1 0 + 3 from Nat.add_lt_add_right hjo4 3) g5 (pl_len2 hw (jo4 + 3) (show jo4 + 3 < σ.1 0 + 3 from Nat.add_lt_add_right hjo4 3))) (cwV 1 hts (gVA wm877 wm255 wm256 wm13 wm257) rfl rfl rfl (by decide +kernel) ⟨(Nat.le_of_ble_eq_true rfl), (Nat.le_of_ble_eq_true rfl)⟩) (pl_preV hA hS hw hK (jo4 + 3) (show jo4 + 3 < σ.1 0 + 3 from Nat.add_lt_add_right hjo4 3) [.int xb1]) rfl rfl hl.1 rfl (lv_room (Nat.le_of_ble_eq_true rfl)) dX3_placeAmongSiblings_31 ⟨Nat.zero_le _, Nat.zero_le _⟩) hS (fun zy6 ezy6 H locs hw hS => ?_)
        obtain rfl : y6 = zy6 := ey6.trans ezy6.symm
        have hy6 : y6 < pvM σ 3 := by rw [ey6]; exact pl_lt hw (jo4 + 3) (show jo4 + 3 < σ.1 0 + 3 from Nat.add_lt_add_right hjo4 3) _ (Nat.not_le.mp fun q => g5 (Or.inr q)) (pvK_c _)
        refine lv_aload_n hx hb dX3_placeAmongSiblings_34 rfl (lv_at hl 0 rfl) ?_
        refine pacmp_ne (tgt := 40) hx hb hw 3 y6 ub0 hy6 hub0 dX3_placeAmongSiblings_35 (by decide) (fun c7 => ?_) (fun c7 => ?_)
        · skip
          replace h := ite_n c7 h
          refine lv_iinc (v := xb1 + 1) (lv' := [(1, .int (xb1 + 1)), (0, .ref (G.2.2.1 3 ub0))]) hx hb dX3_placeAmongSiblings_40 hl (k := 1) rfl (by rfl) (by decide) rfl (fun ls hl => ?_)
          refine lv_goto (tgt := 9) hx hb dX3_placeAmongSiblings_43 (by decide) ?_
          exact ih9 ub0 (xb1 + 1) hub0 h _ _ hw hS ls (lv_sub hl [1, 0] rfl)
        · skip
          replace h := ite_p c7 h
          refine lv_iload_n hx hb dX3_placeAmongSiblings_38 rfl (lv_at hl 1 rfl) ?_
          exact pei hx hb hr hlocks hA hw hK hS ⟨Option.some.inj h, rfl⟩ dX3_placeAmongSiblings_39
  refine lv_aload_n hx hb dX3_placeAmongSiblings_0 rfl (lv_at hl 0 rfl) ?_
  obtain ⟨o8, eo8, h⟩ := nq_e h
  have ho8 := pv_cl hw eo8
  refine pgR (C := RX3) (T := TX3) (N := 14) hx hb hts hown hK hw 3 8 u0 hu0 (by decide) rfl rfl inF_X3 (by decide) rfl o8 eo8 (hts _ wm68) (fun _ h9 => h9) dX3_placeAmongSiblings_1 ?_
  rcases o8 with _ | jo8
  · skip
    replace h := oc_n h
    refine lv_ifnullN (tgt := 46) hx hb dX3_placeAmongSiblings_4 (by decide) ?_
    refine lv_iconst (v := (-1)) hx hb dX3_placeAmongSiblings_46 (by decide) ?_
    exact pei hx hb hr hlocks hA hw hK hS ⟨Option.some.inj h, rfl⟩ dX3_placeAmongSiblings_47
  · skip
    replace h := oc_s h
    have hjo8 := ho8 jo8 rfl
    refine lv_ifnull hx hb dX3_placeAmongSiblings_4 ?_
    refine lv_iconst (v := 0) hx hb dX3_placeAmongSiblings_7 (by decide) ?_
    refine lv_istore_n (lv' := [(1, .int 0), (0, .ref (G.2.2.1 3 u0))]) hx hb dX3_placeAmongSiblings_8 rfl hl (by decide) rfl (fun ls hl => ?_)
    exact loop9 fu u0 0 hu0 h _ _ hw hS ls (lv_sub hl [1, 0] rfl)
