def f_X9_addElement (σ : PvS) (x1 : Int32) (x2 : Int32) : Option (Int32 × PvS) :=
  ob1 (f_X9_nodeAt σ x1) (fun r1 => if (σ.2.1 3 1 r1) = 0 then (if x2 < 0 then (none) else (if x2 ≤ 7 then (ob1 (f_X7_hasRoomIn σ r1) (fun r9 => if r9 = 0 then (none) else (ob1 (f_X9_forgetWhatWasWorkedOut σ) (fun σ16 => ob2 (f_X7_append σ16 r1 0 x2) (fun r21 σ22 => some (r21, σ22)))))) else (none))) else (none))
set_option maxHeartbeats 4000000 in
set_option maxRecDepth 100000 in
theorem c_X9_addElement {l : Launch} {G : PvG} {tys : List (ClassId × FieldType)} {σ : PvS} (htys : tys = pvT G)  {x1 : Int32} {x2 : Int32}  {r : Int32} {σ1 : PvS} (h : f_X9_addElement σ x1 x2 = some (r, σ1)) : Met l yX9_addElement (Cond.code yX9_addElement cX9_addElement 4 (some .int) :: WA) ({ frames := 27, cells := 74, slots := 6434, locals := 624 }) (va_Pc [.ref (G.2.2.1 9 0), .int x1, .int x2] (pvU G tys σ)) (va_Qi (fun r' (u : (Nat → Nat → Nat) × PvS) => r' = r ∧ u.2 = σ1 ∧ pvGr G.2.2.1 u.1 σ u.2) (pvUa G tys) (pvB G)) 74 6434 (pvB G) := by
  refine Met.ofW (cc := cX9_addElement) (maxL := 4) (ret := (some .int)) (by decide) rfl ?_
  intro p e s m args below meth c s₁ B hml hv
  obtain ⟨rfl, hw, hK, hA⟩ := hv
  have hx := B.exec
  have hb := B.bytes
  have hr := B.returns
  have hts0 := atoms_spec (ws := (Cond.code yX9_addElement cX9_addElement 4 (some .int) :: WA)) B.pre
  have hts : ∀ w ∈ WA, w.before _ s = true := fun w h => hts0 w (List.mem_cons_of_mem _ h)
  have hown : s.vm.findClass RX9 = some m.cls := findClass_of_methodNamed B.named
  have hlocks := B.notSynchronized
  have hS : va_S (pvB G) s.heap s.heap [] := va_S.rf
  have hl := lv_entry ([.ref (G.2.2.1 9 0), .int x1, .int x2]) (n := 4) (Nat.le_of_ble_eq_true rfl)
  rw [lg_entry_eq]
  generalize (lg_sl ([.ref (G.2.2.1 9 0), .int x1, .int x2]) ++ List.replicate (4 - (lg_sl ([.ref (G.2.2.1 9 0), .int x1, .int x2])).length) Slot.unset).toArray = ls at hl ⊢
  have hl : lv_has ls 4 [(0, .ref (G.2.2.1 9 0)), (1, .int x1), (2, .int x2)] := hl
  have hroot := pv_root hw
  unfold f_X9_addElement at h
  refine lv_aload_n hx hb dX9_addElement_0 rfl (lv_at hl 0 rfl) ?_
  refine lv_iload_n hx hb dX9_addElement_1 rfl (lv_at hl 1 rfl) ?_
  obtain ⟨r1, e2, h⟩ := ob1_e h
  refine pcallq (va_runV (As := [.int x1]) (rest := []) ⟨hx, hb, hml, hown, hts⟩ (c_X9_nodeAt (l := l) (G := G) (tys := tys) (σ := σ) htys  e2) (cwV 1 hts (gVA wm236 wm237 wm238 wm2 wm239) rfl rfl rfl (by decide +kernel) ⟨(Nat.le_of_ble_eq_true rfl), (Nat.le_of_ble_eq_true rfl)⟩) (pv_preV hA hS hw hK 9 0 Nat.one_pos (by decide) rfl [.int x1]) rfl rfl hl.1 rfl (lv_room (Nat.le_of_ble_eq_true rfl)) dX9_addElement_2 ⟨Nat.zero_le _, Nat.zero_le _⟩) hS (fun r4 s5 H locs hp3 hw hS => ?_)
  obtain ⟨err1, esr1, hzr1⟩ := hp3
  obtain rfl := esr1.symm
  subst err1
  refine lv_astore_n (lv' := [(3, .ref (G.2.2.1 3 r1)), (0, .ref (G.2.2.1 9 0)), (1, .int x1), (2, .int x2)]) hx hb dX9_addElement_5 rfl hl (by decide) rfl (fun ls hl => ?_)
  refine lv_aload_n hx hb dX9_addElement_6 rfl (lv_at hl 0 rfl) ?_
  refine pgI (C := RX3) (T := TX3) (N := 14) hx hb hts hown hK hw 3 1 r1 hzr1 (by decide) rfl rfl inF_X3 (by decide) rfl (hts _ wm235) (fun _ h9 => h9) dX9_addElement_7 ?_
  refine lv_if_ne (tgt := 23) hx hb dX9_addElement_10 (by decide) (fun c6 => ?_) (fun c6 => ?_)
  · skip
    replace h := ite_n c6 h
    cases h
  · skip
    replace h := ite_p c6 h
    refine lv_iload_n hx hb dX9_addElement_13 rfl (lv_at hl 3 rfl) ?_
    refine lv_if_lt (tgt := 23) hx hb dX9_addElement_14 (by decide) (fun c7 => ?_) (fun c7 => ?_)
    · skip
      replace h := ite_p c7 h
      cases h
    · skip
      replace h := ite_n c7 h
      refine lv_iload_n hx hb dX9_addElement_17 rfl (lv_at hl 3 rfl) ?_
      refine lv_bipush (v := 7) hx hb dX9_addElement_18 (by decide) ?_
      refine lv_icmp_le (tgt := 33) hx hb dX9_addElement_20 (by decide) (fun c8 => ?_) (fun c8 => ?_)
      · skip
        replace h := ite_p c8 h
        refine lv_aload_n hx hb dX9_addElement_33 rfl (lv_at hl 1 rfl) ?_
        refine pgL (C := RX9) (T := TX9) (N := 6) hx hb hts hown hK hw 9 0 0 Nat.one_pos (by decide) rfl rfl inF_X9 (by decide) (v := .ref (G.2.2.1 7 0)) rfl (hts _ wm10) (fun _ h9 => h9) dX9_addElement_34 ?_
        refine lv_aload_n hx hb dX9_addElement_37 rfl (lv_at hl 0 rfl) ?_
        obtain ⟨r9, e10, h⟩ := ob1_e h
        refine pcalli (va_runV (As := [.ref (G.2.2.1 3 r1)]) (rest := []) ⟨hx, hb, hml, hown, hts⟩ (c_X7_hasRoomIn (l := l) (G := G) (tys := tys) (σ := σ) htys hzr1 e10) (cwV 1 hts (gVA wm271 wm272 wm273 wm28 wm274) rfl rfl rfl (by decide +kernel) ⟨(Nat.le_of_ble_eq_true rfl), (Nat.le_of_ble_eq_true rfl)⟩) (pv_preV hA hS hw hK 7 0 Nat.one_pos (by decide) rfl [.ref (G.2.2.1 3 r1)]) rfl rfl hl.1 rfl (lv_room (Nat.le_of_ble_eq_true rfl)) dX9_addElement_38 ⟨Nat.zero_le _, Nat.zero_le _⟩) hS (fun r12 s13 H locs hp11 hw hS => ?_)
        obtain ⟨err9, esr9, hzr9⟩ := hp11
        obtain rfl := esr9.symm
        obtain rfl := err9.symm
        refine lv_if_ne (tgt := 54) hx hb dX9_addElement_41 (by decide) (fun c14 => ?_) (fun c14 => ?_)
        · skip
          replace h := ite_n c14 h
          refine lv_aload_n hx hb dX9_addElement_54 rfl (lv_at hl 1 rfl) ?_
          obtain ⟨σ16, e17, h⟩ := ob1_e h
          refine pcallv (va_runV (As := []) (rest := []) ⟨hx, hb, hml, hown, hts⟩ (c_X9_forgetWhatWasWorkedOut (l := l) (G := G) (tys := tys) (σ := σ) htys  e17) (cwV 0 hts (gVA wm279 wm280 wm281 wm2 wm282) rfl rfl rfl (by decide +kernel) ⟨(Nat.le_of_ble_eq_true rfl), (Nat.le_of_ble_eq_true rfl)⟩) (pv_preV hA hS hw hK 9 0 Nat.one_pos (by decide) rfl []) rfl rfl hl.1 rfl (lv_room (Nat.le_of_ble_eq_true rfl)) dX9_addElement_55 ⟨Nat.zero_le _, Nat.zero_le _⟩) hS (fun s20 H locs hp18 hw hS => ?_)
          obtain ⟨esσ16, hdσ16⟩ := hp18
          obtain rfl := esσ16.symm
          have hcσ16 : σ16.1 = σ.1 := hdσ16
          refine lv_aload_n hx hb dX9_addElement_58 rfl (lv_at hl 1 rfl) ?_
          refine pgL (C := RX9) (T := TX9) (N := 6) hx hb hts hown hK hw 9 0 0 Nat.one_pos (by decide) rfl rfl inF_X9 (by decide) (v := .ref (G.2.2.1 7 0)) rfl (hts _ wm10) (fun _ h9 => h9) dX9_addElement_59 ?_
          refine lv_aload_n hx hb dX9_addElement_62 rfl (lv_at hl 0 rfl) ?_
          refine lv_iconst (v := 0) hx hb dX9_addElement_63 (by decide) ?_
          refine lv_iload_n hx hb dX9_addElement_64 rfl (lv_at hl 3 rfl) ?_
          obtain ⟨r21, σ22, e23, h⟩ := ob2_e h
          refine pcallai (G := G) (va_runV (As := [.ref (G.2.2.1 3 r1), .int 0, .int x2]) (rest := []) ⟨hx, hb, hml, hown, hts⟩ (c_X7_append (l := l) (G := G) (tys := tys) (σ := σ16) htys (lt_c hcσ16 3 hzr1) e23) (cwV 3 hts (gVA wm285 wm286 wm287 wm28 wm288) rfl rfl rfl (by decide +kernel) ⟨(Nat.le_of_ble_eq_true rfl), (Nat.le_of_ble_eq_true rfl)⟩) (pv_preV hA hS hw hK 7 0 Nat.one_pos (by decide) rfl [.ref (G.2.2.1 3 r1), .int 0, .int x2]) rfl rfl hl.1 rfl (lv_room (Nat.le_of_ble_eq_true rfl)) dX9_addElement_65 ⟨Nat.le_of_ble_eq_true rfl, Nat.le_of_ble_eq_true rfl⟩) hS (fun r25 ad27 s26 H locs hp24 hw hS => ?_)
          obtain ⟨err21, esσ22, hgσ22⟩ := hp24
          have esσ22 : s26 = σ22 := esσ22
          obtain rfl := esσ22.symm
          obtain rfl := err21.symm
          refine W.widen (k := 74) (n := 6434) (Nat.le_of_ble_eq_true rfl) (Nat.le_of_ble_eq_true rfl) ?_
          cases h
          exact peai (G := G) hx hb hr hlocks hA hw hK hS ⟨rfl, rfl, pvGr_c hcσ16 hgσ22⟩ dX9_addElement_68
        · skip
          replace h := ite_p c14 h
          cases h
      · skip
        replace h := ite_n c8 h
        cases h
def f_X9_addText (σ : PvS) (x1 : Int32) : Option (Int32 × PvS) :=
  ob1 (f_X9_nodeAt σ x1) (fun r1 => if (σ.2.1 3 1 r1) = 0 then (ob1 (f_X7_hasRoomIn σ r1) (fun r7 => if r7 = 0 then (none) else (ob1 (f_X9_forgetWhatWasWorkedOut σ) (fun σ14 => ob2 (f_X7_append σ14 r1 1 0) (fun r19 σ20 => some (r19, σ20)))))) else (none))
set_option maxHeartbeats 4000000 in
set_option maxRecDepth 100000 in
theorem c_X9_addText {l : Launch} {G : PvG} {tys : List (ClassId × FieldType)} {σ : PvS} (htys : tys = pvT G)  {x1 : Int32}  {r : Int32} {σ1 : PvS} (h : f_X9_addText σ x1 = some (r, σ1)) : Met l yX9_addText (Cond.code yX9_addText cX9_addText 3 (some .int) :: WA) ({ frames := 27, cells := 74, slots := 6434, locals := 624 }) (va_Pc [.ref (G.2.2.1 9 0), .int x1] (pvU G tys σ)) (va_Qi (fun r' (u : (Nat → Nat → Nat) × PvS) => r' = r ∧ u.2 = σ1 ∧ pvGr G.2.2.1 u.1 σ u.2) (pvUa G tys) (pvB G)) 74 6434 (pvB G) := by
  refine Met.ofW (cc := cX9_addText) (maxL := 3) (ret := (some .int)) (by decide) rfl ?_
  intro p e s m args below meth c s₁ B hml hv
  obtain ⟨rfl, hw, hK, hA⟩ := hv
  have hx := B.exec
  have hb := B.bytes
  have hr := B.returns
  have hts0 := atoms_spec (ws := (Cond.code yX9_addText cX9_addText 3 (some .int) :: WA)) B.pre
  have hts : ∀ w ∈ WA, w.before _ s = true := fun w h => hts0 w (List.mem_cons_of_mem _ h)
  have hown : s.vm.findClass RX9 = some m.cls := findClass_of_methodNamed B.named
  have hlocks := B.notSynchronized
  have hS : va_S (pvB G) s.heap s.heap [] := va_S.rf
  have hl := lv_entry ([.ref (G.2.2.1 9 0), .int x1]) (n := 3) (Nat.le_of_ble_eq_true rfl)
  rw [lg_entry_eq]
  generalize (lg_sl ([.ref (G.2.2.1 9 0), .int x1]) ++ List.replicate (3 - (lg_sl ([.ref (G.2.2.1 9 0), .int x1])).length) Slot.unset).toArray = ls at hl ⊢
  have hl : lv_has ls 3 [(0, .ref (G.2.2.1 9 0)), (1, .int x1)] := hl
  have hroot := pv_root hw
  unfold f_X9_addText at h
  refine lv_aload_n hx hb dX9_addText_0 rfl (lv_at hl 0 rfl) ?_
  refine lv_iload_n hx hb dX9_addText_1 rfl (lv_at hl 1 rfl) ?_
  obtain ⟨r1, e2, h⟩ := ob1_e h
  refine pcallq (va_runV (As := [.int x1]) (rest := []) ⟨hx, hb, hml, hown, hts⟩ (c_X9_nodeAt (l := l) (G := G) (tys := tys) (σ := σ) htys  e2) (cwV 1 hts (gVA wm236 wm237 wm238 wm2 wm239) rfl rfl rfl (by decide +kernel) ⟨(Nat.le_of_ble_eq_true rfl), (Nat.le_of_ble_eq_true rfl)⟩) (pv_preV hA hS hw hK 9 0 Nat.one_pos (by decide) rfl [.int x1]) rfl rfl hl.1 rfl (lv_room (Nat.le_of_ble_eq_true rfl)) dX9_addText_2 ⟨Nat.zero_le _, Nat.zero_le _⟩) hS (fun r4 s5 H locs hp3 hw hS => ?_)
  obtain ⟨err1, esr1, hzr1⟩ := hp3
  obtain rfl := esr1.symm
  subst err1
  refine lv_astore_n (lv' := [(2, .ref (G.2.2.1 3 r1)), (0, .ref (G.2.2.1 9 0)), (1, .int x1)]) hx hb dX9_addText_5 rfl hl (by decide) rfl (fun ls hl => ?_)
  refine lv_aload_n hx hb dX9_addText_6 rfl (lv_at hl 0 rfl) ?_
  refine pgI (C := RX3) (T := TX3) (N := 14) hx hb hts hown hK hw 3 1 r1 hzr1 (by decide) rfl rfl inF_X3 (by decide) rfl (hts _ wm235) (fun _ h9 => h9) dX9_addText_7 ?_
  refine lv_if_eq (tgt := 23) hx hb dX9_addText_10 (by decide) (fun c6 => ?_) (fun c6 => ?_)
  · skip
    replace h := ite_p c6 h
    refine lv_aload_n hx hb dX9_addText_23 rfl (lv_at hl 1 rfl) ?_
    refine pgL (C := RX9) (T := TX9) (N := 6) hx hb hts hown hK hw 9 0 0 Nat.one_pos (by decide) rfl rfl inF_X9 (by decide) (v := .ref (G.2.2.1 7 0)) rfl (hts _ wm10) (fun _ h9 => h9) dX9_addText_24 ?_
    refine lv_aload_n hx hb dX9_addText_27 rfl (lv_at hl 0 rfl) ?_
    obtain ⟨r7, e8, h⟩ := ob1_e h
    refine pcalli (va_runV (As := [.ref (G.2.2.1 3 r1)]) (rest := []) ⟨hx, hb, hml, hown, hts⟩ (c_X7_hasRoomIn (l := l) (G := G) (tys := tys) (σ := σ) htys hzr1 e8) (cwV 1 hts (gVA wm271 wm272 wm273 wm28 wm274) rfl rfl rfl (by decide +kernel) ⟨(Nat.le_of_ble_eq_true rfl), (Nat.le_of_ble_eq_true rfl)⟩) (pv_preV hA hS hw hK 7 0 Nat.one_pos (by decide) rfl [.ref (G.2.2.1 3 r1)]) rfl rfl hl.1 rfl (lv_room (Nat.le_of_ble_eq_true rfl)) dX9_addText_28 ⟨Nat.zero_le _, Nat.zero_le _⟩) hS (fun r10 s11 H locs hp9 hw hS => ?_)
    obtain ⟨err7, esr7, hzr7⟩ := hp9
    obtain rfl := esr7.symm
    obtain rfl := err7.symm
    refine lv_if_ne (tgt := 44) hx hb dX9_addText_31 (by decide) (fun c12 => ?_) (fun c12 => ?_)
    · skip
      replace h := ite_n c12 h
      refine lv_aload_n hx hb dX9_addText_44 rfl (lv_at hl 1 rfl) ?_
      obtain ⟨σ14, e15, h⟩ := ob1_e h
      refine pcallv (va_runV (As := []) (rest := []) ⟨hx, hb, hml, hown, hts⟩ (c_X9_forgetWhatWasWorkedOut (l := l) (G := G) (tys := tys) (σ := σ) htys  e15) (cwV 0 hts (gVA wm279 wm280 wm281 wm2 wm282) rfl rfl rfl (by decide +kernel) ⟨(Nat.le_of_ble_eq_true rfl), (Nat.le_of_ble_eq_true rfl)⟩) (pv_preV hA hS hw hK 9 0 Nat.one_pos (by decide) rfl []) rfl rfl hl.1 rfl (lv_room (Nat.le_of_ble_eq_true rfl)) dX9_addText_45 ⟨Nat.zero_le _, Nat.zero_le _⟩) hS (fun s18 H locs hp16 hw hS => ?_)
      obtain ⟨esσ14, hdσ14⟩ := hp16
      obtain rfl := esσ14.symm
      have hcσ14 : σ14.1 = σ.1 := hdσ14
      refine lv_aload_n hx hb dX9_addText_48 rfl (lv_at hl 1 rfl) ?_
      refine pgL (C := RX9) (T := TX9) (N := 6) hx hb hts hown hK hw 9 0 0 Nat.one_pos (by decide) rfl rfl inF_X9 (by decide) (v := .ref (G.2.2.1 7 0)) rfl (hts _ wm10) (fun _ h9 => h9) dX9_addText_49 ?_
      refine lv_aload_n hx hb dX9_addText_52 rfl (lv_at hl 0 rfl) ?_
      refine lv_iconst (v := 1) hx hb dX9_addText_53 (by decide) ?_
      refine lv_iconst (v := 0) hx hb dX9_addText_54 (by decide) ?_
      obtain ⟨r19, σ20, e21, h⟩ := ob2_e h
      refine pcallai (G := G) (va_runV (As := [.ref (G.2.2.1 3 r1), .int 1, .int 0]) (rest := []) ⟨hx, hb, hml, hown, hts⟩ (c_X7_append (l := l) (G := G) (tys := tys) (σ := σ14) htys (lt_c hcσ14 3 hzr1) e21) (cwV 3 hts (gVA wm285 wm286 wm287 wm28 wm288) rfl rfl rfl (by decide +kernel) ⟨(Nat.le_of_ble_eq_true rfl), (Nat.le_of_ble_eq_true rfl)⟩) (pv_preV hA hS hw hK 7 0 Nat.one_pos (by decide) rfl [.ref (G.2.2.1 3 r1), .int 1, .int 0]) rfl rfl hl.1 rfl (lv_room (Nat.le_of_ble_eq_true rfl)) dX9_addText_55 ⟨Nat.le_of_ble_eq_true rfl, Nat.le_of_ble_eq_true rfl⟩) hS (fun r23 ad25 s24 H locs hp22 hw hS => ?_)
      obtain ⟨err19, esσ20, hgσ20⟩ := hp22
      have esσ20 : s24 = σ20 := esσ20
      obtain rfl := esσ20.symm
      obtain rfl := err19.symm
      refine W.widen (k := 74) (n := 6434) (Nat.le_of_ble_eq_true rfl) (Nat.le_of_ble_eq_true rfl) ?_
      cases h
      exact peai (G := G) hx hb hr hlocks hA hw hK hS ⟨rfl, rfl, pvGr_c hcσ14 hgσ20⟩ dX9_addText_58
    · skip
      replace h := ite_p c12 h
      cases h
  · skip
    replace h := ite_n c6 h
    cases h
