def f_X9_addWord (σ : PvS) (x1 : Int32) (x2 : Int32) : Option (Int32 × PvS) :=
  ob1 (f_X9_nodeAt σ x1) (fun r1 => if (σ.2.1 3 1 r1) = 0 then (none) else (if x2 < 1 then (none) else (if x2 ≤ 12 then (if 20 ≤ (σ.2.1 3 9 r1) then (none) else (if (σ.2.1 3 9 r1) < (nI (pvLen σ 30 r1)) then (ob1 (f_X9_forgetWhatWasWorkedOut σ) (fun σ12 => gd (vin (σ12.2.1 3 9 r1) (pvLen σ12 30 r1)) (nm (pvA σ12 30 r1 ((σ12.2.1 3 9 r1).toNatClampNeg) x2) (fun σ18 => nm (pvI σ18 3 9 r1 ((σ18.2.1 3 9 r1) + 1)) (fun σ19 => some (σ19.2.1 3 9 r1, σ19)))))) else (none))) else (none))))
set_option maxHeartbeats 4000000 in
set_option maxRecDepth 100000 in
theorem c_X9_addWord {l : Launch} {G : PvG} {tys : List (ClassId × FieldType)} {σ : PvS} (htys : tys = pvT G)  {x1 : Int32} {x2 : Int32}  {r : Int32} {σ1 : PvS} (h : f_X9_addWord σ x1 x2 = some (r, σ1)) : Met l yX9_addWord (Cond.code yX9_addWord cX9_addWord 4 (some .int) :: WA) ({ frames := 5, cells := 0, slots := 0, locals := 106 }) (va_Pc [.ref (G.2.2.1 9 0), .int x1, .int x2] (pvU G tys σ)) (va_Qi (fun r' σ' => r' = r ∧ σ' = σ1 ∧ σ'.1 = σ.1) (pvU G tys) (pvB G)) 0 0 (pvB G) := by
  refine Met.ofW (cc := cX9_addWord) (maxL := 4) (ret := (some .int)) (by decide) rfl ?_
  intro p e s m args below meth c s₁ B hml hv
  obtain ⟨rfl, hw, hK, hA⟩ := hv
  have hx := B.exec
  have hb := B.bytes
  have hr := B.returns
  have hts0 := atoms_spec (ws := (Cond.code yX9_addWord cX9_addWord 4 (some .int) :: WA)) B.pre
  have hts : ∀ w ∈ WA, w.before _ s = true := fun w h => hts0 w (List.mem_cons_of_mem _ h)
  have hown : s.vm.findClass RX9 = some m.cls := findClass_of_methodNamed B.named
  have hlocks := B.notSynchronized
  have hS : va_S (pvB G) s.heap s.heap [] := va_S.rf
  have hl := lv_entry ([.ref (G.2.2.1 9 0), .int x1, .int x2]) (n := 4) (Nat.le_of_ble_eq_true rfl)
  rw [lg_entry_eq]
  generalize (lg_sl ([.ref (G.2.2.1 9 0), .int x1, .int x2]) ++ List.replicate (4 - (lg_sl ([.ref (G.2.2.1 9 0), .int x1, .int x2])).length) Slot.unset).toArray = ls at hl ⊢
  have hl : lv_has ls 4 [(0, .ref (G.2.2.1 9 0)), (1, .int x1), (2, .int x2)] := hl
  have hroot := pv_root hw
  unfold f_X9_addWord at h
  refine lv_aload_n hx hb dX9_addWord_0 rfl (lv_at hl 0 rfl) ?_
  refine lv_iload_n hx hb dX9_addWord_1 rfl (lv_at hl 1 rfl) ?_
  obtain ⟨r1, e2, h⟩ := ob1_e h
  refine pcallq (va_runV (As := [.int x1]) (rest := []) ⟨hx, hb, hml, hown, hts⟩ (c_X9_nodeAt (l := l) (G := G) (tys := tys) (σ := σ) htys  e2) (cwV 1 hts (gVA wm236 wm237 wm238 wm2 wm239) rfl rfl rfl (by decide +kernel) ⟨(Nat.le_of_ble_eq_true rfl), (Nat.le_of_ble_eq_true rfl)⟩) (pv_preV hA hS hw hK 9 0 Nat.one_pos (by decide) rfl [.int x1]) rfl rfl hl.1 rfl (lv_room (Nat.le_of_ble_eq_true rfl)) dX9_addWord_2 ⟨Nat.zero_le _, Nat.zero_le _⟩) hS (fun r4 s5 H locs hp3 hw hS => ?_)
  obtain ⟨err1, esr1, hzr1⟩ := hp3
  obtain rfl := esr1.symm
  subst err1
  refine lv_astore_n (lv' := [(3, .ref (G.2.2.1 3 r1)), (0, .ref (G.2.2.1 9 0)), (1, .int x1), (2, .int x2)]) hx hb dX9_addWord_5 rfl hl (by decide) rfl (fun ls hl => ?_)
  refine lv_aload_n hx hb dX9_addWord_6 rfl (lv_at hl 0 rfl) ?_
  refine pgI (C := RX3) (T := TX3) (N := 14) hx hb hts hown hK hw 3 1 r1 hzr1 (by decide) rfl rfl inF_X3 (by decide) rfl (hts _ wm235) (fun _ h9 => h9) dX9_addWord_7 ?_
  refine lv_if_eq (tgt := 24) hx hb dX9_addWord_10 (by decide) (fun c6 => ?_) (fun c6 => ?_)
  · skip
    replace h := ite_p c6 h
    cases h
  · skip
    replace h := ite_n c6 h
    refine lv_iload_n hx hb dX9_addWord_13 rfl (lv_at hl 3 rfl) ?_
    refine lv_iconst (v := 1) hx hb dX9_addWord_14 (by decide) ?_
    refine lv_icmp_lt (tgt := 24) hx hb dX9_addWord_15 (by decide) (fun c7 => ?_) (fun c7 => ?_)
    · skip
      replace h := ite_p c7 h
      cases h
    · skip
      replace h := ite_n c7 h
      refine lv_iload_n hx hb dX9_addWord_18 rfl (lv_at hl 3 rfl) ?_
      refine lv_bipush (v := 12) hx hb dX9_addWord_19 (by decide) ?_
      refine lv_icmp_le (tgt := 34) hx hb dX9_addWord_21 (by decide) (fun c8 => ?_) (fun c8 => ?_)
      · skip
        replace h := ite_p c8 h
        refine lv_aload_n hx hb dX9_addWord_34 rfl (lv_at hl 0 rfl) ?_
        refine pgI (C := RX3) (T := TX3) (N := 14) hx hb hts hown hK hw 3 9 r1 hzr1 (by decide) rfl rfl inF_X3 (by decide) rfl (hts _ wm325) (fun _ h9 => h9) dX9_addWord_35 ?_
        refine lv_bipush (v := 20) hx hb dX9_addWord_38 (by decide) ?_
        refine lv_icmp_ge (tgt := 55) hx hb dX9_addWord_40 (by decide) (fun c9 => ?_) (fun c9 => ?_)
        · skip
          replace h := ite_p c9 h
          cases h
        · skip
          replace h := ite_n c9 h
          refine lv_aload_n hx hb dX9_addWord_43 rfl (lv_at hl 0 rfl) ?_
          refine pgI (C := RX3) (T := TX3) (N := 14) hx hb hts hown hK hw 3 9 r1 hzr1 (by decide) rfl rfl inF_X3 (by decide) rfl (hts _ wm325) (fun _ h9 => h9) dX9_addWord_44 ?_
          refine lv_aload_n hx hb dX9_addWord_47 rfl (lv_at hl 0 rfl) ?_
          refine pgL (C := RX3) (T := TX3) (N := 14) hx hb hts hown hK hw 3 4 r1 hzr1 (by decide) rfl rfl inF_X3 (by decide) (v := .ref (G.2.2.1 30 r1)) rfl (hts _ wm332) (fun _ h9 => h9) dX9_addWord_48 ?_
          refine palen hx hb hK htys hw 30 r1 hzr1 rfl (by decide) dX9_addWord_51 ?_
          refine lv_icmp_lt (tgt := 65) hx hb dX9_addWord_52 (by decide) (fun c10 => ?_) (fun c10 => ?_)
          · skip
            replace h := ite_p c10 h
            refine lv_aload_n hx hb dX9_addWord_65 rfl (lv_at hl 1 rfl) ?_
            obtain ⟨σ12, e13, h⟩ := ob1_e h
            refine pcallv (va_runV (As := []) (rest := []) ⟨hx, hb, hml, hown, hts⟩ (c_X9_forgetWhatWasWorkedOut (l := l) (G := G) (tys := tys) (σ := σ) htys  e13) (cwV 0 hts (gVA wm279 wm280 wm281 wm2 wm282) rfl rfl rfl (by decide +kernel) ⟨(Nat.le_of_ble_eq_true rfl), (Nat.le_of_ble_eq_true rfl)⟩) (pv_preV hA hS hw hK 9 0 Nat.one_pos (by decide) rfl []) rfl rfl hl.1 rfl (lv_room (Nat.le_of_ble_eq_true rfl)) dX9_addWord_66 ⟨Nat.zero_le _, Nat.zero_le _⟩) hS (fun s16 H locs hp14 hw hS => ?_)
            obtain ⟨esσ12, hdσ12⟩ := hp14
            obtain rfl := esσ12.symm
            have hcσ12 : σ12.1 = σ.1 := hdσ12
            refine lv_aload_n hx hb dX9_addWord_69 rfl (lv_at hl 0 rfl) ?_
            refine pgL (C := RX3) (T := TX3) (N := 14) hx hb hts hown hK hw 3 4 r1 (lt_c hcσ12 3 hzr1) (by decide) rfl rfl inF_X3 (by decide) (v := .ref (G.2.2.1 30 r1)) rfl (hts _ wm332) (fun _ h9 => h9) dX9_addWord_70 ?_
            refine lv_aload_n hx hb dX9_addWord_73 rfl (lv_at hl 0 rfl) ?_
            refine pgI (C := RX3) (T := TX3) (N := 14) hx hb hts hown hK hw 3 9 r1 (lt_c hcσ12 3 hzr1) (by decide) rfl rfl inF_X3 (by decide) rfl (hts _ wm325) (fun _ h9 => h9) dX9_addWord_74 ?_
            refine lv_iload_n hx hb dX9_addWord_77 rfl (lv_at hl 3 rfl) ?_
            obtain ⟨g17, h⟩ := gd_e h
            obtain ⟨σ18, eσ18, h⟩ := nq_e h
            refine ppA hx hb hK htys hw hS 30 r1 (lt_c hcσ12 30 hzr1) rfl (by decide) g17 dX9_addWord_78 (fun H locs hw hS => ?_)
            rw [← eσ18] at hw
            have hcσ18 : σ18.1 = σ.1 := by rw [eσ18]; exact hcσ12
            refine lv_aload_n hx hb dX9_addWord_79 rfl (lv_at hl 0 rfl) ?_
            refine lv_dup hx hb dX9_addWord_80 rfl ?_
            refine pgI (C := RX3) (T := TX3) (N := 14) hx hb hts hown hK hw 3 9 r1 (lt_c hcσ18 3 hzr1) (by decide) rfl rfl inF_X3 (by decide) rfl (hts _ wm325) (fun _ h9 => h9) dX9_addWord_81 ?_
            refine lv_iconst (v := 1) hx hb dX9_addWord_84 (by decide) ?_
            refine lv_iadd hx hb dX9_addWord_85 ?_
            obtain ⟨σ19, eσ19, h⟩ := nq_e h
            refine ppI (ty := .int) (C := RX3) (T := TX3) (N := 14) hx hb hts hown hK hw hS 3 9 r1 (lt_c hcσ18 3 hzr1) (by decide) rfl rfl inF_X3 (by decide) rfl (by decide) tyX3_ok nmX3 (hts _ wm325) (fun _ h9 => h9) rfl (by decide +kernel) rfl rfl dX9_addWord_86 (fun H locs hw hS => ?_)
            rw [← eσ19] at hw
            have hcσ19 : σ19.1 = σ.1 := by rw [eσ19]; exact hcσ18
            refine lv_aload_n hx hb dX9_addWord_89 rfl (lv_at hl 0 rfl) ?_
            refine pgI (C := RX3) (T := TX3) (N := 14) hx hb hts hown hK hw 3 9 r1 (lt_c hcσ19 3 hzr1) (by decide) rfl rfl inF_X3 (by decide) rfl (hts _ wm325) (fun _ h9 => h9) dX9_addWord_90 ?_
            exact pei hx hb hr hlocks hA hw hK hS (pst h hcσ19) dX9_addWord_93
          · skip
            replace h := ite_n c10 h
            cases h
      · skip
        replace h := ite_n c8 h
        cases h
def f_X9_setClass (σ : PvS) (x1 : Int32) (x2 : Int32) (x3 : Int32) : Option (Int32 × PvS) :=
  ob1 (f_X9_nodeAt σ x1) (fun r1 => if (σ.2.1 3 1 r1) = 0 then (if x2 < 0 then (none) else (if x2 ≤ 7 then (ob1 (f_X9_forgetWhatWasWorkedOut σ) (fun σ10 => ob1 (f_X3_hasClass σ10 r1 x2) (fun r15 => if x3 = 0 then (nm (pvI σ10 3 11 r1 ((σ10.2.1 3 11 r1) &&& (((1 : Int32) <<< (x2 &&& 31)) ^^^ (-1)))) (fun σ21 => some (r15, σ21))) else (nm (pvI σ10 3 11 r1 ((σ10.2.1 3 11 r1) ||| ((1 : Int32) <<< (x2 &&& 31)))) (fun σ22 => some (r15, σ22)))))) else (none))) else (none))
set_option maxHeartbeats 4000000 in
set_option maxRecDepth 100000 in
theorem c_X9_setClass {l : Launch} {G : PvG} {tys : List (ClassId × FieldType)} {σ : PvS} (htys : tys = pvT G)  {x1 : Int32} {x2 : Int32} {x3 : Int32}  {r : Int32} {σ1 : PvS} (h : f_X9_setClass σ x1 x2 x3 = some (r, σ1)) : Met l yX9_setClass (Cond.code yX9_setClass cX9_setClass 7 (some .boolean) :: WA) ({ frames := 5, cells := 0, slots := 0, locals := 106 }) (va_Pc [.ref (G.2.2.1 9 0), .int x1, .int x2, .int x3] (pvU G tys σ)) (va_Qi (fun r' σ' => r' = r ∧ σ' = σ1 ∧ σ'.1 = σ.1 ∧ is01 r') (pvU G tys) (pvB G)) 0 0 (pvB G) := by
  refine Met.ofW (cc := cX9_setClass) (maxL := 7) (ret := (some .boolean)) (by decide) rfl ?_
  intro p e s m args below meth c s₁ B hml hv
  obtain ⟨rfl, hw, hK, hA⟩ := hv
  have hx := B.exec
  have hb := B.bytes
  have hr := B.returns
  have hts0 := atoms_spec (ws := (Cond.code yX9_setClass cX9_setClass 7 (some .boolean) :: WA)) B.pre
  have hts : ∀ w ∈ WA, w.before _ s = true := fun w h => hts0 w (List.mem_cons_of_mem _ h)
  have hown : s.vm.findClass RX9 = some m.cls := findClass_of_methodNamed B.named
  have hlocks := B.notSynchronized
  have hS : va_S (pvB G) s.heap s.heap [] := va_S.rf
  have hl := lv_entry ([.ref (G.2.2.1 9 0), .int x1, .int x2, .int x3]) (n := 7) (Nat.le_of_ble_eq_true rfl)
  rw [lg_entry_eq]
  generalize (lg_sl ([.ref (G.2.2.1 9 0), .int x1, .int x2, .int x3]) ++ List.replicate (7 - (lg_sl ([.ref (G.2.2.1 9 0), .int x1, .int x2, .int x3])).length) Slot.unset).toArray = ls at hl ⊢
  have hl : lv_has ls 7 [(0, .ref (G.2.2.1 9 0)), (1, .int x1), (2, .int x2), (3, .int x3)] := hl
  have hroot := pv_root hw
  unfold f_X9_setClass at h
  refine lv_aload_n hx hb dX9_setClass_0 rfl (lv_at hl 0 rfl) ?_
  refine lv_iload_n hx hb dX9_setClass_1 rfl (lv_at hl 1 rfl) ?_
  obtain ⟨r1, e2, h⟩ := ob1_e h
  refine pcallq (va_runV (As := [.int x1]) (rest := []) ⟨hx, hb, hml, hown, hts⟩ (c_X9_nodeAt (l := l) (G := G) (tys := tys) (σ := σ) htys  e2) (cwV 1 hts (gVA wm236 wm237 wm238 wm2 wm239) rfl rfl rfl (by decide +kernel) ⟨(Nat.le_of_ble_eq_true rfl), (Nat.le_of_ble_eq_true rfl)⟩) (pv_preV hA hS hw hK 9 0 Nat.one_pos (by decide) rfl [.int x1]) rfl rfl hl.1 rfl (lv_room (Nat.le_of_ble_eq_true rfl)) dX9_setClass_2 ⟨Nat.zero_le _, Nat.zero_le _⟩) hS (fun r4 s5 H locs hp3 hw hS => ?_)
  obtain ⟨err1, esr1, hzr1⟩ := hp3
  obtain rfl := esr1.symm
  subst err1
  refine lv_astore (lv' := [(4, .ref (G.2.2.1 3 r1)), (0, .ref (G.2.2.1 9 0)), (1, .int x1), (2, .int x2), (3, .int x3)]) hx hb dX9_setClass_5 hl (by decide) rfl (fun ls hl => ?_)
  refine lv_aload hx hb dX9_setClass_7 (lv_at hl 0 rfl) ?_
  refine pgI (C := RX3) (T := TX3) (N := 14) hx hb hts hown hK hw 3 1 r1 hzr1 (by decide) rfl rfl inF_X3 (by decide) rfl (hts _ wm235) (fun _ h9 => h9) dX9_setClass_9 ?_
  refine lv_if_ne (tgt := 25) hx hb dX9_setClass_12 (by decide) (fun c6 => ?_) (fun c6 => ?_)
  · skip
    replace h := ite_n c6 h
    cases h
  · skip
    replace h := ite_p c6 h
    refine lv_iload_n hx hb dX9_setClass_15 rfl (lv_at hl 3 rfl) ?_
    refine lv_if_lt (tgt := 25) hx hb dX9_setClass_16 (by decide) (fun c7 => ?_) (fun c7 => ?_)
    · skip
      replace h := ite_p c7 h
      cases h
    · skip
      replace h := ite_n c7 h
      refine lv_iload_n hx hb dX9_setClass_19 rfl (lv_at hl 3 rfl) ?_
      refine lv_bipush (v := 7) hx hb dX9_setClass_20 (by decide) ?_
      refine lv_icmp_le (tgt := 35) hx hb dX9_setClass_22 (by decide) (fun c8 => ?_) (fun c8 => ?_)
      · skip
        replace h := ite_p c8 h
        refine lv_aload_n hx hb dX9_setClass_35 rfl (lv_at hl 1 rfl) ?_
        obtain ⟨σ10, e11, h⟩ := ob1_e h
        refine pcallv (va_runV (As := []) (rest := []) ⟨hx, hb, hml, hown, hts⟩ (c_X9_forgetWhatWasWorkedOut (l := l) (G := G) (tys := tys) (σ := σ) htys  e11) (cwV 0 hts (gVA wm279 wm280 wm281 wm2 wm282) rfl rfl rfl (by decide +kernel) ⟨(Nat.le_of_ble_eq_true rfl), (Nat.le_of_ble_eq_true rfl)⟩) (pv_preV hA hS hw hK 9 0 Nat.one_pos (by decide) rfl []) rfl rfl hl.1 rfl (lv_room (Nat.le_of_ble_eq_true rfl)) dX9_setClass_36 ⟨Nat.zero_le _, Nat.zero_le _⟩) hS (fun s14 H locs hp12 hw hS => ?_)
        obtain ⟨esσ10, hdσ10⟩ := hp12
        obtain rfl := esσ10.symm
        have hcσ10 : σ10.1 = σ.1 := hdσ10
        refine lv_aload hx hb dX9_setClass_39 (lv_at hl 0 rfl) ?_
        refine lv_iload_n hx hb dX9_setClass_41 rfl (lv_at hl 3 rfl) ?_
        obtain ⟨r15, e16, h⟩ := ob1_e h
        refine pcalli (va_runV (As := [.int x2]) (rest := []) ⟨hx, hb, hml, hown, hts⟩ (c_X3_hasClass (l := l) (G := G) (tys := tys) (σ := σ10) htys (lt_c hcσ10 3 hzr1) e16) (cwV 1 hts (gVA wm317 wm318 wm319 wm42 wm320) rfl rfl rfl (by decide +kernel) ⟨(Nat.le_of_ble_eq_true rfl), (Nat.le_of_ble_eq_true rfl)⟩) (pv_preV hA hS hw hK 3 r1 (lt_c hcσ10 3 hzr1) (by decide) rfl [.int x2]) rfl rfl hl.1 rfl (lv_room (Nat.le_of_ble_eq_true rfl)) dX9_setClass_42 ⟨Nat.zero_le _, Nat.zero_le _⟩) hS (fun r18 s19 H locs hp17 hw hS => ?_)
        obtain ⟨err15, esr15, hzr15⟩ := hp17
        obtain rfl := esr15.symm
        obtain rfl := err15.symm
        refine lv_istore (lv' := [(5, .int r15), (4, .ref (G.2.2.1 3 r1)), (0, .ref (G.2.2.1 9 0)), (1, .int x1), (2, .int x2), (3, .int x3)]) hx hb dX9_setClass_45 hl (by decide) rfl (fun ls hl => ?_)
        refine lv_iconst (v := 1) hx hb dX9_setClass_47 (by decide) ?_
        refine lv_iload_n hx hb dX9_setClass_48 rfl (lv_at hl 4 rfl) ?_
        refine lv_ishl hx hb dX9_setClass_49 ?_
        refine lv_istore (lv' := [(6, .int ((1 : Int32) <<< (x2 &&& 31))), (5, .int r15), (4, .ref (G.2.2.1 3 r1)), (0, .ref (G.2.2.1 9 0)), (1, .int x1), (2, .int x2), (3, .int x3)]) hx hb dX9_setClass_50 hl (by decide) rfl (fun ls hl => ?_)
        refine lv_aload hx hb dX9_setClass_52 (lv_at hl 2 rfl) ?_
        refine lv_iload_n hx hb dX9_setClass_54 rfl (lv_at hl 6 rfl) ?_
        refine lv_if_eq (tgt := 69) hx hb dX9_setClass_55 (by decide) (fun c20 => ?_) (fun c20 => ?_)
        · skip
          replace h := ite_p c20 h
          refine lv_aload hx hb dX9_setClass_69 (lv_at hl 2 rfl) ?_
          refine pgI (C := RX3) (T := TX3) (N := 14) hx hb hts hown hK hw 3 11 r1 (lt_c hcσ10 3 hzr1) (by decide) rfl rfl inF_X3 (by decide) rfl (hts _ wm316) (fun _ h9 => h9) dX9_setClass_71 ?_
          refine lv_iload hx hb dX9_setClass_74 (lv_at hl 0 rfl) ?_
          refine lv_iconst (v := (-1)) hx hb dX9_setClass_76 (by decide) ?_
          refine lv_ixor hx hb dX9_setClass_77 ?_
          refine lv_iand hx hb dX9_setClass_78 ?_
          obtain ⟨σ21, eσ21, h⟩ := nq_e h
          refine ppI (ty := .int) (C := RX3) (T := TX3) (N := 14) hx hb hts hown hK hw hS 3 11 r1 (lt_c hcσ10 3 hzr1) (by decide) rfl rfl inF_X3 (by decide) rfl (by decide) tyX3_ok nmX3 (hts _ wm316) (fun _ h9 => h9) rfl (by decide +kernel) rfl rfl dX9_setClass_79 (fun H locs hw hS => ?_)
          rw [← eσ21] at hw
          have hcσ21 : σ21.1 = σ.1 := by rw [eσ21]; exact hcσ10
          refine lv_iload hx hb dX9_setClass_82 (lv_at hl 1 rfl) ?_
          exact pez hx hb hr (is01_nar hzr15) hlocks hA hw hK hS ⟨(pst h hcσ21).1, (pst h hcσ21).2.1, (pst h hcσ21).2.2, hzr15⟩ dX9_setClass_84
        · skip
          replace h := ite_n c20 h
          refine lv_aload hx hb dX9_setClass_58 (lv_at hl 2 rfl) ?_
          refine pgI (C := RX3) (T := TX3) (N := 14) hx hb hts hown hK hw 3 11 r1 (lt_c hcσ10 3 hzr1) (by decide) rfl rfl inF_X3 (by decide) rfl (hts _ wm316) (fun _ h9 => h9) dX9_setClass_60 ?_
          refine lv_iload hx hb dX9_setClass_63 (lv_at hl 0 rfl) ?_
          refine lv_ior hx hb dX9_setClass_65 ?_
          refine lv_goto (tgt := 79) hx hb dX9_setClass_66 (by decide) ?_
          obtain ⟨σ22, eσ22, h⟩ := nq_e h
          refine ppI (ty := .int) (C := RX3) (T := TX3) (N := 14) hx hb hts hown hK hw hS 3 11 r1 (lt_c hcσ10 3 hzr1) (by decide) rfl rfl inF_X3 (by decide) rfl (by decide) tyX3_ok nmX3 (hts _ wm316) (fun _ h9 => h9) rfl (by decide +kernel) rfl rfl dX9_setClass_79 (fun H locs hw hS => ?_)
          rw [← eσ22] at hw
          have hcσ22 : σ22.1 = σ.1 := by rw [eσ22]; exact hcσ10
          refine lv_iload hx hb dX9_setClass_82 (lv_at hl 1 rfl) ?_
          exact pez hx hb hr (is01_nar hzr15) hlocks hA hw hK hS ⟨(pst h hcσ22).1, (pst h hcσ22).2.1, (pst h hcσ22).2.2, hzr15⟩ dX9_setClass_84
      · skip
        replace h := ite_n c8 h
        cases h
def f_X9_setName (σ : PvS) (x1 : Int32) (x2 : Int32) : Option (Int32 × PvS) :=
  ob1 (f_X9_nodeAt σ x1) (fun r1 => if (σ.2.1 3 1 r1) = 0 then (if x2 < 0 then (none) else (if x2 ≤ 99 then (ob1 (f_X9_forgetWhatWasWorkedOut σ) (fun σ10 => nm (pvI σ10 3 10 r1 x2) (fun σ15 => some (σ10.2.1 3 10 r1, σ15)))) else (none))) else (none))
set_option maxHeartbeats 4000000 in
set_option maxRecDepth 100000 in
theorem c_X9_setName {l : Launch} {G : PvG} {tys : List (ClassId × FieldType)} {σ : PvS} (htys : tys = pvT G)  {x1 : Int32} {x2 : Int32}  {r : Int32} {σ1 : PvS} (h : f_X9_setName σ x1 x2 = some (r, σ1)) : Met l yX9_setName (Cond.code yX9_setName cX9_setName 5 (some .int) :: WA) ({ frames := 5, cells := 0, slots := 0, locals := 106 }) (va_Pc [.ref (G.2.2.1 9 0), .int x1, .int x2] (pvU G tys σ)) (va_Qi (fun r' σ' => r' = r ∧ σ' = σ1 ∧ σ'.1 = σ.1) (pvU G tys) (pvB G)) 0 0 (pvB G) := by
  refine Met.ofW (cc := cX9_setName) (maxL := 5) (ret := (some .int)) (by decide) rfl ?_
  intro p e s m args below meth c s₁ B hml hv
  obtain ⟨rfl, hw, hK, hA⟩ := hv
  have hx := B.exec
  have hb := B.bytes
  have hr := B.returns
  have hts0 := atoms_spec (ws := (Cond.code yX9_setName cX9_setName 5 (some .int) :: WA)) B.pre
  have hts : ∀ w ∈ WA, w.before _ s = true := fun w h => hts0 w (List.mem_cons_of_mem _ h)
  have hown : s.vm.findClass RX9 = some m.cls := findClass_of_methodNamed B.named
  have hlocks := B.notSynchronized
  have hS : va_S (pvB G) s.heap s.heap [] := va_S.rf
  have hl := lv_entry ([.ref (G.2.2.1 9 0), .int x1, .int x2]) (n := 5) (Nat.le_of_ble_eq_true rfl)
  rw [lg_entry_eq]
  generalize (lg_sl ([.ref (G.2.2.1 9 0), .int x1, .int x2]) ++ List.replicate (5 - (lg_sl ([.ref (G.2.2.1 9 0), .int x1, .int x2])).length) Slot.unset).toArray = ls at hl ⊢
  have hl : lv_has ls 5 [(0, .ref (G.2.2.1 9 0)), (1, .int x1), (2, .int x2)] := hl
  have hroot := pv_root hw
  unfold f_X9_setName at h
  refine lv_aload_n hx hb dX9_setName_0 rfl (lv_at hl 0 rfl) ?_
  refine lv_iload_n hx hb dX9_setName_1 rfl (lv_at hl 1 rfl) ?_
  obtain ⟨r1, e2, h⟩ := ob1_e h
  refine pcallq (va_runV (As := [.int x1]) (rest := []) ⟨hx, hb, hml, hown, hts⟩ (c_X9_nodeAt (l := l) (G := G) (tys := tys) (σ := σ) htys  e2) (cwV 1 hts (gVA wm236 wm237 wm238 wm2 wm239) rfl rfl rfl (by decide +kernel) ⟨(Nat.le_of_ble_eq_true rfl), (Nat.le_of_ble_eq_true rfl)⟩) (pv_preV hA hS hw hK 9 0 Nat.one_pos (by decide) rfl [.int x1]) rfl rfl hl.1 rfl (lv_room (Nat.le_of_ble_eq_true rfl)) dX9_setName_2 ⟨Nat.zero_le _, Nat.zero_le _⟩) hS (fun r4 s5 H locs hp3 hw hS => ?_)
  obtain ⟨err1, esr1, hzr1⟩ := hp3
  obtain rfl := esr1.symm
  subst err1
  refine lv_astore_n (lv' := [(3, .ref (G.2.2.1 3 r1)), (0, .ref (G.2.2.1 9 0)), (1, .int x1), (2, .int x2)]) hx hb dX9_setName_5 rfl hl (by decide) rfl (fun ls hl => ?_)
  refine lv_aload_n hx hb dX9_setName_6 rfl (lv_at hl 0 rfl) ?_
  refine pgI (C := RX3) (T := TX3) (N := 14) hx hb hts hown hK hw 3 1 r1 hzr1 (by decide) rfl rfl inF_X3 (by decide) rfl (hts _ wm235) (fun _ h9 => h9) dX9_setName_7 ?_
  refine lv_if_ne (tgt := 23) hx hb dX9_setName_10 (by decide) (fun c6 => ?_) (fun c6 => ?_)
  · skip
    replace h := ite_n c6 h
    cases h
  · skip
    replace h := ite_p c6 h
    refine lv_iload_n hx hb dX9_setName_13 rfl (lv_at hl 3 rfl) ?_
    refine lv_if_lt (tgt := 23) hx hb dX9_setName_14 (by decide) (fun c7 => ?_) (fun c7 => ?_)
    · skip
      replace h := ite_p c7 h
      cases h
    · skip
      replace h := ite_n c7 h
      refine lv_iload_n hx hb dX9_setName_17 rfl (lv_at hl 3 rfl) ?_
      refine lv_bipush (v := 99) hx hb dX9_setName_18 (by decide) ?_
      refine lv_icmp_le (tgt := 33) hx hb dX9_setName_20 (by decide) (fun c8 => ?_) (fun c8 => ?_)
      · skip
        replace h := ite_p c8 h
        refine lv_aload_n hx hb dX9_setName_33 rfl (lv_at hl 1 rfl) ?_
        obtain ⟨σ10, e11, h⟩ := ob1_e h
        refine pcallv (va_runV (As := []) (rest := []) ⟨hx, hb, hml, hown, hts⟩ (c_X9_forgetWhatWasWorkedOut (l := l) (G := G) (tys := tys) (σ := σ) htys  e11) (cwV 0 hts (gVA wm279 wm280 wm281 wm2 wm282) rfl rfl rfl (by decide +kernel) ⟨(Nat.le_of_ble_eq_true rfl), (Nat.le_of_ble_eq_true rfl)⟩) (pv_preV hA hS hw hK 9 0 Nat.one_pos (by decide) rfl []) rfl rfl hl.1 rfl (lv_room (Nat.le_of_ble_eq_true rfl)) dX9_setName_34 ⟨Nat.zero_le _, Nat.zero_le _⟩) hS (fun s14 H locs hp12 hw hS => ?_)
        obtain ⟨esσ10, hdσ10⟩ := hp12
        obtain rfl := esσ10.symm
        have hcσ10 : σ10.1 = σ.1 := hdσ10
        refine lv_aload_n hx hb dX9_setName_37 rfl (lv_at hl 0 rfl) ?_
        refine pgI (C := RX3) (T := TX3) (N := 14) hx hb hts hown hK hw 3 10 r1 (lt_c hcσ10 3 hzr1) (by decide) rfl rfl inF_X3 (by decide) rfl (hts _ wm311) (fun _ h9 => h9) dX9_setName_38 ?_
        refine lv_istore (lv' := [(4, .int (σ10.2.1 3 10 r1)), (3, .ref (G.2.2.1 3 r1)), (0, .ref (G.2.2.1 9 0)), (1, .int x1), (2, .int x2)]) hx hb dX9_setName_41 hl (by decide) rfl (fun ls hl => ?_)
        refine lv_aload_n hx hb dX9_setName_43 rfl (lv_at hl 1 rfl) ?_
        refine lv_iload_n hx hb dX9_setName_44 rfl (lv_at hl 4 rfl) ?_
        obtain ⟨σ15, eσ15, h⟩ := nq_e h
        refine ppI (ty := .int) (C := RX3) (T := TX3) (N := 14) hx hb hts hown hK hw hS 3 10 r1 (lt_c hcσ10 3 hzr1) (by decide) rfl rfl inF_X3 (by decide) rfl (by decide) tyX3_ok nmX3 (hts _ wm311) (fun _ h9 => h9) rfl (by decide +kernel) rfl rfl dX9_setName_45 (fun H locs hw hS => ?_)
        rw [← eσ15] at hw
        have hcσ15 : σ15.1 = σ.1 := by rw [eσ15]; exact hcσ10
        refine lv_iload hx hb dX9_setName_48 (lv_at hl 0 rfl) ?_
        exact pei hx hb hr hlocks hA hw hK hS (pst h hcσ15) dX9_setName_50
      · skip
        replace h := ite_n c8 h
        cases h
def f_X9_addPart_41  (τ : PvS) (xb2 : Int32) (xb3 : Int32) (xb4 : Int32) (xb5 : Int32) (ub6 : Nat) (xb7 : Int32) (xbs0 : Int32) : Option (Int32 × PvS) :=
  if xb7 = 0 then (none) else (if xbs0 = 0 then (none) else (if xb4 < 0 then (none) else (if xb4 ≤ 99 then (if (τ.2.1 5 7 ub6) < 3 then (ob1 (f_X9_forgetWhatWasWorkedOut τ) (fun σ7 => ob1 (f_X5_takePart σ7 ub6 xb2 xb3 xb4 xb5) (fun σ13 => some (σ13.2.1 5 7 ub6, σ13)))) else (none)) else (none))))
def f_X9_addPart_40  (τ : PvS) (xb2 : Int32) (xb3 : Int32) (xb4 : Int32) (xb5 : Int32) (ub6 : Nat) (xb7 : Int32) : Option (Int32 × PvS) :=
  f_X9_addPart_41 τ xb2 xb3 xb4 xb5 ub6 xb7 0
def f_X9_addPart_23  (τ : PvS) (xb2 : Int32) (xb3 : Int32) (xb4 : Int32) (xb5 : Int32) (ub6 : Nat) (xbs0 : Int32) : Option (Int32 × PvS) :=
  if xb3 < (-1) then (f_X9_addPart_40 τ xb2 xb3 xb4 xb5 ub6 xbs0) else (if 7 < xb3 then (f_X9_addPart_40 τ xb2 xb3 xb4 xb5 ub6 xbs0) else (f_X9_addPart_41 τ xb2 xb3 xb4 xb5 ub6 xbs0 1))
def f_X9_addPart_22  (τ : PvS) (xb2 : Int32) (xb3 : Int32) (xb4 : Int32) (xb5 : Int32) (ub6 : Nat) : Option (Int32 × PvS) :=
  f_X9_addPart_23 τ xb2 xb3 xb4 xb5 ub6 0
def f_X9_addPart (σ : PvS) (x1 : Int32) (x2 : Int32) (x3 : Int32) (x4 : Int32) (x5 : Int32) : Option (Int32 × PvS) :=
  ob1 (f_X9_ruleAt σ x1) (fun r20 => if x2 < (-1) then (f_X9_addPart_22 σ x2 x3 x4 x5 r20) else (if 7 < x2 then (f_X9_addPart_22 σ x2 x3 x4 x5 r20) else (f_X9_addPart_23 σ x2 x3 x4 x5 r20 1)))
set_option maxHeartbeats 4000000 in
set_option maxRecDepth 100000 in
theorem c_X9_addPart {l : Launch} {G : PvG} {tys : List (ClassId × FieldType)} {σ : PvS} (htys : tys = pvT G)  {x1 : Int32} {x2 : Int32} {x3 : Int32} {x4 : Int32} {x5 : Int32}  {r : Int32} {σ1 : PvS} (h : f_X9_addPart σ x1 x2 x3 x4 x5 = some (r, σ1)) : Met l yX9_addPart (Cond.code yX9_addPart cX9_addPart 9 (some .int) :: WA) ({ frames := 4, cells := 0, slots := 0, locals := 85 }) (va_Pc [.ref (G.2.2.1 9 0), .int x1, .int x2, .int x3, .int x4, .int x5] (pvU G tys σ)) (va_Qi (fun r' σ' => r' = r ∧ σ' = σ1 ∧ σ'.1 = σ.1) (pvU G tys) (pvB G)) 0 0 (pvB G) := by
  refine Met.ofW (cc := cX9_addPart) (maxL := 9) (ret := (some .int)) (by decide) rfl ?_
  intro p e s m args below meth c s₁ B hml hv
  obtain ⟨rfl, hw, hK, hA⟩ := hv
  have hx := B.exec
  have hb := B.bytes
  have hr := B.returns
  have hts0 := atoms_spec (ws := (Cond.code yX9_addPart cX9_addPart 9 (some .int) :: WA)) B.pre
  have hts : ∀ w ∈ WA, w.before _ s = true := fun w h => hts0 w (List.mem_cons_of_mem _ h)
  have hown : s.vm.findClass RX9 = some m.cls := findClass_of_methodNamed B.named
  have hlocks := B.notSynchronized
  have hS : va_S (pvB G) s.heap s.heap [] := va_S.rf
  have hl := lv_entry ([.ref (G.2.2.1 9 0), .int x1, .int x2, .int x3, .int x4, .int x5]) (n := 9) (Nat.le_of_ble_eq_true rfl)
  rw [lg_entry_eq]
  generalize (lg_sl ([.ref (G.2.2.1 9 0), .int x1, .int x2, .int x3, .int x4, .int x5]) ++ List.replicate (9 - (lg_sl ([.ref (G.2.2.1 9 0), .int x1, .int x2, .int x3, .int x4, .int x5])).length) Slot.unset).toArray = ls at hl ⊢
  have hl : lv_has ls 9 [(0, .ref (G.2.2.1 9 0)), (1, .int x1), (2, .int x2), (3, .int x3), (4, .int x4), (5, .int x5)] := hl
  have hroot := pv_root hw
  unfold f_X9_addPart at h
  have blk41 : ∀ (τ : PvS) (xb2 : Int32) (xb3 : Int32) (xb4 : Int32) (xb5 : Int32) (ub6 : Nat) (xb7 : Int32) (xbs0 : Int32), (τ.1 = σ.1) → (ub6 < pvM σ 5) → f_X9_addPart_41 τ xb2 xb3 xb4 xb5 ub6 xb7 xbs0 = some (r, σ1) → ∀ (H : Heap) (locs : List Loc), pvW G τ H → va_S (pvB G) s.heap H locs → ∀ (ls : Array Slot), lv_has ls 9 [(0, .ref (G.2.2.1 9 0)), (2, .int xb2), (3, .int xb3), (4, .int xb4), (5, .int xb5), (6, .ref (G.2.2.1 5 ub6)), (7, .int xb7)] → W p l e (headSpec (Cond.code yX9_addPart cX9_addPart 9 (some .int) :: WA) ({ frames := 4, cells := 0, slots := 0, locals := 85 } : Room)).room s m ([.ref (G.2.2.1 9 0), .int x1, .int x2, .int x3, .int x4, .int x5] : List Value).toArray below meth c H locs 0 0 (MQ below (va_Qi (fun r' σ' => r' = r ∧ σ' = σ1 ∧ σ'.1 = σ.1) (pvU G tys) (pvB G)) ([.ref (G.2.2.1 9 0), .int x1, .int x2, .int x3, .int x4, .int x5] : List Value).toArray s 0 0 (pvB G)) (F0 m 41 ls [.int xbs0]) := by
    intro τ xb2 xb3 xb4 xb5 ub6 xb7 xbs0 hcτ hub6 h H locs hw hS ls hl
    unfold f_X9_addPart_41 at h
    refine lv_istore (lv' := [(8, .int xbs0), (0, .ref (G.2.2.1 9 0)), (2, .int xb2), (3, .int xb3), (4, .int xb4), (5, .int xb5), (6, .ref (G.2.2.1 5 ub6)), (7, .int xb7)]) hx hb dX9_addPart_41 hl (by decide) rfl (fun ls hl => ?_)
    refine lv_iload hx hb dX9_addPart_43 (lv_at hl 7 rfl) ?_
    refine lv_if_eq (tgt := 65) hx hb dX9_addPart_45 (by decide) (fun c1 => ?_) (fun c1 => ?_)
    · skip
      replace h := ite_p c1 h
      cases h
    · skip
      replace h := ite_n c1 h
      refine lv_iload hx hb dX9_addPart_48 (lv_at hl 0 rfl) ?_
      refine lv_if_eq (tgt := 65) hx hb dX9_addPart_50 (by decide) (fun c2 => ?_) (fun c2 => ?_)
      · skip
        replace h := ite_p c2 h
        cases h
      · skip
        replace h := ite_n c2 h
        refine lv_iload hx hb dX9_addPart_53 (lv_at hl 4 rfl) ?_
        refine lv_if_lt (tgt := 65) hx hb dX9_addPart_55 (by decide) (fun c3 => ?_) (fun c3 => ?_)
        · skip
          replace h := ite_p c3 h
          cases h
        · skip
          replace h := ite_n c3 h
          refine lv_iload hx hb dX9_addPart_58 (lv_at hl 4 rfl) ?_
          refine lv_bipush (v := 99) hx hb dX9_addPart_60 (by decide) ?_
          refine lv_icmp_le (tgt := 75) hx hb dX9_addPart_62 (by decide) (fun c4 => ?_) (fun c4 => ?_)
          · skip
            replace h := ite_p c4 h
            refine lv_aload hx hb dX9_addPart_75 (lv_at hl 6 rfl) ?_
            refine pgI (C := RX5) (T := TX5) (N := 10) hx hb hts hown hK hw 5 7 ub6 (lt_c hcτ 5 hub6) (by decide) rfl rfl inF_X5 (by decide) rfl (hts _ wm380) (fun _ h9 => h9) dX9_addPart_77 ?_
            refine lv_iconst (v := 3) hx hb dX9_addPart_80 (by decide) ?_
            refine lv_icmp_lt (tgt := 94) hx hb dX9_addPart_81 (by decide) (fun c5 => ?_) (fun c5 => ?_)
            · skip
              replace h := ite_p c5 h
              refine lv_aload_n hx hb dX9_addPart_94 rfl (lv_at hl 1 rfl) ?_
              obtain ⟨σ7, e8, h⟩ := ob1_e h
              refine pcallv (va_runV (As := []) (rest := []) ⟨hx, hb, hml, hown, hts⟩ (c_X9_forgetWhatWasWorkedOut (l := l) (G := G) (tys := tys) (σ := τ) htys  e8) (cwV 0 hts (gVA wm279 wm280 wm281 wm2 wm282) rfl rfl rfl (by decide +kernel) ⟨(Nat.le_of_ble_eq_true rfl), (Nat.le_of_ble_eq_true rfl)⟩) (pv_preV hA hS hw hK 9 0 Nat.one_pos (by decide) rfl []) rfl rfl hl.1 rfl (lv_room (Nat.le_of_ble_eq_true rfl)) dX9_addPart_95 ⟨Nat.zero_le _, Nat.zero_le _⟩) hS (fun s11 H locs hp9 hw hS => ?_)
              obtain ⟨esσ7, hdσ7⟩ := hp9
              obtain rfl := esσ7.symm
              have hcσ7 : σ7.1 = σ.1 := hdσ7.trans hcτ
              refine lv_aload hx hb dX9_addPart_98 (lv_at hl 6 rfl) ?_
              refine lv_iload_n hx hb dX9_addPart_100 rfl (lv_at hl 2 rfl) ?_
              refine lv_iload_n hx hb dX9_addPart_101 rfl (lv_at hl 3 rfl) ?_
              refine lv_iload hx hb dX9_addPart_102 (lv_at hl 4 rfl) ?_
              refine lv_iload hx hb dX9_addPart_104 (lv_at hl 5 rfl) ?_
              obtain ⟨σ13, e14, h⟩ := ob1_e h
              refine pcallv (va_runV (As := [.int xb2, .int xb3, .int xb4, .int xb5]) (rest := []) ⟨hx, hb, hml, hown, hts⟩ (c_X5_takePart (l := l) (G := G) (tys := tys) (σ := σ7) htys (lt_c hcσ7 5 hub6) e14) (cwV 4 hts (gVA wm386 wm387 wm388 wm359 wm389) rfl rfl rfl (by decide +kernel) ⟨(Nat.le_of_ble_eq_true rfl), (Nat.le_of_ble_eq_true rfl)⟩) (pv_preV hA hS hw hK 5 ub6 (lt_c hcσ7 5 hub6) (by decide) rfl [.int xb2, .int xb3, .int xb4, .int xb5]) rfl rfl hl.1 rfl (lv_room (Nat.le_of_ble_eq_true rfl)) dX9_addPart_106 ⟨Nat.zero_le _, Nat.zero_le _⟩) hS (fun s17 H locs hp15 hw hS => ?_)
              obtain ⟨esσ13, hdσ13⟩ := hp15
              obtain rfl := esσ13.symm
              have hcσ13 : σ13.1 = σ.1 := hdσ13.trans hcσ7
              refine lv_aload hx hb dX9_addPart_109 (lv_at hl 6 rfl) ?_
              refine pgI (C := RX5) (T := TX5) (N := 10) hx hb hts hown hK hw 5 7 ub6 (lt_c hcσ13 5 hub6) (by decide) rfl rfl inF_X5 (by decide) rfl (hts _ wm380) (fun _ h9 => h9) dX9_addPart_111 ?_
              exact pei hx hb hr hlocks hA hw hK hS (pst h hcσ13) dX9_addPart_114
            · skip
              replace h := ite_n c5 h
              cases h
          · skip
            replace h := ite_n c4 h
            cases h
  have blk40 : ∀ (τ : PvS) (xb2 : Int32) (xb3 : Int32) (xb4 : Int32) (xb5 : Int32) (ub6 : Nat) (xb7 : Int32), (τ.1 = σ.1) → (ub6 < pvM σ 5) → f_X9_addPart_40 τ xb2 xb3 xb4 xb5 ub6 xb7 = some (r, σ1) → ∀ (H : Heap) (locs : List Loc), pvW G τ H → va_S (pvB G) s.heap H locs → ∀ (ls : Array Slot), lv_has ls 9 [(0, .ref (G.2.2.1 9 0)), (2, .int xb2), (3, .int xb3), (4, .int xb4), (5, .int xb5), (6, .ref (G.2.2.1 5 ub6)), (7, .int xb7)] → W p l e (headSpec (Cond.code yX9_addPart cX9_addPart 9 (some .int) :: WA) ({ frames := 4, cells := 0, slots := 0, locals := 85 } : Room)).room s m ([.ref (G.2.2.1 9 0), .int x1, .int x2, .int x3, .int x4, .int x5] : List Value).toArray below meth c H locs 0 0 (MQ below (va_Qi (fun r' σ' => r' = r ∧ σ' = σ1 ∧ σ'.1 = σ.1) (pvU G tys) (pvB G)) ([.ref (G.2.2.1 9 0), .int x1, .int x2, .int x3, .int x4, .int x5] : List Value).toArray s 0 0 (pvB G)) (F0 m 40 ls []) := by
    intro τ xb2 xb3 xb4 xb5 ub6 xb7 hcτ hub6 h H locs hw hS ls hl
    unfold f_X9_addPart_40 at h
    refine lv_iconst (v := 0) hx hb dX9_addPart_40 (by decide) ?_
    exact blk41 τ xb2 xb3 xb4 xb5 ub6 xb7 0 hcτ hub6 h _ _ hw hS ls (lv_sub hl [0, 1, 2, 3, 4, 5, 6] rfl)
  have blk23 : ∀ (τ : PvS) (xb2 : Int32) (xb3 : Int32) (xb4 : Int32) (xb5 : Int32) (ub6 : Nat) (xbs0 : Int32), (τ.1 = σ.1) → (ub6 < pvM σ 5) → f_X9_addPart_23 τ xb2 xb3 xb4 xb5 ub6 xbs0 = some (r, σ1) → ∀ (H : Heap) (locs : List Loc), pvW G τ H → va_S (pvB G) s.heap H locs → ∀ (ls : Array Slot), lv_has ls 9 [(0, .ref (G.2.2.1 9 0)), (2, .int xb2), (3, .int xb3), (4, .int xb4), (5, .int xb5), (6, .ref (G.2.2.1 5 ub6))] → W p l e (headSpec (Cond.code yX9_addPart cX9_addPart 9 (some .int) :: WA) ({ frames := 4, cells := 0, slots := 0, locals := 85 } : Room)).room s m ([.ref (G.2.2.1 9 0), .int x1, .int x2, .int x3, .int x4, .int x5] : List Value).toArray below meth c H locs 0 0 (MQ below (va_Qi (fun r' σ' => r' = r ∧ σ' = σ1 ∧ σ'.1 = σ.1) (pvU G tys) (pvB G)) ([.ref (G.2.2.1 9 0), .int x1, .int x2, .int x3, .int x4, .int x5] : List Value).toArray s 0 0 (pvB G)) (F0 m 23 ls [.int xbs0]) := by
    intro τ xb2 xb3 xb4 xb5 ub6 xbs0 hcτ hub6 h H locs hw hS ls hl
    unfold f_X9_addPart_23 at h
    refine lv_istore (lv' := [(7, .int xbs0), (0, .ref (G.2.2.1 9 0)), (2, .int xb2), (3, .int xb3), (4, .int xb4), (5, .int xb5), (6, .ref (G.2.2.1 5 ub6))]) hx hb dX9_addPart_23 hl (by decide) rfl (fun ls hl => ?_)
    refine lv_iload_n hx hb dX9_addPart_25 rfl (lv_at hl 3 rfl) ?_
    refine lv_iconst (v := (-1)) hx hb dX9_addPart_26 (by decide) ?_
    refine lv_icmp_lt (tgt := 40) hx hb dX9_addPart_27 (by decide) (fun c18 => ?_) (fun c18 => ?_)
    · skip
      replace h := ite_p c18 h
      exact blk40 τ xb2 xb3 xb4 xb5 ub6 xbs0 hcτ hub6 h _ _ hw hS ls (lv_sub hl [1, 2, 3, 4, 5, 6, 0] rfl)
    · skip
      replace h := ite_n c18 h
      refine lv_iload_n hx hb dX9_addPart_30 rfl (lv_at hl 3 rfl) ?_
      refine lv_bipush (v := 7) hx hb dX9_addPart_31 (by decide) ?_
      refine lv_icmp_gt (tgt := 40) hx hb dX9_addPart_33 (by decide) (fun c19 => ?_) (fun c19 => ?_)
      · skip
        replace h := ite_p c19 h
        exact blk40 τ xb2 xb3 xb4 xb5 ub6 xbs0 hcτ hub6 h _ _ hw hS ls (lv_sub hl [1, 2, 3, 4, 5, 6, 0] rfl)
      · skip
        replace h := ite_n c19 h
        refine lv_iconst (v := 1) hx hb dX9_addPart_36 (by decide) ?_
        refine lv_goto (tgt := 41) hx hb dX9_addPart_37 (by decide) ?_
        exact blk41 τ xb2 xb3 xb4 xb5 ub6 xbs0 1 hcτ hub6 h _ _ hw hS ls (lv_sub hl [1, 2, 3, 4, 5, 6, 0] rfl)
  have blk22 : ∀ (τ : PvS) (xb2 : Int32) (xb3 : Int32) (xb4 : Int32) (xb5 : Int32) (ub6 : Nat), (τ.1 = σ.1) → (ub6 < pvM σ 5) → f_X9_addPart_22 τ xb2 xb3 xb4 xb5 ub6 = some (r, σ1) → ∀ (H : Heap) (locs : List Loc), pvW G τ H → va_S (pvB G) s.heap H locs → ∀ (ls : Array Slot), lv_has ls 9 [(0, .ref (G.2.2.1 9 0)), (2, .int xb2), (3, .int xb3), (4, .int xb4), (5, .int xb5), (6, .ref (G.2.2.1 5 ub6))] → W p l e (headSpec (Cond.code yX9_addPart cX9_addPart 9 (some .int) :: WA) ({ frames := 4, cells := 0, slots := 0, locals := 85 } : Room)).room s m ([.ref (G.2.2.1 9 0), .int x1, .int x2, .int x3, .int x4, .int x5] : List Value).toArray below meth c H locs 0 0 (MQ below (va_Qi (fun r' σ' => r' = r ∧ σ' = σ1 ∧ σ'.1 = σ.1) (pvU G tys) (pvB G)) ([.ref (G.2.2.1 9 0), .int x1, .int x2, .int x3, .int x4, .int x5] : List Value).toArray s 0 0 (pvB G)) (F0 m 22 ls []) := by
    intro τ xb2 xb3 xb4 xb5 ub6 hcτ hub6 h H locs hw hS ls hl
    unfold f_X9_addPart_22 at h
    refine lv_iconst (v := 0) hx hb dX9_addPart_22 (by decide) ?_
    exact blk23 τ xb2 xb3 xb4 xb5 ub6 0 hcτ hub6 h _ _ hw hS ls (lv_sub hl [0, 1, 2, 3, 4, 5] rfl)
  refine lv_aload_n hx hb dX9_addPart_0 rfl (lv_at hl 0 rfl) ?_
  refine lv_iload_n hx hb dX9_addPart_1 rfl (lv_at hl 1 rfl) ?_
  obtain ⟨r20, e21, h⟩ := ob1_e h
  refine pcallq (va_runV (As := [.int x1]) (rest := []) ⟨hx, hb, hml, hown, hts⟩ (c_X9_ruleAt (l := l) (G := G) (tys := tys) (σ := σ) htys  e21) (cwV 1 hts (gVA wm381 wm382 wm383 wm2 wm384) rfl rfl rfl (by decide +kernel) ⟨(Nat.le_of_ble_eq_true rfl), (Nat.le_of_ble_eq_true rfl)⟩) (pv_preV hA hS hw hK 9 0 Nat.one_pos (by decide) rfl [.int x1]) rfl rfl hl.1 rfl (lv_room (Nat.le_of_ble_eq_true rfl)) dX9_addPart_2 ⟨Nat.zero_le _, Nat.zero_le _⟩) hS (fun r23 s24 H locs hp22 hw hS => ?_)
  obtain ⟨err20, esr20, hzr20⟩ := hp22
  obtain rfl := esr20.symm
  subst err20
  refine lv_astore (lv' := [(6, .ref (G.2.2.1 5 r20)), (0, .ref (G.2.2.1 9 0)), (1, .int x1), (2, .int x2), (3, .int x3), (4, .int x4), (5, .int x5)]) hx hb dX9_addPart_5 hl (by decide) rfl (fun ls hl => ?_)
  refine lv_iload_n hx hb dX9_addPart_7 rfl (lv_at hl 3 rfl) ?_
  refine lv_iconst (v := (-1)) hx hb dX9_addPart_8 (by decide) ?_
  refine lv_icmp_lt (tgt := 22) hx hb dX9_addPart_9 (by decide) (fun c25 => ?_) (fun c25 => ?_)
  · skip
    replace h := ite_p c25 h
    exact blk22 σ x2 x3 x4 x5 r20 rfl hzr20 h _ _ hw hS ls (lv_sub hl [1, 3, 4, 5, 6, 0] rfl)
  · skip
    replace h := ite_n c25 h
    refine lv_iload_n hx hb dX9_addPart_12 rfl (lv_at hl 3 rfl) ?_
    refine lv_bipush (v := 7) hx hb dX9_addPart_13 (by decide) ?_
    refine lv_icmp_gt (tgt := 22) hx hb dX9_addPart_15 (by decide) (fun c26 => ?_) (fun c26 => ?_)
    · skip
      replace h := ite_p c26 h
      exact blk22 σ x2 x3 x4 x5 r20 rfl hzr20 h _ _ hw hS ls (lv_sub hl [1, 3, 4, 5, 6, 0] rfl)
    · skip
      replace h := ite_n c26 h
      refine lv_iconst (v := 1) hx hb dX9_addPart_18 (by decide) ?_
      refine lv_goto (tgt := 23) hx hb dX9_addPart_19 (by decide) ?_
      exact blk23 σ x2 x3 x4 x5 r20 1 rfl hzr20 h _ _ hw hS ls (lv_sub hl [1, 3, 4, 5, 6, 0] rfl)
def f_X9_turn (σ : PvS) (x1 : Int32) : Option (Int32 × PvS) :=
  ob1 (f_X9_ruleAt σ x1) (fun r1 => ob1 (f_X9_forgetWhatWasWorkedOut σ) (fun σ7 => if (σ7.2.1 5 9 r1) = 0 then (nm (pvI σ7 5 9 r1 1) (fun σ15 => gd (is01 (σ15.2.1 5 9 r1)) (some (σ15.2.1 5 9 r1, σ15)))) else (nm (pvI σ7 5 9 r1 0) (fun σ13 => gd (is01 (σ13.2.1 5 9 r1)) (some (σ13.2.1 5 9 r1, σ13))))))
set_option maxHeartbeats 4000000 in
set_option maxRecDepth 100000 in
theorem c_X9_turn {l : Launch} {G : PvG} {tys : List (ClassId × FieldType)} {σ : PvS} (htys : tys = pvT G)  {x1 : Int32}  {r : Int32} {σ1 : PvS} (h : f_X9_turn σ x1 = some (r, σ1)) : Met l yX9_turn (Cond.code yX9_turn cX9_turn 3 (some .boolean) :: WA) ({ frames := 4, cells := 0, slots := 0, locals := 85 }) (va_Pc [.ref (G.2.2.1 9 0), .int x1] (pvU G tys σ)) (va_Qi (fun r' σ' => r' = r ∧ σ' = σ1 ∧ σ'.1 = σ.1 ∧ is01 r') (pvU G tys) (pvB G)) 0 0 (pvB G) := by
  refine Met.ofW (cc := cX9_turn) (maxL := 3) (ret := (some .boolean)) (by decide) rfl ?_
  intro p e s m args below meth c s₁ B hml hv
  obtain ⟨rfl, hw, hK, hA⟩ := hv
  have hx := B.exec
  have hb := B.bytes
  have hr := B.returns
  have hts0 := atoms_spec (ws := (Cond.code yX9_turn cX9_turn 3 (some .boolean) :: WA)) B.pre
  have hts : ∀ w ∈ WA, w.before _ s = true := fun w h => hts0 w (List.mem_cons_of_mem _ h)
  have hown : s.vm.findClass RX9 = some m.cls := findClass_of_methodNamed B.named
  have hlocks := B.notSynchronized
  have hS : va_S (pvB G) s.heap s.heap [] := va_S.rf
  have hl := lv_entry ([.ref (G.2.2.1 9 0), .int x1]) (n := 3) (Nat.le_of_ble_eq_true rfl)
  rw [lg_entry_eq]
  generalize (lg_sl ([.ref (G.2.2.1 9 0), .int x1]) ++ List.replicate (3 - (lg_sl ([.ref (G.2.2.1 9 0), .int x1])).length) Slot.unset).toArray = ls at hl ⊢
  have hl : lv_has ls 3 [(0, .ref (G.2.2.1 9 0)), (1, .int x1)] := hl
  have hroot := pv_root hw
  unfold f_X9_turn at h
  refine lv_aload_n hx hb dX9_turn_0 rfl (lv_at hl 0 rfl) ?_
  refine lv_iload_n hx hb dX9_turn_1 rfl (lv_at hl 1 rfl) ?_
  obtain ⟨r1, e2, h⟩ := ob1_e h
  refine pcallq (va_runV (As := [.int x1]) (rest := []) ⟨hx, hb, hml, hown, hts⟩ (c_X9_ruleAt (l := l) (G := G) (tys := tys) (σ := σ) htys  e2) (cwV 1 hts (gVA wm381 wm382 wm383 wm2 wm384) rfl rfl rfl (by decide +kernel) ⟨(Nat.le_of_ble_eq_true rfl), (Nat.le_of_ble_eq_true rfl)⟩) (pv_preV hA hS hw hK 9 0 Nat.one_pos (by decide) rfl [.int x1]) rfl rfl hl.1 rfl (lv_room (Nat.le_of_ble_eq_true rfl)) dX9_turn_2 ⟨Nat.zero_le _, Nat.zero_le _⟩) hS (fun r4 s5 H locs hp3 hw hS => ?_)
  obtain ⟨err1, esr1, hzr1⟩ := hp3
  obtain rfl := esr1.symm
  subst err1
  refine lv_astore_n (lv' := [(2, .ref (G.2.2.1 5 r1)), (0, .ref (G.2.2.1 9 0)), (1, .int x1)]) hx hb dX9_turn_5 rfl hl (by decide) rfl (fun ls hl => ?_)
  refine lv_aload_n hx hb dX9_turn_6 rfl (lv_at hl 1 rfl) ?_
  obtain ⟨σ7, e8, h⟩ := ob1_e h
  refine pcallv (va_runV (As := []) (rest := []) ⟨hx, hb, hml, hown, hts⟩ (c_X9_forgetWhatWasWorkedOut (l := l) (G := G) (tys := tys) (σ := σ) htys  e8) (cwV 0 hts (gVA wm279 wm280 wm281 wm2 wm282) rfl rfl rfl (by decide +kernel) ⟨(Nat.le_of_ble_eq_true rfl), (Nat.le_of_ble_eq_true rfl)⟩) (pv_preV hA hS hw hK 9 0 Nat.one_pos (by decide) rfl []) rfl rfl hl.1 rfl (lv_room (Nat.le_of_ble_eq_true rfl)) dX9_turn_7 ⟨Nat.zero_le _, Nat.zero_le _⟩) hS (fun s11 H locs hp9 hw hS => ?_)
  obtain ⟨esσ7, hdσ7⟩ := hp9
  obtain rfl := esσ7.symm
  have hcσ7 : σ7.1 = σ.1 := hdσ7
  refine lv_aload_n hx hb dX9_turn_10 rfl (lv_at hl 0 rfl) ?_
  refine lv_aload_n hx hb dX9_turn_11 rfl (lv_at hl 0 rfl) ?_
  refine pgI (C := RX5) (T := TX5) (N := 10) hx hb hts hown hK hw 5 9 r1 (lt_c hcσ7 5 hzr1) (by decide) rfl rfl inF_X5 (by decide) rfl (hts _ wm899) (fun _ h9 => h9) dX9_turn_12 ?_
  refine lv_if_ne (tgt := 22) hx hb dX9_turn_15 (by decide) (fun c12 => ?_) (fun c12 => ?_)
  · skip
    replace h := ite_n c12 h
    refine lv_iconst (v := 0) hx hb dX9_turn_22 (by decide) ?_
    obtain ⟨σ13, eσ13, h⟩ := nq_e h
    refine ppI (ty := .boolean) (C := RX5) (T := TX5) (N := 10) hx hb hts hown hK hw hS 5 9 r1 (lt_c hcσ7 5 hzr1) (by decide) rfl rfl inF_X5 (by decide) rfl (by decide) tyX5_ok nmX5 (hts _ wm899) (fun _ h9 => h9) rfl (by decide +kernel) (is01_nar (Or.inl rfl)) (is01_fit (Or.inl rfl)) dX9_turn_23 (fun H locs hw hS => ?_)
    rw [← eσ13] at hw
    have hcσ13 : σ13.1 = σ.1 := by rw [eσ13]; exact hcσ7
    refine lv_aload_n hx hb dX9_turn_26 rfl (lv_at hl 0 rfl) ?_
    refine pgI (C := RX5) (T := TX5) (N := 10) hx hb hts hown hK hw 5 9 r1 (lt_c hcσ13 5 hzr1) (by decide) rfl rfl inF_X5 (by decide) rfl (hts _ wm899) (fun _ h9 => h9) dX9_turn_27 ?_
    obtain ⟨g14, h⟩ := gd_e h
    exact pez hx hb hr (is01_nar g14) hlocks hA hw hK hS ⟨(pst h hcσ13).1, (pst h hcσ13).2.1, (pst h hcσ13).2.2, g14⟩ dX9_turn_30
  · skip
    replace h := ite_p c12 h
    refine lv_iconst (v := 1) hx hb dX9_turn_18 (by decide) ?_
    refine lv_goto (tgt := 23) hx hb dX9_turn_19 (by decide) ?_
    obtain ⟨σ15, eσ15, h⟩ := nq_e h
    refine ppI (ty := .boolean) (C := RX5) (T := TX5) (N := 10) hx hb hts hown hK hw hS 5 9 r1 (lt_c hcσ7 5 hzr1) (by decide) rfl rfl inF_X5 (by decide) rfl (by decide) tyX5_ok nmX5 (hts _ wm899) (fun _ h9 => h9) rfl (by decide +kernel) (is01_nar (Or.inr rfl)) (is01_fit (Or.inr rfl)) dX9_turn_23 (fun H locs hw hS => ?_)
    rw [← eσ15] at hw
    have hcσ15 : σ15.1 = σ.1 := by rw [eσ15]; exact hcσ7
    refine lv_aload_n hx hb dX9_turn_26 rfl (lv_at hl 0 rfl) ?_
    refine pgI (C := RX5) (T := TX5) (N := 10) hx hb hts hown hK hw 5 9 r1 (lt_c hcσ15 5 hzr1) (by decide) rfl rfl inF_X5 (by decide) rfl (hts _ wm899) (fun _ h9 => h9) dX9_turn_27 ?_
    obtain ⟨g16, h⟩ := gd_e h
    exact pez hx hb hr (is01_nar g16) hlocks hA hw hK hS ⟨(pst h hcσ15).1, (pst h hcσ15).2.1, (pst h hcσ15).2.2, g16⟩ dX9_turn_30
def f_X9_declare_76  (τ : PvS) (xb2 : Int32) (xb3 : Int32) (ub4 : Nat) : Option (Int32 × PvS) :=
  ob1 (f_X9_forgetWhatWasWorkedOut τ) (fun σ2 => ob1 (f_X3_declaredOf σ2 ub4 xb2) (fun r7 => ob1 (f_X3_setDeclared σ2 ub4 xb2 xb3) (fun σ13 => some (r7, σ13))))
def f_X9_declare_43  (τ : PvS) (xb2 : Int32) (xb3 : Int32) (ub4 : Nat) (xbs0 : Int32) : Option (Int32 × PvS) :=
  if (τ.2.1 3 1 ub4) = 0 then (if xbs0 = 0 then (ob1 (f_X9_isValueOf τ xb2 xb3) (fun r20 => if r20 = 0 then (none) else (f_X9_declare_76 τ xb2 xb3 ub4))) else (f_X9_declare_76 τ xb2 xb3 ub4)) else (none)
def f_X9_declare_38  (τ : PvS) (xb2 : Int32) (xb3 : Int32) (ub4 : Nat) : Option (Int32 × PvS) :=
  f_X9_declare_43 τ xb2 xb3 ub4 1
def f_X9_declare (σ : PvS) (x1 : Int32) (x2 : Int32) (x3 : Int32) : Option (Int32 × PvS) :=
  ob1 (f_X9_nodeAt σ x1) (fun r26 => ob1 (f_X9_isProperty σ x2) (fun r31 => if r31 = 0 then (none) else (if x3 = 9998 then (f_X9_declare_38 σ x2 x3 r26) else (if x3 = 9999 then (f_X9_declare_38 σ x2 x3 r26) else (f_X9_declare_43 σ x2 x3 r26 0)))))
set_option maxHeartbeats 4000000 in
set_option maxRecDepth 100000 in
theorem c_X9_declare {l : Launch} {G : PvG} {tys : List (ClassId × FieldType)} {σ : PvS} (htys : tys = pvT G)  {x1 : Int32} {x2 : Int32} {x3 : Int32}  {r : Int32} {σ1 : PvS} (h : f_X9_declare σ x1 x2 x3 = some (r, σ1)) : Met l yX9_declare (Cond.code yX9_declare cX9_declare 7 (some .int) :: WA) ({ frames := 5, cells := 0, slots := 0, locals := 106 }) (va_Pc [.ref (G.2.2.1 9 0), .int x1, .int x2, .int x3] (pvU G tys σ)) (va_Qi (fun r' σ' => r' = r ∧ σ' = σ1 ∧ σ'.1 = σ.1) (pvU G tys) (pvB G)) 0 0 (pvB G) := by
  refine Met.ofW (cc := cX9_declare) (maxL := 7) (ret := (some .int)) (by decide) rfl ?_
  intro p e s m args below meth c s₁ B hml hv
  obtain ⟨rfl, hw, hK, hA⟩ := hv
  have hx := B.exec
  have hb := B.bytes
  have hr := B.returns
  have hts0 := atoms_spec (ws := (Cond.code yX9_declare cX9_declare 7 (some .int) :: WA)) B.pre
  have hts : ∀ w ∈ WA, w.before _ s = true := fun w h => hts0 w (List.mem_cons_of_mem _ h)
  have hown : s.vm.findClass RX9 = some m.cls := findClass_of_methodNamed B.named
  have hlocks := B.notSynchronized
  have hS : va_S (pvB G) s.heap s.heap [] := va_S.rf
  have hl := lv_entry ([.ref (G.2.2.1 9 0), .int x1, .int x2, .int x3]) (n := 7) (Nat.le_of_ble_eq_true rfl)
  rw [lg_entry_eq]
  generalize (lg_sl ([.ref (G.2.2.1 9 0), .int x1, .int x2, .int x3]) ++ List.replicate (7 - (lg_sl ([.ref (G.2.2.1 9 0), .int x1, .int x2, .int x3])).length) Slot.unset).toArray = ls at hl ⊢
  have hl : lv_has ls 7 [(0, .ref (G.2.2.1 9 0)), (1, .int x1), (2, .int x2), (3, .int x3)] := hl
  have hroot := pv_root hw
  unfold f_X9_declare at h
  have blk76 : ∀ (τ : PvS) (xb2 : Int32) (xb3 : Int32) (ub4 : Nat), (τ.1 = σ.1) → (ub4 < pvM σ 3) → f_X9_declare_76 τ xb2 xb3 ub4 = some (r, σ1) → ∀ (H : Heap) (locs : List Loc), pvW G τ H → va_S (pvB G) s.heap H locs → ∀ (ls : Array Slot), lv_has ls 7 [(0, .ref (G.2.2.1 9 0)), (2, .int xb2), (3, .int xb3), (4, .ref (G.2.2.1 3 ub4))] → W p l e (headSpec (Cond.code yX9_declare cX9_declare 7 (some .int) :: WA) ({ frames := 5, cells := 0, slots := 0, locals := 106 } : Room)).room s m ([.ref (G.2.2.1 9 0), .int x1, .int x2, .int x3] : List Value).toArray below meth c H locs 0 0 (MQ below (va_Qi (fun r' σ' => r' = r ∧ σ' = σ1 ∧ σ'.1 = σ.1) (pvU G tys) (pvB G)) ([.ref (G.2.2.1 9 0), .int x1, .int x2, .int x3] : List Value).toArray s 0 0 (pvB G)) (F0 m 76 ls []) := by
    intro τ xb2 xb3 ub4 hcτ hub4 h H locs hw hS ls hl
    unfold f_X9_declare_76 at h
    refine lv_aload_n hx hb dX9_declare_76 rfl (lv_at hl 0 rfl) ?_
    obtain ⟨σ2, e3, h⟩ := ob1_e h
    refine pcallv (va_runV (As := []) (rest := []) ⟨hx, hb, hml, hown, hts⟩ (c_X9_forgetWhatWasWorkedOut (l := l) (G := G) (tys := tys) (σ := τ) htys  e3) (cwV 0 hts (gVA wm279 wm280 wm281 wm2 wm282) rfl rfl rfl (by decide +kernel) ⟨(Nat.le_of_ble_eq_true rfl), (Nat.le_of_ble_eq_true rfl)⟩) (pv_preV hA hS hw hK 9 0 Nat.one_pos (by decide) rfl []) rfl rfl hl.1 rfl (lv_room (Nat.le_of_ble_eq_true rfl)) dX9_declare_77 ⟨Nat.zero_le _, Nat.zero_le _⟩) hS (fun s6 H locs hp4 hw hS => ?_)
    obtain ⟨esσ2, hdσ2⟩ := hp4
    obtain rfl := esσ2.symm
    have hcσ2 : σ2.1 = σ.1 := hdσ2.trans hcτ
    refine lv_aload hx hb dX9_declare_80 (lv_at hl 3 rfl) ?_
    refine lv_iload_n hx hb dX9_declare_82 rfl (lv_at hl 1 rfl) ?_
    obtain ⟨r7, e8, h⟩ := ob1_e h
    refine pcalli (va_runV (As := [.int xb2]) (rest := []) ⟨hx, hb, hml, hown, hts⟩ (c_X3_declaredOf (l := l) (G := G) (tys := tys) (σ := σ2) htys (lt_c hcσ2 3 hub4) e8) (cwV 1 hts (gVA wm345 wm346 wm347 wm42 wm348) rfl rfl rfl (by decide +kernel) ⟨(Nat.le_of_ble_eq_true rfl), (Nat.le_of_ble_eq_true rfl)⟩) (pv_preV hA hS hw hK 3 ub4 (lt_c hcσ2 3 hub4) (by decide) rfl [.int xb2]) rfl rfl hl.1 rfl (lv_room (Nat.le_of_ble_eq_true rfl)) dX9_declare_83 ⟨Nat.zero_le _, Nat.zero_le _⟩) hS (fun r10 s11 H locs hp9 hw hS => ?_)
    obtain ⟨err7, esr7⟩ := hp9
    obtain rfl := esr7.symm
    obtain rfl := err7.symm
    refine lv_istore (lv' := [(6, .int r7), (0, .ref (G.2.2.1 9 0)), (2, .int xb2), (3, .int xb3), (4, .ref (G.2.2.1 3 ub4))]) hx hb dX9_declare_86 hl (by decide) rfl (fun ls hl => ?_)
    refine lv_aload hx hb dX9_declare_88 (lv_at hl 4 rfl) ?_
    refine lv_iload_n hx hb dX9_declare_90 rfl (lv_at hl 2 rfl) ?_
    refine lv_iload_n hx hb dX9_declare_91 rfl (lv_at hl 3 rfl) ?_
    obtain ⟨σ13, e14, h⟩ := ob1_e h
    refine pcallv (va_runV (As := [.int xb2, .int xb3]) (rest := []) ⟨hx, hb, hml, hown, hts⟩ (c_X3_setDeclared (l := l) (G := G) (tys := tys) (σ := σ2) htys (lt_c hcσ2 3 hub4) e14) (cwV 2 hts (gVA wm349 wm350 wm351 wm42 wm352) rfl rfl rfl (by decide +kernel) ⟨(Nat.le_of_ble_eq_true rfl), (Nat.le_of_ble_eq_true rfl)⟩) (pv_preV hA hS hw hK 3 ub4 (lt_c hcσ2 3 hub4) (by decide) rfl [.int xb2, .int xb3]) rfl rfl hl.1 rfl (lv_room (Nat.le_of_ble_eq_true rfl)) dX9_declare_92 ⟨Nat.zero_le _, Nat.zero_le _⟩) hS (fun s17 H locs hp15 hw hS => ?_)
    obtain ⟨esσ13, hdσ13⟩ := hp15
    obtain rfl := esσ13.symm
    have hcσ13 : σ13.1 = σ.1 := hdσ13.trans hcσ2
    refine lv_iload hx hb dX9_declare_95 (lv_at hl 0 rfl) ?_
    exact pei hx hb hr hlocks hA hw hK hS (pst h hcσ13) dX9_declare_97
  have blk43 : ∀ (τ : PvS) (xb2 : Int32) (xb3 : Int32) (ub4 : Nat) (xbs0 : Int32), (τ.1 = σ.1) → (ub4 < pvM σ 3) → f_X9_declare_43 τ xb2 xb3 ub4 xbs0 = some (r, σ1) → ∀ (H : Heap) (locs : List Loc), pvW G τ H → va_S (pvB G) s.heap H locs → ∀ (ls : Array Slot), lv_has ls 7 [(0, .ref (G.2.2.1 9 0)), (2, .int xb2), (3, .int xb3), (4, .ref (G.2.2.1 3 ub4))] → W p l e (headSpec (Cond.code yX9_declare cX9_declare 7 (some .int) :: WA) ({ frames := 5, cells := 0, slots := 0, locals := 106 } : Room)).room s m ([.ref (G.2.2.1 9 0), .int x1, .int x2, .int x3] : List Value).toArray below meth c H locs 0 0 (MQ below (va_Qi (fun r' σ' => r' = r ∧ σ' = σ1 ∧ σ'.1 = σ.1) (pvU G tys) (pvB G)) ([.ref (G.2.2.1 9 0), .int x1, .int x2, .int x3] : List Value).toArray s 0 0 (pvB G)) (F0 m 43 ls [.int xbs0]) := by
    intro τ xb2 xb3 ub4 xbs0 hcτ hub4 h H locs hw hS ls hl
    unfold f_X9_declare_43 at h
    refine lv_istore (lv' := [(5, .int xbs0), (0, .ref (G.2.2.1 9 0)), (2, .int xb2), (3, .int xb3), (4, .ref (G.2.2.1 3 ub4))]) hx hb dX9_declare_43 hl (by decide) rfl (fun ls hl => ?_)
    refine lv_aload hx hb dX9_declare_45 (lv_at hl 4 rfl) ?_
    refine pgI (C := RX3) (T := TX3) (N := 14) hx hb hts hown hK hw 3 1 ub4 (lt_c hcτ 3 hub4) (by decide) rfl rfl inF_X3 (by decide) rfl (hts _ wm235) (fun _ h9 => h9) dX9_declare_47 ?_
    refine lv_if_ne (tgt := 66) hx hb dX9_declare_50 (by decide) (fun c18 => ?_) (fun c18 => ?_)
    · skip
      replace h := ite_n c18 h
      cases h
    · skip
      replace h := ite_p c18 h
      refine lv_iload hx hb dX9_declare_53 (lv_at hl 0 rfl) ?_
      refine lv_if_ne (tgt := 76) hx hb dX9_declare_55 (by decide) (fun c19 => ?_) (fun c19 => ?_)
      · skip
        replace h := ite_n c19 h
        exact blk76 τ xb2 xb3 ub4 hcτ hub4 h _ _ hw hS ls (lv_sub hl [1, 2, 3, 4] rfl)
      · skip
        replace h := ite_p c19 h
        refine lv_iload_n hx hb dX9_declare_58 rfl (lv_at hl 2 rfl) ?_
        refine lv_iload_n hx hb dX9_declare_59 rfl (lv_at hl 3 rfl) ?_
        obtain ⟨r20, e21, h⟩ := ob1_e h
        refine pcalli (va_runS (As := [.int xb2, .int xb3]) (rest := []) ⟨hx, hb, hml, hown, hts⟩ (c_X9_isValueOf (l := l) (G := G) (tys := tys) (σ := τ) htys  e21) (va_cwS 2 hts (gSA wm340 wm341 wm2 wm342) rfl rfl rfl (by decide +kernel) ⟨(Nat.le_of_ble_eq_true rfl), (Nat.le_of_ble_eq_true rfl)⟩) (pv_preS hA hS hw hK [.int xb2, .int xb3]) rfl rfl hl.1 rfl (lv_room (Nat.le_of_ble_eq_true rfl)) dX9_declare_60 ⟨Nat.zero_le _, Nat.zero_le _⟩) hS (fun r23 s24 H locs hp22 hw hS => ?_)
        obtain ⟨err20, esr20, hzr20⟩ := hp22
        obtain rfl := esr20.symm
        obtain rfl := err20.symm
        refine lv_if_ne (tgt := 76) hx hb dX9_declare_63 (by decide) (fun c25 => ?_) (fun c25 => ?_)
        · skip
          replace h := ite_n c25 h
          exact blk76 τ xb2 xb3 ub4 hcτ hub4 h _ _ hw hS ls (lv_sub hl [1, 2, 3, 4] rfl)
        · skip
          replace h := ite_p c25 h
          cases h
  have blk38 : ∀ (τ : PvS) (xb2 : Int32) (xb3 : Int32) (ub4 : Nat), (τ.1 = σ.1) → (ub4 < pvM σ 3) → f_X9_declare_38 τ xb2 xb3 ub4 = some (r, σ1) → ∀ (H : Heap) (locs : List Loc), pvW G τ H → va_S (pvB G) s.heap H locs → ∀ (ls : Array Slot), lv_has ls 7 [(0, .ref (G.2.2.1 9 0)), (2, .int xb2), (3, .int xb3), (4, .ref (G.2.2.1 3 ub4))] → W p l e (headSpec (Cond.code yX9_declare cX9_declare 7 (some .int) :: WA) ({ frames := 5, cells := 0, slots := 0, locals := 106 } : Room)).room s m ([.ref (G.2.2.1 9 0), .int x1, .int x2, .int x3] : List Value).toArray below meth c H locs 0 0 (MQ below (va_Qi (fun r' σ' => r' = r ∧ σ' = σ1 ∧ σ'.1 = σ.1) (pvU G tys) (pvB G)) ([.ref (G.2.2.1 9 0), .int x1, .int x2, .int x3] : List Value).toArray s 0 0 (pvB G)) (F0 m 38 ls []) := by
    intro τ xb2 xb3 ub4 hcτ hub4 h H locs hw hS ls hl
    unfold f_X9_declare_38 at h
    refine lv_iconst (v := 1) hx hb dX9_declare_38 (by decide) ?_
    refine lv_goto (tgt := 43) hx hb dX9_declare_39 (by decide) ?_
    exact blk43 τ xb2 xb3 ub4 1 hcτ hub4 h _ _ hw hS ls (lv_sub hl [0, 1, 2, 3] rfl)
  refine lv_aload_n hx hb dX9_declare_0 rfl (lv_at hl 0 rfl) ?_
  refine lv_iload_n hx hb dX9_declare_1 rfl (lv_at hl 1 rfl) ?_
  obtain ⟨r26, e27, h⟩ := ob1_e h
  refine pcallq (va_runV (As := [.int x1]) (rest := []) ⟨hx, hb, hml, hown, hts⟩ (c_X9_nodeAt (l := l) (G := G) (tys := tys) (σ := σ) htys  e27) (cwV 1 hts (gVA wm236 wm237 wm238 wm2 wm239) rfl rfl rfl (by decide +kernel) ⟨(Nat.le_of_ble_eq_true rfl), (Nat.le_of_ble_eq_true rfl)⟩) (pv_preV hA hS hw hK 9 0 Nat.one_pos (by decide) rfl [.int x1]) rfl rfl hl.1 rfl (lv_room (Nat.le_of_ble_eq_true rfl)) dX9_declare_2 ⟨Nat.zero_le _, Nat.zero_le _⟩) hS (fun r29 s30 H locs hp28 hw hS => ?_)
  obtain ⟨err26, esr26, hzr26⟩ := hp28
  obtain rfl := esr26.symm
  subst err26
  refine lv_astore (lv' := [(4, .ref (G.2.2.1 3 r26)), (0, .ref (G.2.2.1 9 0)), (1, .int x1), (2, .int x2), (3, .int x3)]) hx hb dX9_declare_5 hl (by decide) rfl (fun ls hl => ?_)
  refine lv_iload_n hx hb dX9_declare_7 rfl (lv_at hl 3 rfl) ?_
  obtain ⟨r31, e32, h⟩ := ob1_e h
  refine pcalli (va_runS (As := [.int x2]) (rest := []) ⟨hx, hb, hml, hown, hts⟩ (c_X9_isProperty (l := l) (G := G) (tys := tys) (σ := σ) htys  e32) (va_cwS 1 hts (gSA wm337 wm338 wm2 wm339) rfl rfl rfl (by decide +kernel) ⟨(Nat.le_of_ble_eq_true rfl), (Nat.le_of_ble_eq_true rfl)⟩) (pv_preS hA hS hw hK [.int x2]) rfl rfl hl.1 rfl (lv_room (Nat.le_of_ble_eq_true rfl)) dX9_declare_8 ⟨Nat.zero_le _, Nat.zero_le _⟩) hS (fun r34 s35 H locs hp33 hw hS => ?_)
  obtain ⟨err31, esr31, hzr31⟩ := hp33
  obtain rfl := esr31.symm
  obtain rfl := err31.symm
  refine lv_if_ne (tgt := 24) hx hb dX9_declare_11 (by decide) (fun c36 => ?_) (fun c36 => ?_)
  · skip
    replace h := ite_n c36 h
    refine lv_iload_n hx hb dX9_declare_24 rfl (lv_at hl 4 rfl) ?_
    refine lv_sipush (v := 9998) hx hb dX9_declare_25 (by decide) ?_
    refine lv_icmp_eq (tgt := 38) hx hb dX9_declare_28 (by decide) (fun c37 => ?_) (fun c37 => ?_)
    · skip
      replace h := ite_p c37 h
      exact blk38 σ x2 x3 r26 rfl hzr26 h _ _ hw hS ls (lv_sub hl [1, 3, 4, 0] rfl)
    · skip
      replace h := ite_n c37 h
      refine lv_iload_n hx hb dX9_declare_31 rfl (lv_at hl 4 rfl) ?_
      refine lv_sipush (v := 9999) hx hb dX9_declare_32 (by decide) ?_
      refine lv_icmp_ne (tgt := 42) hx hb dX9_declare_35 (by decide) (fun c38 => ?_) (fun c38 => ?_)
      · skip
        replace h := ite_n c38 h
        refine lv_iconst (v := 0) hx hb dX9_declare_42 (by decide) ?_
        exact blk43 σ x2 x3 r26 0 rfl hzr26 h _ _ hw hS ls (lv_sub hl [1, 3, 4, 0] rfl)
      · skip
        replace h := ite_p c38 h
        exact blk38 σ x2 x3 r26 rfl hzr26 h _ _ hw hS ls (lv_sub hl [1, 3, 4, 0] rfl)
  · skip
    replace h := ite_p c36 h
    cases h
def f_X9_setView (σ : PvS) (x1 : Int32) : Option (Int32 × PvS) :=
  ob1 (f_X9_isViewWidth σ x1) (fun r1 => if r1 = 0 then (none) else (nm (pvI σ 9 5 0 x1) (fun σ7 => some (σ.2.1 9 5 0, σ7))))
set_option maxHeartbeats 4000000 in
set_option maxRecDepth 100000 in
theorem c_X9_setView {l : Launch} {G : PvG} {tys : List (ClassId × FieldType)} {σ : PvS} (htys : tys = pvT G)  {x1 : Int32}  {r : Int32} {σ1 : PvS} (h : f_X9_setView σ x1 = some (r, σ1)) : Met l yX9_setView (Cond.code yX9_setView cX9_setView 3 (some .int) :: WA) ({ frames := 1, cells := 0, slots := 0, locals := 20 }) (va_Pc [.ref (G.2.2.1 9 0), .int x1] (pvU G tys σ)) (va_Qi (fun r' σ' => r' = r ∧ σ' = σ1 ∧ σ'.1 = σ.1) (pvU G tys) (pvB G)) 0 0 (pvB G) := by
  refine Met.ofW (cc := cX9_setView) (maxL := 3) (ret := (some .int)) (by decide) rfl ?_
  intro p e s m args below meth c s₁ B hml hv
  obtain ⟨rfl, hw, hK, hA⟩ := hv
  have hx := B.exec
  have hb := B.bytes
  have hr := B.returns
  have hts0 := atoms_spec (ws := (Cond.code yX9_setView cX9_setView 3 (some .int) :: WA)) B.pre
  have hts : ∀ w ∈ WA, w.before _ s = true := fun w h => hts0 w (List.mem_cons_of_mem _ h)
  have hown : s.vm.findClass RX9 = some m.cls := findClass_of_methodNamed B.named
  have hlocks := B.notSynchronized
  have hS : va_S (pvB G) s.heap s.heap [] := va_S.rf
  have hl := lv_entry ([.ref (G.2.2.1 9 0), .int x1]) (n := 3) (Nat.le_of_ble_eq_true rfl)
  rw [lg_entry_eq]
  generalize (lg_sl ([.ref (G.2.2.1 9 0), .int x1]) ++ List.replicate (3 - (lg_sl ([.ref (G.2.2.1 9 0), .int x1])).length) Slot.unset).toArray = ls at hl ⊢
  have hl : lv_has ls 3 [(0, .ref (G.2.2.1 9 0)), (1, .int x1)] := hl
  have hroot := pv_root hw
  unfold f_X9_setView at h
  refine lv_iload_n hx hb dX9_setView_0 rfl (lv_at hl 1 rfl) ?_
  obtain ⟨r1, e2, h⟩ := ob1_e h
  refine pcalli (va_runS (As := [.int x1]) (rest := []) ⟨hx, hb, hml, hown, hts⟩ (c_X9_isViewWidth (l := l) (G := G) (tys := tys) (σ := σ) htys  e2) (va_cwS 1 hts (gSA wm814 wm815 wm2 wm816) rfl rfl rfl (by decide +kernel) ⟨(Nat.le_of_ble_eq_true rfl), (Nat.le_of_ble_eq_true rfl)⟩) (pv_preS hA hS hw hK [.int x1]) rfl rfl hl.1 rfl (lv_room (Nat.le_of_ble_eq_true rfl)) dX9_setView_1 ⟨Nat.zero_le _, Nat.zero_le _⟩) hS (fun r4 s5 H locs hp3 hw hS => ?_)
  obtain ⟨err1, esr1, hzr1⟩ := hp3
  obtain rfl := esr1.symm
  obtain rfl := err1.symm
  refine lv_if_ne (tgt := 17) hx hb dX9_setView_4 (by decide) (fun c6 => ?_) (fun c6 => ?_)
  · skip
    replace h := ite_n c6 h
    refine lv_aload_n hx hb dX9_setView_17 rfl (lv_at hl 0 rfl) ?_
    refine pgI (C := RX9) (T := TX9) (N := 6) hx hb hts hown hK hw 9 5 0 Nat.one_pos (by decide) rfl rfl inF_X9 (by decide) rfl (hts _ wm25) (fun _ h9 => h9) dX9_setView_18 ?_
    refine lv_istore_n (lv' := [(2, .int (σ.2.1 9 5 0)), (0, .ref (G.2.2.1 9 0)), (1, .int x1)]) hx hb dX9_setView_21 rfl hl (by decide) rfl (fun ls hl => ?_)
    refine lv_aload_n hx hb dX9_setView_22 rfl (lv_at hl 1 rfl) ?_
    refine lv_iload_n hx hb dX9_setView_23 rfl (lv_at hl 2 rfl) ?_
    obtain ⟨σ7, eσ7, h⟩ := nq_e h
    refine ppI (ty := .int) (C := RX9) (T := TX9) (N := 6) hx hb hts hown hK hw hS 9 5 0 Nat.one_pos (by decide) rfl rfl inF_X9 (by decide) rfl (by decide) tyX9_ok nmX9 (hts _ wm25) (fun _ h9 => h9) rfl (by decide +kernel) rfl rfl dX9_setView_24 (fun H locs hw hS => ?_)
    rw [← eσ7] at hw
    have hcσ7 : σ7.1 = σ.1 := by rw [eσ7]; exact rfl
    refine lv_iload_n hx hb dX9_setView_27 rfl (lv_at hl 0 rfl) ?_
    exact pei hx hb hr hlocks hA hw hK hS (pst h hcσ7) dX9_setView_28
  · skip
    replace h := ite_p c6 h
    cases h
def f_X9_scroll (σ : PvS) (x1 : Int32) (x2 : Int32) : Option (Int32 × PvS) :=
  ob1 (f_X9_nodeAt σ x1) (fun r1 => if (σ.2.1 3 1 r1) = 0 then (if x2 < 0 then (none) else (if x2 ≤ 5000 then (ob1 (f_X9_forgetWhatWasWorkedOut σ) (fun σ10 => nm (pvI σ10 3 12 r1 x2) (fun σ15 => some (σ10.2.1 3 12 r1, σ15)))) else (none))) else (none))
set_option maxHeartbeats 4000000 in
set_option maxRecDepth 100000 in
theorem c_X9_scroll {l : Launch} {G : PvG} {tys : List (ClassId × FieldType)} {σ : PvS} (htys : tys = pvT G)  {x1 : Int32} {x2 : Int32}  {r : Int32} {σ1 : PvS} (h : f_X9_scroll σ x1 x2 = some (r, σ1)) : Met l yX9_scroll (Cond.code yX9_scroll cX9_scroll 5 (some .int) :: WA) ({ frames := 5, cells := 0, slots := 0, locals := 106 }) (va_Pc [.ref (G.2.2.1 9 0), .int x1, .int x2] (pvU G tys σ)) (va_Qi (fun r' σ' => r' = r ∧ σ' = σ1 ∧ σ'.1 = σ.1) (pvU G tys) (pvB G)) 0 0 (pvB G) := by
  refine Met.ofW (cc := cX9_scroll) (maxL := 5) (ret := (some .int)) (by decide) rfl ?_
  intro p e s m args below meth c s₁ B hml hv
  obtain ⟨rfl, hw, hK, hA⟩ := hv
  have hx := B.exec
  have hb := B.bytes
  have hr := B.returns
  have hts0 := atoms_spec (ws := (Cond.code yX9_scroll cX9_scroll 5 (some .int) :: WA)) B.pre
  have hts : ∀ w ∈ WA, w.before _ s = true := fun w h => hts0 w (List.mem_cons_of_mem _ h)
  have hown : s.vm.findClass RX9 = some m.cls := findClass_of_methodNamed B.named
  have hlocks := B.notSynchronized
  have hS : va_S (pvB G) s.heap s.heap [] := va_S.rf
  have hl := lv_entry ([.ref (G.2.2.1 9 0), .int x1, .int x2]) (n := 5) (Nat.le_of_ble_eq_true rfl)
  rw [lg_entry_eq]
  generalize (lg_sl ([.ref (G.2.2.1 9 0), .int x1, .int x2]) ++ List.replicate (5 - (lg_sl ([.ref (G.2.2.1 9 0), .int x1, .int x2])).length) Slot.unset).toArray = ls at hl ⊢
  have hl : lv_has ls 5 [(0, .ref (G.2.2.1 9 0)), (1, .int x1), (2, .int x2)] := hl
  have hroot := pv_root hw
  unfold f_X9_scroll at h
  refine lv_aload_n hx hb dX9_scroll_0 rfl (lv_at hl 0 rfl) ?_
  refine lv_iload_n hx hb dX9_scroll_1 rfl (lv_at hl 1 rfl) ?_
  obtain ⟨r1, e2, h⟩ := ob1_e h
  refine pcallq (va_runV (As := [.int x1]) (rest := []) ⟨hx, hb, hml, hown, hts⟩ (c_X9_nodeAt (l := l) (G := G) (tys := tys) (σ := σ) htys  e2) (cwV 1 hts (gVA wm236 wm237 wm238 wm2 wm239) rfl rfl rfl (by decide +kernel) ⟨(Nat.le_of_ble_eq_true rfl), (Nat.le_of_ble_eq_true rfl)⟩) (pv_preV hA hS hw hK 9 0 Nat.one_pos (by decide) rfl [.int x1]) rfl rfl hl.1 rfl (lv_room (Nat.le_of_ble_eq_true rfl)) dX9_scroll_2 ⟨Nat.zero_le _, Nat.zero_le _⟩) hS (fun r4 s5 H locs hp3 hw hS => ?_)
  obtain ⟨err1, esr1, hzr1⟩ := hp3
  obtain rfl := esr1.symm
  subst err1
  refine lv_astore_n (lv' := [(3, .ref (G.2.2.1 3 r1)), (0, .ref (G.2.2.1 9 0)), (1, .int x1), (2, .int x2)]) hx hb dX9_scroll_5 rfl hl (by decide) rfl (fun ls hl => ?_)
  refine lv_aload_n hx hb dX9_scroll_6 rfl (lv_at hl 0 rfl) ?_
  refine pgI (C := RX3) (T := TX3) (N := 14) hx hb hts hown hK hw 3 1 r1 hzr1 (by decide) rfl rfl inF_X3 (by decide) rfl (hts _ wm235) (fun _ h9 => h9) dX9_scroll_7 ?_
  refine lv_if_ne (tgt := 24) hx hb dX9_scroll_10 (by decide) (fun c6 => ?_) (fun c6 => ?_)
  · skip
    replace h := ite_n c6 h
    cases h
  · skip
    replace h := ite_p c6 h
    refine lv_iload_n hx hb dX9_scroll_13 rfl (lv_at hl 3 rfl) ?_
    refine lv_if_lt (tgt := 24) hx hb dX9_scroll_14 (by decide) (fun c7 => ?_) (fun c7 => ?_)
    · skip
      replace h := ite_p c7 h
      cases h
    · skip
      replace h := ite_n c7 h
      refine lv_iload_n hx hb dX9_scroll_17 rfl (lv_at hl 3 rfl) ?_
      refine lv_sipush (v := 5000) hx hb dX9_scroll_18 (by decide) ?_
      refine lv_icmp_le (tgt := 34) hx hb dX9_scroll_21 (by decide) (fun c8 => ?_) (fun c8 => ?_)
      · skip
        replace h := ite_p c8 h
        refine lv_aload_n hx hb dX9_scroll_34 rfl (lv_at hl 1 rfl) ?_
        obtain ⟨σ10, e11, h⟩ := ob1_e h
        refine pcallv (va_runV (As := []) (rest := []) ⟨hx, hb, hml, hown, hts⟩ (c_X9_forgetWhatWasWorkedOut (l := l) (G := G) (tys := tys) (σ := σ) htys  e11) (cwV 0 hts (gVA wm279 wm280 wm281 wm2 wm282) rfl rfl rfl (by decide +kernel) ⟨(Nat.le_of_ble_eq_true rfl), (Nat.le_of_ble_eq_true rfl)⟩) (pv_preV hA hS hw hK 9 0 Nat.one_pos (by decide) rfl []) rfl rfl hl.1 rfl (lv_room (Nat.le_of_ble_eq_true rfl)) dX9_scroll_35 ⟨Nat.zero_le _, Nat.zero_le _⟩) hS (fun s14 H locs hp12 hw hS => ?_)
        obtain ⟨esσ10, hdσ10⟩ := hp12
        obtain rfl := esσ10.symm
        have hcσ10 : σ10.1 = σ.1 := hdσ10
        refine lv_aload_n hx hb dX9_scroll_38 rfl (lv_at hl 0 rfl) ?_
        refine pgI (C := RX3) (T := TX3) (N := 14) hx hb hts hown hK hw 3 12 r1 (lt_c hcσ10 3 hzr1) (by decide) rfl rfl inF_X3 (by decide) rfl (hts _ wm394) (fun _ h9 => h9) dX9_scroll_39 ?_
        refine lv_istore (lv' := [(4, .int (σ10.2.1 3 12 r1)), (3, .ref (G.2.2.1 3 r1)), (0, .ref (G.2.2.1 9 0)), (1, .int x1), (2, .int x2)]) hx hb dX9_scroll_42 hl (by decide) rfl (fun ls hl => ?_)
        refine lv_aload_n hx hb dX9_scroll_44 rfl (lv_at hl 1 rfl) ?_
        refine lv_iload_n hx hb dX9_scroll_45 rfl (lv_at hl 4 rfl) ?_
        obtain ⟨σ15, eσ15, h⟩ := nq_e h
        refine ppI (ty := .int) (C := RX3) (T := TX3) (N := 14) hx hb hts hown hK hw hS 3 12 r1 (lt_c hcσ10 3 hzr1) (by decide) rfl rfl inF_X3 (by decide) rfl (by decide) tyX3_ok nmX3 (hts _ wm394) (fun _ h9 => h9) rfl (by decide +kernel) rfl rfl dX9_scroll_46 (fun H locs hw hS => ?_)
        rw [← eσ15] at hw
        have hcσ15 : σ15.1 = σ.1 := by rw [eσ15]; exact hcσ10
        refine lv_iload hx hb dX9_scroll_49 (lv_at hl 0 rfl) ?_
        exact pei hx hb hr hlocks hA hw hK hS (pst h hcσ15) dX9_scroll_51
      · skip
        replace h := ite_n c8 h
        cases h
