def f_X7_holds (σ : PvS) (x1 : Int32) : Option Int32 :=
  if x1 < 0 then (some 0) else (if (nI (σ.2.2.2.2 0).length) ≤ x1 then (some 0) else (gd (vin x1 (σ.2.2.2.2 0).length) (nm ((σ.2.2.2.2 0).getD x1.toNatClampNeg 0) (fun y5 => if (σ.2.1 3 13 y5) = 0 then (some 1) else (some 0)))))
set_option maxHeartbeats 4000000 in
set_option maxRecDepth 100000 in
theorem c_X7_holds {l : Launch} {G : PvG} {tys : List (ClassId × FieldType)} {σ : PvS} (htys : tys = pvT G)  {x1 : Int32}  {r : Int32} (h : f_X7_holds σ x1 = some r) : Met l yX7_holds (Cond.code yX7_holds cX7_holds 2 (some .boolean) :: WA) ({ frames := 3, cells := 0, slots := 0, locals := 64 }) (va_Pc [.ref (G.2.2.1 7 0), .int x1] (pvU G tys σ)) (va_Qi (fun r' σ' => r' = r ∧ σ' = σ ∧ is01 r') (pvU G tys) (pvB G)) 0 0 (pvB G) := by
  refine Met.ofW (cc := cX7_holds) (maxL := 2) (ret := (some .boolean)) (by decide) rfl ?_
  intro p e s m args below meth c s₁ B hml hv
  obtain ⟨rfl, hw, hK, hA⟩ := hv
  have hx := B.exec
  have hb := B.bytes
  have hr := B.returns
  have hts0 := atoms_spec (ws := (Cond.code yX7_holds cX7_holds 2 (some .boolean) :: WA)) B.pre
  have hts : ∀ w ∈ WA, w.before _ s = true := fun w h => hts0 w (List.mem_cons_of_mem _ h)
  have hown : s.vm.findClass RX7 = some m.cls := findClass_of_methodNamed B.named
  have hlocks := B.notSynchronized
  have hS : va_S (pvB G) s.heap s.heap [] := va_S.rf
  have hl := lv_entry ([.ref (G.2.2.1 7 0), .int x1]) (n := 2) (Nat.le_of_ble_eq_true rfl)
  rw [lg_entry_eq]
  generalize (lg_sl ([.ref (G.2.2.1 7 0), .int x1]) ++ List.replicate (2 - (lg_sl ([.ref (G.2.2.1 7 0), .int x1])).length) Slot.unset).toArray = ls at hl ⊢
  have hl : lv_has ls 2 [(0, .ref (G.2.2.1 7 0)), (1, .int x1)] := hl
  have hroot := pv_root hw
  unfold f_X7_holds at h
  refine lv_iload_n hx hb dX7_holds_0 rfl (lv_at hl 1 rfl) ?_
  refine lv_if_lt (tgt := 36) hx hb dX7_holds_1 (by decide) (fun c1 => ?_) (fun c1 => ?_)
  · skip
    replace h := ite_p c1 h
    refine lv_iconst (v := 0) hx hb dX7_holds_36 (by decide) ?_
    exact pez hx hb hr (is01_nar (Or.inl rfl)) hlocks hA hw hK hS ⟨Option.some.inj h, rfl, (Or.inl rfl)⟩ dX7_holds_37
  · skip
    replace h := ite_n c1 h
    refine lv_iload_n hx hb dX7_holds_4 rfl (lv_at hl 1 rfl) ?_
    refine lv_aload_n hx hb dX7_holds_5 rfl (lv_at hl 0 rfl) ?_
    refine pgL (C := RX7) (T := TX7) (N := 3) hx hb hts hown hK hw 7 0 0 Nat.one_pos (by decide) rfl rfl inF_X7 (by decide) (v := .ref (G.2.2.1 10 0)) rfl (hts _ wm32) (fun _ h9 => h9) dX7_holds_6 ?_
    refine pcalli (va_runV (As := []) (rest := [.int x1]) ⟨hx, hb, hml, hown, hts⟩ (c_lsize (l := l) (G := G) (tys := tys) (σ := σ) (j := 0) (show 0 < σ.1 0 + 3 from Nat.lt_of_lt_of_le (by decide) (Nat.le_add_left 3 _))) (cwV 0 hts (gVA wm250 wm251 wm252 wm13 wm253) rfl rfl rfl (by decide +kernel) ⟨(Nat.le_of_ble_eq_true rfl), (Nat.le_of_ble_eq_true rfl)⟩) (pl_preV hA hS hw hK 0 (show 0 < σ.1 0 + 3 from Nat.lt_of_lt_of_le (by decide) (Nat.le_add_left 3 _)) []) rfl rfl hl.1 rfl (lv_room (Nat.le_of_ble_eq_true rfl)) dX7_holds_9 ⟨Nat.zero_le _, Nat.zero_le _⟩) hS (fun rz2 sz2 H locs hpz2 hw hS => ?_)
    obtain ⟨rfl, ez2⟩ := hpz2
    obtain rfl := ez2.symm
    refine lv_icmp_ge (tgt := 36) hx hb dX7_holds_12 (by decide) (fun c3 => ?_) (fun c3 => ?_)
    · skip
      replace h := ite_p c3 h
      refine lv_iconst (v := 0) hx hb dX7_holds_36 (by decide) ?_
      exact pez hx hb hr (is01_nar (Or.inl rfl)) hlocks hA hw hK hS ⟨Option.some.inj h, rfl, (Or.inl rfl)⟩ dX7_holds_37
    · skip
      replace h := ite_n c3 h
      refine lv_aload_n hx hb dX7_holds_15 rfl (lv_at hl 0 rfl) ?_
      refine pgL (C := RX7) (T := TX7) (N := 3) hx hb hts hown hK hw 7 0 0 Nat.one_pos (by decide) rfl rfl inF_X7 (by decide) (v := .ref (G.2.2.1 10 0)) rfl (hts _ wm32) (fun _ h9 => h9) dX7_holds_16 ?_
      refine lv_iload_n hx hb dX7_holds_19 rfl (lv_at hl 1 rfl) ?_
      obtain ⟨g4, h⟩ := gd_e h
      obtain ⟨y5, ey5, h⟩ := nq_e h
      refine pcallg (κ := 3) rfl (va_runV (As := [.int x1]) (rest := []) ⟨hx, hb, hml, hown, hts⟩ (c_lgetI (l := l) (G := G) (tys := tys) (σ := σ) htys (j := 0) (show 0 < σ.1 0 + 3 from Nat.lt_of_lt_of_le (by decide) (Nat.le_add_left 3 _)) g4 (pl_len2 hw 0 (show 0 < σ.1 0 + 3 from Nat.lt_of_lt_of_le (by decide) (Nat.le_add_left 3 _)))) (cwV 1 hts (gVA wm254 wm255 wm256 wm13 wm257) rfl rfl rfl (by decide +kernel) ⟨(Nat.le_of_ble_eq_true rfl), (Nat.le_of_ble_eq_true rfl)⟩) (pl_preV hA hS hw hK 0 (show 0 < σ.1 0 + 3 from Nat.lt_of_lt_of_le (by decide) (Nat.le_add_left 3 _)) [.int x1]) rfl rfl hl.1 rfl (lv_room (Nat.le_of_ble_eq_true rfl)) dX7_holds_20 ⟨Nat.zero_le _, Nat.zero_le _⟩) hS (fun zy5 ezy5 H locs hw hS => ?_)
      obtain rfl : y5 = zy5 := ey5.trans ezy5.symm
      have hy5 : y5 < pvM σ 3 := by rw [ey5]; exact pl_lt hw 0 (show 0 < σ.1 0 + 3 from Nat.lt_of_lt_of_le (by decide) (Nat.le_add_left 3 _)) _ (Nat.not_le.mp fun q => g4 (Or.inr q)) rfl
      refine pcast hx hb hown hK hw 3 y5 hy5 (by decide) rfl (hts _ wm40) dX7_holds_23 ?_
      refine pgI (C := RX3) (T := TX3) (N := 14) hx hb hts hown hK hw 3 13 y5 hy5 (by decide) rfl rfl inF_X3 (by decide) rfl (hts _ wm249) (fun _ h9 => h9) dX7_holds_26 ?_
      refine lv_if_ne (tgt := 36) hx hb dX7_holds_29 (by decide) (fun c6 => ?_) (fun c6 => ?_)
      · skip
        replace h := ite_n c6 h
        refine lv_iconst (v := 0) hx hb dX7_holds_36 (by decide) ?_
        exact pez hx hb hr (is01_nar (Or.inl rfl)) hlocks hA hw hK hS ⟨Option.some.inj h, rfl, (Or.inl rfl)⟩ dX7_holds_37
      · skip
        replace h := ite_p c6 h
        refine lv_iconst (v := 1) hx hb dX7_holds_32 (by decide) ?_
        refine lv_goto (tgt := 37) hx hb dX7_holds_33 (by decide) ?_
        exact pez hx hb hr (is01_nar (Or.inr rfl)) hlocks hA hw hK hS ⟨Option.some.inj h, rfl, (Or.inr rfl)⟩ dX7_holds_37
def f_X7_hasRoomIn (σ : PvS) (u1 : Nat) : Option Int32 :=
  if 40 ≤ (nI (σ.2.2.2.2 0).length) then (some 0) else (ob1 (f_X3_ancestors σ u1) (fun r3 => if 10 ≤ r3 then (some 0) else (some 1)))
set_option maxHeartbeats 4000000 in
set_option maxRecDepth 100000 in
theorem c_X7_hasRoomIn {l : Launch} {G : PvG} {tys : List (ClassId × FieldType)} {σ : PvS} (htys : tys = pvT G)  {u1 : Nat} (hu1 : u1 < pvM σ 3) {r : Int32} (h : f_X7_hasRoomIn σ u1 = some r) : Met l yX7_hasRoomIn (Cond.code yX7_hasRoomIn cX7_hasRoomIn 2 (some .boolean) :: WA) ({ frames := 1, cells := 0, slots := 0, locals := 22 }) (va_Pc [.ref (G.2.2.1 7 0), .ref (G.2.2.1 3 u1)] (pvU G tys σ)) (va_Qi (fun r' σ' => r' = r ∧ σ' = σ ∧ is01 r') (pvU G tys) (pvB G)) 0 0 (pvB G) := by
  refine Met.ofW (cc := cX7_hasRoomIn) (maxL := 2) (ret := (some .boolean)) (by decide) rfl ?_
  intro p e s m args below meth c s₁ B hml hv
  obtain ⟨rfl, hw, hK, hA⟩ := hv
  have hx := B.exec
  have hb := B.bytes
  have hr := B.returns
  have hts0 := atoms_spec (ws := (Cond.code yX7_hasRoomIn cX7_hasRoomIn 2 (some .boolean) :: WA)) B.pre
  have hts : ∀ w ∈ WA, w.before _ s = true := fun w h => hts0 w (List.mem_cons_of_mem _ h)
  have hown : s.vm.findClass RX7 = some m.cls := findClass_of_methodNamed B.named
  have hlocks := B.notSynchronized
  have hS : va_S (pvB G) s.heap s.heap [] := va_S.rf
  have hl := lv_entry ([.ref (G.2.2.1 7 0), .ref (G.2.2.1 3 u1)]) (n := 2) (Nat.le_of_ble_eq_true rfl)
  rw [lg_entry_eq]
  generalize (lg_sl ([.ref (G.2.2.1 7 0), .ref (G.2.2.1 3 u1)]) ++ List.replicate (2 - (lg_sl ([.ref (G.2.2.1 7 0), .ref (G.2.2.1 3 u1)])).length) Slot.unset).toArray = ls at hl ⊢
  have hl : lv_has ls 2 [(0, .ref (G.2.2.1 7 0)), (1, .ref (G.2.2.1 3 u1))] := hl
  have hroot := pv_root hw
  unfold f_X7_hasRoomIn at h
  refine lv_aload_n hx hb dX7_hasRoomIn_0 rfl (lv_at hl 0 rfl) ?_
  refine pgL (C := RX7) (T := TX7) (N := 3) hx hb hts hown hK hw 7 0 0 Nat.one_pos (by decide) rfl rfl inF_X7 (by decide) (v := .ref (G.2.2.1 10 0)) rfl (hts _ wm32) (fun _ h9 => h9) dX7_hasRoomIn_1 ?_
  refine pcalli (va_runV (As := []) (rest := []) ⟨hx, hb, hml, hown, hts⟩ (c_lsize (l := l) (G := G) (tys := tys) (σ := σ) (j := 0) (show 0 < σ.1 0 + 3 from Nat.lt_of_lt_of_le (by decide) (Nat.le_add_left 3 _))) (cwV 0 hts (gVA wm250 wm251 wm252 wm13 wm253) rfl rfl rfl (by decide +kernel) ⟨(Nat.le_of_ble_eq_true rfl), (Nat.le_of_ble_eq_true rfl)⟩) (pl_preV hA hS hw hK 0 (show 0 < σ.1 0 + 3 from Nat.lt_of_lt_of_le (by decide) (Nat.le_add_left 3 _)) []) rfl rfl hl.1 rfl (lv_room (Nat.le_of_ble_eq_true rfl)) dX7_hasRoomIn_4 ⟨Nat.zero_le _, Nat.zero_le _⟩) hS (fun rz1 sz1 H locs hpz1 hw hS => ?_)
  obtain ⟨rfl, ez1⟩ := hpz1
  obtain rfl := ez1.symm
  refine lv_bipush (v := 40) hx hb dX7_hasRoomIn_7 (by decide) ?_
  refine lv_icmp_ge (tgt := 25) hx hb dX7_hasRoomIn_9 (by decide) (fun c2 => ?_) (fun c2 => ?_)
  · skip
    replace h := ite_p c2 h
    refine lv_iconst (v := 0) hx hb dX7_hasRoomIn_25 (by decide) ?_
    exact pez hx hb hr (is01_nar (Or.inl rfl)) hlocks hA hw hK hS ⟨Option.some.inj h, rfl, (Or.inl rfl)⟩ dX7_hasRoomIn_26
  · skip
    replace h := ite_n c2 h
    refine lv_aload_n hx hb dX7_hasRoomIn_12 rfl (lv_at hl 1 rfl) ?_
    obtain ⟨r3, e4, h⟩ := ob1_e h
    refine pcalli (va_runV (As := []) (rest := []) ⟨hx, hb, hml, hown, hts⟩ (c_X3_ancestors (l := l) (G := G) (tys := tys) (σ := σ) htys hu1 e4) (cwV 0 hts (gVA wm275 wm276 wm277 wm42 wm278) rfl rfl rfl (by decide +kernel) ⟨(Nat.le_of_ble_eq_true rfl), (Nat.le_of_ble_eq_true rfl)⟩) (pv_preV hA hS hw hK 3 u1 hu1 (by decide) rfl []) rfl rfl hl.1 rfl (lv_room (Nat.le_of_ble_eq_true rfl)) dX7_hasRoomIn_13 ⟨Nat.zero_le _, Nat.zero_le _⟩) hS (fun r6 s7 H locs hp5 hw hS => ?_)
    obtain ⟨err3, esr3⟩ := hp5
    obtain rfl := esr3.symm
    obtain rfl := err3.symm
    refine lv_bipush (v := 10) hx hb dX7_hasRoomIn_16 (by decide) ?_
    refine lv_icmp_ge (tgt := 25) hx hb dX7_hasRoomIn_18 (by decide) (fun c8 => ?_) (fun c8 => ?_)
    · skip
      replace h := ite_p c8 h
      refine lv_iconst (v := 0) hx hb dX7_hasRoomIn_25 (by decide) ?_
      exact pez hx hb hr (is01_nar (Or.inl rfl)) hlocks hA hw hK hS ⟨Option.some.inj h, rfl, (Or.inl rfl)⟩ dX7_hasRoomIn_26
    · skip
      replace h := ite_n c8 h
      refine lv_iconst (v := 1) hx hb dX7_hasRoomIn_21 (by decide) ?_
      refine lv_goto (tgt := 26) hx hb dX7_hasRoomIn_22 (by decide) ?_
      exact pez hx hb hr (is01_nar (Or.inr rfl)) hlocks hA hw hK hS ⟨Option.some.inj h, rfl, (Or.inr rfl)⟩ dX7_hasRoomIn_26
def f_X7_levelsBelow_12  (kf : PvS → Nat → Int32 → Option Int32) (σ : PvS) : Nat → Nat → Int32 → Int32 → Int32 → Option Int32
  | 0, _, _, _, _ => none
  | n + 1, ub0, xb1, xb2, xb3 => if (nI (σ.2.2.2.2 (ub0 + 3)).length) ≤ xb3 then (some xb2) else (gd (vin xb3 (σ.2.2.2.2 (ub0 + 3)).length) (nm ((σ.2.2.2.2 (ub0 + 3)).getD xb3.toNatClampNeg 0) (fun y4 => ob1 (kf σ y4 (xb1 + 1)) (fun r5 => f_X7_levelsBelow_12 kf σ n ub0 xb1 (imax xb2 (1 + r5)) (xb3 + 1)))))
theorem f_X7_levelsBelow_12_z {kf : PvS → Nat → Int32 → Option Int32} {σ : PvS} {ub0 : Nat} {xb1 : Int32} {xb2 : Int32} {xb3 : Int32} : f_X7_levelsBelow_12 kf σ 0 ub0 xb1 xb2 xb3 = none := rfl
theorem f_X7_levelsBelow_12_s {n : Nat} {kf : PvS → Nat → Int32 → Option Int32} {σ : PvS} {ub0 : Nat} {xb1 : Int32} {xb2 : Int32} {xb3 : Int32} : f_X7_levelsBelow_12 kf σ (n + 1) ub0 xb1 xb2 xb3 = if (nI (σ.2.2.2.2 (ub0 + 3)).length) ≤ xb3 then (some xb2) else (gd (vin xb3 (σ.2.2.2.2 (ub0 + 3)).length) (nm ((σ.2.2.2.2 (ub0 + 3)).getD xb3.toNatClampNeg 0) (fun y4 => ob1 (kf σ y4 (xb1 + 1)) (fun r5 => f_X7_levelsBelow_12 kf σ n ub0 xb1 (imax xb2 (1 + r5)) (xb3 + 1))))) := rfl
def f_X7_levelsBelow : Nat → PvS → Nat → Int32 → Option Int32
  | 0, _, _, _ => none
  | nr + 1, σ, u0, x1 => if x1 ≤ 10 then (f_X7_levelsBelow_12 (f_X7_levelsBelow nr) σ fu u0 x1 0 0) else (some 0)
theorem f_X7_levelsBelow_z {σ : PvS} {u0 : Nat} {x1 : Int32} : f_X7_levelsBelow 0 σ u0 x1 = none := rfl
theorem f_X7_levelsBelow_s {nr : Nat} {σ : PvS} {u0 : Nat} {x1 : Int32} : f_X7_levelsBelow (nr + 1) σ u0 x1 = if x1 ≤ 10 then (f_X7_levelsBelow_12 (f_X7_levelsBelow nr) σ fu u0 x1 0 0) else (some 0) := rfl
set_option maxHeartbeats 4000000 in
set_option maxRecDepth 100000 in
theorem c_X7_levelsBelow {l : Launch} {G : PvG} {tys : List (ClassId × FieldType)} (htys : tys = pvT G) : ∀ (nr : Nat) {σ : PvS} {u0 : Nat} {x1 : Int32} {r : Int32}, (u0 < pvM σ 3) → f_X7_levelsBelow nr σ u0 x1 = some r → Met l yX7_levelsBelow (Cond.code yX7_levelsBelow cX7_levelsBelow 4 (some .int) :: WA) ({ frames := 1 * nr + 3, cells := 0, slots := 0, locals := 23 * nr + 64 }) (va_Pc [.ref (G.2.2.1 3 u0), .int x1] (pvU G tys σ)) (va_Qi (fun r' σ' => r' = r ∧ σ' = σ) (pvU G tys) (pvB G)) 0 0 (pvB G) := by
  intro nr
  induction nr with
  | zero =>
    intros
    rename_i h
    rw [f_X7_levelsBelow_z] at h
    cases h
  | succ nr ih =>
  intro σ u0 x1 r hu0 h
  refine Met.ofW (cc := cX7_levelsBelow) (maxL := 4) (ret := (some .int)) (by decide) rfl ?_
  intro p e s m args below meth c s₁ B hml hv
  obtain ⟨rfl, hw, hK, hA⟩ := hv
  have hx := B.exec
  have hb := B.bytes
  have hr := B.returns
  have hts0 := atoms_spec (ws := (Cond.code yX7_levelsBelow cX7_levelsBelow 4 (some .int) :: WA)) B.pre
  have hts : ∀ w ∈ WA, w.before _ s = true := fun w h => hts0 w (List.mem_cons_of_mem _ h)
  have hown : s.vm.findClass RX7 = some m.cls := findClass_of_methodNamed B.named
  have hlocks := B.notSynchronized
  have hS : va_S (pvB G) s.heap s.heap [] := va_S.rf
  have hl := lv_entry ([.ref (G.2.2.1 3 u0), .int x1]) (n := 4) (Nat.le_of_ble_eq_true rfl)
  rw [lg_entry_eq]
  generalize (lg_sl ([.ref (G.2.2.1 3 u0), .int x1]) ++ List.replicate (4 - (lg_sl ([.ref (G.2.2.1 3 u0), .int x1])).length) Slot.unset).toArray = ls at hl ⊢
  have hl : lv_has ls 4 [(0, .ref (G.2.2.1 3 u0)), (1, .int x1)] := hl
  have hroot := pv_root hw
  rw [f_X7_levelsBelow_s] at h
  have loop12 : ∀ (n : Nat) (ub0 : Nat) (xb1 : Int32) (xb2 : Int32) (xb3 : Int32), (ub0 < pvM σ 3) → f_X7_levelsBelow_12 (f_X7_levelsBelow nr) σ n ub0 xb1 xb2 xb3 = some r → ∀ (H : Heap) (locs : List Loc), pvW G σ H → va_S (pvB G) s.heap H locs → ∀ (ls : Array Slot), lv_has ls 4 [(0, .ref (G.2.2.1 3 ub0)), (1, .int xb1), (2, .int xb2), (3, .int xb3)] → W p l e (headSpec (Cond.code yX7_levelsBelow cX7_levelsBelow 4 (some .int) :: WA) ({ frames := 1 * (nr + 1) + 3, cells := 0, slots := 0, locals := 23 * (nr + 1) + 64 } : Room)).room s m ([.ref (G.2.2.1 3 u0), .int x1] : List Value).toArray below meth c H locs 0 0 (MQ below (va_Qi (fun r' σ' => r' = r ∧ σ' = σ) (pvU G tys) (pvB G)) ([.ref (G.2.2.1 3 u0), .int x1] : List Value).toArray s 0 0 (pvB G)) (F0 m 12 ls []) := by
    intro n12
    induction n12 with
    | zero =>
      intro ub0 xb1 xb2 xb3 hub0 h
      rw [f_X7_levelsBelow_12_z] at h
      cases h
    | succ n12 ih12 =>
      intro ub0 xb1 xb2 xb3 hub0 h H locs hw hS ls hl
      rw [f_X7_levelsBelow_12_s] at h
      refine lv_iload_n hx hb dX7_levelsBelow_12 rfl (lv_at hl 3 rfl) ?_
      refine lv_aload_n hx hb dX7_levelsBelow_13 rfl (lv_at hl 0 rfl) ?_
      refine pgL (C := RX3) (T := TX3) (N := 14) hx hb hts hown hK hw 3 3 ub0 hub0 (by decide) rfl rfl inF_X3 (by decide) (v := .ref (G.2.2.1 10 (ub0 + 3))) rfl (hts _ wm290) (fun _ h9 => h9) dX7_levelsBelow_14 ?_
      refine pcalli (va_runV (As := []) (rest := [.int xb3]) ⟨hx, hb, hml, hown, hts⟩ (c_lsize (l := l) (G := G) (tys := tys) (σ := σ) (j := ub0 + 3) (show ub0 + 3 < σ.1 0 + 3 from Nat.add_lt_add_right hub0 3)) (cwV 0 hts (gVA wm250 wm251 wm252 wm13 wm253) rfl rfl rfl (by decide +kernel) ⟨(by show 0 + 1 ≤ 1 * (nr + 1) + 3; omega), (by show 8 + (1 + 11) + 0 ≤ 23 * (nr + 1) + 64; omega)⟩) (pl_preV hA hS hw hK (ub0 + 3) (show ub0 + 3 < σ.1 0 + 3 from Nat.add_lt_add_right hub0 3) []) rfl rfl hl.1 rfl (lv_room (Nat.le_of_ble_eq_true rfl)) dX7_levelsBelow_17 ⟨Nat.zero_le _, Nat.zero_le _⟩) hS (fun rz1 sz1 H locs hpz1 hw hS => ?_)
      obtain ⟨rfl, ez1⟩ := hpz1
      obtain rfl := ez1.symm
      refine lv_icmp_ge (tgt := 53) hx hb dX7_levelsBelow_20 (by decide) (fun c2 => ?_) (fun c2 => ?_)
      · skip
        replace h := ite_p c2 h
        refine lv_iload_n hx hb dX7_levelsBelow_53 rfl (lv_at hl 2 rfl) ?_
        exact pei hx hb hr hlocks hA hw hK hS ⟨Option.some.inj h, rfl⟩ dX7_levelsBelow_54
      · skip
        replace h := ite_n c2 h
        refine lv_iload_n hx hb dX7_levelsBelow_23 rfl (lv_at hl 2 rfl) ?_
        refine lv_iconst (v := 1) hx hb dX7_levelsBelow_24 (by decide) ?_
        refine lv_aload_n hx hb dX7_levelsBelow_25 rfl (lv_at hl 0 rfl) ?_
        refine pgL (C := RX3) (T := TX3) (N := 14) hx hb hts hown hK hw 3 3 ub0 hub0 (by decide) rfl rfl inF_X3 (by decide) (v := .ref (G.2.2.1 10 (ub0 + 3))) rfl (hts _ wm290) (fun _ h9 => h9) dX7_levelsBelow_26 ?_
        refine lv_iload_n hx hb dX7_levelsBelow_29 rfl (lv_at hl 3 rfl) ?_
        obtain ⟨g3, h⟩ := gd_e h
        obtain ⟨y4, ey4, h⟩ := nq_e h
        refine pcallg (κ := 3) (pvK_c _) (va_runV (As := [.int xb3]) (rest := [.int 1, .int xb2]) ⟨hx, hb, hml, hown, hts⟩ (c_lgetI (l := l) (G := G) (tys := tys) (σ := σ) htys (j := ub0 + 3) (show ub0 + 3 < σ.1 0 + 3 from Nat.add_lt_add_right hub0 3) g3 (pl_len2 hw (ub0 + 3) (show ub0 + 3 < σ.1 0 + 3 from Nat.add_lt_add_right hub0 3))) (cwV 1 hts (gVA wm254 wm255 wm256 wm13 wm257) rfl rfl rfl (by decide +kernel) ⟨(by show 2 + 1 ≤ 1 * (nr + 1) + 3; omega), (by show 8 + (2 + 11) + 43 ≤ 23 * (nr + 1) + 64; omega)⟩) (pl_preV hA hS hw hK (ub0 + 3) (show ub0 + 3 < σ.1 0 + 3 from Nat.add_lt_add_right hub0 3) [.int xb3]) rfl rfl hl.1 rfl (lv_room (Nat.le_of_ble_eq_true rfl)) dX7_levelsBelow_30 ⟨Nat.zero_le _, Nat.zero_le _⟩) hS (fun zy4 ezy4 H locs hw hS => ?_)
        obtain rfl : y4 = zy4 := ey4.trans ezy4.symm
        have hy4 : y4 < pvM σ 3 := by rw [ey4]; exact pl_lt hw (ub0 + 3) (show ub0 + 3 < σ.1 0 + 3 from Nat.add_lt_add_right hub0 3) _ (Nat.not_le.mp fun q => g3 (Or.inr q)) (pvK_c _)
        refine pcast hx hb hown hK hw 3 y4 hy4 (by decide) rfl (hts _ wm40) dX7_levelsBelow_33 ?_
        refine lv_iload_n hx hb dX7_levelsBelow_36 rfl (lv_at hl 1 rfl) ?_
        refine lv_iconst (v := 1) hx hb dX7_levelsBelow_37 (by decide) ?_
        refine lv_iadd hx hb dX7_levelsBelow_38 ?_
        obtain ⟨r5, e6, h⟩ := ob1_e h
        refine pcalli (va_runS (As := [.ref (G.2.2.1 3 y4), .int (xb1 + 1)]) (rest := [.int 1, .int xb2]) ⟨hx, hb, hml, hown, hts⟩ (ih hy4 e6) (va_cwS 2 hts (gSA wm860 wm861 wm28 wm862) rfl rfl rfl (by decide +kernel) ⟨(by show 1 * nr + 3 + 1 ≤ 1 * (nr + 1) + 3; omega), (by show 8 + (4 + 11) + (23 * nr + 64) ≤ 23 * (nr + 1) + 64; omega)⟩) (pv_preS hA hS hw hK [.ref (G.2.2.1 3 y4), .int (xb1 + 1)]) rfl rfl hl.1 rfl (lv_room (Nat.le_of_ble_eq_true rfl)) dX7_levelsBelow_39 ⟨Nat.zero_le _, Nat.zero_le _⟩) hS (fun r8 s9 H locs hp7 hw hS => ?_)
        obtain ⟨err5, esr5⟩ := hp7
        obtain rfl := esr5.symm
        obtain rfl := err5.symm
        refine lv_iadd hx hb dX7_levelsBelow_42 ?_
        refine pmmax hx hb (hml.trans hl.1.symm) hown (hts _ wm863) (hts _ wm111) (hts _ wm112) (hts _ wm113) (by show 1 ≤ 1 * (nr + 1) + 3; omega) (by show 0 + 13 ≤ 23 * (nr + 1) + 64; omega) (Nat.zero_le _) (Nat.zero_le _) dX7_levelsBelow_43 ?_
        refine lv_istore_n (lv' := [(2, .int (imax xb2 (1 + r5))), (0, .ref (G.2.2.1 3 ub0)), (1, .int xb1), (3, .int xb3)]) hx hb dX7_levelsBelow_46 rfl hl (by decide) rfl (fun ls hl => ?_)
        refine lv_iinc (v := xb3 + 1) (lv' := [(3, .int (xb3 + 1)), (2, .int (imax xb2 (1 + r5))), (0, .ref (G.2.2.1 3 ub0)), (1, .int xb1)]) hx hb dX7_levelsBelow_47 hl (k := 3) rfl (by rfl) (by decide) rfl (fun ls hl => ?_)
        refine lv_goto (tgt := 12) hx hb dX7_levelsBelow_50 (by decide) ?_
        exact ih12 ub0 xb1 (imax xb2 (1 + r5)) (xb3 + 1) hub0 h _ _ hw hS ls (lv_sub hl [2, 3, 1, 0] rfl)
  refine lv_iload_n hx hb dX7_levelsBelow_0 rfl (lv_at hl 1 rfl) ?_
  refine lv_bipush (v := 10) hx hb dX7_levelsBelow_1 (by decide) ?_
  refine lv_icmp_le (tgt := 8) hx hb dX7_levelsBelow_3 (by decide) (fun c10 => ?_) (fun c10 => ?_)
  · skip
    replace h := ite_p c10 h
    refine lv_iconst (v := 0) hx hb dX7_levelsBelow_8 (by decide) ?_
    refine lv_istore_n (lv' := [(2, .int 0), (0, .ref (G.2.2.1 3 u0)), (1, .int x1)]) hx hb dX7_levelsBelow_9 rfl hl (by decide) rfl (fun ls hl => ?_)
    refine lv_iconst (v := 0) hx hb dX7_levelsBelow_10 (by decide) ?_
    refine lv_istore_n (lv' := [(3, .int 0), (2, .int 0), (0, .ref (G.2.2.1 3 u0)), (1, .int x1)]) hx hb dX7_levelsBelow_11 rfl hl (by decide) rfl (fun ls hl => ?_)
    exact loop12 fu u0 x1 0 0 hu0 h _ _ hw hS ls (lv_sub hl [2, 3, 1, 0] rfl)
  · skip
    replace h := ite_n c10 h
    refine lv_iconst (v := 0) hx hb dX7_levelsBelow_6 (by decide) ?_
    exact pei hx hb hr hlocks hA hw hK hS ⟨Option.some.inj h, rfl⟩ dX7_levelsBelow_7
def f_X7_canMove_44  (σ : PvS) (ub1 : Nat) (ub2 : Nat) (xb3 : Int32) (xbs0 : Int32) (xbs1 : Int32) : Option Int32 :=
  if xb3 < 0 then (some 0) else (if xb3 ≤ (xbs1 - xbs0) then (ob1 (f_X3_ancestors σ ub2) (fun r3 => ob1 (f_X7_levelsBelow 12 σ ub1 0) (fun r8 => if 10 < ((r3 + 1) + r8) then (some 0) else (some 1)))) else (some 0))
def f_X7_canMove (σ : PvS) (u1 : Nat) (u2 : Nat) (x3 : Int32) : Option Int32 :=
  nm (σ.2.2.1 3 8 u1) (fun o14 => oc o14 (some 0) (fun jo14 => if (σ.2.1 3 1 u2) = 0 then (ob1 (f_X3_isOrIsIn σ u2 u1) (fun r16 => if r16 = 0 then (nm (σ.2.2.1 3 8 u1) (fun o23 => if o23 = some u2 then (f_X7_canMove_44 σ u1 u2 x3 1 (nI (σ.2.2.2.2 (u2 + 3)).length)) else (f_X7_canMove_44 σ u1 u2 x3 0 (nI (σ.2.2.2.2 (u2 + 3)).length)))) else (some 0))) else (some 0)))
set_option maxHeartbeats 4000000 in
set_option maxRecDepth 100000 in
theorem c_X7_canMove {l : Launch} {G : PvG} {tys : List (ClassId × FieldType)} {σ : PvS} (htys : tys = pvT G)  {u1 : Nat} {u2 : Nat} {x3 : Int32} (hu1 : u1 < pvM σ 3) (hu2 : u2 < pvM σ 3) {r : Int32} (h : f_X7_canMove σ u1 u2 x3 = some r) : Met l yX7_canMove (Cond.code yX7_canMove cX7_canMove 5 (some .boolean) :: WA) ({ frames := 16, cells := 0, slots := 0, locals := 363 }) (va_Pc [.ref (G.2.2.1 7 0), .ref (G.2.2.1 3 u1), .ref (G.2.2.1 3 u2), .int x3] (pvU G tys σ)) (va_Qi (fun r' σ' => r' = r ∧ σ' = σ ∧ is01 r') (pvU G tys) (pvB G)) 0 0 (pvB G) := by
  refine Met.ofW (cc := cX7_canMove) (maxL := 5) (ret := (some .boolean)) (by decide) rfl ?_
  intro p e s m args below meth c s₁ B hml hv
  obtain ⟨rfl, hw, hK, hA⟩ := hv
  have hx := B.exec
  have hb := B.bytes
  have hr := B.returns
  have hts0 := atoms_spec (ws := (Cond.code yX7_canMove cX7_canMove 5 (some .boolean) :: WA)) B.pre
  have hts : ∀ w ∈ WA, w.before _ s = true := fun w h => hts0 w (List.mem_cons_of_mem _ h)
  have hown : s.vm.findClass RX7 = some m.cls := findClass_of_methodNamed B.named
  have hlocks := B.notSynchronized
  have hS : va_S (pvB G) s.heap s.heap [] := va_S.rf
  have hl := lv_entry ([.ref (G.2.2.1 7 0), .ref (G.2.2.1 3 u1), .ref (G.2.2.1 3 u2), .int x3]) (n := 5) (Nat.le_of_ble_eq_true rfl)
  rw [lg_entry_eq]
  generalize (lg_sl ([.ref (G.2.2.1 7 0), .ref (G.2.2.1 3 u1), .ref (G.2.2.1 3 u2), .int x3]) ++ List.replicate (5 - (lg_sl ([.ref (G.2.2.1 7 0), .ref (G.2.2.1 3 u1), .ref (G.2.2.1 3 u2), .int x3])).length) Slot.unset).toArray = ls at hl ⊢
  have hl : lv_has ls 5 [(0, .ref (G.2.2.1 7 0)), (1, .ref (G.2.2.1 3 u1)), (2, .ref (G.2.2.1 3 u2)), (3, .int x3)] := hl
  have hroot := pv_root hw
  unfold f_X7_canMove at h
  have blk44 : ∀ (ub1 : Nat) (ub2 : Nat) (xb3 : Int32) (xbs0 : Int32) (xbs1 : Int32), (ub1 < pvM σ 3) → (ub2 < pvM σ 3) → f_X7_canMove_44 σ ub1 ub2 xb3 xbs0 xbs1 = some r → ∀ (H : Heap) (locs : List Loc), pvW G σ H → va_S (pvB G) s.heap H locs → ∀ (ls : Array Slot), lv_has ls 5 [(1, .ref (G.2.2.1 3 ub1)), (2, .ref (G.2.2.1 3 ub2)), (3, .int xb3)] → W p l e (headSpec (Cond.code yX7_canMove cX7_canMove 5 (some .boolean) :: WA) ({ frames := 16, cells := 0, slots := 0, locals := 363 } : Room)).room s m ([.ref (G.2.2.1 7 0), .ref (G.2.2.1 3 u1), .ref (G.2.2.1 3 u2), .int x3] : List Value).toArray below meth c H locs 0 0 (MQ below (va_Qi (fun r' σ' => r' = r ∧ σ' = σ ∧ is01 r') (pvU G tys) (pvB G)) ([.ref (G.2.2.1 7 0), .ref (G.2.2.1 3 u1), .ref (G.2.2.1 3 u2), .int x3] : List Value).toArray s 0 0 (pvB G)) (F0 m 44 ls [.int xbs0, .int xbs1]) := by
    intro ub1 ub2 xb3 xbs0 xbs1 hub1 hub2 h H locs hw hS ls hl
    unfold f_X7_canMove_44 at h
    refine lv_isub hx hb dX7_canMove_44 ?_
    refine lv_istore (lv' := [(4, .int (xbs1 - xbs0)), (1, .ref (G.2.2.1 3 ub1)), (2, .ref (G.2.2.1 3 ub2)), (3, .int xb3)]) hx hb dX7_canMove_45 hl (by decide) rfl (fun ls hl => ?_)
    refine lv_iload_n hx hb dX7_canMove_47 rfl (lv_at hl 3 rfl) ?_
    refine lv_if_lt (tgt := 57) hx hb dX7_canMove_48 (by decide) (fun c1 => ?_) (fun c1 => ?_)
    · skip
      replace h := ite_p c1 h
      refine lv_iconst (v := 0) hx hb dX7_canMove_57 (by decide) ?_
      exact pez hx hb hr (is01_nar (Or.inl rfl)) hlocks hA hw hK hS ⟨Option.some.inj h, rfl, (Or.inl rfl)⟩ dX7_canMove_58
    · skip
      replace h := ite_n c1 h
      refine lv_iload_n hx hb dX7_canMove_51 rfl (lv_at hl 3 rfl) ?_
      refine lv_iload hx hb dX7_canMove_52 (lv_at hl 0 rfl) ?_
      refine lv_icmp_le (tgt := 59) hx hb dX7_canMove_54 (by decide) (fun c2 => ?_) (fun c2 => ?_)
      · skip
        replace h := ite_p c2 h
        refine lv_aload_n hx hb dX7_canMove_59 rfl (lv_at hl 2 rfl) ?_
        obtain ⟨r3, e4, h⟩ := ob1_e h
        refine pcalli (va_runV (As := []) (rest := []) ⟨hx, hb, hml, hown, hts⟩ (c_X3_ancestors (l := l) (G := G) (tys := tys) (σ := σ) htys hub2 e4) (cwV 0 hts (gVA wm275 wm276 wm277 wm42 wm278) rfl rfl rfl (by decide +kernel) ⟨(Nat.le_of_ble_eq_true rfl), (Nat.le_of_ble_eq_true rfl)⟩) (pv_preV hA hS hw hK 3 ub2 hub2 (by decide) rfl []) rfl rfl hl.1 rfl (lv_room (Nat.le_of_ble_eq_true rfl)) dX7_canMove_60 ⟨Nat.zero_le _, Nat.zero_le _⟩) hS (fun r6 s7 H locs hp5 hw hS => ?_)
        obtain ⟨err3, esr3⟩ := hp5
        obtain rfl := esr3.symm
        obtain rfl := err3.symm
        refine lv_iconst (v := 1) hx hb dX7_canMove_63 (by decide) ?_
        refine lv_iadd hx hb dX7_canMove_64 ?_
        refine lv_aload_n hx hb dX7_canMove_65 rfl (lv_at hl 1 rfl) ?_
        refine lv_iconst (v := 0) hx hb dX7_canMove_66 (by decide) ?_
        obtain ⟨r8, e9, h⟩ := ob1_e h
        refine pcalli (va_runS (As := [.ref (G.2.2.1 3 ub1), .int 0]) (rest := [.int (r3 + 1)]) ⟨hx, hb, hml, hown, hts⟩ (c_X7_levelsBelow (l := l) (G := G) (tys := tys) htys 12 (σ := σ) hub1 e9) (va_cwS 2 hts (gSA wm860 wm861 wm28 wm862) rfl rfl rfl (by decide +kernel) ⟨(Nat.le_of_ble_eq_true rfl), (Nat.le_of_ble_eq_true rfl)⟩) (pv_preS hA hS hw hK [.ref (G.2.2.1 3 ub1), .int 0]) rfl rfl hl.1 rfl (lv_room (Nat.le_of_ble_eq_true rfl)) dX7_canMove_67 ⟨Nat.zero_le _, Nat.zero_le _⟩) hS (fun r11 s12 H locs hp10 hw hS => ?_)
        obtain ⟨err8, esr8⟩ := hp10
        obtain rfl := esr8.symm
        obtain rfl := err8.symm
        refine lv_iadd hx hb dX7_canMove_70 ?_
        refine lv_bipush (v := 10) hx hb dX7_canMove_71 (by decide) ?_
        refine lv_icmp_gt (tgt := 80) hx hb dX7_canMove_73 (by decide) (fun c13 => ?_) (fun c13 => ?_)
        · skip
          replace h := ite_p c13 h
          refine lv_iconst (v := 0) hx hb dX7_canMove_80 (by decide) ?_
          exact pez hx hb hr (is01_nar (Or.inl rfl)) hlocks hA hw hK hS ⟨Option.some.inj h, rfl, (Or.inl rfl)⟩ dX7_canMove_81
        · skip
          replace h := ite_n c13 h
          refine lv_iconst (v := 1) hx hb dX7_canMove_76 (by decide) ?_
          refine lv_goto (tgt := 81) hx hb dX7_canMove_77 (by decide) ?_
          exact pez hx hb hr (is01_nar (Or.inr rfl)) hlocks hA hw hK hS ⟨Option.some.inj h, rfl, (Or.inr rfl)⟩ dX7_canMove_81
      · skip
        replace h := ite_n c2 h
        refine lv_iconst (v := 0) hx hb dX7_canMove_57 (by decide) ?_
        exact pez hx hb hr (is01_nar (Or.inl rfl)) hlocks hA hw hK hS ⟨Option.some.inj h, rfl, (Or.inl rfl)⟩ dX7_canMove_58
  refine lv_aload_n hx hb dX7_canMove_0 rfl (lv_at hl 1 rfl) ?_
  obtain ⟨o14, eo14, h⟩ := nq_e h
  have ho14 := pv_cl hw eo14
  refine pgR (C := RX3) (T := TX3) (N := 14) hx hb hts hown hK hw 3 8 u1 hu1 (by decide) rfl rfl inF_X3 (by decide) rfl o14 eo14 (hts _ wm289) (fun _ h9 => h9) dX7_canMove_1 ?_
  rcases o14 with _ | jo14
  · skip
    replace h := oc_n h
    refine lv_ifnullN (tgt := 22) hx hb dX7_canMove_4 (by decide) ?_
    refine lv_iconst (v := 0) hx hb dX7_canMove_22 (by decide) ?_
    exact pez hx hb hr (is01_nar (Or.inl rfl)) hlocks hA hw hK hS ⟨Option.some.inj h, rfl, (Or.inl rfl)⟩ dX7_canMove_23
  · skip
    replace h := oc_s h
    have hjo14 := ho14 jo14 rfl
    refine lv_ifnull hx hb dX7_canMove_4 ?_
    refine lv_aload_n hx hb dX7_canMove_7 rfl (lv_at hl 2 rfl) ?_
    refine pgI (C := RX3) (T := TX3) (N := 14) hx hb hts hown hK hw 3 1 u2 hu2 (by decide) rfl rfl inF_X3 (by decide) rfl (hts _ wm855) (fun _ h9 => h9) dX7_canMove_8 ?_
    refine lv_if_ne (tgt := 22) hx hb dX7_canMove_11 (by decide) (fun c15 => ?_) (fun c15 => ?_)
    · skip
      replace h := ite_n c15 h
      refine lv_iconst (v := 0) hx hb dX7_canMove_22 (by decide) ?_
      exact pez hx hb hr (is01_nar (Or.inl rfl)) hlocks hA hw hK hS ⟨Option.some.inj h, rfl, (Or.inl rfl)⟩ dX7_canMove_23
    · skip
      replace h := ite_p c15 h
      refine lv_aload_n hx hb dX7_canMove_14 rfl (lv_at hl 2 rfl) ?_
      refine lv_aload_n hx hb dX7_canMove_15 rfl (lv_at hl 1 rfl) ?_
      obtain ⟨r16, e17, h⟩ := ob1_e h
      refine pcalli (va_runV (As := [.ref (G.2.2.1 3 u1)]) (rest := []) ⟨hx, hb, hml, hown, hts⟩ (c_X3_isOrIsIn (l := l) (G := G) (tys := tys) (σ := σ) htys hu2 hu1 e17) (cwV 1 hts (gVA wm856 wm857 wm858 wm42 wm859) rfl rfl rfl (by decide +kernel) ⟨(Nat.le_of_ble_eq_true rfl), (Nat.le_of_ble_eq_true rfl)⟩) (pv_preV hA hS hw hK 3 u2 hu2 (by decide) rfl [.ref (G.2.2.1 3 u1)]) rfl rfl hl.1 rfl (lv_room (Nat.le_of_ble_eq_true rfl)) dX7_canMove_16 ⟨Nat.zero_le _, Nat.zero_le _⟩) hS (fun r19 s20 H locs hp18 hw hS => ?_)
      obtain ⟨err16, esr16, hzr16⟩ := hp18
      obtain rfl := esr16.symm
      obtain rfl := err16.symm
      refine lv_if_eq (tgt := 24) hx hb dX7_canMove_19 (by decide) (fun c21 => ?_) (fun c21 => ?_)
      · skip
        replace h := ite_p c21 h
        refine lv_aload_n hx hb dX7_canMove_24 rfl (lv_at hl 2 rfl) ?_
        refine pgL (C := RX3) (T := TX3) (N := 14) hx hb hts hown hK hw 3 3 u2 hu2 (by decide) rfl rfl inF_X3 (by decide) (v := .ref (G.2.2.1 10 (u2 + 3))) rfl (hts _ wm290) (fun _ h9 => h9) dX7_canMove_25 ?_
        refine pcalli (va_runV (As := []) (rest := []) ⟨hx, hb, hml, hown, hts⟩ (c_lsize (l := l) (G := G) (tys := tys) (σ := σ) (j := u2 + 3) (show u2 + 3 < σ.1 0 + 3 from Nat.add_lt_add_right hu2 3)) (cwV 0 hts (gVA wm250 wm251 wm252 wm13 wm253) rfl rfl rfl (by decide +kernel) ⟨(Nat.le_of_ble_eq_true rfl), (Nat.le_of_ble_eq_true rfl)⟩) (pl_preV hA hS hw hK (u2 + 3) (show u2 + 3 < σ.1 0 + 3 from Nat.add_lt_add_right hu2 3) []) rfl rfl hl.1 rfl (lv_room (Nat.le_of_ble_eq_true rfl)) dX7_canMove_28 ⟨Nat.zero_le _, Nat.zero_le _⟩) hS (fun rz22 sz22 H locs hpz22 hw hS => ?_)
        obtain ⟨rfl, ez22⟩ := hpz22
        obtain rfl := ez22.symm
        refine lv_aload_n hx hb dX7_canMove_31 rfl (lv_at hl 1 rfl) ?_
        obtain ⟨o23, eo23, h⟩ := nq_e h
        have ho23 := pv_cl hw eo23
        refine pgR (C := RX3) (T := TX3) (N := 14) hx hb hts hown hK hw 3 8 u1 hu1 (by decide) rfl rfl inF_X3 (by decide) rfl o23 eo23 (hts _ wm289) (fun _ h9 => h9) dX7_canMove_32 ?_
        refine lv_aload_n hx hb dX7_canMove_35 rfl (lv_at hl 2 rfl) ?_
        refine pacmpq_ne (tgt := 43) hx hb hw 3 o23 u2 ho23 hu2 dX7_canMove_36 (by decide) (fun c24 => ?_) (fun c24 => ?_)
        · skip
          replace h := ite_n c24 h
          refine lv_iconst (v := 0) hx hb dX7_canMove_43 (by decide) ?_
          exact blk44 u1 u2 x3 0 (nI (σ.2.2.2.2 (u2 + 3)).length) hu1 hu2 h _ _ hw hS ls (lv_sub hl [1, 2, 3] rfl)
        · skip
          replace h := ite_p c24 h
          refine lv_iconst (v := 1) hx hb dX7_canMove_39 (by decide) ?_
          refine lv_goto (tgt := 44) hx hb dX7_canMove_40 (by decide) ?_
          exact blk44 u1 u2 x3 1 (nI (σ.2.2.2.2 (u2 + 3)).length) hu1 hu2 h _ _ hw hS ls (lv_sub hl [1, 2, 3] rfl)
      · skip
        replace h := ite_n c21 h
        refine lv_iconst (v := 0) hx hb dX7_canMove_22 (by decide) ?_
        exact pez hx hb hr (is01_nar (Or.inl rfl)) hlocks hA hw hK hS ⟨Option.some.inj h, rfl, (Or.inl rfl)⟩ dX7_canMove_23
def f_X7_markGone_14  (kf : PvS → Nat → Int32 → Option PvS) : Nat → PvS → Nat → Int32 → Int32 → Option PvS
  | 0, _, _, _, _ => none
  | n + 1, τ, ub0, xb1, xb2 => if (nI (τ.2.2.2.2 (ub0 + 3)).length) ≤ xb2 then (some τ) else (gd (vin xb2 (τ.2.2.2.2 (ub0 + 3)).length) (nm ((τ.2.2.2.2 (ub0 + 3)).getD xb2.toNatClampNeg 0) (fun y4 => ob1 (kf τ y4 (xb1 + 1)) (fun σ6 => f_X7_markGone_14 kf n σ6 ub0 xb1 (xb2 + 1)))))
theorem f_X7_markGone_14_z {kf : PvS → Nat → Int32 → Option PvS} {τ : PvS} {ub0 : Nat} {xb1 : Int32} {xb2 : Int32} : f_X7_markGone_14 kf 0 τ ub0 xb1 xb2 = none := rfl
theorem f_X7_markGone_14_s {n : Nat} {kf : PvS → Nat → Int32 → Option PvS} {τ : PvS} {ub0 : Nat} {xb1 : Int32} {xb2 : Int32} : f_X7_markGone_14 kf (n + 1) τ ub0 xb1 xb2 = if (nI (τ.2.2.2.2 (ub0 + 3)).length) ≤ xb2 then (some τ) else (gd (vin xb2 (τ.2.2.2.2 (ub0 + 3)).length) (nm ((τ.2.2.2.2 (ub0 + 3)).getD xb2.toNatClampNeg 0) (fun y4 => ob1 (kf τ y4 (xb1 + 1)) (fun σ6 => f_X7_markGone_14 kf n σ6 ub0 xb1 (xb2 + 1))))) := rfl
def f_X7_markGone : Nat → PvS → Nat → Int32 → Option PvS
  | 0, _, _, _ => none
  | nr + 1, σ, u0, x1 => if x1 ≤ 10 then (nm (pvI σ 3 13 u0 1) (fun σ12 => f_X7_markGone_14 (f_X7_markGone nr) fu σ12 u0 x1 0)) else (some σ)
theorem f_X7_markGone_z {σ : PvS} {u0 : Nat} {x1 : Int32} : f_X7_markGone 0 σ u0 x1 = none := rfl
theorem f_X7_markGone_s {nr : Nat} {σ : PvS} {u0 : Nat} {x1 : Int32} : f_X7_markGone (nr + 1) σ u0 x1 = if x1 ≤ 10 then (nm (pvI σ 3 13 u0 1) (fun σ12 => f_X7_markGone_14 (f_X7_markGone nr) fu σ12 u0 x1 0)) else (some σ) := rfl
set_option maxHeartbeats 4000000 in
set_option maxRecDepth 100000 in
theorem c_X7_markGone {l : Launch} {G : PvG} {tys : List (ClassId × FieldType)} (htys : tys = pvT G) : ∀ (nr : Nat) {σ : PvS} {u0 : Nat} {x1 : Int32} {σ1 : PvS}, (u0 < pvM σ 3) → f_X7_markGone nr σ u0 x1 = some σ1 → Met l yX7_markGone (Cond.code yX7_markGone cX7_markGone 3 none :: WA) ({ frames := 1 * nr + 3, cells := 0, slots := 0, locals := 22 * nr + 64 }) (va_Pc [.ref (G.2.2.1 3 u0), .int x1] (pvU G tys σ)) (va_Qv (fun σ' => σ' = σ1 ∧ σ'.1 = σ.1) (pvU G tys) (pvB G)) 0 0 (pvB G) := by
  intro nr
  induction nr with
  | zero =>
    intros
    rename_i h
    rw [f_X7_markGone_z] at h
    cases h
  | succ nr ih =>
  intro σ u0 x1 σ1 hu0 h
  refine Met.ofW (cc := cX7_markGone) (maxL := 3) (ret := none) (by decide) rfl ?_
  intro p e s m args below meth c s₁ B hml hv
  obtain ⟨rfl, hw, hK, hA⟩ := hv
  have hx := B.exec
  have hb := B.bytes
  have hr := B.returns
  have hts0 := atoms_spec (ws := (Cond.code yX7_markGone cX7_markGone 3 none :: WA)) B.pre
  have hts : ∀ w ∈ WA, w.before _ s = true := fun w h => hts0 w (List.mem_cons_of_mem _ h)
  have hown : s.vm.findClass RX7 = some m.cls := findClass_of_methodNamed B.named
  have hlocks := B.notSynchronized
  have hS : va_S (pvB G) s.heap s.heap [] := va_S.rf
  have hl := lv_entry ([.ref (G.2.2.1 3 u0), .int x1]) (n := 3) (Nat.le_of_ble_eq_true rfl)
  rw [lg_entry_eq]
  generalize (lg_sl ([.ref (G.2.2.1 3 u0), .int x1]) ++ List.replicate (3 - (lg_sl ([.ref (G.2.2.1 3 u0), .int x1])).length) Slot.unset).toArray = ls at hl ⊢
  have hl : lv_has ls 3 [(0, .ref (G.2.2.1 3 u0)), (1, .int x1)] := hl
  have hroot := pv_root hw
  rw [f_X7_markGone_s] at h
  have loop14 : ∀ (n : Nat) (τ : PvS) (ub0 : Nat) (xb1 : Int32) (xb2 : Int32), (τ.1 = σ.1) → (ub0 < pvM σ 3) → f_X7_markGone_14 (f_X7_markGone nr) n τ ub0 xb1 xb2 = some σ1 → ∀ (H : Heap) (locs : List Loc), pvW G τ H → va_S (pvB G) s.heap H locs → ∀ (ls : Array Slot), lv_has ls 3 [(0, .ref (G.2.2.1 3 ub0)), (1, .int xb1), (2, .int xb2)] → W p l e (headSpec (Cond.code yX7_markGone cX7_markGone 3 none :: WA) ({ frames := 1 * (nr + 1) + 3, cells := 0, slots := 0, locals := 22 * (nr + 1) + 64 } : Room)).room s m ([.ref (G.2.2.1 3 u0), .int x1] : List Value).toArray below meth c H locs 0 0 (MQ below (va_Qv (fun σ' => σ' = σ1 ∧ σ'.1 = σ.1) (pvU G tys) (pvB G)) ([.ref (G.2.2.1 3 u0), .int x1] : List Value).toArray s 0 0 (pvB G)) (F0 m 14 ls []) := by
    intro n14
    induction n14 with
    | zero =>
      intro τ ub0 xb1 xb2 hcτ hub0 h
      rw [f_X7_markGone_14_z] at h
      cases h
    | succ n14 ih14 =>
      intro τ ub0 xb1 xb2 hcτ hub0 h H locs hw hS ls hl
      rw [f_X7_markGone_14_s] at h
      refine lv_iload_n hx hb dX7_markGone_14 rfl (lv_at hl 2 rfl) ?_
      refine lv_aload_n hx hb dX7_markGone_15 rfl (lv_at hl 0 rfl) ?_
      refine pgL (C := RX3) (T := TX3) (N := 14) hx hb hts hown hK hw 3 3 ub0 (lt_c hcτ 3 hub0) (by decide) rfl rfl inF_X3 (by decide) (v := .ref (G.2.2.1 10 (ub0 + 3))) rfl (hts _ wm290) (fun _ h9 => h9) dX7_markGone_16 ?_
      refine pcalli (va_runV (As := []) (rest := [.int xb2]) ⟨hx, hb, hml, hown, hts⟩ (c_lsize (l := l) (G := G) (tys := tys) (σ := τ) (j := ub0 + 3) (show ub0 + 3 < τ.1 0 + 3 from Nat.add_lt_add_right (lt_c hcτ 3 hub0) 3)) (cwV 0 hts (gVA wm250 wm251 wm252 wm13 wm253) rfl rfl rfl (by decide +kernel) ⟨(by show 0 + 1 ≤ 1 * (nr + 1) + 3; omega), (by show 8 + (1 + 11) + 0 ≤ 22 * (nr + 1) + 64; omega)⟩) (pl_preV hA hS hw hK (ub0 + 3) (show ub0 + 3 < τ.1 0 + 3 from Nat.add_lt_add_right (lt_c hcτ 3 hub0) 3) []) rfl rfl hl.1 rfl (lv_room (Nat.le_of_ble_eq_true rfl)) dX7_markGone_19 ⟨Nat.zero_le _, Nat.zero_le _⟩) hS (fun rz1 sz1 H locs hpz1 hw hS => ?_)
      obtain ⟨rfl, ez1⟩ := hpz1
      obtain rfl := ez1.symm
      refine lv_icmp_ge (tgt := 48) hx hb dX7_markGone_22 (by decide) (fun c2 => ?_) (fun c2 => ?_)
      · skip
        replace h := ite_p c2 h
        exact pev hx hb hr hlocks hA hw hK hS (psv h hcτ) dX7_markGone_48
      · skip
        replace h := ite_n c2 h
        refine lv_aload_n hx hb dX7_markGone_25 rfl (lv_at hl 0 rfl) ?_
        refine pgL (C := RX3) (T := TX3) (N := 14) hx hb hts hown hK hw 3 3 ub0 (lt_c hcτ 3 hub0) (by decide) rfl rfl inF_X3 (by decide) (v := .ref (G.2.2.1 10 (ub0 + 3))) rfl (hts _ wm290) (fun _ h9 => h9) dX7_markGone_26 ?_
        refine lv_iload_n hx hb dX7_markGone_29 rfl (lv_at hl 2 rfl) ?_
        obtain ⟨g3, h⟩ := gd_e h
        obtain ⟨y4, ey4, h⟩ := nq_e h
        refine pcallg (κ := 3) (pvK_c _) (va_runV (As := [.int xb2]) (rest := []) ⟨hx, hb, hml, hown, hts⟩ (c_lgetI (l := l) (G := G) (tys := tys) (σ := τ) htys (j := ub0 + 3) (show ub0 + 3 < τ.1 0 + 3 from Nat.add_lt_add_right (lt_c hcτ 3 hub0) 3) g3 (pl_len2 hw (ub0 + 3) (show ub0 + 3 < τ.1 0 + 3 from Nat.add_lt_add_right (lt_c hcτ 3 hub0) 3))) (cwV 1 hts (gVA wm254 wm255 wm256 wm13 wm257) rfl rfl rfl (by decide +kernel) ⟨(by show 2 + 1 ≤ 1 * (nr + 1) + 3; omega), (by show 8 + (2 + 11) + 43 ≤ 22 * (nr + 1) + 64; omega)⟩) (pl_preV hA hS hw hK (ub0 + 3) (show ub0 + 3 < τ.1 0 + 3 from Nat.add_lt_add_right (lt_c hcτ 3 hub0) 3) [.int xb2]) rfl rfl hl.1 rfl (lv_room (Nat.le_of_ble_eq_true rfl)) dX7_markGone_30 ⟨Nat.zero_le _, Nat.zero_le _⟩) hS (fun zy4 ezy4 H locs hw hS => ?_)
        obtain rfl : y4 = zy4 := ey4.trans ezy4.symm
        have hy4 : y4 < pvM τ 3 := by rw [ey4]; exact pl_lt hw (ub0 + 3) (show ub0 + 3 < τ.1 0 + 3 from Nat.add_lt_add_right (lt_c hcτ 3 hub0) 3) _ (Nat.not_le.mp fun q => g3 (Or.inr q)) (pvK_c _)
        have hy4 : y4 < pvM σ 3 := lt_c hcτ.symm 3 hy4
        refine pcast hx hb hown hK hw 3 y4 (lt_c hcτ 3 hy4) (by decide) rfl (hts _ wm40) dX7_markGone_33 ?_
        refine lv_iload_n hx hb dX7_markGone_36 rfl (lv_at hl 1 rfl) ?_
        refine lv_iconst (v := 1) hx hb dX7_markGone_37 (by decide) ?_
        refine lv_iadd hx hb dX7_markGone_38 ?_
        obtain ⟨σ6, e7, h⟩ := ob1_e h
        refine pcallv (va_runS (As := [.ref (G.2.2.1 3 y4), .int (xb1 + 1)]) (rest := []) ⟨hx, hb, hml, hown, hts⟩ (ih (lt_c hcτ 3 hy4) e7) (va_cwS 2 hts (gSA wm908 wm909 wm28 wm910) rfl rfl rfl (by decide +kernel) ⟨(by show 1 * nr + 3 + 1 ≤ 1 * (nr + 1) + 3; omega), (by show 8 + (3 + 11) + (22 * nr + 64) ≤ 22 * (nr + 1) + 64; omega)⟩) (pv_preS hA hS hw hK [.ref (G.2.2.1 3 y4), .int (xb1 + 1)]) rfl rfl hl.1 rfl (lv_room (Nat.le_of_ble_eq_true rfl)) dX7_markGone_39 ⟨Nat.zero_le _, Nat.zero_le _⟩) hS (fun s10 H locs hp8 hw hS => ?_)
        obtain ⟨esσ6, hdσ6⟩ := hp8
        obtain rfl := esσ6.symm
        have hcσ6 : σ6.1 = σ.1 := hdσ6.trans hcτ
        refine lv_iinc (v := xb2 + 1) (lv' := [(2, .int (xb2 + 1)), (0, .ref (G.2.2.1 3 ub0)), (1, .int xb1)]) hx hb dX7_markGone_42 hl (k := 2) rfl (by rfl) (by decide) rfl (fun ls hl => ?_)
        refine lv_goto (tgt := 14) hx hb dX7_markGone_45 (by decide) ?_
        exact ih14 σ6 ub0 xb1 (xb2 + 1) hcσ6 hub0 h _ _ hw hS ls (lv_sub hl [1, 2, 0] rfl)
  refine lv_iload_n hx hb dX7_markGone_0 rfl (lv_at hl 1 rfl) ?_
  refine lv_bipush (v := 10) hx hb dX7_markGone_1 (by decide) ?_
  refine lv_icmp_le (tgt := 7) hx hb dX7_markGone_3 (by decide) (fun c11 => ?_) (fun c11 => ?_)
  · skip
    replace h := ite_p c11 h
    refine lv_aload_n hx hb dX7_markGone_7 rfl (lv_at hl 0 rfl) ?_
    refine lv_iconst (v := 1) hx hb dX7_markGone_8 (by decide) ?_
    obtain ⟨σ12, eσ12, h⟩ := nq_e h
    refine ppI (ty := .boolean) (C := RX3) (T := TX3) (N := 14) hx hb hts hown hK hw hS 3 13 u0 hu0 (by decide) rfl rfl inF_X3 (by decide) rfl (by decide) tyX3_ok nmX3 (hts _ wm249) (fun _ h9 => h9) rfl (by decide +kernel) (is01_nar (Or.inr rfl)) (is01_fit (Or.inr rfl)) dX7_markGone_9 (fun H locs hw hS => ?_)
    rw [← eσ12] at hw
    have hcσ12 : σ12.1 = σ.1 := by rw [eσ12]; exact rfl
    refine lv_iconst (v := 0) hx hb dX7_markGone_12 (by decide) ?_
    refine lv_istore_n (lv' := [(2, .int 0), (0, .ref (G.2.2.1 3 u0)), (1, .int x1)]) hx hb dX7_markGone_13 rfl hl (by decide) rfl (fun ls hl => ?_)
    exact loop14 fu σ12 u0 x1 0 hcσ12 hu0 h _ _ hw hS ls (lv_sub hl [1, 2, 0] rfl)
  · skip
    replace h := ite_n c11 h
    exact pev hx hb hr hlocks hA hw hK hS (psv h rfl) dX7_markGone_6
