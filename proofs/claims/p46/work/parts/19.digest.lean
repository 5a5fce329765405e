def f_X9_digestOfPlace_35  (σ : PvS) (ub3 : Nat) (xbs0 : Int32) (xbs1 : Int64) : Option Int64 :=
  ob1 (f_X9_parent σ (σ.2.1 3 0 ub3)) (fun r1 => ob1 (f_X9_size σ (σ.2.1 3 0 ub3)) (fun r6 => some (((((xbs1 + xbs0.toInt64) * 31) + r1.toInt64) * 31) + r6.toInt64)))
def f_X9_digestOfPlace (σ : PvS) (x1 : Int64) (u3 : Nat) : Option Int64 :=
  if (σ.2.1 3 1 u3) = 0 then (f_X9_digestOfPlace_35 σ u3 0 (((x1 * 31) + ((σ.2.1 3 0 u3).toInt64)) * 31)) else (f_X9_digestOfPlace_35 σ u3 1 (((x1 * 31) + ((σ.2.1 3 0 u3).toInt64)) * 31))
set_option maxHeartbeats 4000000 in
set_option maxRecDepth 100000 in
theorem c_X9_digestOfPlace {l : Launch} {G : PvG} {tys : List (ClassId × FieldType)} {σ : PvS} (htys : tys = pvT G)  {x1 : Int64} {u3 : Nat} (hu3 : u3 < pvM σ 3) {r : Int64} (h : f_X9_digestOfPlace σ x1 u3 = some r) : Met l yX9_digestOfPlace (Cond.code yX9_digestOfPlace cX9_digestOfPlace 6 (some .long) :: WA) ({ frames := 6, cells := 0, slots := 0, locals := 128 }) (va_Pc [.ref (G.2.2.1 9 0), .long x1, .ref (G.2.2.1 3 u3)] (pvU G tys σ)) (va_Ql (fun r' σ' => r' = r ∧ σ' = σ) (pvU G tys) (pvB G)) 0 0 (pvB G) := by
  refine Met.ofW (cc := cX9_digestOfPlace) (maxL := 6) (ret := (some .long)) (by decide) rfl ?_
  intro p e s m args below meth c s₁ B hml hv
  obtain ⟨rfl, hw, hK, hA⟩ := hv
  have hx := B.exec
  have hb := B.bytes
  have hr := B.returns
  have hts0 := atoms_spec (ws := (Cond.code yX9_digestOfPlace cX9_digestOfPlace 6 (some .long) :: WA)) B.pre
  have hts : ∀ w ∈ WA, w.before _ s = true := fun w h => hts0 w (List.mem_cons_of_mem _ h)
  have hown : s.vm.findClass RX9 = some m.cls := findClass_of_methodNamed B.named
  have hlocks := B.notSynchronized
  have hS : va_S (pvB G) s.heap s.heap [] := va_S.rf
  have hl := lv_entry ([.ref (G.2.2.1 9 0), .long x1, .ref (G.2.2.1 3 u3)]) (n := 6) (Nat.le_of_ble_eq_true rfl)
  rw [lg_entry_eq]
  generalize (lg_sl ([.ref (G.2.2.1 9 0), .long x1, .ref (G.2.2.1 3 u3)]) ++ List.replicate (6 - (lg_sl ([.ref (G.2.2.1 9 0), .long x1, .ref (G.2.2.1 3 u3)])).length) Slot.unset).toArray = ls at hl ⊢
  have hl : lv_has ls 6 [(0, .ref (G.2.2.1 9 0)), (1, .long x1), (3, .ref (G.2.2.1 3 u3))] := hl
  have hroot := pv_root hw
  unfold f_X9_digestOfPlace at h
  have blk35 : ∀ (ub3 : Nat) (xbs0 : Int32) (xbs1 : Int64), (ub3 < pvM σ 3) → f_X9_digestOfPlace_35 σ ub3 xbs0 xbs1 = some r → ∀ (H : Heap) (locs : List Loc), pvW G σ H → va_S (pvB G) s.heap H locs → ∀ (ls : Array Slot), lv_has ls 6 [(0, .ref (G.2.2.1 9 0)), (3, .ref (G.2.2.1 3 ub3))] → W p l e (headSpec (Cond.code yX9_digestOfPlace cX9_digestOfPlace 6 (some .long) :: WA) ({ frames := 6, cells := 0, slots := 0, locals := 128 } : Room)).room s m ([.ref (G.2.2.1 9 0), .long x1, .ref (G.2.2.1 3 u3)] : List Value).toArray below meth c H locs 0 0 (MQ below (va_Ql (fun r' σ' => r' = r ∧ σ' = σ) (pvU G tys) (pvB G)) ([.ref (G.2.2.1 9 0), .long x1, .ref (G.2.2.1 3 u3)] : List Value).toArray s 0 0 (pvB G)) (F0 m 35 ls [.int xbs0, .long xbs1]) := by
    intro ub3 xbs0 xbs1 hub3 h H locs hw hS ls hl
    unfold f_X9_digestOfPlace_35 at h
    refine lv_i2l hx hb dX9_digestOfPlace_35 rfl ?_
    refine lv_ladd hx hb dX9_digestOfPlace_36 ?_
    refine lv_lstore (lv' := [(4, .long (xbs1 + xbs0.toInt64)), (0, .ref (G.2.2.1 9 0)), (3, .ref (G.2.2.1 3 ub3))]) hx hb dX9_digestOfPlace_37 hl (by decide) rfl (fun ls hl => ?_)
    refine lv_lload hx hb dX9_digestOfPlace_39 (lv_at hl 0 rfl) ?_
    refine lv_ldc2 (v := 31) hx hb hown (hts _ wm773) dX9_digestOfPlace_41 ?_
    refine lv_lmul hx hb dX9_digestOfPlace_44 ?_
    refine lv_aload_n hx hb dX9_digestOfPlace_45 rfl (lv_at hl 1 rfl) ?_
    refine lv_aload_n hx hb dX9_digestOfPlace_46 rfl (lv_at hl 2 rfl) ?_
    refine pgI (C := RX3) (T := TX3) (N := 14) hx hb hts hown hK hw 3 0 ub3 hub3 (by decide) rfl rfl inF_X3 (by decide) rfl (hts _ wm696) (fun _ h9 => h9) dX9_digestOfPlace_47 ?_
    obtain ⟨r1, e2, h⟩ := ob1_e h
    refine pcalli (va_runV (As := [.int (σ.2.1 3 0 ub3)]) (rest := [.long ((xbs1 + xbs0.toInt64) * 31)]) ⟨hx, hb, hml, hown, hts⟩ (c_X9_parent (l := l) (G := G) (tys := tys) (σ := σ) htys  e2) (cwV 1 hts (gVA wm782 wm692 wm693 wm2 wm694) rfl rfl rfl (by decide +kernel) ⟨(Nat.le_of_ble_eq_true rfl), (Nat.le_of_ble_eq_true rfl)⟩) (pv_preV hA hS hw hK 9 0 Nat.one_pos (by decide) rfl [.int (σ.2.1 3 0 ub3)]) rfl rfl hl.1 rfl (lv_room (Nat.le_of_ble_eq_true rfl)) dX9_digestOfPlace_50 ⟨Nat.zero_le _, Nat.zero_le _⟩) hS (fun r4 s5 H locs hp3 hw hS => ?_)
    obtain ⟨err1, esr1⟩ := hp3
    obtain rfl := esr1.symm
    obtain rfl := err1.symm
    refine lv_i2l hx hb dX9_digestOfPlace_53 rfl ?_
    refine lv_ladd hx hb dX9_digestOfPlace_54 ?_
    refine lv_lstore (lv' := [(4, .long (((xbs1 + xbs0.toInt64) * 31) + r1.toInt64)), (0, .ref (G.2.2.1 9 0)), (3, .ref (G.2.2.1 3 ub3))]) hx hb dX9_digestOfPlace_55 hl (by decide) rfl (fun ls hl => ?_)
    refine lv_lload hx hb dX9_digestOfPlace_57 (lv_at hl 0 rfl) ?_
    refine lv_ldc2 (v := 31) hx hb hown (hts _ wm773) dX9_digestOfPlace_59 ?_
    refine lv_lmul hx hb dX9_digestOfPlace_62 ?_
    refine lv_aload_n hx hb dX9_digestOfPlace_63 rfl (lv_at hl 1 rfl) ?_
    refine lv_aload_n hx hb dX9_digestOfPlace_64 rfl (lv_at hl 2 rfl) ?_
    refine pgI (C := RX3) (T := TX3) (N := 14) hx hb hts hown hK hw 3 0 ub3 hub3 (by decide) rfl rfl inF_X3 (by decide) rfl (hts _ wm696) (fun _ h9 => h9) dX9_digestOfPlace_65 ?_
    obtain ⟨r6, e7, h⟩ := ob1_e h
    refine pcalli (va_runV (As := [.int (σ.2.1 3 0 ub3)]) (rest := [.long ((((xbs1 + xbs0.toInt64) * 31) + r1.toInt64) * 31)]) ⟨hx, hb, hml, hown, hts⟩ (c_X9_size (l := l) (G := G) (tys := tys) (σ := σ) htys  e7) (cwV 1 hts (gVA wm783 wm322 wm323 wm2 wm324) rfl rfl rfl (by decide +kernel) ⟨(Nat.le_of_ble_eq_true rfl), (Nat.le_of_ble_eq_true rfl)⟩) (pv_preV hA hS hw hK 9 0 Nat.one_pos (by decide) rfl [.int (σ.2.1 3 0 ub3)]) rfl rfl hl.1 rfl (lv_room (Nat.le_of_ble_eq_true rfl)) dX9_digestOfPlace_68 ⟨Nat.zero_le _, Nat.zero_le _⟩) hS (fun r9 s10 H locs hp8 hw hS => ?_)
    obtain ⟨err6, esr6⟩ := hp8
    obtain rfl := esr6.symm
    obtain rfl := err6.symm
    refine lv_i2l hx hb dX9_digestOfPlace_71 rfl ?_
    refine lv_ladd hx hb dX9_digestOfPlace_72 ?_
    refine lv_lstore (lv' := [(4, .long (((((xbs1 + xbs0.toInt64) * 31) + r1.toInt64) * 31) + r6.toInt64)), (0, .ref (G.2.2.1 9 0)), (3, .ref (G.2.2.1 3 ub3))]) hx hb dX9_digestOfPlace_73 hl (by decide) rfl (fun ls hl => ?_)
    refine lv_lload hx hb dX9_digestOfPlace_75 (lv_at hl 0 rfl) ?_
    exact pel hx hb hr hlocks hA hw hK hS ⟨Option.some.inj h, rfl⟩ dX9_digestOfPlace_77
  refine lv_lload_n hx hb dX9_digestOfPlace_0 rfl (lv_at hl 1 rfl) ?_
  refine lv_lstore (lv' := [(4, .long x1), (0, .ref (G.2.2.1 9 0)), (1, .long x1), (3, .ref (G.2.2.1 3 u3))]) hx hb dX9_digestOfPlace_1 hl (by decide) rfl (fun ls hl => ?_)
  refine lv_lload hx hb dX9_digestOfPlace_3 (lv_at hl 0 rfl) ?_
  refine lv_ldc2 (v := 31) hx hb hown (hts _ wm773) dX9_digestOfPlace_5 ?_
  refine lv_lmul hx hb dX9_digestOfPlace_8 ?_
  refine lv_aload_n hx hb dX9_digestOfPlace_9 rfl (lv_at hl 3 rfl) ?_
  refine pgI (C := RX3) (T := TX3) (N := 14) hx hb hts hown hK hw 3 0 u3 hu3 (by decide) rfl rfl inF_X3 (by decide) rfl (hts _ wm696) (fun _ h9 => h9) dX9_digestOfPlace_10 ?_
  refine lv_i2l hx hb dX9_digestOfPlace_13 rfl ?_
  refine lv_ladd hx hb dX9_digestOfPlace_14 ?_
  refine lv_lstore (lv' := [(4, .long ((x1 * 31) + ((σ.2.1 3 0 u3).toInt64))), (0, .ref (G.2.2.1 9 0)), (1, .long x1), (3, .ref (G.2.2.1 3 u3))]) hx hb dX9_digestOfPlace_15 hl (by decide) rfl (fun ls hl => ?_)
  refine lv_lload hx hb dX9_digestOfPlace_17 (lv_at hl 0 rfl) ?_
  refine lv_ldc2 (v := 31) hx hb hown (hts _ wm773) dX9_digestOfPlace_19 ?_
  refine lv_lmul hx hb dX9_digestOfPlace_22 ?_
  refine lv_aload_n hx hb dX9_digestOfPlace_23 rfl (lv_at hl 3 rfl) ?_
  refine pgI (C := RX3) (T := TX3) (N := 14) hx hb hts hown hK hw 3 1 u3 hu3 (by decide) rfl rfl inF_X3 (by decide) rfl (hts _ wm235) (fun _ h9 => h9) dX9_digestOfPlace_24 ?_
  refine lv_if_eq (tgt := 34) hx hb dX9_digestOfPlace_27 (by decide) (fun c11 => ?_) (fun c11 => ?_)
  · skip
    replace h := ite_p c11 h
    refine lv_iconst (v := 0) hx hb dX9_digestOfPlace_34 (by decide) ?_
    exact blk35 u3 0 (((x1 * 31) + ((σ.2.1 3 0 u3).toInt64)) * 31) hu3 h _ _ hw hS ls (lv_sub hl [1, 3] rfl)
  · skip
    replace h := ite_n c11 h
    refine lv_iconst (v := 1) hx hb dX9_digestOfPlace_30 (by decide) ?_
    refine lv_goto (tgt := 35) hx hb dX9_digestOfPlace_31 (by decide) ?_
    exact blk35 u3 1 (((x1 * 31) + ((σ.2.1 3 0 u3).toInt64)) * 31) hu3 h _ _ hw hS ls (lv_sub hl [1, 3] rfl)
def f_X9_digestOfBox (σ : PvS) (x0 : Int64) (u2 : Nat) : Option Int64 :=
  ob1 (f_X2_borderX σ u2) (fun r1 => ob1 (f_X2_borderY σ u2) (fun r6 => ob1 (f_X2_borderWide σ u2) (fun r11 => ob1 (f_X2_borderHigh σ u2) (fun r16 => ob1 (f_X2_reachOrNone σ u2) (fun r21 => ob1 (f_X2_linesOrNone σ u2) (fun r26 => some ((((((((((((((((x0 * 31) + ((σ.2.1 2 0 u2).toInt64)) * 31) + r1.toInt64) * 31) + r6.toInt64) * 31) + r11.toInt64) * 31) + r16.toInt64) * 31) + r21.toInt64) * 31) + ((σ.2.1 2 13 u2).toInt64)) * 31) + r26.toInt64)))))))
set_option maxHeartbeats 4000000 in
set_option maxRecDepth 100000 in
theorem c_X9_digestOfBox {l : Launch} {G : PvG} {tys : List (ClassId × FieldType)} {σ : PvS} (htys : tys = pvT G)  {x0 : Int64} {u2 : Nat} (hu2 : u2 < pvM σ 3) {r : Int64} (h : f_X9_digestOfBox σ x0 u2 = some r) : Met l yX9_digestOfBox (Cond.code yX9_digestOfBox cX9_digestOfBox 5 (some .long) :: WA) ({ frames := 2, cells := 0, slots := 0, locals := 40 }) (va_Pc [.long x0, .ref (G.2.2.1 3 u2)] (pvU G tys σ)) (va_Ql (fun r' σ' => r' = r ∧ σ' = σ) (pvU G tys) (pvB G)) 0 0 (pvB G) := by
  refine Met.ofW (cc := cX9_digestOfBox) (maxL := 5) (ret := (some .long)) (by decide) rfl ?_
  intro p e s m args below meth c s₁ B hml hv
  obtain ⟨rfl, hw, hK, hA⟩ := hv
  have hx := B.exec
  have hb := B.bytes
  have hr := B.returns
  have hts0 := atoms_spec (ws := (Cond.code yX9_digestOfBox cX9_digestOfBox 5 (some .long) :: WA)) B.pre
  have hts : ∀ w ∈ WA, w.before _ s = true := fun w h => hts0 w (List.mem_cons_of_mem _ h)
  have hown : s.vm.findClass RX9 = some m.cls := findClass_of_methodNamed B.named
  have hlocks := B.notSynchronized
  have hS : va_S (pvB G) s.heap s.heap [] := va_S.rf
  have hl := lv_entry ([.long x0, .ref (G.2.2.1 3 u2)]) (n := 5) (Nat.le_of_ble_eq_true rfl)
  rw [lg_entry_eq]
  generalize (lg_sl ([.long x0, .ref (G.2.2.1 3 u2)]) ++ List.replicate (5 - (lg_sl ([.long x0, .ref (G.2.2.1 3 u2)])).length) Slot.unset).toArray = ls at hl ⊢
  have hl : lv_has ls 5 [(0, .long x0), (2, .ref (G.2.2.1 3 u2))] := hl
  have hroot := pv_root hw
  unfold f_X9_digestOfBox at h
  refine lv_lload_n hx hb dX9_digestOfBox_0 rfl (lv_at hl 0 rfl) ?_
  refine lv_lstore_n (lv' := [(3, .long x0), (0, .long x0), (2, .ref (G.2.2.1 3 u2))]) hx hb dX9_digestOfBox_1 rfl hl (by decide) rfl (fun ls hl => ?_)
  refine lv_lload_n hx hb dX9_digestOfBox_2 rfl (lv_at hl 0 rfl) ?_
  refine lv_ldc2 (v := 31) hx hb hown (hts _ wm773) dX9_digestOfBox_3 ?_
  refine lv_lmul hx hb dX9_digestOfBox_6 ?_
  refine lv_aload_n hx hb dX9_digestOfBox_7 rfl (lv_at hl 2 rfl) ?_
  refine pgL (C := RX3) (T := TX3) (N := 14) hx hb hts hown hK hw 3 6 u2 hu2 (by decide) rfl rfl inF_X3 (by decide) (v := .ref (G.2.2.1 2 u2)) rfl (hts _ wm415) (fun _ h9 => h9) dX9_digestOfBox_8 ?_
  refine pgI (C := RX2) (T := TX2) (N := 16) hx hb hts hown hK hw 2 0 u2 hu2 (by decide) rfl rfl inF_X2 (by decide) rfl (hts _ wm410) (fun _ h9 => h9) dX9_digestOfBox_11 ?_
  refine lv_i2l hx hb dX9_digestOfBox_14 rfl ?_
  refine lv_ladd hx hb dX9_digestOfBox_15 ?_
  refine lv_lstore_n (lv' := [(3, .long ((x0 * 31) + ((σ.2.1 2 0 u2).toInt64))), (0, .long x0), (2, .ref (G.2.2.1 3 u2))]) hx hb dX9_digestOfBox_16 rfl hl (by decide) rfl (fun ls hl => ?_)
  refine lv_lload_n hx hb dX9_digestOfBox_17 rfl (lv_at hl 0 rfl) ?_
  refine lv_ldc2 (v := 31) hx hb hown (hts _ wm773) dX9_digestOfBox_18 ?_
  refine lv_lmul hx hb dX9_digestOfBox_21 ?_
  refine lv_aload_n hx hb dX9_digestOfBox_22 rfl (lv_at hl 2 rfl) ?_
  refine pgL (C := RX3) (T := TX3) (N := 14) hx hb hts hown hK hw 3 6 u2 hu2 (by decide) rfl rfl inF_X3 (by decide) (v := .ref (G.2.2.1 2 u2)) rfl (hts _ wm415) (fun _ h9 => h9) dX9_digestOfBox_23 ?_
  obtain ⟨r1, e2, h⟩ := ob1_e h
  refine pcalli (va_runV (As := []) (rest := [.long (((x0 * 31) + ((σ.2.1 2 0 u2).toInt64)) * 31)]) ⟨hx, hb, hml, hown, hts⟩ (c_X2_borderX (l := l) (G := G) (tys := tys) (σ := σ) htys hu2 e2) (cwV 0 hts (gVA wm674 wm675 wm676 wm81 wm677) rfl rfl rfl (by decide +kernel) ⟨(Nat.le_of_ble_eq_true rfl), (Nat.le_of_ble_eq_true rfl)⟩) (pv_preV hA hS hw hK 2 u2 hu2 (by decide) rfl []) rfl rfl hl.1 rfl (lv_room (Nat.le_of_ble_eq_true rfl)) dX9_digestOfBox_26 ⟨Nat.zero_le _, Nat.zero_le _⟩) hS (fun r4 s5 H locs hp3 hw hS => ?_)
  obtain ⟨err1, esr1⟩ := hp3
  obtain rfl := esr1.symm
  obtain rfl := err1.symm
  refine lv_i2l hx hb dX9_digestOfBox_29 rfl ?_
  refine lv_ladd hx hb dX9_digestOfBox_30 ?_
  refine lv_lstore_n (lv' := [(3, .long ((((x0 * 31) + ((σ.2.1 2 0 u2).toInt64)) * 31) + r1.toInt64)), (0, .long x0), (2, .ref (G.2.2.1 3 u2))]) hx hb dX9_digestOfBox_31 rfl hl (by decide) rfl (fun ls hl => ?_)
  refine lv_lload_n hx hb dX9_digestOfBox_32 rfl (lv_at hl 0 rfl) ?_
  refine lv_ldc2 (v := 31) hx hb hown (hts _ wm773) dX9_digestOfBox_33 ?_
  refine lv_lmul hx hb dX9_digestOfBox_36 ?_
  refine lv_aload_n hx hb dX9_digestOfBox_37 rfl (lv_at hl 2 rfl) ?_
  refine pgL (C := RX3) (T := TX3) (N := 14) hx hb hts hown hK hw 3 6 u2 hu2 (by decide) rfl rfl inF_X3 (by decide) (v := .ref (G.2.2.1 2 u2)) rfl (hts _ wm415) (fun _ h9 => h9) dX9_digestOfBox_38 ?_
  obtain ⟨r6, e7, h⟩ := ob1_e h
  refine pcalli (va_runV (As := []) (rest := [.long (((((x0 * 31) + ((σ.2.1 2 0 u2).toInt64)) * 31) + r1.toInt64) * 31)]) ⟨hx, hb, hml, hown, hts⟩ (c_X2_borderY (l := l) (G := G) (tys := tys) (σ := σ) htys hu2 e7) (cwV 0 hts (gVA wm787 wm788 wm789 wm81 wm790) rfl rfl rfl (by decide +kernel) ⟨(Nat.le_of_ble_eq_true rfl), (Nat.le_of_ble_eq_true rfl)⟩) (pv_preV hA hS hw hK 2 u2 hu2 (by decide) rfl []) rfl rfl hl.1 rfl (lv_room (Nat.le_of_ble_eq_true rfl)) dX9_digestOfBox_41 ⟨Nat.zero_le _, Nat.zero_le _⟩) hS (fun r9 s10 H locs hp8 hw hS => ?_)
  obtain ⟨err6, esr6⟩ := hp8
  obtain rfl := esr6.symm
  obtain rfl := err6.symm
  refine lv_i2l hx hb dX9_digestOfBox_44 rfl ?_
  refine lv_ladd hx hb dX9_digestOfBox_45 ?_
  refine lv_lstore_n (lv' := [(3, .long ((((((x0 * 31) + ((σ.2.1 2 0 u2).toInt64)) * 31) + r1.toInt64) * 31) + r6.toInt64)), (0, .long x0), (2, .ref (G.2.2.1 3 u2))]) hx hb dX9_digestOfBox_46 rfl hl (by decide) rfl (fun ls hl => ?_)
  refine lv_lload_n hx hb dX9_digestOfBox_47 rfl (lv_at hl 0 rfl) ?_
  refine lv_ldc2 (v := 31) hx hb hown (hts _ wm773) dX9_digestOfBox_48 ?_
  refine lv_lmul hx hb dX9_digestOfBox_51 ?_
  refine lv_aload_n hx hb dX9_digestOfBox_52 rfl (lv_at hl 2 rfl) ?_
  refine pgL (C := RX3) (T := TX3) (N := 14) hx hb hts hown hK hw 3 6 u2 hu2 (by decide) rfl rfl inF_X3 (by decide) (v := .ref (G.2.2.1 2 u2)) rfl (hts _ wm415) (fun _ h9 => h9) dX9_digestOfBox_53 ?_
  obtain ⟨r11, e12, h⟩ := ob1_e h
  refine pcalli (va_runV (As := []) (rest := [.long (((((((x0 * 31) + ((σ.2.1 2 0 u2).toInt64)) * 31) + r1.toInt64) * 31) + r6.toInt64) * 31)]) ⟨hx, hb, hml, hown, hts⟩ (c_X2_borderWide (l := l) (G := G) (tys := tys) (σ := σ) htys hu2 e12) (cwV 0 hts (gVA wm649 wm650 wm651 wm81 wm652) rfl rfl rfl (by decide +kernel) ⟨(Nat.le_of_ble_eq_true rfl), (Nat.le_of_ble_eq_true rfl)⟩) (pv_preV hA hS hw hK 2 u2 hu2 (by decide) rfl []) rfl rfl hl.1 rfl (lv_room (Nat.le_of_ble_eq_true rfl)) dX9_digestOfBox_56 ⟨Nat.zero_le _, Nat.zero_le _⟩) hS (fun r14 s15 H locs hp13 hw hS => ?_)
  obtain ⟨err11, esr11⟩ := hp13
  obtain rfl := esr11.symm
  obtain rfl := err11.symm
  refine lv_i2l hx hb dX9_digestOfBox_59 rfl ?_
  refine lv_ladd hx hb dX9_digestOfBox_60 ?_
  refine lv_lstore_n (lv' := [(3, .long ((((((((x0 * 31) + ((σ.2.1 2 0 u2).toInt64)) * 31) + r1.toInt64) * 31) + r6.toInt64) * 31) + r11.toInt64)), (0, .long x0), (2, .ref (G.2.2.1 3 u2))]) hx hb dX9_digestOfBox_61 rfl hl (by decide) rfl (fun ls hl => ?_)
  refine lv_lload_n hx hb dX9_digestOfBox_62 rfl (lv_at hl 0 rfl) ?_
  refine lv_ldc2 (v := 31) hx hb hown (hts _ wm773) dX9_digestOfBox_63 ?_
  refine lv_lmul hx hb dX9_digestOfBox_66 ?_
  refine lv_aload_n hx hb dX9_digestOfBox_67 rfl (lv_at hl 2 rfl) ?_
  refine pgL (C := RX3) (T := TX3) (N := 14) hx hb hts hown hK hw 3 6 u2 hu2 (by decide) rfl rfl inF_X3 (by decide) (v := .ref (G.2.2.1 2 u2)) rfl (hts _ wm415) (fun _ h9 => h9) dX9_digestOfBox_68 ?_
  obtain ⟨r16, e17, h⟩ := ob1_e h
  refine pcalli (va_runV (As := []) (rest := [.long (((((((((x0 * 31) + ((σ.2.1 2 0 u2).toInt64)) * 31) + r1.toInt64) * 31) + r6.toInt64) * 31) + r11.toInt64) * 31)]) ⟨hx, hb, hml, hown, hts⟩ (c_X2_borderHigh (l := l) (G := G) (tys := tys) (σ := σ) htys hu2 e17) (cwV 0 hts (gVA wm658 wm659 wm660 wm81 wm661) rfl rfl rfl (by decide +kernel) ⟨(Nat.le_of_ble_eq_true rfl), (Nat.le_of_ble_eq_true rfl)⟩) (pv_preV hA hS hw hK 2 u2 hu2 (by decide) rfl []) rfl rfl hl.1 rfl (lv_room (Nat.le_of_ble_eq_true rfl)) dX9_digestOfBox_71 ⟨Nat.zero_le _, Nat.zero_le _⟩) hS (fun r19 s20 H locs hp18 hw hS => ?_)
  obtain ⟨err16, esr16⟩ := hp18
  obtain rfl := esr16.symm
  obtain rfl := err16.symm
  refine lv_i2l hx hb dX9_digestOfBox_74 rfl ?_
  refine lv_ladd hx hb dX9_digestOfBox_75 ?_
  refine lv_lstore_n (lv' := [(3, .long ((((((((((x0 * 31) + ((σ.2.1 2 0 u2).toInt64)) * 31) + r1.toInt64) * 31) + r6.toInt64) * 31) + r11.toInt64) * 31) + r16.toInt64)), (0, .long x0), (2, .ref (G.2.2.1 3 u2))]) hx hb dX9_digestOfBox_76 rfl hl (by decide) rfl (fun ls hl => ?_)
  refine lv_lload_n hx hb dX9_digestOfBox_77 rfl (lv_at hl 0 rfl) ?_
  refine lv_ldc2 (v := 31) hx hb hown (hts _ wm773) dX9_digestOfBox_78 ?_
  refine lv_lmul hx hb dX9_digestOfBox_81 ?_
  refine lv_aload_n hx hb dX9_digestOfBox_82 rfl (lv_at hl 2 rfl) ?_
  refine pgL (C := RX3) (T := TX3) (N := 14) hx hb hts hown hK hw 3 6 u2 hu2 (by decide) rfl rfl inF_X3 (by decide) (v := .ref (G.2.2.1 2 u2)) rfl (hts _ wm415) (fun _ h9 => h9) dX9_digestOfBox_83 ?_
  obtain ⟨r21, e22, h⟩ := ob1_e h
  refine pcalli (va_runV (As := []) (rest := [.long (((((((((((x0 * 31) + ((σ.2.1 2 0 u2).toInt64)) * 31) + r1.toInt64) * 31) + r6.toInt64) * 31) + r11.toInt64) * 31) + r16.toInt64) * 31)]) ⟨hx, hb, hml, hown, hts⟩ (c_X2_reachOrNone (l := l) (G := G) (tys := tys) (σ := σ) htys hu2 e22) (cwV 0 hts (gVA wm666 wm667 wm668 wm81 wm669) rfl rfl rfl (by decide +kernel) ⟨(Nat.le_of_ble_eq_true rfl), (Nat.le_of_ble_eq_true rfl)⟩) (pv_preV hA hS hw hK 2 u2 hu2 (by decide) rfl []) rfl rfl hl.1 rfl (lv_room (Nat.le_of_ble_eq_true rfl)) dX9_digestOfBox_86 ⟨Nat.zero_le _, Nat.zero_le _⟩) hS (fun r24 s25 H locs hp23 hw hS => ?_)
  obtain ⟨err21, esr21⟩ := hp23
  obtain rfl := esr21.symm
  obtain rfl := err21.symm
  refine lv_i2l hx hb dX9_digestOfBox_89 rfl ?_
  refine lv_ladd hx hb dX9_digestOfBox_90 ?_
  refine lv_lstore_n (lv' := [(3, .long ((((((((((((x0 * 31) + ((σ.2.1 2 0 u2).toInt64)) * 31) + r1.toInt64) * 31) + r6.toInt64) * 31) + r11.toInt64) * 31) + r16.toInt64) * 31) + r21.toInt64)), (0, .long x0), (2, .ref (G.2.2.1 3 u2))]) hx hb dX9_digestOfBox_91 rfl hl (by decide) rfl (fun ls hl => ?_)
  refine lv_lload_n hx hb dX9_digestOfBox_92 rfl (lv_at hl 0 rfl) ?_
  refine lv_ldc2 (v := 31) hx hb hown (hts _ wm773) dX9_digestOfBox_93 ?_
  refine lv_lmul hx hb dX9_digestOfBox_96 ?_
  refine lv_aload_n hx hb dX9_digestOfBox_97 rfl (lv_at hl 2 rfl) ?_
  refine pgL (C := RX3) (T := TX3) (N := 14) hx hb hts hown hK hw 3 6 u2 hu2 (by decide) rfl rfl inF_X3 (by decide) (v := .ref (G.2.2.1 2 u2)) rfl (hts _ wm415) (fun _ h9 => h9) dX9_digestOfBox_98 ?_
  refine pgI (C := RX2) (T := TX2) (N := 16) hx hb hts hown hK hw 2 13 u2 hu2 (by decide) rfl rfl inF_X2 (by decide) rfl (hts _ wm690) (fun _ h9 => h9) dX9_digestOfBox_101 ?_
  refine lv_i2l hx hb dX9_digestOfBox_104 rfl ?_
  refine lv_ladd hx hb dX9_digestOfBox_105 ?_
  refine lv_lstore_n (lv' := [(3, .long ((((((((((((((x0 * 31) + ((σ.2.1 2 0 u2).toInt64)) * 31) + r1.toInt64) * 31) + r6.toInt64) * 31) + r11.toInt64) * 31) + r16.toInt64) * 31) + r21.toInt64) * 31) + ((σ.2.1 2 13 u2).toInt64))), (0, .long x0), (2, .ref (G.2.2.1 3 u2))]) hx hb dX9_digestOfBox_106 rfl hl (by decide) rfl (fun ls hl => ?_)
  refine lv_lload_n hx hb dX9_digestOfBox_107 rfl (lv_at hl 0 rfl) ?_
  refine lv_ldc2 (v := 31) hx hb hown (hts _ wm773) dX9_digestOfBox_108 ?_
  refine lv_lmul hx hb dX9_digestOfBox_111 ?_
  refine lv_aload_n hx hb dX9_digestOfBox_112 rfl (lv_at hl 2 rfl) ?_
  refine pgL (C := RX3) (T := TX3) (N := 14) hx hb hts hown hK hw 3 6 u2 hu2 (by decide) rfl rfl inF_X3 (by decide) (v := .ref (G.2.2.1 2 u2)) rfl (hts _ wm415) (fun _ h9 => h9) dX9_digestOfBox_113 ?_
  obtain ⟨r26, e27, h⟩ := ob1_e h
  refine pcalli (va_runV (As := []) (rest := [.long (((((((((((((((x0 * 31) + ((σ.2.1 2 0 u2).toInt64)) * 31) + r1.toInt64) * 31) + r6.toInt64) * 31) + r11.toInt64) * 31) + r16.toInt64) * 31) + r21.toInt64) * 31) + ((σ.2.1 2 13 u2).toInt64)) * 31)]) ⟨hx, hb, hml, hown, hts⟩ (c_X2_linesOrNone (l := l) (G := G) (tys := tys) (σ := σ) htys hu2 e27) (cwV 0 hts (gVA wm682 wm683 wm684 wm81 wm685) rfl rfl rfl (by decide +kernel) ⟨(Nat.le_of_ble_eq_true rfl), (Nat.le_of_ble_eq_true rfl)⟩) (pv_preV hA hS hw hK 2 u2 hu2 (by decide) rfl []) rfl rfl hl.1 rfl (lv_room (Nat.le_of_ble_eq_true rfl)) dX9_digestOfBox_116 ⟨Nat.zero_le _, Nat.zero_le _⟩) hS (fun r29 s30 H locs hp28 hw hS => ?_)
  obtain ⟨err26, esr26⟩ := hp28
  obtain rfl := esr26.symm
  obtain rfl := err26.symm
  refine lv_i2l hx hb dX9_digestOfBox_119 rfl ?_
  refine lv_ladd hx hb dX9_digestOfBox_120 ?_
  refine lv_lstore_n (lv' := [(3, .long ((((((((((((((((x0 * 31) + ((σ.2.1 2 0 u2).toInt64)) * 31) + r1.toInt64) * 31) + r6.toInt64) * 31) + r11.toInt64) * 31) + r16.toInt64) * 31) + r21.toInt64) * 31) + ((σ.2.1 2 13 u2).toInt64)) * 31) + r26.toInt64)), (0, .long x0), (2, .ref (G.2.2.1 3 u2))]) hx hb dX9_digestOfBox_121 rfl hl (by decide) rfl (fun ls hl => ?_)
  refine lv_lload_n hx hb dX9_digestOfBox_122 rfl (lv_at hl 0 rfl) ?_
  exact pel hx hb hr hlocks hA hw hK hS ⟨Option.some.inj h, rfl⟩ dX9_digestOfBox_123
def f_X9_digestOfStyles_6  (σ : PvS) : Nat → Nat → Int64 → Int32 → Option Int64
  | 0, _, _, _ => none
  | n + 1, ub3, xb4, xb6 => if 14 ≤ xb6 then (some xb4) else (ob1 (f_X6_of σ 0 ub3 xb6) (fun r2 => f_X9_digestOfStyles_6 σ n ub3 ((xb4 * 31) + r2.toInt64) (xb6 + 1)))
theorem f_X9_digestOfStyles_6_z {σ : PvS} {ub3 : Nat} {xb4 : Int64} {xb6 : Int32} : f_X9_digestOfStyles_6 σ 0 ub3 xb4 xb6 = none := rfl
theorem f_X9_digestOfStyles_6_s {n : Nat} {σ : PvS} {ub3 : Nat} {xb4 : Int64} {xb6 : Int32} : f_X9_digestOfStyles_6 σ (n + 1) ub3 xb4 xb6 = if 14 ≤ xb6 then (some xb4) else (ob1 (f_X6_of σ 0 ub3 xb6) (fun r2 => f_X9_digestOfStyles_6 σ n ub3 ((xb4 * 31) + r2.toInt64) (xb6 + 1))) := rfl
def f_X9_digestOfStyles (σ : PvS) (x1 : Int64) (u3 : Nat) : Option Int64 :=
  f_X9_digestOfStyles_6 σ fu u3 x1 0
set_option maxHeartbeats 4000000 in
set_option maxRecDepth 100000 in
theorem c_X9_digestOfStyles {l : Launch} {G : PvG} {tys : List (ClassId × FieldType)} {σ : PvS} (htys : tys = pvT G)  {x1 : Int64} {u3 : Nat} (hu3 : u3 < pvM σ 3) {r : Int64} (h : f_X9_digestOfStyles σ x1 u3 = some r) : Met l yX9_digestOfStyles (Cond.code yX9_digestOfStyles cX9_digestOfStyles 7 (some .long) :: WA) ({ frames := 1, cells := 0, slots := 0, locals := 24 }) (va_Pc [.ref (G.2.2.1 9 0), .long x1, .ref (G.2.2.1 3 u3)] (pvU G tys σ)) (va_Ql (fun r' σ' => r' = r ∧ σ' = σ) (pvU G tys) (pvB G)) 0 0 (pvB G) := by
  refine Met.ofW (cc := cX9_digestOfStyles) (maxL := 7) (ret := (some .long)) (by decide) rfl ?_
  intro p e s m args below meth c s₁ B hml hv
  obtain ⟨rfl, hw, hK, hA⟩ := hv
  have hx := B.exec
  have hb := B.bytes
  have hr := B.returns
  have hts0 := atoms_spec (ws := (Cond.code yX9_digestOfStyles cX9_digestOfStyles 7 (some .long) :: WA)) B.pre
  have hts : ∀ w ∈ WA, w.before _ s = true := fun w h => hts0 w (List.mem_cons_of_mem _ h)
  have hown : s.vm.findClass RX9 = some m.cls := findClass_of_methodNamed B.named
  have hlocks := B.notSynchronized
  have hS : va_S (pvB G) s.heap s.heap [] := va_S.rf
  have hl := lv_entry ([.ref (G.2.2.1 9 0), .long x1, .ref (G.2.2.1 3 u3)]) (n := 7) (Nat.le_of_ble_eq_true rfl)
  rw [lg_entry_eq]
  generalize (lg_sl ([.ref (G.2.2.1 9 0), .long x1, .ref (G.2.2.1 3 u3)]) ++ List.replicate (7 - (lg_sl ([.ref (G.2.2.1 9 0), .long x1, .ref (G.2.2.1 3 u3)])).length) Slot.unset).toArray = ls at hl ⊢
  have hl : lv_has ls 7 [(0, .ref (G.2.2.1 9 0)), (1, .long x1), (3, .ref (G.2.2.1 3 u3))] := hl
  have hroot := pv_root hw
  unfold f_X9_digestOfStyles at h
  have loop6 : ∀ (n : Nat) (ub3 : Nat) (xb4 : Int64) (xb6 : Int32), (ub3 < pvM σ 3) → f_X9_digestOfStyles_6 σ n ub3 xb4 xb6 = some r → ∀ (H : Heap) (locs : List Loc), pvW G σ H → va_S (pvB G) s.heap H locs → ∀ (ls : Array Slot), lv_has ls 7 [(0, .ref (G.2.2.1 9 0)), (3, .ref (G.2.2.1 3 ub3)), (4, .long xb4), (6, .int xb6)] → W p l e (headSpec (Cond.code yX9_digestOfStyles cX9_digestOfStyles 7 (some .long) :: WA) ({ frames := 1, cells := 0, slots := 0, locals := 24 } : Room)).room s m ([.ref (G.2.2.1 9 0), .long x1, .ref (G.2.2.1 3 u3)] : List Value).toArray below meth c H locs 0 0 (MQ below (va_Ql (fun r' σ' => r' = r ∧ σ' = σ) (pvU G tys) (pvB G)) ([.ref (G.2.2.1 9 0), .long x1, .ref (G.2.2.1 3 u3)] : List Value).toArray s 0 0 (pvB G)) (F0 m 6 ls []) := by
    intro n6
    induction n6 with
    | zero =>
      intro ub3 xb4 xb6 hub3 h
      rw [f_X9_digestOfStyles_6_z] at h
      cases h
    | succ n6 ih6 =>
      intro ub3 xb4 xb6 hub3 h H locs hw hS ls hl
      rw [f_X9_digestOfStyles_6_s] at h
      refine lv_iload hx hb dX9_digestOfStyles_6 (lv_at hl 3 rfl) ?_
      refine lv_bipush (v := 14) hx hb dX9_digestOfStyles_8 (by decide) ?_
      refine lv_icmp_ge (tgt := 39) hx hb dX9_digestOfStyles_10 (by decide) (fun c1 => ?_) (fun c1 => ?_)
      · skip
        replace h := ite_p c1 h
        refine lv_lload hx hb dX9_digestOfStyles_39 (lv_at hl 2 rfl) ?_
        exact pel hx hb hr hlocks hA hw hK hS ⟨Option.some.inj h, rfl⟩ dX9_digestOfStyles_41
      · skip
        replace h := ite_n c1 h
        refine lv_lload hx hb dX9_digestOfStyles_13 (lv_at hl 2 rfl) ?_
        refine lv_ldc2 (v := 31) hx hb hown (hts _ wm773) dX9_digestOfStyles_15 ?_
        refine lv_lmul hx hb dX9_digestOfStyles_18 ?_
        refine lv_aload_n hx hb dX9_digestOfStyles_19 rfl (lv_at hl 0 rfl) ?_
        refine pgL (C := RX9) (T := TX9) (N := 6) hx hb hts hown hK hw 9 3 0 Nat.one_pos (by decide) rfl rfl inF_X9 (by decide) (v := .ref (G.2.2.1 6 0)) rfl (hts _ wm20) (fun _ h9 => h9) dX9_digestOfStyles_20 ?_
        refine lv_aload_n hx hb dX9_digestOfStyles_23 rfl (lv_at hl 1 rfl) ?_
        refine lv_iload hx hb dX9_digestOfStyles_24 (lv_at hl 3 rfl) ?_
        obtain ⟨r2, e3, h⟩ := ob1_e h
        refine pcalli (va_runV (As := [.ref (G.2.2.1 3 ub3), .int xb6]) (rest := [.long (xb4 * 31)]) ⟨hx, hb, hml, hown, hts⟩ (c_X6_of (l := l) (G := G) (tys := tys) (σ := σ) htys (show 0 < 2 from by decide) hub3 e3) (cwV 2 hts (gVA wm732 wm473 wm474 wm23 wm475) rfl rfl rfl (by decide +kernel) ⟨(Nat.le_of_ble_eq_true rfl), (Nat.le_of_ble_eq_true rfl)⟩) (pv_preV hA hS hw hK 6 0 (show 0 < 2 from by decide) (by decide) rfl [.ref (G.2.2.1 3 ub3), .int xb6]) rfl rfl hl.1 rfl (lv_room (Nat.le_of_ble_eq_true rfl)) dX9_digestOfStyles_26 ⟨Nat.zero_le _, Nat.zero_le _⟩) hS (fun r5 s6 H locs hp4 hw hS => ?_)
        obtain ⟨err2, esr2⟩ := hp4
        obtain rfl := esr2.symm
        obtain rfl := err2.symm
        refine lv_i2l hx hb dX9_digestOfStyles_29 rfl ?_
        refine lv_ladd hx hb dX9_digestOfStyles_30 ?_
        refine lv_lstore (lv' := [(4, .long ((xb4 * 31) + r2.toInt64)), (0, .ref (G.2.2.1 9 0)), (3, .ref (G.2.2.1 3 ub3)), (6, .int xb6)]) hx hb dX9_digestOfStyles_31 hl (by decide) rfl (fun ls hl => ?_)
        refine lv_iinc (v := xb6 + 1) (lv' := [(6, .int (xb6 + 1)), (4, .long ((xb4 * 31) + r2.toInt64)), (0, .ref (G.2.2.1 9 0)), (3, .ref (G.2.2.1 3 ub3))]) hx hb dX9_digestOfStyles_33 hl (k := 3) rfl (by rfl) (by decide) rfl (fun ls hl => ?_)
        refine lv_goto (tgt := 6) hx hb dX9_digestOfStyles_36 (by decide) ?_
        exact ih6 ub3 ((xb4 * 31) + r2.toInt64) (xb6 + 1) hub3 h _ _ hw hS ls (lv_sub hl [2, 3, 1, 0] rfl)
  refine lv_lload_n hx hb dX9_digestOfStyles_0 rfl (lv_at hl 1 rfl) ?_
  refine lv_lstore (lv' := [(4, .long x1), (0, .ref (G.2.2.1 9 0)), (1, .long x1), (3, .ref (G.2.2.1 3 u3))]) hx hb dX9_digestOfStyles_1 hl (by decide) rfl (fun ls hl => ?_)
  refine lv_iconst (v := 0) hx hb dX9_digestOfStyles_3 (by decide) ?_
  refine lv_istore (lv' := [(6, .int 0), (4, .long x1), (0, .ref (G.2.2.1 9 0)), (1, .long x1), (3, .ref (G.2.2.1 3 u3))]) hx hb dX9_digestOfStyles_4 hl (by decide) rfl (fun ls hl => ?_)
  exact loop6 fu u3 x1 0 hu3 h _ _ hw hS ls (lv_sub hl [2, 4, 1, 0] rfl)
def f_X9_digestOfWords_15  (σ : PvS) : Nat → Nat → Int64 → Int32 → Option Int64
  | 0, _, _, _ => none
  | n + 1, ub3, xb4, xb6 => if (σ.2.1 3 9 ub3) ≤ xb6 then (ob1 (f_X4_wordsSeen σ ub3) (fun r2 => some ((xb4 * 31) + r2.toInt64))) else (ob1 (f_X2_wordLeft σ ub3 xb6) (fun r7 => ob1 (f_X2_wordTop σ ub3 xb6) (fun r12 => f_X9_digestOfWords_15 σ n ub3 ((((xb4 * 31) + r7.toInt64) * 31) + r12.toInt64) (xb6 + 1))))
theorem f_X9_digestOfWords_15_z {σ : PvS} {ub3 : Nat} {xb4 : Int64} {xb6 : Int32} : f_X9_digestOfWords_15 σ 0 ub3 xb4 xb6 = none := rfl
theorem f_X9_digestOfWords_15_s {n : Nat} {σ : PvS} {ub3 : Nat} {xb4 : Int64} {xb6 : Int32} : f_X9_digestOfWords_15 σ (n + 1) ub3 xb4 xb6 = if (σ.2.1 3 9 ub3) ≤ xb6 then (ob1 (f_X4_wordsSeen σ ub3) (fun r2 => some ((xb4 * 31) + r2.toInt64))) else (ob1 (f_X2_wordLeft σ ub3 xb6) (fun r7 => ob1 (f_X2_wordTop σ ub3 xb6) (fun r12 => f_X9_digestOfWords_15 σ n ub3 ((((xb4 * 31) + r7.toInt64) * 31) + r12.toInt64) (xb6 + 1)))) := rfl
def f_X9_digestOfWords (σ : PvS) (x1 : Int64) (u3 : Nat) : Option Int64 :=
  if (σ.2.1 3 1 u3) = 0 then (some x1) else (f_X9_digestOfWords_15 σ fu u3 x1 0)
set_option maxHeartbeats 4000000 in
set_option maxRecDepth 100000 in
theorem c_X9_digestOfWords {l : Launch} {G : PvG} {tys : List (ClassId × FieldType)} {σ : PvS} (htys : tys = pvT G)  {x1 : Int64} {u3 : Nat} (hu3 : u3 < pvM σ 3) {r : Int64} (h : f_X9_digestOfWords σ x1 u3 = some r) : Met l yX9_digestOfWords (Cond.code yX9_digestOfWords cX9_digestOfWords 7 (some .long) :: WA) ({ frames := 4, cells := 0, slots := 0, locals := 92 }) (va_Pc [.ref (G.2.2.1 9 0), .long x1, .ref (G.2.2.1 3 u3)] (pvU G tys σ)) (va_Ql (fun r' σ' => r' = r ∧ σ' = σ) (pvU G tys) (pvB G)) 0 0 (pvB G) := by
  refine Met.ofW (cc := cX9_digestOfWords) (maxL := 7) (ret := (some .long)) (by decide) rfl ?_
  intro p e s m args below meth c s₁ B hml hv
  obtain ⟨rfl, hw, hK, hA⟩ := hv
  have hx := B.exec
  have hb := B.bytes
  have hr := B.returns
  have hts0 := atoms_spec (ws := (Cond.code yX9_digestOfWords cX9_digestOfWords 7 (some .long) :: WA)) B.pre
  have hts : ∀ w ∈ WA, w.before _ s = true := fun w h => hts0 w (List.mem_cons_of_mem _ h)
  have hown : s.vm.findClass RX9 = some m.cls := findClass_of_methodNamed B.named
  have hlocks := B.notSynchronized
  have hS : va_S (pvB G) s.heap s.heap [] := va_S.rf
  have hl := lv_entry ([.ref (G.2.2.1 9 0), .long x1, .ref (G.2.2.1 3 u3)]) (n := 7) (Nat.le_of_ble_eq_true rfl)
  rw [lg_entry_eq]
  generalize (lg_sl ([.ref (G.2.2.1 9 0), .long x1, .ref (G.2.2.1 3 u3)]) ++ List.replicate (7 - (lg_sl ([.ref (G.2.2.1 9 0), .long x1, .ref (G.2.2.1 3 u3)])).length) Slot.unset).toArray = ls at hl ⊢
  have hl : lv_has ls 7 [(0, .ref (G.2.2.1 9 0)), (1, .long x1), (3, .ref (G.2.2.1 3 u3))] := hl
  have hroot := pv_root hw
  unfold f_X9_digestOfWords at h
  have loop15 : ∀ (n : Nat) (ub3 : Nat) (xb4 : Int64) (xb6 : Int32), (ub3 < pvM σ 3) → f_X9_digestOfWords_15 σ n ub3 xb4 xb6 = some r → ∀ (H : Heap) (locs : List Loc), pvW G σ H → va_S (pvB G) s.heap H locs → ∀ (ls : Array Slot), lv_has ls 7 [(0, .ref (G.2.2.1 9 0)), (3, .ref (G.2.2.1 3 ub3)), (4, .long xb4), (6, .int xb6)] → W p l e (headSpec (Cond.code yX9_digestOfWords cX9_digestOfWords 7 (some .long) :: WA) ({ frames := 4, cells := 0, slots := 0, locals := 92 } : Room)).room s m ([.ref (G.2.2.1 9 0), .long x1, .ref (G.2.2.1 3 u3)] : List Value).toArray below meth c H locs 0 0 (MQ below (va_Ql (fun r' σ' => r' = r ∧ σ' = σ) (pvU G tys) (pvB G)) ([.ref (G.2.2.1 9 0), .long x1, .ref (G.2.2.1 3 u3)] : List Value).toArray s 0 0 (pvB G)) (F0 m 15 ls []) := by
    intro n15
    induction n15 with
    | zero =>
      intro ub3 xb4 xb6 hub3 h
      rw [f_X9_digestOfWords_15_z] at h
      cases h
    | succ n15 ih15 =>
      intro ub3 xb4 xb6 hub3 h H locs hw hS ls hl
      rw [f_X9_digestOfWords_15_s] at h
      refine lv_iload hx hb dX9_digestOfWords_15 (lv_at hl 3 rfl) ?_
      refine lv_aload_n hx hb dX9_digestOfWords_17 rfl (lv_at hl 1 rfl) ?_
      refine pgI (C := RX3) (T := TX3) (N := 14) hx hb hts hown hK hw 3 9 ub3 hub3 (by decide) rfl rfl inF_X3 (by decide) rfl (hts _ wm325) (fun _ h9 => h9) dX9_digestOfWords_18 ?_
      refine lv_icmp_ge (tgt := 68) hx hb dX9_digestOfWords_21 (by decide) (fun c1 => ?_) (fun c1 => ?_)
      · skip
        replace h := ite_p c1 h
        refine lv_lload hx hb dX9_digestOfWords_68 (lv_at hl 2 rfl) ?_
        refine lv_ldc2 (v := 31) hx hb hown (hts _ wm773) dX9_digestOfWords_70 ?_
        refine lv_lmul hx hb dX9_digestOfWords_73 ?_
        refine lv_aload_n hx hb dX9_digestOfWords_74 rfl (lv_at hl 0 rfl) ?_
        refine pgL (C := RX9) (T := TX9) (N := 6) hx hb hts hown hK hw 9 2 0 Nat.one_pos (by decide) rfl rfl inF_X9 (by decide) (v := .ref (G.2.2.1 4 0)) rfl (hts _ wm18) (fun _ h9 => h9) dX9_digestOfWords_75 ?_
        refine lv_aload_n hx hb dX9_digestOfWords_78 rfl (lv_at hl 1 rfl) ?_
        obtain ⟨r2, e3, h⟩ := ob1_e h
        refine pcalli (va_runV (As := [.ref (G.2.2.1 3 ub3)]) (rest := [.long (xb4 * 31)]) ⟨hx, hb, hml, hown, hts⟩ (c_X4_wordsSeen (l := l) (G := G) (tys := tys) (σ := σ) htys hub3 e3) (cwV 1 hts (gVA wm701 wm702 wm703 wm17 wm704) rfl rfl rfl (by decide +kernel) ⟨(Nat.le_of_ble_eq_true rfl), (Nat.le_of_ble_eq_true rfl)⟩) (pv_preV hA hS hw hK 4 0 Nat.one_pos (by decide) rfl [.ref (G.2.2.1 3 ub3)]) rfl rfl hl.1 rfl (lv_room (Nat.le_of_ble_eq_true rfl)) dX9_digestOfWords_79 ⟨Nat.zero_le _, Nat.zero_le _⟩) hS (fun r5 s6 H locs hp4 hw hS => ?_)
        obtain ⟨err2, esr2⟩ := hp4
        obtain rfl := esr2.symm
        obtain rfl := err2.symm
        refine lv_i2l hx hb dX9_digestOfWords_82 rfl ?_
        refine lv_ladd hx hb dX9_digestOfWords_83 ?_
        exact pel hx hb hr hlocks hA hw hK hS ⟨Option.some.inj h, rfl⟩ dX9_digestOfWords_84
      · skip
        replace h := ite_n c1 h
        refine lv_lload hx hb dX9_digestOfWords_24 (lv_at hl 2 rfl) ?_
        refine lv_ldc2 (v := 31) hx hb hown (hts _ wm773) dX9_digestOfWords_26 ?_
        refine lv_lmul hx hb dX9_digestOfWords_29 ?_
        refine lv_aload_n hx hb dX9_digestOfWords_30 rfl (lv_at hl 1 rfl) ?_
        refine pgL (C := RX3) (T := TX3) (N := 14) hx hb hts hown hK hw 3 6 ub3 hub3 (by decide) rfl rfl inF_X3 (by decide) (v := .ref (G.2.2.1 2 ub3)) rfl (hts _ wm415) (fun _ h9 => h9) dX9_digestOfWords_31 ?_
        refine lv_iload hx hb dX9_digestOfWords_34 (lv_at hl 3 rfl) ?_
        obtain ⟨r7, e8, h⟩ := ob1_e h
        refine pcalli (va_runV (As := [.int xb6]) (rest := [.long (xb4 * 31)]) ⟨hx, hb, hml, hown, hts⟩ (c_X2_wordLeft (l := l) (G := G) (tys := tys) (σ := σ) htys hub3 e8) (cwV 1 hts (gVA wm799 wm706 wm707 wm81 wm708) rfl rfl rfl (by decide +kernel) ⟨(Nat.le_of_ble_eq_true rfl), (Nat.le_of_ble_eq_true rfl)⟩) (pv_preV hA hS hw hK 2 ub3 hub3 (by decide) rfl [.int xb6]) rfl rfl hl.1 rfl (lv_room (Nat.le_of_ble_eq_true rfl)) dX9_digestOfWords_36 ⟨Nat.zero_le _, Nat.zero_le _⟩) hS (fun r10 s11 H locs hp9 hw hS => ?_)
        obtain ⟨err7, esr7⟩ := hp9
        obtain rfl := esr7.symm
        obtain rfl := err7.symm
        refine lv_i2l hx hb dX9_digestOfWords_39 rfl ?_
        refine lv_ladd hx hb dX9_digestOfWords_40 ?_
        refine lv_lstore (lv' := [(4, .long ((xb4 * 31) + r7.toInt64)), (0, .ref (G.2.2.1 9 0)), (3, .ref (G.2.2.1 3 ub3)), (6, .int xb6)]) hx hb dX9_digestOfWords_41 hl (by decide) rfl (fun ls hl => ?_)
        refine lv_lload hx hb dX9_digestOfWords_43 (lv_at hl 0 rfl) ?_
        refine lv_ldc2 (v := 31) hx hb hown (hts _ wm773) dX9_digestOfWords_45 ?_
        refine lv_lmul hx hb dX9_digestOfWords_48 ?_
        refine lv_aload_n hx hb dX9_digestOfWords_49 rfl (lv_at hl 2 rfl) ?_
        refine pgL (C := RX3) (T := TX3) (N := 14) hx hb hts hown hK hw 3 6 ub3 hub3 (by decide) rfl rfl inF_X3 (by decide) (v := .ref (G.2.2.1 2 ub3)) rfl (hts _ wm415) (fun _ h9 => h9) dX9_digestOfWords_50 ?_
        refine lv_iload hx hb dX9_digestOfWords_53 (lv_at hl 3 rfl) ?_
        obtain ⟨r12, e13, h⟩ := ob1_e h
        refine pcalli (va_runV (As := [.int xb6]) (rest := [.long (((xb4 * 31) + r7.toInt64) * 31)]) ⟨hx, hb, hml, hown, hts⟩ (c_X2_wordTop (l := l) (G := G) (tys := tys) (σ := σ) htys hub3 e13) (cwV 1 hts (gVA wm800 wm710 wm711 wm81 wm712) rfl rfl rfl (by decide +kernel) ⟨(Nat.le_of_ble_eq_true rfl), (Nat.le_of_ble_eq_true rfl)⟩) (pv_preV hA hS hw hK 2 ub3 hub3 (by decide) rfl [.int xb6]) rfl rfl hl.1 rfl (lv_room (Nat.le_of_ble_eq_true rfl)) dX9_digestOfWords_55 ⟨Nat.zero_le _, Nat.zero_le _⟩) hS (fun r15 s16 H locs hp14 hw hS => ?_)
        obtain ⟨err12, esr12⟩ := hp14
        obtain rfl := esr12.symm
        obtain rfl := err12.symm
        refine lv_i2l hx hb dX9_digestOfWords_58 rfl ?_
        refine lv_ladd hx hb dX9_digestOfWords_59 ?_
        refine lv_lstore (lv' := [(4, .long ((((xb4 * 31) + r7.toInt64) * 31) + r12.toInt64)), (0, .ref (G.2.2.1 9 0)), (3, .ref (G.2.2.1 3 ub3)), (6, .int xb6)]) hx hb dX9_digestOfWords_60 hl (by decide) rfl (fun ls hl => ?_)
        refine lv_iinc (v := xb6 + 1) (lv' := [(6, .int (xb6 + 1)), (4, .long ((((xb4 * 31) + r7.toInt64) * 31) + r12.toInt64)), (0, .ref (G.2.2.1 9 0)), (3, .ref (G.2.2.1 3 ub3))]) hx hb dX9_digestOfWords_62 hl (k := 3) rfl (by rfl) (by decide) rfl (fun ls hl => ?_)
        refine lv_goto (tgt := 15) hx hb dX9_digestOfWords_65 (by decide) ?_
        exact ih15 ub3 ((((xb4 * 31) + r7.toInt64) * 31) + r12.toInt64) (xb6 + 1) hub3 h _ _ hw hS ls (lv_sub hl [2, 3, 1, 0] rfl)
  refine lv_aload_n hx hb dX9_digestOfWords_0 rfl (lv_at hl 2 rfl) ?_
  refine pgI (C := RX3) (T := TX3) (N := 14) hx hb hts hown hK hw 3 1 u3 hu3 (by decide) rfl rfl inF_X3 (by decide) rfl (hts _ wm235) (fun _ h9 => h9) dX9_digestOfWords_1 ?_
  refine lv_if_ne (tgt := 9) hx hb dX9_digestOfWords_4 (by decide) (fun c17 => ?_) (fun c17 => ?_)
  · skip
    replace h := ite_n c17 h
    refine lv_lload_n hx hb dX9_digestOfWords_9 rfl (lv_at hl 1 rfl) ?_
    refine lv_lstore (lv' := [(4, .long x1), (0, .ref (G.2.2.1 9 0)), (1, .long x1), (3, .ref (G.2.2.1 3 u3))]) hx hb dX9_digestOfWords_10 hl (by decide) rfl (fun ls hl => ?_)
    refine lv_iconst (v := 0) hx hb dX9_digestOfWords_12 (by decide) ?_
    refine lv_istore (lv' := [(6, .int 0), (4, .long x1), (0, .ref (G.2.2.1 9 0)), (1, .long x1), (3, .ref (G.2.2.1 3 u3))]) hx hb dX9_digestOfWords_13 hl (by decide) rfl (fun ls hl => ?_)
    exact loop15 fu u3 x1 0 hu3 h _ _ hw hS ls (lv_sub hl [2, 4, 1, 0] rfl)
  · skip
    replace h := ite_p c17 h
    refine lv_lload_n hx hb dX9_digestOfWords_7 rfl (lv_at hl 1 rfl) ?_
    exact pel hx hb hr hlocks hA hw hK hS ⟨Option.some.inj h, rfl⟩ dX9_digestOfWords_8
def f_X9_digest_118  : Nat → PvS → Int64 → Int32 → Option (Int64 × PvS)
  | 0, _, _, _ => none
  | n + 1, τ, xb1, xb3 => ob1 (f_X9_rules τ) (fun r1 => if r1 ≤ xb3 then (some (xb1, τ)) else (ob1 (f_X9_weight τ xb3) (fun r7 => ob1 (f_X9_matched τ xb3) (fun r12 => f_X9_digest_118 n τ ((((xb1 * 31) + r7.toInt64) * 31) + r12.toInt64) (xb3 + 1)))))
theorem f_X9_digest_118_z {τ : PvS} {xb1 : Int64} {xb3 : Int32} : f_X9_digest_118 0 τ xb1 xb3 = none := rfl
theorem f_X9_digest_118_s {n : Nat} {τ : PvS} {xb1 : Int64} {xb3 : Int32} : f_X9_digest_118 (n + 1) τ xb1 xb3 = ob1 (f_X9_rules τ) (fun r1 => if r1 ≤ xb3 then (some (xb1, τ)) else (ob1 (f_X9_weight τ xb3) (fun r7 => ob1 (f_X9_matched τ xb3) (fun r12 => f_X9_digest_118 n τ ((((xb1 * 31) + r7.toInt64) * 31) + r12.toInt64) (xb3 + 1))))) := rfl
def f_X9_digest_62  : Nat → PvS → Int64 → Int32 → Option (Int64 × PvS)
  | 0, _, _, _ => none
  | n + 1, τ, xb1, xb3 => ob1 (f_X9_added τ) (fun r17 => if r17 ≤ xb3 then (f_X9_digest_118 fu τ xb1 0) else (ob1 (f_X9_isThere τ xb3) (fun r23 => if r23 = 0 then (f_X9_digest_62 n τ xb1 (xb3 + 1)) else (ob1 (f_X9_nodeAt τ xb3) (fun r29 => ob1 (f_X9_digestOfPlace τ xb1 r29) (fun r34 => ob1 (f_X9_digestOfBox τ r34 r29) (fun r39 => ob1 (f_X9_digestOfStyles τ r39 r29) (fun r44 => ob1 (f_X9_digestOfWords τ r44 r29) (fun r49 => f_X9_digest_62 n τ r49 (xb3 + 1))))))))))
theorem f_X9_digest_62_z {τ : PvS} {xb1 : Int64} {xb3 : Int32} : f_X9_digest_62 0 τ xb1 xb3 = none := rfl
theorem f_X9_digest_62_s {n : Nat} {τ : PvS} {xb1 : Int64} {xb3 : Int32} : f_X9_digest_62 (n + 1) τ xb1 xb3 = ob1 (f_X9_added τ) (fun r17 => if r17 ≤ xb3 then (f_X9_digest_118 fu τ xb1 0) else (ob1 (f_X9_isThere τ xb3) (fun r23 => if r23 = 0 then (f_X9_digest_62 n τ xb1 (xb3 + 1)) else (ob1 (f_X9_nodeAt τ xb3) (fun r29 => ob1 (f_X9_digestOfPlace τ xb1 r29) (fun r34 => ob1 (f_X9_digestOfBox τ r34 r29) (fun r39 => ob1 (f_X9_digestOfStyles τ r39 r29) (fun r44 => ob1 (f_X9_digestOfWords τ r44 r29) (fun r49 => f_X9_digest_62 n τ r49 (xb3 + 1)))))))))) := rfl
def f_X9_digest (σ : PvS)  : Option (Int64 × PvS) :=
  ob1 (f_X9_added σ) (fun r54 => ob1 (f_X9_nodes σ) (fun r59 => ob1 (f_X9_rules σ) (fun r64 => ob2 (f_X9_laidOut σ 0 (σ.2.1 9 5 0)) (fun r69 σ70 => ob1 (f_X2_highWithEdges σ70 r69) (fun r75 => f_X9_digest_62 fu σ70 (((((((((58030 : Int64) * 31) + r54.toInt64) * 31) + r59.toInt64) * 31) + r64.toInt64) * 31) + r75.toInt64) 0)))))
set_option maxHeartbeats 4000000 in
set_option maxRecDepth 100000 in
theorem c_X9_digest {l : Launch} {G : PvG} {tys : List (ClassId × FieldType)} {σ : PvS} (htys : tys = pvT G)    {r : Int64} {σ1 : PvS} (h : f_X9_digest σ = some (r, σ1)) : Met l yX9_digest (Cond.code yX9_digest cX9_digest 5 (some .long) :: WA) ({ frames := 72, cells := 0, slots := 0, locals := 1710 }) (va_Pc [.ref (G.2.2.1 9 0)] (pvU G tys σ)) (va_Ql (fun r' σ' => r' = r ∧ σ' = σ1 ∧ σ'.1 = σ.1) (pvU G tys) (pvB G)) 0 0 (pvB G) := by
  refine Met.ofW (cc := cX9_digest) (maxL := 5) (ret := (some .long)) (by decide) rfl ?_
  intro p e s m args below meth c s₁ B hml hv
  obtain ⟨rfl, hw, hK, hA⟩ := hv
  have hx := B.exec
  have hb := B.bytes
  have hr := B.returns
  have hts0 := atoms_spec (ws := (Cond.code yX9_digest cX9_digest 5 (some .long) :: WA)) B.pre
  have hts : ∀ w ∈ WA, w.before _ s = true := fun w h => hts0 w (List.mem_cons_of_mem _ h)
  have hown : s.vm.findClass RX9 = some m.cls := findClass_of_methodNamed B.named
  have hlocks := B.notSynchronized
  have hS : va_S (pvB G) s.heap s.heap [] := va_S.rf
  have hl := lv_entry ([.ref (G.2.2.1 9 0)]) (n := 5) (Nat.le_of_ble_eq_true rfl)
  rw [lg_entry_eq]
  generalize (lg_sl ([.ref (G.2.2.1 9 0)]) ++ List.replicate (5 - (lg_sl ([.ref (G.2.2.1 9 0)])).length) Slot.unset).toArray = ls at hl ⊢
  have hl : lv_has ls 5 [(0, .ref (G.2.2.1 9 0))] := hl
  have hroot := pv_root hw
  unfold f_X9_digest at h
  have loop118 : ∀ (n : Nat) (τ : PvS) (xb1 : Int64) (xb3 : Int32), (τ.1 = σ.1) → f_X9_digest_118 n τ xb1 xb3 = some (r, σ1) → ∀ (H : Heap) (locs : List Loc), pvW G τ H → va_S (pvB G) s.heap H locs → ∀ (ls : Array Slot), lv_has ls 5 [(0, .ref (G.2.2.1 9 0)), (1, .long xb1), (3, .int xb3)] → W p l e (headSpec (Cond.code yX9_digest cX9_digest 5 (some .long) :: WA) ({ frames := 72, cells := 0, slots := 0, locals := 1710 } : Room)).room s m ([.ref (G.2.2.1 9 0)] : List Value).toArray below meth c H locs 0 0 (MQ below (va_Ql (fun r' σ' => r' = r ∧ σ' = σ1 ∧ σ'.1 = σ.1) (pvU G tys) (pvB G)) ([.ref (G.2.2.1 9 0)] : List Value).toArray s 0 0 (pvB G)) (F0 m 118 ls []) := by
    intro n118
    induction n118 with
    | zero =>
      intro τ xb1 xb3 hcτ h
      rw [f_X9_digest_118_z] at h
      cases h
    | succ n118 ih118 =>
      intro τ xb1 xb3 hcτ h H locs hw hS ls hl
      rw [f_X9_digest_118_s] at h
      refine lv_iload_n hx hb dX9_digest_118 rfl (lv_at hl 2 rfl) ?_
      refine lv_aload_n hx hb dX9_digest_119 rfl (lv_at hl 0 rfl) ?_
      obtain ⟨r1, e2, h⟩ := ob1_e h
      refine pcalli (va_runV (As := []) (rest := [.int xb3]) ⟨hx, hb, hml, hown, hts⟩ (c_X9_rules (l := l) (G := G) (tys := tys) (σ := τ) htys  e2) (cwV 0 hts (gVA wm776 wm742 wm743 wm2 wm744) rfl rfl rfl (by decide +kernel) ⟨(Nat.le_of_ble_eq_true rfl), (Nat.le_of_ble_eq_true rfl)⟩) (pv_preV hA hS hw hK 9 0 Nat.one_pos (by decide) rfl []) rfl rfl hl.1 rfl (lv_room (Nat.le_of_ble_eq_true rfl)) dX9_digest_120 ⟨Nat.zero_le _, Nat.zero_le _⟩) hS (fun r4 s5 H locs hp3 hw hS => ?_)
      obtain ⟨err1, esr1⟩ := hp3
      obtain rfl := esr1.symm
      obtain rfl := err1.symm
      refine lv_icmp_ge (tgt := 158) hx hb dX9_digest_123 (by decide) (fun c6 => ?_) (fun c6 => ?_)
      · skip
        replace h := ite_p c6 h
        refine lv_lload_n hx hb dX9_digest_158 rfl (lv_at hl 1 rfl) ?_
        exact pel hx hb hr hlocks hA hw hK hS (pst h hcτ) dX9_digest_159
      · skip
        replace h := ite_n c6 h
        refine lv_lload_n hx hb dX9_digest_126 rfl (lv_at hl 1 rfl) ?_
        refine lv_ldc2 (v := 31) hx hb hown (hts _ wm773) dX9_digest_127 ?_
        refine lv_lmul hx hb dX9_digest_130 ?_
        refine lv_aload_n hx hb dX9_digest_131 rfl (lv_at hl 0 rfl) ?_
        refine lv_iload_n hx hb dX9_digest_132 rfl (lv_at hl 2 rfl) ?_
        obtain ⟨r7, e8, h⟩ := ob1_e h
        refine pcalli (va_runV (As := [.int xb3]) (rest := [.long (xb1 * 31)]) ⟨hx, hb, hml, hown, hts⟩ (c_X9_weight (l := l) (G := G) (tys := tys) (σ := τ) htys  e8) (cwV 1 hts (gVA wm801 wm802 wm803 wm2 wm804) rfl rfl rfl (by decide +kernel) ⟨(Nat.le_of_ble_eq_true rfl), (Nat.le_of_ble_eq_true rfl)⟩) (pv_preV hA hS hw hK 9 0 Nat.one_pos (by decide) rfl [.int xb3]) rfl rfl hl.1 rfl (lv_room (Nat.le_of_ble_eq_true rfl)) dX9_digest_133 ⟨Nat.zero_le _, Nat.zero_le _⟩) hS (fun r10 s11 H locs hp9 hw hS => ?_)
        obtain ⟨err7, esr7⟩ := hp9
        obtain rfl := esr7.symm
        obtain rfl := err7.symm
        refine lv_i2l hx hb dX9_digest_136 rfl ?_
        refine lv_ladd hx hb dX9_digest_137 ?_
        refine lv_lstore_n (lv' := [(1, .long ((xb1 * 31) + r7.toInt64)), (0, .ref (G.2.2.1 9 0)), (3, .int xb3)]) hx hb dX9_digest_138 rfl hl (by decide) rfl (fun ls hl => ?_)
        refine lv_lload_n hx hb dX9_digest_139 rfl (lv_at hl 0 rfl) ?_
        refine lv_ldc2 (v := 31) hx hb hown (hts _ wm773) dX9_digest_140 ?_
        refine lv_lmul hx hb dX9_digest_143 ?_
        refine lv_aload_n hx hb dX9_digest_144 rfl (lv_at hl 1 rfl) ?_
        refine lv_iload_n hx hb dX9_digest_145 rfl (lv_at hl 2 rfl) ?_
        obtain ⟨r12, e13, h⟩ := ob1_e h
        refine pcalli (va_runV (As := [.int xb3]) (rest := [.long (((xb1 * 31) + r7.toInt64) * 31)]) ⟨hx, hb, hml, hown, hts⟩ (c_X9_matched (l := l) (G := G) (tys := tys) (σ := τ) htys  e13) (cwV 1 hts (gVA wm806 wm807 wm808 wm2 wm809) rfl rfl rfl (by decide +kernel) ⟨(Nat.le_of_ble_eq_true rfl), (Nat.le_of_ble_eq_true rfl)⟩) (pv_preV hA hS hw hK 9 0 Nat.one_pos (by decide) rfl [.int xb3]) rfl rfl hl.1 rfl (lv_room (Nat.le_of_ble_eq_true rfl)) dX9_digest_146 ⟨Nat.zero_le _, Nat.zero_le _⟩) hS (fun r15 s16 H locs hp14 hw hS => ?_)
        obtain ⟨err12, esr12⟩ := hp14
        obtain rfl := esr12.symm
        obtain rfl := err12.symm
        refine lv_i2l hx hb dX9_digest_149 rfl ?_
        refine lv_ladd hx hb dX9_digest_150 ?_
        refine lv_lstore_n (lv' := [(1, .long ((((xb1 * 31) + r7.toInt64) * 31) + r12.toInt64)), (0, .ref (G.2.2.1 9 0)), (3, .int xb3)]) hx hb dX9_digest_151 rfl hl (by decide) rfl (fun ls hl => ?_)
        refine lv_iinc (v := xb3 + 1) (lv' := [(3, .int (xb3 + 1)), (1, .long ((((xb1 * 31) + r7.toInt64) * 31) + r12.toInt64)), (0, .ref (G.2.2.1 9 0))]) hx hb dX9_digest_152 hl (k := 2) rfl (by rfl) (by decide) rfl (fun ls hl => ?_)
        refine lv_goto (tgt := 118) hx hb dX9_digest_155 (by decide) ?_
        exact ih118 τ ((((xb1 * 31) + r7.toInt64) * 31) + r12.toInt64) (xb3 + 1) hcτ h _ _ hw hS ls (lv_sub hl [2, 1, 0] rfl)
  have loop62 : ∀ (n : Nat) (τ : PvS) (xb1 : Int64) (xb3 : Int32), (τ.1 = σ.1) → f_X9_digest_62 n τ xb1 xb3 = some (r, σ1) → ∀ (H : Heap) (locs : List Loc), pvW G τ H → va_S (pvB G) s.heap H locs → ∀ (ls : Array Slot), lv_has ls 5 [(0, .ref (G.2.2.1 9 0)), (1, .long xb1), (3, .int xb3)] → W p l e (headSpec (Cond.code yX9_digest cX9_digest 5 (some .long) :: WA) ({ frames := 72, cells := 0, slots := 0, locals := 1710 } : Room)).room s m ([.ref (G.2.2.1 9 0)] : List Value).toArray below meth c H locs 0 0 (MQ below (va_Ql (fun r' σ' => r' = r ∧ σ' = σ1 ∧ σ'.1 = σ.1) (pvU G tys) (pvB G)) ([.ref (G.2.2.1 9 0)] : List Value).toArray s 0 0 (pvB G)) (F0 m 62 ls []) := by
    intro n62
    induction n62 with
    | zero =>
      intro τ xb1 xb3 hcτ h
      rw [f_X9_digest_62_z] at h
      cases h
    | succ n62 ih62 =>
      intro τ xb1 xb3 hcτ h H locs hw hS ls hl
      rw [f_X9_digest_62_s] at h
      refine lv_iload_n hx hb dX9_digest_62 rfl (lv_at hl 2 rfl) ?_
      refine lv_aload_n hx hb dX9_digest_63 rfl (lv_at hl 0 rfl) ?_
      obtain ⟨r17, e18, h⟩ := ob1_e h
      refine pcalli (va_runV (As := []) (rest := [.int xb3]) ⟨hx, hb, hml, hown, hts⟩ (c_X9_added (l := l) (G := G) (tys := tys) (σ := τ) htys  e18) (cwV 0 hts (gVA wm774 wm399 wm400 wm2 wm401) rfl rfl rfl (by decide +kernel) ⟨(Nat.le_of_ble_eq_true rfl), (Nat.le_of_ble_eq_true rfl)⟩) (pv_preV hA hS hw hK 9 0 Nat.one_pos (by decide) rfl []) rfl rfl hl.1 rfl (lv_room (Nat.le_of_ble_eq_true rfl)) dX9_digest_64 ⟨Nat.zero_le _, Nat.zero_le _⟩) hS (fun r20 s21 H locs hp19 hw hS => ?_)
      obtain ⟨err17, esr17⟩ := hp19
      obtain rfl := esr17.symm
      obtain rfl := err17.symm
      refine lv_icmp_ge (tgt := 116) hx hb dX9_digest_67 (by decide) (fun c22 => ?_) (fun c22 => ?_)
      · skip
        replace h := ite_p c22 h
        refine lv_iconst (v := 0) hx hb dX9_digest_116 (by decide) ?_
        refine lv_istore_n (lv' := [(3, .int 0), (0, .ref (G.2.2.1 9 0)), (1, .long xb1)]) hx hb dX9_digest_117 rfl hl (by decide) rfl (fun ls hl => ?_)
        exact loop118 fu τ xb1 0 hcτ h _ _ hw hS ls (lv_sub hl [1, 2, 0] rfl)
      · skip
        replace h := ite_n c22 h
        refine lv_aload_n hx hb dX9_digest_70 rfl (lv_at hl 0 rfl) ?_
        refine lv_iload_n hx hb dX9_digest_71 rfl (lv_at hl 2 rfl) ?_
        obtain ⟨r23, e24, h⟩ := ob1_e h
        refine pcalli (va_runV (As := [.int xb3]) (rest := []) ⟨hx, hb, hml, hown, hts⟩ (c_X9_isThere (l := l) (G := G) (tys := tys) (σ := τ) htys  e24) (cwV 1 hts (gVA wm777 wm403 wm404 wm2 wm405) rfl rfl rfl (by decide +kernel) ⟨(Nat.le_of_ble_eq_true rfl), (Nat.le_of_ble_eq_true rfl)⟩) (pv_preV hA hS hw hK 9 0 Nat.one_pos (by decide) rfl [.int xb3]) rfl rfl hl.1 rfl (lv_room (Nat.le_of_ble_eq_true rfl)) dX9_digest_72 ⟨Nat.zero_le _, Nat.zero_le _⟩) hS (fun r26 s27 H locs hp25 hw hS => ?_)
        obtain ⟨err23, esr23, hzr23⟩ := hp25
        obtain rfl := esr23.symm
        obtain rfl := err23.symm
        refine lv_if_eq (tgt := 110) hx hb dX9_digest_75 (by decide) (fun c28 => ?_) (fun c28 => ?_)
        · skip
          replace h := ite_p c28 h
          refine lv_iinc (v := xb3 + 1) (lv' := [(3, .int (xb3 + 1)), (0, .ref (G.2.2.1 9 0)), (1, .long xb1)]) hx hb dX9_digest_110 hl (k := 2) rfl (by rfl) (by decide) rfl (fun ls hl => ?_)
          refine lv_goto (tgt := 62) hx hb dX9_digest_113 (by decide) ?_
          exact ih62 τ xb1 (xb3 + 1) hcτ h _ _ hw hS ls (lv_sub hl [1, 2, 0] rfl)
        · skip
          replace h := ite_n c28 h
          refine lv_aload_n hx hb dX9_digest_78 rfl (lv_at hl 0 rfl) ?_
          refine lv_iload_n hx hb dX9_digest_79 rfl (lv_at hl 2 rfl) ?_
          obtain ⟨r29, e30, h⟩ := ob1_e h
          refine pcallq (va_runV (As := [.int xb3]) (rest := []) ⟨hx, hb, hml, hown, hts⟩ (c_X9_nodeAt (l := l) (G := G) (tys := tys) (σ := τ) htys  e30) (cwV 1 hts (gVA wm236 wm237 wm238 wm2 wm239) rfl rfl rfl (by decide +kernel) ⟨(Nat.le_of_ble_eq_true rfl), (Nat.le_of_ble_eq_true rfl)⟩) (pv_preV hA hS hw hK 9 0 Nat.one_pos (by decide) rfl [.int xb3]) rfl rfl hl.1 rfl (lv_room (Nat.le_of_ble_eq_true rfl)) dX9_digest_80 ⟨Nat.zero_le _, Nat.zero_le _⟩) hS (fun r32 s33 H locs hp31 hw hS => ?_)
          obtain ⟨err29, esr29, hzr29⟩ := hp31
          obtain rfl := esr29.symm
          subst err29
          have hzr29 : r29 < pvM σ 3 := lt_c hcτ.symm 3 hzr29
          refine lv_astore (lv' := [(4, .ref (G.2.2.1 3 r29)), (0, .ref (G.2.2.1 9 0)), (1, .long xb1), (3, .int xb3)]) hx hb dX9_digest_83 hl (by decide) rfl (fun ls hl => ?_)
          refine lv_aload_n hx hb dX9_digest_85 rfl (lv_at hl 1 rfl) ?_
          refine lv_aload_n hx hb dX9_digest_86 rfl (lv_at hl 1 rfl) ?_
          refine lv_aload_n hx hb dX9_digest_87 rfl (lv_at hl 1 rfl) ?_
          refine lv_lload_n hx hb dX9_digest_88 rfl (lv_at hl 2 rfl) ?_
          refine lv_aload hx hb dX9_digest_89 (lv_at hl 0 rfl) ?_
          obtain ⟨r34, e35, h⟩ := ob1_e h
          refine pcalll (va_runV (As := [.long xb1, .ref (G.2.2.1 3 r29)]) (rest := [.ref (G.2.2.1 9 0), .ref (G.2.2.1 9 0)]) ⟨hx, hb, hml, hown, hts⟩ (c_X9_digestOfPlace (l := l) (G := G) (tys := tys) (σ := τ) htys (lt_c hcτ 3 hzr29) e35) (cwV 2 hts (gVA wm778 wm779 wm780 wm2 wm781) rfl rfl rfl (by decide +kernel) ⟨(Nat.le_of_ble_eq_true rfl), (Nat.le_of_ble_eq_true rfl)⟩) (pv_preV hA hS hw hK 9 0 Nat.one_pos (by decide) rfl [.long xb1, .ref (G.2.2.1 3 r29)]) rfl rfl hl.1 rfl (lv_room (Nat.le_of_ble_eq_true rfl)) dX9_digest_91 ⟨Nat.zero_le _, Nat.zero_le _⟩) hS (fun r37 s38 H locs hp36 hw hS => ?_)
          obtain ⟨err34, esr34⟩ := hp36
          obtain rfl := esr34.symm
          obtain rfl := err34.symm
          refine lv_aload hx hb dX9_digest_94 (lv_at hl 0 rfl) ?_
          obtain ⟨r39, e40, h⟩ := ob1_e h
          refine pcalll (va_runS (As := [.long r34, .ref (G.2.2.1 3 r29)]) (rest := [.ref (G.2.2.1 9 0), .ref (G.2.2.1 9 0)]) ⟨hx, hb, hml, hown, hts⟩ (c_X9_digestOfBox (l := l) (G := G) (tys := tys) (σ := τ) htys (lt_c hcτ 3 hzr29) e40) (va_cwS 2 hts (gSA wm784 wm785 wm2 wm786) rfl rfl rfl (by decide +kernel) ⟨(Nat.le_of_ble_eq_true rfl), (Nat.le_of_ble_eq_true rfl)⟩) (pv_preS hA hS hw hK [.long r34, .ref (G.2.2.1 3 r29)]) rfl rfl hl.1 rfl (lv_room (Nat.le_of_ble_eq_true rfl)) dX9_digest_96 ⟨Nat.zero_le _, Nat.zero_le _⟩) hS (fun r42 s43 H locs hp41 hw hS => ?_)
          obtain ⟨err39, esr39⟩ := hp41
          obtain rfl := esr39.symm
          obtain rfl := err39.symm
          refine lv_aload hx hb dX9_digest_99 (lv_at hl 0 rfl) ?_
          obtain ⟨r44, e45, h⟩ := ob1_e h
          refine pcalll (va_runV (As := [.long r39, .ref (G.2.2.1 3 r29)]) (rest := [.ref (G.2.2.1 9 0)]) ⟨hx, hb, hml, hown, hts⟩ (c_X9_digestOfStyles (l := l) (G := G) (tys := tys) (σ := τ) htys (lt_c hcτ 3 hzr29) e45) (cwV 2 hts (gVA wm791 wm792 wm793 wm2 wm794) rfl rfl rfl (by decide +kernel) ⟨(Nat.le_of_ble_eq_true rfl), (Nat.le_of_ble_eq_true rfl)⟩) (pv_preV hA hS hw hK 9 0 Nat.one_pos (by decide) rfl [.long r39, .ref (G.2.2.1 3 r29)]) rfl rfl hl.1 rfl (lv_room (Nat.le_of_ble_eq_true rfl)) dX9_digest_101 ⟨Nat.zero_le _, Nat.zero_le _⟩) hS (fun r47 s48 H locs hp46 hw hS => ?_)
          obtain ⟨err44, esr44⟩ := hp46
          obtain rfl := esr44.symm
          obtain rfl := err44.symm
          refine lv_aload hx hb dX9_digest_104 (lv_at hl 0 rfl) ?_
          obtain ⟨r49, e50, h⟩ := ob1_e h
          refine pcalll (va_runV (As := [.long r44, .ref (G.2.2.1 3 r29)]) (rest := []) ⟨hx, hb, hml, hown, hts⟩ (c_X9_digestOfWords (l := l) (G := G) (tys := tys) (σ := τ) htys (lt_c hcτ 3 hzr29) e50) (cwV 2 hts (gVA wm795 wm796 wm797 wm2 wm798) rfl rfl rfl (by decide +kernel) ⟨(Nat.le_of_ble_eq_true rfl), (Nat.le_of_ble_eq_true rfl)⟩) (pv_preV hA hS hw hK 9 0 Nat.one_pos (by decide) rfl [.long r44, .ref (G.2.2.1 3 r29)]) rfl rfl hl.1 rfl (lv_room (Nat.le_of_ble_eq_true rfl)) dX9_digest_106 ⟨Nat.zero_le _, Nat.zero_le _⟩) hS (fun r52 s53 H locs hp51 hw hS => ?_)
          obtain ⟨err49, esr49⟩ := hp51
          obtain rfl := esr49.symm
          obtain rfl := err49.symm
          refine lv_lstore_n (lv' := [(1, .long r49), (4, .ref (G.2.2.1 3 r29)), (0, .ref (G.2.2.1 9 0)), (3, .int xb3)]) hx hb dX9_digest_109 rfl hl (by decide) rfl (fun ls hl => ?_)
          refine lv_iinc (v := xb3 + 1) (lv' := [(3, .int (xb3 + 1)), (1, .long r49), (4, .ref (G.2.2.1 3 r29)), (0, .ref (G.2.2.1 9 0))]) hx hb dX9_digest_110 hl (k := 3) rfl (by rfl) (by decide) rfl (fun ls hl => ?_)
          refine lv_goto (tgt := 62) hx hb dX9_digest_113 (by decide) ?_
          exact ih62 τ r49 (xb3 + 1) hcτ h _ _ hw hS ls (lv_sub hl [3, 1, 0] rfl)
  refine lv_ldc2 (v := 58030) hx hb hown (hts _ wm772) dX9_digest_0 ?_
  refine lv_lstore_n (lv' := [(1, .long 58030), (0, .ref (G.2.2.1 9 0))]) hx hb dX9_digest_3 rfl hl (by decide) rfl (fun ls hl => ?_)
  refine lv_lload_n hx hb dX9_digest_4 rfl (lv_at hl 0 rfl) ?_
  refine lv_ldc2 (v := 31) hx hb hown (hts _ wm773) dX9_digest_5 ?_
  refine lv_lmul hx hb dX9_digest_8 ?_
  refine lv_aload_n hx hb dX9_digest_9 rfl (lv_at hl 1 rfl) ?_
  obtain ⟨r54, e55, h⟩ := ob1_e h
  refine pcalli (va_runV (As := []) (rest := [.long ((58030 : Int64) * 31)]) ⟨hx, hb, hml, hown, hts⟩ (c_X9_added (l := l) (G := G) (tys := tys) (σ := σ) htys  e55) (cwV 0 hts (gVA wm774 wm399 wm400 wm2 wm401) rfl rfl rfl (by decide +kernel) ⟨(Nat.le_of_ble_eq_true rfl), (Nat.le_of_ble_eq_true rfl)⟩) (pv_preV hA hS hw hK 9 0 Nat.one_pos (by decide) rfl []) rfl rfl hl.1 rfl (lv_room (Nat.le_of_ble_eq_true rfl)) dX9_digest_10 ⟨Nat.zero_le _, Nat.zero_le _⟩) hS (fun r57 s58 H locs hp56 hw hS => ?_)
  obtain ⟨err54, esr54⟩ := hp56
  obtain rfl := esr54.symm
  obtain rfl := err54.symm
  refine lv_i2l hx hb dX9_digest_13 rfl ?_
  refine lv_ladd hx hb dX9_digest_14 ?_
  refine lv_lstore_n (lv' := [(1, .long (((58030 : Int64) * 31) + r54.toInt64)), (0, .ref (G.2.2.1 9 0))]) hx hb dX9_digest_15 rfl hl (by decide) rfl (fun ls hl => ?_)
  refine lv_lload_n hx hb dX9_digest_16 rfl (lv_at hl 0 rfl) ?_
  refine lv_ldc2 (v := 31) hx hb hown (hts _ wm773) dX9_digest_17 ?_
  refine lv_lmul hx hb dX9_digest_20 ?_
  refine lv_aload_n hx hb dX9_digest_21 rfl (lv_at hl 1 rfl) ?_
  obtain ⟨r59, e60, h⟩ := ob1_e h
  refine pcalli (va_runV (As := []) (rest := [.long ((((58030 : Int64) * 31) + r54.toInt64) * 31)]) ⟨hx, hb, hml, hown, hts⟩ (c_X9_nodes (l := l) (G := G) (tys := tys) (σ := σ) htys  e60) (cwV 0 hts (gVA wm775 wm751 wm752 wm2 wm753) rfl rfl rfl (by decide +kernel) ⟨(Nat.le_of_ble_eq_true rfl), (Nat.le_of_ble_eq_true rfl)⟩) (pv_preV hA hS hw hK 9 0 Nat.one_pos (by decide) rfl []) rfl rfl hl.1 rfl (lv_room (Nat.le_of_ble_eq_true rfl)) dX9_digest_22 ⟨Nat.zero_le _, Nat.zero_le _⟩) hS (fun r62 s63 H locs hp61 hw hS => ?_)
  obtain ⟨err59, esr59⟩ := hp61
  obtain rfl := esr59.symm
  obtain rfl := err59.symm
  refine lv_i2l hx hb dX9_digest_25 rfl ?_
  refine lv_ladd hx hb dX9_digest_26 ?_
  refine lv_lstore_n (lv' := [(1, .long (((((58030 : Int64) * 31) + r54.toInt64) * 31) + r59.toInt64)), (0, .ref (G.2.2.1 9 0))]) hx hb dX9_digest_27 rfl hl (by decide) rfl (fun ls hl => ?_)
  refine lv_lload_n hx hb dX9_digest_28 rfl (lv_at hl 0 rfl) ?_
  refine lv_ldc2 (v := 31) hx hb hown (hts _ wm773) dX9_digest_29 ?_
  refine lv_lmul hx hb dX9_digest_32 ?_
  refine lv_aload_n hx hb dX9_digest_33 rfl (lv_at hl 1 rfl) ?_
  obtain ⟨r64, e65, h⟩ := ob1_e h
  refine pcalli (va_runV (As := []) (rest := [.long ((((((58030 : Int64) * 31) + r54.toInt64) * 31) + r59.toInt64) * 31)]) ⟨hx, hb, hml, hown, hts⟩ (c_X9_rules (l := l) (G := G) (tys := tys) (σ := σ) htys  e65) (cwV 0 hts (gVA wm776 wm742 wm743 wm2 wm744) rfl rfl rfl (by decide +kernel) ⟨(Nat.le_of_ble_eq_true rfl), (Nat.le_of_ble_eq_true rfl)⟩) (pv_preV hA hS hw hK 9 0 Nat.one_pos (by decide) rfl []) rfl rfl hl.1 rfl (lv_room (Nat.le_of_ble_eq_true rfl)) dX9_digest_34 ⟨Nat.zero_le _, Nat.zero_le _⟩) hS (fun r67 s68 H locs hp66 hw hS => ?_)
  obtain ⟨err64, esr64⟩ := hp66
  obtain rfl := esr64.symm
  obtain rfl := err64.symm
  refine lv_i2l hx hb dX9_digest_37 rfl ?_
  refine lv_ladd hx hb dX9_digest_38 ?_
  refine lv_lstore_n (lv' := [(1, .long (((((((58030 : Int64) * 31) + r54.toInt64) * 31) + r59.toInt64) * 31) + r64.toInt64)), (0, .ref (G.2.2.1 9 0))]) hx hb dX9_digest_39 rfl hl (by decide) rfl (fun ls hl => ?_)
  refine lv_lload_n hx hb dX9_digest_40 rfl (lv_at hl 0 rfl) ?_
  refine lv_ldc2 (v := 31) hx hb hown (hts _ wm773) dX9_digest_41 ?_
  refine lv_lmul hx hb dX9_digest_44 ?_
  refine lv_aload_n hx hb dX9_digest_45 rfl (lv_at hl 1 rfl) ?_
  refine lv_iconst (v := 0) hx hb dX9_digest_46 (by decide) ?_
  refine lv_aload_n hx hb dX9_digest_47 rfl (lv_at hl 1 rfl) ?_
  refine pgI (C := RX9) (T := TX9) (N := 6) hx hb hts hown hK hw 9 5 0 Nat.one_pos (by decide) rfl rfl inF_X9 (by decide) rfl (hts _ wm25) (fun _ h9 => h9) dX9_digest_48 ?_
  obtain ⟨r69, σ70, e71, h⟩ := ob2_e h
  refine pcallq (va_runV (As := [.int 0, .int (σ.2.1 9 5 0)]) (rest := [.long ((((((((58030 : Int64) * 31) + r54.toInt64) * 31) + r59.toInt64) * 31) + r64.toInt64) * 31)]) ⟨hx, hb, hml, hown, hts⟩ (c_X9_laidOut (l := l) (G := G) (tys := tys) (σ := σ) htys  e71) (cwV 2 hts (gVA wm411 wm412 wm413 wm2 wm414) rfl rfl rfl (by decide +kernel) ⟨(Nat.le_of_ble_eq_true rfl), (Nat.le_of_ble_eq_true rfl)⟩) (pv_preV hA hS hw hK 9 0 Nat.one_pos (by decide) rfl [.int 0, .int (σ.2.1 9 5 0)]) rfl rfl hl.1 rfl (lv_room (Nat.le_of_ble_eq_true rfl)) dX9_digest_51 ⟨Nat.zero_le _, Nat.zero_le _⟩) hS (fun r73 s74 H locs hp72 hw hS => ?_)
  obtain ⟨err69, esσ70, hdσ70, hzr69⟩ := hp72
  obtain rfl := esσ70.symm
  have hcσ70 : σ70.1 = σ.1 := hdσ70
  subst err69
  have hzr69 : r69 < pvM σ 2 := lt_c hcσ70.symm 2 hzr69
  obtain ⟨r75, e76, h⟩ := ob1_e h
  refine pcalli (va_runV (As := []) (rest := [.long ((((((((58030 : Int64) * 31) + r54.toInt64) * 31) + r59.toInt64) * 31) + r64.toInt64) * 31)]) ⟨hx, hb, hml, hown, hts⟩ (c_X2_highWithEdges (l := l) (G := G) (tys := tys) (σ := σ70) htys (lt_c hcσ70 2 hzr69) e76) (cwV 0 hts (gVA wm758 wm759 wm760 wm81 wm761) rfl rfl rfl (by decide +kernel) ⟨(Nat.le_of_ble_eq_true rfl), (Nat.le_of_ble_eq_true rfl)⟩) (pv_preV hA hS hw hK 2 r69 (lt_c hcσ70 2 hzr69) (by decide) rfl []) rfl rfl hl.1 rfl (lv_room (Nat.le_of_ble_eq_true rfl)) dX9_digest_54 ⟨Nat.zero_le _, Nat.zero_le _⟩) hS (fun r78 s79 H locs hp77 hw hS => ?_)
  obtain ⟨err75, esr75⟩ := hp77
  obtain rfl := esr75.symm
  obtain rfl := err75.symm
  refine lv_i2l hx hb dX9_digest_57 rfl ?_
  refine lv_ladd hx hb dX9_digest_58 ?_
  refine lv_lstore_n (lv' := [(1, .long (((((((((58030 : Int64) * 31) + r54.toInt64) * 31) + r59.toInt64) * 31) + r64.toInt64) * 31) + r75.toInt64)), (0, .ref (G.2.2.1 9 0))]) hx hb dX9_digest_59 rfl hl (by decide) rfl (fun ls hl => ?_)
  refine lv_iconst (v := 0) hx hb dX9_digest_60 (by decide) ?_
  refine lv_istore_n (lv' := [(3, .int 0), (1, .long (((((((((58030 : Int64) * 31) + r54.toInt64) * 31) + r59.toInt64) * 31) + r64.toInt64) * 31) + r75.toInt64)), (0, .ref (G.2.2.1 9 0))]) hx hb dX9_digest_61 rfl hl (by decide) rfl (fun ls hl => ?_)
  exact loop62 fu σ70 (((((((((58030 : Int64) * 31) + r54.toInt64) * 31) + r59.toInt64) * 31) + r64.toInt64) * 31) + r75.toInt64) 0 hcσ70 h _ _ hw hS ls (lv_sub hl [2, 1, 0] rfl)
