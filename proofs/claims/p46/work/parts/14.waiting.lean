def f_X8_clear (σ : PvS)  : Option PvS :=
  nm (pvI σ 8 4 0 0) (fun σ1 => some σ1)
set_option maxHeartbeats 4000000 in
set_option maxRecDepth 100000 in
theorem c_X8_clear {l : Launch} {G : PvG} {tys : List (ClassId × FieldType)} {σ : PvS} (htys : tys = pvT G)    {σ1 : PvS} (h : f_X8_clear σ = some σ1) : Met l yX8_clear (Cond.code yX8_clear cX8_clear 1 none :: WA) ({ frames := 0, cells := 0, slots := 0, locals := 0 }) (va_Pc [.ref (G.2.2.1 8 0)] (pvU G tys σ)) (va_Qv (fun σ' => σ' = σ1 ∧ σ'.1 = σ.1) (pvU G tys) (pvB G)) 0 0 (pvB G) := by
  refine Met.ofW (cc := cX8_clear) (maxL := 1) (ret := none) (by decide) rfl ?_
  intro p e s m args below meth c s₁ B hml hv
  obtain ⟨rfl, hw, hK, hA⟩ := hv
  have hx := B.exec
  have hb := B.bytes
  have hr := B.returns
  have hts0 := atoms_spec (ws := (Cond.code yX8_clear cX8_clear 1 none :: WA)) B.pre
  have hts : ∀ w ∈ WA, w.before _ s = true := fun w h => hts0 w (List.mem_cons_of_mem _ h)
  have hown : s.vm.findClass RX8 = some m.cls := findClass_of_methodNamed B.named
  have hlocks := B.notSynchronized
  have hS : va_S (pvB G) s.heap s.heap [] := va_S.rf
  have hl := lv_entry ([.ref (G.2.2.1 8 0)]) (n := 1) (Nat.le_of_ble_eq_true rfl)
  rw [lg_entry_eq]
  generalize (lg_sl ([.ref (G.2.2.1 8 0)]) ++ List.replicate (1 - (lg_sl ([.ref (G.2.2.1 8 0)])).length) Slot.unset).toArray = ls at hl ⊢
  have hl : lv_has ls 1 [(0, .ref (G.2.2.1 8 0))] := hl
  have hroot := pv_root hw
  unfold f_X8_clear at h
  refine lv_aload_n hx hb dX8_clear_0 rfl (lv_at hl 0 rfl) ?_
  refine lv_iconst (v := 0) hx hb dX8_clear_1 (by decide) ?_
  obtain ⟨σ1, eσ1, h⟩ := nq_e h
  refine ppI (ty := .int) (C := RX8) (T := TX8) (N := 7) hx hb hts hown hK hw hS 8 4 0 Nat.one_pos (by decide) rfl rfl inF_X8 (by decide) rfl (by decide) tyX8_ok nmX8 (hts _ wm211) (fun _ h9 => h9) rfl (by decide +kernel) rfl rfl dX8_clear_2 (fun H locs hw hS => ?_)
  rw [← eσ1] at hw
  have hcσ1 : σ1.1 = σ.1 := by rw [eσ1]; exact rfl
  exact pev hx hb hr hlocks hA hw hK hS (psv h hcσ1) dX8_clear_5
def f_X8_add_2  : Nat → PvS → Nat → Int32 → Int32 → Option PvS
  | 0, _, _, _, _ => none
  | n + 1, τ, ub1, xb2, xb3 => if (τ.2.1 3 9 ub1) ≤ xb3 then (some τ) else (if (τ.2.1 8 4 0) < 0 then (some τ) else (if 800 ≤ (τ.2.1 8 4 0) then (some τ) else (gd (vin (τ.2.1 8 4 0) 800) (nm (pvR τ 26 ((τ.2.1 8 4 0).toNatClampNeg) 0 (some ub1)) (fun σ5 => gd (vin (σ5.2.1 8 4 0) (pvLen σ5 27 0)) (nm (pvA σ5 27 0 ((σ5.2.1 8 4 0).toNatClampNeg) xb3) (fun σ7 => ob1 (f_X3_lettersOf σ7 ub1 xb3) (fun r8 => gd (vin (σ7.2.1 8 4 0) (pvLen σ7 28 0)) (nm (pvA σ7 28 0 ((σ7.2.1 8 4 0).toNatClampNeg) (r8 * xb2)) (fun σ14 => gd (vin (σ14.2.1 8 4 0) (pvLen σ14 29 0)) (nm (pvA σ14 29 0 ((σ14.2.1 8 4 0).toNatClampNeg) xb2) (fun σ16 => nm (pvI σ16 8 4 0 ((σ16.2.1 8 4 0) + 1)) (fun σ17 => f_X8_add_2 n σ17 ub1 xb2 (xb3 + 1))))))))))))))
theorem f_X8_add_2_z {τ : PvS} {ub1 : Nat} {xb2 : Int32} {xb3 : Int32} : f_X8_add_2 0 τ ub1 xb2 xb3 = none := rfl
theorem f_X8_add_2_s {n : Nat} {τ : PvS} {ub1 : Nat} {xb2 : Int32} {xb3 : Int32} : f_X8_add_2 (n + 1) τ ub1 xb2 xb3 = if (τ.2.1 3 9 ub1) ≤ xb3 then (some τ) else (if (τ.2.1 8 4 0) < 0 then (some τ) else (if 800 ≤ (τ.2.1 8 4 0) then (some τ) else (gd (vin (τ.2.1 8 4 0) 800) (nm (pvR τ 26 ((τ.2.1 8 4 0).toNatClampNeg) 0 (some ub1)) (fun σ5 => gd (vin (σ5.2.1 8 4 0) (pvLen σ5 27 0)) (nm (pvA σ5 27 0 ((σ5.2.1 8 4 0).toNatClampNeg) xb3) (fun σ7 => ob1 (f_X3_lettersOf σ7 ub1 xb3) (fun r8 => gd (vin (σ7.2.1 8 4 0) (pvLen σ7 28 0)) (nm (pvA σ7 28 0 ((σ7.2.1 8 4 0).toNatClampNeg) (r8 * xb2)) (fun σ14 => gd (vin (σ14.2.1 8 4 0) (pvLen σ14 29 0)) (nm (pvA σ14 29 0 ((σ14.2.1 8 4 0).toNatClampNeg) xb2) (fun σ16 => nm (pvI σ16 8 4 0 ((σ16.2.1 8 4 0) + 1)) (fun σ17 => f_X8_add_2 n σ17 ub1 xb2 (xb3 + 1)))))))))))))) := rfl
def f_X8_add (σ : PvS) (u1 : Nat) (x2 : Int32) : Option PvS :=
  f_X8_add_2 fu σ u1 x2 0
set_option maxHeartbeats 4000000 in
set_option maxRecDepth 100000 in
theorem c_X8_add {l : Launch} {G : PvG} {tys : List (ClassId × FieldType)} {σ : PvS} (htys : tys = pvT G)  {u1 : Nat} {x2 : Int32} (hu1 : u1 < pvM σ 3) {σ1 : PvS} (h : f_X8_add σ u1 x2 = some σ1) : Met l yX8_add (Cond.code yX8_add cX8_add 4 none :: WA) ({ frames := 2, cells := 0, slots := 0, locals := 42 }) (va_Pc [.ref (G.2.2.1 8 0), .ref (G.2.2.1 3 u1), .int x2] (pvU G tys σ)) (va_Qv (fun σ' => σ' = σ1 ∧ σ'.1 = σ.1) (pvU G tys) (pvB G)) 0 0 (pvB G) := by
  refine Met.ofW (cc := cX8_add) (maxL := 4) (ret := none) (by decide) rfl ?_
  intro p e s m args below meth c s₁ B hml hv
  obtain ⟨rfl, hw, hK, hA⟩ := hv
  have hx := B.exec
  have hb := B.bytes
  have hr := B.returns
  have hts0 := atoms_spec (ws := (Cond.code yX8_add cX8_add 4 none :: WA)) B.pre
  have hts : ∀ w ∈ WA, w.before _ s = true := fun w h => hts0 w (List.mem_cons_of_mem _ h)
  have hown : s.vm.findClass RX8 = some m.cls := findClass_of_methodNamed B.named
  have hlocks := B.notSynchronized
  have hS : va_S (pvB G) s.heap s.heap [] := va_S.rf
  have hl := lv_entry ([.ref (G.2.2.1 8 0), .ref (G.2.2.1 3 u1), .int x2]) (n := 4) (Nat.le_of_ble_eq_true rfl)
  rw [lg_entry_eq]
  generalize (lg_sl ([.ref (G.2.2.1 8 0), .ref (G.2.2.1 3 u1), .int x2]) ++ List.replicate (4 - (lg_sl ([.ref (G.2.2.1 8 0), .ref (G.2.2.1 3 u1), .int x2])).length) Slot.unset).toArray = ls at hl ⊢
  have hl : lv_has ls 4 [(0, .ref (G.2.2.1 8 0)), (1, .ref (G.2.2.1 3 u1)), (2, .int x2)] := hl
  have hroot := pv_root hw
  unfold f_X8_add at h
  have loop2 : ∀ (n : Nat) (τ : PvS) (ub1 : Nat) (xb2 : Int32) (xb3 : Int32), (τ.1 = σ.1) → (ub1 < pvM σ 3) → f_X8_add_2 n τ ub1 xb2 xb3 = some σ1 → ∀ (H : Heap) (locs : List Loc), pvW G τ H → va_S (pvB G) s.heap H locs → ∀ (ls : Array Slot), lv_has ls 4 [(0, .ref (G.2.2.1 8 0)), (1, .ref (G.2.2.1 3 ub1)), (2, .int xb2), (3, .int xb3)] → W p l e (headSpec (Cond.code yX8_add cX8_add 4 none :: WA) ({ frames := 2, cells := 0, slots := 0, locals := 42 } : Room)).room s m ([.ref (G.2.2.1 8 0), .ref (G.2.2.1 3 u1), .int x2] : List Value).toArray below meth c H locs 0 0 (MQ below (va_Qv (fun σ' => σ' = σ1 ∧ σ'.1 = σ.1) (pvU G tys) (pvB G)) ([.ref (G.2.2.1 8 0), .ref (G.2.2.1 3 u1), .int x2] : List Value).toArray s 0 0 (pvB G)) (F0 m 2 ls []) := by
    intro n2
    induction n2 with
    | zero =>
      intro τ ub1 xb2 xb3 hcτ hub1 h
      rw [f_X8_add_2_z] at h
      cases h
    | succ n2 ih2 =>
      intro τ ub1 xb2 xb3 hcτ hub1 h H locs hw hS ls hl
      rw [f_X8_add_2_s] at h
      refine lv_iload_n hx hb dX8_add_2 rfl (lv_at hl 3 rfl) ?_
      refine lv_aload_n hx hb dX8_add_3 rfl (lv_at hl 1 rfl) ?_
      refine pgI (C := RX3) (T := TX3) (N := 14) hx hb hts hown hK hw 3 9 ub1 (lt_c hcτ 3 hub1) (by decide) rfl rfl inF_X3 (by decide) rfl (hts _ wm625) (fun _ h9 => h9) dX8_add_4 ?_
      refine lv_icmp_ge (tgt := 89) hx hb dX8_add_7 (by decide) (fun c1 => ?_) (fun c1 => ?_)
      · skip
        replace h := ite_p c1 h
        exact pev hx hb hr hlocks hA hw hK hS (psv h hcτ) dX8_add_89
      · skip
        replace h := ite_n c1 h
        refine lv_aload_n hx hb dX8_add_10 rfl (lv_at hl 0 rfl) ?_
        refine pgI (C := RX8) (T := TX8) (N := 7) hx hb hts hown hK hw 8 4 0 Nat.one_pos (by decide) rfl rfl inF_X8 (by decide) rfl (hts _ wm211) (fun _ h9 => h9) dX8_add_11 ?_
        refine lv_if_lt (tgt := 89) hx hb dX8_add_14 (by decide) (fun c2 => ?_) (fun c2 => ?_)
        · skip
          replace h := ite_p c2 h
          exact pev hx hb hr hlocks hA hw hK hS (psv h hcτ) dX8_add_89
        · skip
          replace h := ite_n c2 h
          refine lv_aload_n hx hb dX8_add_17 rfl (lv_at hl 0 rfl) ?_
          refine pgI (C := RX8) (T := TX8) (N := 7) hx hb hts hown hK hw 8 4 0 Nat.one_pos (by decide) rfl rfl inF_X8 (by decide) rfl (hts _ wm211) (fun _ h9 => h9) dX8_add_18 ?_
          refine lv_sipush (v := 800) hx hb dX8_add_21 (by decide) ?_
          refine lv_icmp_ge (tgt := 89) hx hb dX8_add_24 (by decide) (fun c3 => ?_) (fun c3 => ?_)
          · skip
            replace h := ite_p c3 h
            exact pev hx hb hr hlocks hA hw hK hS (psv h hcτ) dX8_add_89
          · skip
            replace h := ite_n c3 h
            refine lv_aload_n hx hb dX8_add_27 rfl (lv_at hl 0 rfl) ?_
            refine pgL (C := RX8) (T := TX8) (N := 7) hx hb hts hown hK hw 8 0 0 Nat.one_pos (by decide) rfl rfl inF_X8 (by decide) (v := .ref (G.2.2.1 26 0)) rfl (hts _ wm207) (fun _ h9 => h9) dX8_add_28 ?_
            refine lv_aload_n hx hb dX8_add_31 rfl (lv_at hl 0 rfl) ?_
            refine pgI (C := RX8) (T := TX8) (N := 7) hx hb hts hown hK hw 8 4 0 Nat.one_pos (by decide) rfl rfl inF_X8 (by decide) rfl (hts _ wm211) (fun _ h9 => h9) dX8_add_32 ?_
            refine lv_aload_n hx hb dX8_add_35 rfl (lv_at hl 1 rfl) ?_
            obtain ⟨g4, h⟩ := gd_e h
            obtain ⟨σ5, eσ5, h⟩ := nq_e h
            refine ppQT hx hb hK htys hw hS 0 Nat.one_pos ub1 (lt_c hcτ 3 hub1) g4 dX8_add_36 (fun H locs hw hS => ?_)
            rw [← eσ5] at hw
            have hcσ5 : σ5.1 = σ.1 := by rw [eσ5]; exact hcτ
            refine lv_aload_n hx hb dX8_add_37 rfl (lv_at hl 0 rfl) ?_
            refine pgL (C := RX8) (T := TX8) (N := 7) hx hb hts hown hK hw 8 1 0 Nat.one_pos (by decide) rfl rfl inF_X8 (by decide) (v := .ref (G.2.2.1 27 0)) rfl (hts _ wm208) (fun _ h9 => h9) dX8_add_38 ?_
            refine lv_aload_n hx hb dX8_add_41 rfl (lv_at hl 0 rfl) ?_
            refine pgI (C := RX8) (T := TX8) (N := 7) hx hb hts hown hK hw 8 4 0 Nat.one_pos (by decide) rfl rfl inF_X8 (by decide) rfl (hts _ wm211) (fun _ h9 => h9) dX8_add_42 ?_
            refine lv_iload_n hx hb dX8_add_45 rfl (lv_at hl 3 rfl) ?_
            obtain ⟨g6, h⟩ := gd_e h
            obtain ⟨σ7, eσ7, h⟩ := nq_e h
            refine ppA hx hb hK htys hw hS 27 0 Nat.one_pos rfl (by decide) g6 dX8_add_46 (fun H locs hw hS => ?_)
            rw [← eσ7] at hw
            have hcσ7 : σ7.1 = σ.1 := by rw [eσ7]; exact hcσ5
            refine lv_aload_n hx hb dX8_add_47 rfl (lv_at hl 0 rfl) ?_
            refine pgL (C := RX8) (T := TX8) (N := 7) hx hb hts hown hK hw 8 2 0 Nat.one_pos (by decide) rfl rfl inF_X8 (by decide) (v := .ref (G.2.2.1 28 0)) rfl (hts _ wm209) (fun _ h9 => h9) dX8_add_48 ?_
            refine lv_aload_n hx hb dX8_add_51 rfl (lv_at hl 0 rfl) ?_
            refine pgI (C := RX8) (T := TX8) (N := 7) hx hb hts hown hK hw 8 4 0 Nat.one_pos (by decide) rfl rfl inF_X8 (by decide) rfl (hts _ wm211) (fun _ h9 => h9) dX8_add_52 ?_
            refine lv_aload_n hx hb dX8_add_55 rfl (lv_at hl 1 rfl) ?_
            refine lv_iload_n hx hb dX8_add_56 rfl (lv_at hl 3 rfl) ?_
            obtain ⟨r8, e9, h⟩ := ob1_e h
            refine pcalli (va_runV (As := [.int xb3]) (rest := [.int (σ7.2.1 8 4 0), .ref (G.2.2.1 28 0)]) ⟨hx, hb, hml, hown, hts⟩ (c_X3_lettersOf (l := l) (G := G) (tys := tys) (σ := σ7) htys (lt_c hcσ7 3 hub1) e9) (cwV 1 hts (gVA wm626 wm544 wm545 wm42 wm546) rfl rfl rfl (by decide +kernel) ⟨(Nat.le_of_ble_eq_true rfl), (Nat.le_of_ble_eq_true rfl)⟩) (pv_preV hA hS hw hK 3 ub1 (lt_c hcσ7 3 hub1) (by decide) rfl [.int xb3]) rfl rfl hl.1 rfl (lv_room (Nat.le_of_ble_eq_true rfl)) dX8_add_57 ⟨Nat.zero_le _, Nat.zero_le _⟩) hS (fun r11 s12 H locs hp10 hw hS => ?_)
            obtain ⟨err8, esr8⟩ := hp10
            obtain rfl := esr8.symm
            obtain rfl := err8.symm
            refine lv_iload_n hx hb dX8_add_60 rfl (lv_at hl 2 rfl) ?_
            refine lv_imul hx hb dX8_add_61 ?_
            obtain ⟨g13, h⟩ := gd_e h
            obtain ⟨σ14, eσ14, h⟩ := nq_e h
            refine ppA hx hb hK htys hw hS 28 0 Nat.one_pos rfl (by decide) g13 dX8_add_62 (fun H locs hw hS => ?_)
            rw [← eσ14] at hw
            have hcσ14 : σ14.1 = σ.1 := by rw [eσ14]; exact hcσ7
            refine lv_aload_n hx hb dX8_add_63 rfl (lv_at hl 0 rfl) ?_
            refine pgL (C := RX8) (T := TX8) (N := 7) hx hb hts hown hK hw 8 3 0 Nat.one_pos (by decide) rfl rfl inF_X8 (by decide) (v := .ref (G.2.2.1 29 0)) rfl (hts _ wm210) (fun _ h9 => h9) dX8_add_64 ?_
            refine lv_aload_n hx hb dX8_add_67 rfl (lv_at hl 0 rfl) ?_
            refine pgI (C := RX8) (T := TX8) (N := 7) hx hb hts hown hK hw 8 4 0 Nat.one_pos (by decide) rfl rfl inF_X8 (by decide) rfl (hts _ wm211) (fun _ h9 => h9) dX8_add_68 ?_
            refine lv_iload_n hx hb dX8_add_71 rfl (lv_at hl 2 rfl) ?_
            obtain ⟨g15, h⟩ := gd_e h
            obtain ⟨σ16, eσ16, h⟩ := nq_e h
            refine ppA hx hb hK htys hw hS 29 0 Nat.one_pos rfl (by decide) g15 dX8_add_72 (fun H locs hw hS => ?_)
            rw [← eσ16] at hw
            have hcσ16 : σ16.1 = σ.1 := by rw [eσ16]; exact hcσ14
            refine lv_aload_n hx hb dX8_add_73 rfl (lv_at hl 0 rfl) ?_
            refine lv_dup hx hb dX8_add_74 rfl ?_
            refine pgI (C := RX8) (T := TX8) (N := 7) hx hb hts hown hK hw 8 4 0 Nat.one_pos (by decide) rfl rfl inF_X8 (by decide) rfl (hts _ wm211) (fun _ h9 => h9) dX8_add_75 ?_
            refine lv_iconst (v := 1) hx hb dX8_add_78 (by decide) ?_
            refine lv_iadd hx hb dX8_add_79 ?_
            obtain ⟨σ17, eσ17, h⟩ := nq_e h
            refine ppI (ty := .int) (C := RX8) (T := TX8) (N := 7) hx hb hts hown hK hw hS 8 4 0 Nat.one_pos (by decide) rfl rfl inF_X8 (by decide) rfl (by decide) tyX8_ok nmX8 (hts _ wm211) (fun _ h9 => h9) rfl (by decide +kernel) rfl rfl dX8_add_80 (fun H locs hw hS => ?_)
            rw [← eσ17] at hw
            have hcσ17 : σ17.1 = σ.1 := by rw [eσ17]; exact hcσ16
            refine lv_iinc (v := xb3 + 1) (lv' := [(3, .int (xb3 + 1)), (0, .ref (G.2.2.1 8 0)), (1, .ref (G.2.2.1 3 ub1)), (2, .int xb2)]) hx hb dX8_add_83 hl (k := 3) rfl (by rfl) (by decide) rfl (fun ls hl => ?_)
            refine lv_goto (tgt := 2) hx hb dX8_add_86 (by decide) ?_
            exact ih2 σ17 ub1 xb2 (xb3 + 1) hcσ17 hub1 h _ _ hw hS ls (lv_sub hl [1, 2, 3, 0] rfl)
  refine lv_iconst (v := 0) hx hb dX8_add_0 (by decide) ?_
  refine lv_istore_n (lv' := [(3, .int 0), (0, .ref (G.2.2.1 8 0)), (1, .ref (G.2.2.1 3 u1)), (2, .int x2)]) hx hb dX8_add_1 rfl hl (by decide) rfl (fun ls hl => ?_)
  exact loop2 fu σ u1 x2 0 rfl hu1 h _ _ hw hS ls (lv_sub hl [1, 2, 3, 0] rfl)
def f_X8_widthOf (σ : PvS) (x1 : Int32) : Option Int32 :=
  if x1 < 0 then (some 0) else (if 800 ≤ x1 then (some 0) else (gd (vin x1 (pvLen σ 28 0)) (some (σ.2.2.2.1 28 0 x1.toNatClampNeg))))
set_option maxHeartbeats 4000000 in
set_option maxRecDepth 100000 in
theorem c_X8_widthOf {l : Launch} {G : PvG} {tys : List (ClassId × FieldType)} {σ : PvS} (htys : tys = pvT G)  {x1 : Int32}  {r : Int32} (h : f_X8_widthOf σ x1 = some r) : Met l yX8_widthOf (Cond.code yX8_widthOf cX8_widthOf 2 (some .int) :: WA) ({ frames := 0, cells := 0, slots := 0, locals := 0 }) (va_Pc [.ref (G.2.2.1 8 0), .int x1] (pvU G tys σ)) (va_Qi (fun r' σ' => r' = r ∧ σ' = σ) (pvU G tys) (pvB G)) 0 0 (pvB G) := by
  refine Met.ofW (cc := cX8_widthOf) (maxL := 2) (ret := (some .int)) (by decide) rfl ?_
  intro p e s m args below meth c s₁ B hml hv
  obtain ⟨rfl, hw, hK, hA⟩ := hv
  have hx := B.exec
  have hb := B.bytes
  have hr := B.returns
  have hts0 := atoms_spec (ws := (Cond.code yX8_widthOf cX8_widthOf 2 (some .int) :: WA)) B.pre
  have hts : ∀ w ∈ WA, w.before _ s = true := fun w h => hts0 w (List.mem_cons_of_mem _ h)
  have hown : s.vm.findClass RX8 = some m.cls := findClass_of_methodNamed B.named
  have hlocks := B.notSynchronized
  have hS : va_S (pvB G) s.heap s.heap [] := va_S.rf
  have hl := lv_entry ([.ref (G.2.2.1 8 0), .int x1]) (n := 2) (Nat.le_of_ble_eq_true rfl)
  rw [lg_entry_eq]
  generalize (lg_sl ([.ref (G.2.2.1 8 0), .int x1]) ++ List.replicate (2 - (lg_sl ([.ref (G.2.2.1 8 0), .int x1])).length) Slot.unset).toArray = ls at hl ⊢
  have hl : lv_has ls 2 [(0, .ref (G.2.2.1 8 0)), (1, .int x1)] := hl
  have hroot := pv_root hw
  unfold f_X8_widthOf at h
  refine lv_iload_n hx hb dX8_widthOf_0 rfl (lv_at hl 1 rfl) ?_
  refine lv_if_lt (tgt := 20) hx hb dX8_widthOf_1 (by decide) (fun c1 => ?_) (fun c1 => ?_)
  · skip
    replace h := ite_p c1 h
    refine lv_iconst (v := 0) hx hb dX8_widthOf_20 (by decide) ?_
    exact pei hx hb hr hlocks hA hw hK hS ⟨Option.some.inj h, rfl⟩ dX8_widthOf_21
  · skip
    replace h := ite_n c1 h
    refine lv_iload_n hx hb dX8_widthOf_4 rfl (lv_at hl 1 rfl) ?_
    refine lv_sipush (v := 800) hx hb dX8_widthOf_5 (by decide) ?_
    refine lv_icmp_ge (tgt := 20) hx hb dX8_widthOf_8 (by decide) (fun c2 => ?_) (fun c2 => ?_)
    · skip
      replace h := ite_p c2 h
      refine lv_iconst (v := 0) hx hb dX8_widthOf_20 (by decide) ?_
      exact pei hx hb hr hlocks hA hw hK hS ⟨Option.some.inj h, rfl⟩ dX8_widthOf_21
    · skip
      replace h := ite_n c2 h
      refine lv_aload_n hx hb dX8_widthOf_11 rfl (lv_at hl 0 rfl) ?_
      refine pgL (C := RX8) (T := TX8) (N := 7) hx hb hts hown hK hw 8 2 0 Nat.one_pos (by decide) rfl rfl inF_X8 (by decide) (v := .ref (G.2.2.1 28 0)) rfl (hts _ wm209) (fun _ h9 => h9) dX8_widthOf_12 ?_
      refine lv_iload_n hx hb dX8_widthOf_15 rfl (lv_at hl 1 rfl) ?_
      obtain ⟨g3, h⟩ := gd_e h
      refine pgA hx hb hK htys hw 28 0 Nat.one_pos rfl (by decide) g3 dX8_widthOf_16 ?_
      refine lv_goto (tgt := 21) hx hb dX8_widthOf_17 (by decide) ?_
      exact pei hx hb hr hlocks hA hw hK hS ⟨Option.some.inj h, rfl⟩ dX8_widthOf_21
def f_X8_takeLine_63 (k19 : PvS → Int32 → Int32 → Int32 → Int32 → Option (Int32 × PvS)) (τ : PvS) (xb1 : Int32) (xb2 : Int32) (xb3 : Int32) (xb4 : Int32) : Option (Int32 × PvS) :=
  gd (vin xb4 (pvLen τ 28 0)) (nm (pvI τ 8 5 0 ((τ.2.1 8 5 0) + (xb3 + (τ.2.2.2.1 28 0 xb4.toNatClampNeg)))) (fun σ2 => gd (vin xb4 (pvLen σ2 29 0)) (nm (pvI σ2 8 6 0 (imax (σ2.2.1 8 6 0) (σ2.2.2.2.1 29 0 xb4.toNatClampNeg))) (fun σ4 => gd (vin xb4 (pvLen σ4 29 0)) (k19 σ4 xb1 xb2 (σ4.2.2.2.1 29 0 xb4.toNatClampNeg) (xb4 + 1))))))
def f_X8_takeLine_19  : Nat → PvS → Int32 → Int32 → Int32 → Int32 → Option (Int32 × PvS)
  | 0, _, _, _, _, _ => none
  | n + 1, τ, xb1, xb2, xb3, xb4 => if (τ.2.1 8 4 0) ≤ xb4 then (some (τ.2.1 8 4 0, τ)) else (if 800 ≤ xb4 then (some (τ.2.1 8 4 0, τ)) else (if xb4 ≤ xb1 then (f_X8_takeLine_63 (f_X8_takeLine_19 n) τ xb1 xb2 xb3 xb4) else (gd (vin xb4 (pvLen τ 28 0)) (if (((τ.2.1 8 5 0) + xb3) + (τ.2.2.2.1 28 0 xb4.toNatClampNeg)) ≤ xb2 then (f_X8_takeLine_63 (f_X8_takeLine_19 n) τ xb1 xb2 xb3 xb4) else (some (xb4, τ))))))
theorem f_X8_takeLine_19_z {τ : PvS} {xb1 : Int32} {xb2 : Int32} {xb3 : Int32} {xb4 : Int32} : f_X8_takeLine_19 0 τ xb1 xb2 xb3 xb4 = none := rfl
theorem f_X8_takeLine_19_s {n : Nat} {τ : PvS} {xb1 : Int32} {xb2 : Int32} {xb3 : Int32} {xb4 : Int32} : f_X8_takeLine_19 (n + 1) τ xb1 xb2 xb3 xb4 = if (τ.2.1 8 4 0) ≤ xb4 then (some (τ.2.1 8 4 0, τ)) else (if 800 ≤ xb4 then (some (τ.2.1 8 4 0, τ)) else (if xb4 ≤ xb1 then (f_X8_takeLine_63 (f_X8_takeLine_19 n) τ xb1 xb2 xb3 xb4) else (gd (vin xb4 (pvLen τ 28 0)) (if (((τ.2.1 8 5 0) + xb3) + (τ.2.2.2.1 28 0 xb4.toNatClampNeg)) ≤ xb2 then (f_X8_takeLine_63 (f_X8_takeLine_19 n) τ xb1 xb2 xb3 xb4) else (some (xb4, τ)))))) := rfl
def f_X8_takeLine (σ : PvS) (x1 : Int32) (x2 : Int32) : Option (Int32 × PvS) :=
  nm (pvI σ 8 5 0 0) (fun σ11 => nm (pvI σ11 8 6 0 0) (fun σ12 => f_X8_takeLine_19 fu σ12 x1 x2 0 (imax 0 x1)))
set_option maxHeartbeats 4000000 in
set_option maxRecDepth 100000 in
theorem c_X8_takeLine {l : Launch} {G : PvG} {tys : List (ClassId × FieldType)} {σ : PvS} (htys : tys = pvT G)  {x1 : Int32} {x2 : Int32}  {r : Int32} {σ1 : PvS} (h : f_X8_takeLine σ x1 x2 = some (r, σ1)) : Met l yX8_takeLine (Cond.code yX8_takeLine cX8_takeLine 5 (some .int) :: WA) ({ frames := 1, cells := 0, slots := 0, locals := 14 }) (va_Pc [.ref (G.2.2.1 8 0), .int x1, .int x2] (pvU G tys σ)) (va_Qi (fun r' σ' => r' = r ∧ σ' = σ1 ∧ σ'.1 = σ.1) (pvU G tys) (pvB G)) 0 0 (pvB G) := by
  refine Met.ofW (cc := cX8_takeLine) (maxL := 5) (ret := (some .int)) (by decide) rfl ?_
  intro p e s m args below meth c s₁ B hml hv
  obtain ⟨rfl, hw, hK, hA⟩ := hv
  have hx := B.exec
  have hb := B.bytes
  have hr := B.returns
  have hts0 := atoms_spec (ws := (Cond.code yX8_takeLine cX8_takeLine 5 (some .int) :: WA)) B.pre
  have hts : ∀ w ∈ WA, w.before _ s = true := fun w h => hts0 w (List.mem_cons_of_mem _ h)
  have hown : s.vm.findClass RX8 = some m.cls := findClass_of_methodNamed B.named
  have hlocks := B.notSynchronized
  have hS : va_S (pvB G) s.heap s.heap [] := va_S.rf
  have hl := lv_entry ([.ref (G.2.2.1 8 0), .int x1, .int x2]) (n := 5) (Nat.le_of_ble_eq_true rfl)
  rw [lg_entry_eq]
  generalize (lg_sl ([.ref (G.2.2.1 8 0), .int x1, .int x2]) ++ List.replicate (5 - (lg_sl ([.ref (G.2.2.1 8 0), .int x1, .int x2])).length) Slot.unset).toArray = ls at hl ⊢
  have hl : lv_has ls 5 [(0, .ref (G.2.2.1 8 0)), (1, .int x1), (2, .int x2)] := hl
  have hroot := pv_root hw
  unfold f_X8_takeLine at h
  have loop19 : ∀ (n : Nat) (τ : PvS) (xb1 : Int32) (xb2 : Int32) (xb3 : Int32) (xb4 : Int32), (τ.1 = σ.1) → f_X8_takeLine_19 n τ xb1 xb2 xb3 xb4 = some (r, σ1) → ∀ (H : Heap) (locs : List Loc), pvW G τ H → va_S (pvB G) s.heap H locs → ∀ (ls : Array Slot), lv_has ls 5 [(0, .ref (G.2.2.1 8 0)), (1, .int xb1), (2, .int xb2), (3, .int xb3), (4, .int xb4)] → W p l e (headSpec (Cond.code yX8_takeLine cX8_takeLine 5 (some .int) :: WA) ({ frames := 1, cells := 0, slots := 0, locals := 14 } : Room)).room s m ([.ref (G.2.2.1 8 0), .int x1, .int x2] : List Value).toArray below meth c H locs 0 0 (MQ below (va_Qi (fun r' σ' => r' = r ∧ σ' = σ1 ∧ σ'.1 = σ.1) (pvU G tys) (pvB G)) ([.ref (G.2.2.1 8 0), .int x1, .int x2] : List Value).toArray s 0 0 (pvB G)) (F0 m 19 ls []) := by
    intro n19
    induction n19 with
    | zero =>
      intro τ xb1 xb2 xb3 xb4 hcτ h
      rw [f_X8_takeLine_19_z] at h
      cases h
    | succ n19 ih19 =>
      have blk63 : ∀ (τ : PvS) (xb1 : Int32) (xb2 : Int32) (xb3 : Int32) (xb4 : Int32), (τ.1 = σ.1) → f_X8_takeLine_63 (f_X8_takeLine_19 n19) τ xb1 xb2 xb3 xb4 = some (r, σ1) → ∀ (H : Heap) (locs : List Loc), pvW G τ H → va_S (pvB G) s.heap H locs → ∀ (ls : Array Slot), lv_has ls 5 [(0, .ref (G.2.2.1 8 0)), (1, .int xb1), (2, .int xb2), (3, .int xb3), (4, .int xb4)] → W p l e (headSpec (Cond.code yX8_takeLine cX8_takeLine 5 (some .int) :: WA) ({ frames := 1, cells := 0, slots := 0, locals := 14 } : Room)).room s m ([.ref (G.2.2.1 8 0), .int x1, .int x2] : List Value).toArray below meth c H locs 0 0 (MQ below (va_Qi (fun r' σ' => r' = r ∧ σ' = σ1 ∧ σ'.1 = σ.1) (pvU G tys) (pvB G)) ([.ref (G.2.2.1 8 0), .int x1, .int x2] : List Value).toArray s 0 0 (pvB G)) (F0 m 63 ls []) := by
        intro τ xb1 xb2 xb3 xb4 hcτ h H locs hw hS ls hl
        unfold f_X8_takeLine_63 at h
        refine lv_aload_n hx hb dX8_takeLine_63 rfl (lv_at hl 0 rfl) ?_
        refine lv_dup hx hb dX8_takeLine_64 rfl ?_
        refine pgI (C := RX8) (T := TX8) (N := 7) hx hb hts hown hK hw 8 5 0 Nat.one_pos (by decide) rfl rfl inF_X8 (by decide) rfl (hts _ wm212) (fun _ h9 => h9) dX8_takeLine_65 ?_
        refine lv_iload_n hx hb dX8_takeLine_68 rfl (lv_at hl 3 rfl) ?_
        refine lv_aload_n hx hb dX8_takeLine_69 rfl (lv_at hl 0 rfl) ?_
        refine pgL (C := RX8) (T := TX8) (N := 7) hx hb hts hown hK hw 8 2 0 Nat.one_pos (by decide) rfl rfl inF_X8 (by decide) (v := .ref (G.2.2.1 28 0)) rfl (hts _ wm209) (fun _ h9 => h9) dX8_takeLine_70 ?_
        refine lv_iload hx hb dX8_takeLine_73 (lv_at hl 4 rfl) ?_
        obtain ⟨g1, h⟩ := gd_e h
        refine pgA hx hb hK htys hw 28 0 Nat.one_pos rfl (by decide) g1 dX8_takeLine_75 ?_
        refine lv_iadd hx hb dX8_takeLine_76 ?_
        refine lv_iadd hx hb dX8_takeLine_77 ?_
        obtain ⟨σ2, eσ2, h⟩ := nq_e h
        refine ppI (ty := .int) (C := RX8) (T := TX8) (N := 7) hx hb hts hown hK hw hS 8 5 0 Nat.one_pos (by decide) rfl rfl inF_X8 (by decide) rfl (by decide) tyX8_ok nmX8 (hts _ wm212) (fun _ h9 => h9) rfl (by decide +kernel) rfl rfl dX8_takeLine_78 (fun H locs hw hS => ?_)
        rw [← eσ2] at hw
        have hcσ2 : σ2.1 = σ.1 := by rw [eσ2]; exact hcτ
        refine lv_aload_n hx hb dX8_takeLine_81 rfl (lv_at hl 0 rfl) ?_
        refine lv_aload_n hx hb dX8_takeLine_82 rfl (lv_at hl 0 rfl) ?_
        refine pgI (C := RX8) (T := TX8) (N := 7) hx hb hts hown hK hw 8 6 0 Nat.one_pos (by decide) rfl rfl inF_X8 (by decide) rfl (hts _ wm213) (fun _ h9 => h9) dX8_takeLine_83 ?_
        refine lv_aload_n hx hb dX8_takeLine_86 rfl (lv_at hl 0 rfl) ?_
        refine pgL (C := RX8) (T := TX8) (N := 7) hx hb hts hown hK hw 8 3 0 Nat.one_pos (by decide) rfl rfl inF_X8 (by decide) (v := .ref (G.2.2.1 29 0)) rfl (hts _ wm210) (fun _ h9 => h9) dX8_takeLine_87 ?_
        refine lv_iload hx hb dX8_takeLine_90 (lv_at hl 4 rfl) ?_
        obtain ⟨g3, h⟩ := gd_e h
        refine pgA hx hb hK htys hw 29 0 Nat.one_pos rfl (by decide) g3 dX8_takeLine_92 ?_
        refine pmmax hx hb (hml.trans hl.1.symm) hown (hts _ wm595) (hts _ wm111) (hts _ wm112) (hts _ wm113) (Nat.le_of_ble_eq_true rfl) (Nat.le_of_ble_eq_true rfl) (Nat.zero_le _) (Nat.zero_le _) dX8_takeLine_93 ?_
        obtain ⟨σ4, eσ4, h⟩ := nq_e h
        refine ppI (ty := .int) (C := RX8) (T := TX8) (N := 7) hx hb hts hown hK hw hS 8 6 0 Nat.one_pos (by decide) rfl rfl inF_X8 (by decide) rfl (by decide) tyX8_ok nmX8 (hts _ wm213) (fun _ h9 => h9) rfl (by decide +kernel) rfl rfl dX8_takeLine_96 (fun H locs hw hS => ?_)
        rw [← eσ4] at hw
        have hcσ4 : σ4.1 = σ.1 := by rw [eσ4]; exact hcσ2
        refine lv_aload_n hx hb dX8_takeLine_99 rfl (lv_at hl 0 rfl) ?_
        refine pgL (C := RX8) (T := TX8) (N := 7) hx hb hts hown hK hw 8 3 0 Nat.one_pos (by decide) rfl rfl inF_X8 (by decide) (v := .ref (G.2.2.1 29 0)) rfl (hts _ wm210) (fun _ h9 => h9) dX8_takeLine_100 ?_
        refine lv_iload hx hb dX8_takeLine_103 (lv_at hl 4 rfl) ?_
        obtain ⟨g5, h⟩ := gd_e h
        refine pgA hx hb hK htys hw 29 0 Nat.one_pos rfl (by decide) g5 dX8_takeLine_105 ?_
        refine lv_istore_n (lv' := [(3, .int (σ4.2.2.2.1 29 0 xb4.toNatClampNeg)), (0, .ref (G.2.2.1 8 0)), (1, .int xb1), (2, .int xb2), (4, .int xb4)]) hx hb dX8_takeLine_106 rfl hl (by decide) rfl (fun ls hl => ?_)
        refine lv_iinc (v := xb4 + 1) (lv' := [(4, .int (xb4 + 1)), (3, .int (σ4.2.2.2.1 29 0 xb4.toNatClampNeg)), (0, .ref (G.2.2.1 8 0)), (1, .int xb1), (2, .int xb2)]) hx hb dX8_takeLine_107 hl (k := 4) rfl (by rfl) (by decide) rfl (fun ls hl => ?_)
        refine lv_goto (tgt := 19) hx hb dX8_takeLine_110 (by decide) ?_
        exact ih19 σ4 xb1 xb2 (σ4.2.2.2.1 29 0 xb4.toNatClampNeg) (xb4 + 1) hcσ4 h _ _ hw hS ls (lv_sub hl [2, 3, 4, 1, 0] rfl)
      intro τ xb1 xb2 xb3 xb4 hcτ h H locs hw hS ls hl
      rw [f_X8_takeLine_19_s] at h
      refine lv_iload hx hb dX8_takeLine_19 (lv_at hl 4 rfl) ?_
      refine lv_aload_n hx hb dX8_takeLine_21 rfl (lv_at hl 0 rfl) ?_
      refine pgI (C := RX8) (T := TX8) (N := 7) hx hb hts hown hK hw 8 4 0 Nat.one_pos (by decide) rfl rfl inF_X8 (by decide) rfl (hts _ wm211) (fun _ h9 => h9) dX8_takeLine_22 ?_
      refine lv_icmp_ge (tgt := 113) hx hb dX8_takeLine_25 (by decide) (fun c6 => ?_) (fun c6 => ?_)
      · skip
        replace h := ite_p c6 h
        refine lv_aload_n hx hb dX8_takeLine_113 rfl (lv_at hl 0 rfl) ?_
        refine pgI (C := RX8) (T := TX8) (N := 7) hx hb hts hown hK hw 8 4 0 Nat.one_pos (by decide) rfl rfl inF_X8 (by decide) rfl (hts _ wm211) (fun _ h9 => h9) dX8_takeLine_114 ?_
        exact pei hx hb hr hlocks hA hw hK hS (pst h hcτ) dX8_takeLine_117
      · skip
        replace h := ite_n c6 h
        refine lv_iload hx hb dX8_takeLine_28 (lv_at hl 4 rfl) ?_
        refine lv_sipush (v := 800) hx hb dX8_takeLine_30 (by decide) ?_
        refine lv_icmp_ge (tgt := 113) hx hb dX8_takeLine_33 (by decide) (fun c7 => ?_) (fun c7 => ?_)
        · skip
          replace h := ite_p c7 h
          refine lv_aload_n hx hb dX8_takeLine_113 rfl (lv_at hl 0 rfl) ?_
          refine pgI (C := RX8) (T := TX8) (N := 7) hx hb hts hown hK hw 8 4 0 Nat.one_pos (by decide) rfl rfl inF_X8 (by decide) rfl (hts _ wm211) (fun _ h9 => h9) dX8_takeLine_114 ?_
          exact pei hx hb hr hlocks hA hw hK hS (pst h hcτ) dX8_takeLine_117
        · skip
          replace h := ite_n c7 h
          refine lv_iload hx hb dX8_takeLine_36 (lv_at hl 4 rfl) ?_
          refine lv_iload_n hx hb dX8_takeLine_38 rfl (lv_at hl 1 rfl) ?_
          refine lv_icmp_le (tgt := 63) hx hb dX8_takeLine_39 (by decide) (fun c8 => ?_) (fun c8 => ?_)
          · skip
            replace h := ite_p c8 h
            exact blk63 τ xb1 xb2 xb3 xb4 hcτ h _ _ hw hS ls (lv_sub hl [0, 1, 2, 3, 4] rfl)
          · skip
            replace h := ite_n c8 h
            refine lv_aload_n hx hb dX8_takeLine_42 rfl (lv_at hl 0 rfl) ?_
            refine pgI (C := RX8) (T := TX8) (N := 7) hx hb hts hown hK hw 8 5 0 Nat.one_pos (by decide) rfl rfl inF_X8 (by decide) rfl (hts _ wm212) (fun _ h9 => h9) dX8_takeLine_43 ?_
            refine lv_iload_n hx hb dX8_takeLine_46 rfl (lv_at hl 3 rfl) ?_
            refine lv_iadd hx hb dX8_takeLine_47 ?_
            refine lv_aload_n hx hb dX8_takeLine_48 rfl (lv_at hl 0 rfl) ?_
            refine pgL (C := RX8) (T := TX8) (N := 7) hx hb hts hown hK hw 8 2 0 Nat.one_pos (by decide) rfl rfl inF_X8 (by decide) (v := .ref (G.2.2.1 28 0)) rfl (hts _ wm209) (fun _ h9 => h9) dX8_takeLine_49 ?_
            refine lv_iload hx hb dX8_takeLine_52 (lv_at hl 4 rfl) ?_
            obtain ⟨g9, h⟩ := gd_e h
            refine pgA hx hb hK htys hw 28 0 Nat.one_pos rfl (by decide) g9 dX8_takeLine_54 ?_
            refine lv_iadd hx hb dX8_takeLine_55 ?_
            refine lv_iload_n hx hb dX8_takeLine_56 rfl (lv_at hl 2 rfl) ?_
            refine lv_icmp_le (tgt := 63) hx hb dX8_takeLine_57 (by decide) (fun c10 => ?_) (fun c10 => ?_)
            · skip
              replace h := ite_p c10 h
              exact blk63 τ xb1 xb2 xb3 xb4 hcτ h _ _ hw hS ls (lv_sub hl [0, 1, 2, 3, 4] rfl)
            · skip
              replace h := ite_n c10 h
              refine lv_iload hx hb dX8_takeLine_60 (lv_at hl 4 rfl) ?_
              exact pei hx hb hr hlocks hA hw hK hS (pst h hcτ) dX8_takeLine_62
  refine lv_aload_n hx hb dX8_takeLine_0 rfl (lv_at hl 0 rfl) ?_
  refine lv_iconst (v := 0) hx hb dX8_takeLine_1 (by decide) ?_
  obtain ⟨σ11, eσ11, h⟩ := nq_e h
  refine ppI (ty := .int) (C := RX8) (T := TX8) (N := 7) hx hb hts hown hK hw hS 8 5 0 Nat.one_pos (by decide) rfl rfl inF_X8 (by decide) rfl (by decide) tyX8_ok nmX8 (hts _ wm212) (fun _ h9 => h9) rfl (by decide +kernel) rfl rfl dX8_takeLine_2 (fun H locs hw hS => ?_)
  rw [← eσ11] at hw
  have hcσ11 : σ11.1 = σ.1 := by rw [eσ11]; exact rfl
  refine lv_aload_n hx hb dX8_takeLine_5 rfl (lv_at hl 0 rfl) ?_
  refine lv_iconst (v := 0) hx hb dX8_takeLine_6 (by decide) ?_
  obtain ⟨σ12, eσ12, h⟩ := nq_e h
  refine ppI (ty := .int) (C := RX8) (T := TX8) (N := 7) hx hb hts hown hK hw hS 8 6 0 Nat.one_pos (by decide) rfl rfl inF_X8 (by decide) rfl (by decide) tyX8_ok nmX8 (hts _ wm213) (fun _ h9 => h9) rfl (by decide +kernel) rfl rfl dX8_takeLine_7 (fun H locs hw hS => ?_)
  rw [← eσ12] at hw
  have hcσ12 : σ12.1 = σ.1 := by rw [eσ12]; exact hcσ11
  refine lv_iconst (v := 0) hx hb dX8_takeLine_10 (by decide) ?_
  refine lv_istore_n (lv' := [(3, .int 0), (0, .ref (G.2.2.1 8 0)), (1, .int x1), (2, .int x2)]) hx hb dX8_takeLine_11 rfl hl (by decide) rfl (fun ls hl => ?_)
  refine lv_iconst (v := 0) hx hb dX8_takeLine_12 (by decide) ?_
  refine lv_iload_n hx hb dX8_takeLine_13 rfl (lv_at hl 2 rfl) ?_
  refine pmmax hx hb (hml.trans hl.1.symm) hown (hts _ wm595) (hts _ wm111) (hts _ wm112) (hts _ wm113) (Nat.le_of_ble_eq_true rfl) (Nat.le_of_ble_eq_true rfl) (Nat.zero_le _) (Nat.zero_le _) dX8_takeLine_14 ?_
  refine lv_istore (lv' := [(4, .int (imax 0 x1)), (3, .int 0), (0, .ref (G.2.2.1 8 0)), (1, .int x1), (2, .int x2)]) hx hb dX8_takeLine_17 hl (by decide) rfl (fun ls hl => ?_)
  exact loop19 fu σ12 x1 x2 0 (imax 0 x1) hcσ12 h _ _ hw hS ls (lv_sub hl [2, 3, 4, 1, 0] rfl)
def f_X8_setLine_67 (k10 : PvS → Int32 → Int32 → Int32 → Int32 → Option PvS) (τ : PvS) (xb2 : Int32) (xb4 : Int32) (xb5 : Int32) (xb6 : Int32) : Option PvS :=
  gd (vin xb6 (pvLen τ 28 0)) (gd (vin xb6 (pvLen τ 29 0)) (k10 τ xb2 xb4 (xb5 + ((τ.2.2.2.1 28 0 xb6.toNatClampNeg) + (τ.2.2.2.1 29 0 xb6.toNatClampNeg))) (xb6 + 1)))
def f_X8_setLine_10  : Nat → PvS → Int32 → Int32 → Int32 → Int32 → Option PvS
  | 0, _, _, _, _, _ => none
  | n + 1, τ, xb2, xb4, xb5, xb6 => if xb2 ≤ xb6 then (some τ) else (if (τ.2.1 8 4 0) ≤ xb6 then (some τ) else (if 800 ≤ xb6 then (some τ) else (gd (vin xb6 800) (nm (τ.2.2.1 26 xb6.toNatClampNeg 0) (fun o7 => oc o7 (f_X8_setLine_67 (f_X8_setLine_10 n) τ xb2 xb4 xb5 xb6) (fun jo7 => gd (vin xb6 800) (nm (τ.2.2.1 26 xb6.toNatClampNeg 0) (fun o9 => oc o9 none (fun jo9 => gd (vin xb6 (pvLen τ 27 0)) (ob1 (f_X2_setWord τ jo9 (τ.2.2.2.1 27 0 xb6.toNatClampNeg) xb5 xb4) (fun σ12 => f_X8_setLine_67 (f_X8_setLine_10 n) σ12 xb2 xb4 xb5 xb6)))))))))))
theorem f_X8_setLine_10_z {τ : PvS} {xb2 : Int32} {xb4 : Int32} {xb5 : Int32} {xb6 : Int32} : f_X8_setLine_10 0 τ xb2 xb4 xb5 xb6 = none := rfl
theorem f_X8_setLine_10_s {n : Nat} {τ : PvS} {xb2 : Int32} {xb4 : Int32} {xb5 : Int32} {xb6 : Int32} : f_X8_setLine_10 (n + 1) τ xb2 xb4 xb5 xb6 = if xb2 ≤ xb6 then (some τ) else (if (τ.2.1 8 4 0) ≤ xb6 then (some τ) else (if 800 ≤ xb6 then (some τ) else (gd (vin xb6 800) (nm (τ.2.2.1 26 xb6.toNatClampNeg 0) (fun o7 => oc o7 (f_X8_setLine_67 (f_X8_setLine_10 n) τ xb2 xb4 xb5 xb6) (fun jo7 => gd (vin xb6 800) (nm (τ.2.2.1 26 xb6.toNatClampNeg 0) (fun o9 => oc o9 none (fun jo9 => gd (vin xb6 (pvLen τ 27 0)) (ob1 (f_X2_setWord τ jo9 (τ.2.2.2.1 27 0 xb6.toNatClampNeg) xb5 xb4) (fun σ12 => f_X8_setLine_67 (f_X8_setLine_10 n) σ12 xb2 xb4 xb5 xb6))))))))))) := rfl
def f_X8_setLine (σ : PvS) (x1 : Int32) (x2 : Int32) (x3 : Int32) (x4 : Int32) : Option PvS :=
  f_X8_setLine_10 fu σ x2 x4 x3 (imax 0 x1)
set_option maxHeartbeats 4000000 in
set_option maxRecDepth 100000 in
theorem c_X8_setLine {l : Launch} {G : PvG} {tys : List (ClassId × FieldType)} {σ : PvS} (htys : tys = pvT G)  {x1 : Int32} {x2 : Int32} {x3 : Int32} {x4 : Int32}  {σ1 : PvS} (h : f_X8_setLine σ x1 x2 x3 x4 = some σ1) : Met l yX8_setLine (Cond.code yX8_setLine cX8_setLine 7 none :: WA) ({ frames := 1, cells := 0, slots := 0, locals := 23 }) (va_Pc [.ref (G.2.2.1 8 0), .int x1, .int x2, .int x3, .int x4] (pvU G tys σ)) (va_Qv (fun σ' => σ' = σ1 ∧ σ'.1 = σ.1) (pvU G tys) (pvB G)) 0 0 (pvB G) := by
  refine Met.ofW (cc := cX8_setLine) (maxL := 7) (ret := none) (by decide) rfl ?_
  intro p e s m args below meth c s₁ B hml hv
  obtain ⟨rfl, hw, hK, hA⟩ := hv
  have hx := B.exec
  have hb := B.bytes
  have hr := B.returns
  have hts0 := atoms_spec (ws := (Cond.code yX8_setLine cX8_setLine 7 none :: WA)) B.pre
  have hts : ∀ w ∈ WA, w.before _ s = true := fun w h => hts0 w (List.mem_cons_of_mem _ h)
  have hown : s.vm.findClass RX8 = some m.cls := findClass_of_methodNamed B.named
  have hlocks := B.notSynchronized
  have hS : va_S (pvB G) s.heap s.heap [] := va_S.rf
  have hl := lv_entry ([.ref (G.2.2.1 8 0), .int x1, .int x2, .int x3, .int x4]) (n := 7) (Nat.le_of_ble_eq_true rfl)
  rw [lg_entry_eq]
  generalize (lg_sl ([.ref (G.2.2.1 8 0), .int x1, .int x2, .int x3, .int x4]) ++ List.replicate (7 - (lg_sl ([.ref (G.2.2.1 8 0), .int x1, .int x2, .int x3, .int x4])).length) Slot.unset).toArray = ls at hl ⊢
  have hl : lv_has ls 7 [(0, .ref (G.2.2.1 8 0)), (1, .int x1), (2, .int x2), (3, .int x3), (4, .int x4)] := hl
  have hroot := pv_root hw
  unfold f_X8_setLine at h
  have loop10 : ∀ (n : Nat) (τ : PvS) (xb2 : Int32) (xb4 : Int32) (xb5 : Int32) (xb6 : Int32), (τ.1 = σ.1) → f_X8_setLine_10 n τ xb2 xb4 xb5 xb6 = some σ1 → ∀ (H : Heap) (locs : List Loc), pvW G τ H → va_S (pvB G) s.heap H locs → ∀ (ls : Array Slot), lv_has ls 7 [(0, .ref (G.2.2.1 8 0)), (2, .int xb2), (4, .int xb4), (5, .int xb5), (6, .int xb6)] → W p l e (headSpec (Cond.code yX8_setLine cX8_setLine 7 none :: WA) ({ frames := 1, cells := 0, slots := 0, locals := 23 } : Room)).room s m ([.ref (G.2.2.1 8 0), .int x1, .int x2, .int x3, .int x4] : List Value).toArray below meth c H locs 0 0 (MQ below (va_Qv (fun σ' => σ' = σ1 ∧ σ'.1 = σ.1) (pvU G tys) (pvB G)) ([.ref (G.2.2.1 8 0), .int x1, .int x2, .int x3, .int x4] : List Value).toArray s 0 0 (pvB G)) (F0 m 10 ls []) := by
    intro n10
    induction n10 with
    | zero =>
      intro τ xb2 xb4 xb5 xb6 hcτ h
      rw [f_X8_setLine_10_z] at h
      cases h
    | succ n10 ih10 =>
      have blk67 : ∀ (τ : PvS) (xb2 : Int32) (xb4 : Int32) (xb5 : Int32) (xb6 : Int32), (τ.1 = σ.1) → f_X8_setLine_67 (f_X8_setLine_10 n10) τ xb2 xb4 xb5 xb6 = some σ1 → ∀ (H : Heap) (locs : List Loc), pvW G τ H → va_S (pvB G) s.heap H locs → ∀ (ls : Array Slot), lv_has ls 7 [(0, .ref (G.2.2.1 8 0)), (2, .int xb2), (4, .int xb4), (5, .int xb5), (6, .int xb6)] → W p l e (headSpec (Cond.code yX8_setLine cX8_setLine 7 none :: WA) ({ frames := 1, cells := 0, slots := 0, locals := 23 } : Room)).room s m ([.ref (G.2.2.1 8 0), .int x1, .int x2, .int x3, .int x4] : List Value).toArray below meth c H locs 0 0 (MQ below (va_Qv (fun σ' => σ' = σ1 ∧ σ'.1 = σ.1) (pvU G tys) (pvB G)) ([.ref (G.2.2.1 8 0), .int x1, .int x2, .int x3, .int x4] : List Value).toArray s 0 0 (pvB G)) (F0 m 67 ls []) := by
        intro τ xb2 xb4 xb5 xb6 hcτ h H locs hw hS ls hl
        unfold f_X8_setLine_67 at h
        refine lv_iload hx hb dX8_setLine_67 (lv_at hl 3 rfl) ?_
        refine lv_aload_n hx hb dX8_setLine_69 rfl (lv_at hl 0 rfl) ?_
        refine pgL (C := RX8) (T := TX8) (N := 7) hx hb hts hown hK hw 8 2 0 Nat.one_pos (by decide) rfl rfl inF_X8 (by decide) (v := .ref (G.2.2.1 28 0)) rfl (hts _ wm209) (fun _ h9 => h9) dX8_setLine_70 ?_
        refine lv_iload hx hb dX8_setLine_73 (lv_at hl 4 rfl) ?_
        obtain ⟨g1, h⟩ := gd_e h
        refine pgA hx hb hK htys hw 28 0 Nat.one_pos rfl (by decide) g1 dX8_setLine_75 ?_
        refine lv_aload_n hx hb dX8_setLine_76 rfl (lv_at hl 0 rfl) ?_
        refine pgL (C := RX8) (T := TX8) (N := 7) hx hb hts hown hK hw 8 3 0 Nat.one_pos (by decide) rfl rfl inF_X8 (by decide) (v := .ref (G.2.2.1 29 0)) rfl (hts _ wm210) (fun _ h9 => h9) dX8_setLine_77 ?_
        refine lv_iload hx hb dX8_setLine_80 (lv_at hl 4 rfl) ?_
        obtain ⟨g2, h⟩ := gd_e h
        refine pgA hx hb hK htys hw 29 0 Nat.one_pos rfl (by decide) g2 dX8_setLine_82 ?_
        refine lv_iadd hx hb dX8_setLine_83 ?_
        refine lv_iadd hx hb dX8_setLine_84 ?_
        refine lv_istore (lv' := [(5, .int (xb5 + ((τ.2.2.2.1 28 0 xb6.toNatClampNeg) + (τ.2.2.2.1 29 0 xb6.toNatClampNeg)))), (0, .ref (G.2.2.1 8 0)), (2, .int xb2), (4, .int xb4), (6, .int xb6)]) hx hb dX8_setLine_85 hl (by decide) rfl (fun ls hl => ?_)
        refine lv_iinc (v := xb6 + 1) (lv' := [(6, .int (xb6 + 1)), (5, .int (xb5 + ((τ.2.2.2.1 28 0 xb6.toNatClampNeg) + (τ.2.2.2.1 29 0 xb6.toNatClampNeg)))), (0, .ref (G.2.2.1 8 0)), (2, .int xb2), (4, .int xb4)]) hx hb dX8_setLine_87 hl (k := 4) rfl (by rfl) (by decide) rfl (fun ls hl => ?_)
        refine lv_goto (tgt := 10) hx hb dX8_setLine_90 (by decide) ?_
        exact ih10 τ xb2 xb4 (xb5 + ((τ.2.2.2.1 28 0 xb6.toNatClampNeg) + (τ.2.2.2.1 29 0 xb6.toNatClampNeg))) (xb6 + 1) hcτ h _ _ hw hS ls (lv_sub hl [2, 3, 4, 1, 0] rfl)
      intro τ xb2 xb4 xb5 xb6 hcτ h H locs hw hS ls hl
      rw [f_X8_setLine_10_s] at h
      refine lv_iload hx hb dX8_setLine_10 (lv_at hl 4 rfl) ?_
      refine lv_iload_n hx hb dX8_setLine_12 rfl (lv_at hl 1 rfl) ?_
      refine lv_icmp_ge (tgt := 93) hx hb dX8_setLine_13 (by decide) (fun c3 => ?_) (fun c3 => ?_)
      · skip
        replace h := ite_p c3 h
        exact pev hx hb hr hlocks hA hw hK hS (psv h hcτ) dX8_setLine_93
      · skip
        replace h := ite_n c3 h
        refine lv_iload hx hb dX8_setLine_16 (lv_at hl 4 rfl) ?_
        refine lv_aload_n hx hb dX8_setLine_18 rfl (lv_at hl 0 rfl) ?_
        refine pgI (C := RX8) (T := TX8) (N := 7) hx hb hts hown hK hw 8 4 0 Nat.one_pos (by decide) rfl rfl inF_X8 (by decide) rfl (hts _ wm211) (fun _ h9 => h9) dX8_setLine_19 ?_
        refine lv_icmp_ge (tgt := 93) hx hb dX8_setLine_22 (by decide) (fun c4 => ?_) (fun c4 => ?_)
        · skip
          replace h := ite_p c4 h
          exact pev hx hb hr hlocks hA hw hK hS (psv h hcτ) dX8_setLine_93
        · skip
          replace h := ite_n c4 h
          refine lv_iload hx hb dX8_setLine_25 (lv_at hl 4 rfl) ?_
          refine lv_sipush (v := 800) hx hb dX8_setLine_27 (by decide) ?_
          refine lv_icmp_ge (tgt := 93) hx hb dX8_setLine_30 (by decide) (fun c5 => ?_) (fun c5 => ?_)
          · skip
            replace h := ite_p c5 h
            exact pev hx hb hr hlocks hA hw hK hS (psv h hcτ) dX8_setLine_93
          · skip
            replace h := ite_n c5 h
            refine lv_aload_n hx hb dX8_setLine_33 rfl (lv_at hl 0 rfl) ?_
            refine pgL (C := RX8) (T := TX8) (N := 7) hx hb hts hown hK hw 8 0 0 Nat.one_pos (by decide) rfl rfl inF_X8 (by decide) (v := .ref (G.2.2.1 26 0)) rfl (hts _ wm207) (fun _ h9 => h9) dX8_setLine_34 ?_
            refine lv_iload hx hb dX8_setLine_37 (lv_at hl 4 rfl) ?_
            obtain ⟨g6, h⟩ := gd_e h
            obtain ⟨o7, eo7, h⟩ := nq_e h
            have ho7 := pv_cl hw eo7
            refine pgQT hx hb hK htys hw 0 Nat.one_pos g6 o7 eo7 dX8_setLine_39 ?_
            have ho7 : ∀ j, o7 = some j → j < pvM σ 3 := fun j z => lt_c hcτ.symm 3 (ho7 j z)
            rcases o7 with _ | jo7
            · skip
              replace h := oc_n h
              refine lv_ifnullN (tgt := 67) hx hb dX8_setLine_40 (by decide) ?_
              exact blk67 τ xb2 xb4 xb5 xb6 hcτ h _ _ hw hS ls (lv_sub hl [0, 1, 2, 3, 4] rfl)
            · skip
              replace h := oc_s h
              have hjo7 := ho7 jo7 rfl
              refine lv_ifnull hx hb dX8_setLine_40 ?_
              refine lv_aload_n hx hb dX8_setLine_43 rfl (lv_at hl 0 rfl) ?_
              refine pgL (C := RX8) (T := TX8) (N := 7) hx hb hts hown hK hw 8 0 0 Nat.one_pos (by decide) rfl rfl inF_X8 (by decide) (v := .ref (G.2.2.1 26 0)) rfl (hts _ wm207) (fun _ h9 => h9) dX8_setLine_44 ?_
              refine lv_iload hx hb dX8_setLine_47 (lv_at hl 4 rfl) ?_
              obtain ⟨g8, h⟩ := gd_e h
              obtain ⟨o9, eo9, h⟩ := nq_e h
              have ho9 := pv_cl hw eo9
              refine pgQT hx hb hK htys hw 0 Nat.one_pos g8 o9 eo9 dX8_setLine_49 ?_
              have ho9 : ∀ j, o9 = some j → j < pvM σ 3 := fun j z => lt_c hcτ.symm 3 (ho9 j z)
              rcases o9 with _ | jo9
              · cases (oc_n h)
              replace h := oc_s h
              have hjo9 := ho9 jo9 rfl
              refine pgL (C := RX3) (T := TX3) (N := 14) hx hb hts hown hK hw 3 6 jo9 (lt_c hcτ 3 hjo9) (by decide) rfl rfl inF_X3 (by decide) (v := .ref (G.2.2.1 2 jo9)) rfl (hts _ wm600) (fun _ h9 => h9) dX8_setLine_50 ?_
              refine lv_aload_n hx hb dX8_setLine_53 rfl (lv_at hl 0 rfl) ?_
              refine pgL (C := RX8) (T := TX8) (N := 7) hx hb hts hown hK hw 8 1 0 Nat.one_pos (by decide) rfl rfl inF_X8 (by decide) (v := .ref (G.2.2.1 27 0)) rfl (hts _ wm208) (fun _ h9 => h9) dX8_setLine_54 ?_
              refine lv_iload hx hb dX8_setLine_57 (lv_at hl 4 rfl) ?_
              obtain ⟨g10, h⟩ := gd_e h
              refine pgA hx hb hK htys hw 27 0 Nat.one_pos rfl (by decide) g10 dX8_setLine_59 ?_
              refine lv_iload hx hb dX8_setLine_60 (lv_at hl 3 rfl) ?_
              refine lv_iload hx hb dX8_setLine_62 (lv_at hl 2 rfl) ?_
              obtain ⟨σ12, e13, h⟩ := ob1_e h
              refine pcallv (va_runV (As := [.int (τ.2.2.2.1 27 0 xb6.toNatClampNeg), .int xb5, .int xb4]) (rest := []) ⟨hx, hb, hml, hown, hts⟩ (c_X2_setWord (l := l) (G := G) (tys := tys) (σ := τ) htys (lt_c hcτ 2 hjo9) e13) (cwV 3 hts (gVA wm601 wm602 wm603 wm81 wm604) rfl rfl rfl (by decide +kernel) ⟨(Nat.le_of_ble_eq_true rfl), (Nat.le_of_ble_eq_true rfl)⟩) (pv_preV hA hS hw hK 2 jo9 (lt_c hcτ 2 hjo9) (by decide) rfl [.int (τ.2.2.2.1 27 0 xb6.toNatClampNeg), .int xb5, .int xb4]) rfl rfl hl.1 rfl (lv_room (Nat.le_of_ble_eq_true rfl)) dX8_setLine_64 ⟨Nat.zero_le _, Nat.zero_le _⟩) hS (fun s16 H locs hp14 hw hS => ?_)
              obtain ⟨esσ12, hdσ12⟩ := hp14
              obtain rfl := esσ12.symm
              have hcσ12 : σ12.1 = σ.1 := hdσ12.trans hcτ
              exact blk67 σ12 xb2 xb4 xb5 xb6 hcσ12 h _ _ hw hS ls (lv_sub hl [0, 1, 2, 3, 4] rfl)
  refine lv_iload_n hx hb dX8_setLine_0 rfl (lv_at hl 3 rfl) ?_
  refine lv_istore (lv' := [(5, .int x3), (0, .ref (G.2.2.1 8 0)), (1, .int x1), (2, .int x2), (3, .int x3), (4, .int x4)]) hx hb dX8_setLine_1 hl (by decide) rfl (fun ls hl => ?_)
  refine lv_iconst (v := 0) hx hb dX8_setLine_3 (by decide) ?_
  refine lv_iload_n hx hb dX8_setLine_4 rfl (lv_at hl 2 rfl) ?_
  refine pmmax hx hb (hml.trans hl.1.symm) hown (hts _ wm595) (hts _ wm111) (hts _ wm112) (hts _ wm113) (Nat.le_of_ble_eq_true rfl) (Nat.le_of_ble_eq_true rfl) (Nat.zero_le _) (Nat.zero_le _) dX8_setLine_5 ?_
  refine lv_istore (lv' := [(6, .int (imax 0 x1)), (5, .int x3), (0, .ref (G.2.2.1 8 0)), (1, .int x1), (2, .int x2), (3, .int x3), (4, .int x4)]) hx hb dX8_setLine_8 hl (by decide) rfl (fun ls hl => ?_)
  exact loop10 fu σ x2 x4 x3 (imax 0 x1) rfl h _ _ hw hS ls (lv_sub hl [2, 4, 6, 1, 0] rfl)
