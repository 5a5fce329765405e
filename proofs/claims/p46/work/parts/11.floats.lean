def f_X0_clear (σ : PvS)  : Option PvS :=
  nm (pvI σ 0 6 0 0) (fun σ1 => some σ1)
set_option maxHeartbeats 4000000 in
set_option maxRecDepth 100000 in
theorem c_X0_clear {l : Launch} {G : PvG} {tys : List (ClassId × FieldType)} {σ : PvS} (htys : tys = pvT G)    {σ1 : PvS} (h : f_X0_clear σ = some σ1) : Met l yX0_clear (Cond.code yX0_clear cX0_clear 1 none :: WA) ({ frames := 0, cells := 0, slots := 0, locals := 0 }) (va_Pc [.ref (G.2.2.1 0 0)] (pvU G tys σ)) (va_Qv (fun σ' => σ' = σ1 ∧ σ'.1 = σ.1) (pvU G tys) (pvB G)) 0 0 (pvB G) := by
  refine Met.ofW (cc := cX0_clear) (maxL := 1) (ret := none) (by decide) rfl ?_
  intro p e s m args below meth c s₁ B hml hv
  obtain ⟨rfl, hw, hK, hA⟩ := hv
  have hx := B.exec
  have hb := B.bytes
  have hr := B.returns
  have hts0 := atoms_spec (ws := (Cond.code yX0_clear cX0_clear 1 none :: WA)) B.pre
  have hts : ∀ w ∈ WA, w.before _ s = true := fun w h => hts0 w (List.mem_cons_of_mem _ h)
  have hown : s.vm.findClass RX0 = some m.cls := findClass_of_methodNamed B.named
  have hlocks := B.notSynchronized
  have hS : va_S (pvB G) s.heap s.heap [] := va_S.rf
  have hl := lv_entry ([.ref (G.2.2.1 0 0)]) (n := 1) (Nat.le_of_ble_eq_true rfl)
  rw [lg_entry_eq]
  generalize (lg_sl ([.ref (G.2.2.1 0 0)]) ++ List.replicate (1 - (lg_sl ([.ref (G.2.2.1 0 0)])).length) Slot.unset).toArray = ls at hl ⊢
  have hl : lv_has ls 1 [(0, .ref (G.2.2.1 0 0))] := hl
  have hroot := pv_root hw
  unfold f_X0_clear at h
  refine lv_aload_n hx hb dX0_clear_0 rfl (lv_at hl 0 rfl) ?_
  refine lv_iconst (v := 0) hx hb dX0_clear_1 (by decide) ?_
  obtain ⟨σ1, eσ1, h⟩ := nq_e h
  refine ppI (ty := .int) (C := RX0) (T := TX0) (N := 10) hx hb hts hown hK hw hS 0 6 0 Nat.one_pos (by decide) rfl rfl inF_X0 (by decide) rfl (by decide) tyX0_ok nmX0 (hts _ wm199) (fun _ h9 => h9) rfl (by decide +kernel) rfl rfl dX0_clear_2 (fun H locs hw hS => ?_)
  rw [← eσ1] at hw
  have hcσ1 : σ1.1 = σ.1 := by rw [eσ1]; exact rfl
  exact pev hx hb hr hlocks hA hw hK hS (psv h hcσ1) dX0_clear_5
def f_X0_put (σ : PvS) (x1 : Int32) (x2 : Int32) (x3 : Int32) (x4 : Int32) (x5 : Int32) (x6 : Int32) : Option PvS :=
  if (σ.2.1 0 6 0) < 0 then (some σ) else (if (σ.2.1 0 6 0) < 40 then (gd (vin (σ.2.1 0 6 0) (pvLen σ 20 0)) (nm (pvA σ 20 0 ((σ.2.1 0 6 0).toNatClampNeg) x1) (fun σ4 => gd (vin (σ4.2.1 0 6 0) (pvLen σ4 21 0)) (nm (pvA σ4 21 0 ((σ4.2.1 0 6 0).toNatClampNeg) x2) (fun σ6 => gd (vin (σ6.2.1 0 6 0) (pvLen σ6 22 0)) (nm (pvA σ6 22 0 ((σ6.2.1 0 6 0).toNatClampNeg) x3) (fun σ8 => gd (vin (σ8.2.1 0 6 0) (pvLen σ8 23 0)) (nm (pvA σ8 23 0 ((σ8.2.1 0 6 0).toNatClampNeg) (x3 + x5)) (fun σ10 => gd (vin (σ10.2.1 0 6 0) (pvLen σ10 24 0)) (nm (pvA σ10 24 0 ((σ10.2.1 0 6 0).toNatClampNeg) x4) (fun σ12 => gd (vin (σ12.2.1 0 6 0) (pvLen σ12 25 0)) (nm (pvA σ12 25 0 ((σ12.2.1 0 6 0).toNatClampNeg) (x4 + x6)) (fun σ14 => nm (pvI σ14 0 6 0 ((σ14.2.1 0 6 0) + 1)) (fun σ15 => some σ15)))))))))))))) else (some σ))
set_option maxHeartbeats 4000000 in
set_option maxRecDepth 100000 in
theorem c_X0_put {l : Launch} {G : PvG} {tys : List (ClassId × FieldType)} {σ : PvS} (htys : tys = pvT G)  {x1 : Int32} {x2 : Int32} {x3 : Int32} {x4 : Int32} {x5 : Int32} {x6 : Int32}  {σ1 : PvS} (h : f_X0_put σ x1 x2 x3 x4 x5 x6 = some σ1) : Met l yX0_put (Cond.code yX0_put cX0_put 7 none :: WA) ({ frames := 0, cells := 0, slots := 0, locals := 0 }) (va_Pc [.ref (G.2.2.1 0 0), .int x1, .int x2, .int x3, .int x4, .int x5, .int x6] (pvU G tys σ)) (va_Qv (fun σ' => σ' = σ1 ∧ σ'.1 = σ.1) (pvU G tys) (pvB G)) 0 0 (pvB G) := by
  refine Met.ofW (cc := cX0_put) (maxL := 7) (ret := none) (by decide) rfl ?_
  intro p e s m args below meth c s₁ B hml hv
  obtain ⟨rfl, hw, hK, hA⟩ := hv
  have hx := B.exec
  have hb := B.bytes
  have hr := B.returns
  have hts0 := atoms_spec (ws := (Cond.code yX0_put cX0_put 7 none :: WA)) B.pre
  have hts : ∀ w ∈ WA, w.before _ s = true := fun w h => hts0 w (List.mem_cons_of_mem _ h)
  have hown : s.vm.findClass RX0 = some m.cls := findClass_of_methodNamed B.named
  have hlocks := B.notSynchronized
  have hS : va_S (pvB G) s.heap s.heap [] := va_S.rf
  have hl := lv_entry ([.ref (G.2.2.1 0 0), .int x1, .int x2, .int x3, .int x4, .int x5, .int x6]) (n := 7) (Nat.le_of_ble_eq_true rfl)
  rw [lg_entry_eq]
  generalize (lg_sl ([.ref (G.2.2.1 0 0), .int x1, .int x2, .int x3, .int x4, .int x5, .int x6]) ++ List.replicate (7 - (lg_sl ([.ref (G.2.2.1 0 0), .int x1, .int x2, .int x3, .int x4, .int x5, .int x6])).length) Slot.unset).toArray = ls at hl ⊢
  have hl : lv_has ls 7 [(0, .ref (G.2.2.1 0 0)), (1, .int x1), (2, .int x2), (3, .int x3), (4, .int x4), (5, .int x5), (6, .int x6)] := hl
  have hroot := pv_root hw
  unfold f_X0_put at h
  refine lv_aload_n hx hb dX0_put_0 rfl (lv_at hl 0 rfl) ?_
  refine pgI (C := RX0) (T := TX0) (N := 10) hx hb hts hown hK hw 0 6 0 Nat.one_pos (by decide) rfl rfl inF_X0 (by decide) rfl (hts _ wm199) (fun _ h9 => h9) dX0_put_1 ?_
  refine lv_if_lt (tgt := 16) hx hb dX0_put_4 (by decide) (fun c1 => ?_) (fun c1 => ?_)
  · skip
    replace h := ite_p c1 h
    exact pev hx hb hr hlocks hA hw hK hS (psv h rfl) dX0_put_16
  · skip
    replace h := ite_n c1 h
    refine lv_aload_n hx hb dX0_put_7 rfl (lv_at hl 0 rfl) ?_
    refine pgI (C := RX0) (T := TX0) (N := 10) hx hb hts hown hK hw 0 6 0 Nat.one_pos (by decide) rfl rfl inF_X0 (by decide) rfl (hts _ wm199) (fun _ h9 => h9) dX0_put_8 ?_
    refine lv_bipush (v := 40) hx hb dX0_put_11 (by decide) ?_
    refine lv_icmp_lt (tgt := 17) hx hb dX0_put_13 (by decide) (fun c2 => ?_) (fun c2 => ?_)
    · skip
      replace h := ite_p c2 h
      refine lv_aload_n hx hb dX0_put_17 rfl (lv_at hl 0 rfl) ?_
      refine pgL (C := RX0) (T := TX0) (N := 10) hx hb hts hown hK hw 0 0 0 Nat.one_pos (by decide) rfl rfl inF_X0 (by decide) (v := .ref (G.2.2.1 20 0)) rfl (hts _ wm193) (fun _ h9 => h9) dX0_put_18 ?_
      refine lv_aload_n hx hb dX0_put_21 rfl (lv_at hl 0 rfl) ?_
      refine pgI (C := RX0) (T := TX0) (N := 10) hx hb hts hown hK hw 0 6 0 Nat.one_pos (by decide) rfl rfl inF_X0 (by decide) rfl (hts _ wm199) (fun _ h9 => h9) dX0_put_22 ?_
      refine lv_iload_n hx hb dX0_put_25 rfl (lv_at hl 1 rfl) ?_
      obtain ⟨g3, h⟩ := gd_e h
      obtain ⟨σ4, eσ4, h⟩ := nq_e h
      refine ppA hx hb hK htys hw hS 20 0 Nat.one_pos rfl (by decide) g3 dX0_put_26 (fun H locs hw hS => ?_)
      rw [← eσ4] at hw
      have hcσ4 : σ4.1 = σ.1 := by rw [eσ4]; exact rfl
      refine lv_aload_n hx hb dX0_put_27 rfl (lv_at hl 0 rfl) ?_
      refine pgL (C := RX0) (T := TX0) (N := 10) hx hb hts hown hK hw 0 1 0 Nat.one_pos (by decide) rfl rfl inF_X0 (by decide) (v := .ref (G.2.2.1 21 0)) rfl (hts _ wm194) (fun _ h9 => h9) dX0_put_28 ?_
      refine lv_aload_n hx hb dX0_put_31 rfl (lv_at hl 0 rfl) ?_
      refine pgI (C := RX0) (T := TX0) (N := 10) hx hb hts hown hK hw 0 6 0 Nat.one_pos (by decide) rfl rfl inF_X0 (by decide) rfl (hts _ wm199) (fun _ h9 => h9) dX0_put_32 ?_
      refine lv_iload_n hx hb dX0_put_35 rfl (lv_at hl 2 rfl) ?_
      obtain ⟨g5, h⟩ := gd_e h
      obtain ⟨σ6, eσ6, h⟩ := nq_e h
      refine ppA hx hb hK htys hw hS 21 0 Nat.one_pos rfl (by decide) g5 dX0_put_36 (fun H locs hw hS => ?_)
      rw [← eσ6] at hw
      have hcσ6 : σ6.1 = σ.1 := by rw [eσ6]; exact hcσ4
      refine lv_aload_n hx hb dX0_put_37 rfl (lv_at hl 0 rfl) ?_
      refine pgL (C := RX0) (T := TX0) (N := 10) hx hb hts hown hK hw 0 2 0 Nat.one_pos (by decide) rfl rfl inF_X0 (by decide) (v := .ref (G.2.2.1 22 0)) rfl (hts _ wm195) (fun _ h9 => h9) dX0_put_38 ?_
      refine lv_aload_n hx hb dX0_put_41 rfl (lv_at hl 0 rfl) ?_
      refine pgI (C := RX0) (T := TX0) (N := 10) hx hb hts hown hK hw 0 6 0 Nat.one_pos (by decide) rfl rfl inF_X0 (by decide) rfl (hts _ wm199) (fun _ h9 => h9) dX0_put_42 ?_
      refine lv_iload_n hx hb dX0_put_45 rfl (lv_at hl 3 rfl) ?_
      obtain ⟨g7, h⟩ := gd_e h
      obtain ⟨σ8, eσ8, h⟩ := nq_e h
      refine ppA hx hb hK htys hw hS 22 0 Nat.one_pos rfl (by decide) g7 dX0_put_46 (fun H locs hw hS => ?_)
      rw [← eσ8] at hw
      have hcσ8 : σ8.1 = σ.1 := by rw [eσ8]; exact hcσ6
      refine lv_aload_n hx hb dX0_put_47 rfl (lv_at hl 0 rfl) ?_
      refine pgL (C := RX0) (T := TX0) (N := 10) hx hb hts hown hK hw 0 3 0 Nat.one_pos (by decide) rfl rfl inF_X0 (by decide) (v := .ref (G.2.2.1 23 0)) rfl (hts _ wm196) (fun _ h9 => h9) dX0_put_48 ?_
      refine lv_aload_n hx hb dX0_put_51 rfl (lv_at hl 0 rfl) ?_
      refine pgI (C := RX0) (T := TX0) (N := 10) hx hb hts hown hK hw 0 6 0 Nat.one_pos (by decide) rfl rfl inF_X0 (by decide) rfl (hts _ wm199) (fun _ h9 => h9) dX0_put_52 ?_
      refine lv_iload_n hx hb dX0_put_55 rfl (lv_at hl 3 rfl) ?_
      refine lv_iload hx hb dX0_put_56 (lv_at hl 5 rfl) ?_
      refine lv_iadd hx hb dX0_put_58 ?_
      obtain ⟨g9, h⟩ := gd_e h
      obtain ⟨σ10, eσ10, h⟩ := nq_e h
      refine ppA hx hb hK htys hw hS 23 0 Nat.one_pos rfl (by decide) g9 dX0_put_59 (fun H locs hw hS => ?_)
      rw [← eσ10] at hw
      have hcσ10 : σ10.1 = σ.1 := by rw [eσ10]; exact hcσ8
      refine lv_aload_n hx hb dX0_put_60 rfl (lv_at hl 0 rfl) ?_
      refine pgL (C := RX0) (T := TX0) (N := 10) hx hb hts hown hK hw 0 4 0 Nat.one_pos (by decide) rfl rfl inF_X0 (by decide) (v := .ref (G.2.2.1 24 0)) rfl (hts _ wm197) (fun _ h9 => h9) dX0_put_61 ?_
      refine lv_aload_n hx hb dX0_put_64 rfl (lv_at hl 0 rfl) ?_
      refine pgI (C := RX0) (T := TX0) (N := 10) hx hb hts hown hK hw 0 6 0 Nat.one_pos (by decide) rfl rfl inF_X0 (by decide) rfl (hts _ wm199) (fun _ h9 => h9) dX0_put_65 ?_
      refine lv_iload hx hb dX0_put_68 (lv_at hl 4 rfl) ?_
      obtain ⟨g11, h⟩ := gd_e h
      obtain ⟨σ12, eσ12, h⟩ := nq_e h
      refine ppA hx hb hK htys hw hS 24 0 Nat.one_pos rfl (by decide) g11 dX0_put_70 (fun H locs hw hS => ?_)
      rw [← eσ12] at hw
      have hcσ12 : σ12.1 = σ.1 := by rw [eσ12]; exact hcσ10
      refine lv_aload_n hx hb dX0_put_71 rfl (lv_at hl 0 rfl) ?_
      refine pgL (C := RX0) (T := TX0) (N := 10) hx hb hts hown hK hw 0 5 0 Nat.one_pos (by decide) rfl rfl inF_X0 (by decide) (v := .ref (G.2.2.1 25 0)) rfl (hts _ wm198) (fun _ h9 => h9) dX0_put_72 ?_
      refine lv_aload_n hx hb dX0_put_75 rfl (lv_at hl 0 rfl) ?_
      refine pgI (C := RX0) (T := TX0) (N := 10) hx hb hts hown hK hw 0 6 0 Nat.one_pos (by decide) rfl rfl inF_X0 (by decide) rfl (hts _ wm199) (fun _ h9 => h9) dX0_put_76 ?_
      refine lv_iload hx hb dX0_put_79 (lv_at hl 4 rfl) ?_
      refine lv_iload hx hb dX0_put_81 (lv_at hl 6 rfl) ?_
      refine lv_iadd hx hb dX0_put_83 ?_
      obtain ⟨g13, h⟩ := gd_e h
      obtain ⟨σ14, eσ14, h⟩ := nq_e h
      refine ppA hx hb hK htys hw hS 25 0 Nat.one_pos rfl (by decide) g13 dX0_put_84 (fun H locs hw hS => ?_)
      rw [← eσ14] at hw
      have hcσ14 : σ14.1 = σ.1 := by rw [eσ14]; exact hcσ12
      refine lv_aload_n hx hb dX0_put_85 rfl (lv_at hl 0 rfl) ?_
      refine lv_dup hx hb dX0_put_86 rfl ?_
      refine pgI (C := RX0) (T := TX0) (N := 10) hx hb hts hown hK hw 0 6 0 Nat.one_pos (by decide) rfl rfl inF_X0 (by decide) rfl (hts _ wm199) (fun _ h9 => h9) dX0_put_87 ?_
      refine lv_iconst (v := 1) hx hb dX0_put_90 (by decide) ?_
      refine lv_iadd hx hb dX0_put_91 ?_
      obtain ⟨σ15, eσ15, h⟩ := nq_e h
      refine ppI (ty := .int) (C := RX0) (T := TX0) (N := 10) hx hb hts hown hK hw hS 0 6 0 Nat.one_pos (by decide) rfl rfl inF_X0 (by decide) rfl (by decide) tyX0_ok nmX0 (hts _ wm199) (fun _ h9 => h9) rfl (by decide +kernel) rfl rfl dX0_put_92 (fun H locs hw hS => ?_)
      rw [← eσ15] at hw
      have hcσ15 : σ15.1 = σ.1 := by rw [eσ15]; exact hcσ14
      exact pev hx hb hr hlocks hA hw hK hS (psv h hcσ15) dX0_put_95
    · skip
      replace h := ite_n c2 h
      exact pev hx hb hr hlocks hA hw hK hS (psv h rfl) dX0_put_16
def f_X0_belowBottoms_6  (σ : PvS) : Nat → Int32 → Int32 → Int32 → Int32 → Option Int32
  | 0, _, _, _, _ => none
  | n + 1, xb1, xb2, xb4, xb5 => if (σ.2.1 0 6 0) ≤ xb5 then (some xb4) else (if 40 ≤ xb5 then (some xb4) else (gd (vin xb5 (pvLen σ 20 0)) (if (σ.2.2.2.1 20 0 xb5.toNatClampNeg) = xb1 then (gd (vin xb5 (pvLen σ 21 0)) (if ((σ.2.2.2.1 21 0 xb5.toNatClampNeg) &&& xb2) = 0 then (f_X0_belowBottoms_6 σ n xb1 xb2 xb4 (xb5 + 1)) else (gd (vin xb5 (pvLen σ 25 0)) (f_X0_belowBottoms_6 σ n xb1 xb2 (imax xb4 (σ.2.2.2.1 25 0 xb5.toNatClampNeg)) (xb5 + 1))))) else (f_X0_belowBottoms_6 σ n xb1 xb2 xb4 (xb5 + 1)))))
theorem f_X0_belowBottoms_6_z {σ : PvS} {xb1 : Int32} {xb2 : Int32} {xb4 : Int32} {xb5 : Int32} : f_X0_belowBottoms_6 σ 0 xb1 xb2 xb4 xb5 = none := rfl
theorem f_X0_belowBottoms_6_s {n : Nat} {σ : PvS} {xb1 : Int32} {xb2 : Int32} {xb4 : Int32} {xb5 : Int32} : f_X0_belowBottoms_6 σ (n + 1) xb1 xb2 xb4 xb5 = if (σ.2.1 0 6 0) ≤ xb5 then (some xb4) else (if 40 ≤ xb5 then (some xb4) else (gd (vin xb5 (pvLen σ 20 0)) (if (σ.2.2.2.1 20 0 xb5.toNatClampNeg) = xb1 then (gd (vin xb5 (pvLen σ 21 0)) (if ((σ.2.2.2.1 21 0 xb5.toNatClampNeg) &&& xb2) = 0 then (f_X0_belowBottoms_6 σ n xb1 xb2 xb4 (xb5 + 1)) else (gd (vin xb5 (pvLen σ 25 0)) (f_X0_belowBottoms_6 σ n xb1 xb2 (imax xb4 (σ.2.2.2.1 25 0 xb5.toNatClampNeg)) (xb5 + 1))))) else (f_X0_belowBottoms_6 σ n xb1 xb2 xb4 (xb5 + 1))))) := rfl
def f_X0_belowBottoms (σ : PvS) (x1 : Int32) (x2 : Int32) (x3 : Int32) : Option Int32 :=
  f_X0_belowBottoms_6 σ fu x1 x2 x3 0
set_option maxHeartbeats 4000000 in
set_option maxRecDepth 100000 in
theorem c_X0_belowBottoms {l : Launch} {G : PvG} {tys : List (ClassId × FieldType)} {σ : PvS} (htys : tys = pvT G)  {x1 : Int32} {x2 : Int32} {x3 : Int32}  {r : Int32} (h : f_X0_belowBottoms σ x1 x2 x3 = some r) : Met l yX0_belowBottoms (Cond.code yX0_belowBottoms cX0_belowBottoms 6 (some .int) :: WA) ({ frames := 1, cells := 0, slots := 0, locals := 13 }) (va_Pc [.ref (G.2.2.1 0 0), .int x1, .int x2, .int x3] (pvU G tys σ)) (va_Qi (fun r' σ' => r' = r ∧ σ' = σ) (pvU G tys) (pvB G)) 0 0 (pvB G) := by
  refine Met.ofW (cc := cX0_belowBottoms) (maxL := 6) (ret := (some .int)) (by decide) rfl ?_
  intro p e s m args below meth c s₁ B hml hv
  obtain ⟨rfl, hw, hK, hA⟩ := hv
  have hx := B.exec
  have hb := B.bytes
  have hr := B.returns
  have hts0 := atoms_spec (ws := (Cond.code yX0_belowBottoms cX0_belowBottoms 6 (some .int) :: WA)) B.pre
  have hts : ∀ w ∈ WA, w.before _ s = true := fun w h => hts0 w (List.mem_cons_of_mem _ h)
  have hown : s.vm.findClass RX0 = some m.cls := findClass_of_methodNamed B.named
  have hlocks := B.notSynchronized
  have hS : va_S (pvB G) s.heap s.heap [] := va_S.rf
  have hl := lv_entry ([.ref (G.2.2.1 0 0), .int x1, .int x2, .int x3]) (n := 6) (Nat.le_of_ble_eq_true rfl)
  rw [lg_entry_eq]
  generalize (lg_sl ([.ref (G.2.2.1 0 0), .int x1, .int x2, .int x3]) ++ List.replicate (6 - (lg_sl ([.ref (G.2.2.1 0 0), .int x1, .int x2, .int x3])).length) Slot.unset).toArray = ls at hl ⊢
  have hl : lv_has ls 6 [(0, .ref (G.2.2.1 0 0)), (1, .int x1), (2, .int x2), (3, .int x3)] := hl
  have hroot := pv_root hw
  unfold f_X0_belowBottoms at h
  have loop6 : ∀ (n : Nat) (xb1 : Int32) (xb2 : Int32) (xb4 : Int32) (xb5 : Int32), f_X0_belowBottoms_6 σ n xb1 xb2 xb4 xb5 = some r → ∀ (H : Heap) (locs : List Loc), pvW G σ H → va_S (pvB G) s.heap H locs → ∀ (ls : Array Slot), lv_has ls 6 [(0, .ref (G.2.2.1 0 0)), (1, .int xb1), (2, .int xb2), (4, .int xb4), (5, .int xb5)] → W p l e (headSpec (Cond.code yX0_belowBottoms cX0_belowBottoms 6 (some .int) :: WA) ({ frames := 1, cells := 0, slots := 0, locals := 13 } : Room)).room s m ([.ref (G.2.2.1 0 0), .int x1, .int x2, .int x3] : List Value).toArray below meth c H locs 0 0 (MQ below (va_Qi (fun r' σ' => r' = r ∧ σ' = σ) (pvU G tys) (pvB G)) ([.ref (G.2.2.1 0 0), .int x1, .int x2, .int x3] : List Value).toArray s 0 0 (pvB G)) (F0 m 6 ls []) := by
    intro n6
    induction n6 with
    | zero =>
      intro xb1 xb2 xb4 xb5 h
      rw [f_X0_belowBottoms_6_z] at h
      cases h
    | succ n6 ih6 =>
      intro xb1 xb2 xb4 xb5 h H locs hw hS ls hl
      rw [f_X0_belowBottoms_6_s] at h
      refine lv_iload hx hb dX0_belowBottoms_6 (lv_at hl 4 rfl) ?_
      refine lv_aload_n hx hb dX0_belowBottoms_8 rfl (lv_at hl 0 rfl) ?_
      refine pgI (C := RX0) (T := TX0) (N := 10) hx hb hts hown hK hw 0 6 0 Nat.one_pos (by decide) rfl rfl inF_X0 (by decide) rfl (hts _ wm199) (fun _ h9 => h9) dX0_belowBottoms_9 ?_
      refine lv_icmp_ge (tgt := 65) hx hb dX0_belowBottoms_12 (by decide) (fun c1 => ?_) (fun c1 => ?_)
      · skip
        replace h := ite_p c1 h
        refine lv_iload hx hb dX0_belowBottoms_65 (lv_at hl 3 rfl) ?_
        exact pei hx hb hr hlocks hA hw hK hS ⟨Option.some.inj h, rfl⟩ dX0_belowBottoms_67
      · skip
        replace h := ite_n c1 h
        refine lv_iload hx hb dX0_belowBottoms_15 (lv_at hl 4 rfl) ?_
        refine lv_bipush (v := 40) hx hb dX0_belowBottoms_17 (by decide) ?_
        refine lv_icmp_ge (tgt := 65) hx hb dX0_belowBottoms_19 (by decide) (fun c2 => ?_) (fun c2 => ?_)
        · skip
          replace h := ite_p c2 h
          refine lv_iload hx hb dX0_belowBottoms_65 (lv_at hl 3 rfl) ?_
          exact pei hx hb hr hlocks hA hw hK hS ⟨Option.some.inj h, rfl⟩ dX0_belowBottoms_67
        · skip
          replace h := ite_n c2 h
          refine lv_aload_n hx hb dX0_belowBottoms_22 rfl (lv_at hl 0 rfl) ?_
          refine pgL (C := RX0) (T := TX0) (N := 10) hx hb hts hown hK hw 0 0 0 Nat.one_pos (by decide) rfl rfl inF_X0 (by decide) (v := .ref (G.2.2.1 20 0)) rfl (hts _ wm193) (fun _ h9 => h9) dX0_belowBottoms_23 ?_
          refine lv_iload hx hb dX0_belowBottoms_26 (lv_at hl 4 rfl) ?_
          obtain ⟨g3, h⟩ := gd_e h
          refine pgA hx hb hK htys hw 20 0 Nat.one_pos rfl (by decide) g3 dX0_belowBottoms_28 ?_
          refine lv_iload_n hx hb dX0_belowBottoms_29 rfl (lv_at hl 1 rfl) ?_
          refine lv_icmp_ne (tgt := 59) hx hb dX0_belowBottoms_30 (by decide) (fun c4 => ?_) (fun c4 => ?_)
          · skip
            replace h := ite_n c4 h
            refine lv_iinc (v := xb5 + 1) (lv' := [(5, .int (xb5 + 1)), (0, .ref (G.2.2.1 0 0)), (1, .int xb1), (2, .int xb2), (4, .int xb4)]) hx hb dX0_belowBottoms_59 hl (k := 4) rfl (by rfl) (by decide) rfl (fun ls hl => ?_)
            refine lv_goto (tgt := 6) hx hb dX0_belowBottoms_62 (by decide) ?_
            exact ih6 xb1 xb2 xb4 (xb5 + 1) h _ _ hw hS ls (lv_sub hl [1, 2, 3, 4, 0] rfl)
          · skip
            replace h := ite_p c4 h
            refine lv_aload_n hx hb dX0_belowBottoms_33 rfl (lv_at hl 0 rfl) ?_
            refine pgL (C := RX0) (T := TX0) (N := 10) hx hb hts hown hK hw 0 1 0 Nat.one_pos (by decide) rfl rfl inF_X0 (by decide) (v := .ref (G.2.2.1 21 0)) rfl (hts _ wm194) (fun _ h9 => h9) dX0_belowBottoms_34 ?_
            refine lv_iload hx hb dX0_belowBottoms_37 (lv_at hl 4 rfl) ?_
            obtain ⟨g5, h⟩ := gd_e h
            refine pgA hx hb hK htys hw 21 0 Nat.one_pos rfl (by decide) g5 dX0_belowBottoms_39 ?_
            refine lv_iload_n hx hb dX0_belowBottoms_40 rfl (lv_at hl 2 rfl) ?_
            refine lv_iand hx hb dX0_belowBottoms_41 ?_
            refine lv_if_eq (tgt := 59) hx hb dX0_belowBottoms_42 (by decide) (fun c6 => ?_) (fun c6 => ?_)
            · skip
              replace h := ite_p c6 h
              refine lv_iinc (v := xb5 + 1) (lv' := [(5, .int (xb5 + 1)), (0, .ref (G.2.2.1 0 0)), (1, .int xb1), (2, .int xb2), (4, .int xb4)]) hx hb dX0_belowBottoms_59 hl (k := 4) rfl (by rfl) (by decide) rfl (fun ls hl => ?_)
              refine lv_goto (tgt := 6) hx hb dX0_belowBottoms_62 (by decide) ?_
              exact ih6 xb1 xb2 xb4 (xb5 + 1) h _ _ hw hS ls (lv_sub hl [1, 2, 3, 4, 0] rfl)
            · skip
              replace h := ite_n c6 h
              refine lv_iload hx hb dX0_belowBottoms_45 (lv_at hl 3 rfl) ?_
              refine lv_aload_n hx hb dX0_belowBottoms_47 rfl (lv_at hl 0 rfl) ?_
              refine pgL (C := RX0) (T := TX0) (N := 10) hx hb hts hown hK hw 0 5 0 Nat.one_pos (by decide) rfl rfl inF_X0 (by decide) (v := .ref (G.2.2.1 25 0)) rfl (hts _ wm198) (fun _ h9 => h9) dX0_belowBottoms_48 ?_
              refine lv_iload hx hb dX0_belowBottoms_51 (lv_at hl 4 rfl) ?_
              obtain ⟨g7, h⟩ := gd_e h
              refine pgA hx hb hK htys hw 25 0 Nat.one_pos rfl (by decide) g7 dX0_belowBottoms_53 ?_
              refine pmmax hx hb (hml.trans hl.1.symm) hown (hts _ wm590) (hts _ wm111) (hts _ wm112) (hts _ wm113) (Nat.le_of_ble_eq_true rfl) (Nat.le_of_ble_eq_true rfl) (Nat.zero_le _) (Nat.zero_le _) dX0_belowBottoms_54 ?_
              refine lv_istore (lv' := [(4, .int (imax xb4 (σ.2.2.2.1 25 0 xb5.toNatClampNeg))), (0, .ref (G.2.2.1 0 0)), (1, .int xb1), (2, .int xb2), (5, .int xb5)]) hx hb dX0_belowBottoms_57 hl (by decide) rfl (fun ls hl => ?_)
              refine lv_iinc (v := xb5 + 1) (lv' := [(5, .int (xb5 + 1)), (4, .int (imax xb4 (σ.2.2.2.1 25 0 xb5.toNatClampNeg))), (0, .ref (G.2.2.1 0 0)), (1, .int xb1), (2, .int xb2)]) hx hb dX0_belowBottoms_59 hl (k := 4) rfl (by rfl) (by decide) rfl (fun ls hl => ?_)
              refine lv_goto (tgt := 6) hx hb dX0_belowBottoms_62 (by decide) ?_
              exact ih6 xb1 xb2 (imax xb4 (σ.2.2.2.1 25 0 xb5.toNatClampNeg)) (xb5 + 1) h _ _ hw hS ls (lv_sub hl [2, 3, 4, 1, 0] rfl)
  refine lv_iload_n hx hb dX0_belowBottoms_0 rfl (lv_at hl 3 rfl) ?_
  refine lv_istore (lv' := [(4, .int x3), (0, .ref (G.2.2.1 0 0)), (1, .int x1), (2, .int x2), (3, .int x3)]) hx hb dX0_belowBottoms_1 hl (by decide) rfl (fun ls hl => ?_)
  refine lv_iconst (v := 0) hx hb dX0_belowBottoms_3 (by decide) ?_
  refine lv_istore (lv' := [(5, .int 0), (4, .int x3), (0, .ref (G.2.2.1 0 0)), (1, .int x1), (2, .int x2), (3, .int x3)]) hx hb dX0_belowBottoms_4 hl (by decide) rfl (fun ls hl => ?_)
  exact loop6 fu x1 x2 x3 0 h _ _ hw hS ls (lv_sub hl [2, 3, 4, 1, 0] rfl)
def f_X0_belowTops_5  (σ : PvS) : Nat → Int32 → Int32 → Int32 → Option Int32
  | 0, _, _, _ => none
  | n + 1, xb1, xb3, xb4 => if (σ.2.1 0 6 0) ≤ xb4 then (some xb3) else (if 40 ≤ xb4 then (some xb3) else (gd (vin xb4 (pvLen σ 20 0)) (if (σ.2.2.2.1 20 0 xb4.toNatClampNeg) = xb1 then (gd (vin xb4 (pvLen σ 24 0)) (f_X0_belowTops_5 σ n xb1 (imax xb3 (σ.2.2.2.1 24 0 xb4.toNatClampNeg)) (xb4 + 1))) else (f_X0_belowTops_5 σ n xb1 xb3 (xb4 + 1)))))
theorem f_X0_belowTops_5_z {σ : PvS} {xb1 : Int32} {xb3 : Int32} {xb4 : Int32} : f_X0_belowTops_5 σ 0 xb1 xb3 xb4 = none := rfl
theorem f_X0_belowTops_5_s {n : Nat} {σ : PvS} {xb1 : Int32} {xb3 : Int32} {xb4 : Int32} : f_X0_belowTops_5 σ (n + 1) xb1 xb3 xb4 = if (σ.2.1 0 6 0) ≤ xb4 then (some xb3) else (if 40 ≤ xb4 then (some xb3) else (gd (vin xb4 (pvLen σ 20 0)) (if (σ.2.2.2.1 20 0 xb4.toNatClampNeg) = xb1 then (gd (vin xb4 (pvLen σ 24 0)) (f_X0_belowTops_5 σ n xb1 (imax xb3 (σ.2.2.2.1 24 0 xb4.toNatClampNeg)) (xb4 + 1))) else (f_X0_belowTops_5 σ n xb1 xb3 (xb4 + 1))))) := rfl
def f_X0_belowTops (σ : PvS) (x1 : Int32) (x2 : Int32) : Option Int32 :=
  f_X0_belowTops_5 σ fu x1 x2 0
set_option maxHeartbeats 4000000 in
set_option maxRecDepth 100000 in
theorem c_X0_belowTops {l : Launch} {G : PvG} {tys : List (ClassId × FieldType)} {σ : PvS} (htys : tys = pvT G)  {x1 : Int32} {x2 : Int32}  {r : Int32} (h : f_X0_belowTops σ x1 x2 = some r) : Met l yX0_belowTops (Cond.code yX0_belowTops cX0_belowTops 5 (some .int) :: WA) ({ frames := 1, cells := 0, slots := 0, locals := 13 }) (va_Pc [.ref (G.2.2.1 0 0), .int x1, .int x2] (pvU G tys σ)) (va_Qi (fun r' σ' => r' = r ∧ σ' = σ) (pvU G tys) (pvB G)) 0 0 (pvB G) := by
  refine Met.ofW (cc := cX0_belowTops) (maxL := 5) (ret := (some .int)) (by decide) rfl ?_
  intro p e s m args below meth c s₁ B hml hv
  obtain ⟨rfl, hw, hK, hA⟩ := hv
  have hx := B.exec
  have hb := B.bytes
  have hr := B.returns
  have hts0 := atoms_spec (ws := (Cond.code yX0_belowTops cX0_belowTops 5 (some .int) :: WA)) B.pre
  have hts : ∀ w ∈ WA, w.before _ s = true := fun w h => hts0 w (List.mem_cons_of_mem _ h)
  have hown : s.vm.findClass RX0 = some m.cls := findClass_of_methodNamed B.named
  have hlocks := B.notSynchronized
  have hS : va_S (pvB G) s.heap s.heap [] := va_S.rf
  have hl := lv_entry ([.ref (G.2.2.1 0 0), .int x1, .int x2]) (n := 5) (Nat.le_of_ble_eq_true rfl)
  rw [lg_entry_eq]
  generalize (lg_sl ([.ref (G.2.2.1 0 0), .int x1, .int x2]) ++ List.replicate (5 - (lg_sl ([.ref (G.2.2.1 0 0), .int x1, .int x2])).length) Slot.unset).toArray = ls at hl ⊢
  have hl : lv_has ls 5 [(0, .ref (G.2.2.1 0 0)), (1, .int x1), (2, .int x2)] := hl
  have hroot := pv_root hw
  unfold f_X0_belowTops at h
  have loop5 : ∀ (n : Nat) (xb1 : Int32) (xb3 : Int32) (xb4 : Int32), f_X0_belowTops_5 σ n xb1 xb3 xb4 = some r → ∀ (H : Heap) (locs : List Loc), pvW G σ H → va_S (pvB G) s.heap H locs → ∀ (ls : Array Slot), lv_has ls 5 [(0, .ref (G.2.2.1 0 0)), (1, .int xb1), (3, .int xb3), (4, .int xb4)] → W p l e (headSpec (Cond.code yX0_belowTops cX0_belowTops 5 (some .int) :: WA) ({ frames := 1, cells := 0, slots := 0, locals := 13 } : Room)).room s m ([.ref (G.2.2.1 0 0), .int x1, .int x2] : List Value).toArray below meth c H locs 0 0 (MQ below (va_Qi (fun r' σ' => r' = r ∧ σ' = σ) (pvU G tys) (pvB G)) ([.ref (G.2.2.1 0 0), .int x1, .int x2] : List Value).toArray s 0 0 (pvB G)) (F0 m 5 ls []) := by
    intro n5
    induction n5 with
    | zero =>
      intro xb1 xb3 xb4 h
      rw [f_X0_belowTops_5_z] at h
      cases h
    | succ n5 ih5 =>
      intro xb1 xb3 xb4 h H locs hw hS ls hl
      rw [f_X0_belowTops_5_s] at h
      refine lv_iload hx hb dX0_belowTops_5 (lv_at hl 3 rfl) ?_
      refine lv_aload_n hx hb dX0_belowTops_7 rfl (lv_at hl 0 rfl) ?_
      refine pgI (C := RX0) (T := TX0) (N := 10) hx hb hts hown hK hw 0 6 0 Nat.one_pos (by decide) rfl rfl inF_X0 (by decide) rfl (hts _ wm199) (fun _ h9 => h9) dX0_belowTops_8 ?_
      refine lv_icmp_ge (tgt := 50) hx hb dX0_belowTops_11 (by decide) (fun c1 => ?_) (fun c1 => ?_)
      · skip
        replace h := ite_p c1 h
        refine lv_iload_n hx hb dX0_belowTops_50 rfl (lv_at hl 2 rfl) ?_
        exact pei hx hb hr hlocks hA hw hK hS ⟨Option.some.inj h, rfl⟩ dX0_belowTops_51
      · skip
        replace h := ite_n c1 h
        refine lv_iload hx hb dX0_belowTops_14 (lv_at hl 3 rfl) ?_
        refine lv_bipush (v := 40) hx hb dX0_belowTops_16 (by decide) ?_
        refine lv_icmp_ge (tgt := 50) hx hb dX0_belowTops_18 (by decide) (fun c2 => ?_) (fun c2 => ?_)
        · skip
          replace h := ite_p c2 h
          refine lv_iload_n hx hb dX0_belowTops_50 rfl (lv_at hl 2 rfl) ?_
          exact pei hx hb hr hlocks hA hw hK hS ⟨Option.some.inj h, rfl⟩ dX0_belowTops_51
        · skip
          replace h := ite_n c2 h
          refine lv_aload_n hx hb dX0_belowTops_21 rfl (lv_at hl 0 rfl) ?_
          refine pgL (C := RX0) (T := TX0) (N := 10) hx hb hts hown hK hw 0 0 0 Nat.one_pos (by decide) rfl rfl inF_X0 (by decide) (v := .ref (G.2.2.1 20 0)) rfl (hts _ wm193) (fun _ h9 => h9) dX0_belowTops_22 ?_
          refine lv_iload hx hb dX0_belowTops_25 (lv_at hl 3 rfl) ?_
          obtain ⟨g3, h⟩ := gd_e h
          refine pgA hx hb hK htys hw 20 0 Nat.one_pos rfl (by decide) g3 dX0_belowTops_27 ?_
          refine lv_iload_n hx hb dX0_belowTops_28 rfl (lv_at hl 1 rfl) ?_
          refine lv_icmp_ne (tgt := 44) hx hb dX0_belowTops_29 (by decide) (fun c4 => ?_) (fun c4 => ?_)
          · skip
            replace h := ite_n c4 h
            refine lv_iinc (v := xb4 + 1) (lv' := [(4, .int (xb4 + 1)), (0, .ref (G.2.2.1 0 0)), (1, .int xb1), (3, .int xb3)]) hx hb dX0_belowTops_44 hl (k := 3) rfl (by rfl) (by decide) rfl (fun ls hl => ?_)
            refine lv_goto (tgt := 5) hx hb dX0_belowTops_47 (by decide) ?_
            exact ih5 xb1 xb3 (xb4 + 1) h _ _ hw hS ls (lv_sub hl [1, 2, 3, 0] rfl)
          · skip
            replace h := ite_p c4 h
            refine lv_iload_n hx hb dX0_belowTops_32 rfl (lv_at hl 2 rfl) ?_
            refine lv_aload_n hx hb dX0_belowTops_33 rfl (lv_at hl 0 rfl) ?_
            refine pgL (C := RX0) (T := TX0) (N := 10) hx hb hts hown hK hw 0 4 0 Nat.one_pos (by decide) rfl rfl inF_X0 (by decide) (v := .ref (G.2.2.1 24 0)) rfl (hts _ wm197) (fun _ h9 => h9) dX0_belowTops_34 ?_
            refine lv_iload hx hb dX0_belowTops_37 (lv_at hl 3 rfl) ?_
            obtain ⟨g5, h⟩ := gd_e h
            refine pgA hx hb hK htys hw 24 0 Nat.one_pos rfl (by decide) g5 dX0_belowTops_39 ?_
            refine pmmax hx hb (hml.trans hl.1.symm) hown (hts _ wm590) (hts _ wm111) (hts _ wm112) (hts _ wm113) (Nat.le_of_ble_eq_true rfl) (Nat.le_of_ble_eq_true rfl) (Nat.zero_le _) (Nat.zero_le _) dX0_belowTops_40 ?_
            refine lv_istore_n (lv' := [(3, .int (imax xb3 (σ.2.2.2.1 24 0 xb4.toNatClampNeg))), (0, .ref (G.2.2.1 0 0)), (1, .int xb1), (4, .int xb4)]) hx hb dX0_belowTops_43 rfl hl (by decide) rfl (fun ls hl => ?_)
            refine lv_iinc (v := xb4 + 1) (lv' := [(4, .int (xb4 + 1)), (3, .int (imax xb3 (σ.2.2.2.1 24 0 xb4.toNatClampNeg))), (0, .ref (G.2.2.1 0 0)), (1, .int xb1)]) hx hb dX0_belowTops_44 hl (k := 3) rfl (by rfl) (by decide) rfl (fun ls hl => ?_)
            refine lv_goto (tgt := 5) hx hb dX0_belowTops_47 (by decide) ?_
            exact ih5 xb1 (imax xb3 (σ.2.2.2.1 24 0 xb4.toNatClampNeg)) (xb4 + 1) h _ _ hw hS ls (lv_sub hl [2, 3, 1, 0] rfl)
  refine lv_iload_n hx hb dX0_belowTops_0 rfl (lv_at hl 2 rfl) ?_
  refine lv_istore_n (lv' := [(3, .int x2), (0, .ref (G.2.2.1 0 0)), (1, .int x1), (2, .int x2)]) hx hb dX0_belowTops_1 rfl hl (by decide) rfl (fun ls hl => ?_)
  refine lv_iconst (v := 0) hx hb dX0_belowTops_2 (by decide) ?_
  refine lv_istore (lv' := [(4, .int 0), (3, .int x2), (0, .ref (G.2.2.1 0 0)), (1, .int x1), (2, .int x2)]) hx hb dX0_belowTops_3 hl (by decide) rfl (fun ls hl => ?_)
  exact loop5 fu x1 x2 0 h _ _ hw hS ls (lv_sub hl [2, 3, 1, 0] rfl)
def f_X0_look_118 (k37 : PvS → Nat → Int32 → Int32 → Option PvS) (τ : PvS) (ub1 : Nat) (xb2 : Int32) (xb3 : Int32) (xbs0 : Int32) : Option PvS :=
  nm (pvI τ 0 9 0 xbs0) (fun σ1 => gd (vin xb3 (pvLen σ1 21 0)) (if (σ1.2.2.2.1 21 0 xb3.toNatClampNeg) = 1 then (gd (vin xb3 (pvLen σ1 23 0)) (nm (pvI σ1 0 7 0 (imax (σ1.2.1 0 7 0) (σ1.2.2.2.1 23 0 xb3.toNatClampNeg))) (fun σ7 => k37 σ7 ub1 xb2 (xb3 + 1)))) else (gd (vin xb3 (pvLen σ1 22 0)) (nm (pvI σ1 0 8 0 (imin (σ1.2.1 0 8 0) (σ1.2.2.2.1 22 0 xb3.toNatClampNeg))) (fun σ5 => k37 σ5 ub1 xb2 (xb3 + 1))))))
def f_X0_look_37  : Nat → PvS → Nat → Int32 → Int32 → Option PvS
  | 0, _, _, _, _ => none
  | n + 1, τ, ub1, xb2, xb3 => if (τ.2.1 0 6 0) ≤ xb3 then (some τ) else (if 40 ≤ xb3 then (some τ) else (gd (vin xb3 (pvLen τ 20 0)) (if (τ.2.2.2.1 20 0 xb3.toNatClampNeg) = (τ.2.1 1 0 ub1) then (gd (vin xb3 (pvLen τ 24 0)) (if xb2 < (τ.2.2.2.1 24 0 xb3.toNatClampNeg) then (f_X0_look_37 n τ ub1 xb2 (xb3 + 1)) else (gd (vin xb3 (pvLen τ 25 0)) (if (τ.2.2.2.1 25 0 xb3.toNatClampNeg) ≤ xb2 then (f_X0_look_37 n τ ub1 xb2 (xb3 + 1)) else (if (τ.2.1 0 9 0) = xb2 then (gd (vin xb3 (pvLen τ 25 0)) (f_X0_look_118 (f_X0_look_37 n) τ ub1 xb2 xb3 (τ.2.2.2.1 25 0 xb3.toNatClampNeg))) else (gd (vin xb3 (pvLen τ 25 0)) (f_X0_look_118 (f_X0_look_37 n) τ ub1 xb2 xb3 (imin (τ.2.1 0 9 0) (τ.2.2.2.1 25 0 xb3.toNatClampNeg))))))))) else (f_X0_look_37 n τ ub1 xb2 (xb3 + 1)))))
theorem f_X0_look_37_z {τ : PvS} {ub1 : Nat} {xb2 : Int32} {xb3 : Int32} : f_X0_look_37 0 τ ub1 xb2 xb3 = none := rfl
theorem f_X0_look_37_s {n : Nat} {τ : PvS} {ub1 : Nat} {xb2 : Int32} {xb3 : Int32} : f_X0_look_37 (n + 1) τ ub1 xb2 xb3 = if (τ.2.1 0 6 0) ≤ xb3 then (some τ) else (if 40 ≤ xb3 then (some τ) else (gd (vin xb3 (pvLen τ 20 0)) (if (τ.2.2.2.1 20 0 xb3.toNatClampNeg) = (τ.2.1 1 0 ub1) then (gd (vin xb3 (pvLen τ 24 0)) (if xb2 < (τ.2.2.2.1 24 0 xb3.toNatClampNeg) then (f_X0_look_37 n τ ub1 xb2 (xb3 + 1)) else (gd (vin xb3 (pvLen τ 25 0)) (if (τ.2.2.2.1 25 0 xb3.toNatClampNeg) ≤ xb2 then (f_X0_look_37 n τ ub1 xb2 (xb3 + 1)) else (if (τ.2.1 0 9 0) = xb2 then (gd (vin xb3 (pvLen τ 25 0)) (f_X0_look_118 (f_X0_look_37 n) τ ub1 xb2 xb3 (τ.2.2.2.1 25 0 xb3.toNatClampNeg))) else (gd (vin xb3 (pvLen τ 25 0)) (f_X0_look_118 (f_X0_look_37 n) τ ub1 xb2 xb3 (imin (τ.2.1 0 9 0) (τ.2.2.2.1 25 0 xb3.toNatClampNeg))))))))) else (f_X0_look_37 n τ ub1 xb2 (xb3 + 1))))) := rfl
def f_X0_look (σ : PvS) (u1 : Nat) (x2 : Int32) : Option PvS :=
  nm (pvI σ 0 7 0 (σ.2.1 2 5 u1)) (fun σ19 => nm (pvI σ19 0 8 0 ((σ19.2.1 2 5 u1) + (σ19.2.1 2 7 u1))) (fun σ20 => nm (pvI σ20 0 9 0 x2) (fun σ21 => f_X0_look_37 fu σ21 u1 x2 0)))
set_option maxHeartbeats 4000000 in
set_option maxRecDepth 100000 in
theorem c_X0_look {l : Launch} {G : PvG} {tys : List (ClassId × FieldType)} {σ : PvS} (htys : tys = pvT G)  {u1 : Nat} {x2 : Int32} (hu1 : u1 < pvM σ 3) {σ1 : PvS} (h : f_X0_look σ u1 x2 = some σ1) : Met l yX0_look (Cond.code yX0_look cX0_look 4 none :: WA) ({ frames := 1, cells := 0, slots := 0, locals := 14 }) (va_Pc [.ref (G.2.2.1 0 0), .ref (G.2.2.1 3 u1), .int x2] (pvU G tys σ)) (va_Qv (fun σ' => σ' = σ1 ∧ σ'.1 = σ.1) (pvU G tys) (pvB G)) 0 0 (pvB G) := by
  refine Met.ofW (cc := cX0_look) (maxL := 4) (ret := none) (by decide) rfl ?_
  intro p e s m args below meth c s₁ B hml hv
  obtain ⟨rfl, hw, hK, hA⟩ := hv
  have hx := B.exec
  have hb := B.bytes
  have hr := B.returns
  have hts0 := atoms_spec (ws := (Cond.code yX0_look cX0_look 4 none :: WA)) B.pre
  have hts : ∀ w ∈ WA, w.before _ s = true := fun w h => hts0 w (List.mem_cons_of_mem _ h)
  have hown : s.vm.findClass RX0 = some m.cls := findClass_of_methodNamed B.named
  have hlocks := B.notSynchronized
  have hS : va_S (pvB G) s.heap s.heap [] := va_S.rf
  have hl := lv_entry ([.ref (G.2.2.1 0 0), .ref (G.2.2.1 3 u1), .int x2]) (n := 4) (Nat.le_of_ble_eq_true rfl)
  rw [lg_entry_eq]
  generalize (lg_sl ([.ref (G.2.2.1 0 0), .ref (G.2.2.1 3 u1), .int x2]) ++ List.replicate (4 - (lg_sl ([.ref (G.2.2.1 0 0), .ref (G.2.2.1 3 u1), .int x2])).length) Slot.unset).toArray = ls at hl ⊢
  have hl : lv_has ls 4 [(0, .ref (G.2.2.1 0 0)), (1, .ref (G.2.2.1 3 u1)), (2, .int x2)] := hl
  have hroot := pv_root hw
  unfold f_X0_look at h
  have loop37 : ∀ (n : Nat) (τ : PvS) (ub1 : Nat) (xb2 : Int32) (xb3 : Int32), (τ.1 = σ.1) → (ub1 < pvM σ 3) → f_X0_look_37 n τ ub1 xb2 xb3 = some σ1 → ∀ (H : Heap) (locs : List Loc), pvW G τ H → va_S (pvB G) s.heap H locs → ∀ (ls : Array Slot), lv_has ls 4 [(0, .ref (G.2.2.1 0 0)), (1, .ref (G.2.2.1 3 ub1)), (2, .int xb2), (3, .int xb3)] → W p l e (headSpec (Cond.code yX0_look cX0_look 4 none :: WA) ({ frames := 1, cells := 0, slots := 0, locals := 14 } : Room)).room s m ([.ref (G.2.2.1 0 0), .ref (G.2.2.1 3 u1), .int x2] : List Value).toArray below meth c H locs 0 0 (MQ below (va_Qv (fun σ' => σ' = σ1 ∧ σ'.1 = σ.1) (pvU G tys) (pvB G)) ([.ref (G.2.2.1 0 0), .ref (G.2.2.1 3 u1), .int x2] : List Value).toArray s 0 0 (pvB G)) (F0 m 37 ls []) := by
    intro n37
    induction n37 with
    | zero =>
      intro τ ub1 xb2 xb3 hcτ hub1 h
      rw [f_X0_look_37_z] at h
      cases h
    | succ n37 ih37 =>
      have blk118 : ∀ (τ : PvS) (ub1 : Nat) (xb2 : Int32) (xb3 : Int32) (xbs0 : Int32), (τ.1 = σ.1) → (ub1 < pvM σ 3) → f_X0_look_118 (f_X0_look_37 n37) τ ub1 xb2 xb3 xbs0 = some σ1 → ∀ (H : Heap) (locs : List Loc), pvW G τ H → va_S (pvB G) s.heap H locs → ∀ (ls : Array Slot), lv_has ls 4 [(0, .ref (G.2.2.1 0 0)), (1, .ref (G.2.2.1 3 ub1)), (2, .int xb2), (3, .int xb3)] → W p l e (headSpec (Cond.code yX0_look cX0_look 4 none :: WA) ({ frames := 1, cells := 0, slots := 0, locals := 14 } : Room)).room s m ([.ref (G.2.2.1 0 0), .ref (G.2.2.1 3 u1), .int x2] : List Value).toArray below meth c H locs 0 0 (MQ below (va_Qv (fun σ' => σ' = σ1 ∧ σ'.1 = σ.1) (pvU G tys) (pvB G)) ([.ref (G.2.2.1 0 0), .ref (G.2.2.1 3 u1), .int x2] : List Value).toArray s 0 0 (pvB G)) (F0 m 118 ls [.int xbs0, .ref (G.2.2.1 0 0)]) := by
        intro τ ub1 xb2 xb3 xbs0 hcτ hub1 h H locs hw hS ls hl
        unfold f_X0_look_118 at h
        obtain ⟨σ1, eσ1, h⟩ := nq_e h
        refine ppI (ty := .int) (C := RX0) (T := TX0) (N := 10) hx hb hts hown hK hw hS 0 9 0 Nat.one_pos (by decide) rfl rfl inF_X0 (by decide) rfl (by decide) tyX0_ok nmX0 (hts _ wm202) (fun _ h9 => h9) rfl (by decide +kernel) rfl rfl dX0_look_118 (fun H locs hw hS => ?_)
        rw [← eσ1] at hw
        have hcσ1 : σ1.1 = σ.1 := by rw [eσ1]; exact hcτ
        refine lv_aload_n hx hb dX0_look_121 rfl (lv_at hl 0 rfl) ?_
        refine pgL (C := RX0) (T := TX0) (N := 10) hx hb hts hown hK hw 0 1 0 Nat.one_pos (by decide) rfl rfl inF_X0 (by decide) (v := .ref (G.2.2.1 21 0)) rfl (hts _ wm194) (fun _ h9 => h9) dX0_look_122 ?_
        refine lv_iload_n hx hb dX0_look_125 rfl (lv_at hl 3 rfl) ?_
        obtain ⟨g2, h⟩ := gd_e h
        refine pgA hx hb hK htys hw 21 0 Nat.one_pos rfl (by decide) g2 dX0_look_126 ?_
        refine lv_iconst (v := 1) hx hb dX0_look_127 (by decide) ?_
        refine lv_icmp_ne (tgt := 151) hx hb dX0_look_128 (by decide) (fun c3 => ?_) (fun c3 => ?_)
        · skip
          replace h := ite_n c3 h
          refine lv_aload_n hx hb dX0_look_151 rfl (lv_at hl 0 rfl) ?_
          refine lv_aload_n hx hb dX0_look_152 rfl (lv_at hl 0 rfl) ?_
          refine pgI (C := RX0) (T := TX0) (N := 10) hx hb hts hown hK hw 0 8 0 Nat.one_pos (by decide) rfl rfl inF_X0 (by decide) rfl (hts _ wm201) (fun _ h9 => h9) dX0_look_153 ?_
          refine lv_aload_n hx hb dX0_look_156 rfl (lv_at hl 0 rfl) ?_
          refine pgL (C := RX0) (T := TX0) (N := 10) hx hb hts hown hK hw 0 2 0 Nat.one_pos (by decide) rfl rfl inF_X0 (by decide) (v := .ref (G.2.2.1 22 0)) rfl (hts _ wm195) (fun _ h9 => h9) dX0_look_157 ?_
          refine lv_iload_n hx hb dX0_look_160 rfl (lv_at hl 3 rfl) ?_
          obtain ⟨g4, h⟩ := gd_e h
          refine pgA hx hb hK htys hw 22 0 Nat.one_pos rfl (by decide) g4 dX0_look_161 ?_
          refine pmmin hx hb (hml.trans hl.1.symm) hown (hts _ wm589) (hts _ wm160) (hts _ wm112) (hts _ wm161) (Nat.le_of_ble_eq_true rfl) (Nat.le_of_ble_eq_true rfl) (Nat.zero_le _) (Nat.zero_le _) dX0_look_162 ?_
          obtain ⟨σ5, eσ5, h⟩ := nq_e h
          refine ppI (ty := .int) (C := RX0) (T := TX0) (N := 10) hx hb hts hown hK hw hS 0 8 0 Nat.one_pos (by decide) rfl rfl inF_X0 (by decide) rfl (by decide) tyX0_ok nmX0 (hts _ wm201) (fun _ h9 => h9) rfl (by decide +kernel) rfl rfl dX0_look_165 (fun H locs hw hS => ?_)
          rw [← eσ5] at hw
          have hcσ5 : σ5.1 = σ.1 := by rw [eσ5]; exact hcσ1
          refine lv_iinc (v := xb3 + 1) (lv' := [(3, .int (xb3 + 1)), (0, .ref (G.2.2.1 0 0)), (1, .ref (G.2.2.1 3 ub1)), (2, .int xb2)]) hx hb dX0_look_168 hl (k := 3) rfl (by rfl) (by decide) rfl (fun ls hl => ?_)
          refine lv_goto (tgt := 37) hx hb dX0_look_171 (by decide) ?_
          exact ih37 σ5 ub1 xb2 (xb3 + 1) hcσ5 hub1 h _ _ hw hS ls (lv_sub hl [1, 2, 3, 0] rfl)
        · skip
          replace h := ite_p c3 h
          refine lv_aload_n hx hb dX0_look_131 rfl (lv_at hl 0 rfl) ?_
          refine lv_aload_n hx hb dX0_look_132 rfl (lv_at hl 0 rfl) ?_
          refine pgI (C := RX0) (T := TX0) (N := 10) hx hb hts hown hK hw 0 7 0 Nat.one_pos (by decide) rfl rfl inF_X0 (by decide) rfl (hts _ wm200) (fun _ h9 => h9) dX0_look_133 ?_
          refine lv_aload_n hx hb dX0_look_136 rfl (lv_at hl 0 rfl) ?_
          refine pgL (C := RX0) (T := TX0) (N := 10) hx hb hts hown hK hw 0 3 0 Nat.one_pos (by decide) rfl rfl inF_X0 (by decide) (v := .ref (G.2.2.1 23 0)) rfl (hts _ wm196) (fun _ h9 => h9) dX0_look_137 ?_
          refine lv_iload_n hx hb dX0_look_140 rfl (lv_at hl 3 rfl) ?_
          obtain ⟨g6, h⟩ := gd_e h
          refine pgA hx hb hK htys hw 23 0 Nat.one_pos rfl (by decide) g6 dX0_look_141 ?_
          refine pmmax hx hb (hml.trans hl.1.symm) hown (hts _ wm590) (hts _ wm111) (hts _ wm112) (hts _ wm113) (Nat.le_of_ble_eq_true rfl) (Nat.le_of_ble_eq_true rfl) (Nat.zero_le _) (Nat.zero_le _) dX0_look_142 ?_
          obtain ⟨σ7, eσ7, h⟩ := nq_e h
          refine ppI (ty := .int) (C := RX0) (T := TX0) (N := 10) hx hb hts hown hK hw hS 0 7 0 Nat.one_pos (by decide) rfl rfl inF_X0 (by decide) rfl (by decide) tyX0_ok nmX0 (hts _ wm200) (fun _ h9 => h9) rfl (by decide +kernel) rfl rfl dX0_look_145 (fun H locs hw hS => ?_)
          rw [← eσ7] at hw
          have hcσ7 : σ7.1 = σ.1 := by rw [eσ7]; exact hcσ1
          refine lv_goto (tgt := 168) hx hb dX0_look_148 (by decide) ?_
          refine lv_iinc (v := xb3 + 1) (lv' := [(3, .int (xb3 + 1)), (0, .ref (G.2.2.1 0 0)), (1, .ref (G.2.2.1 3 ub1)), (2, .int xb2)]) hx hb dX0_look_168 hl (k := 3) rfl (by rfl) (by decide) rfl (fun ls hl => ?_)
          refine lv_goto (tgt := 37) hx hb dX0_look_171 (by decide) ?_
          exact ih37 σ7 ub1 xb2 (xb3 + 1) hcσ7 hub1 h _ _ hw hS ls (lv_sub hl [1, 2, 3, 0] rfl)
      intro τ ub1 xb2 xb3 hcτ hub1 h H locs hw hS ls hl
      rw [f_X0_look_37_s] at h
      refine lv_iload_n hx hb dX0_look_37 rfl (lv_at hl 3 rfl) ?_
      refine lv_aload_n hx hb dX0_look_38 rfl (lv_at hl 0 rfl) ?_
      refine pgI (C := RX0) (T := TX0) (N := 10) hx hb hts hown hK hw 0 6 0 Nat.one_pos (by decide) rfl rfl inF_X0 (by decide) rfl (hts _ wm199) (fun _ h9 => h9) dX0_look_39 ?_
      refine lv_icmp_ge (tgt := 174) hx hb dX0_look_42 (by decide) (fun c8 => ?_) (fun c8 => ?_)
      · skip
        replace h := ite_p c8 h
        exact pev hx hb hr hlocks hA hw hK hS (psv h hcτ) dX0_look_174
      · skip
        replace h := ite_n c8 h
        refine lv_iload_n hx hb dX0_look_45 rfl (lv_at hl 3 rfl) ?_
        refine lv_bipush (v := 40) hx hb dX0_look_46 (by decide) ?_
        refine lv_icmp_ge (tgt := 174) hx hb dX0_look_48 (by decide) (fun c9 => ?_) (fun c9 => ?_)
        · skip
          replace h := ite_p c9 h
          exact pev hx hb hr hlocks hA hw hK hS (psv h hcτ) dX0_look_174
        · skip
          replace h := ite_n c9 h
          refine lv_aload_n hx hb dX0_look_51 rfl (lv_at hl 0 rfl) ?_
          refine pgL (C := RX0) (T := TX0) (N := 10) hx hb hts hown hK hw 0 0 0 Nat.one_pos (by decide) rfl rfl inF_X0 (by decide) (v := .ref (G.2.2.1 20 0)) rfl (hts _ wm193) (fun _ h9 => h9) dX0_look_52 ?_
          refine lv_iload_n hx hb dX0_look_55 rfl (lv_at hl 3 rfl) ?_
          obtain ⟨g10, h⟩ := gd_e h
          refine pgA hx hb hK htys hw 20 0 Nat.one_pos rfl (by decide) g10 dX0_look_56 ?_
          refine lv_aload_n hx hb dX0_look_57 rfl (lv_at hl 1 rfl) ?_
          refine pgL (C := RX3) (T := TX3) (N := 14) hx hb hts hown hK hw 3 7 ub1 (lt_c hcτ 3 hub1) (by decide) rfl rfl inF_X3 (by decide) (v := .ref (G.2.2.1 1 ub1)) rfl (hts _ wm587) (fun _ h9 => h9) dX0_look_58 ?_
          refine pgI (C := RX1) (T := TX1) (N := 5) hx hb hts hown hK hw 1 0 ub1 (lt_c hcτ 1 hub1) (by decide) rfl rfl inF_X1 (by decide) rfl (hts _ wm588) (fun _ h9 => h9) dX0_look_61 ?_
          refine lv_icmp_ne (tgt := 168) hx hb dX0_look_64 (by decide) (fun c11 => ?_) (fun c11 => ?_)
          · skip
            replace h := ite_n c11 h
            refine lv_iinc (v := xb3 + 1) (lv' := [(3, .int (xb3 + 1)), (0, .ref (G.2.2.1 0 0)), (1, .ref (G.2.2.1 3 ub1)), (2, .int xb2)]) hx hb dX0_look_168 hl (k := 3) rfl (by rfl) (by decide) rfl (fun ls hl => ?_)
            refine lv_goto (tgt := 37) hx hb dX0_look_171 (by decide) ?_
            exact ih37 τ ub1 xb2 (xb3 + 1) hcτ hub1 h _ _ hw hS ls (lv_sub hl [1, 2, 3, 0] rfl)
          · skip
            replace h := ite_p c11 h
            refine lv_iload_n hx hb dX0_look_67 rfl (lv_at hl 2 rfl) ?_
            refine lv_aload_n hx hb dX0_look_68 rfl (lv_at hl 0 rfl) ?_
            refine pgL (C := RX0) (T := TX0) (N := 10) hx hb hts hown hK hw 0 4 0 Nat.one_pos (by decide) rfl rfl inF_X0 (by decide) (v := .ref (G.2.2.1 24 0)) rfl (hts _ wm197) (fun _ h9 => h9) dX0_look_69 ?_
            refine lv_iload_n hx hb dX0_look_72 rfl (lv_at hl 3 rfl) ?_
            obtain ⟨g12, h⟩ := gd_e h
            refine pgA hx hb hK htys hw 24 0 Nat.one_pos rfl (by decide) g12 dX0_look_73 ?_
            refine lv_icmp_lt (tgt := 168) hx hb dX0_look_74 (by decide) (fun c13 => ?_) (fun c13 => ?_)
            · skip
              replace h := ite_p c13 h
              refine lv_iinc (v := xb3 + 1) (lv' := [(3, .int (xb3 + 1)), (0, .ref (G.2.2.1 0 0)), (1, .ref (G.2.2.1 3 ub1)), (2, .int xb2)]) hx hb dX0_look_168 hl (k := 3) rfl (by rfl) (by decide) rfl (fun ls hl => ?_)
              refine lv_goto (tgt := 37) hx hb dX0_look_171 (by decide) ?_
              exact ih37 τ ub1 xb2 (xb3 + 1) hcτ hub1 h _ _ hw hS ls (lv_sub hl [1, 2, 3, 0] rfl)
            · skip
              replace h := ite_n c13 h
              refine lv_iload_n hx hb dX0_look_77 rfl (lv_at hl 2 rfl) ?_
              refine lv_aload_n hx hb dX0_look_78 rfl (lv_at hl 0 rfl) ?_
              refine pgL (C := RX0) (T := TX0) (N := 10) hx hb hts hown hK hw 0 5 0 Nat.one_pos (by decide) rfl rfl inF_X0 (by decide) (v := .ref (G.2.2.1 25 0)) rfl (hts _ wm198) (fun _ h9 => h9) dX0_look_79 ?_
              refine lv_iload_n hx hb dX0_look_82 rfl (lv_at hl 3 rfl) ?_
              obtain ⟨g14, h⟩ := gd_e h
              refine pgA hx hb hK htys hw 25 0 Nat.one_pos rfl (by decide) g14 dX0_look_83 ?_
              refine lv_icmp_ge (tgt := 168) hx hb dX0_look_84 (by decide) (fun c15 => ?_) (fun c15 => ?_)
              · skip
                replace h := ite_p c15 h
                refine lv_iinc (v := xb3 + 1) (lv' := [(3, .int (xb3 + 1)), (0, .ref (G.2.2.1 0 0)), (1, .ref (G.2.2.1 3 ub1)), (2, .int xb2)]) hx hb dX0_look_168 hl (k := 3) rfl (by rfl) (by decide) rfl (fun ls hl => ?_)
                refine lv_goto (tgt := 37) hx hb dX0_look_171 (by decide) ?_
                exact ih37 τ ub1 xb2 (xb3 + 1) hcτ hub1 h _ _ hw hS ls (lv_sub hl [1, 2, 3, 0] rfl)
              · skip
                replace h := ite_n c15 h
                refine lv_aload_n hx hb dX0_look_87 rfl (lv_at hl 0 rfl) ?_
                refine lv_aload_n hx hb dX0_look_88 rfl (lv_at hl 0 rfl) ?_
                refine pgI (C := RX0) (T := TX0) (N := 10) hx hb hts hown hK hw 0 9 0 Nat.one_pos (by decide) rfl rfl inF_X0 (by decide) rfl (hts _ wm202) (fun _ h9 => h9) dX0_look_89 ?_
                refine lv_iload_n hx hb dX0_look_92 rfl (lv_at hl 2 rfl) ?_
                refine lv_icmp_ne (tgt := 105) hx hb dX0_look_93 (by decide) (fun c16 => ?_) (fun c16 => ?_)
                · skip
                  replace h := ite_n c16 h
                  refine lv_aload_n hx hb dX0_look_105 rfl (lv_at hl 0 rfl) ?_
                  refine pgI (C := RX0) (T := TX0) (N := 10) hx hb hts hown hK hw 0 9 0 Nat.one_pos (by decide) rfl rfl inF_X0 (by decide) rfl (hts _ wm202) (fun _ h9 => h9) dX0_look_106 ?_
                  refine lv_aload_n hx hb dX0_look_109 rfl (lv_at hl 0 rfl) ?_
                  refine pgL (C := RX0) (T := TX0) (N := 10) hx hb hts hown hK hw 0 5 0 Nat.one_pos (by decide) rfl rfl inF_X0 (by decide) (v := .ref (G.2.2.1 25 0)) rfl (hts _ wm198) (fun _ h9 => h9) dX0_look_110 ?_
                  refine lv_iload_n hx hb dX0_look_113 rfl (lv_at hl 3 rfl) ?_
                  obtain ⟨g17, h⟩ := gd_e h
                  refine pgA hx hb hK htys hw 25 0 Nat.one_pos rfl (by decide) g17 dX0_look_114 ?_
                  refine pmmin hx hb (hml.trans hl.1.symm) hown (hts _ wm589) (hts _ wm160) (hts _ wm112) (hts _ wm161) (Nat.le_of_ble_eq_true rfl) (Nat.le_of_ble_eq_true rfl) (Nat.zero_le _) (Nat.zero_le _) dX0_look_115 ?_
                  exact blk118 τ ub1 xb2 xb3 (imin (τ.2.1 0 9 0) (τ.2.2.2.1 25 0 xb3.toNatClampNeg)) hcτ hub1 h _ _ hw hS ls (lv_sub hl [0, 1, 2, 3] rfl)
                · skip
                  replace h := ite_p c16 h
                  refine lv_aload_n hx hb dX0_look_96 rfl (lv_at hl 0 rfl) ?_
                  refine pgL (C := RX0) (T := TX0) (N := 10) hx hb hts hown hK hw 0 5 0 Nat.one_pos (by decide) rfl rfl inF_X0 (by decide) (v := .ref (G.2.2.1 25 0)) rfl (hts _ wm198) (fun _ h9 => h9) dX0_look_97 ?_
                  refine lv_iload_n hx hb dX0_look_100 rfl (lv_at hl 3 rfl) ?_
                  obtain ⟨g18, h⟩ := gd_e h
                  refine pgA hx hb hK htys hw 25 0 Nat.one_pos rfl (by decide) g18 dX0_look_101 ?_
                  refine lv_goto (tgt := 118) hx hb dX0_look_102 (by decide) ?_
                  exact blk118 τ ub1 xb2 xb3 (τ.2.2.2.1 25 0 xb3.toNatClampNeg) hcτ hub1 h _ _ hw hS ls (lv_sub hl [0, 1, 2, 3] rfl)
  refine lv_aload_n hx hb dX0_look_0 rfl (lv_at hl 0 rfl) ?_
  refine lv_aload_n hx hb dX0_look_1 rfl (lv_at hl 1 rfl) ?_
  refine pgL (C := RX3) (T := TX3) (N := 14) hx hb hts hown hK hw 3 6 u1 hu1 (by decide) rfl rfl inF_X3 (by decide) (v := .ref (G.2.2.1 2 u1)) rfl (hts _ wm584) (fun _ h9 => h9) dX0_look_2 ?_
  refine pgI (C := RX2) (T := TX2) (N := 16) hx hb hts hown hK hw 2 5 u1 hu1 (by decide) rfl rfl inF_X2 (by decide) rfl (hts _ wm585) (fun _ h9 => h9) dX0_look_5 ?_
  obtain ⟨σ19, eσ19, h⟩ := nq_e h
  refine ppI (ty := .int) (C := RX0) (T := TX0) (N := 10) hx hb hts hown hK hw hS 0 7 0 Nat.one_pos (by decide) rfl rfl inF_X0 (by decide) rfl (by decide) tyX0_ok nmX0 (hts _ wm200) (fun _ h9 => h9) rfl (by decide +kernel) rfl rfl dX0_look_8 (fun H locs hw hS => ?_)
  rw [← eσ19] at hw
  have hcσ19 : σ19.1 = σ.1 := by rw [eσ19]; exact rfl
  refine lv_aload_n hx hb dX0_look_11 rfl (lv_at hl 0 rfl) ?_
  refine lv_aload_n hx hb dX0_look_12 rfl (lv_at hl 1 rfl) ?_
  refine pgL (C := RX3) (T := TX3) (N := 14) hx hb hts hown hK hw 3 6 u1 (lt_c hcσ19 3 hu1) (by decide) rfl rfl inF_X3 (by decide) (v := .ref (G.2.2.1 2 u1)) rfl (hts _ wm584) (fun _ h9 => h9) dX0_look_13 ?_
  refine pgI (C := RX2) (T := TX2) (N := 16) hx hb hts hown hK hw 2 5 u1 (lt_c hcσ19 2 hu1) (by decide) rfl rfl inF_X2 (by decide) rfl (hts _ wm585) (fun _ h9 => h9) dX0_look_16 ?_
  refine lv_aload_n hx hb dX0_look_19 rfl (lv_at hl 1 rfl) ?_
  refine pgL (C := RX3) (T := TX3) (N := 14) hx hb hts hown hK hw 3 6 u1 (lt_c hcσ19 3 hu1) (by decide) rfl rfl inF_X3 (by decide) (v := .ref (G.2.2.1 2 u1)) rfl (hts _ wm584) (fun _ h9 => h9) dX0_look_20 ?_
  refine pgI (C := RX2) (T := TX2) (N := 16) hx hb hts hown hK hw 2 7 u1 (lt_c hcσ19 2 hu1) (by decide) rfl rfl inF_X2 (by decide) rfl (hts _ wm586) (fun _ h9 => h9) dX0_look_23 ?_
  refine lv_iadd hx hb dX0_look_26 ?_
  obtain ⟨σ20, eσ20, h⟩ := nq_e h
  refine ppI (ty := .int) (C := RX0) (T := TX0) (N := 10) hx hb hts hown hK hw hS 0 8 0 Nat.one_pos (by decide) rfl rfl inF_X0 (by decide) rfl (by decide) tyX0_ok nmX0 (hts _ wm201) (fun _ h9 => h9) rfl (by decide +kernel) rfl rfl dX0_look_27 (fun H locs hw hS => ?_)
  rw [← eσ20] at hw
  have hcσ20 : σ20.1 = σ.1 := by rw [eσ20]; exact hcσ19
  refine lv_aload_n hx hb dX0_look_30 rfl (lv_at hl 0 rfl) ?_
  refine lv_iload_n hx hb dX0_look_31 rfl (lv_at hl 2 rfl) ?_
  obtain ⟨σ21, eσ21, h⟩ := nq_e h
  refine ppI (ty := .int) (C := RX0) (T := TX0) (N := 10) hx hb hts hown hK hw hS 0 9 0 Nat.one_pos (by decide) rfl rfl inF_X0 (by decide) rfl (by decide) tyX0_ok nmX0 (hts _ wm202) (fun _ h9 => h9) rfl (by decide +kernel) rfl rfl dX0_look_32 (fun H locs hw hS => ?_)
  rw [← eσ21] at hw
  have hcσ21 : σ21.1 = σ.1 := by rw [eσ21]; exact hcσ20
  refine lv_iconst (v := 0) hx hb dX0_look_35 (by decide) ?_
  refine lv_istore_n (lv' := [(3, .int 0), (0, .ref (G.2.2.1 0 0)), (1, .ref (G.2.2.1 3 u1)), (2, .int x2)]) hx hb dX0_look_36 rfl hl (by decide) rfl (fun ls hl => ?_)
  exact loop37 fu σ21 u1 x2 0 hcσ21 hu1 h _ _ hw hS ls (lv_sub hl [1, 2, 3, 0] rfl)
def f_X0_findRoom_13  : Nat → PvS → Int32 → Nat → Int32 → Int32 → Option (Int32 × PvS)
  | 0, _, _, _, _, _ => none
  | n + 1, τ, xb1, ub2, xb4, xb5 => if 40 ≤ xb5 then (some (xb4, τ)) else (if xb1 ≤ ((τ.2.1 0 8 0) - (τ.2.1 0 7 0)) then (some (xb4, τ)) else (if (τ.2.1 0 9 0) ≤ xb4 then (some (xb4, τ)) else (ob1 (f_X0_look τ ub2 (τ.2.1 0 9 0)) (fun σ5 => f_X0_findRoom_13 n σ5 xb1 ub2 (τ.2.1 0 9 0) (xb5 + 1)))))
theorem f_X0_findRoom_13_z {τ : PvS} {xb1 : Int32} {ub2 : Nat} {xb4 : Int32} {xb5 : Int32} : f_X0_findRoom_13 0 τ xb1 ub2 xb4 xb5 = none := rfl
theorem f_X0_findRoom_13_s {n : Nat} {τ : PvS} {xb1 : Int32} {ub2 : Nat} {xb4 : Int32} {xb5 : Int32} : f_X0_findRoom_13 (n + 1) τ xb1 ub2 xb4 xb5 = if 40 ≤ xb5 then (some (xb4, τ)) else (if xb1 ≤ ((τ.2.1 0 8 0) - (τ.2.1 0 7 0)) then (some (xb4, τ)) else (if (τ.2.1 0 9 0) ≤ xb4 then (some (xb4, τ)) else (ob1 (f_X0_look τ ub2 (τ.2.1 0 9 0)) (fun σ5 => f_X0_findRoom_13 n σ5 xb1 ub2 (τ.2.1 0 9 0) (xb5 + 1))))) := rfl
def f_X0_findRoom (σ : PvS) (x1 : Int32) (u2 : Nat) (x3 : Int32) : Option (Int32 × PvS) :=
  ob1 (f_X0_look σ u2 x3) (fun σ11 => f_X0_findRoom_13 fu σ11 x1 u2 x3 0)
set_option maxHeartbeats 4000000 in
set_option maxRecDepth 100000 in
theorem c_X0_findRoom {l : Launch} {G : PvG} {tys : List (ClassId × FieldType)} {σ : PvS} (htys : tys = pvT G)  {x1 : Int32} {u2 : Nat} {x3 : Int32} (hu2 : u2 < pvM σ 3) {r : Int32} {σ1 : PvS} (h : f_X0_findRoom σ x1 u2 x3 = some (r, σ1)) : Met l yX0_findRoom (Cond.code yX0_findRoom cX0_findRoom 6 (some .int) :: WA) ({ frames := 2, cells := 0, slots := 0, locals := 37 }) (va_Pc [.ref (G.2.2.1 0 0), .int x1, .ref (G.2.2.1 3 u2), .int x3] (pvU G tys σ)) (va_Qi (fun r' σ' => r' = r ∧ σ' = σ1 ∧ σ'.1 = σ.1) (pvU G tys) (pvB G)) 0 0 (pvB G) := by
  refine Met.ofW (cc := cX0_findRoom) (maxL := 6) (ret := (some .int)) (by decide) rfl ?_
  intro p e s m args below meth c s₁ B hml hv
  obtain ⟨rfl, hw, hK, hA⟩ := hv
  have hx := B.exec
  have hb := B.bytes
  have hr := B.returns
  have hts0 := atoms_spec (ws := (Cond.code yX0_findRoom cX0_findRoom 6 (some .int) :: WA)) B.pre
  have hts : ∀ w ∈ WA, w.before _ s = true := fun w h => hts0 w (List.mem_cons_of_mem _ h)
  have hown : s.vm.findClass RX0 = some m.cls := findClass_of_methodNamed B.named
  have hlocks := B.notSynchronized
  have hS : va_S (pvB G) s.heap s.heap [] := va_S.rf
  have hl := lv_entry ([.ref (G.2.2.1 0 0), .int x1, .ref (G.2.2.1 3 u2), .int x3]) (n := 6) (Nat.le_of_ble_eq_true rfl)
  rw [lg_entry_eq]
  generalize (lg_sl ([.ref (G.2.2.1 0 0), .int x1, .ref (G.2.2.1 3 u2), .int x3]) ++ List.replicate (6 - (lg_sl ([.ref (G.2.2.1 0 0), .int x1, .ref (G.2.2.1 3 u2), .int x3])).length) Slot.unset).toArray = ls at hl ⊢
  have hl : lv_has ls 6 [(0, .ref (G.2.2.1 0 0)), (1, .int x1), (2, .ref (G.2.2.1 3 u2)), (3, .int x3)] := hl
  have hroot := pv_root hw
  unfold f_X0_findRoom at h
  have loop13 : ∀ (n : Nat) (τ : PvS) (xb1 : Int32) (ub2 : Nat) (xb4 : Int32) (xb5 : Int32), (τ.1 = σ.1) → (ub2 < pvM σ 3) → f_X0_findRoom_13 n τ xb1 ub2 xb4 xb5 = some (r, σ1) → ∀ (H : Heap) (locs : List Loc), pvW G τ H → va_S (pvB G) s.heap H locs → ∀ (ls : Array Slot), lv_has ls 6 [(0, .ref (G.2.2.1 0 0)), (1, .int xb1), (2, .ref (G.2.2.1 3 ub2)), (4, .int xb4), (5, .int xb5)] → W p l e (headSpec (Cond.code yX0_findRoom cX0_findRoom 6 (some .int) :: WA) ({ frames := 2, cells := 0, slots := 0, locals := 37 } : Room)).room s m ([.ref (G.2.2.1 0 0), .int x1, .ref (G.2.2.1 3 u2), .int x3] : List Value).toArray below meth c H locs 0 0 (MQ below (va_Qi (fun r' σ' => r' = r ∧ σ' = σ1 ∧ σ'.1 = σ.1) (pvU G tys) (pvB G)) ([.ref (G.2.2.1 0 0), .int x1, .ref (G.2.2.1 3 u2), .int x3] : List Value).toArray s 0 0 (pvB G)) (F0 m 13 ls []) := by
    intro n13
    induction n13 with
    | zero =>
      intro τ xb1 ub2 xb4 xb5 hcτ hub2 h
      rw [f_X0_findRoom_13_z] at h
      cases h
    | succ n13 ih13 =>
      intro τ xb1 ub2 xb4 xb5 hcτ hub2 h H locs hw hS ls hl
      rw [f_X0_findRoom_13_s] at h
      refine lv_iload hx hb dX0_findRoom_13 (lv_at hl 4 rfl) ?_
      refine lv_bipush (v := 40) hx hb dX0_findRoom_15 (by decide) ?_
      refine lv_icmp_ge (tgt := 61) hx hb dX0_findRoom_17 (by decide) (fun c1 => ?_) (fun c1 => ?_)
      · skip
        replace h := ite_p c1 h
        refine lv_iload hx hb dX0_findRoom_61 (lv_at hl 3 rfl) ?_
        exact pei hx hb hr hlocks hA hw hK hS (pst h hcτ) dX0_findRoom_63
      · skip
        replace h := ite_n c1 h
        refine lv_iload_n hx hb dX0_findRoom_20 rfl (lv_at hl 1 rfl) ?_
        refine lv_aload_n hx hb dX0_findRoom_21 rfl (lv_at hl 0 rfl) ?_
        refine pgI (C := RX0) (T := TX0) (N := 10) hx hb hts hown hK hw 0 8 0 Nat.one_pos (by decide) rfl rfl inF_X0 (by decide) rfl (hts _ wm201) (fun _ h9 => h9) dX0_findRoom_22 ?_
        refine lv_aload_n hx hb dX0_findRoom_25 rfl (lv_at hl 0 rfl) ?_
        refine pgI (C := RX0) (T := TX0) (N := 10) hx hb hts hown hK hw 0 7 0 Nat.one_pos (by decide) rfl rfl inF_X0 (by decide) rfl (hts _ wm200) (fun _ h9 => h9) dX0_findRoom_26 ?_
        refine lv_isub hx hb dX0_findRoom_29 ?_
        refine lv_icmp_le (tgt := 61) hx hb dX0_findRoom_30 (by decide) (fun c2 => ?_) (fun c2 => ?_)
        · skip
          replace h := ite_p c2 h
          refine lv_iload hx hb dX0_findRoom_61 (lv_at hl 3 rfl) ?_
          exact pei hx hb hr hlocks hA hw hK hS (pst h hcτ) dX0_findRoom_63
        · skip
          replace h := ite_n c2 h
          refine lv_aload_n hx hb dX0_findRoom_33 rfl (lv_at hl 0 rfl) ?_
          refine pgI (C := RX0) (T := TX0) (N := 10) hx hb hts hown hK hw 0 9 0 Nat.one_pos (by decide) rfl rfl inF_X0 (by decide) rfl (hts _ wm202) (fun _ h9 => h9) dX0_findRoom_34 ?_
          refine lv_iload hx hb dX0_findRoom_37 (lv_at hl 3 rfl) ?_
          refine lv_icmp_le (tgt := 61) hx hb dX0_findRoom_39 (by decide) (fun c3 => ?_) (fun c3 => ?_)
          · skip
            replace h := ite_p c3 h
            refine lv_iload hx hb dX0_findRoom_61 (lv_at hl 3 rfl) ?_
            exact pei hx hb hr hlocks hA hw hK hS (pst h hcτ) dX0_findRoom_63
          · skip
            replace h := ite_n c3 h
            refine lv_aload_n hx hb dX0_findRoom_42 rfl (lv_at hl 0 rfl) ?_
            refine pgI (C := RX0) (T := TX0) (N := 10) hx hb hts hown hK hw 0 9 0 Nat.one_pos (by decide) rfl rfl inF_X0 (by decide) rfl (hts _ wm202) (fun _ h9 => h9) dX0_findRoom_43 ?_
            refine lv_istore (lv' := [(4, .int (τ.2.1 0 9 0)), (0, .ref (G.2.2.1 0 0)), (1, .int xb1), (2, .ref (G.2.2.1 3 ub2)), (5, .int xb5)]) hx hb dX0_findRoom_46 hl (by decide) rfl (fun ls hl => ?_)
            refine lv_aload_n hx hb dX0_findRoom_48 rfl (lv_at hl 1 rfl) ?_
            refine lv_aload_n hx hb dX0_findRoom_49 rfl (lv_at hl 3 rfl) ?_
            refine lv_iload hx hb dX0_findRoom_50 (lv_at hl 0 rfl) ?_
            obtain ⟨σ5, e6, h⟩ := ob1_e h
            refine pcallv (va_runV (As := [.ref (G.2.2.1 3 ub2), .int (τ.2.1 0 9 0)]) (rest := []) ⟨hx, hb, hml, hown, hts⟩ (c_X0_look (l := l) (G := G) (tys := tys) (σ := τ) htys (lt_c hcτ 3 hub2) e6) (cwV 2 hts (gVA wm580 wm581 wm582 wm174 wm583) rfl rfl rfl (by decide +kernel) ⟨(Nat.le_of_ble_eq_true rfl), (Nat.le_of_ble_eq_true rfl)⟩) (pv_preV hA hS hw hK 0 0 Nat.one_pos (by decide) rfl [.ref (G.2.2.1 3 ub2), .int (τ.2.1 0 9 0)]) rfl rfl hl.1 rfl (lv_room (Nat.le_of_ble_eq_true rfl)) dX0_findRoom_52 ⟨Nat.zero_le _, Nat.zero_le _⟩) hS (fun s9 H locs hp7 hw hS => ?_)
            obtain ⟨esσ5, hdσ5⟩ := hp7
            obtain rfl := esσ5.symm
            have hcσ5 : σ5.1 = σ.1 := hdσ5.trans hcτ
            refine lv_iinc (v := xb5 + 1) (lv' := [(5, .int (xb5 + 1)), (4, .int (τ.2.1 0 9 0)), (0, .ref (G.2.2.1 0 0)), (1, .int xb1), (2, .ref (G.2.2.1 3 ub2))]) hx hb dX0_findRoom_55 hl (k := 4) rfl (by rfl) (by decide) rfl (fun ls hl => ?_)
            refine lv_goto (tgt := 13) hx hb dX0_findRoom_58 (by decide) ?_
            exact ih13 σ5 xb1 ub2 (τ.2.1 0 9 0) (xb5 + 1) hcσ5 hub2 h _ _ hw hS ls (lv_sub hl [2, 3, 4, 1, 0] rfl)
  refine lv_iload_n hx hb dX0_findRoom_0 rfl (lv_at hl 3 rfl) ?_
  refine lv_istore (lv' := [(4, .int x3), (0, .ref (G.2.2.1 0 0)), (1, .int x1), (2, .ref (G.2.2.1 3 u2)), (3, .int x3)]) hx hb dX0_findRoom_1 hl (by decide) rfl (fun ls hl => ?_)
  refine lv_aload_n hx hb dX0_findRoom_3 rfl (lv_at hl 1 rfl) ?_
  refine lv_aload_n hx hb dX0_findRoom_4 rfl (lv_at hl 3 rfl) ?_
  refine lv_iload hx hb dX0_findRoom_5 (lv_at hl 0 rfl) ?_
  obtain ⟨σ11, e12, h⟩ := ob1_e h
  refine pcallv (va_runV (As := [.ref (G.2.2.1 3 u2), .int x3]) (rest := []) ⟨hx, hb, hml, hown, hts⟩ (c_X0_look (l := l) (G := G) (tys := tys) (σ := σ) htys hu2 e12) (cwV 2 hts (gVA wm580 wm581 wm582 wm174 wm583) rfl rfl rfl (by decide +kernel) ⟨(Nat.le_of_ble_eq_true rfl), (Nat.le_of_ble_eq_true rfl)⟩) (pv_preV hA hS hw hK 0 0 Nat.one_pos (by decide) rfl [.ref (G.2.2.1 3 u2), .int x3]) rfl rfl hl.1 rfl (lv_room (Nat.le_of_ble_eq_true rfl)) dX0_findRoom_7 ⟨Nat.zero_le _, Nat.zero_le _⟩) hS (fun s15 H locs hp13 hw hS => ?_)
  obtain ⟨esσ11, hdσ11⟩ := hp13
  obtain rfl := esσ11.symm
  have hcσ11 : σ11.1 = σ.1 := hdσ11
  refine lv_iconst (v := 0) hx hb dX0_findRoom_10 (by decide) ?_
  refine lv_istore (lv' := [(5, .int 0), (4, .int x3), (0, .ref (G.2.2.1 0 0)), (1, .int x1), (2, .ref (G.2.2.1 3 u2)), (3, .int x3)]) hx hb dX0_findRoom_11 hl (by decide) rfl (fun ls hl => ?_)
  exact loop13 fu σ11 x1 u2 x3 0 hcσ11 hu2 h _ _ hw hS ls (lv_sub hl [2, 3, 4, 1, 0] rfl)
