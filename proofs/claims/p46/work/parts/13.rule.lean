def f_X5_takePart_109  (τ : PvS) (xb1 : Int32) (xbs0 : Int32) (xbs1 : Int32) (xbs2 : Int32) (ubs3 : Nat) : Option PvS :=
  if xb1 = (-1) then (nm (pvI τ 5 8 ubs3 (xbs2 + ((xbs1 + xbs0) + 0))) (fun σ2 => some σ2)) else (nm (pvI τ 5 8 ubs3 (xbs2 + ((xbs1 + xbs0) + 1))) (fun σ3 => some σ3))
def f_X5_takePart_98  (τ : PvS) (xb1 : Int32) (xb2 : Int32) (xbs0 : Int32) (xbs1 : Int32) (ubs2 : Nat) : Option PvS :=
  if xb2 = (-1) then (f_X5_takePart_109 τ xb1 0 xbs0 xbs1 ubs2) else (f_X5_takePart_109 τ xb1 10 xbs0 xbs1 ubs2)
def f_X5_takePart_51  (τ : PvS) (ub0 : Nat) (xb1 : Int32) (xb2 : Int32) (xb3 : Int32) (xb4 : Int32) (xbs0 : Int32) (xbs1 : Int32) (ubs2 : Nat) : Option PvS :=
  gd (vin xbs1 (pvLen τ 39 ubs2)) (nm (pvA τ 39 ubs2 (xbs1.toNatClampNeg) xbs0) (fun σ6 => gd (vin (σ6.2.1 5 7 ub0) (pvLen σ6 40 ub0)) (nm (pvA σ6 40 ub0 ((σ6.2.1 5 7 ub0).toNatClampNeg) xb3) (fun σ8 => gd (vin (σ8.2.1 5 7 ub0) 3) (gd (is01 xb4) (nm (pvA σ8 41 ub0 ((σ8.2.1 5 7 ub0).toNatClampNeg) xb4) (fun σ11 => nm (pvI σ11 5 7 ub0 ((σ11.2.1 5 7 ub0) + 1)) (fun σ12 => if xb3 = 0 then (f_X5_takePart_98 σ12 xb1 xb2 0 (σ12.2.1 5 8 ub0) ub0) else (f_X5_takePart_98 σ12 xb1 xb2 100 (σ12.2.1 5 8 ub0) ub0)))))))))
def f_X5_takePart_50  (τ : PvS) (ub0 : Nat) (xb1 : Int32) (xb2 : Int32) (xb3 : Int32) (xb4 : Int32) (xbs0 : Int32) (ubs1 : Nat) : Option PvS :=
  f_X5_takePart_51 τ ub0 xb1 xb2 xb3 xb4 0 xbs0 ubs1
def f_X5_takePart (σ : PvS) (u0 : Nat) (x1 : Int32) (x2 : Int32) (x3 : Int32) (x4 : Int32) : Option PvS :=
  if (σ.2.1 5 7 u0) < 0 then (some σ) else (if (σ.2.1 5 7 u0) < 3 then (gd (vin (σ.2.1 5 7 u0) (pvLen σ 38 u0)) (nm (pvA σ 38 u0 ((σ.2.1 5 7 u0).toNatClampNeg) x1) (fun σ17 => if x2 < 0 then (f_X5_takePart_50 σ17 u0 x1 x2 x3 x4 (σ17.2.1 5 7 u0) u0) else (if 7 < x2 then (f_X5_takePart_50 σ17 u0 x1 x2 x3 x4 (σ17.2.1 5 7 u0) u0) else (f_X5_takePart_51 σ17 u0 x1 x2 x3 x4 ((1 : Int32) <<< (x2 &&& 31)) (σ17.2.1 5 7 u0) u0))))) else (some σ))
set_option maxHeartbeats 4000000 in
set_option maxRecDepth 100000 in
theorem c_X5_takePart {l : Launch} {G : PvG} {tys : List (ClassId × FieldType)} {σ : PvS} (htys : tys = pvT G)  {u0 : Nat} {x1 : Int32} {x2 : Int32} {x3 : Int32} {x4 : Int32} (hu0 : u0 < pvM σ 5) {σ1 : PvS} (h : f_X5_takePart σ u0 x1 x2 x3 x4 = some σ1) : Met l yX5_takePart (Cond.code yX5_takePart cX5_takePart 5 none :: WA) ({ frames := 0, cells := 0, slots := 0, locals := 0 }) (va_Pc [.ref (G.2.2.1 5 u0), .int x1, .int x2, .int x3, .int x4] (pvU G tys σ)) (va_Qv (fun σ' => σ' = σ1 ∧ σ'.1 = σ.1) (pvU G tys) (pvB G)) 0 0 (pvB G) := by
  refine Met.ofW (cc := cX5_takePart) (maxL := 5) (ret := none) (by decide) rfl ?_
  intro p e s m args below meth c s₁ B hml hv
  obtain ⟨rfl, hw, hK, hA⟩ := hv
  have hx := B.exec
  have hb := B.bytes
  have hr := B.returns
  have hts0 := atoms_spec (ws := (Cond.code yX5_takePart cX5_takePart 5 none :: WA)) B.pre
  have hts : ∀ w ∈ WA, w.before _ s = true := fun w h => hts0 w (List.mem_cons_of_mem _ h)
  have hown : s.vm.findClass RX5 = some m.cls := findClass_of_methodNamed B.named
  have hlocks := B.notSynchronized
  have hS : va_S (pvB G) s.heap s.heap [] := va_S.rf
  have hl := lv_entry ([.ref (G.2.2.1 5 u0), .int x1, .int x2, .int x3, .int x4]) (n := 5) (Nat.le_of_ble_eq_true rfl)
  rw [lg_entry_eq]
  generalize (lg_sl ([.ref (G.2.2.1 5 u0), .int x1, .int x2, .int x3, .int x4]) ++ List.replicate (5 - (lg_sl ([.ref (G.2.2.1 5 u0), .int x1, .int x2, .int x3, .int x4])).length) Slot.unset).toArray = ls at hl ⊢
  have hl : lv_has ls 5 [(0, .ref (G.2.2.1 5 u0)), (1, .int x1), (2, .int x2), (3, .int x3), (4, .int x4)] := hl
  have hroot := pv_root hw
  unfold f_X5_takePart at h
  have blk109 : ∀ (τ : PvS) (xb1 : Int32) (xbs0 : Int32) (xbs1 : Int32) (xbs2 : Int32) (ubs3 : Nat), (τ.1 = σ.1) → (ubs3 < pvM σ 5) → f_X5_takePart_109 τ xb1 xbs0 xbs1 xbs2 ubs3 = some σ1 → ∀ (H : Heap) (locs : List Loc), pvW G τ H → va_S (pvB G) s.heap H locs → ∀ (ls : Array Slot), lv_has ls 5 [(1, .int xb1)] → W p l e (headSpec (Cond.code yX5_takePart cX5_takePart 5 none :: WA) ({ frames := 0, cells := 0, slots := 0, locals := 0 } : Room)).room s m ([.ref (G.2.2.1 5 u0), .int x1, .int x2, .int x3, .int x4] : List Value).toArray below meth c H locs 0 0 (MQ below (va_Qv (fun σ' => σ' = σ1 ∧ σ'.1 = σ.1) (pvU G tys) (pvB G)) ([.ref (G.2.2.1 5 u0), .int x1, .int x2, .int x3, .int x4] : List Value).toArray s 0 0 (pvB G)) (F0 m 109 ls [.int xbs0, .int xbs1, .int xbs2, .ref (G.2.2.1 5 ubs3)]) := by
    intro τ xb1 xbs0 xbs1 xbs2 ubs3 hcτ hubs3 h H locs hw hS ls hl
    unfold f_X5_takePart_109 at h
    refine lv_iadd hx hb dX5_takePart_109 ?_
    refine lv_iload_n hx hb dX5_takePart_110 rfl (lv_at hl 0 rfl) ?_
    refine lv_iconst (v := (-1)) hx hb dX5_takePart_111 (by decide) ?_
    refine lv_icmp_eq (tgt := 119) hx hb dX5_takePart_112 (by decide) (fun c1 => ?_) (fun c1 => ?_)
    · skip
      replace h := ite_p c1 h
      refine lv_iconst (v := 0) hx hb dX5_takePart_119 (by decide) ?_
      refine lv_iadd hx hb dX5_takePart_120 ?_
      refine lv_iadd hx hb dX5_takePart_121 ?_
      obtain ⟨σ2, eσ2, h⟩ := nq_e h
      refine ppI (ty := .int) (C := RX5) (T := TX5) (N := 10) hx hb hts hown hK hw hS 5 8 ubs3 (lt_c hcτ 5 hubs3) (by decide) rfl rfl inF_X5 (by decide) rfl (by decide) tyX5_ok nmX5 (hts _ wm370) (fun _ h9 => h9) rfl (by decide +kernel) rfl rfl dX5_takePart_122 (fun H locs hw hS => ?_)
      rw [← eσ2] at hw
      have hcσ2 : σ2.1 = σ.1 := by rw [eσ2]; exact hcτ
      exact pev hx hb hr hlocks hA hw hK hS (psv h hcσ2) dX5_takePart_125
    · skip
      replace h := ite_n c1 h
      refine lv_iconst (v := 1) hx hb dX5_takePart_115 (by decide) ?_
      refine lv_goto (tgt := 120) hx hb dX5_takePart_116 (by decide) ?_
      refine lv_iadd hx hb dX5_takePart_120 ?_
      refine lv_iadd hx hb dX5_takePart_121 ?_
      obtain ⟨σ3, eσ3, h⟩ := nq_e h
      refine ppI (ty := .int) (C := RX5) (T := TX5) (N := 10) hx hb hts hown hK hw hS 5 8 ubs3 (lt_c hcτ 5 hubs3) (by decide) rfl rfl inF_X5 (by decide) rfl (by decide) tyX5_ok nmX5 (hts _ wm370) (fun _ h9 => h9) rfl (by decide +kernel) rfl rfl dX5_takePart_122 (fun H locs hw hS => ?_)
      rw [← eσ3] at hw
      have hcσ3 : σ3.1 = σ.1 := by rw [eσ3]; exact hcτ
      exact pev hx hb hr hlocks hA hw hK hS (psv h hcσ3) dX5_takePart_125
  have blk98 : ∀ (τ : PvS) (xb1 : Int32) (xb2 : Int32) (xbs0 : Int32) (xbs1 : Int32) (ubs2 : Nat), (τ.1 = σ.1) → (ubs2 < pvM σ 5) → f_X5_takePart_98 τ xb1 xb2 xbs0 xbs1 ubs2 = some σ1 → ∀ (H : Heap) (locs : List Loc), pvW G τ H → va_S (pvB G) s.heap H locs → ∀ (ls : Array Slot), lv_has ls 5 [(1, .int xb1), (2, .int xb2)] → W p l e (headSpec (Cond.code yX5_takePart cX5_takePart 5 none :: WA) ({ frames := 0, cells := 0, slots := 0, locals := 0 } : Room)).room s m ([.ref (G.2.2.1 5 u0), .int x1, .int x2, .int x3, .int x4] : List Value).toArray below meth c H locs 0 0 (MQ below (va_Qv (fun σ' => σ' = σ1 ∧ σ'.1 = σ.1) (pvU G tys) (pvB G)) ([.ref (G.2.2.1 5 u0), .int x1, .int x2, .int x3, .int x4] : List Value).toArray s 0 0 (pvB G)) (F0 m 98 ls [.int xbs0, .int xbs1, .ref (G.2.2.1 5 ubs2)]) := by
    intro τ xb1 xb2 xbs0 xbs1 ubs2 hcτ hubs2 h H locs hw hS ls hl
    unfold f_X5_takePart_98 at h
    refine lv_iload_n hx hb dX5_takePart_98 rfl (lv_at hl 1 rfl) ?_
    refine lv_iconst (v := (-1)) hx hb dX5_takePart_99 (by decide) ?_
    refine lv_icmp_eq (tgt := 108) hx hb dX5_takePart_100 (by decide) (fun c4 => ?_) (fun c4 => ?_)
    · skip
      replace h := ite_p c4 h
      refine lv_iconst (v := 0) hx hb dX5_takePart_108 (by decide) ?_
      exact blk109 τ xb1 0 xbs0 xbs1 ubs2 hcτ hubs2 h _ _ hw hS ls (lv_sub hl [0] rfl)
    · skip
      replace h := ite_n c4 h
      refine lv_bipush (v := 10) hx hb dX5_takePart_103 (by decide) ?_
      refine lv_goto (tgt := 109) hx hb dX5_takePart_105 (by decide) ?_
      exact blk109 τ xb1 10 xbs0 xbs1 ubs2 hcτ hubs2 h _ _ hw hS ls (lv_sub hl [0] rfl)
  have blk51 : ∀ (τ : PvS) (ub0 : Nat) (xb1 : Int32) (xb2 : Int32) (xb3 : Int32) (xb4 : Int32) (xbs0 : Int32) (xbs1 : Int32) (ubs2 : Nat), (τ.1 = σ.1) → (ub0 < pvM σ 5) → (ubs2 < pvM σ 39) → f_X5_takePart_51 τ ub0 xb1 xb2 xb3 xb4 xbs0 xbs1 ubs2 = some σ1 → ∀ (H : Heap) (locs : List Loc), pvW G τ H → va_S (pvB G) s.heap H locs → ∀ (ls : Array Slot), lv_has ls 5 [(0, .ref (G.2.2.1 5 ub0)), (1, .int xb1), (2, .int xb2), (3, .int xb3), (4, .int xb4)] → W p l e (headSpec (Cond.code yX5_takePart cX5_takePart 5 none :: WA) ({ frames := 0, cells := 0, slots := 0, locals := 0 } : Room)).room s m ([.ref (G.2.2.1 5 u0), .int x1, .int x2, .int x3, .int x4] : List Value).toArray below meth c H locs 0 0 (MQ below (va_Qv (fun σ' => σ' = σ1 ∧ σ'.1 = σ.1) (pvU G tys) (pvB G)) ([.ref (G.2.2.1 5 u0), .int x1, .int x2, .int x3, .int x4] : List Value).toArray s 0 0 (pvB G)) (F0 m 51 ls [.int xbs0, .int xbs1, .ref (G.2.2.1 39 ubs2)]) := by
    intro τ ub0 xb1 xb2 xb3 xb4 xbs0 xbs1 ubs2 hcτ hub0 hubs2 h H locs hw hS ls hl
    unfold f_X5_takePart_51 at h
    obtain ⟨g5, h⟩ := gd_e h
    obtain ⟨σ6, eσ6, h⟩ := nq_e h
    refine ppA hx hb hK htys hw hS 39 ubs2 (lt_c hcτ 39 hubs2) rfl (by decide) g5 dX5_takePart_51 (fun H locs hw hS => ?_)
    rw [← eσ6] at hw
    have hcσ6 : σ6.1 = σ.1 := by rw [eσ6]; exact hcτ
    refine lv_aload_n hx hb dX5_takePart_52 rfl (lv_at hl 0 rfl) ?_
    refine pgL (C := RX5) (T := TX5) (N := 10) hx hb hts hown hK hw 5 5 ub0 (lt_c hcσ6 5 hub0) (by decide) rfl rfl inF_X5 (by decide) (v := .ref (G.2.2.1 40 ub0)) rfl (hts _ wm366) (fun _ h9 => h9) dX5_takePart_53 ?_
    refine lv_aload_n hx hb dX5_takePart_56 rfl (lv_at hl 0 rfl) ?_
    refine pgI (C := RX5) (T := TX5) (N := 10) hx hb hts hown hK hw 5 7 ub0 (lt_c hcσ6 5 hub0) (by decide) rfl rfl inF_X5 (by decide) rfl (hts _ wm369) (fun _ h9 => h9) dX5_takePart_57 ?_
    refine lv_iload_n hx hb dX5_takePart_60 rfl (lv_at hl 3 rfl) ?_
    obtain ⟨g7, h⟩ := gd_e h
    obtain ⟨σ8, eσ8, h⟩ := nq_e h
    refine ppA hx hb hK htys hw hS 40 ub0 (lt_c hcσ6 40 hub0) rfl (by decide) g7 dX5_takePart_61 (fun H locs hw hS => ?_)
    rw [← eσ8] at hw
    have hcσ8 : σ8.1 = σ.1 := by rw [eσ8]; exact hcσ6
    refine lv_aload_n hx hb dX5_takePart_62 rfl (lv_at hl 0 rfl) ?_
    refine pgL (C := RX5) (T := TX5) (N := 10) hx hb hts hown hK hw 5 6 ub0 (lt_c hcσ8 5 hub0) (by decide) rfl rfl inF_X5 (by decide) (v := .ref (G.2.2.1 41 ub0)) rfl (hts _ wm368) (fun _ h9 => h9) dX5_takePart_63 ?_
    refine lv_aload_n hx hb dX5_takePart_66 rfl (lv_at hl 0 rfl) ?_
    refine pgI (C := RX5) (T := TX5) (N := 10) hx hb hts hown hK hw 5 7 ub0 (lt_c hcσ8 5 hub0) (by decide) rfl rfl inF_X5 (by decide) rfl (hts _ wm369) (fun _ h9 => h9) dX5_takePart_67 ?_
    refine lv_iload hx hb dX5_takePart_70 (lv_at hl 4 rfl) ?_
    obtain ⟨g9, h⟩ := gd_e h
    obtain ⟨g10, h⟩ := gd_e h
    obtain ⟨σ11, eσ11, h⟩ := nq_e h
    refine ppZ hx hb hK htys hw hS ub0 (lt_c hcσ8 41 hub0) g9 (is01_vp g10) dX5_takePart_72 (fun H locs hw hS => ?_)
    rw [← eσ11] at hw
    have hcσ11 : σ11.1 = σ.1 := by rw [eσ11]; exact hcσ8
    refine lv_aload_n hx hb dX5_takePart_73 rfl (lv_at hl 0 rfl) ?_
    refine lv_dup hx hb dX5_takePart_74 rfl ?_
    refine pgI (C := RX5) (T := TX5) (N := 10) hx hb hts hown hK hw 5 7 ub0 (lt_c hcσ11 5 hub0) (by decide) rfl rfl inF_X5 (by decide) rfl (hts _ wm369) (fun _ h9 => h9) dX5_takePart_75 ?_
    refine lv_iconst (v := 1) hx hb dX5_takePart_78 (by decide) ?_
    refine lv_iadd hx hb dX5_takePart_79 ?_
    obtain ⟨σ12, eσ12, h⟩ := nq_e h
    refine ppI (ty := .int) (C := RX5) (T := TX5) (N := 10) hx hb hts hown hK hw hS 5 7 ub0 (lt_c hcσ11 5 hub0) (by decide) rfl rfl inF_X5 (by decide) rfl (by decide) tyX5_ok nmX5 (hts _ wm369) (fun _ h9 => h9) rfl (by decide +kernel) rfl rfl dX5_takePart_80 (fun H locs hw hS => ?_)
    rw [← eσ12] at hw
    have hcσ12 : σ12.1 = σ.1 := by rw [eσ12]; exact hcσ11
    refine lv_aload_n hx hb dX5_takePart_83 rfl (lv_at hl 0 rfl) ?_
    refine lv_dup hx hb dX5_takePart_84 rfl ?_
    refine pgI (C := RX5) (T := TX5) (N := 10) hx hb hts hown hK hw 5 8 ub0 (lt_c hcσ12 5 hub0) (by decide) rfl rfl inF_X5 (by decide) rfl (hts _ wm370) (fun _ h9 => h9) dX5_takePart_85 ?_
    refine lv_iload_n hx hb dX5_takePart_88 rfl (lv_at hl 3 rfl) ?_
    refine lv_if_eq (tgt := 97) hx hb dX5_takePart_89 (by decide) (fun c13 => ?_) (fun c13 => ?_)
    · skip
      replace h := ite_p c13 h
      refine lv_iconst (v := 0) hx hb dX5_takePart_97 (by decide) ?_
      exact blk98 σ12 xb1 xb2 0 (σ12.2.1 5 8 ub0) ub0 hcσ12 hub0 h _ _ hw hS ls (lv_sub hl [1, 2] rfl)
    · skip
      replace h := ite_n c13 h
      refine lv_bipush (v := 100) hx hb dX5_takePart_92 (by decide) ?_
      refine lv_goto (tgt := 98) hx hb dX5_takePart_94 (by decide) ?_
      exact blk98 σ12 xb1 xb2 100 (σ12.2.1 5 8 ub0) ub0 hcσ12 hub0 h _ _ hw hS ls (lv_sub hl [1, 2] rfl)
  have blk50 : ∀ (τ : PvS) (ub0 : Nat) (xb1 : Int32) (xb2 : Int32) (xb3 : Int32) (xb4 : Int32) (xbs0 : Int32) (ubs1 : Nat), (τ.1 = σ.1) → (ub0 < pvM σ 5) → (ubs1 < pvM σ 39) → f_X5_takePart_50 τ ub0 xb1 xb2 xb3 xb4 xbs0 ubs1 = some σ1 → ∀ (H : Heap) (locs : List Loc), pvW G τ H → va_S (pvB G) s.heap H locs → ∀ (ls : Array Slot), lv_has ls 5 [(0, .ref (G.2.2.1 5 ub0)), (1, .int xb1), (2, .int xb2), (3, .int xb3), (4, .int xb4)] → W p l e (headSpec (Cond.code yX5_takePart cX5_takePart 5 none :: WA) ({ frames := 0, cells := 0, slots := 0, locals := 0 } : Room)).room s m ([.ref (G.2.2.1 5 u0), .int x1, .int x2, .int x3, .int x4] : List Value).toArray below meth c H locs 0 0 (MQ below (va_Qv (fun σ' => σ' = σ1 ∧ σ'.1 = σ.1) (pvU G tys) (pvB G)) ([.ref (G.2.2.1 5 u0), .int x1, .int x2, .int x3, .int x4] : List Value).toArray s 0 0 (pvB G)) (F0 m 50 ls [.int xbs0, .ref (G.2.2.1 39 ubs1)]) := by
    intro τ ub0 xb1 xb2 xb3 xb4 xbs0 ubs1 hcτ hub0 hubs1 h H locs hw hS ls hl
    unfold f_X5_takePart_50 at h
    refine lv_iconst (v := 0) hx hb dX5_takePart_50 (by decide) ?_
    exact blk51 τ ub0 xb1 xb2 xb3 xb4 0 xbs0 ubs1 hcτ hub0 hubs1 h _ _ hw hS ls (lv_sub hl [0, 1, 2, 3, 4] rfl)
  refine lv_aload_n hx hb dX5_takePart_0 rfl (lv_at hl 0 rfl) ?_
  refine pgI (C := RX5) (T := TX5) (N := 10) hx hb hts hown hK hw 5 7 u0 hu0 (by decide) rfl rfl inF_X5 (by decide) rfl (hts _ wm369) (fun _ h9 => h9) dX5_takePart_1 ?_
  refine lv_if_lt (tgt := 15) hx hb dX5_takePart_4 (by decide) (fun c14 => ?_) (fun c14 => ?_)
  · skip
    replace h := ite_p c14 h
    exact pev hx hb hr hlocks hA hw hK hS (psv h rfl) dX5_takePart_15
  · skip
    replace h := ite_n c14 h
    refine lv_aload_n hx hb dX5_takePart_7 rfl (lv_at hl 0 rfl) ?_
    refine pgI (C := RX5) (T := TX5) (N := 10) hx hb hts hown hK hw 5 7 u0 hu0 (by decide) rfl rfl inF_X5 (by decide) rfl (hts _ wm369) (fun _ h9 => h9) dX5_takePart_8 ?_
    refine lv_iconst (v := 3) hx hb dX5_takePart_11 (by decide) ?_
    refine lv_icmp_lt (tgt := 16) hx hb dX5_takePart_12 (by decide) (fun c15 => ?_) (fun c15 => ?_)
    · skip
      replace h := ite_p c15 h
      refine lv_aload_n hx hb dX5_takePart_16 rfl (lv_at hl 0 rfl) ?_
      refine pgL (C := RX5) (T := TX5) (N := 10) hx hb hts hown hK hw 5 3 u0 hu0 (by decide) rfl rfl inF_X5 (by decide) (v := .ref (G.2.2.1 38 u0)) rfl (hts _ wm364) (fun _ h9 => h9) dX5_takePart_17 ?_
      refine lv_aload_n hx hb dX5_takePart_20 rfl (lv_at hl 0 rfl) ?_
      refine pgI (C := RX5) (T := TX5) (N := 10) hx hb hts hown hK hw 5 7 u0 hu0 (by decide) rfl rfl inF_X5 (by decide) rfl (hts _ wm369) (fun _ h9 => h9) dX5_takePart_21 ?_
      refine lv_iload_n hx hb dX5_takePart_24 rfl (lv_at hl 1 rfl) ?_
      obtain ⟨g16, h⟩ := gd_e h
      obtain ⟨σ17, eσ17, h⟩ := nq_e h
      refine ppA hx hb hK htys hw hS 38 u0 hu0 rfl (by decide) g16 dX5_takePart_25 (fun H locs hw hS => ?_)
      rw [← eσ17] at hw
      have hcσ17 : σ17.1 = σ.1 := by rw [eσ17]; exact rfl
      refine lv_aload_n hx hb dX5_takePart_26 rfl (lv_at hl 0 rfl) ?_
      refine pgL (C := RX5) (T := TX5) (N := 10) hx hb hts hown hK hw 5 4 u0 (lt_c hcσ17 5 hu0) (by decide) rfl rfl inF_X5 (by decide) (v := .ref (G.2.2.1 39 u0)) rfl (hts _ wm365) (fun _ h9 => h9) dX5_takePart_27 ?_
      refine lv_aload_n hx hb dX5_takePart_30 rfl (lv_at hl 0 rfl) ?_
      refine pgI (C := RX5) (T := TX5) (N := 10) hx hb hts hown hK hw 5 7 u0 (lt_c hcσ17 5 hu0) (by decide) rfl rfl inF_X5 (by decide) rfl (hts _ wm369) (fun _ h9 => h9) dX5_takePart_31 ?_
      refine lv_iload_n hx hb dX5_takePart_34 rfl (lv_at hl 2 rfl) ?_
      refine lv_if_lt (tgt := 50) hx hb dX5_takePart_35 (by decide) (fun c18 => ?_) (fun c18 => ?_)
      · skip
        replace h := ite_p c18 h
        exact blk50 σ17 u0 x1 x2 x3 x4 (σ17.2.1 5 7 u0) u0 hcσ17 hu0 hu0 h _ _ hw hS ls (lv_sub hl [0, 1, 2, 3, 4] rfl)
      · skip
        replace h := ite_n c18 h
        refine lv_iload_n hx hb dX5_takePart_38 rfl (lv_at hl 2 rfl) ?_
        refine lv_bipush (v := 7) hx hb dX5_takePart_39 (by decide) ?_
        refine lv_icmp_gt (tgt := 50) hx hb dX5_takePart_41 (by decide) (fun c19 => ?_) (fun c19 => ?_)
        · skip
          replace h := ite_p c19 h
          exact blk50 σ17 u0 x1 x2 x3 x4 (σ17.2.1 5 7 u0) u0 hcσ17 hu0 hu0 h _ _ hw hS ls (lv_sub hl [0, 1, 2, 3, 4] rfl)
        · skip
          replace h := ite_n c19 h
          refine lv_iconst (v := 1) hx hb dX5_takePart_44 (by decide) ?_
          refine lv_iload_n hx hb dX5_takePart_45 rfl (lv_at hl 2 rfl) ?_
          refine lv_ishl hx hb dX5_takePart_46 ?_
          refine lv_goto (tgt := 51) hx hb dX5_takePart_47 (by decide) ?_
          exact blk51 σ17 u0 x1 x2 x3 x4 ((1 : Int32) <<< (x2 &&& 31)) (σ17.2.1 5 7 u0) u0 hcσ17 hu0 hu0 h _ _ hw hS ls (lv_sub hl [0, 1, 2, 3, 4] rfl)
    · skip
      replace h := ite_n c15 h
      exact pev hx hb hr hlocks hA hw hK hS (psv h rfl) dX5_takePart_15
def f_X5_fits_102  (σ : PvS) (xb3 : Int32) (xb4 : Int32) (xbs0 : Int32) : Option Int32 :=
  if xb3 = 0 then (some 0) else (if xb4 = 0 then (some 0) else (if xbs0 = 0 then (some 0) else (some 1)))
def f_X5_fits_97  (σ : PvS) (xb3 : Int32) (xb4 : Int32) : Option Int32 :=
  f_X5_fits_102 σ xb3 xb4 1
def f_X5_fits_73  (σ : PvS) (ub0 : Nat) (xb1 : Int32) (ub2 : Nat) (xb3 : Int32) (xbs0 : Int32) : Option Int32 :=
  gd (vin xb1 (pvLen σ 40 ub0)) (if (σ.2.2.2.1 40 ub0 xb1.toNatClampNeg) = 0 then (f_X5_fits_97 σ xb3 xbs0) else (gd (vin xb1 (pvLen σ 40 ub0)) (if (σ.2.2.2.1 40 ub0 xb1.toNatClampNeg) = (σ.2.1 3 10 ub2) then (f_X5_fits_97 σ xb3 xbs0) else (f_X5_fits_102 σ xb3 xbs0 0))))
def f_X5_fits_47  (σ : PvS) (ub0 : Nat) (xb1 : Int32) (ub2 : Nat) (xbs0 : Int32) : Option Int32 :=
  gd (vin xb1 (pvLen σ 39 ub0)) (gd (vin xb1 (pvLen σ 39 ub0)) (if ((σ.2.1 3 11 ub2) &&& (σ.2.2.2.1 39 ub0 xb1.toNatClampNeg)) = (σ.2.2.2.1 39 ub0 xb1.toNatClampNeg) then (f_X5_fits_73 σ ub0 xb1 ub2 xbs0 1) else (f_X5_fits_73 σ ub0 xb1 ub2 xbs0 0)))
def f_X5_fits_42  (σ : PvS) (ub0 : Nat) (xb1 : Int32) (ub2 : Nat) : Option Int32 :=
  f_X5_fits_47 σ ub0 xb1 ub2 1
def f_X5_fits (σ : PvS) (u0 : Nat) (x1 : Int32) (u2 : Nat) : Option Int32 :=
  if x1 < 0 then (some 0) else (if (σ.2.1 5 7 u0) ≤ x1 then (some 0) else (if x1 < 3 then (gd (vin x1 (pvLen σ 38 u0)) (if (σ.2.2.2.1 38 u0 x1.toNatClampNeg) = (-1) then (f_X5_fits_42 σ u0 x1 u2) else (gd (vin x1 (pvLen σ 38 u0)) (if (σ.2.2.2.1 38 u0 x1.toNatClampNeg) = (σ.2.1 3 2 u2) then (f_X5_fits_42 σ u0 x1 u2) else (f_X5_fits_47 σ u0 x1 u2 0))))) else (some 0)))
set_option maxHeartbeats 4000000 in
set_option maxRecDepth 100000 in
theorem c_X5_fits {l : Launch} {G : PvG} {tys : List (ClassId × FieldType)} {σ : PvS} (htys : tys = pvT G)  {u0 : Nat} {x1 : Int32} {u2 : Nat} (hu0 : u0 < pvM σ 5) (hu2 : u2 < pvM σ 3) {r : Int32} (h : f_X5_fits σ u0 x1 u2 = some r) : Met l yX5_fits (Cond.code yX5_fits cX5_fits 6 (some .boolean) :: WA) ({ frames := 0, cells := 0, slots := 0, locals := 0 }) (va_Pc [.ref (G.2.2.1 5 u0), .int x1, .ref (G.2.2.1 3 u2)] (pvU G tys σ)) (va_Qi (fun r' σ' => r' = r ∧ σ' = σ ∧ is01 r') (pvU G tys) (pvB G)) 0 0 (pvB G) := by
  refine Met.ofW (cc := cX5_fits) (maxL := 6) (ret := (some .boolean)) (by decide) rfl ?_
  intro p e s m args below meth c s₁ B hml hv
  obtain ⟨rfl, hw, hK, hA⟩ := hv
  have hx := B.exec
  have hb := B.bytes
  have hr := B.returns
  have hts0 := atoms_spec (ws := (Cond.code yX5_fits cX5_fits 6 (some .boolean) :: WA)) B.pre
  have hts : ∀ w ∈ WA, w.before _ s = true := fun w h => hts0 w (List.mem_cons_of_mem _ h)
  have hown : s.vm.findClass RX5 = some m.cls := findClass_of_methodNamed B.named
  have hlocks := B.notSynchronized
  have hS : va_S (pvB G) s.heap s.heap [] := va_S.rf
  have hl := lv_entry ([.ref (G.2.2.1 5 u0), .int x1, .ref (G.2.2.1 3 u2)]) (n := 6) (Nat.le_of_ble_eq_true rfl)
  rw [lg_entry_eq]
  generalize (lg_sl ([.ref (G.2.2.1 5 u0), .int x1, .ref (G.2.2.1 3 u2)]) ++ List.replicate (6 - (lg_sl ([.ref (G.2.2.1 5 u0), .int x1, .ref (G.2.2.1 3 u2)])).length) Slot.unset).toArray = ls at hl ⊢
  have hl : lv_has ls 6 [(0, .ref (G.2.2.1 5 u0)), (1, .int x1), (2, .ref (G.2.2.1 3 u2))] := hl
  have hroot := pv_root hw
  unfold f_X5_fits at h
  have blk102 : ∀ (xb3 : Int32) (xb4 : Int32) (xbs0 : Int32), f_X5_fits_102 σ xb3 xb4 xbs0 = some r → ∀ (H : Heap) (locs : List Loc), pvW G σ H → va_S (pvB G) s.heap H locs → ∀ (ls : Array Slot), lv_has ls 6 [(3, .int xb3), (4, .int xb4)] → W p l e (headSpec (Cond.code yX5_fits cX5_fits 6 (some .boolean) :: WA) ({ frames := 0, cells := 0, slots := 0, locals := 0 } : Room)).room s m ([.ref (G.2.2.1 5 u0), .int x1, .ref (G.2.2.1 3 u2)] : List Value).toArray below meth c H locs 0 0 (MQ below (va_Qi (fun r' σ' => r' = r ∧ σ' = σ ∧ is01 r') (pvU G tys) (pvB G)) ([.ref (G.2.2.1 5 u0), .int x1, .ref (G.2.2.1 3 u2)] : List Value).toArray s 0 0 (pvB G)) (F0 m 102 ls [.int xbs0]) := by
    intro xb3 xb4 xbs0 h H locs hw hS ls hl
    unfold f_X5_fits_102 at h
    refine lv_istore (lv' := [(5, .int xbs0), (3, .int xb3), (4, .int xb4)]) hx hb dX5_fits_102 hl (by decide) rfl (fun ls hl => ?_)
    refine lv_iload_n hx hb dX5_fits_104 rfl (lv_at hl 1 rfl) ?_
    refine lv_if_eq (tgt := 122) hx hb dX5_fits_105 (by decide) (fun c1 => ?_) (fun c1 => ?_)
    · skip
      replace h := ite_p c1 h
      refine lv_iconst (v := 0) hx hb dX5_fits_122 (by decide) ?_
      exact pez hx hb hr (is01_nar (Or.inl rfl)) hlocks hA hw hK hS ⟨Option.some.inj h, rfl, (Or.inl rfl)⟩ dX5_fits_123
    · skip
      replace h := ite_n c1 h
      refine lv_iload hx hb dX5_fits_108 (lv_at hl 2 rfl) ?_
      refine lv_if_eq (tgt := 122) hx hb dX5_fits_110 (by decide) (fun c2 => ?_) (fun c2 => ?_)
      · skip
        replace h := ite_p c2 h
        refine lv_iconst (v := 0) hx hb dX5_fits_122 (by decide) ?_
        exact pez hx hb hr (is01_nar (Or.inl rfl)) hlocks hA hw hK hS ⟨Option.some.inj h, rfl, (Or.inl rfl)⟩ dX5_fits_123
      · skip
        replace h := ite_n c2 h
        refine lv_iload hx hb dX5_fits_113 (lv_at hl 0 rfl) ?_
        refine lv_if_eq (tgt := 122) hx hb dX5_fits_115 (by decide) (fun c3 => ?_) (fun c3 => ?_)
        · skip
          replace h := ite_p c3 h
          refine lv_iconst (v := 0) hx hb dX5_fits_122 (by decide) ?_
          exact pez hx hb hr (is01_nar (Or.inl rfl)) hlocks hA hw hK hS ⟨Option.some.inj h, rfl, (Or.inl rfl)⟩ dX5_fits_123
        · skip
          replace h := ite_n c3 h
          refine lv_iconst (v := 1) hx hb dX5_fits_118 (by decide) ?_
          refine lv_goto (tgt := 123) hx hb dX5_fits_119 (by decide) ?_
          exact pez hx hb hr (is01_nar (Or.inr rfl)) hlocks hA hw hK hS ⟨Option.some.inj h, rfl, (Or.inr rfl)⟩ dX5_fits_123
  have blk97 : ∀ (xb3 : Int32) (xb4 : Int32), f_X5_fits_97 σ xb3 xb4 = some r → ∀ (H : Heap) (locs : List Loc), pvW G σ H → va_S (pvB G) s.heap H locs → ∀ (ls : Array Slot), lv_has ls 6 [(3, .int xb3), (4, .int xb4)] → W p l e (headSpec (Cond.code yX5_fits cX5_fits 6 (some .boolean) :: WA) ({ frames := 0, cells := 0, slots := 0, locals := 0 } : Room)).room s m ([.ref (G.2.2.1 5 u0), .int x1, .ref (G.2.2.1 3 u2)] : List Value).toArray below meth c H locs 0 0 (MQ below (va_Qi (fun r' σ' => r' = r ∧ σ' = σ ∧ is01 r') (pvU G tys) (pvB G)) ([.ref (G.2.2.1 5 u0), .int x1, .ref (G.2.2.1 3 u2)] : List Value).toArray s 0 0 (pvB G)) (F0 m 97 ls []) := by
    intro xb3 xb4 h H locs hw hS ls hl
    unfold f_X5_fits_97 at h
    refine lv_iconst (v := 1) hx hb dX5_fits_97 (by decide) ?_
    refine lv_goto (tgt := 102) hx hb dX5_fits_98 (by decide) ?_
    exact blk102 xb3 xb4 1 h _ _ hw hS ls (lv_sub hl [0, 1] rfl)
  have blk73 : ∀ (ub0 : Nat) (xb1 : Int32) (ub2 : Nat) (xb3 : Int32) (xbs0 : Int32), (ub0 < pvM σ 5) → (ub2 < pvM σ 3) → f_X5_fits_73 σ ub0 xb1 ub2 xb3 xbs0 = some r → ∀ (H : Heap) (locs : List Loc), pvW G σ H → va_S (pvB G) s.heap H locs → ∀ (ls : Array Slot), lv_has ls 6 [(0, .ref (G.2.2.1 5 ub0)), (1, .int xb1), (2, .ref (G.2.2.1 3 ub2)), (3, .int xb3)] → W p l e (headSpec (Cond.code yX5_fits cX5_fits 6 (some .boolean) :: WA) ({ frames := 0, cells := 0, slots := 0, locals := 0 } : Room)).room s m ([.ref (G.2.2.1 5 u0), .int x1, .ref (G.2.2.1 3 u2)] : List Value).toArray below meth c H locs 0 0 (MQ below (va_Qi (fun r' σ' => r' = r ∧ σ' = σ ∧ is01 r') (pvU G tys) (pvB G)) ([.ref (G.2.2.1 5 u0), .int x1, .ref (G.2.2.1 3 u2)] : List Value).toArray s 0 0 (pvB G)) (F0 m 73 ls [.int xbs0]) := by
    intro ub0 xb1 ub2 xb3 xbs0 hub0 hub2 h H locs hw hS ls hl
    unfold f_X5_fits_73 at h
    refine lv_istore (lv' := [(4, .int xbs0), (0, .ref (G.2.2.1 5 ub0)), (1, .int xb1), (2, .ref (G.2.2.1 3 ub2)), (3, .int xb3)]) hx hb dX5_fits_73 hl (by decide) rfl (fun ls hl => ?_)
    refine lv_aload_n hx hb dX5_fits_75 rfl (lv_at hl 1 rfl) ?_
    refine pgL (C := RX5) (T := TX5) (N := 10) hx hb hts hown hK hw 5 5 ub0 hub0 (by decide) rfl rfl inF_X5 (by decide) (v := .ref (G.2.2.1 40 ub0)) rfl (hts _ wm366) (fun _ h9 => h9) dX5_fits_76 ?_
    refine lv_iload_n hx hb dX5_fits_79 rfl (lv_at hl 2 rfl) ?_
    obtain ⟨g4, h⟩ := gd_e h
    refine pgA hx hb hK htys hw 40 ub0 hub0 rfl (by decide) g4 dX5_fits_80 ?_
    refine lv_if_eq (tgt := 97) hx hb dX5_fits_81 (by decide) (fun c5 => ?_) (fun c5 => ?_)
    · skip
      replace h := ite_p c5 h
      exact blk97 xb3 xbs0 h _ _ hw hS ls (lv_sub hl [4, 0] rfl)
    · skip
      replace h := ite_n c5 h
      refine lv_aload_n hx hb dX5_fits_84 rfl (lv_at hl 1 rfl) ?_
      refine pgL (C := RX5) (T := TX5) (N := 10) hx hb hts hown hK hw 5 5 ub0 hub0 (by decide) rfl rfl inF_X5 (by decide) (v := .ref (G.2.2.1 40 ub0)) rfl (hts _ wm366) (fun _ h9 => h9) dX5_fits_85 ?_
      refine lv_iload_n hx hb dX5_fits_88 rfl (lv_at hl 2 rfl) ?_
      obtain ⟨g6, h⟩ := gd_e h
      refine pgA hx hb hK htys hw 40 ub0 hub0 rfl (by decide) g6 dX5_fits_89 ?_
      refine lv_aload_n hx hb dX5_fits_90 rfl (lv_at hl 3 rfl) ?_
      refine pgI (C := RX3) (T := TX3) (N := 14) hx hb hts hown hK hw 3 10 ub2 hub2 (by decide) rfl rfl inF_X3 (by decide) rfl (hts _ wm457) (fun _ h9 => h9) dX5_fits_91 ?_
      refine lv_icmp_ne (tgt := 101) hx hb dX5_fits_94 (by decide) (fun c7 => ?_) (fun c7 => ?_)
      · skip
        replace h := ite_n c7 h
        refine lv_iconst (v := 0) hx hb dX5_fits_101 (by decide) ?_
        exact blk102 xb3 xbs0 0 h _ _ hw hS ls (lv_sub hl [4, 0] rfl)
      · skip
        replace h := ite_p c7 h
        exact blk97 xb3 xbs0 h _ _ hw hS ls (lv_sub hl [4, 0] rfl)
  have blk47 : ∀ (ub0 : Nat) (xb1 : Int32) (ub2 : Nat) (xbs0 : Int32), (ub0 < pvM σ 5) → (ub2 < pvM σ 3) → f_X5_fits_47 σ ub0 xb1 ub2 xbs0 = some r → ∀ (H : Heap) (locs : List Loc), pvW G σ H → va_S (pvB G) s.heap H locs → ∀ (ls : Array Slot), lv_has ls 6 [(0, .ref (G.2.2.1 5 ub0)), (1, .int xb1), (2, .ref (G.2.2.1 3 ub2))] → W p l e (headSpec (Cond.code yX5_fits cX5_fits 6 (some .boolean) :: WA) ({ frames := 0, cells := 0, slots := 0, locals := 0 } : Room)).room s m ([.ref (G.2.2.1 5 u0), .int x1, .ref (G.2.2.1 3 u2)] : List Value).toArray below meth c H locs 0 0 (MQ below (va_Qi (fun r' σ' => r' = r ∧ σ' = σ ∧ is01 r') (pvU G tys) (pvB G)) ([.ref (G.2.2.1 5 u0), .int x1, .ref (G.2.2.1 3 u2)] : List Value).toArray s 0 0 (pvB G)) (F0 m 47 ls [.int xbs0]) := by
    intro ub0 xb1 ub2 xbs0 hub0 hub2 h H locs hw hS ls hl
    unfold f_X5_fits_47 at h
    refine lv_istore_n (lv' := [(3, .int xbs0), (0, .ref (G.2.2.1 5 ub0)), (1, .int xb1), (2, .ref (G.2.2.1 3 ub2))]) hx hb dX5_fits_47 rfl hl (by decide) rfl (fun ls hl => ?_)
    refine lv_aload_n hx hb dX5_fits_48 rfl (lv_at hl 3 rfl) ?_
    refine pgI (C := RX3) (T := TX3) (N := 14) hx hb hts hown hK hw 3 11 ub2 hub2 (by decide) rfl rfl inF_X3 (by decide) rfl (hts _ wm456) (fun _ h9 => h9) dX5_fits_49 ?_
    refine lv_aload_n hx hb dX5_fits_52 rfl (lv_at hl 1 rfl) ?_
    refine pgL (C := RX5) (T := TX5) (N := 10) hx hb hts hown hK hw 5 4 ub0 hub0 (by decide) rfl rfl inF_X5 (by decide) (v := .ref (G.2.2.1 39 ub0)) rfl (hts _ wm365) (fun _ h9 => h9) dX5_fits_53 ?_
    refine lv_iload_n hx hb dX5_fits_56 rfl (lv_at hl 2 rfl) ?_
    obtain ⟨g8, h⟩ := gd_e h
    refine pgA hx hb hK htys hw 39 ub0 hub0 rfl (by decide) g8 dX5_fits_57 ?_
    refine lv_iand hx hb dX5_fits_58 ?_
    refine lv_aload_n hx hb dX5_fits_59 rfl (lv_at hl 1 rfl) ?_
    refine pgL (C := RX5) (T := TX5) (N := 10) hx hb hts hown hK hw 5 4 ub0 hub0 (by decide) rfl rfl inF_X5 (by decide) (v := .ref (G.2.2.1 39 ub0)) rfl (hts _ wm365) (fun _ h9 => h9) dX5_fits_60 ?_
    refine lv_iload_n hx hb dX5_fits_63 rfl (lv_at hl 2 rfl) ?_
    obtain ⟨g9, h⟩ := gd_e h
    refine pgA hx hb hK htys hw 39 ub0 hub0 rfl (by decide) g9 dX5_fits_64 ?_
    refine lv_icmp_ne (tgt := 72) hx hb dX5_fits_65 (by decide) (fun c10 => ?_) (fun c10 => ?_)
    · skip
      replace h := ite_n c10 h
      refine lv_iconst (v := 0) hx hb dX5_fits_72 (by decide) ?_
      exact blk73 ub0 xb1 ub2 xbs0 0 hub0 hub2 h _ _ hw hS ls (lv_sub hl [1, 2, 3, 0] rfl)
    · skip
      replace h := ite_p c10 h
      refine lv_iconst (v := 1) hx hb dX5_fits_68 (by decide) ?_
      refine lv_goto (tgt := 73) hx hb dX5_fits_69 (by decide) ?_
      exact blk73 ub0 xb1 ub2 xbs0 1 hub0 hub2 h _ _ hw hS ls (lv_sub hl [1, 2, 3, 0] rfl)
  have blk42 : ∀ (ub0 : Nat) (xb1 : Int32) (ub2 : Nat), (ub0 < pvM σ 5) → (ub2 < pvM σ 3) → f_X5_fits_42 σ ub0 xb1 ub2 = some r → ∀ (H : Heap) (locs : List Loc), pvW G σ H → va_S (pvB G) s.heap H locs → ∀ (ls : Array Slot), lv_has ls 6 [(0, .ref (G.2.2.1 5 ub0)), (1, .int xb1), (2, .ref (G.2.2.1 3 ub2))] → W p l e (headSpec (Cond.code yX5_fits cX5_fits 6 (some .boolean) :: WA) ({ frames := 0, cells := 0, slots := 0, locals := 0 } : Room)).room s m ([.ref (G.2.2.1 5 u0), .int x1, .ref (G.2.2.1 3 u2)] : List Value).toArray below meth c H locs 0 0 (MQ below (va_Qi (fun r' σ' => r' = r ∧ σ' = σ ∧ is01 r') (pvU G tys) (pvB G)) ([.ref (G.2.2.1 5 u0), .int x1, .ref (G.2.2.1 3 u2)] : List Value).toArray s 0 0 (pvB G)) (F0 m 42 ls []) := by
    intro ub0 xb1 ub2 hub0 hub2 h H locs hw hS ls hl
    unfold f_X5_fits_42 at h
    refine lv_iconst (v := 1) hx hb dX5_fits_42 (by decide) ?_
    refine lv_goto (tgt := 47) hx hb dX5_fits_43 (by decide) ?_
    exact blk47 ub0 xb1 ub2 1 hub0 hub2 h _ _ hw hS ls (lv_sub hl [0, 1, 2] rfl)
  refine lv_iload_n hx hb dX5_fits_0 rfl (lv_at hl 1 rfl) ?_
  refine lv_if_lt (tgt := 17) hx hb dX5_fits_1 (by decide) (fun c11 => ?_) (fun c11 => ?_)
  · skip
    replace h := ite_p c11 h
    refine lv_iconst (v := 0) hx hb dX5_fits_17 (by decide) ?_
    exact pez hx hb hr (is01_nar (Or.inl rfl)) hlocks hA hw hK hS ⟨Option.some.inj h, rfl, (Or.inl rfl)⟩ dX5_fits_18
  · skip
    replace h := ite_n c11 h
    refine lv_iload_n hx hb dX5_fits_4 rfl (lv_at hl 1 rfl) ?_
    refine lv_aload_n hx hb dX5_fits_5 rfl (lv_at hl 0 rfl) ?_
    refine pgI (C := RX5) (T := TX5) (N := 10) hx hb hts hown hK hw 5 7 u0 hu0 (by decide) rfl rfl inF_X5 (by decide) rfl (hts _ wm369) (fun _ h9 => h9) dX5_fits_6 ?_
    refine lv_icmp_ge (tgt := 17) hx hb dX5_fits_9 (by decide) (fun c12 => ?_) (fun c12 => ?_)
    · skip
      replace h := ite_p c12 h
      refine lv_iconst (v := 0) hx hb dX5_fits_17 (by decide) ?_
      exact pez hx hb hr (is01_nar (Or.inl rfl)) hlocks hA hw hK hS ⟨Option.some.inj h, rfl, (Or.inl rfl)⟩ dX5_fits_18
    · skip
      replace h := ite_n c12 h
      refine lv_iload_n hx hb dX5_fits_12 rfl (lv_at hl 1 rfl) ?_
      refine lv_iconst (v := 3) hx hb dX5_fits_13 (by decide) ?_
      refine lv_icmp_lt (tgt := 19) hx hb dX5_fits_14 (by decide) (fun c13 => ?_) (fun c13 => ?_)
      · skip
        replace h := ite_p c13 h
        refine lv_aload_n hx hb dX5_fits_19 rfl (lv_at hl 0 rfl) ?_
        refine pgL (C := RX5) (T := TX5) (N := 10) hx hb hts hown hK hw 5 3 u0 hu0 (by decide) rfl rfl inF_X5 (by decide) (v := .ref (G.2.2.1 38 u0)) rfl (hts _ wm364) (fun _ h9 => h9) dX5_fits_20 ?_
        refine lv_iload_n hx hb dX5_fits_23 rfl (lv_at hl 1 rfl) ?_
        obtain ⟨g14, h⟩ := gd_e h
        refine pgA hx hb hK htys hw 38 u0 hu0 rfl (by decide) g14 dX5_fits_24 ?_
        refine lv_iconst (v := (-1)) hx hb dX5_fits_25 (by decide) ?_
        refine lv_icmp_eq (tgt := 42) hx hb dX5_fits_26 (by decide) (fun c15 => ?_) (fun c15 => ?_)
        · skip
          replace h := ite_p c15 h
          exact blk42 u0 x1 u2 hu0 hu2 h _ _ hw hS ls (lv_sub hl [0, 1, 2] rfl)
        · skip
          replace h := ite_n c15 h
          refine lv_aload_n hx hb dX5_fits_29 rfl (lv_at hl 0 rfl) ?_
          refine pgL (C := RX5) (T := TX5) (N := 10) hx hb hts hown hK hw 5 3 u0 hu0 (by decide) rfl rfl inF_X5 (by decide) (v := .ref (G.2.2.1 38 u0)) rfl (hts _ wm364) (fun _ h9 => h9) dX5_fits_30 ?_
          refine lv_iload_n hx hb dX5_fits_33 rfl (lv_at hl 1 rfl) ?_
          obtain ⟨g16, h⟩ := gd_e h
          refine pgA hx hb hK htys hw 38 u0 hu0 rfl (by decide) g16 dX5_fits_34 ?_
          refine lv_aload_n hx hb dX5_fits_35 rfl (lv_at hl 2 rfl) ?_
          refine pgI (C := RX3) (T := TX3) (N := 14) hx hb hts hown hK hw 3 2 u2 hu2 (by decide) rfl rfl inF_X3 (by decide) rfl (hts _ wm455) (fun _ h9 => h9) dX5_fits_36 ?_
          refine lv_icmp_ne (tgt := 46) hx hb dX5_fits_39 (by decide) (fun c17 => ?_) (fun c17 => ?_)
          · skip
            replace h := ite_n c17 h
            refine lv_iconst (v := 0) hx hb dX5_fits_46 (by decide) ?_
            exact blk47 u0 x1 u2 0 hu0 hu2 h _ _ hw hS ls (lv_sub hl [0, 1, 2] rfl)
          · skip
            replace h := ite_p c17 h
            exact blk42 u0 x1 u2 hu0 hu2 h _ _ hw hS ls (lv_sub hl [0, 1, 2] rfl)
      · skip
        replace h := ite_n c13 h
        refine lv_iconst (v := 0) hx hb dX5_fits_17 (by decide) ?_
        exact pez hx hb hr (is01_nar (Or.inl rfl)) hlocks hA hw hK hS ⟨Option.some.inj h, rfl, (Or.inl rfl)⟩ dX5_fits_18
