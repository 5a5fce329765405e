def f_X4_isCutAt_6  (σ : PvS) : Nat → Int32 → Int32 → Option Nat → Option Int32
  | 0, _, _, _ => none
  | n + 1, xb2, xb3, ob4 => oc ob4 (some 0) (fun job4 => ob1 (f_X2_cutsOffAt σ job4 xb2 xb3) (fun r1 => if r1 = 0 then (nm (σ.2.2.1 3 8 job4) (fun o7 => f_X4_isCutAt_6 σ n xb2 xb3 o7)) else (some 1)))
theorem f_X4_isCutAt_6_z {σ : PvS} {xb2 : Int32} {xb3 : Int32} {ob4 : Option Nat} : f_X4_isCutAt_6 σ 0 xb2 xb3 ob4 = none := rfl
theorem f_X4_isCutAt_6_s {n : Nat} {σ : PvS} {xb2 : Int32} {xb3 : Int32} {ob4 : Option Nat} : f_X4_isCutAt_6 σ (n + 1) xb2 xb3 ob4 = oc ob4 (some 0) (fun job4 => ob1 (f_X2_cutsOffAt σ job4 xb2 xb3) (fun r1 => if r1 = 0 then (nm (σ.2.2.1 3 8 job4) (fun o7 => f_X4_isCutAt_6 σ n xb2 xb3 o7)) else (some 1))) := rfl
def f_X4_isCutAt (σ : PvS) (u1 : Nat) (x2 : Int32) (x3 : Int32) : Option Int32 :=
  nm (σ.2.2.1 3 8 u1) (fun o8 => f_X4_isCutAt_6 σ fu x2 x3 o8)
set_option maxHeartbeats 4000000 in
set_option maxRecDepth 100000 in
theorem c_X4_isCutAt {l : Launch} {G : PvG} {tys : List (ClassId × FieldType)} {σ : PvS} (htys : tys = pvT G)  {u1 : Nat} {x2 : Int32} {x3 : Int32} (hu1 : u1 < pvM σ 3) {r : Int32} (h : f_X4_isCutAt σ u1 x2 x3 = some r) : Met l yX4_isCutAt (Cond.code yX4_isCutAt cX4_isCutAt 5 (some .boolean) :: WA) ({ frames := 2, cells := 0, slots := 0, locals := 45 }) (va_Pc [.ref (G.2.2.1 4 0), .ref (G.2.2.1 3 u1), .int x2, .int x3] (pvU G tys σ)) (va_Qi (fun r' σ' => r' = r ∧ σ' = σ ∧ is01 r') (pvU G tys) (pvB G)) 0 0 (pvB G) := by
  refine Met.ofW (cc := cX4_isCutAt) (maxL := 5) (ret := (some .boolean)) (by decide) rfl ?_
  intro p e s m args below meth c s₁ B hml hv
  obtain ⟨rfl, hw, hK, hA⟩ := hv
  have hx := B.exec
  have hb := B.bytes
  have hr := B.returns
  have hts0 := atoms_spec (ws := (Cond.code yX4_isCutAt cX4_isCutAt 5 (some .boolean) :: WA)) B.pre
  have hts : ∀ w ∈ WA, w.before _ s = true := fun w h => hts0 w (List.mem_cons_of_mem _ h)
  have hown : s.vm.findClass RX4 = some m.cls := findClass_of_methodNamed B.named
  have hlocks := B.notSynchronized
  have hS : va_S (pvB G) s.heap s.heap [] := va_S.rf
  have hl := lv_entry ([.ref (G.2.2.1 4 0), .ref (G.2.2.1 3 u1), .int x2, .int x3]) (n := 5) (Nat.le_of_ble_eq_true rfl)
  rw [lg_entry_eq]
  generalize (lg_sl ([.ref (G.2.2.1 4 0), .ref (G.2.2.1 3 u1), .int x2, .int x3]) ++ List.replicate (5 - (lg_sl ([.ref (G.2.2.1 4 0), .ref (G.2.2.1 3 u1), .int x2, .int x3])).length) Slot.unset).toArray = ls at hl ⊢
  have hl : lv_has ls 5 [(0, .ref (G.2.2.1 4 0)), (1, .ref (G.2.2.1 3 u1)), (2, .int x2), (3, .int x3)] := hl
  have hroot := pv_root hw
  unfold f_X4_isCutAt at h
  have loop6 : ∀ (n : Nat) (xb2 : Int32) (xb3 : Int32) (ob4 : Option Nat), (∀ j, ob4 = some j → j < pvM σ 3) → f_X4_isCutAt_6 σ n xb2 xb3 ob4 = some r → ∀ (H : Heap) (locs : List Loc), pvW G σ H → va_S (pvB G) s.heap H locs → ∀ (ls : Array Slot), lv_has ls 5 [(2, .int xb2), (3, .int xb3), (4, va_rf (ob4.map (G.2.2.1 3)))] → W p l e (headSpec (Cond.code yX4_isCutAt cX4_isCutAt 5 (some .boolean) :: WA) ({ frames := 2, cells := 0, slots := 0, locals := 45 } : Room)).room s m ([.ref (G.2.2.1 4 0), .ref (G.2.2.1 3 u1), .int x2, .int x3] : List Value).toArray below meth c H locs 0 0 (MQ below (va_Qi (fun r' σ' => r' = r ∧ σ' = σ ∧ is01 r') (pvU G tys) (pvB G)) ([.ref (G.2.2.1 4 0), .ref (G.2.2.1 3 u1), .int x2, .int x3] : List Value).toArray s 0 0 (pvB G)) (F0 m 6 ls []) := by
    intro n6
    induction n6 with
    | zero =>
      intro xb2 xb3 ob4 hob4 h
      rw [f_X4_isCutAt_6_z] at h
      cases h
    | succ n6 ih6 =>
      intro xb2 xb3 ob4 hob4 h H locs hw hS ls hl
      rw [f_X4_isCutAt_6_s] at h
      refine qld hx hb dX4_isCutAt_6 (lv_at hl 2 rfl) ?_
      rcases ob4 with _ | job4
      · skip
        replace h := oc_n h
        have hl : lv_has ls 5 [(2, .int xb2), (3, .int xb3), (4, .null)] := hl
        refine lv_ifnullN (tgt := 36) hx hb dX4_isCutAt_8 (by decide) ?_
        refine lv_iconst (v := 0) hx hb dX4_isCutAt_36 (by decide) ?_
        exact pez hx hb hr (is01_nar (Or.inl rfl)) hlocks hA hw hK hS ⟨Option.some.inj h, rfl, (Or.inl rfl)⟩ dX4_isCutAt_37
      · skip
        replace h := oc_s h
        have hl : lv_has ls 5 [(2, .int xb2), (3, .int xb3), (4, .ref (G.2.2.1 3 job4))] := hl
        have hjob4 := hob4 job4 rfl
        refine lv_ifnull hx hb dX4_isCutAt_8 ?_
        refine lv_aload hx hb dX4_isCutAt_11 (lv_at hl 2 rfl) ?_
        refine pgL (C := RX3) (T := TX3) (N := 14) hx hb hts hown hK hw 3 6 job4 hjob4 (by decide) rfl rfl inF_X3 (by decide) (v := .ref (G.2.2.1 2 job4)) rfl (hts _ wm482) (fun _ h9 => h9) dX4_isCutAt_13 ?_
        refine lv_iload_n hx hb dX4_isCutAt_16 rfl (lv_at hl 0 rfl) ?_
        refine lv_iload_n hx hb dX4_isCutAt_17 rfl (lv_at hl 1 rfl) ?_
        obtain ⟨r1, e2, h⟩ := ob1_e h
        refine pcalli (va_runV (As := [.int xb2, .int xb3]) (rest := []) ⟨hx, hb, hml, hown, hts⟩ (c_X2_cutsOffAt (l := l) (G := G) (tys := tys) (σ := σ) htys hjob4 e2) (cwV 2 hts (gVA wm717 wm718 wm719 wm81 wm720) rfl rfl rfl (by decide +kernel) ⟨(Nat.le_of_ble_eq_true rfl), (Nat.le_of_ble_eq_true rfl)⟩) (pv_preV hA hS hw hK 2 job4 hjob4 (by decide) rfl [.int xb2, .int xb3]) rfl rfl hl.1 rfl (lv_room (Nat.le_of_ble_eq_true rfl)) dX4_isCutAt_18 ⟨Nat.zero_le _, Nat.zero_le _⟩) hS (fun r4 s5 H locs hp3 hw hS => ?_)
        obtain ⟨err1, esr1, hzr1⟩ := hp3
        obtain rfl := esr1.symm
        obtain rfl := err1.symm
        refine lv_if_eq (tgt := 26) hx hb dX4_isCutAt_21 (by decide) (fun c6 => ?_) (fun c6 => ?_)
        · skip
          replace h := ite_p c6 h
          refine lv_aload hx hb dX4_isCutAt_26 (lv_at hl 2 rfl) ?_
          obtain ⟨o7, eo7, h⟩ := nq_e h
          have ho7 := pv_cl hw eo7
          refine pgR (C := RX3) (T := TX3) (N := 14) hx hb hts hown hK hw 3 8 job4 hjob4 (by decide) rfl rfl inF_X3 (by decide) rfl o7 eo7 (hts _ wm513) (fun _ h9 => h9) dX4_isCutAt_28 ?_
          refine qst (lv' := [(4, va_rf (o7.map (G.2.2.1 3))), (2, .int xb2), (3, .int xb3)]) hx hb dX4_isCutAt_31 hl (by decide) rfl (fun ls hl => ?_)
          refine lv_goto (tgt := 6) hx hb dX4_isCutAt_33 (by decide) ?_
          exact ih6 xb2 xb3 o7 ho7 h _ _ hw hS ls (lv_sub hl [1, 2, 0] rfl)
        · skip
          replace h := ite_n c6 h
          refine lv_iconst (v := 1) hx hb dX4_isCutAt_24 (by decide) ?_
          exact pez hx hb hr (is01_nar (Or.inr rfl)) hlocks hA hw hK hS ⟨Option.some.inj h, rfl, (Or.inr rfl)⟩ dX4_isCutAt_25
  refine lv_aload_n hx hb dX4_isCutAt_0 rfl (lv_at hl 1 rfl) ?_
  obtain ⟨o8, eo8, h⟩ := nq_e h
  have ho8 := pv_cl hw eo8
  refine pgR (C := RX3) (T := TX3) (N := 14) hx hb hts hown hK hw 3 8 u1 hu1 (by decide) rfl rfl inF_X3 (by decide) rfl o8 eo8 (hts _ wm513) (fun _ h9 => h9) dX4_isCutAt_1 ?_
  refine qst (lv' := [(4, va_rf (o8.map (G.2.2.1 3))), (0, .ref (G.2.2.1 4 0)), (1, .ref (G.2.2.1 3 u1)), (2, .int x2), (3, .int x3)]) hx hb dX4_isCutAt_4 hl (by decide) rfl (fun ls hl => ?_)
  exact loop6 fu x2 x3 o8 ho8 h _ _ hw hS ls (lv_sub hl [3, 4, 0] rfl)
def f_X4_isAt_79 (k29 : Nat → Int32 → Int32 → Int32 → Int32 → Option Int32) (σ : PvS) (ub1 : Nat) (xb2 : Int32) (xb3 : Int32) (xb4 : Int32) (xb5 : Int32) (xbs0 : Int32) : Option Int32 :=
  if xbs0 = 0 then (ob1 (f_X2_wordTop σ ub1 xb5) (fun r2 => ob1 (f_X2_isWithin σ xb3 r2 (2 * xb4)) (fun r7 => if r7 = 0 then (k29 ub1 xb2 xb3 xb4 (xb5 + 1)) else (some 1)))) else (k29 ub1 xb2 xb3 xb4 (xb5 + 1))
def f_X4_isAt_29  (σ : PvS) : Nat → Nat → Int32 → Int32 → Int32 → Int32 → Option Int32
  | 0, _, _, _, _, _ => none
  | n + 1, ub1, xb2, xb3, xb4, xb5 => if (σ.2.1 3 9 ub1) ≤ xb5 then (some 0) else (if (σ.2.1 2 0 ub1) = 1 then (ob1 (f_X2_wordLeft σ ub1 xb5) (fun r15 => ob1 (f_X3_lettersOf σ ub1 xb5) (fun r20 => ob1 (f_X2_isWithin σ xb2 r15 (r20 * xb4)) (fun r25 => if r25 = 0 then (f_X4_isAt_79 (f_X4_isAt_29 σ n) σ ub1 xb2 xb3 xb4 xb5 1) else (f_X4_isAt_79 (f_X4_isAt_29 σ n) σ ub1 xb2 xb3 xb4 xb5 0))))) else (some 0))
theorem f_X4_isAt_29_z {σ : PvS} {ub1 : Nat} {xb2 : Int32} {xb3 : Int32} {xb4 : Int32} {xb5 : Int32} : f_X4_isAt_29 σ 0 ub1 xb2 xb3 xb4 xb5 = none := rfl
theorem f_X4_isAt_29_s {n : Nat} {σ : PvS} {ub1 : Nat} {xb2 : Int32} {xb3 : Int32} {xb4 : Int32} {xb5 : Int32} : f_X4_isAt_29 σ (n + 1) ub1 xb2 xb3 xb4 xb5 = if (σ.2.1 3 9 ub1) ≤ xb5 then (some 0) else (if (σ.2.1 2 0 ub1) = 1 then (ob1 (f_X2_wordLeft σ ub1 xb5) (fun r15 => ob1 (f_X3_lettersOf σ ub1 xb5) (fun r20 => ob1 (f_X2_isWithin σ xb2 r15 (r20 * xb4)) (fun r25 => if r25 = 0 then (f_X4_isAt_79 (f_X4_isAt_29 σ n) σ ub1 xb2 xb3 xb4 xb5 1) else (f_X4_isAt_79 (f_X4_isAt_29 σ n) σ ub1 xb2 xb3 xb4 xb5 0))))) else (some 0)) := rfl
def f_X4_isAt (σ : PvS) (u1 : Nat) (x2 : Int32) (x3 : Int32) : Option Int32 :=
  ob1 (f_X2_hasInBorder σ u1 x2 x3) (fun r31 => if r31 = 0 then (ob1 (f_X6_of σ 0 u1 9) (fun r37 => f_X4_isAt_29 σ fu u1 x2 x3 r37 0)) else (some 1))
set_option maxHeartbeats 4000000 in
set_option maxRecDepth 100000 in
theorem c_X4_isAt {l : Launch} {G : PvG} {tys : List (ClassId × FieldType)} {σ : PvS} (htys : tys = pvT G)  {u1 : Nat} {x2 : Int32} {x3 : Int32} (hu1 : u1 < pvM σ 3) {r : Int32} (h : f_X4_isAt σ u1 x2 x3 = some r) : Met l yX4_isAt (Cond.code yX4_isAt cX4_isAt 7 (some .boolean) :: WA) ({ frames := 3, cells := 0, slots := 0, locals := 62 }) (va_Pc [.ref (G.2.2.1 4 0), .ref (G.2.2.1 3 u1), .int x2, .int x3] (pvU G tys σ)) (va_Qi (fun r' σ' => r' = r ∧ σ' = σ ∧ is01 r') (pvU G tys) (pvB G)) 0 0 (pvB G) := by
  refine Met.ofW (cc := cX4_isAt) (maxL := 7) (ret := (some .boolean)) (by decide) rfl ?_
  intro p e s m args below meth c s₁ B hml hv
  obtain ⟨rfl, hw, hK, hA⟩ := hv
  have hx := B.exec
  have hb := B.bytes
  have hr := B.returns
  have hts0 := atoms_spec (ws := (Cond.code yX4_isAt cX4_isAt 7 (some .boolean) :: WA)) B.pre
  have hts : ∀ w ∈ WA, w.before _ s = true := fun w h => hts0 w (List.mem_cons_of_mem _ h)
  have hown : s.vm.findClass RX4 = some m.cls := findClass_of_methodNamed B.named
  have hlocks := B.notSynchronized
  have hS : va_S (pvB G) s.heap s.heap [] := va_S.rf
  have hl := lv_entry ([.ref (G.2.2.1 4 0), .ref (G.2.2.1 3 u1), .int x2, .int x3]) (n := 7) (Nat.le_of_ble_eq_true rfl)
  rw [lg_entry_eq]
  generalize (lg_sl ([.ref (G.2.2.1 4 0), .ref (G.2.2.1 3 u1), .int x2, .int x3]) ++ List.replicate (7 - (lg_sl ([.ref (G.2.2.1 4 0), .ref (G.2.2.1 3 u1), .int x2, .int x3])).length) Slot.unset).toArray = ls at hl ⊢
  have hl : lv_has ls 7 [(0, .ref (G.2.2.1 4 0)), (1, .ref (G.2.2.1 3 u1)), (2, .int x2), (3, .int x3)] := hl
  have hroot := pv_root hw
  unfold f_X4_isAt at h
  have loop29 : ∀ (n : Nat) (ub1 : Nat) (xb2 : Int32) (xb3 : Int32) (xb4 : Int32) (xb5 : Int32), (ub1 < pvM σ 3) → f_X4_isAt_29 σ n ub1 xb2 xb3 xb4 xb5 = some r → ∀ (H : Heap) (locs : List Loc), pvW G σ H → va_S (pvB G) s.heap H locs → ∀ (ls : Array Slot), lv_has ls 7 [(1, .ref (G.2.2.1 3 ub1)), (2, .int xb2), (3, .int xb3), (4, .int xb4), (5, .int xb5)] → W p l e (headSpec (Cond.code yX4_isAt cX4_isAt 7 (some .boolean) :: WA) ({ frames := 3, cells := 0, slots := 0, locals := 62 } : Room)).room s m ([.ref (G.2.2.1 4 0), .ref (G.2.2.1 3 u1), .int x2, .int x3] : List Value).toArray below meth c H locs 0 0 (MQ below (va_Qi (fun r' σ' => r' = r ∧ σ' = σ ∧ is01 r') (pvU G tys) (pvB G)) ([.ref (G.2.2.1 4 0), .ref (G.2.2.1 3 u1), .int x2, .int x3] : List Value).toArray s 0 0 (pvB G)) (F0 m 29 ls []) := by
    intro n29
    induction n29 with
    | zero =>
      intro ub1 xb2 xb3 xb4 xb5 hub1 h
      rw [f_X4_isAt_29_z] at h
      cases h
    | succ n29 ih29 =>
      have blk79 : ∀ (ub1 : Nat) (xb2 : Int32) (xb3 : Int32) (xb4 : Int32) (xb5 : Int32) (xbs0 : Int32), (ub1 < pvM σ 3) → f_X4_isAt_79 (f_X4_isAt_29 σ n29) σ ub1 xb2 xb3 xb4 xb5 xbs0 = some r → ∀ (H : Heap) (locs : List Loc), pvW G σ H → va_S (pvB G) s.heap H locs → ∀ (ls : Array Slot), lv_has ls 7 [(1, .ref (G.2.2.1 3 ub1)), (2, .int xb2), (3, .int xb3), (4, .int xb4), (5, .int xb5)] → W p l e (headSpec (Cond.code yX4_isAt cX4_isAt 7 (some .boolean) :: WA) ({ frames := 3, cells := 0, slots := 0, locals := 62 } : Room)).room s m ([.ref (G.2.2.1 4 0), .ref (G.2.2.1 3 u1), .int x2, .int x3] : List Value).toArray below meth c H locs 0 0 (MQ below (va_Qi (fun r' σ' => r' = r ∧ σ' = σ ∧ is01 r') (pvU G tys) (pvB G)) ([.ref (G.2.2.1 4 0), .ref (G.2.2.1 3 u1), .int x2, .int x3] : List Value).toArray s 0 0 (pvB G)) (F0 m 79 ls [.int xbs0]) := by
        intro ub1 xb2 xb3 xb4 xb5 xbs0 hub1 h H locs hw hS ls hl
        unfold f_X4_isAt_79 at h
        refine lv_istore (lv' := [(6, .int xbs0), (1, .ref (G.2.2.1 3 ub1)), (2, .int xb2), (3, .int xb3), (4, .int xb4), (5, .int xb5)]) hx hb dX4_isAt_79 hl (by decide) rfl (fun ls hl => ?_)
        refine lv_iload hx hb dX4_isAt_81 (lv_at hl 0 rfl) ?_
        refine lv_if_ne (tgt := 108) hx hb dX4_isAt_83 (by decide) (fun c1 => ?_) (fun c1 => ?_)
        · skip
          replace h := ite_n c1 h
          refine lv_iinc (v := xb5 + 1) (lv' := [(5, .int (xb5 + 1)), (6, .int xbs0), (1, .ref (G.2.2.1 3 ub1)), (2, .int xb2), (3, .int xb3), (4, .int xb4)]) hx hb dX4_isAt_108 hl (k := 5) rfl (by rfl) (by decide) rfl (fun ls hl => ?_)
          refine lv_goto (tgt := 29) hx hb dX4_isAt_111 (by decide) ?_
          exact ih29 ub1 xb2 xb3 xb4 (xb5 + 1) hub1 h _ _ hw hS ls (lv_sub hl [2, 3, 4, 5, 0] rfl)
        · skip
          replace h := ite_p c1 h
          refine lv_iload_n hx hb dX4_isAt_86 rfl (lv_at hl 3 rfl) ?_
          refine lv_aload_n hx hb dX4_isAt_87 rfl (lv_at hl 1 rfl) ?_
          refine pgL (C := RX3) (T := TX3) (N := 14) hx hb hts hown hK hw 3 6 ub1 hub1 (by decide) rfl rfl inF_X3 (by decide) (v := .ref (G.2.2.1 2 ub1)) rfl (hts _ wm482) (fun _ h9 => h9) dX4_isAt_88 ?_
          refine lv_iload hx hb dX4_isAt_91 (lv_at hl 5 rfl) ?_
          obtain ⟨r2, e3, h⟩ := ob1_e h
          refine pcalli (va_runV (As := [.int xb5]) (rest := [.int xb3]) ⟨hx, hb, hml, hown, hts⟩ (c_X2_wordTop (l := l) (G := G) (tys := tys) (σ := σ) htys hub1 e3) (cwV 1 hts (gVA wm709 wm710 wm711 wm81 wm712) rfl rfl rfl (by decide +kernel) ⟨(Nat.le_of_ble_eq_true rfl), (Nat.le_of_ble_eq_true rfl)⟩) (pv_preV hA hS hw hK 2 ub1 hub1 (by decide) rfl [.int xb5]) rfl rfl hl.1 rfl (lv_room (Nat.le_of_ble_eq_true rfl)) dX4_isAt_93 ⟨Nat.zero_le _, Nat.zero_le _⟩) hS (fun r5 s6 H locs hp4 hw hS => ?_)
          obtain ⟨err2, esr2⟩ := hp4
          obtain rfl := esr2.symm
          obtain rfl := err2.symm
          refine lv_iconst (v := 2) hx hb dX4_isAt_96 (by decide) ?_
          refine lv_iload hx hb dX4_isAt_97 (lv_at hl 4 rfl) ?_
          refine lv_imul hx hb dX4_isAt_99 ?_
          obtain ⟨r7, e8, h⟩ := ob1_e h
          refine pcalli (va_runS (As := [.int xb3, .int r2, .int (2 * xb4)]) (rest := []) ⟨hx, hb, hml, hown, hts⟩ (c_X2_isWithin (l := l) (G := G) (tys := tys) (σ := σ) htys  e8) (va_cwS 3 hts (gSA wm841 wm722 wm81 wm723) rfl rfl rfl (by decide +kernel) ⟨(Nat.le_of_ble_eq_true rfl), (Nat.le_of_ble_eq_true rfl)⟩) (pv_preS hA hS hw hK [.int xb3, .int r2, .int (2 * xb4)]) rfl rfl hl.1 rfl (lv_room (Nat.le_of_ble_eq_true rfl)) dX4_isAt_100 ⟨Nat.zero_le _, Nat.zero_le _⟩) hS (fun r10 s11 H locs hp9 hw hS => ?_)
          obtain ⟨err7, esr7, hzr7⟩ := hp9
          obtain rfl := esr7.symm
          obtain rfl := err7.symm
          refine lv_if_eq (tgt := 108) hx hb dX4_isAt_103 (by decide) (fun c12 => ?_) (fun c12 => ?_)
          · skip
            replace h := ite_p c12 h
            refine lv_iinc (v := xb5 + 1) (lv' := [(5, .int (xb5 + 1)), (6, .int xbs0), (1, .ref (G.2.2.1 3 ub1)), (2, .int xb2), (3, .int xb3), (4, .int xb4)]) hx hb dX4_isAt_108 hl (k := 5) rfl (by rfl) (by decide) rfl (fun ls hl => ?_)
            refine lv_goto (tgt := 29) hx hb dX4_isAt_111 (by decide) ?_
            exact ih29 ub1 xb2 xb3 xb4 (xb5 + 1) hub1 h _ _ hw hS ls (lv_sub hl [2, 3, 4, 5, 0] rfl)
          · skip
            replace h := ite_n c12 h
            refine lv_iconst (v := 1) hx hb dX4_isAt_106 (by decide) ?_
            exact pez hx hb hr (is01_nar (Or.inr rfl)) hlocks hA hw hK hS ⟨Option.some.inj h, rfl, (Or.inr rfl)⟩ dX4_isAt_107
      intro ub1 xb2 xb3 xb4 xb5 hub1 h H locs hw hS ls hl
      rw [f_X4_isAt_29_s] at h
      refine lv_iload hx hb dX4_isAt_29 (lv_at hl 4 rfl) ?_
      refine lv_aload_n hx hb dX4_isAt_31 rfl (lv_at hl 0 rfl) ?_
      refine pgI (C := RX3) (T := TX3) (N := 14) hx hb hts hown hK hw 3 9 ub1 hub1 (by decide) rfl rfl inF_X3 (by decide) rfl (hts _ wm542) (fun _ h9 => h9) dX4_isAt_32 ?_
      refine lv_icmp_ge (tgt := 114) hx hb dX4_isAt_35 (by decide) (fun c13 => ?_) (fun c13 => ?_)
      · skip
        replace h := ite_p c13 h
        refine lv_iconst (v := 0) hx hb dX4_isAt_114 (by decide) ?_
        exact pez hx hb hr (is01_nar (Or.inl rfl)) hlocks hA hw hK hS ⟨Option.some.inj h, rfl, (Or.inl rfl)⟩ dX4_isAt_115
      · skip
        replace h := ite_n c13 h
        refine lv_aload_n hx hb dX4_isAt_38 rfl (lv_at hl 0 rfl) ?_
        refine pgL (C := RX3) (T := TX3) (N := 14) hx hb hts hown hK hw 3 6 ub1 hub1 (by decide) rfl rfl inF_X3 (by decide) (v := .ref (G.2.2.1 2 ub1)) rfl (hts _ wm482) (fun _ h9 => h9) dX4_isAt_39 ?_
        refine pgI (C := RX2) (T := TX2) (N := 16) hx hb hts hown hK hw 2 0 ub1 hub1 (by decide) rfl rfl inF_X2 (by decide) rfl (hts _ wm503) (fun _ h9 => h9) dX4_isAt_42 ?_
        refine lv_iconst (v := 1) hx hb dX4_isAt_45 (by decide) ?_
        refine lv_icmp_ne (tgt := 114) hx hb dX4_isAt_46 (by decide) (fun c14 => ?_) (fun c14 => ?_)
        · skip
          replace h := ite_n c14 h
          refine lv_iconst (v := 0) hx hb dX4_isAt_114 (by decide) ?_
          exact pez hx hb hr (is01_nar (Or.inl rfl)) hlocks hA hw hK hS ⟨Option.some.inj h, rfl, (Or.inl rfl)⟩ dX4_isAt_115
        · skip
          replace h := ite_p c14 h
          refine lv_iload_n hx hb dX4_isAt_49 rfl (lv_at hl 1 rfl) ?_
          refine lv_aload_n hx hb dX4_isAt_50 rfl (lv_at hl 0 rfl) ?_
          refine pgL (C := RX3) (T := TX3) (N := 14) hx hb hts hown hK hw 3 6 ub1 hub1 (by decide) rfl rfl inF_X3 (by decide) (v := .ref (G.2.2.1 2 ub1)) rfl (hts _ wm482) (fun _ h9 => h9) dX4_isAt_51 ?_
          refine lv_iload hx hb dX4_isAt_54 (lv_at hl 4 rfl) ?_
          obtain ⟨r15, e16, h⟩ := ob1_e h
          refine pcalli (va_runV (As := [.int xb5]) (rest := [.int xb2]) ⟨hx, hb, hml, hown, hts⟩ (c_X2_wordLeft (l := l) (G := G) (tys := tys) (σ := σ) htys hub1 e16) (cwV 1 hts (gVA wm705 wm706 wm707 wm81 wm708) rfl rfl rfl (by decide +kernel) ⟨(Nat.le_of_ble_eq_true rfl), (Nat.le_of_ble_eq_true rfl)⟩) (pv_preV hA hS hw hK 2 ub1 hub1 (by decide) rfl [.int xb5]) rfl rfl hl.1 rfl (lv_room (Nat.le_of_ble_eq_true rfl)) dX4_isAt_56 ⟨Nat.zero_le _, Nat.zero_le _⟩) hS (fun r18 s19 H locs hp17 hw hS => ?_)
          obtain ⟨err15, esr15⟩ := hp17
          obtain rfl := esr15.symm
          obtain rfl := err15.symm
          refine lv_aload_n hx hb dX4_isAt_59 rfl (lv_at hl 0 rfl) ?_
          refine lv_iload hx hb dX4_isAt_60 (lv_at hl 4 rfl) ?_
          obtain ⟨r20, e21, h⟩ := ob1_e h
          refine pcalli (va_runV (As := [.int xb5]) (rest := [.int r15, .int xb2]) ⟨hx, hb, hml, hown, hts⟩ (c_X3_lettersOf (l := l) (G := G) (tys := tys) (σ := σ) htys hub1 e21) (cwV 1 hts (gVA wm543 wm544 wm545 wm42 wm546) rfl rfl rfl (by decide +kernel) ⟨(Nat.le_of_ble_eq_true rfl), (Nat.le_of_ble_eq_true rfl)⟩) (pv_preV hA hS hw hK 3 ub1 hub1 (by decide) rfl [.int xb5]) rfl rfl hl.1 rfl (lv_room (Nat.le_of_ble_eq_true rfl)) dX4_isAt_62 ⟨Nat.zero_le _, Nat.zero_le _⟩) hS (fun r23 s24 H locs hp22 hw hS => ?_)
          obtain ⟨err20, esr20⟩ := hp22
          obtain rfl := esr20.symm
          obtain rfl := err20.symm
          refine lv_iload hx hb dX4_isAt_65 (lv_at hl 3 rfl) ?_
          refine lv_imul hx hb dX4_isAt_67 ?_
          obtain ⟨r25, e26, h⟩ := ob1_e h
          refine pcalli (va_runS (As := [.int xb2, .int r15, .int (r20 * xb4)]) (rest := []) ⟨hx, hb, hml, hown, hts⟩ (c_X2_isWithin (l := l) (G := G) (tys := tys) (σ := σ) htys  e26) (va_cwS 3 hts (gSA wm841 wm722 wm81 wm723) rfl rfl rfl (by decide +kernel) ⟨(Nat.le_of_ble_eq_true rfl), (Nat.le_of_ble_eq_true rfl)⟩) (pv_preS hA hS hw hK [.int xb2, .int r15, .int (r20 * xb4)]) rfl rfl hl.1 rfl (lv_room (Nat.le_of_ble_eq_true rfl)) dX4_isAt_68 ⟨Nat.zero_le _, Nat.zero_le _⟩) hS (fun r28 s29 H locs hp27 hw hS => ?_)
          obtain ⟨err25, esr25, hzr25⟩ := hp27
          obtain rfl := esr25.symm
          obtain rfl := err25.symm
          refine lv_if_ne (tgt := 78) hx hb dX4_isAt_71 (by decide) (fun c30 => ?_) (fun c30 => ?_)
          · skip
            replace h := ite_n c30 h
            refine lv_iconst (v := 0) hx hb dX4_isAt_78 (by decide) ?_
            exact blk79 ub1 xb2 xb3 xb4 xb5 0 hub1 h _ _ hw hS ls (lv_sub hl [0, 1, 2, 3, 4] rfl)
          · skip
            replace h := ite_p c30 h
            refine lv_iconst (v := 1) hx hb dX4_isAt_74 (by decide) ?_
            refine lv_goto (tgt := 79) hx hb dX4_isAt_75 (by decide) ?_
            exact blk79 ub1 xb2 xb3 xb4 xb5 1 hub1 h _ _ hw hS ls (lv_sub hl [0, 1, 2, 3, 4] rfl)
  refine lv_aload_n hx hb dX4_isAt_0 rfl (lv_at hl 1 rfl) ?_
  refine pgL (C := RX3) (T := TX3) (N := 14) hx hb hts hown hK hw 3 6 u1 hu1 (by decide) rfl rfl inF_X3 (by decide) (v := .ref (G.2.2.1 2 u1)) rfl (hts _ wm482) (fun _ h9 => h9) dX4_isAt_1 ?_
  refine lv_iload_n hx hb dX4_isAt_4 rfl (lv_at hl 2 rfl) ?_
  refine lv_iload_n hx hb dX4_isAt_5 rfl (lv_at hl 3 rfl) ?_
  obtain ⟨r31, e32, h⟩ := ob1_e h
  refine pcalli (va_runV (As := [.int x2, .int x3]) (rest := []) ⟨hx, hb, hml, hown, hts⟩ (c_X2_hasInBorder (l := l) (G := G) (tys := tys) (σ := σ) htys hu1 e32) (cwV 2 hts (gVA wm833 wm834 wm835 wm81 wm836) rfl rfl rfl (by decide +kernel) ⟨(Nat.le_of_ble_eq_true rfl), (Nat.le_of_ble_eq_true rfl)⟩) (pv_preV hA hS hw hK 2 u1 hu1 (by decide) rfl [.int x2, .int x3]) rfl rfl hl.1 rfl (lv_room (Nat.le_of_ble_eq_true rfl)) dX4_isAt_6 ⟨Nat.zero_le _, Nat.zero_le _⟩) hS (fun r34 s35 H locs hp33 hw hS => ?_)
  obtain ⟨err31, esr31, hzr31⟩ := hp33
  obtain rfl := esr31.symm
  obtain rfl := err31.symm
  refine lv_if_eq (tgt := 14) hx hb dX4_isAt_9 (by decide) (fun c36 => ?_) (fun c36 => ?_)
  · skip
    replace h := ite_p c36 h
    refine lv_aload_n hx hb dX4_isAt_14 rfl (lv_at hl 0 rfl) ?_
    refine pgL (C := RX4) (T := TX4) (N := 6) hx hb hts hown hK hw 4 0 0 Nat.one_pos (by decide) rfl rfl inF_X4 (by decide) (v := .ref (G.2.2.1 6 0)) rfl (hts _ wm171) (fun _ h9 => h9) dX4_isAt_15 ?_
    refine lv_aload_n hx hb dX4_isAt_18 rfl (lv_at hl 1 rfl) ?_
    refine lv_bipush (v := 9) hx hb dX4_isAt_19 (by decide) ?_
    obtain ⟨r37, e38, h⟩ := ob1_e h
    refine pcalli (va_runV (As := [.ref (G.2.2.1 3 u1), .int 9]) (rest := []) ⟨hx, hb, hml, hown, hts⟩ (c_X6_of (l := l) (G := G) (tys := tys) (σ := σ) htys (show 0 < 2 from by decide) hu1 e38) (cwV 2 hts (gVA wm515 wm473 wm474 wm23 wm475) rfl rfl rfl (by decide +kernel) ⟨(Nat.le_of_ble_eq_true rfl), (Nat.le_of_ble_eq_true rfl)⟩) (pv_preV hA hS hw hK 6 0 (show 0 < 2 from by decide) (by decide) rfl [.ref (G.2.2.1 3 u1), .int 9]) rfl rfl hl.1 rfl (lv_room (Nat.le_of_ble_eq_true rfl)) dX4_isAt_21 ⟨Nat.zero_le _, Nat.zero_le _⟩) hS (fun r40 s41 H locs hp39 hw hS => ?_)
    obtain ⟨err37, esr37⟩ := hp39
    obtain rfl := esr37.symm
    obtain rfl := err37.symm
    refine lv_istore (lv' := [(4, .int r37), (0, .ref (G.2.2.1 4 0)), (1, .ref (G.2.2.1 3 u1)), (2, .int x2), (3, .int x3)]) hx hb dX4_isAt_24 hl (by decide) rfl (fun ls hl => ?_)
    refine lv_iconst (v := 0) hx hb dX4_isAt_26 (by decide) ?_
    refine lv_istore (lv' := [(5, .int 0), (4, .int r37), (0, .ref (G.2.2.1 4 0)), (1, .ref (G.2.2.1 3 u1)), (2, .int x2), (3, .int x3)]) hx hb dX4_isAt_27 hl (by decide) rfl (fun ls hl => ?_)
    exact loop29 fu u1 x2 x3 r37 0 hu1 h _ _ hw hS ls (lv_sub hl [3, 4, 5, 1, 0] rfl)
  · skip
    replace h := ite_n c36 h
    refine lv_iconst (v := 1) hx hb dX4_isAt_12 (by decide) ?_
    exact pez hx hb hr (is01_nar (Or.inr rfl)) hlocks hA hw hK hS ⟨Option.some.inj h, rfl, (Or.inr rfl)⟩ dX4_isAt_13
def f_X4_wordsSeen_4  (σ : PvS) : Nat → Nat → Int32 → Int32 → Option Int32
  | 0, _, _, _ => none
  | n + 1, ub1, xb2, xb3 => if (σ.2.1 3 9 ub1) ≤ xb3 then (some xb2) else (if (σ.2.1 2 0 ub1) = 1 then (ob1 (f_X2_wordLeft σ ub1 xb3) (fun r3 => ob1 (f_X2_wordTop σ ub1 xb3) (fun r8 => ob1 (f_X4_isCutAt σ ub1 r3 r8) (fun r13 => if r13 = 0 then (f_X4_wordsSeen_4 σ n ub1 (xb2 + 1) (xb3 + 1)) else (f_X4_wordsSeen_4 σ n ub1 xb2 (xb3 + 1)))))) else (some xb2))
theorem f_X4_wordsSeen_4_z {σ : PvS} {ub1 : Nat} {xb2 : Int32} {xb3 : Int32} : f_X4_wordsSeen_4 σ 0 ub1 xb2 xb3 = none := rfl
theorem f_X4_wordsSeen_4_s {n : Nat} {σ : PvS} {ub1 : Nat} {xb2 : Int32} {xb3 : Int32} : f_X4_wordsSeen_4 σ (n + 1) ub1 xb2 xb3 = if (σ.2.1 3 9 ub1) ≤ xb3 then (some xb2) else (if (σ.2.1 2 0 ub1) = 1 then (ob1 (f_X2_wordLeft σ ub1 xb3) (fun r3 => ob1 (f_X2_wordTop σ ub1 xb3) (fun r8 => ob1 (f_X4_isCutAt σ ub1 r3 r8) (fun r13 => if r13 = 0 then (f_X4_wordsSeen_4 σ n ub1 (xb2 + 1) (xb3 + 1)) else (f_X4_wordsSeen_4 σ n ub1 xb2 (xb3 + 1)))))) else (some xb2)) := rfl
def f_X4_wordsSeen (σ : PvS) (u1 : Nat) : Option Int32 :=
  f_X4_wordsSeen_4 σ fu u1 0 0
set_option maxHeartbeats 4000000 in
set_option maxRecDepth 100000 in
theorem c_X4_wordsSeen {l : Launch} {G : PvG} {tys : List (ClassId × FieldType)} {σ : PvS} (htys : tys = pvT G)  {u1 : Nat} (hu1 : u1 < pvM σ 3) {r : Int32} (h : f_X4_wordsSeen σ u1 = some r) : Met l yX4_wordsSeen (Cond.code yX4_wordsSeen cX4_wordsSeen 4 (some .int) :: WA) ({ frames := 3, cells := 0, slots := 0, locals := 69 }) (va_Pc [.ref (G.2.2.1 4 0), .ref (G.2.2.1 3 u1)] (pvU G tys σ)) (va_Qi (fun r' σ' => r' = r ∧ σ' = σ) (pvU G tys) (pvB G)) 0 0 (pvB G) := by
  refine Met.ofW (cc := cX4_wordsSeen) (maxL := 4) (ret := (some .int)) (by decide) rfl ?_
  intro p e s m args below meth c s₁ B hml hv
  obtain ⟨rfl, hw, hK, hA⟩ := hv
  have hx := B.exec
  have hb := B.bytes
  have hr := B.returns
  have hts0 := atoms_spec (ws := (Cond.code yX4_wordsSeen cX4_wordsSeen 4 (some .int) :: WA)) B.pre
  have hts : ∀ w ∈ WA, w.before _ s = true := fun w h => hts0 w (List.mem_cons_of_mem _ h)
  have hown : s.vm.findClass RX4 = some m.cls := findClass_of_methodNamed B.named
  have hlocks := B.notSynchronized
  have hS : va_S (pvB G) s.heap s.heap [] := va_S.rf
  have hl := lv_entry ([.ref (G.2.2.1 4 0), .ref (G.2.2.1 3 u1)]) (n := 4) (Nat.le_of_ble_eq_true rfl)
  rw [lg_entry_eq]
  generalize (lg_sl ([.ref (G.2.2.1 4 0), .ref (G.2.2.1 3 u1)]) ++ List.replicate (4 - (lg_sl ([.ref (G.2.2.1 4 0), .ref (G.2.2.1 3 u1)])).length) Slot.unset).toArray = ls at hl ⊢
  have hl : lv_has ls 4 [(0, .ref (G.2.2.1 4 0)), (1, .ref (G.2.2.1 3 u1))] := hl
  have hroot := pv_root hw
  unfold f_X4_wordsSeen at h
  have loop4 : ∀ (n : Nat) (ub1 : Nat) (xb2 : Int32) (xb3 : Int32), (ub1 < pvM σ 3) → f_X4_wordsSeen_4 σ n ub1 xb2 xb3 = some r → ∀ (H : Heap) (locs : List Loc), pvW G σ H → va_S (pvB G) s.heap H locs → ∀ (ls : Array Slot), lv_has ls 4 [(0, .ref (G.2.2.1 4 0)), (1, .ref (G.2.2.1 3 ub1)), (2, .int xb2), (3, .int xb3)] → W p l e (headSpec (Cond.code yX4_wordsSeen cX4_wordsSeen 4 (some .int) :: WA) ({ frames := 3, cells := 0, slots := 0, locals := 69 } : Room)).room s m ([.ref (G.2.2.1 4 0), .ref (G.2.2.1 3 u1)] : List Value).toArray below meth c H locs 0 0 (MQ below (va_Qi (fun r' σ' => r' = r ∧ σ' = σ) (pvU G tys) (pvB G)) ([.ref (G.2.2.1 4 0), .ref (G.2.2.1 3 u1)] : List Value).toArray s 0 0 (pvB G)) (F0 m 4 ls []) := by
    intro n4
    induction n4 with
    | zero =>
      intro ub1 xb2 xb3 hub1 h
      rw [f_X4_wordsSeen_4_z] at h
      cases h
    | succ n4 ih4 =>
      intro ub1 xb2 xb3 hub1 h H locs hw hS ls hl
      rw [f_X4_wordsSeen_4_s] at h
      refine lv_iload_n hx hb dX4_wordsSeen_4 rfl (lv_at hl 3 rfl) ?_
      refine lv_aload_n hx hb dX4_wordsSeen_5 rfl (lv_at hl 1 rfl) ?_
      refine pgI (C := RX3) (T := TX3) (N := 14) hx hb hts hown hK hw 3 9 ub1 hub1 (by decide) rfl rfl inF_X3 (by decide) rfl (hts _ wm542) (fun _ h9 => h9) dX4_wordsSeen_6 ?_
      refine lv_icmp_ge (tgt := 56) hx hb dX4_wordsSeen_9 (by decide) (fun c1 => ?_) (fun c1 => ?_)
      · skip
        replace h := ite_p c1 h
        refine lv_iload_n hx hb dX4_wordsSeen_56 rfl (lv_at hl 2 rfl) ?_
        exact pei hx hb hr hlocks hA hw hK hS ⟨Option.some.inj h, rfl⟩ dX4_wordsSeen_57
      · skip
        replace h := ite_n c1 h
        refine lv_aload_n hx hb dX4_wordsSeen_12 rfl (lv_at hl 1 rfl) ?_
        refine pgL (C := RX3) (T := TX3) (N := 14) hx hb hts hown hK hw 3 6 ub1 hub1 (by decide) rfl rfl inF_X3 (by decide) (v := .ref (G.2.2.1 2 ub1)) rfl (hts _ wm482) (fun _ h9 => h9) dX4_wordsSeen_13 ?_
        refine pgI (C := RX2) (T := TX2) (N := 16) hx hb hts hown hK hw 2 0 ub1 hub1 (by decide) rfl rfl inF_X2 (by decide) rfl (hts _ wm503) (fun _ h9 => h9) dX4_wordsSeen_16 ?_
        refine lv_iconst (v := 1) hx hb dX4_wordsSeen_19 (by decide) ?_
        refine lv_icmp_ne (tgt := 56) hx hb dX4_wordsSeen_20 (by decide) (fun c2 => ?_) (fun c2 => ?_)
        · skip
          replace h := ite_n c2 h
          refine lv_iload_n hx hb dX4_wordsSeen_56 rfl (lv_at hl 2 rfl) ?_
          exact pei hx hb hr hlocks hA hw hK hS ⟨Option.some.inj h, rfl⟩ dX4_wordsSeen_57
        · skip
          replace h := ite_p c2 h
          refine lv_aload_n hx hb dX4_wordsSeen_23 rfl (lv_at hl 0 rfl) ?_
          refine lv_aload_n hx hb dX4_wordsSeen_24 rfl (lv_at hl 1 rfl) ?_
          refine lv_aload_n hx hb dX4_wordsSeen_25 rfl (lv_at hl 1 rfl) ?_
          refine pgL (C := RX3) (T := TX3) (N := 14) hx hb hts hown hK hw 3 6 ub1 hub1 (by decide) rfl rfl inF_X3 (by decide) (v := .ref (G.2.2.1 2 ub1)) rfl (hts _ wm482) (fun _ h9 => h9) dX4_wordsSeen_26 ?_
          refine lv_iload_n hx hb dX4_wordsSeen_29 rfl (lv_at hl 3 rfl) ?_
          obtain ⟨r3, e4, h⟩ := ob1_e h
          refine pcalli (va_runV (As := [.int xb3]) (rest := [.ref (G.2.2.1 3 ub1), .ref (G.2.2.1 4 0)]) ⟨hx, hb, hml, hown, hts⟩ (c_X2_wordLeft (l := l) (G := G) (tys := tys) (σ := σ) htys hub1 e4) (cwV 1 hts (gVA wm705 wm706 wm707 wm81 wm708) rfl rfl rfl (by decide +kernel) ⟨(Nat.le_of_ble_eq_true rfl), (Nat.le_of_ble_eq_true rfl)⟩) (pv_preV hA hS hw hK 2 ub1 hub1 (by decide) rfl [.int xb3]) rfl rfl hl.1 rfl (lv_room (Nat.le_of_ble_eq_true rfl)) dX4_wordsSeen_30 ⟨Nat.zero_le _, Nat.zero_le _⟩) hS (fun r6 s7 H locs hp5 hw hS => ?_)
          obtain ⟨err3, esr3⟩ := hp5
          obtain rfl := esr3.symm
          obtain rfl := err3.symm
          refine lv_aload_n hx hb dX4_wordsSeen_33 rfl (lv_at hl 1 rfl) ?_
          refine pgL (C := RX3) (T := TX3) (N := 14) hx hb hts hown hK hw 3 6 ub1 hub1 (by decide) rfl rfl inF_X3 (by decide) (v := .ref (G.2.2.1 2 ub1)) rfl (hts _ wm482) (fun _ h9 => h9) dX4_wordsSeen_34 ?_
          refine lv_iload_n hx hb dX4_wordsSeen_37 rfl (lv_at hl 3 rfl) ?_
          obtain ⟨r8, e9, h⟩ := ob1_e h
          refine pcalli (va_runV (As := [.int xb3]) (rest := [.int r3, .ref (G.2.2.1 3 ub1), .ref (G.2.2.1 4 0)]) ⟨hx, hb, hml, hown, hts⟩ (c_X2_wordTop (l := l) (G := G) (tys := tys) (σ := σ) htys hub1 e9) (cwV 1 hts (gVA wm709 wm710 wm711 wm81 wm712) rfl rfl rfl (by decide +kernel) ⟨(Nat.le_of_ble_eq_true rfl), (Nat.le_of_ble_eq_true rfl)⟩) (pv_preV hA hS hw hK 2 ub1 hub1 (by decide) rfl [.int xb3]) rfl rfl hl.1 rfl (lv_room (Nat.le_of_ble_eq_true rfl)) dX4_wordsSeen_38 ⟨Nat.zero_le _, Nat.zero_le _⟩) hS (fun r11 s12 H locs hp10 hw hS => ?_)
          obtain ⟨err8, esr8⟩ := hp10
          obtain rfl := esr8.symm
          obtain rfl := err8.symm
          obtain ⟨r13, e14, h⟩ := ob1_e h
          refine pcalli (va_runV (As := [.ref (G.2.2.1 3 ub1), .int r3, .int r8]) (rest := []) ⟨hx, hb, hml, hown, hts⟩ (c_X4_isCutAt (l := l) (G := G) (tys := tys) (σ := σ) htys hub1 e14) (cwV 3 hts (gVA wm713 wm714 wm715 wm17 wm716) rfl rfl rfl (by decide +kernel) ⟨(Nat.le_of_ble_eq_true rfl), (Nat.le_of_ble_eq_true rfl)⟩) (pv_preV hA hS hw hK 4 0 Nat.one_pos (by decide) rfl [.ref (G.2.2.1 3 ub1), .int r3, .int r8]) rfl rfl hl.1 rfl (lv_room (Nat.le_of_ble_eq_true rfl)) dX4_wordsSeen_41 ⟨Nat.zero_le _, Nat.zero_le _⟩) hS (fun r16 s17 H locs hp15 hw hS => ?_)
          obtain ⟨err13, esr13, hzr13⟩ := hp15
          obtain rfl := esr13.symm
          obtain rfl := err13.symm
          refine lv_if_ne (tgt := 50) hx hb dX4_wordsSeen_44 (by decide) (fun c18 => ?_) (fun c18 => ?_)
          · skip
            replace h := ite_n c18 h
            refine lv_iinc (v := xb3 + 1) (lv' := [(3, .int (xb3 + 1)), (0, .ref (G.2.2.1 4 0)), (1, .ref (G.2.2.1 3 ub1)), (2, .int xb2)]) hx hb dX4_wordsSeen_50 hl (k := 3) rfl (by rfl) (by decide) rfl (fun ls hl => ?_)
            refine lv_goto (tgt := 4) hx hb dX4_wordsSeen_53 (by decide) ?_
            exact ih4 ub1 xb2 (xb3 + 1) hub1 h _ _ hw hS ls (lv_sub hl [1, 2, 3, 0] rfl)
          · skip
            replace h := ite_p c18 h
            refine lv_iinc (v := xb2 + 1) (lv' := [(2, .int (xb2 + 1)), (0, .ref (G.2.2.1 4 0)), (1, .ref (G.2.2.1 3 ub1)), (3, .int xb3)]) hx hb dX4_wordsSeen_47 hl (k := 2) rfl (by rfl) (by decide) rfl (fun ls hl => ?_)
            refine lv_iinc (v := xb3 + 1) (lv' := [(3, .int (xb3 + 1)), (2, .int (xb2 + 1)), (0, .ref (G.2.2.1 4 0)), (1, .ref (G.2.2.1 3 ub1))]) hx hb dX4_wordsSeen_50 hl (k := 3) rfl (by rfl) (by decide) rfl (fun ls hl => ?_)
            refine lv_goto (tgt := 4) hx hb dX4_wordsSeen_53 (by decide) ?_
            exact ih4 ub1 (xb2 + 1) (xb3 + 1) hub1 h _ _ hw hS ls (lv_sub hl [2, 3, 1, 0] rfl)
  refine lv_iconst (v := 0) hx hb dX4_wordsSeen_0 (by decide) ?_
  refine lv_istore_n (lv' := [(2, .int 0), (0, .ref (G.2.2.1 4 0)), (1, .ref (G.2.2.1 3 u1))]) hx hb dX4_wordsSeen_1 rfl hl (by decide) rfl (fun ls hl => ?_)
  refine lv_iconst (v := 0) hx hb dX4_wordsSeen_2 (by decide) ?_
  refine lv_istore_n (lv' := [(3, .int 0), (2, .int 0), (0, .ref (G.2.2.1 4 0)), (1, .ref (G.2.2.1 3 u1))]) hx hb dX4_wordsSeen_3 rfl hl (by decide) rfl (fun ls hl => ?_)
  exact loop4 fu u1 0 0 hu1 h _ _ hw hS ls (lv_sub hl [2, 3, 1, 0] rfl)
def f_X4_sortFor (σ : PvS) (u1 : Nat) : Option Int32 :=
  nm (σ.2.2.1 3 8 u1) (fun o1 => oc o1 (some 3) (fun jo1 => nm (σ.2.2.1 3 8 u1) (fun o2 => oc o2 none (fun jo2 => if (σ.2.1 2 0 jo2) = 0 then (some 0) else (ob1 (f_X6_of σ 0 u1 0) (fun r4 => if r4 = 0 then (some 0) else (if (σ.2.1 3 1 u1) = 0 then (ob1 (f_X6_of σ 0 u1 6) (fun r11 => if r11 = 0 then (ob1 (f_X6_of σ 0 u1 0) (fun r17 => if r17 = 1 then (some 3) else (some 2))) else (some 4))) else (some 1))))))))
set_option maxHeartbeats 4000000 in
set_option maxRecDepth 100000 in
theorem c_X4_sortFor {l : Launch} {G : PvG} {tys : List (ClassId × FieldType)} {σ : PvS} (htys : tys = pvT G)  {u1 : Nat} (hu1 : u1 < pvM σ 3) {r : Int32} (h : f_X4_sortFor σ u1 = some r) : Met l yX4_sortFor (Cond.code yX4_sortFor cX4_sortFor 2 (some .int) :: WA) ({ frames := 1, cells := 0, slots := 0, locals := 24 }) (va_Pc [.ref (G.2.2.1 4 0), .ref (G.2.2.1 3 u1)] (pvU G tys σ)) (va_Qi (fun r' σ' => r' = r ∧ σ' = σ) (pvU G tys) (pvB G)) 0 0 (pvB G) := by
  refine Met.ofW (cc := cX4_sortFor) (maxL := 2) (ret := (some .int)) (by decide) rfl ?_
  intro p e s m args below meth c s₁ B hml hv
  obtain ⟨rfl, hw, hK, hA⟩ := hv
  have hx := B.exec
  have hb := B.bytes
  have hr := B.returns
  have hts0 := atoms_spec (ws := (Cond.code yX4_sortFor cX4_sortFor 2 (some .int) :: WA)) B.pre
  have hts : ∀ w ∈ WA, w.before _ s = true := fun w h => hts0 w (List.mem_cons_of_mem _ h)
  have hown : s.vm.findClass RX4 = some m.cls := findClass_of_methodNamed B.named
  have hlocks := B.notSynchronized
  have hS : va_S (pvB G) s.heap s.heap [] := va_S.rf
  have hl := lv_entry ([.ref (G.2.2.1 4 0), .ref (G.2.2.1 3 u1)]) (n := 2) (Nat.le_of_ble_eq_true rfl)
  rw [lg_entry_eq]
  generalize (lg_sl ([.ref (G.2.2.1 4 0), .ref (G.2.2.1 3 u1)]) ++ List.replicate (2 - (lg_sl ([.ref (G.2.2.1 4 0), .ref (G.2.2.1 3 u1)])).length) Slot.unset).toArray = ls at hl ⊢
  have hl : lv_has ls 2 [(0, .ref (G.2.2.1 4 0)), (1, .ref (G.2.2.1 3 u1))] := hl
  have hroot := pv_root hw
  unfold f_X4_sortFor at h
  refine lv_aload_n hx hb dX4_sortFor_0 rfl (lv_at hl 1 rfl) ?_
  obtain ⟨o1, eo1, h⟩ := nq_e h
  have ho1 := pv_cl hw eo1
  refine pgR (C := RX3) (T := TX3) (N := 14) hx hb hts hown hK hw 3 8 u1 hu1 (by decide) rfl rfl inF_X3 (by decide) rfl o1 eo1 (hts _ wm513) (fun _ h9 => h9) dX4_sortFor_1 ?_
  rcases o1 with _ | jo1
  · skip
    replace h := oc_n h
    refine lv_ifnonnullN hx hb dX4_sortFor_4 ?_
    refine lv_iconst (v := 3) hx hb dX4_sortFor_7 (by decide) ?_
    exact pei hx hb hr hlocks hA hw hK hS ⟨Option.some.inj h, rfl⟩ dX4_sortFor_8
  · skip
    replace h := oc_s h
    have hjo1 := ho1 jo1 rfl
    refine lv_ifnonnull (tgt := 9) hx hb dX4_sortFor_4 (by decide) ?_
    refine lv_aload_n hx hb dX4_sortFor_9 rfl (lv_at hl 1 rfl) ?_
    obtain ⟨o2, eo2, h⟩ := nq_e h
    have ho2 := pv_cl hw eo2
    refine pgR (C := RX3) (T := TX3) (N := 14) hx hb hts hown hK hw 3 8 u1 hu1 (by decide) rfl rfl inF_X3 (by decide) rfl o2 eo2 (hts _ wm513) (fun _ h9 => h9) dX4_sortFor_10 ?_
    rcases o2 with _ | jo2
    · cases (oc_n h)
    replace h := oc_s h
    have hjo2 := ho2 jo2 rfl
    refine pgL (C := RX3) (T := TX3) (N := 14) hx hb hts hown hK hw 3 6 jo2 hjo2 (by decide) rfl rfl inF_X3 (by decide) (v := .ref (G.2.2.1 2 jo2)) rfl (hts _ wm482) (fun _ h9 => h9) dX4_sortFor_13 ?_
    refine pgI (C := RX2) (T := TX2) (N := 16) hx hb hts hown hK hw 2 0 jo2 hjo2 (by decide) rfl rfl inF_X2 (by decide) rfl (hts _ wm503) (fun _ h9 => h9) dX4_sortFor_16 ?_
    refine lv_if_eq (tgt := 34) hx hb dX4_sortFor_19 (by decide) (fun c3 => ?_) (fun c3 => ?_)
    · skip
      replace h := ite_p c3 h
      refine lv_iconst (v := 0) hx hb dX4_sortFor_34 (by decide) ?_
      exact pei hx hb hr hlocks hA hw hK hS ⟨Option.some.inj h, rfl⟩ dX4_sortFor_35
    · skip
      replace h := ite_n c3 h
      refine lv_aload_n hx hb dX4_sortFor_22 rfl (lv_at hl 0 rfl) ?_
      refine pgL (C := RX4) (T := TX4) (N := 6) hx hb hts hown hK hw 4 0 0 Nat.one_pos (by decide) rfl rfl inF_X4 (by decide) (v := .ref (G.2.2.1 6 0)) rfl (hts _ wm171) (fun _ h9 => h9) dX4_sortFor_23 ?_
      refine lv_aload_n hx hb dX4_sortFor_26 rfl (lv_at hl 1 rfl) ?_
      refine lv_iconst (v := 0) hx hb dX4_sortFor_27 (by decide) ?_
      obtain ⟨r4, e5, h⟩ := ob1_e h
      refine pcalli (va_runV (As := [.ref (G.2.2.1 3 u1), .int 0]) (rest := []) ⟨hx, hb, hml, hown, hts⟩ (c_X6_of (l := l) (G := G) (tys := tys) (σ := σ) htys (show 0 < 2 from by decide) hu1 e5) (cwV 2 hts (gVA wm515 wm473 wm474 wm23 wm475) rfl rfl rfl (by decide +kernel) ⟨(Nat.le_of_ble_eq_true rfl), (Nat.le_of_ble_eq_true rfl)⟩) (pv_preV hA hS hw hK 6 0 (show 0 < 2 from by decide) (by decide) rfl [.ref (G.2.2.1 3 u1), .int 0]) rfl rfl hl.1 rfl (lv_room (Nat.le_of_ble_eq_true rfl)) dX4_sortFor_28 ⟨Nat.zero_le _, Nat.zero_le _⟩) hS (fun r7 s8 H locs hp6 hw hS => ?_)
      obtain ⟨err4, esr4⟩ := hp6
      obtain rfl := esr4.symm
      obtain rfl := err4.symm
      refine lv_if_ne (tgt := 36) hx hb dX4_sortFor_31 (by decide) (fun c9 => ?_) (fun c9 => ?_)
      · skip
        replace h := ite_n c9 h
        refine lv_aload_n hx hb dX4_sortFor_36 rfl (lv_at hl 1 rfl) ?_
        refine pgI (C := RX3) (T := TX3) (N := 14) hx hb hts hown hK hw 3 1 u1 hu1 (by decide) rfl rfl inF_X3 (by decide) rfl (hts _ wm514) (fun _ h9 => h9) dX4_sortFor_37 ?_
        refine lv_if_eq (tgt := 45) hx hb dX4_sortFor_40 (by decide) (fun c10 => ?_) (fun c10 => ?_)
        · skip
          replace h := ite_p c10 h
          refine lv_aload_n hx hb dX4_sortFor_45 rfl (lv_at hl 0 rfl) ?_
          refine pgL (C := RX4) (T := TX4) (N := 6) hx hb hts hown hK hw 4 0 0 Nat.one_pos (by decide) rfl rfl inF_X4 (by decide) (v := .ref (G.2.2.1 6 0)) rfl (hts _ wm171) (fun _ h9 => h9) dX4_sortFor_46 ?_
          refine lv_aload_n hx hb dX4_sortFor_49 rfl (lv_at hl 1 rfl) ?_
          refine lv_bipush (v := 6) hx hb dX4_sortFor_50 (by decide) ?_
          obtain ⟨r11, e12, h⟩ := ob1_e h
          refine pcalli (va_runV (As := [.ref (G.2.2.1 3 u1), .int 6]) (rest := []) ⟨hx, hb, hml, hown, hts⟩ (c_X6_of (l := l) (G := G) (tys := tys) (σ := σ) htys (show 0 < 2 from by decide) hu1 e12) (cwV 2 hts (gVA wm515 wm473 wm474 wm23 wm475) rfl rfl rfl (by decide +kernel) ⟨(Nat.le_of_ble_eq_true rfl), (Nat.le_of_ble_eq_true rfl)⟩) (pv_preV hA hS hw hK 6 0 (show 0 < 2 from by decide) (by decide) rfl [.ref (G.2.2.1 3 u1), .int 6]) rfl rfl hl.1 rfl (lv_room (Nat.le_of_ble_eq_true rfl)) dX4_sortFor_52 ⟨Nat.zero_le _, Nat.zero_le _⟩) hS (fun r14 s15 H locs hp13 hw hS => ?_)
          obtain ⟨err11, esr11⟩ := hp13
          obtain rfl := esr11.symm
          obtain rfl := err11.symm
          refine lv_if_eq (tgt := 60) hx hb dX4_sortFor_55 (by decide) (fun c16 => ?_) (fun c16 => ?_)
          · skip
            replace h := ite_p c16 h
            refine lv_aload_n hx hb dX4_sortFor_60 rfl (lv_at hl 0 rfl) ?_
            refine pgL (C := RX4) (T := TX4) (N := 6) hx hb hts hown hK hw 4 0 0 Nat.one_pos (by decide) rfl rfl inF_X4 (by decide) (v := .ref (G.2.2.1 6 0)) rfl (hts _ wm171) (fun _ h9 => h9) dX4_sortFor_61 ?_
            refine lv_aload_n hx hb dX4_sortFor_64 rfl (lv_at hl 1 rfl) ?_
            refine lv_iconst (v := 0) hx hb dX4_sortFor_65 (by decide) ?_
            obtain ⟨r17, e18, h⟩ := ob1_e h
            refine pcalli (va_runV (As := [.ref (G.2.2.1 3 u1), .int 0]) (rest := []) ⟨hx, hb, hml, hown, hts⟩ (c_X6_of (l := l) (G := G) (tys := tys) (σ := σ) htys (show 0 < 2 from by decide) hu1 e18) (cwV 2 hts (gVA wm515 wm473 wm474 wm23 wm475) rfl rfl rfl (by decide +kernel) ⟨(Nat.le_of_ble_eq_true rfl), (Nat.le_of_ble_eq_true rfl)⟩) (pv_preV hA hS hw hK 6 0 (show 0 < 2 from by decide) (by decide) rfl [.ref (G.2.2.1 3 u1), .int 0]) rfl rfl hl.1 rfl (lv_room (Nat.le_of_ble_eq_true rfl)) dX4_sortFor_66 ⟨Nat.zero_le _, Nat.zero_le _⟩) hS (fun r20 s21 H locs hp19 hw hS => ?_)
            obtain ⟨err17, esr17⟩ := hp19
            obtain rfl := esr17.symm
            obtain rfl := err17.symm
            refine lv_iconst (v := 1) hx hb dX4_sortFor_69 (by decide) ?_
            refine lv_icmp_ne (tgt := 77) hx hb dX4_sortFor_70 (by decide) (fun c22 => ?_) (fun c22 => ?_)
            · skip
              replace h := ite_n c22 h
              refine lv_iconst (v := 2) hx hb dX4_sortFor_77 (by decide) ?_
              exact pei hx hb hr hlocks hA hw hK hS ⟨Option.some.inj h, rfl⟩ dX4_sortFor_78
            · skip
              replace h := ite_p c22 h
              refine lv_iconst (v := 3) hx hb dX4_sortFor_73 (by decide) ?_
              refine lv_goto (tgt := 78) hx hb dX4_sortFor_74 (by decide) ?_
              exact pei hx hb hr hlocks hA hw hK hS ⟨Option.some.inj h, rfl⟩ dX4_sortFor_78
          · skip
            replace h := ite_n c16 h
            refine lv_iconst (v := 4) hx hb dX4_sortFor_58 (by decide) ?_
            exact pei hx hb hr hlocks hA hw hK hS ⟨Option.some.inj h, rfl⟩ dX4_sortFor_59
        · skip
          replace h := ite_n c10 h
          refine lv_iconst (v := 1) hx hb dX4_sortFor_43 (by decide) ?_
          exact pei hx hb hr hlocks hA hw hK hS ⟨Option.some.inj h, rfl⟩ dX4_sortFor_44
      · skip
        replace h := ite_p c9 h
        refine lv_iconst (v := 0) hx hb dX4_sortFor_34 (by decide) ?_
        exact pei hx hb hr hlocks hA hw hK hS ⟨Option.some.inj h, rfl⟩ dX4_sortFor_35
def f_X4_homeFor (σ : PvS) (u0 : Nat) : Option (Option Nat) :=
  nm (σ.2.2.1 3 8 u0) (fun o1 => oc o1 (some (none)) (fun jo1 => nm (σ.2.2.1 3 8 u0) (fun o2 => oc o2 none (fun jo2 => ob1 (f_X2_isBox σ jo2) (fun r3 => if r3 = 0 then (nm (σ.2.2.1 3 8 u0) (fun o9 => oc o9 none (fun jo9 => nm (σ.2.2.1 2 1 jo9) (fun o10 => some (o10))))) else (nm (σ.2.2.1 3 8 u0) (fun o11 => some (o11))))))))
set_option maxHeartbeats 4000000 in
set_option maxRecDepth 100000 in
theorem c_X4_homeFor {l : Launch} {G : PvG} {tys : List (ClassId × FieldType)} {σ : PvS} (htys : tys = pvT G)  {u0 : Nat} (hu0 : u0 < pvM σ 3) {r : Option Nat} (h : f_X4_homeFor σ u0 = some r) : Met l yX4_homeFor (Cond.code yX4_homeFor cX4_homeFor 1 (some (.object "PinnaceView$Node")) :: WA) ({ frames := 1, cells := 0, slots := 0, locals := 20 }) (va_Pc [.ref (G.2.2.1 3 u0)] (pvU G tys σ)) (va_Qq (fun r' σ' => r' = r.map (G.2.2.1 3) ∧ σ' = σ ∧ ∀ j, r = some j → j < pvM σ' 3) (pvU G tys) (pvB G)) 0 0 (pvB G) := by
  refine Met.ofW (cc := cX4_homeFor) (maxL := 1) (ret := (some (.object "PinnaceView$Node"))) (by decide) rfl ?_
  intro p e s m args below meth c s₁ B hml hv
  obtain ⟨rfl, hw, hK, hA⟩ := hv
  have hx := B.exec
  have hb := B.bytes
  have hr := B.returns
  have hts0 := atoms_spec (ws := (Cond.code yX4_homeFor cX4_homeFor 1 (some (.object "PinnaceView$Node")) :: WA)) B.pre
  have hts : ∀ w ∈ WA, w.before _ s = true := fun w h => hts0 w (List.mem_cons_of_mem _ h)
  have hown : s.vm.findClass RX4 = some m.cls := findClass_of_methodNamed B.named
  have hlocks := B.notSynchronized
  have hS : va_S (pvB G) s.heap s.heap [] := va_S.rf
  have hl := lv_entry ([.ref (G.2.2.1 3 u0)]) (n := 1) (Nat.le_of_ble_eq_true rfl)
  rw [lg_entry_eq]
  generalize (lg_sl ([.ref (G.2.2.1 3 u0)]) ++ List.replicate (1 - (lg_sl ([.ref (G.2.2.1 3 u0)])).length) Slot.unset).toArray = ls at hl ⊢
  have hl : lv_has ls 1 [(0, .ref (G.2.2.1 3 u0))] := hl
  have hroot := pv_root hw
  unfold f_X4_homeFor at h
  refine lv_aload_n hx hb dX4_homeFor_0 rfl (lv_at hl 0 rfl) ?_
  obtain ⟨o1, eo1, h⟩ := nq_e h
  have ho1 := pv_cl hw eo1
  refine pgR (C := RX3) (T := TX3) (N := 14) hx hb hts hown hK hw 3 8 u0 hu0 (by decide) rfl rfl inF_X3 (by decide) rfl o1 eo1 (hts _ wm513) (fun _ h9 => h9) dX4_homeFor_1 ?_
  rcases o1 with _ | jo1
  · skip
    replace h := oc_n h
    refine lv_ifnonnullN hx hb dX4_homeFor_4 ?_
    refine lv_null hx hb dX4_homeFor_7 ?_
    exact peq (r := none) hx hb hr (Or.inl ⟨_, rfl⟩) hlocks hA hw hK hS ⟨by rw [← Option.some.inj h] <;> rfl, rfl, by rw [← Option.some.inj h]; exact (fun _ z => nomatch z)⟩ dX4_homeFor_8
  · skip
    replace h := oc_s h
    have hjo1 := ho1 jo1 rfl
    refine lv_ifnonnull (tgt := 9) hx hb dX4_homeFor_4 (by decide) ?_
    refine lv_aload_n hx hb dX4_homeFor_9 rfl (lv_at hl 0 rfl) ?_
    obtain ⟨o2, eo2, h⟩ := nq_e h
    have ho2 := pv_cl hw eo2
    refine pgR (C := RX3) (T := TX3) (N := 14) hx hb hts hown hK hw 3 8 u0 hu0 (by decide) rfl rfl inF_X3 (by decide) rfl o2 eo2 (hts _ wm513) (fun _ h9 => h9) dX4_homeFor_10 ?_
    rcases o2 with _ | jo2
    · cases (oc_n h)
    replace h := oc_s h
    have hjo2 := ho2 jo2 rfl
    refine pgL (C := RX3) (T := TX3) (N := 14) hx hb hts hown hK hw 3 6 jo2 hjo2 (by decide) rfl rfl inF_X3 (by decide) (v := .ref (G.2.2.1 2 jo2)) rfl (hts _ wm482) (fun _ h9 => h9) dX4_homeFor_13 ?_
    obtain ⟨r3, e4, h⟩ := ob1_e h
    refine pcalli (va_runV (As := []) (rest := []) ⟨hx, hb, hml, hown, hts⟩ (c_X2_isBox (l := l) (G := G) (tys := tys) (σ := σ) htys hjo2 e4) (cwV 0 hts (gVA wm519 wm520 wm521 wm81 wm522) rfl rfl rfl (by decide +kernel) ⟨(Nat.le_of_ble_eq_true rfl), (Nat.le_of_ble_eq_true rfl)⟩) (pv_preV hA hS hw hK 2 jo2 hjo2 (by decide) rfl []) rfl rfl hl.1 rfl (lv_room (Nat.le_of_ble_eq_true rfl)) dX4_homeFor_16 ⟨Nat.zero_le _, Nat.zero_le _⟩) hS (fun r6 s7 H locs hp5 hw hS => ?_)
    obtain ⟨err3, esr3, hzr3⟩ := hp5
    obtain rfl := esr3.symm
    obtain rfl := err3.symm
    refine lv_if_eq (tgt := 29) hx hb dX4_homeFor_19 (by decide) (fun c8 => ?_) (fun c8 => ?_)
    · skip
      replace h := ite_p c8 h
      refine lv_aload_n hx hb dX4_homeFor_29 rfl (lv_at hl 0 rfl) ?_
      obtain ⟨o9, eo9, h⟩ := nq_e h
      have ho9 := pv_cl hw eo9
      refine pgR (C := RX3) (T := TX3) (N := 14) hx hb hts hown hK hw 3 8 u0 hu0 (by decide) rfl rfl inF_X3 (by decide) rfl o9 eo9 (hts _ wm513) (fun _ h9 => h9) dX4_homeFor_30 ?_
      rcases o9 with _ | jo9
      · cases (oc_n h)
      replace h := oc_s h
      have hjo9 := ho9 jo9 rfl
      refine pgL (C := RX3) (T := TX3) (N := 14) hx hb hts hown hK hw 3 6 jo9 hjo9 (by decide) rfl rfl inF_X3 (by decide) (v := .ref (G.2.2.1 2 jo9)) rfl (hts _ wm482) (fun _ h9 => h9) dX4_homeFor_33 ?_
      obtain ⟨o10, eo10, h⟩ := nq_e h
      have ho10 := pv_cl hw eo10
      refine pgR (C := RX2) (T := TX2) (N := 16) hx hb hts hown hK hw 2 1 jo9 hjo9 (by decide) rfl rfl inF_X2 (by decide) rfl o10 eo10 (hts _ wm504) (fun _ h9 => h9) dX4_homeFor_36 ?_
      exact peq (r := o10.map (G.2.2.1 3)) hx hb hr (Or.inl ⟨_, rfl⟩) hlocks hA hw hK hS ⟨by rw [← Option.some.inj h] <;> rfl, rfl, by rw [← Option.some.inj h]; exact (ho10)⟩ dX4_homeFor_39
    · skip
      replace h := ite_n c8 h
      refine lv_aload_n hx hb dX4_homeFor_22 rfl (lv_at hl 0 rfl) ?_
      obtain ⟨o11, eo11, h⟩ := nq_e h
      have ho11 := pv_cl hw eo11
      refine pgR (C := RX3) (T := TX3) (N := 14) hx hb hts hown hK hw 3 8 u0 hu0 (by decide) rfl rfl inF_X3 (by decide) rfl o11 eo11 (hts _ wm513) (fun _ h9 => h9) dX4_homeFor_23 ?_
      refine lv_goto (tgt := 39) hx hb dX4_homeFor_26 (by decide) ?_
      exact peq (r := o11.map (G.2.2.1 3)) hx hb hr (Or.inl ⟨_, rfl⟩) hlocks hA hw hK hS ⟨by rw [← Option.some.inj h] <;> rfl, rfl, by rw [← Option.some.inj h]; exact (ho11)⟩ dX4_homeFor_39
def f_X4_prepare_2  : Nat → PvS → Int32 → Option PvS
  | 0, _, _ => none
  | n + 1, τ, xb2 => if (nI (τ.2.2.2.2 1).length) ≤ xb2 then (some τ) else (gd (vin xb2 (τ.2.2.2.2 1).length) (nm ((τ.2.2.2.2 1).getD xb2.toNatClampNeg 0) (fun y4 => ob1 (f_X4_sortFor τ y4) (fun r5 => nm (pvI τ 2 0 y4 r5) (fun σ10 => ob1 (f_X4_homeFor σ10 y4) (fun r11 => nm (pvR σ10 2 1 y4 r11) (fun σ16 => ob1 (f_X6_of σ16 0 y4 5) (fun r17 => ob1 (f_X6_of σ16 0 y4 4) (fun r22 => nm (pvI σ16 2 2 y4 (r17 + r22)) (fun σ27 => ob1 (f_X6_of σ27 0 y4 3) (fun r28 => nm (pvI σ27 2 3 y4 ((σ27.2.1 2 2 y4) + r28)) (fun σ33 => ob1 (f_X2_isBox σ33 y4) (fun r34 => if r34 = 0 then (nm (pvI σ33 2 4 y4 0) (fun σ40 => f_X4_prepare_2 n σ40 (xb2 + 1))) else (ob1 (f_X6_of σ33 0 y4 11) (fun r41 => if r41 = 1 then (nm (pvI σ33 2 4 y4 1) (fun σ48 => f_X4_prepare_2 n σ48 (xb2 + 1))) else (nm (pvI σ33 2 4 y4 0) (fun σ47 => f_X4_prepare_2 n σ47 (xb2 + 1))))))))))))))))))
theorem f_X4_prepare_2_z {τ : PvS} {xb2 : Int32} : f_X4_prepare_2 0 τ xb2 = none := rfl
theorem f_X4_prepare_2_s {n : Nat} {τ : PvS} {xb2 : Int32} : f_X4_prepare_2 (n + 1) τ xb2 = if (nI (τ.2.2.2.2 1).length) ≤ xb2 then (some τ) else (gd (vin xb2 (τ.2.2.2.2 1).length) (nm ((τ.2.2.2.2 1).getD xb2.toNatClampNeg 0) (fun y4 => ob1 (f_X4_sortFor τ y4) (fun r5 => nm (pvI τ 2 0 y4 r5) (fun σ10 => ob1 (f_X4_homeFor σ10 y4) (fun r11 => nm (pvR σ10 2 1 y4 r11) (fun σ16 => ob1 (f_X6_of σ16 0 y4 5) (fun r17 => ob1 (f_X6_of σ16 0 y4 4) (fun r22 => nm (pvI σ16 2 2 y4 (r17 + r22)) (fun σ27 => ob1 (f_X6_of σ27 0 y4 3) (fun r28 => nm (pvI σ27 2 3 y4 ((σ27.2.1 2 2 y4) + r28)) (fun σ33 => ob1 (f_X2_isBox σ33 y4) (fun r34 => if r34 = 0 then (nm (pvI σ33 2 4 y4 0) (fun σ40 => f_X4_prepare_2 n σ40 (xb2 + 1))) else (ob1 (f_X6_of σ33 0 y4 11) (fun r41 => if r41 = 1 then (nm (pvI σ33 2 4 y4 1) (fun σ48 => f_X4_prepare_2 n σ48 (xb2 + 1))) else (nm (pvI σ33 2 4 y4 0) (fun σ47 => f_X4_prepare_2 n σ47 (xb2 + 1)))))))))))))))))) := rfl
def f_X4_prepare (σ : PvS)  : Option PvS :=
  f_X4_prepare_2 fu σ 0
set_option maxHeartbeats 4000000 in
set_option maxRecDepth 100000 in
theorem c_X4_prepare {l : Launch} {G : PvG} {tys : List (ClassId × FieldType)} {σ : PvS} (htys : tys = pvT G)    {σ1 : PvS} (h : f_X4_prepare σ = some σ1) : Met l yX4_prepare (Cond.code yX4_prepare cX4_prepare 5 none :: WA) ({ frames := 3, cells := 0, slots := 0, locals := 64 }) (va_Pc [.ref (G.2.2.1 4 0), .ref (G.2.2.1 10 1)] (pvU G tys σ)) (va_Qv (fun σ' => σ' = σ1 ∧ σ'.1 = σ.1) (pvU G tys) (pvB G)) 0 0 (pvB G) := by
  refine Met.ofW (cc := cX4_prepare) (maxL := 5) (ret := none) (by decide) rfl ?_
  intro p e s m args below meth c s₁ B hml hv
  obtain ⟨rfl, hw, hK, hA⟩ := hv
  have hx := B.exec
  have hb := B.bytes
  have hr := B.returns
  have hts0 := atoms_spec (ws := (Cond.code yX4_prepare cX4_prepare 5 none :: WA)) B.pre
  have hts : ∀ w ∈ WA, w.before _ s = true := fun w h => hts0 w (List.mem_cons_of_mem _ h)
  have hown : s.vm.findClass RX4 = some m.cls := findClass_of_methodNamed B.named
  have hlocks := B.notSynchronized
  have hS : va_S (pvB G) s.heap s.heap [] := va_S.rf
  have hl := lv_entry ([.ref (G.2.2.1 4 0), .ref (G.2.2.1 10 1)]) (n := 5) (Nat.le_of_ble_eq_true rfl)
  rw [lg_entry_eq]
  generalize (lg_sl ([.ref (G.2.2.1 4 0), .ref (G.2.2.1 10 1)]) ++ List.replicate (5 - (lg_sl ([.ref (G.2.2.1 4 0), .ref (G.2.2.1 10 1)])).length) Slot.unset).toArray = ls at hl ⊢
  have hl : lv_has ls 5 [(0, .ref (G.2.2.1 4 0)), (1, .ref (G.2.2.1 10 1))] := hl
  have hroot := pv_root hw
  unfold f_X4_prepare at h
  have loop2 : ∀ (n : Nat) (τ : PvS) (xb2 : Int32), (τ.1 = σ.1) → f_X4_prepare_2 n τ xb2 = some σ1 → ∀ (H : Heap) (locs : List Loc), pvW G τ H → va_S (pvB G) s.heap H locs → ∀ (ls : Array Slot), lv_has ls 5 [(0, .ref (G.2.2.1 4 0)), (1, .ref (G.2.2.1 10 1)), (2, .int xb2)] → W p l e (headSpec (Cond.code yX4_prepare cX4_prepare 5 none :: WA) ({ frames := 3, cells := 0, slots := 0, locals := 64 } : Room)).room s m ([.ref (G.2.2.1 4 0), .ref (G.2.2.1 10 1)] : List Value).toArray below meth c H locs 0 0 (MQ below (va_Qv (fun σ' => σ' = σ1 ∧ σ'.1 = σ.1) (pvU G tys) (pvB G)) ([.ref (G.2.2.1 4 0), .ref (G.2.2.1 10 1)] : List Value).toArray s 0 0 (pvB G)) (F0 m 2 ls []) := by
    intro n2
    induction n2 with
    | zero =>
      intro τ xb2 hcτ h
      rw [f_X4_prepare_2_z] at h
      cases h
    | succ n2 ih2 =>
      intro τ xb2 hcτ h H locs hw hS ls hl
      rw [f_X4_prepare_2_s] at h
      refine lv_iload_n hx hb dX4_prepare_2 rfl (lv_at hl 2 rfl) ?_
      refine lv_aload_n hx hb dX4_prepare_3 rfl (lv_at hl 1 rfl) ?_
      refine pcalli (va_runV (As := []) (rest := [.int xb2]) ⟨hx, hb, hml, hown, hts⟩ (c_lsize (l := l) (G := G) (tys := tys) (σ := τ) (j := 1) (show 1 < τ.1 0 + 3 from Nat.lt_of_lt_of_le (by decide) (Nat.le_add_left 3 _))) (cwV 0 hts (gVA wm507 wm251 wm252 wm13 wm253) rfl rfl rfl (by decide +kernel) ⟨(Nat.le_of_ble_eq_true rfl), (Nat.le_of_ble_eq_true rfl)⟩) (pl_preV hA hS hw hK 1 (show 1 < τ.1 0 + 3 from Nat.lt_of_lt_of_le (by decide) (Nat.le_add_left 3 _)) []) rfl rfl hl.1 rfl (lv_room (Nat.le_of_ble_eq_true rfl)) dX4_prepare_4 ⟨Nat.zero_le _, Nat.zero_le _⟩) hS (fun rz1 sz1 H locs hpz1 hw hS => ?_)
      obtain ⟨rfl, ez1⟩ := hpz1
      obtain rfl := ez1.symm
      refine lv_icmp_ge (tgt := 126) hx hb dX4_prepare_7 (by decide) (fun c2 => ?_) (fun c2 => ?_)
      · skip
        replace h := ite_p c2 h
        exact pev hx hb hr hlocks hA hw hK hS (psv h hcτ) dX4_prepare_126
      · skip
        replace h := ite_n c2 h
        refine lv_aload_n hx hb dX4_prepare_10 rfl (lv_at hl 1 rfl) ?_
        refine lv_iload_n hx hb dX4_prepare_11 rfl (lv_at hl 2 rfl) ?_
        obtain ⟨g3, h⟩ := gd_e h
        obtain ⟨y4, ey4, h⟩ := nq_e h
        refine pcallg (κ := 3) rfl (va_runV (As := [.int xb2]) (rest := []) ⟨hx, hb, hml, hown, hts⟩ (c_lgetI (l := l) (G := G) (tys := tys) (σ := τ) htys (j := 1) (show 1 < τ.1 0 + 3 from Nat.lt_of_lt_of_le (by decide) (Nat.le_add_left 3 _)) g3 (pl_len2 hw 1 (show 1 < τ.1 0 + 3 from Nat.lt_of_lt_of_le (by decide) (Nat.le_add_left 3 _)))) (cwV 1 hts (gVA wm508 wm255 wm256 wm13 wm257) rfl rfl rfl (by decide +kernel) ⟨(Nat.le_of_ble_eq_true rfl), (Nat.le_of_ble_eq_true rfl)⟩) (pl_preV hA hS hw hK 1 (show 1 < τ.1 0 + 3 from Nat.lt_of_lt_of_le (by decide) (Nat.le_add_left 3 _)) [.int xb2]) rfl rfl hl.1 rfl (lv_room (Nat.le_of_ble_eq_true rfl)) dX4_prepare_12 ⟨Nat.zero_le _, Nat.zero_le _⟩) hS (fun zy4 ezy4 H locs hw hS => ?_)
        obtain rfl : y4 = zy4 := ey4.trans ezy4.symm
        have hy4 : y4 < pvM τ 3 := by rw [ey4]; exact pl_lt hw 1 (show 1 < τ.1 0 + 3 from Nat.lt_of_lt_of_le (by decide) (Nat.le_add_left 3 _)) _ (Nat.not_le.mp fun q => g3 (Or.inr q)) rfl
        have hy4 : y4 < pvM σ 3 := lt_c hcτ.symm 3 hy4
        refine pcast hx hb hown hK hw 3 y4 (lt_c hcτ 3 hy4) (by decide) rfl (hts _ wm502) dX4_prepare_15 ?_
        refine lv_astore_n (lv' := [(3, .ref (G.2.2.1 3 y4)), (0, .ref (G.2.2.1 4 0)), (1, .ref (G.2.2.1 10 1)), (2, .int xb2)]) hx hb dX4_prepare_18 rfl hl (by decide) rfl (fun ls hl => ?_)
        refine lv_aload_n hx hb dX4_prepare_19 rfl (lv_at hl 0 rfl) ?_
        refine pgL (C := RX3) (T := TX3) (N := 14) hx hb hts hown hK hw 3 6 y4 (lt_c hcτ 3 hy4) (by decide) rfl rfl inF_X3 (by decide) (v := .ref (G.2.2.1 2 y4)) rfl (hts _ wm482) (fun _ h9 => h9) dX4_prepare_20 ?_
        refine lv_astore (lv' := [(4, .ref (G.2.2.1 2 y4)), (3, .ref (G.2.2.1 3 y4)), (0, .ref (G.2.2.1 4 0)), (1, .ref (G.2.2.1 10 1)), (2, .int xb2)]) hx hb dX4_prepare_23 hl (by decide) rfl (fun ls hl => ?_)
        refine lv_aload hx hb dX4_prepare_25 (lv_at hl 0 rfl) ?_
        refine lv_aload_n hx hb dX4_prepare_27 rfl (lv_at hl 2 rfl) ?_
        refine lv_aload_n hx hb dX4_prepare_28 rfl (lv_at hl 1 rfl) ?_
        obtain ⟨r5, e6, h⟩ := ob1_e h
        refine pcalli (va_runV (As := [.ref (G.2.2.1 3 y4)]) (rest := [.ref (G.2.2.1 2 y4)]) ⟨hx, hb, hml, hown, hts⟩ (c_X4_sortFor (l := l) (G := G) (tys := tys) (σ := τ) htys (lt_c hcτ 3 hy4) e6) (cwV 1 hts (gVA wm509 wm510 wm511 wm17 wm512) rfl rfl rfl (by decide +kernel) ⟨(Nat.le_of_ble_eq_true rfl), (Nat.le_of_ble_eq_true rfl)⟩) (pv_preV hA hS hw hK 4 0 Nat.one_pos (by decide) rfl [.ref (G.2.2.1 3 y4)]) rfl rfl hl.1 rfl (lv_room (Nat.le_of_ble_eq_true rfl)) dX4_prepare_29 ⟨Nat.zero_le _, Nat.zero_le _⟩) hS (fun r8 s9 H locs hp7 hw hS => ?_)
        obtain ⟨err5, esr5⟩ := hp7
        obtain rfl := esr5.symm
        obtain rfl := err5.symm
        obtain ⟨σ10, eσ10, h⟩ := nq_e h
        refine ppI (ty := .int) (C := RX2) (T := TX2) (N := 16) hx hb hts hown hK hw hS 2 0 y4 (lt_c hcτ 2 hy4) (by decide) rfl rfl inF_X2 (by decide) rfl (by decide) tyX2_ok nmX2 (hts _ wm503) (fun _ h9 => h9) rfl (by decide +kernel) rfl rfl dX4_prepare_32 (fun H locs hw hS => ?_)
        rw [← eσ10] at hw
        have hcσ10 : σ10.1 = σ.1 := by rw [eσ10]; exact hcτ
        refine lv_aload hx hb dX4_prepare_35 (lv_at hl 0 rfl) ?_
        refine lv_aload_n hx hb dX4_prepare_37 rfl (lv_at hl 1 rfl) ?_
        obtain ⟨r11, e12, h⟩ := ob1_e h
        refine pcallq (va_runS (As := [.ref (G.2.2.1 3 y4)]) (rest := [.ref (G.2.2.1 2 y4)]) ⟨hx, hb, hml, hown, hts⟩ (c_X4_homeFor (l := l) (G := G) (tys := tys) (σ := σ10) htys (lt_c hcσ10 3 hy4) e12) (va_cwS 1 hts (gSA wm516 wm517 wm17 wm518) rfl rfl rfl (by decide +kernel) ⟨(Nat.le_of_ble_eq_true rfl), (Nat.le_of_ble_eq_true rfl)⟩) (pv_preS hA hS hw hK [.ref (G.2.2.1 3 y4)]) rfl rfl hl.1 rfl (lv_room (Nat.le_of_ble_eq_true rfl)) dX4_prepare_38 ⟨Nat.zero_le _, Nat.zero_le _⟩) hS (fun r14 s15 H locs hp13 hw hS => ?_)
        obtain ⟨err11, esr11, hzr11⟩ := hp13
        obtain rfl := esr11.symm
        subst err11
        have hzr11 : ∀ j, r11 = some j → j < pvM σ 3 := fun j z => lt_c hcσ10.symm 3 (hzr11 j z)
        obtain ⟨σ16, eσ16, h⟩ := nq_e h
        refine ppR (ty := .object "PinnaceView$Node") (C := RX2) (T := TX2) (N := 16) hx hb hts hown hK hw hS 2 1 y4 (lt_c hcσ10 2 hy4) (by decide) rfl rfl inF_X2 (by decide) rfl tyX2_ok nmX2 (hts _ wm504) (fun _ h9 => h9) rfl (by decide +kernel) (v := r11) (fun j z => lt_c hcσ10 3 (hzr11 j z)) (by cases r11 <;> rfl) (by cases r11 <;> rfl) dX4_prepare_41 (fun H locs hw hS => ?_)
        rw [← eσ16] at hw
        have hcσ16 : σ16.1 = σ.1 := by rw [eσ16]; exact hcσ10
        refine lv_aload hx hb dX4_prepare_44 (lv_at hl 0 rfl) ?_
        refine lv_aload_n hx hb dX4_prepare_46 rfl (lv_at hl 2 rfl) ?_
        refine pgL (C := RX4) (T := TX4) (N := 6) hx hb hts hown hK hw 4 0 0 Nat.one_pos (by decide) rfl rfl inF_X4 (by decide) (v := .ref (G.2.2.1 6 0)) rfl (hts _ wm171) (fun _ h9 => h9) dX4_prepare_47 ?_
        refine lv_aload_n hx hb dX4_prepare_50 rfl (lv_at hl 1 rfl) ?_
        refine lv_iconst (v := 5) hx hb dX4_prepare_51 (by decide) ?_
        obtain ⟨r17, e18, h⟩ := ob1_e h
        refine pcalli (va_runV (As := [.ref (G.2.2.1 3 y4), .int 5]) (rest := [.ref (G.2.2.1 2 y4)]) ⟨hx, hb, hml, hown, hts⟩ (c_X6_of (l := l) (G := G) (tys := tys) (σ := σ16) htys (show 0 < 2 from by decide) (lt_c hcσ16 3 hy4) e18) (cwV 2 hts (gVA wm515 wm473 wm474 wm23 wm475) rfl rfl rfl (by decide +kernel) ⟨(Nat.le_of_ble_eq_true rfl), (Nat.le_of_ble_eq_true rfl)⟩) (pv_preV hA hS hw hK 6 0 (show 0 < 2 from by decide) (by decide) rfl [.ref (G.2.2.1 3 y4), .int 5]) rfl rfl hl.1 rfl (lv_room (Nat.le_of_ble_eq_true rfl)) dX4_prepare_52 ⟨Nat.zero_le _, Nat.zero_le _⟩) hS (fun r20 s21 H locs hp19 hw hS => ?_)
        obtain ⟨err17, esr17⟩ := hp19
        obtain rfl := esr17.symm
        obtain rfl := err17.symm
        refine lv_aload_n hx hb dX4_prepare_55 rfl (lv_at hl 2 rfl) ?_
        refine pgL (C := RX4) (T := TX4) (N := 6) hx hb hts hown hK hw 4 0 0 Nat.one_pos (by decide) rfl rfl inF_X4 (by decide) (v := .ref (G.2.2.1 6 0)) rfl (hts _ wm171) (fun _ h9 => h9) dX4_prepare_56 ?_
        refine lv_aload_n hx hb dX4_prepare_59 rfl (lv_at hl 1 rfl) ?_
        refine lv_iconst (v := 4) hx hb dX4_prepare_60 (by decide) ?_
        obtain ⟨r22, e23, h⟩ := ob1_e h
        refine pcalli (va_runV (As := [.ref (G.2.2.1 3 y4), .int 4]) (rest := [.int r17, .ref (G.2.2.1 2 y4)]) ⟨hx, hb, hml, hown, hts⟩ (c_X6_of (l := l) (G := G) (tys := tys) (σ := σ16) htys (show 0 < 2 from by decide) (lt_c hcσ16 3 hy4) e23) (cwV 2 hts (gVA wm515 wm473 wm474 wm23 wm475) rfl rfl rfl (by decide +kernel) ⟨(Nat.le_of_ble_eq_true rfl), (Nat.le_of_ble_eq_true rfl)⟩) (pv_preV hA hS hw hK 6 0 (show 0 < 2 from by decide) (by decide) rfl [.ref (G.2.2.1 3 y4), .int 4]) rfl rfl hl.1 rfl (lv_room (Nat.le_of_ble_eq_true rfl)) dX4_prepare_61 ⟨Nat.zero_le _, Nat.zero_le _⟩) hS (fun r25 s26 H locs hp24 hw hS => ?_)
        obtain ⟨err22, esr22⟩ := hp24
        obtain rfl := esr22.symm
        obtain rfl := err22.symm
        refine lv_iadd hx hb dX4_prepare_64 ?_
        obtain ⟨σ27, eσ27, h⟩ := nq_e h
        refine ppI (ty := .int) (C := RX2) (T := TX2) (N := 16) hx hb hts hown hK hw hS 2 2 y4 (lt_c hcσ16 2 hy4) (by decide) rfl rfl inF_X2 (by decide) rfl (by decide) tyX2_ok nmX2 (hts _ wm505) (fun _ h9 => h9) rfl (by decide +kernel) rfl rfl dX4_prepare_65 (fun H locs hw hS => ?_)
        rw [← eσ27] at hw
        have hcσ27 : σ27.1 = σ.1 := by rw [eσ27]; exact hcσ16
        refine lv_aload hx hb dX4_prepare_68 (lv_at hl 0 rfl) ?_
        refine lv_aload hx hb dX4_prepare_70 (lv_at hl 0 rfl) ?_
        refine pgI (C := RX2) (T := TX2) (N := 16) hx hb hts hown hK hw 2 2 y4 (lt_c hcσ27 2 hy4) (by decide) rfl rfl inF_X2 (by decide) rfl (hts _ wm505) (fun _ h9 => h9) dX4_prepare_72 ?_
        refine lv_aload_n hx hb dX4_prepare_75 rfl (lv_at hl 2 rfl) ?_
        refine pgL (C := RX4) (T := TX4) (N := 6) hx hb hts hown hK hw 4 0 0 Nat.one_pos (by decide) rfl rfl inF_X4 (by decide) (v := .ref (G.2.2.1 6 0)) rfl (hts _ wm171) (fun _ h9 => h9) dX4_prepare_76 ?_
        refine lv_aload_n hx hb dX4_prepare_79 rfl (lv_at hl 1 rfl) ?_
        refine lv_iconst (v := 3) hx hb dX4_prepare_80 (by decide) ?_
        obtain ⟨r28, e29, h⟩ := ob1_e h
        refine pcalli (va_runV (As := [.ref (G.2.2.1 3 y4), .int 3]) (rest := [.int (σ27.2.1 2 2 y4), .ref (G.2.2.1 2 y4)]) ⟨hx, hb, hml, hown, hts⟩ (c_X6_of (l := l) (G := G) (tys := tys) (σ := σ27) htys (show 0 < 2 from by decide) (lt_c hcσ27 3 hy4) e29) (cwV 2 hts (gVA wm515 wm473 wm474 wm23 wm475) rfl rfl rfl (by decide +kernel) ⟨(Nat.le_of_ble_eq_true rfl), (Nat.le_of_ble_eq_true rfl)⟩) (pv_preV hA hS hw hK 6 0 (show 0 < 2 from by decide) (by decide) rfl [.ref (G.2.2.1 3 y4), .int 3]) rfl rfl hl.1 rfl (lv_room (Nat.le_of_ble_eq_true rfl)) dX4_prepare_81 ⟨Nat.zero_le _, Nat.zero_le _⟩) hS (fun r31 s32 H locs hp30 hw hS => ?_)
        obtain ⟨err28, esr28⟩ := hp30
        obtain rfl := esr28.symm
        obtain rfl := err28.symm
        refine lv_iadd hx hb dX4_prepare_84 ?_
        obtain ⟨σ33, eσ33, h⟩ := nq_e h
        refine ppI (ty := .int) (C := RX2) (T := TX2) (N := 16) hx hb hts hown hK hw hS 2 3 y4 (lt_c hcσ27 2 hy4) (by decide) rfl rfl inF_X2 (by decide) rfl (by decide) tyX2_ok nmX2 (hts _ wm483) (fun _ h9 => h9) rfl (by decide +kernel) rfl rfl dX4_prepare_85 (fun H locs hw hS => ?_)
        rw [← eσ33] at hw
        have hcσ33 : σ33.1 = σ.1 := by rw [eσ33]; exact hcσ27
        refine lv_aload hx hb dX4_prepare_88 (lv_at hl 0 rfl) ?_
        refine lv_aload hx hb dX4_prepare_90 (lv_at hl 0 rfl) ?_
        obtain ⟨r34, e35, h⟩ := ob1_e h
        refine pcalli (va_runV (As := []) (rest := [.ref (G.2.2.1 2 y4)]) ⟨hx, hb, hml, hown, hts⟩ (c_X2_isBox (l := l) (G := G) (tys := tys) (σ := σ33) htys (lt_c hcσ33 2 hy4) e35) (cwV 0 hts (gVA wm519 wm520 wm521 wm81 wm522) rfl rfl rfl (by decide +kernel) ⟨(Nat.le_of_ble_eq_true rfl), (Nat.le_of_ble_eq_true rfl)⟩) (pv_preV hA hS hw hK 2 y4 (lt_c hcσ33 2 hy4) (by decide) rfl []) rfl rfl hl.1 rfl (lv_room (Nat.le_of_ble_eq_true rfl)) dX4_prepare_92 ⟨Nat.zero_le _, Nat.zero_le _⟩) hS (fun r37 s38 H locs hp36 hw hS => ?_)
        obtain ⟨err34, esr34, hzr34⟩ := hp36
        obtain rfl := esr34.symm
        obtain rfl := err34.symm
        refine lv_if_eq (tgt := 116) hx hb dX4_prepare_95 (by decide) (fun c39 => ?_) (fun c39 => ?_)
        · skip
          replace h := ite_p c39 h
          refine lv_iconst (v := 0) hx hb dX4_prepare_116 (by decide) ?_
          obtain ⟨σ40, eσ40, h⟩ := nq_e h
          refine ppI (ty := .boolean) (C := RX2) (T := TX2) (N := 16) hx hb hts hown hK hw hS 2 4 y4 (lt_c hcσ33 2 hy4) (by decide) rfl rfl inF_X2 (by decide) rfl (by decide) tyX2_ok nmX2 (hts _ wm506) (fun _ h9 => h9) rfl (by decide +kernel) (is01_nar (Or.inl rfl)) (is01_fit (Or.inl rfl)) dX4_prepare_117 (fun H locs hw hS => ?_)
          rw [← eσ40] at hw
          have hcσ40 : σ40.1 = σ.1 := by rw [eσ40]; exact hcσ33
          refine lv_iinc (v := xb2 + 1) (lv' := [(2, .int (xb2 + 1)), (4, .ref (G.2.2.1 2 y4)), (3, .ref (G.2.2.1 3 y4)), (0, .ref (G.2.2.1 4 0)), (1, .ref (G.2.2.1 10 1))]) hx hb dX4_prepare_120 hl (k := 4) rfl (by rfl) (by decide) rfl (fun ls hl => ?_)
          refine lv_goto (tgt := 2) hx hb dX4_prepare_123 (by decide) ?_
          exact ih2 σ40 (xb2 + 1) hcσ40 h _ _ hw hS ls (lv_sub hl [3, 4, 0] rfl)
        · skip
          replace h := ite_n c39 h
          refine lv_aload_n hx hb dX4_prepare_98 rfl (lv_at hl 2 rfl) ?_
          refine pgL (C := RX4) (T := TX4) (N := 6) hx hb hts hown hK hw 4 0 0 Nat.one_pos (by decide) rfl rfl inF_X4 (by decide) (v := .ref (G.2.2.1 6 0)) rfl (hts _ wm171) (fun _ h9 => h9) dX4_prepare_99 ?_
          refine lv_aload_n hx hb dX4_prepare_102 rfl (lv_at hl 1 rfl) ?_
          refine lv_bipush (v := 11) hx hb dX4_prepare_103 (by decide) ?_
          obtain ⟨r41, e42, h⟩ := ob1_e h
          refine pcalli (va_runV (As := [.ref (G.2.2.1 3 y4), .int 11]) (rest := [.ref (G.2.2.1 2 y4)]) ⟨hx, hb, hml, hown, hts⟩ (c_X6_of (l := l) (G := G) (tys := tys) (σ := σ33) htys (show 0 < 2 from by decide) (lt_c hcσ33 3 hy4) e42) (cwV 2 hts (gVA wm515 wm473 wm474 wm23 wm475) rfl rfl rfl (by decide +kernel) ⟨(Nat.le_of_ble_eq_true rfl), (Nat.le_of_ble_eq_true rfl)⟩) (pv_preV hA hS hw hK 6 0 (show 0 < 2 from by decide) (by decide) rfl [.ref (G.2.2.1 3 y4), .int 11]) rfl rfl hl.1 rfl (lv_room (Nat.le_of_ble_eq_true rfl)) dX4_prepare_105 ⟨Nat.zero_le _, Nat.zero_le _⟩) hS (fun r44 s45 H locs hp43 hw hS => ?_)
          obtain ⟨err41, esr41⟩ := hp43
          obtain rfl := esr41.symm
          obtain rfl := err41.symm
          refine lv_iconst (v := 1) hx hb dX4_prepare_108 (by decide) ?_
          refine lv_icmp_ne (tgt := 116) hx hb dX4_prepare_109 (by decide) (fun c46 => ?_) (fun c46 => ?_)
          · skip
            replace h := ite_n c46 h
            refine lv_iconst (v := 0) hx hb dX4_prepare_116 (by decide) ?_
            obtain ⟨σ47, eσ47, h⟩ := nq_e h
            refine ppI (ty := .boolean) (C := RX2) (T := TX2) (N := 16) hx hb hts hown hK hw hS 2 4 y4 (lt_c hcσ33 2 hy4) (by decide) rfl rfl inF_X2 (by decide) rfl (by decide) tyX2_ok nmX2 (hts _ wm506) (fun _ h9 => h9) rfl (by decide +kernel) (is01_nar (Or.inl rfl)) (is01_fit (Or.inl rfl)) dX4_prepare_117 (fun H locs hw hS => ?_)
            rw [← eσ47] at hw
            have hcσ47 : σ47.1 = σ.1 := by rw [eσ47]; exact hcσ33
            refine lv_iinc (v := xb2 + 1) (lv' := [(2, .int (xb2 + 1)), (4, .ref (G.2.2.1 2 y4)), (3, .ref (G.2.2.1 3 y4)), (0, .ref (G.2.2.1 4 0)), (1, .ref (G.2.2.1 10 1))]) hx hb dX4_prepare_120 hl (k := 4) rfl (by rfl) (by decide) rfl (fun ls hl => ?_)
            refine lv_goto (tgt := 2) hx hb dX4_prepare_123 (by decide) ?_
            exact ih2 σ47 (xb2 + 1) hcσ47 h _ _ hw hS ls (lv_sub hl [3, 4, 0] rfl)
          · skip
            replace h := ite_p c46 h
            refine lv_iconst (v := 1) hx hb dX4_prepare_112 (by decide) ?_
            refine lv_goto (tgt := 117) hx hb dX4_prepare_113 (by decide) ?_
            obtain ⟨σ48, eσ48, h⟩ := nq_e h
            refine ppI (ty := .boolean) (C := RX2) (T := TX2) (N := 16) hx hb hts hown hK hw hS 2 4 y4 (lt_c hcσ33 2 hy4) (by decide) rfl rfl inF_X2 (by decide) rfl (by decide) tyX2_ok nmX2 (hts _ wm506) (fun _ h9 => h9) rfl (by decide +kernel) (is01_nar (Or.inr rfl)) (is01_fit (Or.inr rfl)) dX4_prepare_117 (fun H locs hw hS => ?_)
            rw [← eσ48] at hw
            have hcσ48 : σ48.1 = σ.1 := by rw [eσ48]; exact hcσ33
            refine lv_iinc (v := xb2 + 1) (lv' := [(2, .int (xb2 + 1)), (4, .ref (G.2.2.1 2 y4)), (3, .ref (G.2.2.1 3 y4)), (0, .ref (G.2.2.1 4 0)), (1, .ref (G.2.2.1 10 1))]) hx hb dX4_prepare_120 hl (k := 4) rfl (by rfl) (by decide) rfl (fun ls hl => ?_)
            refine lv_goto (tgt := 2) hx hb dX4_prepare_123 (by decide) ?_
            exact ih2 σ48 (xb2 + 1) hcσ48 h _ _ hw hS ls (lv_sub hl [3, 4, 0] rfl)
  refine lv_iconst (v := 0) hx hb dX4_prepare_0 (by decide) ?_
  refine lv_istore_n (lv' := [(2, .int 0), (0, .ref (G.2.2.1 4 0)), (1, .ref (G.2.2.1 10 1))]) hx hb dX4_prepare_1 rfl hl (by decide) rfl (fun ls hl => ?_)
  exact loop2 fu σ 0 rfl h _ _ hw hS ls (lv_sub hl [1, 2, 0] rfl)
def f_X4_widthOr (σ : PvS) (u1 : Nat) (x2 : Int32) : Option Int32 :=
  ob1 (f_X6_of σ 0 u1 1) (fun r1 => if r1 = (-1) then (some (imax 0 x2)) else (some r1))
set_option maxHeartbeats 4000000 in
set_option maxRecDepth 100000 in
theorem c_X4_widthOr {l : Launch} {G : PvG} {tys : List (ClassId × FieldType)} {σ : PvS} (htys : tys = pvT G)  {u1 : Nat} {x2 : Int32} (hu1 : u1 < pvM σ 3) {r : Int32} (h : f_X4_widthOr σ u1 x2 = some r) : Met l yX4_widthOr (Cond.code yX4_widthOr cX4_widthOr 4 (some .int) :: WA) ({ frames := 1, cells := 0, slots := 0, locals := 24 }) (va_Pc [.ref (G.2.2.1 4 0), .ref (G.2.2.1 3 u1), .int x2] (pvU G tys σ)) (va_Qi (fun r' σ' => r' = r ∧ σ' = σ) (pvU G tys) (pvB G)) 0 0 (pvB G) := by
  refine Met.ofW (cc := cX4_widthOr) (maxL := 4) (ret := (some .int)) (by decide) rfl ?_
  intro p e s m args below meth c s₁ B hml hv
  obtain ⟨rfl, hw, hK, hA⟩ := hv
  have hx := B.exec
  have hb := B.bytes
  have hr := B.returns
  have hts0 := atoms_spec (ws := (Cond.code yX4_widthOr cX4_widthOr 4 (some .int) :: WA)) B.pre
  have hts : ∀ w ∈ WA, w.before _ s = true := fun w h => hts0 w (List.mem_cons_of_mem _ h)
  have hown : s.vm.findClass RX4 = some m.cls := findClass_of_methodNamed B.named
  have hlocks := B.notSynchronized
  have hS : va_S (pvB G) s.heap s.heap [] := va_S.rf
  have hl := lv_entry ([.ref (G.2.2.1 4 0), .ref (G.2.2.1 3 u1), .int x2]) (n := 4) (Nat.le_of_ble_eq_true rfl)
  rw [lg_entry_eq]
  generalize (lg_sl ([.ref (G.2.2.1 4 0), .ref (G.2.2.1 3 u1), .int x2]) ++ List.replicate (4 - (lg_sl ([.ref (G.2.2.1 4 0), .ref (G.2.2.1 3 u1), .int x2])).length) Slot.unset).toArray = ls at hl ⊢
  have hl : lv_has ls 4 [(0, .ref (G.2.2.1 4 0)), (1, .ref (G.2.2.1 3 u1)), (2, .int x2)] := hl
  have hroot := pv_root hw
  unfold f_X4_widthOr at h
  refine lv_aload_n hx hb dX4_widthOr_0 rfl (lv_at hl 0 rfl) ?_
  refine pgL (C := RX4) (T := TX4) (N := 6) hx hb hts hown hK hw 4 0 0 Nat.one_pos (by decide) rfl rfl inF_X4 (by decide) (v := .ref (G.2.2.1 6 0)) rfl (hts _ wm171) (fun _ h9 => h9) dX4_widthOr_1 ?_
  refine lv_aload_n hx hb dX4_widthOr_4 rfl (lv_at hl 1 rfl) ?_
  refine lv_iconst (v := 1) hx hb dX4_widthOr_5 (by decide) ?_
  obtain ⟨r1, e2, h⟩ := ob1_e h
  refine pcalli (va_runV (As := [.ref (G.2.2.1 3 u1), .int 1]) (rest := []) ⟨hx, hb, hml, hown, hts⟩ (c_X6_of (l := l) (G := G) (tys := tys) (σ := σ) htys (show 0 < 2 from by decide) hu1 e2) (cwV 2 hts (gVA wm515 wm473 wm474 wm23 wm475) rfl rfl rfl (by decide +kernel) ⟨(Nat.le_of_ble_eq_true rfl), (Nat.le_of_ble_eq_true rfl)⟩) (pv_preV hA hS hw hK 6 0 (show 0 < 2 from by decide) (by decide) rfl [.ref (G.2.2.1 3 u1), .int 1]) rfl rfl hl.1 rfl (lv_room (Nat.le_of_ble_eq_true rfl)) dX4_widthOr_6 ⟨Nat.zero_le _, Nat.zero_le _⟩) hS (fun r4 s5 H locs hp3 hw hS => ?_)
  obtain ⟨err1, esr1⟩ := hp3
  obtain rfl := esr1.symm
  obtain rfl := err1.symm
  refine lv_istore_n (lv' := [(3, .int r1), (0, .ref (G.2.2.1 4 0)), (1, .ref (G.2.2.1 3 u1)), (2, .int x2)]) hx hb dX4_widthOr_9 rfl hl (by decide) rfl (fun ls hl => ?_)
  refine lv_iload_n hx hb dX4_widthOr_10 rfl (lv_at hl 0 rfl) ?_
  refine lv_iconst (v := (-1)) hx hb dX4_widthOr_11 (by decide) ?_
  refine lv_icmp_ne (tgt := 23) hx hb dX4_widthOr_12 (by decide) (fun c6 => ?_) (fun c6 => ?_)
  · skip
    replace h := ite_n c6 h
    refine lv_iload_n hx hb dX4_widthOr_23 rfl (lv_at hl 0 rfl) ?_
    exact pei hx hb hr hlocks hA hw hK hS ⟨Option.some.inj h, rfl⟩ dX4_widthOr_24
  · skip
    replace h := ite_p c6 h
    refine lv_iconst (v := 0) hx hb dX4_widthOr_15 (by decide) ?_
    refine lv_iload_n hx hb dX4_widthOr_16 rfl (lv_at hl 3 rfl) ?_
    refine pmmax hx hb (hml.trans hl.1.symm) hown (hts _ wm533) (hts _ wm111) (hts _ wm112) (hts _ wm113) (Nat.le_of_ble_eq_true rfl) (Nat.le_of_ble_eq_true rfl) (Nat.zero_le _) (Nat.zero_le _) dX4_widthOr_17 ?_
    refine lv_goto (tgt := 24) hx hb dX4_widthOr_20 (by decide) ?_
    exact pei hx hb hr hlocks hA hw hK hS ⟨Option.some.inj h, rfl⟩ dX4_widthOr_24
def f_X4_addToWish_14  : Nat → PvS → Nat → Nat → Int32 → Int32 → Option PvS
  | 0, _, _, _, _, _ => none
  | n + 1, τ, ub1, ub2, xb3, xb4 => if (τ.2.1 3 9 ub1) ≤ xb4 then (some τ) else (ob1 (f_X3_lettersOf τ ub1 xb4) (fun r2 => nm (pvI τ 1 4 ub2 ((τ.2.1 1 4 ub2) + (r2 * xb3))) (fun σ7 => nm (pvI σ7 1 3 ub2 (imax (σ7.2.1 1 3 ub2) (σ7.2.1 1 4 ub2))) (fun σ8 => nm (pvI σ8 1 4 ub2 ((σ8.2.1 1 4 ub2) + xb3)) (fun σ9 => f_X4_addToWish_14 n σ9 ub1 ub2 xb3 (xb4 + 1))))))
theorem f_X4_addToWish_14_z {τ : PvS} {ub1 : Nat} {ub2 : Nat} {xb3 : Int32} {xb4 : Int32} : f_X4_addToWish_14 0 τ ub1 ub2 xb3 xb4 = none := rfl
theorem f_X4_addToWish_14_s {n : Nat} {τ : PvS} {ub1 : Nat} {ub2 : Nat} {xb3 : Int32} {xb4 : Int32} : f_X4_addToWish_14 (n + 1) τ ub1 ub2 xb3 xb4 = if (τ.2.1 3 9 ub1) ≤ xb4 then (some τ) else (ob1 (f_X3_lettersOf τ ub1 xb4) (fun r2 => nm (pvI τ 1 4 ub2 ((τ.2.1 1 4 ub2) + (r2 * xb3))) (fun σ7 => nm (pvI σ7 1 3 ub2 (imax (σ7.2.1 1 3 ub2) (σ7.2.1 1 4 ub2))) (fun σ8 => nm (pvI σ8 1 4 ub2 ((σ8.2.1 1 4 ub2) + xb3)) (fun σ9 => f_X4_addToWish_14 n σ9 ub1 ub2 xb3 (xb4 + 1)))))) := rfl
def f_X4_addToWish (σ : PvS) (u1 : Nat) (u2 : Nat) : Option PvS :=
  ob1 (f_X6_of σ 0 u1 9) (fun r10 => f_X4_addToWish_14 fu σ u1 u2 r10 0)
set_option maxHeartbeats 4000000 in
set_option maxRecDepth 100000 in
theorem c_X4_addToWish {l : Launch} {G : PvG} {tys : List (ClassId × FieldType)} {σ : PvS} (htys : tys = pvT G)  {u1 : Nat} {u2 : Nat} (hu1 : u1 < pvM σ 3) (hu2 : u2 < pvM σ 1) {σ1 : PvS} (h : f_X4_addToWish σ u1 u2 = some σ1) : Met l yX4_addToWish (Cond.code yX4_addToWish cX4_addToWish 5 none :: WA) ({ frames := 2, cells := 0, slots := 0, locals := 42 }) (va_Pc [.ref (G.2.2.1 4 0), .ref (G.2.2.1 3 u1), .ref (G.2.2.1 1 u2)] (pvU G tys σ)) (va_Qv (fun σ' => σ' = σ1 ∧ σ'.1 = σ.1) (pvU G tys) (pvB G)) 0 0 (pvB G) := by
  refine Met.ofW (cc := cX4_addToWish) (maxL := 5) (ret := none) (by decide) rfl ?_
  intro p e s m args below meth c s₁ B hml hv
  obtain ⟨rfl, hw, hK, hA⟩ := hv
  have hx := B.exec
  have hb := B.bytes
  have hr := B.returns
  have hts0 := atoms_spec (ws := (Cond.code yX4_addToWish cX4_addToWish 5 none :: WA)) B.pre
  have hts : ∀ w ∈ WA, w.before _ s = true := fun w h => hts0 w (List.mem_cons_of_mem _ h)
  have hown : s.vm.findClass RX4 = some m.cls := findClass_of_methodNamed B.named
  have hlocks := B.notSynchronized
  have hS : va_S (pvB G) s.heap s.heap [] := va_S.rf
  have hl := lv_entry ([.ref (G.2.2.1 4 0), .ref (G.2.2.1 3 u1), .ref (G.2.2.1 1 u2)]) (n := 5) (Nat.le_of_ble_eq_true rfl)
  rw [lg_entry_eq]
  generalize (lg_sl ([.ref (G.2.2.1 4 0), .ref (G.2.2.1 3 u1), .ref (G.2.2.1 1 u2)]) ++ List.replicate (5 - (lg_sl ([.ref (G.2.2.1 4 0), .ref (G.2.2.1 3 u1), .ref (G.2.2.1 1 u2)])).length) Slot.unset).toArray = ls at hl ⊢
  have hl : lv_has ls 5 [(0, .ref (G.2.2.1 4 0)), (1, .ref (G.2.2.1 3 u1)), (2, .ref (G.2.2.1 1 u2))] := hl
  have hroot := pv_root hw
  unfold f_X4_addToWish at h
  have loop14 : ∀ (n : Nat) (τ : PvS) (ub1 : Nat) (ub2 : Nat) (xb3 : Int32) (xb4 : Int32), (τ.1 = σ.1) → (ub1 < pvM σ 3) → (ub2 < pvM σ 1) → f_X4_addToWish_14 n τ ub1 ub2 xb3 xb4 = some σ1 → ∀ (H : Heap) (locs : List Loc), pvW G τ H → va_S (pvB G) s.heap H locs → ∀ (ls : Array Slot), lv_has ls 5 [(1, .ref (G.2.2.1 3 ub1)), (2, .ref (G.2.2.1 1 ub2)), (3, .int xb3), (4, .int xb4)] → W p l e (headSpec (Cond.code yX4_addToWish cX4_addToWish 5 none :: WA) ({ frames := 2, cells := 0, slots := 0, locals := 42 } : Room)).room s m ([.ref (G.2.2.1 4 0), .ref (G.2.2.1 3 u1), .ref (G.2.2.1 1 u2)] : List Value).toArray below meth c H locs 0 0 (MQ below (va_Qv (fun σ' => σ' = σ1 ∧ σ'.1 = σ.1) (pvU G tys) (pvB G)) ([.ref (G.2.2.1 4 0), .ref (G.2.2.1 3 u1), .ref (G.2.2.1 1 u2)] : List Value).toArray s 0 0 (pvB G)) (F0 m 14 ls []) := by
    intro n14
    induction n14 with
    | zero =>
      intro τ ub1 ub2 xb3 xb4 hcτ hub1 hub2 h
      rw [f_X4_addToWish_14_z] at h
      cases h
    | succ n14 ih14 =>
      intro τ ub1 ub2 xb3 xb4 hcτ hub1 hub2 h H locs hw hS ls hl
      rw [f_X4_addToWish_14_s] at h
      refine lv_iload hx hb dX4_addToWish_14 (lv_at hl 3 rfl) ?_
      refine lv_aload_n hx hb dX4_addToWish_16 rfl (lv_at hl 0 rfl) ?_
      refine pgI (C := RX3) (T := TX3) (N := 14) hx hb hts hown hK hw 3 9 ub1 (lt_c hcτ 3 hub1) (by decide) rfl rfl inF_X3 (by decide) rfl (hts _ wm542) (fun _ h9 => h9) dX4_addToWish_17 ?_
      refine lv_icmp_ge (tgt := 71) hx hb dX4_addToWish_20 (by decide) (fun c1 => ?_) (fun c1 => ?_)
      · skip
        replace h := ite_p c1 h
        exact pev hx hb hr hlocks hA hw hK hS (psv h hcτ) dX4_addToWish_71
      · skip
        replace h := ite_n c1 h
        refine lv_aload_n hx hb dX4_addToWish_23 rfl (lv_at hl 1 rfl) ?_
        refine lv_dup hx hb dX4_addToWish_24 rfl ?_
        refine pgI (C := RX1) (T := TX1) (N := 5) hx hb hts hown hK hw 1 4 ub2 (lt_c hcτ 1 hub2) (by decide) rfl rfl inF_X1 (by decide) rfl (hts _ wm532) (fun _ h9 => h9) dX4_addToWish_25 ?_
        refine lv_aload_n hx hb dX4_addToWish_28 rfl (lv_at hl 0 rfl) ?_
        refine lv_iload hx hb dX4_addToWish_29 (lv_at hl 3 rfl) ?_
        obtain ⟨r2, e3, h⟩ := ob1_e h
        refine pcalli (va_runV (As := [.int xb4]) (rest := [.int (τ.2.1 1 4 ub2), .ref (G.2.2.1 1 ub2)]) ⟨hx, hb, hml, hown, hts⟩ (c_X3_lettersOf (l := l) (G := G) (tys := tys) (σ := τ) htys (lt_c hcτ 3 hub1) e3) (cwV 1 hts (gVA wm543 wm544 wm545 wm42 wm546) rfl rfl rfl (by decide +kernel) ⟨(Nat.le_of_ble_eq_true rfl), (Nat.le_of_ble_eq_true rfl)⟩) (pv_preV hA hS hw hK 3 ub1 (lt_c hcτ 3 hub1) (by decide) rfl [.int xb4]) rfl rfl hl.1 rfl (lv_room (Nat.le_of_ble_eq_true rfl)) dX4_addToWish_31 ⟨Nat.zero_le _, Nat.zero_le _⟩) hS (fun r5 s6 H locs hp4 hw hS => ?_)
        obtain ⟨err2, esr2⟩ := hp4
        obtain rfl := esr2.symm
        obtain rfl := err2.symm
        refine lv_iload_n hx hb dX4_addToWish_34 rfl (lv_at hl 2 rfl) ?_
        refine lv_imul hx hb dX4_addToWish_35 ?_
        refine lv_iadd hx hb dX4_addToWish_36 ?_
        obtain ⟨σ7, eσ7, h⟩ := nq_e h
        refine ppI (ty := .int) (C := RX1) (T := TX1) (N := 5) hx hb hts hown hK hw hS 1 4 ub2 (lt_c hcτ 1 hub2) (by decide) rfl rfl inF_X1 (by decide) rfl (by decide) tyX1_ok nmX1 (hts _ wm532) (fun _ h9 => h9) rfl (by decide +kernel) rfl rfl dX4_addToWish_37 (fun H locs hw hS => ?_)
        rw [← eσ7] at hw
        have hcσ7 : σ7.1 = σ.1 := by rw [eσ7]; exact hcτ
        refine lv_aload_n hx hb dX4_addToWish_40 rfl (lv_at hl 1 rfl) ?_
        refine lv_aload_n hx hb dX4_addToWish_41 rfl (lv_at hl 1 rfl) ?_
        refine pgI (C := RX1) (T := TX1) (N := 5) hx hb hts hown hK hw 1 3 ub2 (lt_c hcσ7 1 hub2) (by decide) rfl rfl inF_X1 (by decide) rfl (hts _ wm531) (fun _ h9 => h9) dX4_addToWish_42 ?_
        refine lv_aload_n hx hb dX4_addToWish_45 rfl (lv_at hl 1 rfl) ?_
        refine pgI (C := RX1) (T := TX1) (N := 5) hx hb hts hown hK hw 1 4 ub2 (lt_c hcσ7 1 hub2) (by decide) rfl rfl inF_X1 (by decide) rfl (hts _ wm532) (fun _ h9 => h9) dX4_addToWish_46 ?_
        refine pmmax hx hb (hml.trans hl.1.symm) hown (hts _ wm533) (hts _ wm111) (hts _ wm112) (hts _ wm113) (Nat.le_of_ble_eq_true rfl) (Nat.le_of_ble_eq_true rfl) (Nat.zero_le _) (Nat.zero_le _) dX4_addToWish_49 ?_
        obtain ⟨σ8, eσ8, h⟩ := nq_e h
        refine ppI (ty := .int) (C := RX1) (T := TX1) (N := 5) hx hb hts hown hK hw hS 1 3 ub2 (lt_c hcσ7 1 hub2) (by decide) rfl rfl inF_X1 (by decide) rfl (by decide) tyX1_ok nmX1 (hts _ wm531) (fun _ h9 => h9) rfl (by decide +kernel) rfl rfl dX4_addToWish_52 (fun H locs hw hS => ?_)
        rw [← eσ8] at hw
        have hcσ8 : σ8.1 = σ.1 := by rw [eσ8]; exact hcσ7
        refine lv_aload_n hx hb dX4_addToWish_55 rfl (lv_at hl 1 rfl) ?_
        refine lv_dup hx hb dX4_addToWish_56 rfl ?_
        refine pgI (C := RX1) (T := TX1) (N := 5) hx hb hts hown hK hw 1 4 ub2 (lt_c hcσ8 1 hub2) (by decide) rfl rfl inF_X1 (by decide) rfl (hts _ wm532) (fun _ h9 => h9) dX4_addToWish_57 ?_
        refine lv_iload_n hx hb dX4_addToWish_60 rfl (lv_at hl 2 rfl) ?_
        refine lv_iadd hx hb dX4_addToWish_61 ?_
        obtain ⟨σ9, eσ9, h⟩ := nq_e h
        refine ppI (ty := .int) (C := RX1) (T := TX1) (N := 5) hx hb hts hown hK hw hS 1 4 ub2 (lt_c hcσ8 1 hub2) (by decide) rfl rfl inF_X1 (by decide) rfl (by decide) tyX1_ok nmX1 (hts _ wm532) (fun _ h9 => h9) rfl (by decide +kernel) rfl rfl dX4_addToWish_62 (fun H locs hw hS => ?_)
        rw [← eσ9] at hw
        have hcσ9 : σ9.1 = σ.1 := by rw [eσ9]; exact hcσ8
        refine lv_iinc (v := xb4 + 1) (lv' := [(4, .int (xb4 + 1)), (1, .ref (G.2.2.1 3 ub1)), (2, .ref (G.2.2.1 1 ub2)), (3, .int xb3)]) hx hb dX4_addToWish_65 hl (k := 3) rfl (by rfl) (by decide) rfl (fun ls hl => ?_)
        refine lv_goto (tgt := 14) hx hb dX4_addToWish_68 (by decide) ?_
        exact ih14 σ9 ub1 ub2 xb3 (xb4 + 1) hcσ9 hub1 hub2 h _ _ hw hS ls (lv_sub hl [1, 2, 3, 0] rfl)
  refine lv_aload_n hx hb dX4_addToWish_0 rfl (lv_at hl 0 rfl) ?_
  refine pgL (C := RX4) (T := TX4) (N := 6) hx hb hts hown hK hw 4 0 0 Nat.one_pos (by decide) rfl rfl inF_X4 (by decide) (v := .ref (G.2.2.1 6 0)) rfl (hts _ wm171) (fun _ h9 => h9) dX4_addToWish_1 ?_
  refine lv_aload_n hx hb dX4_addToWish_4 rfl (lv_at hl 1 rfl) ?_
  refine lv_bipush (v := 9) hx hb dX4_addToWish_5 (by decide) ?_
  obtain ⟨r10, e11, h⟩ := ob1_e h
  refine pcalli (va_runV (As := [.ref (G.2.2.1 3 u1), .int 9]) (rest := []) ⟨hx, hb, hml, hown, hts⟩ (c_X6_of (l := l) (G := G) (tys := tys) (σ := σ) htys (show 0 < 2 from by decide) hu1 e11) (cwV 2 hts (gVA wm515 wm473 wm474 wm23 wm475) rfl rfl rfl (by decide +kernel) ⟨(Nat.le_of_ble_eq_true rfl), (Nat.le_of_ble_eq_true rfl)⟩) (pv_preV hA hS hw hK 6 0 (show 0 < 2 from by decide) (by decide) rfl [.ref (G.2.2.1 3 u1), .int 9]) rfl rfl hl.1 rfl (lv_room (Nat.le_of_ble_eq_true rfl)) dX4_addToWish_7 ⟨Nat.zero_le _, Nat.zero_le _⟩) hS (fun r13 s14 H locs hp12 hw hS => ?_)
  obtain ⟨err10, esr10⟩ := hp12
  obtain rfl := esr10.symm
  obtain rfl := err10.symm
  refine lv_istore_n (lv' := [(3, .int r10), (0, .ref (G.2.2.1 4 0)), (1, .ref (G.2.2.1 3 u1)), (2, .ref (G.2.2.1 1 u2))]) hx hb dX4_addToWish_10 rfl hl (by decide) rfl (fun ls hl => ?_)
  refine lv_iconst (v := 0) hx hb dX4_addToWish_11 (by decide) ?_
  refine lv_istore (lv' := [(4, .int 0), (3, .int r10), (0, .ref (G.2.2.1 4 0)), (1, .ref (G.2.2.1 3 u1)), (2, .ref (G.2.2.1 1 u2))]) hx hb dX4_addToWish_12 hl (by decide) rfl (fun ls hl => ?_)
  exact loop14 fu σ u1 u2 r10 0 rfl hu1 hu2 h _ _ hw hS ls (lv_sub hl [3, 4, 1, 0] rfl)
def f_X4_findWish_116 (k18 : PvS → Nat → Int32 → Option PvS) (τ : PvS) (ub1 : Nat) (xb3 : Int32) (ub4 : Nat) : Option PvS :=
  nm (τ.2.2.1 2 1 ub4) (fun o1 => if o1 = some ub1 then (if (τ.2.1 2 0 ub4) = 1 then (ob1 (f_X4_addToWish τ ub4 ub1) (fun σ5 => k18 σ5 ub1 (xb3 + 1))) else (k18 τ ub1 (xb3 + 1))) else (k18 τ ub1 (xb3 + 1)))
def f_X4_findWish_18  : Nat → PvS → Nat → Int32 → Option PvS
  | 0, _, _, _ => none
  | n + 1, τ, ub1, xb3 => if (nI (τ.2.2.2.2 1).length) ≤ xb3 then (some τ) else (gd (vin xb3 (τ.2.2.2.2 1).length) (nm ((τ.2.2.2.2 1).getD xb3.toNatClampNeg 0) (fun y13 => nm (τ.2.2.1 2 1 y13) (fun o14 => if o14 = some ub1 then (ob1 (f_X2_isBox τ y13) (fun r16 => if r16 = 0 then (f_X4_findWish_116 (f_X4_findWish_18 n) τ ub1 xb3 y13) else (ob1 (f_X4_widthOr τ y13 (τ.2.1 1 3 y13)) (fun r22 => nm (pvI τ 1 3 ub1 (imax (τ.2.1 1 3 ub1) (r22 + (2 * (τ.2.1 2 3 y13))))) (fun σ27 => nm (pvI σ27 1 4 ub1 0) (fun σ28 => f_X4_findWish_18 n σ28 ub1 (xb3 + 1))))))) else (f_X4_findWish_116 (f_X4_findWish_18 n) τ ub1 xb3 y13)))))
theorem f_X4_findWish_18_z {τ : PvS} {ub1 : Nat} {xb3 : Int32} : f_X4_findWish_18 0 τ ub1 xb3 = none := rfl
theorem f_X4_findWish_18_s {n : Nat} {τ : PvS} {ub1 : Nat} {xb3 : Int32} : f_X4_findWish_18 (n + 1) τ ub1 xb3 = if (nI (τ.2.2.2.2 1).length) ≤ xb3 then (some τ) else (gd (vin xb3 (τ.2.2.2.2 1).length) (nm ((τ.2.2.2.2 1).getD xb3.toNatClampNeg 0) (fun y13 => nm (τ.2.2.1 2 1 y13) (fun o14 => if o14 = some ub1 then (ob1 (f_X2_isBox τ y13) (fun r16 => if r16 = 0 then (f_X4_findWish_116 (f_X4_findWish_18 n) τ ub1 xb3 y13) else (ob1 (f_X4_widthOr τ y13 (τ.2.1 1 3 y13)) (fun r22 => nm (pvI τ 1 3 ub1 (imax (τ.2.1 1 3 ub1) (r22 + (2 * (τ.2.1 2 3 y13))))) (fun σ27 => nm (pvI σ27 1 4 ub1 0) (fun σ28 => f_X4_findWish_18 n σ28 ub1 (xb3 + 1))))))) else (f_X4_findWish_116 (f_X4_findWish_18 n) τ ub1 xb3 y13))))) := rfl
def f_X4_findWish (σ : PvS) (u1 : Nat) : Option PvS :=
  nm (pvI σ 1 3 u1 0) (fun σ29 => nm (pvI σ29 1 4 u1 0) (fun σ30 => f_X4_findWish_18 fu σ30 u1 0))
set_option maxHeartbeats 4000000 in
set_option maxRecDepth 100000 in
theorem c_X4_findWish {l : Launch} {G : PvG} {tys : List (ClassId × FieldType)} {σ : PvS} (htys : tys = pvT G)  {u1 : Nat} (hu1 : u1 < pvM σ 3) {σ1 : PvS} (h : f_X4_findWish σ u1 = some σ1) : Met l yX4_findWish (Cond.code yX4_findWish cX4_findWish 6 none :: WA) ({ frames := 3, cells := 0, slots := 0, locals := 66 }) (va_Pc [.ref (G.2.2.1 4 0), .ref (G.2.2.1 3 u1), .ref (G.2.2.1 10 1)] (pvU G tys σ)) (va_Qv (fun σ' => σ' = σ1 ∧ σ'.1 = σ.1) (pvU G tys) (pvB G)) 0 0 (pvB G) := by
  refine Met.ofW (cc := cX4_findWish) (maxL := 6) (ret := none) (by decide) rfl ?_
  intro p e s m args below meth c s₁ B hml hv
  obtain ⟨rfl, hw, hK, hA⟩ := hv
  have hx := B.exec
  have hb := B.bytes
  have hr := B.returns
  have hts0 := atoms_spec (ws := (Cond.code yX4_findWish cX4_findWish 6 none :: WA)) B.pre
  have hts : ∀ w ∈ WA, w.before _ s = true := fun w h => hts0 w (List.mem_cons_of_mem _ h)
  have hown : s.vm.findClass RX4 = some m.cls := findClass_of_methodNamed B.named
  have hlocks := B.notSynchronized
  have hS : va_S (pvB G) s.heap s.heap [] := va_S.rf
  have hl := lv_entry ([.ref (G.2.2.1 4 0), .ref (G.2.2.1 3 u1), .ref (G.2.2.1 10 1)]) (n := 6) (Nat.le_of_ble_eq_true rfl)
  rw [lg_entry_eq]
  generalize (lg_sl ([.ref (G.2.2.1 4 0), .ref (G.2.2.1 3 u1), .ref (G.2.2.1 10 1)]) ++ List.replicate (6 - (lg_sl ([.ref (G.2.2.1 4 0), .ref (G.2.2.1 3 u1), .ref (G.2.2.1 10 1)])).length) Slot.unset).toArray = ls at hl ⊢
  have hl : lv_has ls 6 [(0, .ref (G.2.2.1 4 0)), (1, .ref (G.2.2.1 3 u1)), (2, .ref (G.2.2.1 10 1))] := hl
  have hroot := pv_root hw
  unfold f_X4_findWish at h
  have loop18 : ∀ (n : Nat) (τ : PvS) (ub1 : Nat) (xb3 : Int32), (τ.1 = σ.1) → (ub1 < pvM σ 3) → f_X4_findWish_18 n τ ub1 xb3 = some σ1 → ∀ (H : Heap) (locs : List Loc), pvW G τ H → va_S (pvB G) s.heap H locs → ∀ (ls : Array Slot), lv_has ls 6 [(0, .ref (G.2.2.1 4 0)), (1, .ref (G.2.2.1 3 ub1)), (2, .ref (G.2.2.1 10 1)), (3, .int xb3)] → W p l e (headSpec (Cond.code yX4_findWish cX4_findWish 6 none :: WA) ({ frames := 3, cells := 0, slots := 0, locals := 66 } : Room)).room s m ([.ref (G.2.2.1 4 0), .ref (G.2.2.1 3 u1), .ref (G.2.2.1 10 1)] : List Value).toArray below meth c H locs 0 0 (MQ below (va_Qv (fun σ' => σ' = σ1 ∧ σ'.1 = σ.1) (pvU G tys) (pvB G)) ([.ref (G.2.2.1 4 0), .ref (G.2.2.1 3 u1), .ref (G.2.2.1 10 1)] : List Value).toArray s 0 0 (pvB G)) (F0 m 18 ls []) := by
    intro n18
    induction n18 with
    | zero =>
      intro τ ub1 xb3 hcτ hub1 h
      rw [f_X4_findWish_18_z] at h
      cases h
    | succ n18 ih18 =>
      have blk116 : ∀ (τ : PvS) (ub1 : Nat) (xb3 : Int32) (ub4 : Nat), (τ.1 = σ.1) → (ub1 < pvM σ 3) → (ub4 < pvM σ 3) → f_X4_findWish_116 (f_X4_findWish_18 n18) τ ub1 xb3 ub4 = some σ1 → ∀ (H : Heap) (locs : List Loc), pvW G τ H → va_S (pvB G) s.heap H locs → ∀ (ls : Array Slot), lv_has ls 6 [(0, .ref (G.2.2.1 4 0)), (1, .ref (G.2.2.1 3 ub1)), (2, .ref (G.2.2.1 10 1)), (3, .int xb3), (4, .ref (G.2.2.1 3 ub4))] → W p l e (headSpec (Cond.code yX4_findWish cX4_findWish 6 none :: WA) ({ frames := 3, cells := 0, slots := 0, locals := 66 } : Room)).room s m ([.ref (G.2.2.1 4 0), .ref (G.2.2.1 3 u1), .ref (G.2.2.1 10 1)] : List Value).toArray below meth c H locs 0 0 (MQ below (va_Qv (fun σ' => σ' = σ1 ∧ σ'.1 = σ.1) (pvU G tys) (pvB G)) ([.ref (G.2.2.1 4 0), .ref (G.2.2.1 3 u1), .ref (G.2.2.1 10 1)] : List Value).toArray s 0 0 (pvB G)) (F0 m 116 ls []) := by
        intro τ ub1 xb3 ub4 hcτ hub1 hub4 h H locs hw hS ls hl
        unfold f_X4_findWish_116 at h
        refine lv_aload hx hb dX4_findWish_116 (lv_at hl 4 rfl) ?_
        refine pgL (C := RX3) (T := TX3) (N := 14) hx hb hts hown hK hw 3 6 ub4 (lt_c hcτ 3 hub4) (by decide) rfl rfl inF_X3 (by decide) (v := .ref (G.2.2.1 2 ub4)) rfl (hts _ wm482) (fun _ h9 => h9) dX4_findWish_118 ?_
        obtain ⟨o1, eo1, h⟩ := nq_e h
        have ho1 := pv_cl hw eo1
        refine pgR (C := RX2) (T := TX2) (N := 16) hx hb hts hown hK hw 2 1 ub4 (lt_c hcτ 2 hub4) (by decide) rfl rfl inF_X2 (by decide) rfl o1 eo1 (hts _ wm504) (fun _ h9 => h9) dX4_findWish_121 ?_
        have ho1 : ∀ j, o1 = some j → j < pvM σ 3 := fun j z => lt_c hcτ.symm 3 (ho1 j z)
        refine lv_aload_n hx hb dX4_findWish_124 rfl (lv_at hl 1 rfl) ?_
        refine pacmpq_ne (tgt := 150) hx hb hw 3 o1 ub1 (fun j z => lt_c hcτ 3 (ho1 j z)) (lt_c hcτ 3 hub1) dX4_findWish_125 (by decide) (fun c2 => ?_) (fun c2 => ?_)
        · skip
          replace h := ite_n c2 h
          refine lv_iinc (v := xb3 + 1) (lv' := [(3, .int (xb3 + 1)), (0, .ref (G.2.2.1 4 0)), (1, .ref (G.2.2.1 3 ub1)), (2, .ref (G.2.2.1 10 1)), (4, .ref (G.2.2.1 3 ub4))]) hx hb dX4_findWish_150 hl (k := 3) rfl (by rfl) (by decide) rfl (fun ls hl => ?_)
          refine lv_goto (tgt := 18) hx hb dX4_findWish_153 (by decide) ?_
          exact ih18 τ ub1 (xb3 + 1) hcτ hub1 h _ _ hw hS ls (lv_sub hl [1, 2, 3, 0] rfl)
        · skip
          replace h := ite_p c2 h
          refine lv_aload hx hb dX4_findWish_128 (lv_at hl 4 rfl) ?_
          refine pgL (C := RX3) (T := TX3) (N := 14) hx hb hts hown hK hw 3 6 ub4 (lt_c hcτ 3 hub4) (by decide) rfl rfl inF_X3 (by decide) (v := .ref (G.2.2.1 2 ub4)) rfl (hts _ wm482) (fun _ h9 => h9) dX4_findWish_130 ?_
          refine pgI (C := RX2) (T := TX2) (N := 16) hx hb hts hown hK hw 2 0 ub4 (lt_c hcτ 2 hub4) (by decide) rfl rfl inF_X2 (by decide) rfl (hts _ wm503) (fun _ h9 => h9) dX4_findWish_133 ?_
          refine lv_iconst (v := 1) hx hb dX4_findWish_136 (by decide) ?_
          refine lv_icmp_ne (tgt := 150) hx hb dX4_findWish_137 (by decide) (fun c3 => ?_) (fun c3 => ?_)
          · skip
            replace h := ite_n c3 h
            refine lv_iinc (v := xb3 + 1) (lv' := [(3, .int (xb3 + 1)), (0, .ref (G.2.2.1 4 0)), (1, .ref (G.2.2.1 3 ub1)), (2, .ref (G.2.2.1 10 1)), (4, .ref (G.2.2.1 3 ub4))]) hx hb dX4_findWish_150 hl (k := 3) rfl (by rfl) (by decide) rfl (fun ls hl => ?_)
            refine lv_goto (tgt := 18) hx hb dX4_findWish_153 (by decide) ?_
            exact ih18 τ ub1 (xb3 + 1) hcτ hub1 h _ _ hw hS ls (lv_sub hl [1, 2, 3, 0] rfl)
          · skip
            replace h := ite_p c3 h
            refine lv_aload_n hx hb dX4_findWish_140 rfl (lv_at hl 0 rfl) ?_
            refine lv_aload hx hb dX4_findWish_141 (lv_at hl 4 rfl) ?_
            refine lv_aload_n hx hb dX4_findWish_143 rfl (lv_at hl 1 rfl) ?_
            refine pgL (C := RX3) (T := TX3) (N := 14) hx hb hts hown hK hw 3 7 ub1 (lt_c hcτ 3 hub1) (by decide) rfl rfl inF_X3 (by decide) (v := .ref (G.2.2.1 1 ub1)) rfl (hts _ wm487) (fun _ h9 => h9) dX4_findWish_144 ?_
            obtain ⟨σ5, e6, h⟩ := ob1_e h
            refine pcallv (va_runV (As := [.ref (G.2.2.1 3 ub4), .ref (G.2.2.1 1 ub1)]) (rest := []) ⟨hx, hb, hml, hown, hts⟩ (c_X4_addToWish (l := l) (G := G) (tys := tys) (σ := τ) htys (lt_c hcτ 3 hub4) (lt_c hcτ 1 hub1) e6) (cwV 2 hts (gVA wm538 wm539 wm540 wm17 wm541) rfl rfl rfl (by decide +kernel) ⟨(Nat.le_of_ble_eq_true rfl), (Nat.le_of_ble_eq_true rfl)⟩) (pv_preV hA hS hw hK 4 0 Nat.one_pos (by decide) rfl [.ref (G.2.2.1 3 ub4), .ref (G.2.2.1 1 ub1)]) rfl rfl hl.1 rfl (lv_room (Nat.le_of_ble_eq_true rfl)) dX4_findWish_147 ⟨Nat.zero_le _, Nat.zero_le _⟩) hS (fun s9 H locs hp7 hw hS => ?_)
            obtain ⟨esσ5, hdσ5⟩ := hp7
            obtain rfl := esσ5.symm
            have hcσ5 : σ5.1 = σ.1 := hdσ5.trans hcτ
            refine lv_iinc (v := xb3 + 1) (lv' := [(3, .int (xb3 + 1)), (0, .ref (G.2.2.1 4 0)), (1, .ref (G.2.2.1 3 ub1)), (2, .ref (G.2.2.1 10 1)), (4, .ref (G.2.2.1 3 ub4))]) hx hb dX4_findWish_150 hl (k := 3) rfl (by rfl) (by decide) rfl (fun ls hl => ?_)
            refine lv_goto (tgt := 18) hx hb dX4_findWish_153 (by decide) ?_
            exact ih18 σ5 ub1 (xb3 + 1) hcσ5 hub1 h _ _ hw hS ls (lv_sub hl [1, 2, 3, 0] rfl)
      intro τ ub1 xb3 hcτ hub1 h H locs hw hS ls hl
      rw [f_X4_findWish_18_s] at h
      refine lv_iload_n hx hb dX4_findWish_18 rfl (lv_at hl 3 rfl) ?_
      refine lv_aload_n hx hb dX4_findWish_19 rfl (lv_at hl 2 rfl) ?_
      refine pcalli (va_runV (As := []) (rest := [.int xb3]) ⟨hx, hb, hml, hown, hts⟩ (c_lsize (l := l) (G := G) (tys := tys) (σ := τ) (j := 1) (show 1 < τ.1 0 + 3 from Nat.lt_of_lt_of_le (by decide) (Nat.le_add_left 3 _))) (cwV 0 hts (gVA wm507 wm251 wm252 wm13 wm253) rfl rfl rfl (by decide +kernel) ⟨(Nat.le_of_ble_eq_true rfl), (Nat.le_of_ble_eq_true rfl)⟩) (pl_preV hA hS hw hK 1 (show 1 < τ.1 0 + 3 from Nat.lt_of_lt_of_le (by decide) (Nat.le_add_left 3 _)) []) rfl rfl hl.1 rfl (lv_room (Nat.le_of_ble_eq_true rfl)) dX4_findWish_20 ⟨Nat.zero_le _, Nat.zero_le _⟩) hS (fun rz10 sz10 H locs hpz10 hw hS => ?_)
      obtain ⟨rfl, ez10⟩ := hpz10
      obtain rfl := ez10.symm
      refine lv_icmp_ge (tgt := 156) hx hb dX4_findWish_23 (by decide) (fun c11 => ?_) (fun c11 => ?_)
      · skip
        replace h := ite_p c11 h
        exact pev hx hb hr hlocks hA hw hK hS (psv h hcτ) dX4_findWish_156
      · skip
        replace h := ite_n c11 h
        refine lv_aload_n hx hb dX4_findWish_26 rfl (lv_at hl 2 rfl) ?_
        refine lv_iload_n hx hb dX4_findWish_27 rfl (lv_at hl 3 rfl) ?_
        obtain ⟨g12, h⟩ := gd_e h
        obtain ⟨y13, ey13, h⟩ := nq_e h
        refine pcallg (κ := 3) rfl (va_runV (As := [.int xb3]) (rest := []) ⟨hx, hb, hml, hown, hts⟩ (c_lgetI (l := l) (G := G) (tys := tys) (σ := τ) htys (j := 1) (show 1 < τ.1 0 + 3 from Nat.lt_of_lt_of_le (by decide) (Nat.le_add_left 3 _)) g12 (pl_len2 hw 1 (show 1 < τ.1 0 + 3 from Nat.lt_of_lt_of_le (by decide) (Nat.le_add_left 3 _)))) (cwV 1 hts (gVA wm508 wm255 wm256 wm13 wm257) rfl rfl rfl (by decide +kernel) ⟨(Nat.le_of_ble_eq_true rfl), (Nat.le_of_ble_eq_true rfl)⟩) (pl_preV hA hS hw hK 1 (show 1 < τ.1 0 + 3 from Nat.lt_of_lt_of_le (by decide) (Nat.le_add_left 3 _)) [.int xb3]) rfl rfl hl.1 rfl (lv_room (Nat.le_of_ble_eq_true rfl)) dX4_findWish_28 ⟨Nat.zero_le _, Nat.zero_le _⟩) hS (fun zy13 ezy13 H locs hw hS => ?_)
        obtain rfl : y13 = zy13 := ey13.trans ezy13.symm
        have hy13 : y13 < pvM τ 3 := by rw [ey13]; exact pl_lt hw 1 (show 1 < τ.1 0 + 3 from Nat.lt_of_lt_of_le (by decide) (Nat.le_add_left 3 _)) _ (Nat.not_le.mp fun q => g12 (Or.inr q)) rfl
        have hy13 : y13 < pvM σ 3 := lt_c hcτ.symm 3 hy13
        refine pcast hx hb hown hK hw 3 y13 (lt_c hcτ 3 hy13) (by decide) rfl (hts _ wm502) dX4_findWish_31 ?_
        refine lv_astore (lv' := [(4, .ref (G.2.2.1 3 y13)), (0, .ref (G.2.2.1 4 0)), (1, .ref (G.2.2.1 3 ub1)), (2, .ref (G.2.2.1 10 1)), (3, .int xb3)]) hx hb dX4_findWish_34 hl (by decide) rfl (fun ls hl => ?_)
        refine lv_aload hx hb dX4_findWish_36 (lv_at hl 0 rfl) ?_
        refine pgL (C := RX3) (T := TX3) (N := 14) hx hb hts hown hK hw 3 6 y13 (lt_c hcτ 3 hy13) (by decide) rfl rfl inF_X3 (by decide) (v := .ref (G.2.2.1 2 y13)) rfl (hts _ wm482) (fun _ h9 => h9) dX4_findWish_38 ?_
        obtain ⟨o14, eo14, h⟩ := nq_e h
        have ho14 := pv_cl hw eo14
        refine pgR (C := RX2) (T := TX2) (N := 16) hx hb hts hown hK hw 2 1 y13 (lt_c hcτ 2 hy13) (by decide) rfl rfl inF_X2 (by decide) rfl o14 eo14 (hts _ wm504) (fun _ h9 => h9) dX4_findWish_41 ?_
        have ho14 : ∀ j, o14 = some j → j < pvM σ 3 := fun j z => lt_c hcτ.symm 3 (ho14 j z)
        refine lv_aload_n hx hb dX4_findWish_44 rfl (lv_at hl 2 rfl) ?_
        refine pacmpq_ne (tgt := 116) hx hb hw 3 o14 ub1 (fun j z => lt_c hcτ 3 (ho14 j z)) (lt_c hcτ 3 hub1) dX4_findWish_45 (by decide) (fun c15 => ?_) (fun c15 => ?_)
        · skip
          replace h := ite_n c15 h
          exact blk116 τ ub1 xb3 y13 hcτ hub1 hy13 h _ _ hw hS ls (lv_sub hl [1, 2, 3, 4, 0] rfl)
        · skip
          replace h := ite_p c15 h
          refine lv_aload hx hb dX4_findWish_48 (lv_at hl 0 rfl) ?_
          refine pgL (C := RX3) (T := TX3) (N := 14) hx hb hts hown hK hw 3 6 y13 (lt_c hcτ 3 hy13) (by decide) rfl rfl inF_X3 (by decide) (v := .ref (G.2.2.1 2 y13)) rfl (hts _ wm482) (fun _ h9 => h9) dX4_findWish_50 ?_
          obtain ⟨r16, e17, h⟩ := ob1_e h
          refine pcalli (va_runV (As := []) (rest := []) ⟨hx, hb, hml, hown, hts⟩ (c_X2_isBox (l := l) (G := G) (tys := tys) (σ := τ) htys (lt_c hcτ 2 hy13) e17) (cwV 0 hts (gVA wm519 wm520 wm521 wm81 wm522) rfl rfl rfl (by decide +kernel) ⟨(Nat.le_of_ble_eq_true rfl), (Nat.le_of_ble_eq_true rfl)⟩) (pv_preV hA hS hw hK 2 y13 (lt_c hcτ 2 hy13) (by decide) rfl []) rfl rfl hl.1 rfl (lv_room (Nat.le_of_ble_eq_true rfl)) dX4_findWish_53 ⟨Nat.zero_le _, Nat.zero_le _⟩) hS (fun r19 s20 H locs hp18 hw hS => ?_)
          obtain ⟨err16, esr16, hzr16⟩ := hp18
          obtain rfl := esr16.symm
          obtain rfl := err16.symm
          refine lv_if_eq (tgt := 116) hx hb dX4_findWish_56 (by decide) (fun c21 => ?_) (fun c21 => ?_)
          · skip
            replace h := ite_p c21 h
            exact blk116 τ ub1 xb3 y13 hcτ hub1 hy13 h _ _ hw hS ls (lv_sub hl [1, 2, 3, 4, 0] rfl)
          · skip
            replace h := ite_n c21 h
            refine lv_aload_n hx hb dX4_findWish_59 rfl (lv_at hl 1 rfl) ?_
            refine lv_aload hx hb dX4_findWish_60 (lv_at hl 0 rfl) ?_
            refine lv_aload hx hb dX4_findWish_62 (lv_at hl 0 rfl) ?_
            refine pgL (C := RX3) (T := TX3) (N := 14) hx hb hts hown hK hw 3 7 y13 (lt_c hcτ 3 hy13) (by decide) rfl rfl inF_X3 (by decide) (v := .ref (G.2.2.1 1 y13)) rfl (hts _ wm487) (fun _ h9 => h9) dX4_findWish_64 ?_
            refine pgI (C := RX1) (T := TX1) (N := 5) hx hb hts hown hK hw 1 3 y13 (lt_c hcτ 1 hy13) (by decide) rfl rfl inF_X1 (by decide) rfl (hts _ wm531) (fun _ h9 => h9) dX4_findWish_67 ?_
            obtain ⟨r22, e23, h⟩ := ob1_e h
            refine pcalli (va_runV (As := [.ref (G.2.2.1 3 y13), .int (τ.2.1 1 3 y13)]) (rest := []) ⟨hx, hb, hml, hown, hts⟩ (c_X4_widthOr (l := l) (G := G) (tys := tys) (σ := τ) htys (lt_c hcτ 3 hy13) e23) (cwV 2 hts (gVA wm534 wm535 wm536 wm17 wm537) rfl rfl rfl (by decide +kernel) ⟨(Nat.le_of_ble_eq_true rfl), (Nat.le_of_ble_eq_true rfl)⟩) (pv_preV hA hS hw hK 4 0 Nat.one_pos (by decide) rfl [.ref (G.2.2.1 3 y13), .int (τ.2.1 1 3 y13)]) rfl rfl hl.1 rfl (lv_room (Nat.le_of_ble_eq_true rfl)) dX4_findWish_70 ⟨Nat.zero_le _, Nat.zero_le _⟩) hS (fun r25 s26 H locs hp24 hw hS => ?_)
            obtain ⟨err22, esr22⟩ := hp24
            obtain rfl := esr22.symm
            obtain rfl := err22.symm
            refine lv_iconst (v := 2) hx hb dX4_findWish_73 (by decide) ?_
            refine lv_aload hx hb dX4_findWish_74 (lv_at hl 0 rfl) ?_
            refine pgL (C := RX3) (T := TX3) (N := 14) hx hb hts hown hK hw 3 6 y13 (lt_c hcτ 3 hy13) (by decide) rfl rfl inF_X3 (by decide) (v := .ref (G.2.2.1 2 y13)) rfl (hts _ wm482) (fun _ h9 => h9) dX4_findWish_76 ?_
            refine pgI (C := RX2) (T := TX2) (N := 16) hx hb hts hown hK hw 2 3 y13 (lt_c hcτ 2 hy13) (by decide) rfl rfl inF_X2 (by decide) rfl (hts _ wm483) (fun _ h9 => h9) dX4_findWish_79 ?_
            refine lv_imul hx hb dX4_findWish_82 ?_
            refine lv_iadd hx hb dX4_findWish_83 ?_
            refine lv_istore (lv' := [(5, .int (r22 + (2 * (τ.2.1 2 3 y13)))), (4, .ref (G.2.2.1 3 y13)), (0, .ref (G.2.2.1 4 0)), (1, .ref (G.2.2.1 3 ub1)), (2, .ref (G.2.2.1 10 1)), (3, .int xb3)]) hx hb dX4_findWish_84 hl (by decide) rfl (fun ls hl => ?_)
            refine lv_aload_n hx hb dX4_findWish_86 rfl (lv_at hl 3 rfl) ?_
            refine pgL (C := RX3) (T := TX3) (N := 14) hx hb hts hown hK hw 3 7 ub1 (lt_c hcτ 3 hub1) (by decide) rfl rfl inF_X3 (by decide) (v := .ref (G.2.2.1 1 ub1)) rfl (hts _ wm487) (fun _ h9 => h9) dX4_findWish_87 ?_
            refine lv_aload_n hx hb dX4_findWish_90 rfl (lv_at hl 3 rfl) ?_
            refine pgL (C := RX3) (T := TX3) (N := 14) hx hb hts hown hK hw 3 7 ub1 (lt_c hcτ 3 hub1) (by decide) rfl rfl inF_X3 (by decide) (v := .ref (G.2.2.1 1 ub1)) rfl (hts _ wm487) (fun _ h9 => h9) dX4_findWish_91 ?_
            refine pgI (C := RX1) (T := TX1) (N := 5) hx hb hts hown hK hw 1 3 ub1 (lt_c hcτ 1 hub1) (by decide) rfl rfl inF_X1 (by decide) rfl (hts _ wm531) (fun _ h9 => h9) dX4_findWish_94 ?_
            refine lv_iload hx hb dX4_findWish_97 (lv_at hl 0 rfl) ?_
            refine pmmax hx hb (hml.trans hl.1.symm) hown (hts _ wm533) (hts _ wm111) (hts _ wm112) (hts _ wm113) (Nat.le_of_ble_eq_true rfl) (Nat.le_of_ble_eq_true rfl) (Nat.zero_le _) (Nat.zero_le _) dX4_findWish_99 ?_
            obtain ⟨σ27, eσ27, h⟩ := nq_e h
            refine ppI (ty := .int) (C := RX1) (T := TX1) (N := 5) hx hb hts hown hK hw hS 1 3 ub1 (lt_c hcτ 1 hub1) (by decide) rfl rfl inF_X1 (by decide) rfl (by decide) tyX1_ok nmX1 (hts _ wm531) (fun _ h9 => h9) rfl (by decide +kernel) rfl rfl dX4_findWish_102 (fun H locs hw hS => ?_)
            rw [← eσ27] at hw
            have hcσ27 : σ27.1 = σ.1 := by rw [eσ27]; exact hcτ
            refine lv_aload_n hx hb dX4_findWish_105 rfl (lv_at hl 3 rfl) ?_
            refine pgL (C := RX3) (T := TX3) (N := 14) hx hb hts hown hK hw 3 7 ub1 (lt_c hcσ27 3 hub1) (by decide) rfl rfl inF_X3 (by decide) (v := .ref (G.2.2.1 1 ub1)) rfl (hts _ wm487) (fun _ h9 => h9) dX4_findWish_106 ?_
            refine lv_iconst (v := 0) hx hb dX4_findWish_109 (by decide) ?_
            obtain ⟨σ28, eσ28, h⟩ := nq_e h
            refine ppI (ty := .int) (C := RX1) (T := TX1) (N := 5) hx hb hts hown hK hw hS 1 4 ub1 (lt_c hcσ27 1 hub1) (by decide) rfl rfl inF_X1 (by decide) rfl (by decide) tyX1_ok nmX1 (hts _ wm532) (fun _ h9 => h9) rfl (by decide +kernel) rfl rfl dX4_findWish_110 (fun H locs hw hS => ?_)
            rw [← eσ28] at hw
            have hcσ28 : σ28.1 = σ.1 := by rw [eσ28]; exact hcσ27
            refine lv_goto (tgt := 150) hx hb dX4_findWish_113 (by decide) ?_
            refine lv_iinc (v := xb3 + 1) (lv' := [(3, .int (xb3 + 1)), (5, .int (r22 + (2 * (τ.2.1 2 3 y13)))), (4, .ref (G.2.2.1 3 y13)), (0, .ref (G.2.2.1 4 0)), (1, .ref (G.2.2.1 3 ub1)), (2, .ref (G.2.2.1 10 1))]) hx hb dX4_findWish_150 hl (k := 5) rfl (by rfl) (by decide) rfl (fun ls hl => ?_)
            refine lv_goto (tgt := 18) hx hb dX4_findWish_153 (by decide) ?_
            exact ih18 σ28 ub1 (xb3 + 1) hcσ28 hub1 h _ _ hw hS ls (lv_sub hl [3, 4, 5, 0] rfl)
  refine lv_aload_n hx hb dX4_findWish_0 rfl (lv_at hl 1 rfl) ?_
  refine pgL (C := RX3) (T := TX3) (N := 14) hx hb hts hown hK hw 3 7 u1 hu1 (by decide) rfl rfl inF_X3 (by decide) (v := .ref (G.2.2.1 1 u1)) rfl (hts _ wm487) (fun _ h9 => h9) dX4_findWish_1 ?_
  refine lv_iconst (v := 0) hx hb dX4_findWish_4 (by decide) ?_
  obtain ⟨σ29, eσ29, h⟩ := nq_e h
  refine ppI (ty := .int) (C := RX1) (T := TX1) (N := 5) hx hb hts hown hK hw hS 1 3 u1 hu1 (by decide) rfl rfl inF_X1 (by decide) rfl (by decide) tyX1_ok nmX1 (hts _ wm531) (fun _ h9 => h9) rfl (by decide +kernel) rfl rfl dX4_findWish_5 (fun H locs hw hS => ?_)
  rw [← eσ29] at hw
  have hcσ29 : σ29.1 = σ.1 := by rw [eσ29]; exact rfl
  refine lv_aload_n hx hb dX4_findWish_8 rfl (lv_at hl 1 rfl) ?_
  refine pgL (C := RX3) (T := TX3) (N := 14) hx hb hts hown hK hw 3 7 u1 (lt_c hcσ29 3 hu1) (by decide) rfl rfl inF_X3 (by decide) (v := .ref (G.2.2.1 1 u1)) rfl (hts _ wm487) (fun _ h9 => h9) dX4_findWish_9 ?_
  refine lv_iconst (v := 0) hx hb dX4_findWish_12 (by decide) ?_
  obtain ⟨σ30, eσ30, h⟩ := nq_e h
  refine ppI (ty := .int) (C := RX1) (T := TX1) (N := 5) hx hb hts hown hK hw hS 1 4 u1 (lt_c hcσ29 1 hu1) (by decide) rfl rfl inF_X1 (by decide) rfl (by decide) tyX1_ok nmX1 (hts _ wm532) (fun _ h9 => h9) rfl (by decide +kernel) rfl rfl dX4_findWish_13 (fun H locs hw hS => ?_)
  rw [← eσ30] at hw
  have hcσ30 : σ30.1 = σ.1 := by rw [eσ30]; exact hcσ29
  refine lv_iconst (v := 0) hx hb dX4_findWish_16 (by decide) ?_
  refine lv_istore_n (lv' := [(3, .int 0), (0, .ref (G.2.2.1 4 0)), (1, .ref (G.2.2.1 3 u1)), (2, .ref (G.2.2.1 10 1))]) hx hb dX4_findWish_17 rfl hl (by decide) rfl (fun ls hl => ?_)
  exact loop18 fu σ30 u1 0 hcσ30 hu1 h _ _ hw hS ls (lv_sub hl [1, 2, 3, 0] rfl)
def f_X4_findWishes_7  : Nat → PvS → Int32 → Option PvS
  | 0, _, _ => none
  | n + 1, τ, xb2 => if xb2 < 0 then (some τ) else (gd (vin xb2 (τ.2.2.2.2 1).length) (nm ((τ.2.2.2.2 1).getD xb2.toNatClampNeg 0) (fun y3 => ob1 (f_X2_isBox τ y3) (fun r4 => if r4 = 0 then (f_X4_findWishes_7 n τ (xb2 + (-1))) else (gd (vin xb2 (τ.2.2.2.2 1).length) (nm ((τ.2.2.2.2 1).getD xb2.toNatClampNeg 0) (fun y11 => ob1 (f_X4_findWish τ y11) (fun σ13 => f_X4_findWishes_7 n σ13 (xb2 + (-1))))))))))
theorem f_X4_findWishes_7_z {τ : PvS} {xb2 : Int32} : f_X4_findWishes_7 0 τ xb2 = none := rfl
theorem f_X4_findWishes_7_s {n : Nat} {τ : PvS} {xb2 : Int32} : f_X4_findWishes_7 (n + 1) τ xb2 = if xb2 < 0 then (some τ) else (gd (vin xb2 (τ.2.2.2.2 1).length) (nm ((τ.2.2.2.2 1).getD xb2.toNatClampNeg 0) (fun y3 => ob1 (f_X2_isBox τ y3) (fun r4 => if r4 = 0 then (f_X4_findWishes_7 n τ (xb2 + (-1))) else (gd (vin xb2 (τ.2.2.2.2 1).length) (nm ((τ.2.2.2.2 1).getD xb2.toNatClampNeg 0) (fun y11 => ob1 (f_X4_findWish τ y11) (fun σ13 => f_X4_findWishes_7 n σ13 (xb2 + (-1)))))))))) := rfl
def f_X4_findWishes (σ : PvS)  : Option PvS :=
  f_X4_findWishes_7 fu σ ((nI (σ.2.2.2.2 1).length) - 1)
set_option maxHeartbeats 4000000 in
set_option maxRecDepth 100000 in
theorem c_X4_findWishes {l : Launch} {G : PvG} {tys : List (ClassId × FieldType)} {σ : PvS} (htys : tys = pvT G)    {σ1 : PvS} (h : f_X4_findWishes σ = some σ1) : Met l yX4_findWishes (Cond.code yX4_findWishes cX4_findWishes 3 none :: WA) ({ frames := 4, cells := 0, slots := 0, locals := 91 }) (va_Pc [.ref (G.2.2.1 4 0), .ref (G.2.2.1 10 1)] (pvU G tys σ)) (va_Qv (fun σ' => σ' = σ1 ∧ σ'.1 = σ.1) (pvU G tys) (pvB G)) 0 0 (pvB G) := by
  refine Met.ofW (cc := cX4_findWishes) (maxL := 3) (ret := none) (by decide) rfl ?_
  intro p e s m args below meth c s₁ B hml hv
  obtain ⟨rfl, hw, hK, hA⟩ := hv
  have hx := B.exec
  have hb := B.bytes
  have hr := B.returns
  have hts0 := atoms_spec (ws := (Cond.code yX4_findWishes cX4_findWishes 3 none :: WA)) B.pre
  have hts : ∀ w ∈ WA, w.before _ s = true := fun w h => hts0 w (List.mem_cons_of_mem _ h)
  have hown : s.vm.findClass RX4 = some m.cls := findClass_of_methodNamed B.named
  have hlocks := B.notSynchronized
  have hS : va_S (pvB G) s.heap s.heap [] := va_S.rf
  have hl := lv_entry ([.ref (G.2.2.1 4 0), .ref (G.2.2.1 10 1)]) (n := 3) (Nat.le_of_ble_eq_true rfl)
  rw [lg_entry_eq]
  generalize (lg_sl ([.ref (G.2.2.1 4 0), .ref (G.2.2.1 10 1)]) ++ List.replicate (3 - (lg_sl ([.ref (G.2.2.1 4 0), .ref (G.2.2.1 10 1)])).length) Slot.unset).toArray = ls at hl ⊢
  have hl : lv_has ls 3 [(0, .ref (G.2.2.1 4 0)), (1, .ref (G.2.2.1 10 1))] := hl
  have hroot := pv_root hw
  unfold f_X4_findWishes at h
  have loop7 : ∀ (n : Nat) (τ : PvS) (xb2 : Int32), (τ.1 = σ.1) → f_X4_findWishes_7 n τ xb2 = some σ1 → ∀ (H : Heap) (locs : List Loc), pvW G τ H → va_S (pvB G) s.heap H locs → ∀ (ls : Array Slot), lv_has ls 3 [(0, .ref (G.2.2.1 4 0)), (1, .ref (G.2.2.1 10 1)), (2, .int xb2)] → W p l e (headSpec (Cond.code yX4_findWishes cX4_findWishes 3 none :: WA) ({ frames := 4, cells := 0, slots := 0, locals := 91 } : Room)).room s m ([.ref (G.2.2.1 4 0), .ref (G.2.2.1 10 1)] : List Value).toArray below meth c H locs 0 0 (MQ below (va_Qv (fun σ' => σ' = σ1 ∧ σ'.1 = σ.1) (pvU G tys) (pvB G)) ([.ref (G.2.2.1 4 0), .ref (G.2.2.1 10 1)] : List Value).toArray s 0 0 (pvB G)) (F0 m 7 ls []) := by
    intro n7
    induction n7 with
    | zero =>
      intro τ xb2 hcτ h
      rw [f_X4_findWishes_7_z] at h
      cases h
    | succ n7 ih7 =>
      intro τ xb2 hcτ h H locs hw hS ls hl
      rw [f_X4_findWishes_7_s] at h
      refine lv_iload_n hx hb dX4_findWishes_7 rfl (lv_at hl 2 rfl) ?_
      refine lv_if_lt (tgt := 47) hx hb dX4_findWishes_8 (by decide) (fun c1 => ?_) (fun c1 => ?_)
      · skip
        replace h := ite_p c1 h
        exact pev hx hb hr hlocks hA hw hK hS (psv h hcτ) dX4_findWishes_47
      · skip
        replace h := ite_n c1 h
        refine lv_aload_n hx hb dX4_findWishes_11 rfl (lv_at hl 1 rfl) ?_
        refine lv_iload_n hx hb dX4_findWishes_12 rfl (lv_at hl 2 rfl) ?_
        obtain ⟨g2, h⟩ := gd_e h
        obtain ⟨y3, ey3, h⟩ := nq_e h
        refine pcallg (κ := 3) rfl (va_runV (As := [.int xb2]) (rest := []) ⟨hx, hb, hml, hown, hts⟩ (c_lgetI (l := l) (G := G) (tys := tys) (σ := τ) htys (j := 1) (show 1 < τ.1 0 + 3 from Nat.lt_of_lt_of_le (by decide) (Nat.le_add_left 3 _)) g2 (pl_len2 hw 1 (show 1 < τ.1 0 + 3 from Nat.lt_of_lt_of_le (by decide) (Nat.le_add_left 3 _)))) (cwV 1 hts (gVA wm508 wm255 wm256 wm13 wm257) rfl rfl rfl (by decide +kernel) ⟨(Nat.le_of_ble_eq_true rfl), (Nat.le_of_ble_eq_true rfl)⟩) (pl_preV hA hS hw hK 1 (show 1 < τ.1 0 + 3 from Nat.lt_of_lt_of_le (by decide) (Nat.le_add_left 3 _)) [.int xb2]) rfl rfl hl.1 rfl (lv_room (Nat.le_of_ble_eq_true rfl)) dX4_findWishes_13 ⟨Nat.zero_le _, Nat.zero_le _⟩) hS (fun zy3 ezy3 H locs hw hS => ?_)
        obtain rfl : y3 = zy3 := ey3.trans ezy3.symm
        have hy3 : y3 < pvM τ 3 := by rw [ey3]; exact pl_lt hw 1 (show 1 < τ.1 0 + 3 from Nat.lt_of_lt_of_le (by decide) (Nat.le_add_left 3 _)) _ (Nat.not_le.mp fun q => g2 (Or.inr q)) rfl
        have hy3 : y3 < pvM σ 3 := lt_c hcτ.symm 3 hy3
        refine pcast hx hb hown hK hw 3 y3 (lt_c hcτ 3 hy3) (by decide) rfl (hts _ wm502) dX4_findWishes_16 ?_
        refine pgL (C := RX3) (T := TX3) (N := 14) hx hb hts hown hK hw 3 6 y3 (lt_c hcτ 3 hy3) (by decide) rfl rfl inF_X3 (by decide) (v := .ref (G.2.2.1 2 y3)) rfl (hts _ wm482) (fun _ h9 => h9) dX4_findWishes_19 ?_
        obtain ⟨r4, e5, h⟩ := ob1_e h
        refine pcalli (va_runV (As := []) (rest := []) ⟨hx, hb, hml, hown, hts⟩ (c_X2_isBox (l := l) (G := G) (tys := tys) (σ := τ) htys (lt_c hcτ 2 hy3) e5) (cwV 0 hts (gVA wm519 wm520 wm521 wm81 wm522) rfl rfl rfl (by decide +kernel) ⟨(Nat.le_of_ble_eq_true rfl), (Nat.le_of_ble_eq_true rfl)⟩) (pv_preV hA hS hw hK 2 y3 (lt_c hcτ 2 hy3) (by decide) rfl []) rfl rfl hl.1 rfl (lv_room (Nat.le_of_ble_eq_true rfl)) dX4_findWishes_22 ⟨Nat.zero_le _, Nat.zero_le _⟩) hS (fun r7 s8 H locs hp6 hw hS => ?_)
        obtain ⟨err4, esr4, hzr4⟩ := hp6
        obtain rfl := esr4.symm
        obtain rfl := err4.symm
        refine lv_if_eq (tgt := 41) hx hb dX4_findWishes_25 (by decide) (fun c9 => ?_) (fun c9 => ?_)
        · skip
          replace h := ite_p c9 h
          refine lv_iinc (v := xb2 + (-1)) (lv' := [(2, .int (xb2 + (-1))), (0, .ref (G.2.2.1 4 0)), (1, .ref (G.2.2.1 10 1))]) hx hb dX4_findWishes_41 hl (k := 2) rfl (by rfl) (by decide) rfl (fun ls hl => ?_)
          refine lv_goto (tgt := 7) hx hb dX4_findWishes_44 (by decide) ?_
          exact ih7 τ (xb2 + (-1)) hcτ h _ _ hw hS ls (lv_sub hl [1, 2, 0] rfl)
        · skip
          replace h := ite_n c9 h
          refine lv_aload_n hx hb dX4_findWishes_28 rfl (lv_at hl 0 rfl) ?_
          refine lv_aload_n hx hb dX4_findWishes_29 rfl (lv_at hl 1 rfl) ?_
          refine lv_iload_n hx hb dX4_findWishes_30 rfl (lv_at hl 2 rfl) ?_
          obtain ⟨g10, h⟩ := gd_e h
          obtain ⟨y11, ey11, h⟩ := nq_e h
          refine pcallg (κ := 3) rfl (va_runV (As := [.int xb2]) (rest := [.ref (G.2.2.1 4 0)]) ⟨hx, hb, hml, hown, hts⟩ (c_lgetI (l := l) (G := G) (tys := tys) (σ := τ) htys (j := 1) (show 1 < τ.1 0 + 3 from Nat.lt_of_lt_of_le (by decide) (Nat.le_add_left 3 _)) g10 (pl_len2 hw 1 (show 1 < τ.1 0 + 3 from Nat.lt_of_lt_of_le (by decide) (Nat.le_add_left 3 _)))) (cwV 1 hts (gVA wm508 wm255 wm256 wm13 wm257) rfl rfl rfl (by decide +kernel) ⟨(Nat.le_of_ble_eq_true rfl), (Nat.le_of_ble_eq_true rfl)⟩) (pl_preV hA hS hw hK 1 (show 1 < τ.1 0 + 3 from Nat.lt_of_lt_of_le (by decide) (Nat.le_add_left 3 _)) [.int xb2]) rfl rfl hl.1 rfl (lv_room (Nat.le_of_ble_eq_true rfl)) dX4_findWishes_31 ⟨Nat.zero_le _, Nat.zero_le _⟩) hS (fun zy11 ezy11 H locs hw hS => ?_)
          obtain rfl : y11 = zy11 := ey11.trans ezy11.symm
          have hy11 : y11 < pvM τ 3 := by rw [ey11]; exact pl_lt hw 1 (show 1 < τ.1 0 + 3 from Nat.lt_of_lt_of_le (by decide) (Nat.le_add_left 3 _)) _ (Nat.not_le.mp fun q => g10 (Or.inr q)) rfl
          have hy11 : y11 < pvM σ 3 := lt_c hcτ.symm 3 hy11
          refine pcast hx hb hown hK hw 3 y11 (lt_c hcτ 3 hy11) (by decide) rfl (hts _ wm502) dX4_findWishes_34 ?_
          refine lv_aload_n hx hb dX4_findWishes_37 rfl (lv_at hl 1 rfl) ?_
          obtain ⟨σ13, e14, h⟩ := ob1_e h
          refine pcallv (va_runV (As := [.ref (G.2.2.1 3 y11), .ref (G.2.2.1 10 1)]) (rest := []) ⟨hx, hb, hml, hown, hts⟩ (c_X4_findWish (l := l) (G := G) (tys := tys) (σ := τ) htys (lt_c hcτ 3 hy11) e14) (cwV 2 hts (gVA wm527 wm528 wm529 wm17 wm530) rfl rfl rfl (by decide +kernel) ⟨(Nat.le_of_ble_eq_true rfl), (Nat.le_of_ble_eq_true rfl)⟩) (pv_preV hA hS hw hK 4 0 Nat.one_pos (by decide) rfl [.ref (G.2.2.1 3 y11), .ref (G.2.2.1 10 1)]) rfl rfl hl.1 rfl (lv_room (Nat.le_of_ble_eq_true rfl)) dX4_findWishes_38 ⟨Nat.zero_le _, Nat.zero_le _⟩) hS (fun s17 H locs hp15 hw hS => ?_)
          obtain ⟨esσ13, hdσ13⟩ := hp15
          obtain rfl := esσ13.symm
          have hcσ13 : σ13.1 = σ.1 := hdσ13.trans hcτ
          refine lv_iinc (v := xb2 + (-1)) (lv' := [(2, .int (xb2 + (-1))), (0, .ref (G.2.2.1 4 0)), (1, .ref (G.2.2.1 10 1))]) hx hb dX4_findWishes_41 hl (k := 2) rfl (by rfl) (by decide) rfl (fun ls hl => ?_)
          refine lv_goto (tgt := 7) hx hb dX4_findWishes_44 (by decide) ?_
          exact ih7 σ13 (xb2 + (-1)) hcσ13 h _ _ hw hS ls (lv_sub hl [1, 2, 0] rfl)
  refine lv_aload_n hx hb dX4_findWishes_0 rfl (lv_at hl 1 rfl) ?_
  refine pcalli (va_runV (As := []) (rest := []) ⟨hx, hb, hml, hown, hts⟩ (c_lsize (l := l) (G := G) (tys := tys) (σ := σ) (j := 1) (show 1 < σ.1 0 + 3 from Nat.lt_of_lt_of_le (by decide) (Nat.le_add_left 3 _))) (cwV 0 hts (gVA wm507 wm251 wm252 wm13 wm253) rfl rfl rfl (by decide +kernel) ⟨(Nat.le_of_ble_eq_true rfl), (Nat.le_of_ble_eq_true rfl)⟩) (pl_preV hA hS hw hK 1 (show 1 < σ.1 0 + 3 from Nat.lt_of_lt_of_le (by decide) (Nat.le_add_left 3 _)) []) rfl rfl hl.1 rfl (lv_room (Nat.le_of_ble_eq_true rfl)) dX4_findWishes_1 ⟨Nat.zero_le _, Nat.zero_le _⟩) hS (fun rz18 sz18 H locs hpz18 hw hS => ?_)
  obtain ⟨rfl, ez18⟩ := hpz18
  obtain rfl := ez18.symm
  refine lv_iconst (v := 1) hx hb dX4_findWishes_4 (by decide) ?_
  refine lv_isub hx hb dX4_findWishes_5 ?_
  refine lv_istore_n (lv' := [(2, .int ((nI (σ.2.2.2.2 1).length) - 1)), (0, .ref (G.2.2.1 4 0)), (1, .ref (G.2.2.1 10 1))]) hx hb dX4_findWishes_6 rfl hl (by decide) rfl (fun ls hl => ?_)
  exact loop7 fu σ ((nI (σ.2.2.2.2 1).length) - 1) rfl h _ _ hw hS ls (lv_sub hl [1, 2, 0] rfl)
def f_X4_putLines_226  (τ : PvS)  : Option PvS :=
  ob1 (f_X8_clear τ) (fun σ2 => some σ2)
def f_X4_putLines_127 (k16 : PvS → Nat → Int32 → Int32 → Int32 → Option PvS) (τ : PvS) (ub1 : Nat) (xb2 : Int32) (xb3 : Int32) (xb4 : Int32) (xb5 : Int32) (xb7 : Int32) (xbs0 : Int32) : Option PvS :=
  ob1 (f_X8_setLine τ xb3 xb7 ((τ.2.1 0 7 0) + xbs0) xb5) (fun σ8 => nm (pvI σ8 1 1 ub1 (xb5 + (2 * (σ8.2.1 8 6 0)))) (fun σ13 => nm (pvI σ13 1 2 ub1 0) (fun σ14 => nm (pvI σ14 2 10 ub1 ((σ14.2.1 2 10 ub1) + 1)) (fun σ15 => nm (pvI σ15 4 4 0 ((σ15.2.1 4 4 0) + 1)) (fun σ16 => nm (pvI σ16 4 5 0 ((σ16.2.1 4 5 0) + (σ16.2.1 8 5 0))) (fun σ17 => k16 σ17 ub1 xb2 xb7 (xb4 + 1)))))))
def f_X4_putLines_16  : Nat → PvS → Nat → Int32 → Int32 → Int32 → Option PvS
  | 0, _, _, _, _, _ => none
  | n + 1, τ, ub1, xb2, xb3, xb4 => if 800 ≤ xb4 then (f_X4_putLines_226 τ) else (if (τ.2.1 8 4 0) ≤ xb3 then (f_X4_putLines_226 τ) else (ob1 (f_X8_widthOf τ xb3) (fun r20 => ob2 (f_X0_findRoom τ r20 ub1 (τ.2.1 1 1 ub1)) (fun r25 σ26 => ob2 (f_X8_takeLine σ26 xb3 ((σ26.2.1 0 8 0) - (σ26.2.1 0 7 0))) (fun r31 σ32 => if xb2 = 0 then (f_X4_putLines_127 (f_X4_putLines_16 n) σ32 ub1 xb2 xb3 xb4 r25 r31 0) else (if xb2 = 1 then (f_X4_putLines_127 (f_X4_putLines_16 n) σ32 ub1 xb2 xb3 xb4 r25 r31 ((imax 0 (((σ26.2.1 0 8 0) - (σ26.2.1 0 7 0)) - (σ32.2.1 8 5 0))) / 2)) else (f_X4_putLines_127 (f_X4_putLines_16 n) σ32 ub1 xb2 xb3 xb4 r25 r31 (imax 0 (((σ26.2.1 0 8 0) - (σ26.2.1 0 7 0)) - (σ32.2.1 8 5 0))))))))))
theorem f_X4_putLines_16_z {τ : PvS} {ub1 : Nat} {xb2 : Int32} {xb3 : Int32} {xb4 : Int32} : f_X4_putLines_16 0 τ ub1 xb2 xb3 xb4 = none := rfl
theorem f_X4_putLines_16_s {n : Nat} {τ : PvS} {ub1 : Nat} {xb2 : Int32} {xb3 : Int32} {xb4 : Int32} : f_X4_putLines_16 (n + 1) τ ub1 xb2 xb3 xb4 = if 800 ≤ xb4 then (f_X4_putLines_226 τ) else (if (τ.2.1 8 4 0) ≤ xb3 then (f_X4_putLines_226 τ) else (ob1 (f_X8_widthOf τ xb3) (fun r20 => ob2 (f_X0_findRoom τ r20 ub1 (τ.2.1 1 1 ub1)) (fun r25 σ26 => ob2 (f_X8_takeLine σ26 xb3 ((σ26.2.1 0 8 0) - (σ26.2.1 0 7 0))) (fun r31 σ32 => if xb2 = 0 then (f_X4_putLines_127 (f_X4_putLines_16 n) σ32 ub1 xb2 xb3 xb4 r25 r31 0) else (if xb2 = 1 then (f_X4_putLines_127 (f_X4_putLines_16 n) σ32 ub1 xb2 xb3 xb4 r25 r31 ((imax 0 (((σ26.2.1 0 8 0) - (σ26.2.1 0 7 0)) - (σ32.2.1 8 5 0))) / 2)) else (f_X4_putLines_127 (f_X4_putLines_16 n) σ32 ub1 xb2 xb3 xb4 r25 r31 (imax 0 (((σ26.2.1 0 8 0) - (σ26.2.1 0 7 0)) - (σ32.2.1 8 5 0)))))))))) := rfl
def f_X4_putLines (σ : PvS) (u1 : Nat) : Option PvS :=
  ob1 (f_X6_of σ 0 u1 10) (fun r39 => f_X4_putLines_16 fu σ u1 r39 0 0)
set_option maxHeartbeats 4000000 in
set_option maxRecDepth 100000 in
theorem c_X4_putLines {l : Launch} {G : PvG} {tys : List (ClassId × FieldType)} {σ : PvS} (htys : tys = pvT G)  {u1 : Nat} (hu1 : u1 < pvM σ 3) {σ1 : PvS} (h : f_X4_putLines σ u1 = some σ1) : Met l yX4_putLines (Cond.code yX4_putLines cX4_putLines 10 none :: WA) ({ frames := 3, cells := 0, slots := 0, locals := 62 }) (va_Pc [.ref (G.2.2.1 4 0), .ref (G.2.2.1 3 u1)] (pvU G tys σ)) (va_Qv (fun σ' => σ' = σ1 ∧ σ'.1 = σ.1) (pvU G tys) (pvB G)) 0 0 (pvB G) := by
  refine Met.ofW (cc := cX4_putLines) (maxL := 10) (ret := none) (by decide) rfl ?_
  intro p e s m args below meth c s₁ B hml hv
  obtain ⟨rfl, hw, hK, hA⟩ := hv
  have hx := B.exec
  have hb := B.bytes
  have hr := B.returns
  have hts0 := atoms_spec (ws := (Cond.code yX4_putLines cX4_putLines 10 none :: WA)) B.pre
  have hts : ∀ w ∈ WA, w.before _ s = true := fun w h => hts0 w (List.mem_cons_of_mem _ h)
  have hown : s.vm.findClass RX4 = some m.cls := findClass_of_methodNamed B.named
  have hlocks := B.notSynchronized
  have hS : va_S (pvB G) s.heap s.heap [] := va_S.rf
  have hl := lv_entry ([.ref (G.2.2.1 4 0), .ref (G.2.2.1 3 u1)]) (n := 10) (Nat.le_of_ble_eq_true rfl)
  rw [lg_entry_eq]
  generalize (lg_sl ([.ref (G.2.2.1 4 0), .ref (G.2.2.1 3 u1)]) ++ List.replicate (10 - (lg_sl ([.ref (G.2.2.1 4 0), .ref (G.2.2.1 3 u1)])).length) Slot.unset).toArray = ls at hl ⊢
  have hl : lv_has ls 10 [(0, .ref (G.2.2.1 4 0)), (1, .ref (G.2.2.1 3 u1))] := hl
  have hroot := pv_root hw
  unfold f_X4_putLines at h
  have blk226 : ∀ (τ : PvS) , (τ.1 = σ.1) → f_X4_putLines_226 τ  = some σ1 → ∀ (H : Heap) (locs : List Loc), pvW G τ H → va_S (pvB G) s.heap H locs → ∀ (ls : Array Slot), lv_has ls 10 [(0, .ref (G.2.2.1 4 0))] → W p l e (headSpec (Cond.code yX4_putLines cX4_putLines 10 none :: WA) ({ frames := 3, cells := 0, slots := 0, locals := 62 } : Room)).room s m ([.ref (G.2.2.1 4 0), .ref (G.2.2.1 3 u1)] : List Value).toArray below meth c H locs 0 0 (MQ below (va_Qv (fun σ' => σ' = σ1 ∧ σ'.1 = σ.1) (pvU G tys) (pvB G)) ([.ref (G.2.2.1 4 0), .ref (G.2.2.1 3 u1)] : List Value).toArray s 0 0 (pvB G)) (F0 m 226 ls []) := by
    intro τ hcτ h H locs hw hS ls hl
    unfold f_X4_putLines_226 at h
    refine lv_aload_n hx hb dX4_putLines_226 rfl (lv_at hl 0 rfl) ?_
    refine pgL (C := RX4) (T := TX4) (N := 6) hx hb hts hown hK hw 4 2 0 Nat.one_pos (by decide) rfl rfl inF_X4 (by decide) (v := .ref (G.2.2.1 8 0)) rfl (hts _ wm179) (fun _ h9 => h9) dX4_putLines_227 ?_
    obtain ⟨σ2, e3, h⟩ := ob1_e h
    refine pcallv (va_runV (As := []) (rest := []) ⟨hx, hb, hml, hown, hts⟩ (c_X8_clear (l := l) (G := G) (tys := tys) (σ := τ) htys  e3) (cwV 0 hts (gVA wm494 wm495 wm496 wm178 wm497) rfl rfl rfl (by decide +kernel) ⟨(Nat.le_of_ble_eq_true rfl), (Nat.le_of_ble_eq_true rfl)⟩) (pv_preV hA hS hw hK 8 0 Nat.one_pos (by decide) rfl []) rfl rfl hl.1 rfl (lv_room (Nat.le_of_ble_eq_true rfl)) dX4_putLines_230 ⟨Nat.zero_le _, Nat.zero_le _⟩) hS (fun s6 H locs hp4 hw hS => ?_)
    obtain ⟨esσ2, hdσ2⟩ := hp4
    obtain rfl := esσ2.symm
    have hcσ2 : σ2.1 = σ.1 := hdσ2.trans hcτ
    exact pev hx hb hr hlocks hA hw hK hS (psv h hcσ2) dX4_putLines_233
  have loop16 : ∀ (n : Nat) (τ : PvS) (ub1 : Nat) (xb2 : Int32) (xb3 : Int32) (xb4 : Int32), (τ.1 = σ.1) → (ub1 < pvM σ 3) → f_X4_putLines_16 n τ ub1 xb2 xb3 xb4 = some σ1 → ∀ (H : Heap) (locs : List Loc), pvW G τ H → va_S (pvB G) s.heap H locs → ∀ (ls : Array Slot), lv_has ls 10 [(0, .ref (G.2.2.1 4 0)), (1, .ref (G.2.2.1 3 ub1)), (2, .int xb2), (3, .int xb3), (4, .int xb4)] → W p l e (headSpec (Cond.code yX4_putLines cX4_putLines 10 none :: WA) ({ frames := 3, cells := 0, slots := 0, locals := 62 } : Room)).room s m ([.ref (G.2.2.1 4 0), .ref (G.2.2.1 3 u1)] : List Value).toArray below meth c H locs 0 0 (MQ below (va_Qv (fun σ' => σ' = σ1 ∧ σ'.1 = σ.1) (pvU G tys) (pvB G)) ([.ref (G.2.2.1 4 0), .ref (G.2.2.1 3 u1)] : List Value).toArray s 0 0 (pvB G)) (F0 m 16 ls []) := by
    intro n16
    induction n16 with
    | zero =>
      intro τ ub1 xb2 xb3 xb4 hcτ hub1 h
      rw [f_X4_putLines_16_z] at h
      cases h
    | succ n16 ih16 =>
      have blk127 : ∀ (τ : PvS) (ub1 : Nat) (xb2 : Int32) (xb3 : Int32) (xb4 : Int32) (xb5 : Int32) (xb7 : Int32) (xbs0 : Int32), (τ.1 = σ.1) → (ub1 < pvM σ 3) → f_X4_putLines_127 (f_X4_putLines_16 n16) τ ub1 xb2 xb3 xb4 xb5 xb7 xbs0 = some σ1 → ∀ (H : Heap) (locs : List Loc), pvW G τ H → va_S (pvB G) s.heap H locs → ∀ (ls : Array Slot), lv_has ls 10 [(0, .ref (G.2.2.1 4 0)), (1, .ref (G.2.2.1 3 ub1)), (2, .int xb2), (3, .int xb3), (4, .int xb4), (5, .int xb5), (7, .int xb7)] → W p l e (headSpec (Cond.code yX4_putLines cX4_putLines 10 none :: WA) ({ frames := 3, cells := 0, slots := 0, locals := 62 } : Room)).room s m ([.ref (G.2.2.1 4 0), .ref (G.2.2.1 3 u1)] : List Value).toArray below meth c H locs 0 0 (MQ below (va_Qv (fun σ' => σ' = σ1 ∧ σ'.1 = σ.1) (pvU G tys) (pvB G)) ([.ref (G.2.2.1 4 0), .ref (G.2.2.1 3 u1)] : List Value).toArray s 0 0 (pvB G)) (F0 m 127 ls [.int xbs0]) := by
        intro τ ub1 xb2 xb3 xb4 xb5 xb7 xbs0 hcτ hub1 h H locs hw hS ls hl
        unfold f_X4_putLines_127 at h
        refine lv_istore (lv' := [(9, .int xbs0), (0, .ref (G.2.2.1 4 0)), (1, .ref (G.2.2.1 3 ub1)), (2, .int xb2), (3, .int xb3), (4, .int xb4), (5, .int xb5), (7, .int xb7)]) hx hb dX4_putLines_127 hl (by decide) rfl (fun ls hl => ?_)
        refine lv_aload_n hx hb dX4_putLines_129 rfl (lv_at hl 1 rfl) ?_
        refine pgL (C := RX4) (T := TX4) (N := 6) hx hb hts hown hK hw 4 2 0 Nat.one_pos (by decide) rfl rfl inF_X4 (by decide) (v := .ref (G.2.2.1 8 0)) rfl (hts _ wm179) (fun _ h9 => h9) dX4_putLines_130 ?_
        refine lv_iload_n hx hb dX4_putLines_133 rfl (lv_at hl 4 rfl) ?_
        refine lv_iload hx hb dX4_putLines_134 (lv_at hl 7 rfl) ?_
        refine lv_aload_n hx hb dX4_putLines_136 rfl (lv_at hl 1 rfl) ?_
        refine pgL (C := RX4) (T := TX4) (N := 6) hx hb hts hown hK hw 4 1 0 Nat.one_pos (by decide) rfl rfl inF_X4 (by decide) (v := .ref (G.2.2.1 0 0)) rfl (hts _ wm175) (fun _ h9 => h9) dX4_putLines_137 ?_
        refine pgI (C := RX0) (T := TX0) (N := 10) hx hb hts hown hK hw 0 7 0 Nat.one_pos (by decide) rfl rfl inF_X0 (by decide) rfl (hts _ wm569) (fun _ h9 => h9) dX4_putLines_140 ?_
        refine lv_iload hx hb dX4_putLines_143 (lv_at hl 0 rfl) ?_
        refine lv_iadd hx hb dX4_putLines_145 ?_
        refine lv_iload hx hb dX4_putLines_146 (lv_at hl 6 rfl) ?_
        obtain ⟨σ8, e9, h⟩ := ob1_e h
        refine pcallv (va_runV (As := [.int xb3, .int xb7, .int ((τ.2.1 0 7 0) + xbs0), .int xb5]) (rest := []) ⟨hx, hb, hml, hown, hts⟩ (c_X8_setLine (l := l) (G := G) (tys := tys) (σ := τ) htys  e9) (cwV 4 hts (gVA wm596 wm597 wm598 wm178 wm599) rfl rfl rfl (by decide +kernel) ⟨(Nat.le_of_ble_eq_true rfl), (Nat.le_of_ble_eq_true rfl)⟩) (pv_preV hA hS hw hK 8 0 Nat.one_pos (by decide) rfl [.int xb3, .int xb7, .int ((τ.2.1 0 7 0) + xbs0), .int xb5]) rfl rfl hl.1 rfl (lv_room (Nat.le_of_ble_eq_true rfl)) dX4_putLines_148 ⟨Nat.zero_le _, Nat.zero_le _⟩) hS (fun s12 H locs hp10 hw hS => ?_)
        obtain ⟨esσ8, hdσ8⟩ := hp10
        obtain rfl := esσ8.symm
        have hcσ8 : σ8.1 = σ.1 := hdσ8.trans hcτ
        refine lv_aload_n hx hb dX4_putLines_151 rfl (lv_at hl 2 rfl) ?_
        refine pgL (C := RX3) (T := TX3) (N := 14) hx hb hts hown hK hw 3 7 ub1 (lt_c hcσ8 3 hub1) (by decide) rfl rfl inF_X3 (by decide) (v := .ref (G.2.2.1 1 ub1)) rfl (hts _ wm487) (fun _ h9 => h9) dX4_putLines_152 ?_
        refine lv_iload hx hb dX4_putLines_155 (lv_at hl 6 rfl) ?_
        refine lv_iconst (v := 2) hx hb dX4_putLines_157 (by decide) ?_
        refine lv_aload_n hx hb dX4_putLines_158 rfl (lv_at hl 1 rfl) ?_
        refine pgL (C := RX4) (T := TX4) (N := 6) hx hb hts hown hK hw 4 2 0 Nat.one_pos (by decide) rfl rfl inF_X4 (by decide) (v := .ref (G.2.2.1 8 0)) rfl (hts _ wm179) (fun _ h9 => h9) dX4_putLines_159 ?_
        refine pgI (C := RX8) (T := TX8) (N := 7) hx hb hts hown hK hw 8 6 0 Nat.one_pos (by decide) rfl rfl inF_X8 (by decide) rfl (hts _ wm571) (fun _ h9 => h9) dX4_putLines_162 ?_
        refine lv_imul hx hb dX4_putLines_165 ?_
        refine lv_iadd hx hb dX4_putLines_166 ?_
        obtain ⟨σ13, eσ13, h⟩ := nq_e h
        refine ppI (ty := .int) (C := RX1) (T := TX1) (N := 5) hx hb hts hown hK hw hS 1 1 ub1 (lt_c hcσ8 1 hub1) (by decide) rfl rfl inF_X1 (by decide) rfl (by decide) tyX1_ok nmX1 (hts _ wm555) (fun _ h9 => h9) rfl (by decide +kernel) rfl rfl dX4_putLines_167 (fun H locs hw hS => ?_)
        rw [← eσ13] at hw
        have hcσ13 : σ13.1 = σ.1 := by rw [eσ13]; exact hcσ8
        refine lv_aload_n hx hb dX4_putLines_170 rfl (lv_at hl 2 rfl) ?_
        refine pgL (C := RX3) (T := TX3) (N := 14) hx hb hts hown hK hw 3 7 ub1 (lt_c hcσ13 3 hub1) (by decide) rfl rfl inF_X3 (by decide) (v := .ref (G.2.2.1 1 ub1)) rfl (hts _ wm487) (fun _ h9 => h9) dX4_putLines_171 ?_
        refine lv_iconst (v := 0) hx hb dX4_putLines_174 (by decide) ?_
        obtain ⟨σ14, eσ14, h⟩ := nq_e h
        refine ppI (ty := .int) (C := RX1) (T := TX1) (N := 5) hx hb hts hown hK hw hS 1 2 ub1 (lt_c hcσ13 1 hub1) (by decide) rfl rfl inF_X1 (by decide) rfl (by decide) tyX1_ok nmX1 (hts _ wm556) (fun _ h9 => h9) rfl (by decide +kernel) rfl rfl dX4_putLines_175 (fun H locs hw hS => ?_)
        rw [← eσ14] at hw
        have hcσ14 : σ14.1 = σ.1 := by rw [eσ14]; exact hcσ13
        refine lv_aload_n hx hb dX4_putLines_178 rfl (lv_at hl 2 rfl) ?_
        refine pgL (C := RX3) (T := TX3) (N := 14) hx hb hts hown hK hw 3 6 ub1 (lt_c hcσ14 3 hub1) (by decide) rfl rfl inF_X3 (by decide) (v := .ref (G.2.2.1 2 ub1)) rfl (hts _ wm482) (fun _ h9 => h9) dX4_putLines_179 ?_
        refine lv_dup hx hb dX4_putLines_182 rfl ?_
        refine pgI (C := RX2) (T := TX2) (N := 16) hx hb hts hown hK hw 2 10 ub1 (lt_c hcσ14 2 hub1) (by decide) rfl rfl inF_X2 (by decide) rfl (hts _ wm557) (fun _ h9 => h9) dX4_putLines_183 ?_
        refine lv_iconst (v := 1) hx hb dX4_putLines_186 (by decide) ?_
        refine lv_iadd hx hb dX4_putLines_187 ?_
        obtain ⟨σ15, eσ15, h⟩ := nq_e h
        refine ppI (ty := .int) (C := RX2) (T := TX2) (N := 16) hx hb hts hown hK hw hS 2 10 ub1 (lt_c hcσ14 2 hub1) (by decide) rfl rfl inF_X2 (by decide) rfl (by decide) tyX2_ok nmX2 (hts _ wm557) (fun _ h9 => h9) rfl (by decide +kernel) rfl rfl dX4_putLines_188 (fun H locs hw hS => ?_)
        rw [← eσ15] at hw
        have hcσ15 : σ15.1 = σ.1 := by rw [eσ15]; exact hcσ14
        refine lv_aload_n hx hb dX4_putLines_191 rfl (lv_at hl 1 rfl) ?_
        refine lv_dup hx hb dX4_putLines_192 rfl ?_
        refine pgI (C := RX4) (T := TX4) (N := 6) hx hb hts hown hK hw 4 4 0 Nat.one_pos (by decide) rfl rfl inF_X4 (by decide) rfl (hts _ wm181) (fun _ h9 => h9) dX4_putLines_193 ?_
        refine lv_iconst (v := 1) hx hb dX4_putLines_196 (by decide) ?_
        refine lv_iadd hx hb dX4_putLines_197 ?_
        obtain ⟨σ16, eσ16, h⟩ := nq_e h
        refine ppI (ty := .int) (C := RX4) (T := TX4) (N := 6) hx hb hts hown hK hw hS 4 4 0 Nat.one_pos (by decide) rfl rfl inF_X4 (by decide) rfl (by decide) tyX4_ok nmX4 (hts _ wm181) (fun _ h9 => h9) rfl (by decide +kernel) rfl rfl dX4_putLines_198 (fun H locs hw hS => ?_)
        rw [← eσ16] at hw
        have hcσ16 : σ16.1 = σ.1 := by rw [eσ16]; exact hcσ15
        refine lv_aload_n hx hb dX4_putLines_201 rfl (lv_at hl 1 rfl) ?_
        refine lv_dup hx hb dX4_putLines_202 rfl ?_
        refine pgI (C := RX4) (T := TX4) (N := 6) hx hb hts hown hK hw 4 5 0 Nat.one_pos (by decide) rfl rfl inF_X4 (by decide) rfl (hts _ wm182) (fun _ h9 => h9) dX4_putLines_203 ?_
        refine lv_aload_n hx hb dX4_putLines_206 rfl (lv_at hl 1 rfl) ?_
        refine pgL (C := RX4) (T := TX4) (N := 6) hx hb hts hown hK hw 4 2 0 Nat.one_pos (by decide) rfl rfl inF_X4 (by decide) (v := .ref (G.2.2.1 8 0)) rfl (hts _ wm179) (fun _ h9 => h9) dX4_putLines_207 ?_
        refine pgI (C := RX8) (T := TX8) (N := 7) hx hb hts hown hK hw 8 5 0 Nat.one_pos (by decide) rfl rfl inF_X8 (by decide) rfl (hts _ wm570) (fun _ h9 => h9) dX4_putLines_210 ?_
        refine lv_iadd hx hb dX4_putLines_213 ?_
        obtain ⟨σ17, eσ17, h⟩ := nq_e h
        refine ppI (ty := .int) (C := RX4) (T := TX4) (N := 6) hx hb hts hown hK hw hS 4 5 0 Nat.one_pos (by decide) rfl rfl inF_X4 (by decide) rfl (by decide) tyX4_ok nmX4 (hts _ wm182) (fun _ h9 => h9) rfl (by decide +kernel) rfl rfl dX4_putLines_214 (fun H locs hw hS => ?_)
        rw [← eσ17] at hw
        have hcσ17 : σ17.1 = σ.1 := by rw [eσ17]; exact hcσ16
        refine lv_iload hx hb dX4_putLines_217 (lv_at hl 7 rfl) ?_
        refine lv_istore_n (lv' := [(3, .int xb7), (9, .int xbs0), (0, .ref (G.2.2.1 4 0)), (1, .ref (G.2.2.1 3 ub1)), (2, .int xb2), (4, .int xb4), (5, .int xb5), (7, .int xb7)]) hx hb dX4_putLines_219 rfl hl (by decide) rfl (fun ls hl => ?_)
        refine lv_iinc (v := xb4 + 1) (lv' := [(4, .int (xb4 + 1)), (3, .int xb7), (9, .int xbs0), (0, .ref (G.2.2.1 4 0)), (1, .ref (G.2.2.1 3 ub1)), (2, .int xb2), (5, .int xb5), (7, .int xb7)]) hx hb dX4_putLines_220 hl (k := 5) rfl (by rfl) (by decide) rfl (fun ls hl => ?_)
        refine lv_goto (tgt := 16) hx hb dX4_putLines_223 (by decide) ?_
        exact ih16 σ17 ub1 xb2 xb7 (xb4 + 1) hcσ17 hub1 h _ _ hw hS ls (lv_sub hl [3, 4, 5, 1, 0] rfl)
      intro τ ub1 xb2 xb3 xb4 hcτ hub1 h H locs hw hS ls hl
      rw [f_X4_putLines_16_s] at h
      refine lv_iload hx hb dX4_putLines_16 (lv_at hl 4 rfl) ?_
      refine lv_sipush (v := 800) hx hb dX4_putLines_18 (by decide) ?_
      refine lv_icmp_ge (tgt := 226) hx hb dX4_putLines_21 (by decide) (fun c18 => ?_) (fun c18 => ?_)
      · skip
        replace h := ite_p c18 h
        exact blk226 τ hcτ h _ _ hw hS ls (lv_sub hl [0] rfl)
      · skip
        replace h := ite_n c18 h
        refine lv_iload_n hx hb dX4_putLines_24 rfl (lv_at hl 3 rfl) ?_
        refine lv_aload_n hx hb dX4_putLines_25 rfl (lv_at hl 0 rfl) ?_
        refine pgL (C := RX4) (T := TX4) (N := 6) hx hb hts hown hK hw 4 2 0 Nat.one_pos (by decide) rfl rfl inF_X4 (by decide) (v := .ref (G.2.2.1 8 0)) rfl (hts _ wm179) (fun _ h9 => h9) dX4_putLines_26 ?_
        refine pgI (C := RX8) (T := TX8) (N := 7) hx hb hts hown hK hw 8 4 0 Nat.one_pos (by decide) rfl rfl inF_X8 (by decide) rfl (hts _ wm567) (fun _ h9 => h9) dX4_putLines_29 ?_
        refine lv_icmp_ge (tgt := 226) hx hb dX4_putLines_32 (by decide) (fun c19 => ?_) (fun c19 => ?_)
        · skip
          replace h := ite_p c19 h
          exact blk226 τ hcτ h _ _ hw hS ls (lv_sub hl [0] rfl)
        · skip
          replace h := ite_n c19 h
          refine lv_aload_n hx hb dX4_putLines_35 rfl (lv_at hl 0 rfl) ?_
          refine pgL (C := RX4) (T := TX4) (N := 6) hx hb hts hown hK hw 4 1 0 Nat.one_pos (by decide) rfl rfl inF_X4 (by decide) (v := .ref (G.2.2.1 0 0)) rfl (hts _ wm175) (fun _ h9 => h9) dX4_putLines_36 ?_
          refine lv_aload_n hx hb dX4_putLines_39 rfl (lv_at hl 0 rfl) ?_
          refine pgL (C := RX4) (T := TX4) (N := 6) hx hb hts hown hK hw 4 2 0 Nat.one_pos (by decide) rfl rfl inF_X4 (by decide) (v := .ref (G.2.2.1 8 0)) rfl (hts _ wm179) (fun _ h9 => h9) dX4_putLines_40 ?_
          refine lv_iload_n hx hb dX4_putLines_43 rfl (lv_at hl 3 rfl) ?_
          obtain ⟨r20, e21, h⟩ := ob1_e h
          refine pcalli (va_runV (As := [.int xb3]) (rest := [.ref (G.2.2.1 0 0)]) ⟨hx, hb, hml, hown, hts⟩ (c_X8_widthOf (l := l) (G := G) (tys := tys) (σ := τ) htys  e21) (cwV 1 hts (gVA wm572 wm573 wm574 wm178 wm575) rfl rfl rfl (by decide +kernel) ⟨(Nat.le_of_ble_eq_true rfl), (Nat.le_of_ble_eq_true rfl)⟩) (pv_preV hA hS hw hK 8 0 Nat.one_pos (by decide) rfl [.int xb3]) rfl rfl hl.1 rfl (lv_room (Nat.le_of_ble_eq_true rfl)) dX4_putLines_44 ⟨Nat.zero_le _, Nat.zero_le _⟩) hS (fun r23 s24 H locs hp22 hw hS => ?_)
          obtain ⟨err20, esr20⟩ := hp22
          obtain rfl := esr20.symm
          obtain rfl := err20.symm
          refine lv_aload_n hx hb dX4_putLines_47 rfl (lv_at hl 1 rfl) ?_
          refine lv_aload_n hx hb dX4_putLines_48 rfl (lv_at hl 1 rfl) ?_
          refine pgL (C := RX3) (T := TX3) (N := 14) hx hb hts hown hK hw 3 7 ub1 (lt_c hcτ 3 hub1) (by decide) rfl rfl inF_X3 (by decide) (v := .ref (G.2.2.1 1 ub1)) rfl (hts _ wm487) (fun _ h9 => h9) dX4_putLines_49 ?_
          refine pgI (C := RX1) (T := TX1) (N := 5) hx hb hts hown hK hw 1 1 ub1 (lt_c hcτ 1 hub1) (by decide) rfl rfl inF_X1 (by decide) rfl (hts _ wm555) (fun _ h9 => h9) dX4_putLines_52 ?_
          obtain ⟨r25, σ26, e27, h⟩ := ob2_e h
          refine pcalli (va_runV (As := [.int r20, .ref (G.2.2.1 3 ub1), .int (τ.2.1 1 1 ub1)]) (rest := []) ⟨hx, hb, hml, hown, hts⟩ (c_X0_findRoom (l := l) (G := G) (tys := tys) (σ := τ) htys (lt_c hcτ 3 hub1) e27) (cwV 3 hts (gVA wm576 wm577 wm578 wm174 wm579) rfl rfl rfl (by decide +kernel) ⟨(Nat.le_of_ble_eq_true rfl), (Nat.le_of_ble_eq_true rfl)⟩) (pv_preV hA hS hw hK 0 0 Nat.one_pos (by decide) rfl [.int r20, .ref (G.2.2.1 3 ub1), .int (τ.2.1 1 1 ub1)]) rfl rfl hl.1 rfl (lv_room (Nat.le_of_ble_eq_true rfl)) dX4_putLines_55 ⟨Nat.zero_le _, Nat.zero_le _⟩) hS (fun r29 s30 H locs hp28 hw hS => ?_)
          obtain ⟨err25, esσ26, hdσ26⟩ := hp28
          obtain rfl := esσ26.symm
          have hcσ26 : σ26.1 = σ.1 := hdσ26.trans hcτ
          obtain rfl := err25.symm
          refine lv_istore (lv' := [(5, .int r25), (0, .ref (G.2.2.1 4 0)), (1, .ref (G.2.2.1 3 ub1)), (2, .int xb2), (3, .int xb3), (4, .int xb4)]) hx hb dX4_putLines_58 hl (by decide) rfl (fun ls hl => ?_)
          refine lv_aload_n hx hb dX4_putLines_60 rfl (lv_at hl 1 rfl) ?_
          refine pgL (C := RX4) (T := TX4) (N := 6) hx hb hts hown hK hw 4 1 0 Nat.one_pos (by decide) rfl rfl inF_X4 (by decide) (v := .ref (G.2.2.1 0 0)) rfl (hts _ wm175) (fun _ h9 => h9) dX4_putLines_61 ?_
          refine pgI (C := RX0) (T := TX0) (N := 10) hx hb hts hown hK hw 0 8 0 Nat.one_pos (by decide) rfl rfl inF_X0 (by decide) rfl (hts _ wm568) (fun _ h9 => h9) dX4_putLines_64 ?_
          refine lv_aload_n hx hb dX4_putLines_67 rfl (lv_at hl 1 rfl) ?_
          refine pgL (C := RX4) (T := TX4) (N := 6) hx hb hts hown hK hw 4 1 0 Nat.one_pos (by decide) rfl rfl inF_X4 (by decide) (v := .ref (G.2.2.1 0 0)) rfl (hts _ wm175) (fun _ h9 => h9) dX4_putLines_68 ?_
          refine pgI (C := RX0) (T := TX0) (N := 10) hx hb hts hown hK hw 0 7 0 Nat.one_pos (by decide) rfl rfl inF_X0 (by decide) rfl (hts _ wm569) (fun _ h9 => h9) dX4_putLines_71 ?_
          refine lv_isub hx hb dX4_putLines_74 ?_
          refine lv_istore (lv' := [(6, .int ((σ26.2.1 0 8 0) - (σ26.2.1 0 7 0))), (5, .int r25), (0, .ref (G.2.2.1 4 0)), (1, .ref (G.2.2.1 3 ub1)), (2, .int xb2), (3, .int xb3), (4, .int xb4)]) hx hb dX4_putLines_75 hl (by decide) rfl (fun ls hl => ?_)
          refine lv_aload_n hx hb dX4_putLines_77 rfl (lv_at hl 2 rfl) ?_
          refine pgL (C := RX4) (T := TX4) (N := 6) hx hb hts hown hK hw 4 2 0 Nat.one_pos (by decide) rfl rfl inF_X4 (by decide) (v := .ref (G.2.2.1 8 0)) rfl (hts _ wm179) (fun _ h9 => h9) dX4_putLines_78 ?_
          refine lv_iload_n hx hb dX4_putLines_81 rfl (lv_at hl 5 rfl) ?_
          refine lv_iload hx hb dX4_putLines_82 (lv_at hl 0 rfl) ?_
          obtain ⟨r31, σ32, e33, h⟩ := ob2_e h
          refine pcalli (va_runV (As := [.int xb3, .int ((σ26.2.1 0 8 0) - (σ26.2.1 0 7 0))]) (rest := []) ⟨hx, hb, hml, hown, hts⟩ (c_X8_takeLine (l := l) (G := G) (tys := tys) (σ := σ26) htys  e33) (cwV 2 hts (gVA wm591 wm592 wm593 wm178 wm594) rfl rfl rfl (by decide +kernel) ⟨(Nat.le_of_ble_eq_true rfl), (Nat.le_of_ble_eq_true rfl)⟩) (pv_preV hA hS hw hK 8 0 Nat.one_pos (by decide) rfl [.int xb3, .int ((σ26.2.1 0 8 0) - (σ26.2.1 0 7 0))]) rfl rfl hl.1 rfl (lv_room (Nat.le_of_ble_eq_true rfl)) dX4_putLines_84 ⟨Nat.zero_le _, Nat.zero_le _⟩) hS (fun r35 s36 H locs hp34 hw hS => ?_)
          obtain ⟨err31, esσ32, hdσ32⟩ := hp34
          obtain rfl := esσ32.symm
          have hcσ32 : σ32.1 = σ.1 := hdσ32.trans hcσ26
          obtain rfl := err31.symm
          refine lv_istore (lv' := [(7, .int r31), (6, .int ((σ26.2.1 0 8 0) - (σ26.2.1 0 7 0))), (5, .int r25), (0, .ref (G.2.2.1 4 0)), (1, .ref (G.2.2.1 3 ub1)), (2, .int xb2), (3, .int xb3), (4, .int xb4)]) hx hb dX4_putLines_87 hl (by decide) rfl (fun ls hl => ?_)
          refine lv_iconst (v := 0) hx hb dX4_putLines_89 (by decide) ?_
          refine lv_iload hx hb dX4_putLines_90 (lv_at hl 1 rfl) ?_
          refine lv_aload_n hx hb dX4_putLines_92 rfl (lv_at hl 3 rfl) ?_
          refine pgL (C := RX4) (T := TX4) (N := 6) hx hb hts hown hK hw 4 2 0 Nat.one_pos (by decide) rfl rfl inF_X4 (by decide) (v := .ref (G.2.2.1 8 0)) rfl (hts _ wm179) (fun _ h9 => h9) dX4_putLines_93 ?_
          refine pgI (C := RX8) (T := TX8) (N := 7) hx hb hts hown hK hw 8 5 0 Nat.one_pos (by decide) rfl rfl inF_X8 (by decide) rfl (hts _ wm570) (fun _ h9 => h9) dX4_putLines_96 ?_
          refine lv_isub hx hb dX4_putLines_99 ?_
          refine pmmax hx hb (hml.trans hl.1.symm) hown (hts _ wm533) (hts _ wm111) (hts _ wm112) (hts _ wm113) (Nat.le_of_ble_eq_true rfl) (Nat.le_of_ble_eq_true rfl) (Nat.zero_le _) (Nat.zero_le _) dX4_putLines_100 ?_
          refine lv_istore (lv' := [(8, .int (imax 0 (((σ26.2.1 0 8 0) - (σ26.2.1 0 7 0)) - (σ32.2.1 8 5 0)))), (7, .int r31), (6, .int ((σ26.2.1 0 8 0) - (σ26.2.1 0 7 0))), (5, .int r25), (0, .ref (G.2.2.1 4 0)), (1, .ref (G.2.2.1 3 ub1)), (2, .int xb2), (3, .int xb3), (4, .int xb4)]) hx hb dX4_putLines_103 hl (by decide) rfl (fun ls hl => ?_)
          refine lv_iload_n hx hb dX4_putLines_105 rfl (lv_at hl 6 rfl) ?_
          refine lv_if_ne (tgt := 113) hx hb dX4_putLines_106 (by decide) (fun c37 => ?_) (fun c37 => ?_)
          · skip
            replace h := ite_n c37 h
            refine lv_iload_n hx hb dX4_putLines_113 rfl (lv_at hl 6 rfl) ?_
            refine lv_iconst (v := 1) hx hb dX4_putLines_114 (by decide) ?_
            refine lv_icmp_ne (tgt := 125) hx hb dX4_putLines_115 (by decide) (fun c38 => ?_) (fun c38 => ?_)
            · skip
              replace h := ite_n c38 h
              refine lv_iload hx hb dX4_putLines_125 (lv_at hl 0 rfl) ?_
              exact blk127 σ32 ub1 xb2 xb3 xb4 r25 r31 (imax 0 (((σ26.2.1 0 8 0) - (σ26.2.1 0 7 0)) - (σ32.2.1 8 5 0))) hcσ32 hub1 h _ _ hw hS ls (lv_sub hl [4, 5, 6, 7, 8, 3, 1] rfl)
            · skip
              replace h := ite_p c38 h
              refine lv_iload hx hb dX4_putLines_118 (lv_at hl 0 rfl) ?_
              refine lv_iconst (v := 2) hx hb dX4_putLines_120 (by decide) ?_
              refine lv_idiv hx hb dX4_putLines_121 (by decide) ?_
              refine lv_goto (tgt := 127) hx hb dX4_putLines_122 (by decide) ?_
              exact blk127 σ32 ub1 xb2 xb3 xb4 r25 r31 ((imax 0 (((σ26.2.1 0 8 0) - (σ26.2.1 0 7 0)) - (σ32.2.1 8 5 0))) / 2) hcσ32 hub1 h _ _ hw hS ls (lv_sub hl [4, 5, 6, 7, 8, 3, 1] rfl)
          · skip
            replace h := ite_p c37 h
            refine lv_iconst (v := 0) hx hb dX4_putLines_109 (by decide) ?_
            refine lv_goto (tgt := 127) hx hb dX4_putLines_110 (by decide) ?_
            exact blk127 σ32 ub1 xb2 xb3 xb4 r25 r31 0 hcσ32 hub1 h _ _ hw hS ls (lv_sub hl [4, 5, 6, 7, 8, 3, 1] rfl)
  refine lv_aload_n hx hb dX4_putLines_0 rfl (lv_at hl 0 rfl) ?_
  refine pgL (C := RX4) (T := TX4) (N := 6) hx hb hts hown hK hw 4 0 0 Nat.one_pos (by decide) rfl rfl inF_X4 (by decide) (v := .ref (G.2.2.1 6 0)) rfl (hts _ wm171) (fun _ h9 => h9) dX4_putLines_1 ?_
  refine lv_aload_n hx hb dX4_putLines_4 rfl (lv_at hl 1 rfl) ?_
  refine lv_bipush (v := 10) hx hb dX4_putLines_5 (by decide) ?_
  obtain ⟨r39, e40, h⟩ := ob1_e h
  refine pcalli (va_runV (As := [.ref (G.2.2.1 3 u1), .int 10]) (rest := []) ⟨hx, hb, hml, hown, hts⟩ (c_X6_of (l := l) (G := G) (tys := tys) (σ := σ) htys (show 0 < 2 from by decide) hu1 e40) (cwV 2 hts (gVA wm515 wm473 wm474 wm23 wm475) rfl rfl rfl (by decide +kernel) ⟨(Nat.le_of_ble_eq_true rfl), (Nat.le_of_ble_eq_true rfl)⟩) (pv_preV hA hS hw hK 6 0 (show 0 < 2 from by decide) (by decide) rfl [.ref (G.2.2.1 3 u1), .int 10]) rfl rfl hl.1 rfl (lv_room (Nat.le_of_ble_eq_true rfl)) dX4_putLines_7 ⟨Nat.zero_le _, Nat.zero_le _⟩) hS (fun r42 s43 H locs hp41 hw hS => ?_)
  obtain ⟨err39, esr39⟩ := hp41
  obtain rfl := esr39.symm
  obtain rfl := err39.symm
  refine lv_istore_n (lv' := [(2, .int r39), (0, .ref (G.2.2.1 4 0)), (1, .ref (G.2.2.1 3 u1))]) hx hb dX4_putLines_10 rfl hl (by decide) rfl (fun ls hl => ?_)
  refine lv_iconst (v := 0) hx hb dX4_putLines_11 (by decide) ?_
  refine lv_istore_n (lv' := [(3, .int 0), (2, .int r39), (0, .ref (G.2.2.1 4 0)), (1, .ref (G.2.2.1 3 u1))]) hx hb dX4_putLines_12 rfl hl (by decide) rfl (fun ls hl => ?_)
  refine lv_iconst (v := 0) hx hb dX4_putLines_13 (by decide) ?_
  refine lv_istore (lv' := [(4, .int 0), (3, .int 0), (2, .int r39), (0, .ref (G.2.2.1 4 0)), (1, .ref (G.2.2.1 3 u1))]) hx hb dX4_putLines_14 hl (by decide) rfl (fun ls hl => ?_)
  exact loop16 fu σ u1 r39 0 0 rfl hu1 h _ _ hw hS ls (lv_sub hl [3, 4, 2, 1, 0] rfl)
def f_X4_putFloat_166  (kf : PvS → Nat → Int32 → Option PvS) (τ : PvS) (ub1 : Nat) (xb4 : Int32) (ub5 : Nat) (xb6 : Int32) (xb7 : Int32) (xb9 : Int32) (xb10 : Int32) (xbs0 : Int32) : Option PvS :=
  nm (pvI τ 2 5 ub5 (xbs0 + (τ.2.1 2 3 ub5))) (fun σ1 => nm (pvI σ1 2 6 ub5 (xb10 + (σ1.2.1 2 3 ub5))) (fun σ2 => nm (pvI σ2 1 0 ub1 (σ2.2.1 3 0 ub1)) (fun σ3 => ob1 (kf σ3 ub1 xb4) (fun σ5 => ob1 (f_X0_put σ5 xb6 xb7 xbs0 xb10 xb9 ((σ5.2.1 2 8 ub5) + (2 * (σ5.2.1 2 3 ub5)))) (fun σ11 => some σ11)))))
def f_X4_putFloat (kf : PvS → Nat → Int32 → Option PvS) (σ : PvS) (u1 : Nat) (u2 : Nat) (x4 : Int32) : Option PvS :=
  ob1 (f_X6_of σ 0 u1 6) (fun r16 => ob1 (f_X4_widthOr σ u1 (imin (σ.2.1 1 3 u1) (imax 0 ((σ.2.1 2 7 u2) - (2 * (σ.2.1 2 3 u1)))))) (fun r21 => nm (pvI σ 2 7 u1 r21) (fun σ26 => ob1 (f_X0_belowTops σ26 (σ.2.1 1 0 u2) (σ26.2.1 1 1 u2)) (fun r27 => ob1 (f_X6_of σ26 0 u1 7) (fun r32 => ob1 (f_X0_belowBottoms σ26 (σ.2.1 1 0 u2) r32 r27) (fun r37 => ob2 (f_X0_findRoom σ26 ((σ26.2.1 2 7 u1) + (2 * (σ26.2.1 2 3 u1))) u2 r37) (fun r42 σ43 => if r16 = 1 then (f_X4_putFloat_166 kf σ43 u1 x4 u1 (σ.2.1 1 0 u2) r16 ((σ26.2.1 2 7 u1) + (2 * (σ26.2.1 2 3 u1))) r42 (σ43.2.1 0 7 0)) else (f_X4_putFloat_166 kf σ43 u1 x4 u1 (σ.2.1 1 0 u2) r16 ((σ26.2.1 2 7 u1) + (2 * (σ26.2.1 2 3 u1))) r42 ((σ43.2.1 0 8 0) - ((σ26.2.1 2 7 u1) + (2 * (σ26.2.1 2 3 u1))))))))))))
set_option maxHeartbeats 4000000 in
set_option maxRecDepth 100000 in
theorem c_X4_putFloat {l : Launch} {G : PvG} {tys : List (ClassId × FieldType)} {σ : PvS} (htys : tys = pvT G) {kf : PvS → Nat → Int32 → Option PvS} {rA rB : Nat} (hk : ∀ {σ : PvS} {u1 : Nat} {x3 : Int32} {σ1 : PvS}, u1 < pvM σ 3 → kf σ u1 x3 = some σ1 → Met l yX4_fill (Cond.code yX4_fill cX4_fill 7 none :: WA) ({ frames := rA, cells := 0, slots := 0, locals := rB }) (va_Pc [.ref (G.2.2.1 4 0), .ref (G.2.2.1 3 u1), .ref (G.2.2.1 10 1), .int x3] (pvU G tys σ)) (va_Qv (fun σ' => σ' = σ1 ∧ σ'.1 = σ.1) (pvU G tys) (pvB G)) 0 0 (pvB G)) {u1 : Nat} {u2 : Nat} {x4 : Int32} (hu1 : u1 < pvM σ 3) (hu2 : u2 < pvM σ 3) {σ1 : PvS} (h : f_X4_putFloat kf σ u1 u2 x4 = some σ1) : Met l yX4_putFloat (Cond.code yX4_putFloat cX4_putFloat 12 none :: WA) ({ frames := rA + 3, cells := 0, slots := 0, locals := rB + 62 }) (va_Pc [.ref (G.2.2.1 4 0), .ref (G.2.2.1 3 u1), .ref (G.2.2.1 3 u2), .ref (G.2.2.1 10 1), .int x4] (pvU G tys σ)) (va_Qv (fun σ' => σ' = σ1 ∧ σ'.1 = σ.1) (pvU G tys) (pvB G)) 0 0 (pvB G) := by
  refine Met.ofW (cc := cX4_putFloat) (maxL := 12) (ret := none) (by decide) rfl ?_
  intro p e s m args below meth c s₁ B hml hv
  obtain ⟨rfl, hw, hK, hA⟩ := hv
  have hx := B.exec
  have hb := B.bytes
  have hr := B.returns
  have hts0 := atoms_spec (ws := (Cond.code yX4_putFloat cX4_putFloat 12 none :: WA)) B.pre
  have hts : ∀ w ∈ WA, w.before _ s = true := fun w h => hts0 w (List.mem_cons_of_mem _ h)
  have hown : s.vm.findClass RX4 = some m.cls := findClass_of_methodNamed B.named
  have hlocks := B.notSynchronized
  have hS : va_S (pvB G) s.heap s.heap [] := va_S.rf
  have hl := lv_entry ([.ref (G.2.2.1 4 0), .ref (G.2.2.1 3 u1), .ref (G.2.2.1 3 u2), .ref (G.2.2.1 10 1), .int x4]) (n := 12) (Nat.le_of_ble_eq_true rfl)
  rw [lg_entry_eq]
  generalize (lg_sl ([.ref (G.2.2.1 4 0), .ref (G.2.2.1 3 u1), .ref (G.2.2.1 3 u2), .ref (G.2.2.1 10 1), .int x4]) ++ List.replicate (12 - (lg_sl ([.ref (G.2.2.1 4 0), .ref (G.2.2.1 3 u1), .ref (G.2.2.1 3 u2), .ref (G.2.2.1 10 1), .int x4])).length) Slot.unset).toArray = ls at hl ⊢
  have hl : lv_has ls 12 [(0, .ref (G.2.2.1 4 0)), (1, .ref (G.2.2.1 3 u1)), (2, .ref (G.2.2.1 3 u2)), (3, .ref (G.2.2.1 10 1)), (4, .int x4)] := hl
  have hroot := pv_root hw
  unfold f_X4_putFloat at h
  have blk166 : ∀ (τ : PvS) (ub1 : Nat) (xb4 : Int32) (ub5 : Nat) (xb6 : Int32) (xb7 : Int32) (xb9 : Int32) (xb10 : Int32) (xbs0 : Int32), (τ.1 = σ.1) → (ub1 < pvM σ 3) → (ub5 < pvM σ 2) → f_X4_putFloat_166 kf τ ub1 xb4 ub5 xb6 xb7 xb9 xb10 xbs0 = some σ1 → ∀ (H : Heap) (locs : List Loc), pvW G τ H → va_S (pvB G) s.heap H locs → ∀ (ls : Array Slot), lv_has ls 12 [(0, .ref (G.2.2.1 4 0)), (1, .ref (G.2.2.1 3 ub1)), (3, .ref (G.2.2.1 10 1)), (4, .int xb4), (5, .ref (G.2.2.1 2 ub5)), (6, .int xb6), (7, .int xb7), (9, .int xb9), (10, .int xb10)] → W p l e (headSpec (Cond.code yX4_putFloat cX4_putFloat 12 none :: WA) ({ frames := rA + 3, cells := 0, slots := 0, locals := rB + 62 } : Room)).room s m ([.ref (G.2.2.1 4 0), .ref (G.2.2.1 3 u1), .ref (G.2.2.1 3 u2), .ref (G.2.2.1 10 1), .int x4] : List Value).toArray below meth c H locs 0 0 (MQ below (va_Qv (fun σ' => σ' = σ1 ∧ σ'.1 = σ.1) (pvU G tys) (pvB G)) ([.ref (G.2.2.1 4 0), .ref (G.2.2.1 3 u1), .ref (G.2.2.1 3 u2), .ref (G.2.2.1 10 1), .int x4] : List Value).toArray s 0 0 (pvB G)) (F0 m 166 ls [.int xbs0]) := by
    intro τ ub1 xb4 ub5 xb6 xb7 xb9 xb10 xbs0 hcτ hub1 hub5 h H locs hw hS ls hl
    unfold f_X4_putFloat_166 at h
    refine lv_istore (lv' := [(11, .int xbs0), (0, .ref (G.2.2.1 4 0)), (1, .ref (G.2.2.1 3 ub1)), (3, .ref (G.2.2.1 10 1)), (4, .int xb4), (5, .ref (G.2.2.1 2 ub5)), (6, .int xb6), (7, .int xb7), (9, .int xb9), (10, .int xb10)]) hx hb dX4_putFloat_166 hl (by decide) rfl (fun ls hl => ?_)
    refine lv_aload hx hb dX4_putFloat_168 (lv_at hl 5 rfl) ?_
    refine lv_iload hx hb dX4_putFloat_170 (lv_at hl 0 rfl) ?_
    refine lv_aload hx hb dX4_putFloat_172 (lv_at hl 5 rfl) ?_
    refine pgI (C := RX2) (T := TX2) (N := 16) hx hb hts hown hK hw 2 3 ub5 (lt_c hcτ 2 hub5) (by decide) rfl rfl inF_X2 (by decide) rfl (hts _ wm483) (fun _ h9 => h9) dX4_putFloat_174 ?_
    refine lv_iadd hx hb dX4_putFloat_177 ?_
    obtain ⟨σ1, eσ1, h⟩ := nq_e h
    refine ppI (ty := .int) (C := RX2) (T := TX2) (N := 16) hx hb hts hown hK hw hS 2 5 ub5 (lt_c hcτ 2 hub5) (by decide) rfl rfl inF_X2 (by decide) rfl (by decide) tyX2_ok nmX2 (hts _ wm484) (fun _ h9 => h9) rfl (by decide +kernel) rfl rfl dX4_putFloat_178 (fun H locs hw hS => ?_)
    rw [← eσ1] at hw
    have hcσ1 : σ1.1 = σ.1 := by rw [eσ1]; exact hcτ
    refine lv_aload hx hb dX4_putFloat_181 (lv_at hl 5 rfl) ?_
    refine lv_iload hx hb dX4_putFloat_183 (lv_at hl 9 rfl) ?_
    refine lv_aload hx hb dX4_putFloat_185 (lv_at hl 5 rfl) ?_
    refine pgI (C := RX2) (T := TX2) (N := 16) hx hb hts hown hK hw 2 3 ub5 (lt_c hcσ1 2 hub5) (by decide) rfl rfl inF_X2 (by decide) rfl (hts _ wm483) (fun _ h9 => h9) dX4_putFloat_187 ?_
    refine lv_iadd hx hb dX4_putFloat_190 ?_
    obtain ⟨σ2, eσ2, h⟩ := nq_e h
    refine ppI (ty := .int) (C := RX2) (T := TX2) (N := 16) hx hb hts hown hK hw hS 2 6 ub5 (lt_c hcσ1 2 hub5) (by decide) rfl rfl inF_X2 (by decide) rfl (by decide) tyX2_ok nmX2 (hts _ wm485) (fun _ h9 => h9) rfl (by decide +kernel) rfl rfl dX4_putFloat_191 (fun H locs hw hS => ?_)
    rw [← eσ2] at hw
    have hcσ2 : σ2.1 = σ.1 := by rw [eσ2]; exact hcσ1
    refine lv_aload_n hx hb dX4_putFloat_194 rfl (lv_at hl 2 rfl) ?_
    refine pgL (C := RX3) (T := TX3) (N := 14) hx hb hts hown hK hw 3 7 ub1 (lt_c hcσ2 3 hub1) (by decide) rfl rfl inF_X3 (by decide) (v := .ref (G.2.2.1 1 ub1)) rfl (hts _ wm487) (fun _ h9 => h9) dX4_putFloat_195 ?_
    refine lv_aload_n hx hb dX4_putFloat_198 rfl (lv_at hl 2 rfl) ?_
    refine pgI (C := RX3) (T := TX3) (N := 14) hx hb hts hown hK hw 3 0 ub1 (lt_c hcσ2 3 hub1) (by decide) rfl rfl inF_X3 (by decide) rfl (hts _ wm488) (fun _ h9 => h9) dX4_putFloat_199 ?_
    obtain ⟨σ3, eσ3, h⟩ := nq_e h
    refine ppI (ty := .int) (C := RX1) (T := TX1) (N := 5) hx hb hts hown hK hw hS 1 0 ub1 (lt_c hcσ2 1 hub1) (by decide) rfl rfl inF_X1 (by decide) rfl (by decide) tyX1_ok nmX1 (hts _ wm489) (fun _ h9 => h9) rfl (by decide +kernel) rfl rfl dX4_putFloat_202 (fun H locs hw hS => ?_)
    rw [← eσ3] at hw
    have hcσ3 : σ3.1 = σ.1 := by rw [eσ3]; exact hcσ2
    refine lv_aload_n hx hb dX4_putFloat_205 rfl (lv_at hl 1 rfl) ?_
    refine lv_aload_n hx hb dX4_putFloat_206 rfl (lv_at hl 2 rfl) ?_
    refine lv_aload_n hx hb dX4_putFloat_207 rfl (lv_at hl 3 rfl) ?_
    refine lv_iload hx hb dX4_putFloat_208 (lv_at hl 4 rfl) ?_
    obtain ⟨σ5, e6, h⟩ := ob1_e h
    refine pcallv (va_runV (As := [.ref (G.2.2.1 3 ub1), .ref (G.2.2.1 10 1), .int xb4]) (rest := []) ⟨hx, hb, hml, hown, hts⟩ (hk (lt_c hcσ3 3 hub1) e6) (cwV 3 hts (gVA wm551 wm552 wm553 wm17 wm554) rfl rfl rfl (by decide +kernel) ⟨(by show rA + 1 ≤ rA + 3; omega), (by show 8 + (7 + 11) + (rB) ≤ rB + 62; omega)⟩) (pv_preV hA hS hw hK 4 0 Nat.one_pos (by decide) rfl [.ref (G.2.2.1 3 ub1), .ref (G.2.2.1 10 1), .int xb4]) rfl rfl hl.1 rfl (lv_room (Nat.le_of_ble_eq_true rfl)) dX4_putFloat_210 ⟨Nat.zero_le _, Nat.zero_le _⟩) hS (fun s9 H locs hp7 hw hS => ?_)
    obtain ⟨esσ5, hdσ5⟩ := hp7
    obtain rfl := esσ5.symm
    have hcσ5 : σ5.1 = σ.1 := hdσ5.trans hcσ3
    refine lv_aload_n hx hb dX4_putFloat_213 rfl (lv_at hl 1 rfl) ?_
    refine pgL (C := RX4) (T := TX4) (N := 6) hx hb hts hown hK hw 4 1 0 Nat.one_pos (by decide) rfl rfl inF_X4 (by decide) (v := .ref (G.2.2.1 0 0)) rfl (hts _ wm175) (fun _ h9 => h9) dX4_putFloat_214 ?_
    refine lv_iload hx hb dX4_putFloat_217 (lv_at hl 6 rfl) ?_
    refine lv_iload hx hb dX4_putFloat_219 (lv_at hl 7 rfl) ?_
    refine lv_iload hx hb dX4_putFloat_221 (lv_at hl 0 rfl) ?_
    refine lv_iload hx hb dX4_putFloat_223 (lv_at hl 9 rfl) ?_
    refine lv_iload hx hb dX4_putFloat_225 (lv_at hl 8 rfl) ?_
    refine lv_aload hx hb dX4_putFloat_227 (lv_at hl 5 rfl) ?_
    refine pgI (C := RX2) (T := TX2) (N := 16) hx hb hts hown hK hw 2 8 ub5 (lt_c hcσ5 2 hub5) (by decide) rfl rfl inF_X2 (by decide) rfl (hts _ wm559) (fun _ h9 => h9) dX4_putFloat_229 ?_
    refine lv_iconst (v := 2) hx hb dX4_putFloat_232 (by decide) ?_
    refine lv_aload hx hb dX4_putFloat_233 (lv_at hl 5 rfl) ?_
    refine pgI (C := RX2) (T := TX2) (N := 16) hx hb hts hown hK hw 2 3 ub5 (lt_c hcσ5 2 hub5) (by decide) rfl rfl inF_X2 (by decide) rfl (hts _ wm483) (fun _ h9 => h9) dX4_putFloat_235 ?_
    refine lv_imul hx hb dX4_putFloat_238 ?_
    refine lv_iadd hx hb dX4_putFloat_239 ?_
    obtain ⟨σ11, e12, h⟩ := ob1_e h
    refine pcallv (va_runV (As := [.int xb6, .int xb7, .int xbs0, .int xb10, .int xb9, .int ((σ5.2.1 2 8 ub5) + (2 * (σ5.2.1 2 3 ub5)))]) (rest := []) ⟨hx, hb, hml, hown, hts⟩ (c_X0_put (l := l) (G := G) (tys := tys) (σ := σ5) htys  e12) (cwV 6 hts (gVA wm616 wm617 wm618 wm174 wm619) rfl rfl rfl (by decide +kernel) ⟨(by show 0 + 1 ≤ rA + 3; omega), (by show 8 + (7 + 11) + (0) ≤ rB + 62; omega)⟩) (pv_preV hA hS hw hK 0 0 Nat.one_pos (by decide) rfl [.int xb6, .int xb7, .int xbs0, .int xb10, .int xb9, .int ((σ5.2.1 2 8 ub5) + (2 * (σ5.2.1 2 3 ub5)))]) rfl rfl hl.1 rfl (lv_room (Nat.le_of_ble_eq_true rfl)) dX4_putFloat_240 ⟨Nat.zero_le _, Nat.zero_le _⟩) hS (fun s15 H locs hp13 hw hS => ?_)
    obtain ⟨esσ11, hdσ11⟩ := hp13
    obtain rfl := esσ11.symm
    have hcσ11 : σ11.1 = σ.1 := hdσ11.trans hcσ5
    exact pev hx hb hr hlocks hA hw hK hS (psv h hcσ11) dX4_putFloat_243
  refine lv_aload_n hx hb dX4_putFloat_0 rfl (lv_at hl 1 rfl) ?_
  refine pgL (C := RX3) (T := TX3) (N := 14) hx hb hts hown hK hw 3 6 u1 hu1 (by decide) rfl rfl inF_X3 (by decide) (v := .ref (G.2.2.1 2 u1)) rfl (hts _ wm482) (fun _ h9 => h9) dX4_putFloat_1 ?_
  refine lv_astore (lv' := [(5, .ref (G.2.2.1 2 u1)), (0, .ref (G.2.2.1 4 0)), (1, .ref (G.2.2.1 3 u1)), (2, .ref (G.2.2.1 3 u2)), (3, .ref (G.2.2.1 10 1)), (4, .int x4)]) hx hb dX4_putFloat_4 hl (by decide) rfl (fun ls hl => ?_)
  refine lv_aload_n hx hb dX4_putFloat_6 rfl (lv_at hl 3 rfl) ?_
  refine pgL (C := RX3) (T := TX3) (N := 14) hx hb hts hown hK hw 3 7 u2 hu2 (by decide) rfl rfl inF_X3 (by decide) (v := .ref (G.2.2.1 1 u2)) rfl (hts _ wm487) (fun _ h9 => h9) dX4_putFloat_7 ?_
  refine pgI (C := RX1) (T := TX1) (N := 5) hx hb hts hown hK hw 1 0 u2 hu2 (by decide) rfl rfl inF_X1 (by decide) rfl (hts _ wm489) (fun _ h9 => h9) dX4_putFloat_10 ?_
  refine lv_istore (lv' := [(6, .int (σ.2.1 1 0 u2)), (5, .ref (G.2.2.1 2 u1)), (0, .ref (G.2.2.1 4 0)), (1, .ref (G.2.2.1 3 u1)), (2, .ref (G.2.2.1 3 u2)), (3, .ref (G.2.2.1 10 1)), (4, .int x4)]) hx hb dX4_putFloat_13 hl (by decide) rfl (fun ls hl => ?_)
  refine lv_aload_n hx hb dX4_putFloat_15 rfl (lv_at hl 2 rfl) ?_
  refine pgL (C := RX4) (T := TX4) (N := 6) hx hb hts hown hK hw 4 0 0 Nat.one_pos (by decide) rfl rfl inF_X4 (by decide) (v := .ref (G.2.2.1 6 0)) rfl (hts _ wm171) (fun _ h9 => h9) dX4_putFloat_16 ?_
  refine lv_aload_n hx hb dX4_putFloat_19 rfl (lv_at hl 3 rfl) ?_
  refine lv_bipush (v := 6) hx hb dX4_putFloat_20 (by decide) ?_
  obtain ⟨r16, e17, h⟩ := ob1_e h
  refine pcalli (va_runV (As := [.ref (G.2.2.1 3 u1), .int 6]) (rest := []) ⟨hx, hb, hml, hown, hts⟩ (c_X6_of (l := l) (G := G) (tys := tys) (σ := σ) htys (show 0 < 2 from by decide) hu1 e17) (cwV 2 hts (gVA wm515 wm473 wm474 wm23 wm475) rfl rfl rfl (by decide +kernel) ⟨(by show 0 + 1 ≤ rA + 3; omega), (by show 8 + (5 + 11) + (0) ≤ rB + 62; omega)⟩) (pv_preV hA hS hw hK 6 0 (show 0 < 2 from by decide) (by decide) rfl [.ref (G.2.2.1 3 u1), .int 6]) rfl rfl hl.1 rfl (lv_room (Nat.le_of_ble_eq_true rfl)) dX4_putFloat_22 ⟨Nat.zero_le _, Nat.zero_le _⟩) hS (fun r19 s20 H locs hp18 hw hS => ?_)
  obtain ⟨err16, esr16⟩ := hp18
  obtain rfl := esr16.symm
  obtain rfl := err16.symm
  refine lv_istore (lv' := [(7, .int r16), (6, .int (σ.2.1 1 0 u2)), (5, .ref (G.2.2.1 2 u1)), (0, .ref (G.2.2.1 4 0)), (1, .ref (G.2.2.1 3 u1)), (2, .ref (G.2.2.1 3 u2)), (3, .ref (G.2.2.1 10 1)), (4, .int x4)]) hx hb dX4_putFloat_25 hl (by decide) rfl (fun ls hl => ?_)
  refine lv_iconst (v := 0) hx hb dX4_putFloat_27 (by decide) ?_
  refine lv_aload_n hx hb dX4_putFloat_28 rfl (lv_at hl 5 rfl) ?_
  refine pgL (C := RX3) (T := TX3) (N := 14) hx hb hts hown hK hw 3 6 u2 hu2 (by decide) rfl rfl inF_X3 (by decide) (v := .ref (G.2.2.1 2 u2)) rfl (hts _ wm482) (fun _ h9 => h9) dX4_putFloat_29 ?_
  refine pgI (C := RX2) (T := TX2) (N := 16) hx hb hts hown hK hw 2 7 u2 hu2 (by decide) rfl rfl inF_X2 (by decide) rfl (hts _ wm486) (fun _ h9 => h9) dX4_putFloat_32 ?_
  refine lv_iconst (v := 2) hx hb dX4_putFloat_35 (by decide) ?_
  refine lv_aload hx hb dX4_putFloat_36 (lv_at hl 2 rfl) ?_
  refine pgI (C := RX2) (T := TX2) (N := 16) hx hb hts hown hK hw 2 3 u1 hu1 (by decide) rfl rfl inF_X2 (by decide) rfl (hts _ wm483) (fun _ h9 => h9) dX4_putFloat_38 ?_
  refine lv_imul hx hb dX4_putFloat_41 ?_
  refine lv_isub hx hb dX4_putFloat_42 ?_
  refine pmmax hx hb (hml.trans hl.1.symm) hown (hts _ wm533) (hts _ wm111) (hts _ wm112) (hts _ wm113) (by show 1 ≤ rA + 3; omega) (by show 0 + 13 ≤ rB + 62; omega) (Nat.zero_le _) (Nat.zero_le _) dX4_putFloat_43 ?_
  refine lv_istore (lv' := [(8, .int (imax 0 ((σ.2.1 2 7 u2) - (2 * (σ.2.1 2 3 u1))))), (7, .int r16), (6, .int (σ.2.1 1 0 u2)), (5, .ref (G.2.2.1 2 u1)), (0, .ref (G.2.2.1 4 0)), (1, .ref (G.2.2.1 3 u1)), (2, .ref (G.2.2.1 3 u2)), (3, .ref (G.2.2.1 10 1)), (4, .int x4)]) hx hb dX4_putFloat_46 hl (by decide) rfl (fun ls hl => ?_)
  refine lv_aload hx hb dX4_putFloat_48 (lv_at hl 3 rfl) ?_
  refine lv_aload_n hx hb dX4_putFloat_50 rfl (lv_at hl 4 rfl) ?_
  refine lv_aload_n hx hb dX4_putFloat_51 rfl (lv_at hl 5 rfl) ?_
  refine lv_aload_n hx hb dX4_putFloat_52 rfl (lv_at hl 5 rfl) ?_
  refine pgL (C := RX3) (T := TX3) (N := 14) hx hb hts hown hK hw 3 7 u1 hu1 (by decide) rfl rfl inF_X3 (by decide) (v := .ref (G.2.2.1 1 u1)) rfl (hts _ wm487) (fun _ h9 => h9) dX4_putFloat_53 ?_
  refine pgI (C := RX1) (T := TX1) (N := 5) hx hb hts hown hK hw 1 3 u1 hu1 (by decide) rfl rfl inF_X1 (by decide) rfl (hts _ wm531) (fun _ h9 => h9) dX4_putFloat_56 ?_
  refine lv_iload hx hb dX4_putFloat_59 (lv_at hl 0 rfl) ?_
  refine pmmin hx hb (hml.trans hl.1.symm) hown (hts _ wm611) (hts _ wm160) (hts _ wm112) (hts _ wm161) (by show 1 ≤ rA + 3; omega) (by show 3 + 13 ≤ rB + 62; omega) (Nat.zero_le _) (Nat.zero_le _) dX4_putFloat_61 ?_
  obtain ⟨r21, e22, h⟩ := ob1_e h
  refine pcalli (va_runV (As := [.ref (G.2.2.1 3 u1), .int (imin (σ.2.1 1 3 u1) (imax 0 ((σ.2.1 2 7 u2) - (2 * (σ.2.1 2 3 u1)))))]) (rest := [.ref (G.2.2.1 2 u1)]) ⟨hx, hb, hml, hown, hts⟩ (c_X4_widthOr (l := l) (G := G) (tys := tys) (σ := σ) htys hu1 e22) (cwV 2 hts (gVA wm534 wm535 wm536 wm17 wm537) rfl rfl rfl (by decide +kernel) ⟨(by show 1 + 1 ≤ rA + 3; omega), (by show 8 + (4 + 11) + (24) ≤ rB + 62; omega)⟩) (pv_preV hA hS hw hK 4 0 Nat.one_pos (by decide) rfl [.ref (G.2.2.1 3 u1), .int (imin (σ.2.1 1 3 u1) (imax 0 ((σ.2.1 2 7 u2) - (2 * (σ.2.1 2 3 u1)))))]) rfl rfl hl.1 rfl (lv_room (Nat.le_of_ble_eq_true rfl)) dX4_putFloat_64 ⟨Nat.zero_le _, Nat.zero_le _⟩) hS (fun r24 s25 H locs hp23 hw hS => ?_)
  obtain ⟨err21, esr21⟩ := hp23
  obtain rfl := esr21.symm
  obtain rfl := err21.symm
  obtain ⟨σ26, eσ26, h⟩ := nq_e h
  refine ppI (ty := .int) (C := RX2) (T := TX2) (N := 16) hx hb hts hown hK hw hS 2 7 u1 hu1 (by decide) rfl rfl inF_X2 (by decide) rfl (by decide) tyX2_ok nmX2 (hts _ wm486) (fun _ h9 => h9) rfl (by decide +kernel) rfl rfl dX4_putFloat_67 (fun H locs hw hS => ?_)
  rw [← eσ26] at hw
  have hcσ26 : σ26.1 = σ.1 := by rw [eσ26]; exact rfl
  refine lv_aload hx hb dX4_putFloat_70 (lv_at hl 3 rfl) ?_
  refine pgI (C := RX2) (T := TX2) (N := 16) hx hb hts hown hK hw 2 7 u1 (lt_c hcσ26 2 hu1) (by decide) rfl rfl inF_X2 (by decide) rfl (hts _ wm486) (fun _ h9 => h9) dX4_putFloat_72 ?_
  refine lv_iconst (v := 2) hx hb dX4_putFloat_75 (by decide) ?_
  refine lv_aload hx hb dX4_putFloat_76 (lv_at hl 3 rfl) ?_
  refine pgI (C := RX2) (T := TX2) (N := 16) hx hb hts hown hK hw 2 3 u1 (lt_c hcσ26 2 hu1) (by decide) rfl rfl inF_X2 (by decide) rfl (hts _ wm483) (fun _ h9 => h9) dX4_putFloat_78 ?_
  refine lv_imul hx hb dX4_putFloat_81 ?_
  refine lv_iadd hx hb dX4_putFloat_82 ?_
  refine lv_istore (lv' := [(9, .int ((σ26.2.1 2 7 u1) + (2 * (σ26.2.1 2 3 u1)))), (8, .int (imax 0 ((σ.2.1 2 7 u2) - (2 * (σ.2.1 2 3 u1))))), (7, .int r16), (6, .int (σ.2.1 1 0 u2)), (5, .ref (G.2.2.1 2 u1)), (0, .ref (G.2.2.1 4 0)), (1, .ref (G.2.2.1 3 u1)), (2, .ref (G.2.2.1 3 u2)), (3, .ref (G.2.2.1 10 1)), (4, .int x4)]) hx hb dX4_putFloat_83 hl (by decide) rfl (fun ls hl => ?_)
  refine lv_aload_n hx hb dX4_putFloat_85 rfl (lv_at hl 5 rfl) ?_
  refine pgL (C := RX4) (T := TX4) (N := 6) hx hb hts hown hK hw 4 1 0 Nat.one_pos (by decide) rfl rfl inF_X4 (by decide) (v := .ref (G.2.2.1 0 0)) rfl (hts _ wm175) (fun _ h9 => h9) dX4_putFloat_86 ?_
  refine lv_iload hx hb dX4_putFloat_89 (lv_at hl 3 rfl) ?_
  refine lv_aload_n hx hb dX4_putFloat_91 rfl (lv_at hl 7 rfl) ?_
  refine pgL (C := RX3) (T := TX3) (N := 14) hx hb hts hown hK hw 3 7 u2 (lt_c hcσ26 3 hu2) (by decide) rfl rfl inF_X3 (by decide) (v := .ref (G.2.2.1 1 u2)) rfl (hts _ wm487) (fun _ h9 => h9) dX4_putFloat_92 ?_
  refine pgI (C := RX1) (T := TX1) (N := 5) hx hb hts hown hK hw 1 1 u2 (lt_c hcσ26 1 hu2) (by decide) rfl rfl inF_X1 (by decide) rfl (hts _ wm555) (fun _ h9 => h9) dX4_putFloat_95 ?_
  obtain ⟨r27, e28, h⟩ := ob1_e h
  refine pcalli (va_runV (As := [.int (σ.2.1 1 0 u2), .int (σ26.2.1 1 1 u2)]) (rest := []) ⟨hx, hb, hml, hown, hts⟩ (c_X0_belowTops (l := l) (G := G) (tys := tys) (σ := σ26) htys  e28) (cwV 2 hts (gVA wm612 wm613 wm614 wm174 wm615) rfl rfl rfl (by decide +kernel) ⟨(by show 1 + 1 ≤ rA + 3; omega), (by show 8 + (5 + 11) + (13) ≤ rB + 62; omega)⟩) (pv_preV hA hS hw hK 0 0 Nat.one_pos (by decide) rfl [.int (σ.2.1 1 0 u2), .int (σ26.2.1 1 1 u2)]) rfl rfl hl.1 rfl (lv_room (Nat.le_of_ble_eq_true rfl)) dX4_putFloat_98 ⟨Nat.zero_le _, Nat.zero_le _⟩) hS (fun r30 s31 H locs hp29 hw hS => ?_)
  obtain ⟨err27, esr27⟩ := hp29
  obtain rfl := esr27.symm
  obtain rfl := err27.symm
  refine lv_istore (lv' := [(10, .int r27), (9, .int ((σ26.2.1 2 7 u1) + (2 * (σ26.2.1 2 3 u1)))), (8, .int (imax 0 ((σ.2.1 2 7 u2) - (2 * (σ.2.1 2 3 u1))))), (7, .int r16), (6, .int (σ.2.1 1 0 u2)), (5, .ref (G.2.2.1 2 u1)), (0, .ref (G.2.2.1 4 0)), (1, .ref (G.2.2.1 3 u1)), (2, .ref (G.2.2.1 3 u2)), (3, .ref (G.2.2.1 10 1)), (4, .int x4)]) hx hb dX4_putFloat_101 hl (by decide) rfl (fun ls hl => ?_)
  refine lv_aload_n hx hb dX4_putFloat_103 rfl (lv_at hl 6 rfl) ?_
  refine pgL (C := RX4) (T := TX4) (N := 6) hx hb hts hown hK hw 4 1 0 Nat.one_pos (by decide) rfl rfl inF_X4 (by decide) (v := .ref (G.2.2.1 0 0)) rfl (hts _ wm175) (fun _ h9 => h9) dX4_putFloat_104 ?_
  refine lv_iload hx hb dX4_putFloat_107 (lv_at hl 4 rfl) ?_
  refine lv_aload_n hx hb dX4_putFloat_109 rfl (lv_at hl 6 rfl) ?_
  refine pgL (C := RX4) (T := TX4) (N := 6) hx hb hts hown hK hw 4 0 0 Nat.one_pos (by decide) rfl rfl inF_X4 (by decide) (v := .ref (G.2.2.1 6 0)) rfl (hts _ wm171) (fun _ h9 => h9) dX4_putFloat_110 ?_
  refine lv_aload_n hx hb dX4_putFloat_113 rfl (lv_at hl 7 rfl) ?_
  refine lv_bipush (v := 7) hx hb dX4_putFloat_114 (by decide) ?_
  obtain ⟨r32, e33, h⟩ := ob1_e h
  refine pcalli (va_runV (As := [.ref (G.2.2.1 3 u1), .int 7]) (rest := [.int (σ.2.1 1 0 u2), .ref (G.2.2.1 0 0)]) ⟨hx, hb, hml, hown, hts⟩ (c_X6_of (l := l) (G := G) (tys := tys) (σ := σ26) htys (show 0 < 2 from by decide) (lt_c hcσ26 3 hu1) e33) (cwV 2 hts (gVA wm515 wm473 wm474 wm23 wm475) rfl rfl rfl (by decide +kernel) ⟨(by show 0 + 1 ≤ rA + 3; omega), (by show 8 + (5 + 11) + (0) ≤ rB + 62; omega)⟩) (pv_preV hA hS hw hK 6 0 (show 0 < 2 from by decide) (by decide) rfl [.ref (G.2.2.1 3 u1), .int 7]) rfl rfl hl.1 rfl (lv_room (Nat.le_of_ble_eq_true rfl)) dX4_putFloat_116 ⟨Nat.zero_le _, Nat.zero_le _⟩) hS (fun r35 s36 H locs hp34 hw hS => ?_)
  obtain ⟨err32, esr32⟩ := hp34
  obtain rfl := esr32.symm
  obtain rfl := err32.symm
  refine lv_iload hx hb dX4_putFloat_119 (lv_at hl 0 rfl) ?_
  obtain ⟨r37, e38, h⟩ := ob1_e h
  refine pcalli (va_runV (As := [.int (σ.2.1 1 0 u2), .int r32, .int r27]) (rest := []) ⟨hx, hb, hml, hown, hts⟩ (c_X0_belowBottoms (l := l) (G := G) (tys := tys) (σ := σ26) htys  e38) (cwV 3 hts (gVA wm605 wm606 wm607 wm174 wm608) rfl rfl rfl (by decide +kernel) ⟨(by show 1 + 1 ≤ rA + 3; omega), (by show 8 + (6 + 11) + (13) ≤ rB + 62; omega)⟩) (pv_preV hA hS hw hK 0 0 Nat.one_pos (by decide) rfl [.int (σ.2.1 1 0 u2), .int r32, .int r27]) rfl rfl hl.1 rfl (lv_room (Nat.le_of_ble_eq_true rfl)) dX4_putFloat_121 ⟨Nat.zero_le _, Nat.zero_le _⟩) hS (fun r40 s41 H locs hp39 hw hS => ?_)
  obtain ⟨err37, esr37⟩ := hp39
  obtain rfl := esr37.symm
  obtain rfl := err37.symm
  refine lv_istore (lv' := [(10, .int r37), (9, .int ((σ26.2.1 2 7 u1) + (2 * (σ26.2.1 2 3 u1)))), (8, .int (imax 0 ((σ.2.1 2 7 u2) - (2 * (σ.2.1 2 3 u1))))), (7, .int r16), (6, .int (σ.2.1 1 0 u2)), (5, .ref (G.2.2.1 2 u1)), (0, .ref (G.2.2.1 4 0)), (1, .ref (G.2.2.1 3 u1)), (2, .ref (G.2.2.1 3 u2)), (3, .ref (G.2.2.1 10 1)), (4, .int x4)]) hx hb dX4_putFloat_124 hl (by decide) rfl (fun ls hl => ?_)
  refine lv_aload_n hx hb dX4_putFloat_126 rfl (lv_at hl 6 rfl) ?_
  refine pgL (C := RX4) (T := TX4) (N := 6) hx hb hts hown hK hw 4 1 0 Nat.one_pos (by decide) rfl rfl inF_X4 (by decide) (v := .ref (G.2.2.1 0 0)) rfl (hts _ wm175) (fun _ h9 => h9) dX4_putFloat_127 ?_
  refine lv_iload hx hb dX4_putFloat_130 (lv_at hl 1 rfl) ?_
  refine lv_aload_n hx hb dX4_putFloat_132 rfl (lv_at hl 8 rfl) ?_
  refine lv_iload hx hb dX4_putFloat_133 (lv_at hl 0 rfl) ?_
  obtain ⟨r42, σ43, e44, h⟩ := ob2_e h
  refine pcalli (va_runV (As := [.int ((σ26.2.1 2 7 u1) + (2 * (σ26.2.1 2 3 u1))), .ref (G.2.2.1 3 u2), .int r37]) (rest := []) ⟨hx, hb, hml, hown, hts⟩ (c_X0_findRoom (l := l) (G := G) (tys := tys) (σ := σ26) htys (lt_c hcσ26 3 hu2) e44) (cwV 3 hts (gVA wm576 wm577 wm578 wm174 wm579) rfl rfl rfl (by decide +kernel) ⟨(by show 2 + 1 ≤ rA + 3; omega), (by show 8 + (6 + 11) + (37) ≤ rB + 62; omega)⟩) (pv_preV hA hS hw hK 0 0 Nat.one_pos (by decide) rfl [.int ((σ26.2.1 2 7 u1) + (2 * (σ26.2.1 2 3 u1))), .ref (G.2.2.1 3 u2), .int r37]) rfl rfl hl.1 rfl (lv_room (Nat.le_of_ble_eq_true rfl)) dX4_putFloat_135 ⟨Nat.zero_le _, Nat.zero_le _⟩) hS (fun r46 s47 H locs hp45 hw hS => ?_)
  obtain ⟨err42, esσ43, hdσ43⟩ := hp45
  obtain rfl := esσ43.symm
  have hcσ43 : σ43.1 = σ.1 := hdσ43.trans hcσ26
  obtain rfl := err42.symm
  refine lv_istore (lv' := [(10, .int r42), (9, .int ((σ26.2.1 2 7 u1) + (2 * (σ26.2.1 2 3 u1)))), (8, .int (imax 0 ((σ.2.1 2 7 u2) - (2 * (σ.2.1 2 3 u1))))), (7, .int r16), (6, .int (σ.2.1 1 0 u2)), (5, .ref (G.2.2.1 2 u1)), (0, .ref (G.2.2.1 4 0)), (1, .ref (G.2.2.1 3 u1)), (2, .ref (G.2.2.1 3 u2)), (3, .ref (G.2.2.1 10 1)), (4, .int x4)]) hx hb dX4_putFloat_138 hl (by decide) rfl (fun ls hl => ?_)
  refine lv_iload hx hb dX4_putFloat_140 (lv_at hl 3 rfl) ?_
  refine lv_iconst (v := 1) hx hb dX4_putFloat_142 (by decide) ?_
  refine lv_icmp_ne (tgt := 156) hx hb dX4_putFloat_143 (by decide) (fun c48 => ?_) (fun c48 => ?_)
  · skip
    replace h := ite_n c48 h
    refine lv_aload_n hx hb dX4_putFloat_156 rfl (lv_at hl 6 rfl) ?_
    refine pgL (C := RX4) (T := TX4) (N := 6) hx hb hts hown hK hw 4 1 0 Nat.one_pos (by decide) rfl rfl inF_X4 (by decide) (v := .ref (G.2.2.1 0 0)) rfl (hts _ wm175) (fun _ h9 => h9) dX4_putFloat_157 ?_
    refine pgI (C := RX0) (T := TX0) (N := 10) hx hb hts hown hK hw 0 8 0 Nat.one_pos (by decide) rfl rfl inF_X0 (by decide) rfl (hts _ wm568) (fun _ h9 => h9) dX4_putFloat_160 ?_
    refine lv_iload hx hb dX4_putFloat_163 (lv_at hl 1 rfl) ?_
    refine lv_isub hx hb dX4_putFloat_165 ?_
    exact blk166 σ43 u1 x4 u1 (σ.2.1 1 0 u2) r16 ((σ26.2.1 2 7 u1) + (2 * (σ26.2.1 2 3 u1))) r42 ((σ43.2.1 0 8 0) - ((σ26.2.1 2 7 u1) + (2 * (σ26.2.1 2 3 u1)))) hcσ43 hu1 hu1 h _ _ hw hS ls (lv_sub hl [6, 7, 9, 10, 5, 4, 3, 1, 0] rfl)
  · skip
    replace h := ite_p c48 h
    refine lv_aload_n hx hb dX4_putFloat_146 rfl (lv_at hl 6 rfl) ?_
    refine pgL (C := RX4) (T := TX4) (N := 6) hx hb hts hown hK hw 4 1 0 Nat.one_pos (by decide) rfl rfl inF_X4 (by decide) (v := .ref (G.2.2.1 0 0)) rfl (hts _ wm175) (fun _ h9 => h9) dX4_putFloat_147 ?_
    refine pgI (C := RX0) (T := TX0) (N := 10) hx hb hts hown hK hw 0 7 0 Nat.one_pos (by decide) rfl rfl inF_X0 (by decide) rfl (hts _ wm569) (fun _ h9 => h9) dX4_putFloat_150 ?_
    refine lv_goto (tgt := 166) hx hb dX4_putFloat_153 (by decide) ?_
    exact blk166 σ43 u1 x4 u1 (σ.2.1 1 0 u2) r16 ((σ26.2.1 2 7 u1) + (2 * (σ26.2.1 2 3 u1))) r42 (σ43.2.1 0 7 0) hcσ43 hu1 hu1 h _ _ hw hS ls (lv_sub hl [6, 7, 9, 10, 5, 4, 3, 1, 0] rfl)
def f_X4_putBlock_160  (kf : PvS → Nat → Int32 → Option PvS) (τ : PvS) (ub1 : Nat) (xb4 : Int32) (ub5 : Nat) (ub6 : Nat) (xb7 : Int32) (xbs0 : Int32) (ubs1 : Nat) : Option PvS :=
  nm (pvI τ 1 0 ubs1 xbs0) (fun σ1 => ob1 (kf σ1 ub1 xb4) (fun σ3 => nm (pvI σ3 1 1 ub6 ((σ3.2.1 1 1 ub6) + (((σ3.2.1 2 8 ub5) + (2 * (σ3.2.1 2 2 ub5))) + xb7))) (fun σ8 => nm (pvI σ8 1 2 ub6 xb7) (fun σ9 => some σ9))))
def f_X4_putBlock (kf : PvS → Nat → Int32 → Option PvS) (σ : PvS) (u1 : Nat) (u2 : Nat) (x4 : Int32) : Option PvS :=
  ob1 (f_X6_of σ 0 u1 3) (fun r10 => nm (pvI σ 1 1 u2 ((σ.2.1 1 1 u2) + (imax 0 (r10 - (σ.2.1 1 2 u2))))) (fun σ15 => ob1 (f_X6_of σ15 0 u1 7) (fun r16 => ob1 (f_X0_belowBottoms σ15 (σ15.2.1 1 0 u2) r16 (σ15.2.1 1 1 u2)) (fun r21 => nm (pvI σ15 1 1 u2 r21) (fun σ26 => nm (pvI σ26 2 5 u1 ((σ26.2.1 2 5 u2) + (σ26.2.1 2 3 u1))) (fun σ27 => nm (pvI σ27 2 6 u1 ((σ27.2.1 1 1 u2) + (σ27.2.1 2 2 u1))) (fun σ28 => ob1 (f_X4_widthOr σ28 u1 ((σ28.2.1 2 7 u2) - (2 * (σ28.2.1 2 3 u1)))) (fun r29 => nm (pvI σ28 2 7 u1 r29) (fun σ34 => if (σ34.2.1 2 4 u1) = 0 then (f_X4_putBlock_160 kf σ34 u1 x4 u1 u2 r10 (σ34.2.1 1 0 u2) u1) else (f_X4_putBlock_160 kf σ34 u1 x4 u1 u2 r10 (σ34.2.1 3 0 u1) u1))))))))))
set_option maxHeartbeats 4000000 in
set_option maxRecDepth 100000 in
theorem c_X4_putBlock {l : Launch} {G : PvG} {tys : List (ClassId × FieldType)} {σ : PvS} (htys : tys = pvT G) {kf : PvS → Nat → Int32 → Option PvS} {rA rB : Nat} (hk : ∀ {σ : PvS} {u1 : Nat} {x3 : Int32} {σ1 : PvS}, u1 < pvM σ 3 → kf σ u1 x3 = some σ1 → Met l yX4_fill (Cond.code yX4_fill cX4_fill 7 none :: WA) ({ frames := rA, cells := 0, slots := 0, locals := rB }) (va_Pc [.ref (G.2.2.1 4 0), .ref (G.2.2.1 3 u1), .ref (G.2.2.1 10 1), .int x3] (pvU G tys σ)) (va_Qv (fun σ' => σ' = σ1 ∧ σ'.1 = σ.1) (pvU G tys) (pvB G)) 0 0 (pvB G)) {u1 : Nat} {u2 : Nat} {x4 : Int32} (hu1 : u1 < pvM σ 3) (hu2 : u2 < pvM σ 3) {σ1 : PvS} (h : f_X4_putBlock kf σ u1 u2 x4 = some σ1) : Met l yX4_putBlock (Cond.code yX4_putBlock cX4_putBlock 8 none :: WA) ({ frames := rA + 2, cells := 0, slots := 0, locals := rB + 47 }) (va_Pc [.ref (G.2.2.1 4 0), .ref (G.2.2.1 3 u1), .ref (G.2.2.1 3 u2), .ref (G.2.2.1 10 1), .int x4] (pvU G tys σ)) (va_Qv (fun σ' => σ' = σ1 ∧ σ'.1 = σ.1) (pvU G tys) (pvB G)) 0 0 (pvB G) := by
  refine Met.ofW (cc := cX4_putBlock) (maxL := 8) (ret := none) (by decide) rfl ?_
  intro p e s m args below meth c s₁ B hml hv
  obtain ⟨rfl, hw, hK, hA⟩ := hv
  have hx := B.exec
  have hb := B.bytes
  have hr := B.returns
  have hts0 := atoms_spec (ws := (Cond.code yX4_putBlock cX4_putBlock 8 none :: WA)) B.pre
  have hts : ∀ w ∈ WA, w.before _ s = true := fun w h => hts0 w (List.mem_cons_of_mem _ h)
  have hown : s.vm.findClass RX4 = some m.cls := findClass_of_methodNamed B.named
  have hlocks := B.notSynchronized
  have hS : va_S (pvB G) s.heap s.heap [] := va_S.rf
  have hl := lv_entry ([.ref (G.2.2.1 4 0), .ref (G.2.2.1 3 u1), .ref (G.2.2.1 3 u2), .ref (G.2.2.1 10 1), .int x4]) (n := 8) (Nat.le_of_ble_eq_true rfl)
  rw [lg_entry_eq]
  generalize (lg_sl ([.ref (G.2.2.1 4 0), .ref (G.2.2.1 3 u1), .ref (G.2.2.1 3 u2), .ref (G.2.2.1 10 1), .int x4]) ++ List.replicate (8 - (lg_sl ([.ref (G.2.2.1 4 0), .ref (G.2.2.1 3 u1), .ref (G.2.2.1 3 u2), .ref (G.2.2.1 10 1), .int x4])).length) Slot.unset).toArray = ls at hl ⊢
  have hl : lv_has ls 8 [(0, .ref (G.2.2.1 4 0)), (1, .ref (G.2.2.1 3 u1)), (2, .ref (G.2.2.1 3 u2)), (3, .ref (G.2.2.1 10 1)), (4, .int x4)] := hl
  have hroot := pv_root hw
  unfold f_X4_putBlock at h
  have blk160 : ∀ (τ : PvS) (ub1 : Nat) (xb4 : Int32) (ub5 : Nat) (ub6 : Nat) (xb7 : Int32) (xbs0 : Int32) (ubs1 : Nat), (τ.1 = σ.1) → (ub1 < pvM σ 3) → (ub5 < pvM σ 2) → (ub6 < pvM σ 1) → (ubs1 < pvM σ 1) → f_X4_putBlock_160 kf τ ub1 xb4 ub5 ub6 xb7 xbs0 ubs1 = some σ1 → ∀ (H : Heap) (locs : List Loc), pvW G τ H → va_S (pvB G) s.heap H locs → ∀ (ls : Array Slot), lv_has ls 8 [(0, .ref (G.2.2.1 4 0)), (1, .ref (G.2.2.1 3 ub1)), (3, .ref (G.2.2.1 10 1)), (4, .int xb4), (5, .ref (G.2.2.1 2 ub5)), (6, .ref (G.2.2.1 1 ub6)), (7, .int xb7)] → W p l e (headSpec (Cond.code yX4_putBlock cX4_putBlock 8 none :: WA) ({ frames := rA + 2, cells := 0, slots := 0, locals := rB + 47 } : Room)).room s m ([.ref (G.2.2.1 4 0), .ref (G.2.2.1 3 u1), .ref (G.2.2.1 3 u2), .ref (G.2.2.1 10 1), .int x4] : List Value).toArray below meth c H locs 0 0 (MQ below (va_Qv (fun σ' => σ' = σ1 ∧ σ'.1 = σ.1) (pvU G tys) (pvB G)) ([.ref (G.2.2.1 4 0), .ref (G.2.2.1 3 u1), .ref (G.2.2.1 3 u2), .ref (G.2.2.1 10 1), .int x4] : List Value).toArray s 0 0 (pvB G)) (F0 m 160 ls [.int xbs0, .ref (G.2.2.1 1 ubs1)]) := by
    intro τ ub1 xb4 ub5 ub6 xb7 xbs0 ubs1 hcτ hub1 hub5 hub6 hubs1 h H locs hw hS ls hl
    unfold f_X4_putBlock_160 at h
    obtain ⟨σ1, eσ1, h⟩ := nq_e h
    refine ppI (ty := .int) (C := RX1) (T := TX1) (N := 5) hx hb hts hown hK hw hS 1 0 ubs1 (lt_c hcτ 1 hubs1) (by decide) rfl rfl inF_X1 (by decide) rfl (by decide) tyX1_ok nmX1 (hts _ wm489) (fun _ h9 => h9) rfl (by decide +kernel) rfl rfl dX4_putBlock_160 (fun H locs hw hS => ?_)
    rw [← eσ1] at hw
    have hcσ1 : σ1.1 = σ.1 := by rw [eσ1]; exact hcτ
    refine lv_aload_n hx hb dX4_putBlock_163 rfl (lv_at hl 0 rfl) ?_
    refine lv_aload_n hx hb dX4_putBlock_164 rfl (lv_at hl 1 rfl) ?_
    refine lv_aload_n hx hb dX4_putBlock_165 rfl (lv_at hl 2 rfl) ?_
    refine lv_iload hx hb dX4_putBlock_166 (lv_at hl 3 rfl) ?_
    obtain ⟨σ3, e4, h⟩ := ob1_e h
    refine pcallv (va_runV (As := [.ref (G.2.2.1 3 ub1), .ref (G.2.2.1 10 1), .int xb4]) (rest := []) ⟨hx, hb, hml, hown, hts⟩ (hk (lt_c hcσ1 3 hub1) e4) (cwV 3 hts (gVA wm551 wm552 wm553 wm17 wm554) rfl rfl rfl (by decide +kernel) ⟨(by show rA + 1 ≤ rA + 2; omega), (by show 8 + (7 + 11) + (rB) ≤ rB + 47; omega)⟩) (pv_preV hA hS hw hK 4 0 Nat.one_pos (by decide) rfl [.ref (G.2.2.1 3 ub1), .ref (G.2.2.1 10 1), .int xb4]) rfl rfl hl.1 rfl (lv_room (Nat.le_of_ble_eq_true rfl)) dX4_putBlock_168 ⟨Nat.zero_le _, Nat.zero_le _⟩) hS (fun s7 H locs hp5 hw hS => ?_)
    obtain ⟨esσ3, hdσ3⟩ := hp5
    obtain rfl := esσ3.symm
    have hcσ3 : σ3.1 = σ.1 := hdσ3.trans hcσ1
    refine lv_aload hx hb dX4_putBlock_171 (lv_at hl 5 rfl) ?_
    refine lv_dup hx hb dX4_putBlock_173 rfl ?_
    refine pgI (C := RX1) (T := TX1) (N := 5) hx hb hts hown hK hw 1 1 ub6 (lt_c hcσ3 1 hub6) (by decide) rfl rfl inF_X1 (by decide) rfl (hts _ wm555) (fun _ h9 => h9) dX4_putBlock_174 ?_
    refine lv_aload hx hb dX4_putBlock_177 (lv_at hl 4 rfl) ?_
    refine pgI (C := RX2) (T := TX2) (N := 16) hx hb hts hown hK hw 2 8 ub5 (lt_c hcσ3 2 hub5) (by decide) rfl rfl inF_X2 (by decide) rfl (hts _ wm559) (fun _ h9 => h9) dX4_putBlock_179 ?_
    refine lv_iconst (v := 2) hx hb dX4_putBlock_182 (by decide) ?_
    refine lv_aload hx hb dX4_putBlock_183 (lv_at hl 4 rfl) ?_
    refine pgI (C := RX2) (T := TX2) (N := 16) hx hb hts hown hK hw 2 2 ub5 (lt_c hcσ3 2 hub5) (by decide) rfl rfl inF_X2 (by decide) rfl (hts _ wm505) (fun _ h9 => h9) dX4_putBlock_185 ?_
    refine lv_imul hx hb dX4_putBlock_188 ?_
    refine lv_iadd hx hb dX4_putBlock_189 ?_
    refine lv_iload hx hb dX4_putBlock_190 (lv_at hl 6 rfl) ?_
    refine lv_iadd hx hb dX4_putBlock_192 ?_
    refine lv_iadd hx hb dX4_putBlock_193 ?_
    obtain ⟨σ8, eσ8, h⟩ := nq_e h
    refine ppI (ty := .int) (C := RX1) (T := TX1) (N := 5) hx hb hts hown hK hw hS 1 1 ub6 (lt_c hcσ3 1 hub6) (by decide) rfl rfl inF_X1 (by decide) rfl (by decide) tyX1_ok nmX1 (hts _ wm555) (fun _ h9 => h9) rfl (by decide +kernel) rfl rfl dX4_putBlock_194 (fun H locs hw hS => ?_)
    rw [← eσ8] at hw
    have hcσ8 : σ8.1 = σ.1 := by rw [eσ8]; exact hcσ3
    refine lv_aload hx hb dX4_putBlock_197 (lv_at hl 5 rfl) ?_
    refine lv_iload hx hb dX4_putBlock_199 (lv_at hl 6 rfl) ?_
    obtain ⟨σ9, eσ9, h⟩ := nq_e h
    refine ppI (ty := .int) (C := RX1) (T := TX1) (N := 5) hx hb hts hown hK hw hS 1 2 ub6 (lt_c hcσ8 1 hub6) (by decide) rfl rfl inF_X1 (by decide) rfl (by decide) tyX1_ok nmX1 (hts _ wm556) (fun _ h9 => h9) rfl (by decide +kernel) rfl rfl dX4_putBlock_201 (fun H locs hw hS => ?_)
    rw [← eσ9] at hw
    have hcσ9 : σ9.1 = σ.1 := by rw [eσ9]; exact hcσ8
    exact pev hx hb hr hlocks hA hw hK hS (psv h hcσ9) dX4_putBlock_204
  refine lv_aload_n hx hb dX4_putBlock_0 rfl (lv_at hl 1 rfl) ?_
  refine pgL (C := RX3) (T := TX3) (N := 14) hx hb hts hown hK hw 3 6 u1 hu1 (by decide) rfl rfl inF_X3 (by decide) (v := .ref (G.2.2.1 2 u1)) rfl (hts _ wm482) (fun _ h9 => h9) dX4_putBlock_1 ?_
  refine lv_astore (lv' := [(5, .ref (G.2.2.1 2 u1)), (0, .ref (G.2.2.1 4 0)), (1, .ref (G.2.2.1 3 u1)), (2, .ref (G.2.2.1 3 u2)), (3, .ref (G.2.2.1 10 1)), (4, .int x4)]) hx hb dX4_putBlock_4 hl (by decide) rfl (fun ls hl => ?_)
  refine lv_aload_n hx hb dX4_putBlock_6 rfl (lv_at hl 3 rfl) ?_
  refine pgL (C := RX3) (T := TX3) (N := 14) hx hb hts hown hK hw 3 7 u2 hu2 (by decide) rfl rfl inF_X3 (by decide) (v := .ref (G.2.2.1 1 u2)) rfl (hts _ wm487) (fun _ h9 => h9) dX4_putBlock_7 ?_
  refine lv_astore (lv' := [(6, .ref (G.2.2.1 1 u2)), (5, .ref (G.2.2.1 2 u1)), (0, .ref (G.2.2.1 4 0)), (1, .ref (G.2.2.1 3 u1)), (2, .ref (G.2.2.1 3 u2)), (3, .ref (G.2.2.1 10 1)), (4, .int x4)]) hx hb dX4_putBlock_10 hl (by decide) rfl (fun ls hl => ?_)
  refine lv_aload_n hx hb dX4_putBlock_12 rfl (lv_at hl 2 rfl) ?_
  refine pgL (C := RX4) (T := TX4) (N := 6) hx hb hts hown hK hw 4 0 0 Nat.one_pos (by decide) rfl rfl inF_X4 (by decide) (v := .ref (G.2.2.1 6 0)) rfl (hts _ wm171) (fun _ h9 => h9) dX4_putBlock_13 ?_
  refine lv_aload_n hx hb dX4_putBlock_16 rfl (lv_at hl 3 rfl) ?_
  refine lv_iconst (v := 3) hx hb dX4_putBlock_17 (by decide) ?_
  obtain ⟨r10, e11, h⟩ := ob1_e h
  refine pcalli (va_runV (As := [.ref (G.2.2.1 3 u1), .int 3]) (rest := []) ⟨hx, hb, hml, hown, hts⟩ (c_X6_of (l := l) (G := G) (tys := tys) (σ := σ) htys (show 0 < 2 from by decide) hu1 e11) (cwV 2 hts (gVA wm515 wm473 wm474 wm23 wm475) rfl rfl rfl (by decide +kernel) ⟨(by show 0 + 1 ≤ rA + 2; omega), (by show 8 + (5 + 11) + (0) ≤ rB + 47; omega)⟩) (pv_preV hA hS hw hK 6 0 (show 0 < 2 from by decide) (by decide) rfl [.ref (G.2.2.1 3 u1), .int 3]) rfl rfl hl.1 rfl (lv_room (Nat.le_of_ble_eq_true rfl)) dX4_putBlock_18 ⟨Nat.zero_le _, Nat.zero_le _⟩) hS (fun r13 s14 H locs hp12 hw hS => ?_)
  obtain ⟨err10, esr10⟩ := hp12
  obtain rfl := esr10.symm
  obtain rfl := err10.symm
  refine lv_istore (lv' := [(7, .int r10), (6, .ref (G.2.2.1 1 u2)), (5, .ref (G.2.2.1 2 u1)), (0, .ref (G.2.2.1 4 0)), (1, .ref (G.2.2.1 3 u1)), (2, .ref (G.2.2.1 3 u2)), (3, .ref (G.2.2.1 10 1)), (4, .int x4)]) hx hb dX4_putBlock_21 hl (by decide) rfl (fun ls hl => ?_)
  refine lv_aload hx hb dX4_putBlock_23 (lv_at hl 1 rfl) ?_
  refine lv_dup hx hb dX4_putBlock_25 rfl ?_
  refine pgI (C := RX1) (T := TX1) (N := 5) hx hb hts hown hK hw 1 1 u2 hu2 (by decide) rfl rfl inF_X1 (by decide) rfl (hts _ wm555) (fun _ h9 => h9) dX4_putBlock_26 ?_
  refine lv_iconst (v := 0) hx hb dX4_putBlock_29 (by decide) ?_
  refine lv_iload hx hb dX4_putBlock_30 (lv_at hl 0 rfl) ?_
  refine lv_aload hx hb dX4_putBlock_32 (lv_at hl 1 rfl) ?_
  refine pgI (C := RX1) (T := TX1) (N := 5) hx hb hts hown hK hw 1 2 u2 hu2 (by decide) rfl rfl inF_X1 (by decide) rfl (hts _ wm556) (fun _ h9 => h9) dX4_putBlock_34 ?_
  refine lv_isub hx hb dX4_putBlock_37 ?_
  refine pmmax hx hb (hml.trans hl.1.symm) hown (hts _ wm533) (hts _ wm111) (hts _ wm112) (hts _ wm113) (by show 1 ≤ rA + 2; omega) (by show 2 + 13 ≤ rB + 47; omega) (Nat.zero_le _) (Nat.zero_le _) dX4_putBlock_38 ?_
  refine lv_iadd hx hb dX4_putBlock_41 ?_
  obtain ⟨σ15, eσ15, h⟩ := nq_e h
  refine ppI (ty := .int) (C := RX1) (T := TX1) (N := 5) hx hb hts hown hK hw hS 1 1 u2 hu2 (by decide) rfl rfl inF_X1 (by decide) rfl (by decide) tyX1_ok nmX1 (hts _ wm555) (fun _ h9 => h9) rfl (by decide +kernel) rfl rfl dX4_putBlock_42 (fun H locs hw hS => ?_)
  rw [← eσ15] at hw
  have hcσ15 : σ15.1 = σ.1 := by rw [eσ15]; exact rfl
  refine lv_aload hx hb dX4_putBlock_45 (lv_at hl 1 rfl) ?_
  refine lv_aload_n hx hb dX4_putBlock_47 rfl (lv_at hl 3 rfl) ?_
  refine pgL (C := RX4) (T := TX4) (N := 6) hx hb hts hown hK hw 4 1 0 Nat.one_pos (by decide) rfl rfl inF_X4 (by decide) (v := .ref (G.2.2.1 0 0)) rfl (hts _ wm175) (fun _ h9 => h9) dX4_putBlock_48 ?_
  refine lv_aload hx hb dX4_putBlock_51 (lv_at hl 1 rfl) ?_
  refine pgI (C := RX1) (T := TX1) (N := 5) hx hb hts hown hK hw 1 0 u2 (lt_c hcσ15 1 hu2) (by decide) rfl rfl inF_X1 (by decide) rfl (hts _ wm489) (fun _ h9 => h9) dX4_putBlock_53 ?_
  refine lv_aload_n hx hb dX4_putBlock_56 rfl (lv_at hl 3 rfl) ?_
  refine pgL (C := RX4) (T := TX4) (N := 6) hx hb hts hown hK hw 4 0 0 Nat.one_pos (by decide) rfl rfl inF_X4 (by decide) (v := .ref (G.2.2.1 6 0)) rfl (hts _ wm171) (fun _ h9 => h9) dX4_putBlock_57 ?_
  refine lv_aload_n hx hb dX4_putBlock_60 rfl (lv_at hl 4 rfl) ?_
  refine lv_bipush (v := 7) hx hb dX4_putBlock_61 (by decide) ?_
  obtain ⟨r16, e17, h⟩ := ob1_e h
  refine pcalli (va_runV (As := [.ref (G.2.2.1 3 u1), .int 7]) (rest := [.int (σ15.2.1 1 0 u2), .ref (G.2.2.1 0 0), .ref (G.2.2.1 1 u2)]) ⟨hx, hb, hml, hown, hts⟩ (c_X6_of (l := l) (G := G) (tys := tys) (σ := σ15) htys (show 0 < 2 from by decide) (lt_c hcσ15 3 hu1) e17) (cwV 2 hts (gVA wm515 wm473 wm474 wm23 wm475) rfl rfl rfl (by decide +kernel) ⟨(by show 0 + 1 ≤ rA + 2; omega), (by show 8 + (5 + 11) + (0) ≤ rB + 47; omega)⟩) (pv_preV hA hS hw hK 6 0 (show 0 < 2 from by decide) (by decide) rfl [.ref (G.2.2.1 3 u1), .int 7]) rfl rfl hl.1 rfl (lv_room (Nat.le_of_ble_eq_true rfl)) dX4_putBlock_63 ⟨Nat.zero_le _, Nat.zero_le _⟩) hS (fun r19 s20 H locs hp18 hw hS => ?_)
  obtain ⟨err16, esr16⟩ := hp18
  obtain rfl := esr16.symm
  obtain rfl := err16.symm
  refine lv_aload hx hb dX4_putBlock_66 (lv_at hl 1 rfl) ?_
  refine pgI (C := RX1) (T := TX1) (N := 5) hx hb hts hown hK hw 1 1 u2 (lt_c hcσ15 1 hu2) (by decide) rfl rfl inF_X1 (by decide) rfl (hts _ wm555) (fun _ h9 => h9) dX4_putBlock_68 ?_
  obtain ⟨r21, e22, h⟩ := ob1_e h
  refine pcalli (va_runV (As := [.int (σ15.2.1 1 0 u2), .int r16, .int (σ15.2.1 1 1 u2)]) (rest := [.ref (G.2.2.1 1 u2)]) ⟨hx, hb, hml, hown, hts⟩ (c_X0_belowBottoms (l := l) (G := G) (tys := tys) (σ := σ15) htys  e22) (cwV 3 hts (gVA wm605 wm606 wm607 wm174 wm608) rfl rfl rfl (by decide +kernel) ⟨(by show 1 + 1 ≤ rA + 2; omega), (by show 8 + (6 + 11) + (13) ≤ rB + 47; omega)⟩) (pv_preV hA hS hw hK 0 0 Nat.one_pos (by decide) rfl [.int (σ15.2.1 1 0 u2), .int r16, .int (σ15.2.1 1 1 u2)]) rfl rfl hl.1 rfl (lv_room (Nat.le_of_ble_eq_true rfl)) dX4_putBlock_71 ⟨Nat.zero_le _, Nat.zero_le _⟩) hS (fun r24 s25 H locs hp23 hw hS => ?_)
  obtain ⟨err21, esr21⟩ := hp23
  obtain rfl := esr21.symm
  obtain rfl := err21.symm
  obtain ⟨σ26, eσ26, h⟩ := nq_e h
  refine ppI (ty := .int) (C := RX1) (T := TX1) (N := 5) hx hb hts hown hK hw hS 1 1 u2 (lt_c hcσ15 1 hu2) (by decide) rfl rfl inF_X1 (by decide) rfl (by decide) tyX1_ok nmX1 (hts _ wm555) (fun _ h9 => h9) rfl (by decide +kernel) rfl rfl dX4_putBlock_74 (fun H locs hw hS => ?_)
  rw [← eσ26] at hw
  have hcσ26 : σ26.1 = σ.1 := by rw [eσ26]; exact hcσ15
  refine lv_aload hx hb dX4_putBlock_77 (lv_at hl 2 rfl) ?_
  refine lv_aload_n hx hb dX4_putBlock_79 rfl (lv_at hl 5 rfl) ?_
  refine pgL (C := RX3) (T := TX3) (N := 14) hx hb hts hown hK hw 3 6 u2 (lt_c hcσ26 3 hu2) (by decide) rfl rfl inF_X3 (by decide) (v := .ref (G.2.2.1 2 u2)) rfl (hts _ wm482) (fun _ h9 => h9) dX4_putBlock_80 ?_
  refine pgI (C := RX2) (T := TX2) (N := 16) hx hb hts hown hK hw 2 5 u2 (lt_c hcσ26 2 hu2) (by decide) rfl rfl inF_X2 (by decide) rfl (hts _ wm484) (fun _ h9 => h9) dX4_putBlock_83 ?_
  refine lv_aload hx hb dX4_putBlock_86 (lv_at hl 2 rfl) ?_
  refine pgI (C := RX2) (T := TX2) (N := 16) hx hb hts hown hK hw 2 3 u1 (lt_c hcσ26 2 hu1) (by decide) rfl rfl inF_X2 (by decide) rfl (hts _ wm483) (fun _ h9 => h9) dX4_putBlock_88 ?_
  refine lv_iadd hx hb dX4_putBlock_91 ?_
  obtain ⟨σ27, eσ27, h⟩ := nq_e h
  refine ppI (ty := .int) (C := RX2) (T := TX2) (N := 16) hx hb hts hown hK hw hS 2 5 u1 (lt_c hcσ26 2 hu1) (by decide) rfl rfl inF_X2 (by decide) rfl (by decide) tyX2_ok nmX2 (hts _ wm484) (fun _ h9 => h9) rfl (by decide +kernel) rfl rfl dX4_putBlock_92 (fun H locs hw hS => ?_)
  rw [← eσ27] at hw
  have hcσ27 : σ27.1 = σ.1 := by rw [eσ27]; exact hcσ26
  refine lv_aload hx hb dX4_putBlock_95 (lv_at hl 2 rfl) ?_
  refine lv_aload hx hb dX4_putBlock_97 (lv_at hl 1 rfl) ?_
  refine pgI (C := RX1) (T := TX1) (N := 5) hx hb hts hown hK hw 1 1 u2 (lt_c hcσ27 1 hu2) (by decide) rfl rfl inF_X1 (by decide) rfl (hts _ wm555) (fun _ h9 => h9) dX4_putBlock_99 ?_
  refine lv_aload hx hb dX4_putBlock_102 (lv_at hl 2 rfl) ?_
  refine pgI (C := RX2) (T := TX2) (N := 16) hx hb hts hown hK hw 2 2 u1 (lt_c hcσ27 2 hu1) (by decide) rfl rfl inF_X2 (by decide) rfl (hts _ wm505) (fun _ h9 => h9) dX4_putBlock_104 ?_
  refine lv_iadd hx hb dX4_putBlock_107 ?_
  obtain ⟨σ28, eσ28, h⟩ := nq_e h
  refine ppI (ty := .int) (C := RX2) (T := TX2) (N := 16) hx hb hts hown hK hw hS 2 6 u1 (lt_c hcσ27 2 hu1) (by decide) rfl rfl inF_X2 (by decide) rfl (by decide) tyX2_ok nmX2 (hts _ wm485) (fun _ h9 => h9) rfl (by decide +kernel) rfl rfl dX4_putBlock_108 (fun H locs hw hS => ?_)
  rw [← eσ28] at hw
  have hcσ28 : σ28.1 = σ.1 := by rw [eσ28]; exact hcσ27
  refine lv_aload hx hb dX4_putBlock_111 (lv_at hl 2 rfl) ?_
  refine lv_aload_n hx hb dX4_putBlock_113 rfl (lv_at hl 3 rfl) ?_
  refine lv_aload_n hx hb dX4_putBlock_114 rfl (lv_at hl 4 rfl) ?_
  refine lv_aload_n hx hb dX4_putBlock_115 rfl (lv_at hl 5 rfl) ?_
  refine pgL (C := RX3) (T := TX3) (N := 14) hx hb hts hown hK hw 3 6 u2 (lt_c hcσ28 3 hu2) (by decide) rfl rfl inF_X3 (by decide) (v := .ref (G.2.2.1 2 u2)) rfl (hts _ wm482) (fun _ h9 => h9) dX4_putBlock_116 ?_
  refine pgI (C := RX2) (T := TX2) (N := 16) hx hb hts hown hK hw 2 7 u2 (lt_c hcσ28 2 hu2) (by decide) rfl rfl inF_X2 (by decide) rfl (hts _ wm486) (fun _ h9 => h9) dX4_putBlock_119 ?_
  refine lv_iconst (v := 2) hx hb dX4_putBlock_122 (by decide) ?_
  refine lv_aload hx hb dX4_putBlock_123 (lv_at hl 2 rfl) ?_
  refine pgI (C := RX2) (T := TX2) (N := 16) hx hb hts hown hK hw 2 3 u1 (lt_c hcσ28 2 hu1) (by decide) rfl rfl inF_X2 (by decide) rfl (hts _ wm483) (fun _ h9 => h9) dX4_putBlock_125 ?_
  refine lv_imul hx hb dX4_putBlock_128 ?_
  refine lv_isub hx hb dX4_putBlock_129 ?_
  obtain ⟨r29, e30, h⟩ := ob1_e h
  refine pcalli (va_runV (As := [.ref (G.2.2.1 3 u1), .int ((σ28.2.1 2 7 u2) - (2 * (σ28.2.1 2 3 u1)))]) (rest := [.ref (G.2.2.1 2 u1)]) ⟨hx, hb, hml, hown, hts⟩ (c_X4_widthOr (l := l) (G := G) (tys := tys) (σ := σ28) htys (lt_c hcσ28 3 hu1) e30) (cwV 2 hts (gVA wm534 wm535 wm536 wm17 wm537) rfl rfl rfl (by decide +kernel) ⟨(by show 1 + 1 ≤ rA + 2; omega), (by show 8 + (4 + 11) + (24) ≤ rB + 47; omega)⟩) (pv_preV hA hS hw hK 4 0 Nat.one_pos (by decide) rfl [.ref (G.2.2.1 3 u1), .int ((σ28.2.1 2 7 u2) - (2 * (σ28.2.1 2 3 u1)))]) rfl rfl hl.1 rfl (lv_room (Nat.le_of_ble_eq_true rfl)) dX4_putBlock_130 ⟨Nat.zero_le _, Nat.zero_le _⟩) hS (fun r32 s33 H locs hp31 hw hS => ?_)
  obtain ⟨err29, esr29⟩ := hp31
  obtain rfl := esr29.symm
  obtain rfl := err29.symm
  obtain ⟨σ34, eσ34, h⟩ := nq_e h
  refine ppI (ty := .int) (C := RX2) (T := TX2) (N := 16) hx hb hts hown hK hw hS 2 7 u1 (lt_c hcσ28 2 hu1) (by decide) rfl rfl inF_X2 (by decide) rfl (by decide) tyX2_ok nmX2 (hts _ wm486) (fun _ h9 => h9) rfl (by decide +kernel) rfl rfl dX4_putBlock_133 (fun H locs hw hS => ?_)
  rw [← eσ34] at hw
  have hcσ34 : σ34.1 = σ.1 := by rw [eσ34]; exact hcσ28
  refine lv_aload_n hx hb dX4_putBlock_136 rfl (lv_at hl 4 rfl) ?_
  refine pgL (C := RX3) (T := TX3) (N := 14) hx hb hts hown hK hw 3 7 u1 (lt_c hcσ34 3 hu1) (by decide) rfl rfl inF_X3 (by decide) (v := .ref (G.2.2.1 1 u1)) rfl (hts _ wm487) (fun _ h9 => h9) dX4_putBlock_137 ?_
  refine lv_aload hx hb dX4_putBlock_140 (lv_at hl 2 rfl) ?_
  refine pgI (C := RX2) (T := TX2) (N := 16) hx hb hts hown hK hw 2 4 u1 (lt_c hcσ34 2 hu1) (by decide) rfl rfl inF_X2 (by decide) rfl (hts _ wm506) (fun _ h9 => h9) dX4_putBlock_142 ?_
  refine lv_if_eq (tgt := 155) hx hb dX4_putBlock_145 (by decide) (fun c35 => ?_) (fun c35 => ?_)
  · skip
    replace h := ite_p c35 h
    refine lv_aload hx hb dX4_putBlock_155 (lv_at hl 1 rfl) ?_
    refine pgI (C := RX1) (T := TX1) (N := 5) hx hb hts hown hK hw 1 0 u2 (lt_c hcσ34 1 hu2) (by decide) rfl rfl inF_X1 (by decide) rfl (hts _ wm489) (fun _ h9 => h9) dX4_putBlock_157 ?_
    exact blk160 σ34 u1 x4 u1 u2 r10 (σ34.2.1 1 0 u2) u1 hcσ34 hu1 hu1 hu2 hu1 h _ _ hw hS ls (lv_sub hl [3, 4, 6, 7, 2, 1, 0] rfl)
  · skip
    replace h := ite_n c35 h
    refine lv_aload_n hx hb dX4_putBlock_148 rfl (lv_at hl 4 rfl) ?_
    refine pgI (C := RX3) (T := TX3) (N := 14) hx hb hts hown hK hw 3 0 u1 (lt_c hcσ34 3 hu1) (by decide) rfl rfl inF_X3 (by decide) rfl (hts _ wm488) (fun _ h9 => h9) dX4_putBlock_149 ?_
    refine lv_goto (tgt := 160) hx hb dX4_putBlock_152 (by decide) ?_
    exact blk160 σ34 u1 x4 u1 u2 r10 (σ34.2.1 3 0 u1) u1 hcσ34 hu1 hu1 hu2 hu1 h _ _ hw hS ls (lv_sub hl [3, 4, 6, 7, 2, 1, 0] rfl)
def f_X4_putFlow_54 (k10 : PvS → Nat → Int32 → Int32 → Option PvS) (kf : PvS → Nat → Int32 → Option PvS) (τ : PvS) (ub1 : Nat) (xb3 : Int32) (xb4 : Int32) (ub5 : Nat) (xbs0 : Int32) : Option PvS :=
  if xbs0 = 1 then (ob1 (f_X6_of τ 0 ub5 9) (fun r28 => ob1 (f_X8_add τ ub5 r28) (fun σ34 => k10 σ34 ub1 xb3 (xb4 + 1)))) else (if xbs0 = 3 then (ob1 (f_X4_putLines τ ub1) (fun σ17 => ob1 (f_X4_putBlock kf σ17 ub5 ub1 (xb3 + 1)) (fun σ23 => k10 σ23 ub1 xb3 (xb4 + 1)))) else (if xbs0 = 4 then (ob1 (f_X4_putLines τ ub1) (fun σ5 => ob1 (f_X4_putFloat kf σ5 ub5 ub1 (xb3 + 1)) (fun σ11 => k10 σ11 ub1 xb3 (xb4 + 1)))) else (k10 τ ub1 xb3 (xb4 + 1))))
def f_X4_putFlow_10  (kf : PvS → Nat → Int32 → Option PvS) : Nat → PvS → Nat → Int32 → Int32 → Option PvS
  | 0, _, _, _, _ => none
  | n + 1, τ, ub1, xb3, xb4 => if (nI (τ.2.2.2.2 1).length) ≤ xb4 then (some τ) else (gd (vin xb4 (τ.2.2.2.2 1).length) (nm ((τ.2.2.2.2 1).getD xb4.toNatClampNeg 0) (fun y42 => nm (τ.2.2.1 2 1 y42) (fun o43 => if o43 = some ub1 then (f_X4_putFlow_54 (f_X4_putFlow_10 kf n) kf τ ub1 xb3 xb4 y42 (τ.2.1 2 0 y42)) else (f_X4_putFlow_54 (f_X4_putFlow_10 kf n) kf τ ub1 xb3 xb4 y42 0)))))
theorem f_X4_putFlow_10_z {kf : PvS → Nat → Int32 → Option PvS} {τ : PvS} {ub1 : Nat} {xb3 : Int32} {xb4 : Int32} : f_X4_putFlow_10 kf 0 τ ub1 xb3 xb4 = none := rfl
theorem f_X4_putFlow_10_s {n : Nat} {kf : PvS → Nat → Int32 → Option PvS} {τ : PvS} {ub1 : Nat} {xb3 : Int32} {xb4 : Int32} : f_X4_putFlow_10 kf (n + 1) τ ub1 xb3 xb4 = if (nI (τ.2.2.2.2 1).length) ≤ xb4 then (some τ) else (gd (vin xb4 (τ.2.2.2.2 1).length) (nm ((τ.2.2.2.2 1).getD xb4.toNatClampNeg 0) (fun y42 => nm (τ.2.2.1 2 1 y42) (fun o43 => if o43 = some ub1 then (f_X4_putFlow_54 (f_X4_putFlow_10 kf n) kf τ ub1 xb3 xb4 y42 (τ.2.1 2 0 y42)) else (f_X4_putFlow_54 (f_X4_putFlow_10 kf n) kf τ ub1 xb3 xb4 y42 0))))) := rfl
def f_X4_putFlow (kf : PvS → Nat → Int32 → Option PvS) (σ : PvS) (u1 : Nat) (x3 : Int32) : Option PvS :=
  if x3 ≤ 10 then (f_X4_putFlow_10 kf fu σ u1 x3 0) else (some σ)
set_option maxHeartbeats 4000000 in
set_option maxRecDepth 100000 in
theorem c_X4_putFlow {l : Launch} {G : PvG} {tys : List (ClassId × FieldType)} {σ : PvS} (htys : tys = pvT G) {kf : PvS → Nat → Int32 → Option PvS} {rA rB : Nat} (hk : ∀ {σ : PvS} {u1 : Nat} {x3 : Int32} {σ1 : PvS}, u1 < pvM σ 3 → kf σ u1 x3 = some σ1 → Met l yX4_fill (Cond.code yX4_fill cX4_fill 7 none :: WA) ({ frames := rA, cells := 0, slots := 0, locals := rB }) (va_Pc [.ref (G.2.2.1 4 0), .ref (G.2.2.1 3 u1), .ref (G.2.2.1 10 1), .int x3] (pvU G tys σ)) (va_Qv (fun σ' => σ' = σ1 ∧ σ'.1 = σ.1) (pvU G tys) (pvB G)) 0 0 (pvB G)) {u1 : Nat} {x3 : Int32} (hu1 : u1 < pvM σ 3) {σ1 : PvS} (h : f_X4_putFlow kf σ u1 x3 = some σ1) : Met l yX4_putFlow (Cond.code yX4_putFlow cX4_putFlow 7 none :: WA) ({ frames := rA + 4, cells := 0, slots := 0, locals := rB + 93 }) (va_Pc [.ref (G.2.2.1 4 0), .ref (G.2.2.1 3 u1), .ref (G.2.2.1 10 1), .int x3] (pvU G tys σ)) (va_Qv (fun σ' => σ' = σ1 ∧ σ'.1 = σ.1) (pvU G tys) (pvB G)) 0 0 (pvB G) := by
  refine Met.ofW (cc := cX4_putFlow) (maxL := 7) (ret := none) (by decide) rfl ?_
  intro p e s m args below meth c s₁ B hml hv
  obtain ⟨rfl, hw, hK, hA⟩ := hv
  have hx := B.exec
  have hb := B.bytes
  have hr := B.returns
  have hts0 := atoms_spec (ws := (Cond.code yX4_putFlow cX4_putFlow 7 none :: WA)) B.pre
  have hts : ∀ w ∈ WA, w.before _ s = true := fun w h => hts0 w (List.mem_cons_of_mem _ h)
  have hown : s.vm.findClass RX4 = some m.cls := findClass_of_methodNamed B.named
  have hlocks := B.notSynchronized
  have hS : va_S (pvB G) s.heap s.heap [] := va_S.rf
  have hl := lv_entry ([.ref (G.2.2.1 4 0), .ref (G.2.2.1 3 u1), .ref (G.2.2.1 10 1), .int x3]) (n := 7) (Nat.le_of_ble_eq_true rfl)
  rw [lg_entry_eq]
  generalize (lg_sl ([.ref (G.2.2.1 4 0), .ref (G.2.2.1 3 u1), .ref (G.2.2.1 10 1), .int x3]) ++ List.replicate (7 - (lg_sl ([.ref (G.2.2.1 4 0), .ref (G.2.2.1 3 u1), .ref (G.2.2.1 10 1), .int x3])).length) Slot.unset).toArray = ls at hl ⊢
  have hl : lv_has ls 7 [(0, .ref (G.2.2.1 4 0)), (1, .ref (G.2.2.1 3 u1)), (2, .ref (G.2.2.1 10 1)), (3, .int x3)] := hl
  have hroot := pv_root hw
  unfold f_X4_putFlow at h
  have loop10 : ∀ (n : Nat) (τ : PvS) (ub1 : Nat) (xb3 : Int32) (xb4 : Int32), (τ.1 = σ.1) → (ub1 < pvM σ 3) → f_X4_putFlow_10 kf n τ ub1 xb3 xb4 = some σ1 → ∀ (H : Heap) (locs : List Loc), pvW G τ H → va_S (pvB G) s.heap H locs → ∀ (ls : Array Slot), lv_has ls 7 [(0, .ref (G.2.2.1 4 0)), (1, .ref (G.2.2.1 3 ub1)), (2, .ref (G.2.2.1 10 1)), (3, .int xb3), (4, .int xb4)] → W p l e (headSpec (Cond.code yX4_putFlow cX4_putFlow 7 none :: WA) ({ frames := rA + 4, cells := 0, slots := 0, locals := rB + 93 } : Room)).room s m ([.ref (G.2.2.1 4 0), .ref (G.2.2.1 3 u1), .ref (G.2.2.1 10 1), .int x3] : List Value).toArray below meth c H locs 0 0 (MQ below (va_Qv (fun σ' => σ' = σ1 ∧ σ'.1 = σ.1) (pvU G tys) (pvB G)) ([.ref (G.2.2.1 4 0), .ref (G.2.2.1 3 u1), .ref (G.2.2.1 10 1), .int x3] : List Value).toArray s 0 0 (pvB G)) (F0 m 10 ls []) := by
    intro n10
    induction n10 with
    | zero =>
      intro τ ub1 xb3 xb4 hcτ hub1 h
      rw [f_X4_putFlow_10_z] at h
      cases h
    | succ n10 ih10 =>
      have blk54 : ∀ (τ : PvS) (ub1 : Nat) (xb3 : Int32) (xb4 : Int32) (ub5 : Nat) (xbs0 : Int32), (τ.1 = σ.1) → (ub1 < pvM σ 3) → (ub5 < pvM σ 3) → f_X4_putFlow_54 (f_X4_putFlow_10 kf n10) kf τ ub1 xb3 xb4 ub5 xbs0 = some σ1 → ∀ (H : Heap) (locs : List Loc), pvW G τ H → va_S (pvB G) s.heap H locs → ∀ (ls : Array Slot), lv_has ls 7 [(0, .ref (G.2.2.1 4 0)), (1, .ref (G.2.2.1 3 ub1)), (2, .ref (G.2.2.1 10 1)), (3, .int xb3), (4, .int xb4), (5, .ref (G.2.2.1 3 ub5))] → W p l e (headSpec (Cond.code yX4_putFlow cX4_putFlow 7 none :: WA) ({ frames := rA + 4, cells := 0, slots := 0, locals := rB + 93 } : Room)).room s m ([.ref (G.2.2.1 4 0), .ref (G.2.2.1 3 u1), .ref (G.2.2.1 10 1), .int x3] : List Value).toArray below meth c H locs 0 0 (MQ below (va_Qv (fun σ' => σ' = σ1 ∧ σ'.1 = σ.1) (pvU G tys) (pvB G)) ([.ref (G.2.2.1 4 0), .ref (G.2.2.1 3 u1), .ref (G.2.2.1 10 1), .int x3] : List Value).toArray s 0 0 (pvB G)) (F0 m 54 ls [.int xbs0]) := by
        intro τ ub1 xb3 xb4 ub5 xbs0 hcτ hub1 hub5 h H locs hw hS ls hl
        unfold f_X4_putFlow_54 at h
        refine lv_istore (lv' := [(6, .int xbs0), (0, .ref (G.2.2.1 4 0)), (1, .ref (G.2.2.1 3 ub1)), (2, .ref (G.2.2.1 10 1)), (3, .int xb3), (4, .int xb4), (5, .ref (G.2.2.1 3 ub5))]) hx hb dX4_putFlow_54 hl (by decide) rfl (fun ls hl => ?_)
        refine lv_iload hx hb dX4_putFlow_56 (lv_at hl 0 rfl) ?_
        refine lv_iconst (v := 1) hx hb dX4_putFlow_58 (by decide) ?_
        refine lv_icmp_ne (tgt := 85) hx hb dX4_putFlow_59 (by decide) (fun c1 => ?_) (fun c1 => ?_)
        · skip
          replace h := ite_n c1 h
          refine lv_iload hx hb dX4_putFlow_85 (lv_at hl 0 rfl) ?_
          refine lv_iconst (v := 3) hx hb dX4_putFlow_87 (by decide) ?_
          refine lv_icmp_ne (tgt := 110) hx hb dX4_putFlow_88 (by decide) (fun c2 => ?_) (fun c2 => ?_)
          · skip
            replace h := ite_n c2 h
            refine lv_iload hx hb dX4_putFlow_110 (lv_at hl 0 rfl) ?_
            refine lv_iconst (v := 4) hx hb dX4_putFlow_112 (by decide) ?_
            refine lv_icmp_ne (tgt := 132) hx hb dX4_putFlow_113 (by decide) (fun c3 => ?_) (fun c3 => ?_)
            · skip
              replace h := ite_n c3 h
              refine lv_iinc (v := xb4 + 1) (lv' := [(4, .int (xb4 + 1)), (6, .int xbs0), (0, .ref (G.2.2.1 4 0)), (1, .ref (G.2.2.1 3 ub1)), (2, .ref (G.2.2.1 10 1)), (3, .int xb3), (5, .ref (G.2.2.1 3 ub5))]) hx hb dX4_putFlow_132 hl (k := 5) rfl (by rfl) (by decide) rfl (fun ls hl => ?_)
              refine lv_goto (tgt := 10) hx hb dX4_putFlow_135 (by decide) ?_
              exact ih10 τ ub1 xb3 (xb4 + 1) hcτ hub1 h _ _ hw hS ls (lv_sub hl [2, 3, 4, 5, 0] rfl)
            · skip
              replace h := ite_p c3 h
              refine lv_aload_n hx hb dX4_putFlow_116 rfl (lv_at hl 1 rfl) ?_
              refine lv_aload_n hx hb dX4_putFlow_117 rfl (lv_at hl 2 rfl) ?_
              obtain ⟨σ5, e6, h⟩ := ob1_e h
              refine pcallv (va_runV (As := [.ref (G.2.2.1 3 ub1)]) (rest := []) ⟨hx, hb, hml, hown, hts⟩ (c_X4_putLines (l := l) (G := G) (tys := tys) (σ := τ) htys (lt_c hcτ 3 hub1) e6) (cwV 1 hts (gVA wm563 wm564 wm565 wm17 wm566) rfl rfl rfl (by decide +kernel) ⟨(by show 3 + 1 ≤ rA + 4; omega), (by show 8 + (10 + 11) + (62) ≤ rB + 93; omega)⟩) (pv_preV hA hS hw hK 4 0 Nat.one_pos (by decide) rfl [.ref (G.2.2.1 3 ub1)]) rfl rfl hl.1 rfl (lv_room (Nat.le_of_ble_eq_true rfl)) dX4_putFlow_118 ⟨Nat.zero_le _, Nat.zero_le _⟩) hS (fun s9 H locs hp7 hw hS => ?_)
              obtain ⟨esσ5, hdσ5⟩ := hp7
              obtain rfl := esσ5.symm
              have hcσ5 : σ5.1 = σ.1 := hdσ5.trans hcτ
              refine lv_aload_n hx hb dX4_putFlow_121 rfl (lv_at hl 1 rfl) ?_
              refine lv_aload hx hb dX4_putFlow_122 (lv_at hl 6 rfl) ?_
              refine lv_aload_n hx hb dX4_putFlow_124 rfl (lv_at hl 2 rfl) ?_
              refine lv_aload_n hx hb dX4_putFlow_125 rfl (lv_at hl 3 rfl) ?_
              refine lv_iload_n hx hb dX4_putFlow_126 rfl (lv_at hl 4 rfl) ?_
              refine lv_iconst (v := 1) hx hb dX4_putFlow_127 (by decide) ?_
              refine lv_iadd hx hb dX4_putFlow_128 ?_
              obtain ⟨σ11, e12, h⟩ := ob1_e h
              refine pcallv (va_runV (As := [.ref (G.2.2.1 3 ub5), .ref (G.2.2.1 3 ub1), .ref (G.2.2.1 10 1), .int (xb3 + 1)]) (rest := []) ⟨hx, hb, hml, hown, hts⟩ (c_X4_putFloat (l := l) (G := G) (tys := tys) (σ := σ5) htys (kf := kf) (rA := rA) (rB := rB) hk (lt_c hcσ5 3 hub5) (lt_c hcσ5 3 hub1) e12) (cwV 4 hts (gVA wm630 wm631 wm632 wm17 wm610) rfl rfl rfl (by decide +kernel) ⟨(by show (rA) + 3 + 1 ≤ rA + 4; omega), (by show 8 + (12 + 11) + ((rB) + 62) ≤ rB + 93; omega)⟩) (pv_preV hA hS hw hK 4 0 Nat.one_pos (by decide) rfl [.ref (G.2.2.1 3 ub5), .ref (G.2.2.1 3 ub1), .ref (G.2.2.1 10 1), .int (xb3 + 1)]) rfl rfl hl.1 rfl (lv_room (Nat.le_of_ble_eq_true rfl)) dX4_putFlow_129 ⟨Nat.zero_le _, Nat.zero_le _⟩) hS (fun s15 H locs hp13 hw hS => ?_)
              obtain ⟨esσ11, hdσ11⟩ := hp13
              obtain rfl := esσ11.symm
              have hcσ11 : σ11.1 = σ.1 := hdσ11.trans hcσ5
              refine lv_iinc (v := xb4 + 1) (lv' := [(4, .int (xb4 + 1)), (6, .int xbs0), (0, .ref (G.2.2.1 4 0)), (1, .ref (G.2.2.1 3 ub1)), (2, .ref (G.2.2.1 10 1)), (3, .int xb3), (5, .ref (G.2.2.1 3 ub5))]) hx hb dX4_putFlow_132 hl (k := 5) rfl (by rfl) (by decide) rfl (fun ls hl => ?_)
              refine lv_goto (tgt := 10) hx hb dX4_putFlow_135 (by decide) ?_
              exact ih10 σ11 ub1 xb3 (xb4 + 1) hcσ11 hub1 h _ _ hw hS ls (lv_sub hl [2, 3, 4, 5, 0] rfl)
          · skip
            replace h := ite_p c2 h
            refine lv_aload_n hx hb dX4_putFlow_91 rfl (lv_at hl 1 rfl) ?_
            refine lv_aload_n hx hb dX4_putFlow_92 rfl (lv_at hl 2 rfl) ?_
            obtain ⟨σ17, e18, h⟩ := ob1_e h
            refine pcallv (va_runV (As := [.ref (G.2.2.1 3 ub1)]) (rest := []) ⟨hx, hb, hml, hown, hts⟩ (c_X4_putLines (l := l) (G := G) (tys := tys) (σ := τ) htys (lt_c hcτ 3 hub1) e18) (cwV 1 hts (gVA wm563 wm564 wm565 wm17 wm566) rfl rfl rfl (by decide +kernel) ⟨(by show 3 + 1 ≤ rA + 4; omega), (by show 8 + (10 + 11) + (62) ≤ rB + 93; omega)⟩) (pv_preV hA hS hw hK 4 0 Nat.one_pos (by decide) rfl [.ref (G.2.2.1 3 ub1)]) rfl rfl hl.1 rfl (lv_room (Nat.le_of_ble_eq_true rfl)) dX4_putFlow_93 ⟨Nat.zero_le _, Nat.zero_le _⟩) hS (fun s21 H locs hp19 hw hS => ?_)
            obtain ⟨esσ17, hdσ17⟩ := hp19
            obtain rfl := esσ17.symm
            have hcσ17 : σ17.1 = σ.1 := hdσ17.trans hcτ
            refine lv_aload_n hx hb dX4_putFlow_96 rfl (lv_at hl 1 rfl) ?_
            refine lv_aload hx hb dX4_putFlow_97 (lv_at hl 6 rfl) ?_
            refine lv_aload_n hx hb dX4_putFlow_99 rfl (lv_at hl 2 rfl) ?_
            refine lv_aload_n hx hb dX4_putFlow_100 rfl (lv_at hl 3 rfl) ?_
            refine lv_iload_n hx hb dX4_putFlow_101 rfl (lv_at hl 4 rfl) ?_
            refine lv_iconst (v := 1) hx hb dX4_putFlow_102 (by decide) ?_
            refine lv_iadd hx hb dX4_putFlow_103 ?_
            obtain ⟨σ23, e24, h⟩ := ob1_e h
            refine pcallv (va_runV (As := [.ref (G.2.2.1 3 ub5), .ref (G.2.2.1 3 ub1), .ref (G.2.2.1 10 1), .int (xb3 + 1)]) (rest := []) ⟨hx, hb, hml, hown, hts⟩ (c_X4_putBlock (l := l) (G := G) (tys := tys) (σ := σ17) htys (kf := kf) (rA := rA) (rB := rB) hk (lt_c hcσ17 3 hub5) (lt_c hcσ17 3 hub1) e24) (cwV 4 hts (gVA wm627 wm628 wm629 wm17 wm609) rfl rfl rfl (by decide +kernel) ⟨(by show (rA) + 2 + 1 ≤ rA + 4; omega), (by show 8 + (8 + 11) + ((rB) + 47) ≤ rB + 93; omega)⟩) (pv_preV hA hS hw hK 4 0 Nat.one_pos (by decide) rfl [.ref (G.2.2.1 3 ub5), .ref (G.2.2.1 3 ub1), .ref (G.2.2.1 10 1), .int (xb3 + 1)]) rfl rfl hl.1 rfl (lv_room (Nat.le_of_ble_eq_true rfl)) dX4_putFlow_104 ⟨Nat.zero_le _, Nat.zero_le _⟩) hS (fun s27 H locs hp25 hw hS => ?_)
            obtain ⟨esσ23, hdσ23⟩ := hp25
            obtain rfl := esσ23.symm
            have hcσ23 : σ23.1 = σ.1 := hdσ23.trans hcσ17
            refine lv_goto (tgt := 132) hx hb dX4_putFlow_107 (by decide) ?_
            refine lv_iinc (v := xb4 + 1) (lv' := [(4, .int (xb4 + 1)), (6, .int xbs0), (0, .ref (G.2.2.1 4 0)), (1, .ref (G.2.2.1 3 ub1)), (2, .ref (G.2.2.1 10 1)), (3, .int xb3), (5, .ref (G.2.2.1 3 ub5))]) hx hb dX4_putFlow_132 hl (k := 5) rfl (by rfl) (by decide) rfl (fun ls hl => ?_)
            refine lv_goto (tgt := 10) hx hb dX4_putFlow_135 (by decide) ?_
            exact ih10 σ23 ub1 xb3 (xb4 + 1) hcσ23 hub1 h _ _ hw hS ls (lv_sub hl [2, 3, 4, 5, 0] rfl)
        · skip
          replace h := ite_p c1 h
          refine lv_aload_n hx hb dX4_putFlow_62 rfl (lv_at hl 1 rfl) ?_
          refine pgL (C := RX4) (T := TX4) (N := 6) hx hb hts hown hK hw 4 2 0 Nat.one_pos (by decide) rfl rfl inF_X4 (by decide) (v := .ref (G.2.2.1 8 0)) rfl (hts _ wm179) (fun _ h9 => h9) dX4_putFlow_63 ?_
          refine lv_aload hx hb dX4_putFlow_66 (lv_at hl 6 rfl) ?_
          refine lv_aload_n hx hb dX4_putFlow_68 rfl (lv_at hl 1 rfl) ?_
          refine pgL (C := RX4) (T := TX4) (N := 6) hx hb hts hown hK hw 4 0 0 Nat.one_pos (by decide) rfl rfl inF_X4 (by decide) (v := .ref (G.2.2.1 6 0)) rfl (hts _ wm171) (fun _ h9 => h9) dX4_putFlow_69 ?_
          refine lv_aload hx hb dX4_putFlow_72 (lv_at hl 6 rfl) ?_
          refine lv_bipush (v := 9) hx hb dX4_putFlow_74 (by decide) ?_
          obtain ⟨r28, e29, h⟩ := ob1_e h
          refine pcalli (va_runV (As := [.ref (G.2.2.1 3 ub5), .int 9]) (rest := [.ref (G.2.2.1 3 ub5), .ref (G.2.2.1 8 0)]) ⟨hx, hb, hml, hown, hts⟩ (c_X6_of (l := l) (G := G) (tys := tys) (σ := τ) htys (show 0 < 2 from by decide) (lt_c hcτ 3 hub5) e29) (cwV 2 hts (gVA wm515 wm473 wm474 wm23 wm475) rfl rfl rfl (by decide +kernel) ⟨(by show 0 + 1 ≤ rA + 4; omega), (by show 8 + (5 + 11) + (0) ≤ rB + 93; omega)⟩) (pv_preV hA hS hw hK 6 0 (show 0 < 2 from by decide) (by decide) rfl [.ref (G.2.2.1 3 ub5), .int 9]) rfl rfl hl.1 rfl (lv_room (Nat.le_of_ble_eq_true rfl)) dX4_putFlow_76 ⟨Nat.zero_le _, Nat.zero_le _⟩) hS (fun r31 s32 H locs hp30 hw hS => ?_)
          obtain ⟨err28, esr28⟩ := hp30
          obtain rfl := esr28.symm
          obtain rfl := err28.symm
          obtain ⟨σ34, e35, h⟩ := ob1_e h
          refine pcallv (va_runV (As := [.ref (G.2.2.1 3 ub5), .int r28]) (rest := []) ⟨hx, hb, hml, hown, hts⟩ (c_X8_add (l := l) (G := G) (tys := tys) (σ := τ) htys (lt_c hcτ 3 hub5) e35) (cwV 2 hts (gVA wm621 wm622 wm623 wm178 wm624) rfl rfl rfl (by decide +kernel) ⟨(by show 2 + 1 ≤ rA + 4; omega), (by show 8 + (4 + 11) + (42) ≤ rB + 93; omega)⟩) (pv_preV hA hS hw hK 8 0 Nat.one_pos (by decide) rfl [.ref (G.2.2.1 3 ub5), .int r28]) rfl rfl hl.1 rfl (lv_room (Nat.le_of_ble_eq_true rfl)) dX4_putFlow_79 ⟨Nat.zero_le _, Nat.zero_le _⟩) hS (fun s38 H locs hp36 hw hS => ?_)
          obtain ⟨esσ34, hdσ34⟩ := hp36
          obtain rfl := esσ34.symm
          have hcσ34 : σ34.1 = σ.1 := hdσ34.trans hcτ
          refine lv_goto (tgt := 132) hx hb dX4_putFlow_82 (by decide) ?_
          refine lv_iinc (v := xb4 + 1) (lv' := [(4, .int (xb4 + 1)), (6, .int xbs0), (0, .ref (G.2.2.1 4 0)), (1, .ref (G.2.2.1 3 ub1)), (2, .ref (G.2.2.1 10 1)), (3, .int xb3), (5, .ref (G.2.2.1 3 ub5))]) hx hb dX4_putFlow_132 hl (k := 5) rfl (by rfl) (by decide) rfl (fun ls hl => ?_)
          refine lv_goto (tgt := 10) hx hb dX4_putFlow_135 (by decide) ?_
          exact ih10 σ34 ub1 xb3 (xb4 + 1) hcσ34 hub1 h _ _ hw hS ls (lv_sub hl [2, 3, 4, 5, 0] rfl)
      intro τ ub1 xb3 xb4 hcτ hub1 h H locs hw hS ls hl
      rw [f_X4_putFlow_10_s] at h
      refine lv_iload hx hb dX4_putFlow_10 (lv_at hl 4 rfl) ?_
      refine lv_aload_n hx hb dX4_putFlow_12 rfl (lv_at hl 2 rfl) ?_
      refine pcalli (va_runV (As := []) (rest := [.int xb4]) ⟨hx, hb, hml, hown, hts⟩ (c_lsize (l := l) (G := G) (tys := tys) (σ := τ) (j := 1) (show 1 < τ.1 0 + 3 from Nat.lt_of_lt_of_le (by decide) (Nat.le_add_left 3 _))) (cwV 0 hts (gVA wm507 wm251 wm252 wm13 wm253) rfl rfl rfl (by decide +kernel) ⟨(by show 0 + 1 ≤ rA + 4; omega), (by show 8 + (1 + 11) + 0 ≤ rB + 93; omega)⟩) (pl_preV hA hS hw hK 1 (show 1 < τ.1 0 + 3 from Nat.lt_of_lt_of_le (by decide) (Nat.le_add_left 3 _)) []) rfl rfl hl.1 rfl (lv_room (Nat.le_of_ble_eq_true rfl)) dX4_putFlow_13 ⟨Nat.zero_le _, Nat.zero_le _⟩) hS (fun rz39 sz39 H locs hpz39 hw hS => ?_)
      obtain ⟨rfl, ez39⟩ := hpz39
      obtain rfl := ez39.symm
      refine lv_icmp_ge (tgt := 138) hx hb dX4_putFlow_16 (by decide) (fun c40 => ?_) (fun c40 => ?_)
      · skip
        replace h := ite_p c40 h
        exact pev hx hb hr hlocks hA hw hK hS (psv h hcτ) dX4_putFlow_138
      · skip
        replace h := ite_n c40 h
        refine lv_aload_n hx hb dX4_putFlow_19 rfl (lv_at hl 2 rfl) ?_
        refine lv_iload hx hb dX4_putFlow_20 (lv_at hl 4 rfl) ?_
        obtain ⟨g41, h⟩ := gd_e h
        obtain ⟨y42, ey42, h⟩ := nq_e h
        refine pcallg (κ := 3) rfl (va_runV (As := [.int xb4]) (rest := []) ⟨hx, hb, hml, hown, hts⟩ (c_lgetI (l := l) (G := G) (tys := tys) (σ := τ) htys (j := 1) (show 1 < τ.1 0 + 3 from Nat.lt_of_lt_of_le (by decide) (Nat.le_add_left 3 _)) g41 (pl_len2 hw 1 (show 1 < τ.1 0 + 3 from Nat.lt_of_lt_of_le (by decide) (Nat.le_add_left 3 _)))) (cwV 1 hts (gVA wm508 wm255 wm256 wm13 wm257) rfl rfl rfl (by decide +kernel) ⟨(by show 2 + 1 ≤ rA + 4; omega), (by show 8 + (2 + 11) + 43 ≤ rB + 93; omega)⟩) (pl_preV hA hS hw hK 1 (show 1 < τ.1 0 + 3 from Nat.lt_of_lt_of_le (by decide) (Nat.le_add_left 3 _)) [.int xb4]) rfl rfl hl.1 rfl (lv_room (Nat.le_of_ble_eq_true rfl)) dX4_putFlow_22 ⟨Nat.zero_le _, Nat.zero_le _⟩) hS (fun zy42 ezy42 H locs hw hS => ?_)
        obtain rfl : y42 = zy42 := ey42.trans ezy42.symm
        have hy42 : y42 < pvM τ 3 := by rw [ey42]; exact pl_lt hw 1 (show 1 < τ.1 0 + 3 from Nat.lt_of_lt_of_le (by decide) (Nat.le_add_left 3 _)) _ (Nat.not_le.mp fun q => g41 (Or.inr q)) rfl
        have hy42 : y42 < pvM σ 3 := lt_c hcτ.symm 3 hy42
        refine pcast hx hb hown hK hw 3 y42 (lt_c hcτ 3 hy42) (by decide) rfl (hts _ wm502) dX4_putFlow_25 ?_
        refine lv_astore (lv' := [(5, .ref (G.2.2.1 3 y42)), (0, .ref (G.2.2.1 4 0)), (1, .ref (G.2.2.1 3 ub1)), (2, .ref (G.2.2.1 10 1)), (3, .int xb3), (4, .int xb4)]) hx hb dX4_putFlow_28 hl (by decide) rfl (fun ls hl => ?_)
        refine lv_aload hx hb dX4_putFlow_30 (lv_at hl 0 rfl) ?_
        refine pgL (C := RX3) (T := TX3) (N := 14) hx hb hts hown hK hw 3 6 y42 (lt_c hcτ 3 hy42) (by decide) rfl rfl inF_X3 (by decide) (v := .ref (G.2.2.1 2 y42)) rfl (hts _ wm482) (fun _ h9 => h9) dX4_putFlow_32 ?_
        obtain ⟨o43, eo43, h⟩ := nq_e h
        have ho43 := pv_cl hw eo43
        refine pgR (C := RX2) (T := TX2) (N := 16) hx hb hts hown hK hw 2 1 y42 (lt_c hcτ 2 hy42) (by decide) rfl rfl inF_X2 (by decide) rfl o43 eo43 (hts _ wm504) (fun _ h9 => h9) dX4_putFlow_35 ?_
        have ho43 : ∀ j, o43 = some j → j < pvM σ 3 := fun j z => lt_c hcτ.symm 3 (ho43 j z)
        refine lv_aload_n hx hb dX4_putFlow_38 rfl (lv_at hl 2 rfl) ?_
        refine pacmpq_ne (tgt := 53) hx hb hw 3 o43 ub1 (fun j z => lt_c hcτ 3 (ho43 j z)) (lt_c hcτ 3 hub1) dX4_putFlow_39 (by decide) (fun c44 => ?_) (fun c44 => ?_)
        · skip
          replace h := ite_n c44 h
          refine lv_iconst (v := 0) hx hb dX4_putFlow_53 (by decide) ?_
          exact blk54 τ ub1 xb3 xb4 y42 0 hcτ hub1 hy42 h _ _ hw hS ls (lv_sub hl [1, 2, 3, 4, 5, 0] rfl)
        · skip
          replace h := ite_p c44 h
          refine lv_aload hx hb dX4_putFlow_42 (lv_at hl 0 rfl) ?_
          refine pgL (C := RX3) (T := TX3) (N := 14) hx hb hts hown hK hw 3 6 y42 (lt_c hcτ 3 hy42) (by decide) rfl rfl inF_X3 (by decide) (v := .ref (G.2.2.1 2 y42)) rfl (hts _ wm482) (fun _ h9 => h9) dX4_putFlow_44 ?_
          refine pgI (C := RX2) (T := TX2) (N := 16) hx hb hts hown hK hw 2 0 y42 (lt_c hcτ 2 hy42) (by decide) rfl rfl inF_X2 (by decide) rfl (hts _ wm503) (fun _ h9 => h9) dX4_putFlow_47 ?_
          refine lv_goto (tgt := 54) hx hb dX4_putFlow_50 (by decide) ?_
          exact blk54 τ ub1 xb3 xb4 y42 (τ.2.1 2 0 y42) hcτ hub1 hy42 h _ _ hw hS ls (lv_sub hl [1, 2, 3, 4, 5, 0] rfl)
  refine lv_iload_n hx hb dX4_putFlow_0 rfl (lv_at hl 3 rfl) ?_
  refine lv_bipush (v := 10) hx hb dX4_putFlow_1 (by decide) ?_
  refine lv_icmp_le (tgt := 7) hx hb dX4_putFlow_3 (by decide) (fun c45 => ?_) (fun c45 => ?_)
  · skip
    replace h := ite_p c45 h
    refine lv_iconst (v := 0) hx hb dX4_putFlow_7 (by decide) ?_
    refine lv_istore (lv' := [(4, .int 0), (0, .ref (G.2.2.1 4 0)), (1, .ref (G.2.2.1 3 u1)), (2, .ref (G.2.2.1 10 1)), (3, .int x3)]) hx hb dX4_putFlow_8 hl (by decide) rfl (fun ls hl => ?_)
    exact loop10 fu σ u1 x3 0 rfl hu1 h _ _ hw hS ls (lv_sub hl [1, 2, 3, 4, 0] rfl)
  · skip
    replace h := ite_n c45 h
    exact pev hx hb hr hlocks hA hw hK hS (psv h rfl) dX4_putFlow_6
def f_X4_fill_83  (kf : PvS → Nat → Int32 → Option PvS) (τ : PvS) (ub1 : Nat) (ub4 : Nat) (xb5 : Int32) : Option PvS :=
  nm (pvI τ 2 9 ub4 (xb5 - (τ.2.1 2 6 ub4))) (fun σ1 => ob1 (f_X6_of σ1 0 ub1 2) (fun r2 => if r2 = (-1) then (nm (pvI σ1 2 8 ub4 (σ1.2.1 2 9 ub4)) (fun σ9 => some σ9)) else (nm (pvI σ1 2 8 ub4 r2) (fun σ8 => some σ8))))
def f_X4_fill : Nat → PvS → Nat → Int32 → Option PvS
  | 0, _, _, _ => none
  | nr + 1, σ, u1, x3 => nm (pvI σ 1 1 u1 (σ.2.1 2 6 u1)) (fun σ10 => nm (pvI σ10 1 2 u1 0) (fun σ11 => nm (pvI σ11 2 10 u1 0) (fun σ12 => ob1 (f_X4_putFlow (f_X4_fill nr) σ12 u1 x3) (fun σ14 => ob1 (f_X4_putLines σ14 u1) (fun σ20 => if (σ20.2.1 1 0 u1) = (σ20.2.1 3 0 u1) then (ob1 (f_X0_belowBottoms σ20 (σ20.2.1 3 0 u1) 3 (σ20.2.1 1 1 u1)) (fun r26 => f_X4_fill_83 (f_X4_fill nr) σ20 u1 u1 r26)) else (f_X4_fill_83 (f_X4_fill nr) σ20 u1 u1 (σ20.2.1 1 1 u1)))))))
theorem f_X4_fill_z {σ : PvS} {u1 : Nat} {x3 : Int32} : f_X4_fill 0 σ u1 x3 = none := rfl
theorem f_X4_fill_s {nr : Nat} {σ : PvS} {u1 : Nat} {x3 : Int32} : f_X4_fill (nr + 1) σ u1 x3 = nm (pvI σ 1 1 u1 (σ.2.1 2 6 u1)) (fun σ10 => nm (pvI σ10 1 2 u1 0) (fun σ11 => nm (pvI σ11 2 10 u1 0) (fun σ12 => ob1 (f_X4_putFlow (f_X4_fill nr) σ12 u1 x3) (fun σ14 => ob1 (f_X4_putLines σ14 u1) (fun σ20 => if (σ20.2.1 1 0 u1) = (σ20.2.1 3 0 u1) then (ob1 (f_X0_belowBottoms σ20 (σ20.2.1 3 0 u1) 3 (σ20.2.1 1 1 u1)) (fun r26 => f_X4_fill_83 (f_X4_fill nr) σ20 u1 u1 r26)) else (f_X4_fill_83 (f_X4_fill nr) σ20 u1 u1 (σ20.2.1 1 1 u1))))))) := rfl
set_option maxHeartbeats 4000000 in
set_option maxRecDepth 100000 in
theorem c_X4_fill {l : Launch} {G : PvG} {tys : List (ClassId × FieldType)} (htys : tys = pvT G) : ∀ (nr : Nat) {σ : PvS} {u1 : Nat} {x3 : Int32} {σ1 : PvS}, (u1 < pvM σ 3) → f_X4_fill nr σ u1 x3 = some σ1 → Met l yX4_fill (Cond.code yX4_fill cX4_fill 7 none :: WA) ({ frames := 5 * nr + 4, cells := 0, slots := 0, locals := 119 * nr + 91 }) (va_Pc [.ref (G.2.2.1 4 0), .ref (G.2.2.1 3 u1), .ref (G.2.2.1 10 1), .int x3] (pvU G tys σ)) (va_Qv (fun σ' => σ' = σ1 ∧ σ'.1 = σ.1) (pvU G tys) (pvB G)) 0 0 (pvB G) := by
  intro nr
  induction nr with
  | zero =>
    intros
    rename_i h
    rw [f_X4_fill_z] at h
    cases h
  | succ nr ih =>
  intro σ u1 x3 σ1 hu1 h
  refine Met.ofW (cc := cX4_fill) (maxL := 7) (ret := none) (by decide) rfl ?_
  intro p e s m args below meth c s₁ B hml hv
  obtain ⟨rfl, hw, hK, hA⟩ := hv
  have hx := B.exec
  have hb := B.bytes
  have hr := B.returns
  have hts0 := atoms_spec (ws := (Cond.code yX4_fill cX4_fill 7 none :: WA)) B.pre
  have hts : ∀ w ∈ WA, w.before _ s = true := fun w h => hts0 w (List.mem_cons_of_mem _ h)
  have hown : s.vm.findClass RX4 = some m.cls := findClass_of_methodNamed B.named
  have hlocks := B.notSynchronized
  have hS : va_S (pvB G) s.heap s.heap [] := va_S.rf
  have hl := lv_entry ([.ref (G.2.2.1 4 0), .ref (G.2.2.1 3 u1), .ref (G.2.2.1 10 1), .int x3]) (n := 7) (Nat.le_of_ble_eq_true rfl)
  rw [lg_entry_eq]
  generalize (lg_sl ([.ref (G.2.2.1 4 0), .ref (G.2.2.1 3 u1), .ref (G.2.2.1 10 1), .int x3]) ++ List.replicate (7 - (lg_sl ([.ref (G.2.2.1 4 0), .ref (G.2.2.1 3 u1), .ref (G.2.2.1 10 1), .int x3])).length) Slot.unset).toArray = ls at hl ⊢
  have hl : lv_has ls 7 [(0, .ref (G.2.2.1 4 0)), (1, .ref (G.2.2.1 3 u1)), (2, .ref (G.2.2.1 10 1)), (3, .int x3)] := hl
  have hroot := pv_root hw
  rw [f_X4_fill_s] at h
  have blk83 : ∀ (τ : PvS) (ub1 : Nat) (ub4 : Nat) (xb5 : Int32), (τ.1 = σ.1) → (ub1 < pvM σ 3) → (ub4 < pvM σ 2) → f_X4_fill_83 (f_X4_fill nr) τ ub1 ub4 xb5 = some σ1 → ∀ (H : Heap) (locs : List Loc), pvW G τ H → va_S (pvB G) s.heap H locs → ∀ (ls : Array Slot), lv_has ls 7 [(0, .ref (G.2.2.1 4 0)), (1, .ref (G.2.2.1 3 ub1)), (4, .ref (G.2.2.1 2 ub4)), (5, .int xb5)] → W p l e (headSpec (Cond.code yX4_fill cX4_fill 7 none :: WA) ({ frames := 5 * (nr + 1) + 4, cells := 0, slots := 0, locals := 119 * (nr + 1) + 91 } : Room)).room s m ([.ref (G.2.2.1 4 0), .ref (G.2.2.1 3 u1), .ref (G.2.2.1 10 1), .int x3] : List Value).toArray below meth c H locs 0 0 (MQ below (va_Qv (fun σ' => σ' = σ1 ∧ σ'.1 = σ.1) (pvU G tys) (pvB G)) ([.ref (G.2.2.1 4 0), .ref (G.2.2.1 3 u1), .ref (G.2.2.1 10 1), .int x3] : List Value).toArray s 0 0 (pvB G)) (F0 m 83 ls []) := by
    intro τ ub1 ub4 xb5 hcτ hub1 hub4 h H locs hw hS ls hl
    unfold f_X4_fill_83 at h
    refine lv_aload hx hb dX4_fill_83 (lv_at hl 2 rfl) ?_
    refine lv_iload hx hb dX4_fill_85 (lv_at hl 3 rfl) ?_
    refine lv_aload hx hb dX4_fill_87 (lv_at hl 2 rfl) ?_
    refine pgI (C := RX2) (T := TX2) (N := 16) hx hb hts hown hK hw 2 6 ub4 (lt_c hcτ 2 hub4) (by decide) rfl rfl inF_X2 (by decide) rfl (hts _ wm485) (fun _ h9 => h9) dX4_fill_89 ?_
    refine lv_isub hx hb dX4_fill_92 ?_
    obtain ⟨σ1, eσ1, h⟩ := nq_e h
    refine ppI (ty := .int) (C := RX2) (T := TX2) (N := 16) hx hb hts hown hK hw hS 2 9 ub4 (lt_c hcτ 2 hub4) (by decide) rfl rfl inF_X2 (by decide) rfl (by decide) tyX2_ok nmX2 (hts _ wm558) (fun _ h9 => h9) rfl (by decide +kernel) rfl rfl dX4_fill_93 (fun H locs hw hS => ?_)
    rw [← eσ1] at hw
    have hcσ1 : σ1.1 = σ.1 := by rw [eσ1]; exact hcτ
    refine lv_aload_n hx hb dX4_fill_96 rfl (lv_at hl 0 rfl) ?_
    refine pgL (C := RX4) (T := TX4) (N := 6) hx hb hts hown hK hw 4 0 0 Nat.one_pos (by decide) rfl rfl inF_X4 (by decide) (v := .ref (G.2.2.1 6 0)) rfl (hts _ wm171) (fun _ h9 => h9) dX4_fill_97 ?_
    refine lv_aload_n hx hb dX4_fill_100 rfl (lv_at hl 1 rfl) ?_
    refine lv_iconst (v := 2) hx hb dX4_fill_101 (by decide) ?_
    obtain ⟨r2, e3, h⟩ := ob1_e h
    refine pcalli (va_runV (As := [.ref (G.2.2.1 3 ub1), .int 2]) (rest := []) ⟨hx, hb, hml, hown, hts⟩ (c_X6_of (l := l) (G := G) (tys := tys) (σ := σ1) htys (show 0 < 2 from by decide) (lt_c hcσ1 3 hub1) e3) (cwV 2 hts (gVA wm515 wm473 wm474 wm23 wm475) rfl rfl rfl (by decide +kernel) ⟨(by show 0 + 1 ≤ 5 * (nr + 1) + 4; omega), (by show 8 + (5 + 11) + (0) ≤ 119 * (nr + 1) + 91; omega)⟩) (pv_preV hA hS hw hK 6 0 (show 0 < 2 from by decide) (by decide) rfl [.ref (G.2.2.1 3 ub1), .int 2]) rfl rfl hl.1 rfl (lv_room (Nat.le_of_ble_eq_true rfl)) dX4_fill_102 ⟨Nat.zero_le _, Nat.zero_le _⟩) hS (fun r5 s6 H locs hp4 hw hS => ?_)
    obtain ⟨err2, esr2⟩ := hp4
    obtain rfl := esr2.symm
    obtain rfl := err2.symm
    refine lv_istore (lv' := [(6, .int r2), (0, .ref (G.2.2.1 4 0)), (1, .ref (G.2.2.1 3 ub1)), (4, .ref (G.2.2.1 2 ub4)), (5, .int xb5)]) hx hb dX4_fill_105 hl (by decide) rfl (fun ls hl => ?_)
    refine lv_aload hx hb dX4_fill_107 (lv_at hl 3 rfl) ?_
    refine lv_iload hx hb dX4_fill_109 (lv_at hl 0 rfl) ?_
    refine lv_iconst (v := (-1)) hx hb dX4_fill_111 (by decide) ?_
    refine lv_icmp_ne (tgt := 123) hx hb dX4_fill_112 (by decide) (fun c7 => ?_) (fun c7 => ?_)
    · skip
      replace h := ite_n c7 h
      refine lv_iload hx hb dX4_fill_123 (lv_at hl 0 rfl) ?_
      obtain ⟨σ8, eσ8, h⟩ := nq_e h
      refine ppI (ty := .int) (C := RX2) (T := TX2) (N := 16) hx hb hts hown hK hw hS 2 8 ub4 (lt_c hcσ1 2 hub4) (by decide) rfl rfl inF_X2 (by decide) rfl (by decide) tyX2_ok nmX2 (hts _ wm559) (fun _ h9 => h9) rfl (by decide +kernel) rfl rfl dX4_fill_125 (fun H locs hw hS => ?_)
      rw [← eσ8] at hw
      have hcσ8 : σ8.1 = σ.1 := by rw [eσ8]; exact hcσ1
      exact pev hx hb hr hlocks hA hw hK hS (psv h hcσ8) dX4_fill_128
    · skip
      replace h := ite_p c7 h
      refine lv_aload hx hb dX4_fill_115 (lv_at hl 3 rfl) ?_
      refine pgI (C := RX2) (T := TX2) (N := 16) hx hb hts hown hK hw 2 9 ub4 (lt_c hcσ1 2 hub4) (by decide) rfl rfl inF_X2 (by decide) rfl (hts _ wm558) (fun _ h9 => h9) dX4_fill_117 ?_
      refine lv_goto (tgt := 125) hx hb dX4_fill_120 (by decide) ?_
      obtain ⟨σ9, eσ9, h⟩ := nq_e h
      refine ppI (ty := .int) (C := RX2) (T := TX2) (N := 16) hx hb hts hown hK hw hS 2 8 ub4 (lt_c hcσ1 2 hub4) (by decide) rfl rfl inF_X2 (by decide) rfl (by decide) tyX2_ok nmX2 (hts _ wm559) (fun _ h9 => h9) rfl (by decide +kernel) rfl rfl dX4_fill_125 (fun H locs hw hS => ?_)
      rw [← eσ9] at hw
      have hcσ9 : σ9.1 = σ.1 := by rw [eσ9]; exact hcσ1
      exact pev hx hb hr hlocks hA hw hK hS (psv h hcσ9) dX4_fill_128
  refine lv_aload_n hx hb dX4_fill_0 rfl (lv_at hl 1 rfl) ?_
  refine pgL (C := RX3) (T := TX3) (N := 14) hx hb hts hown hK hw 3 6 u1 hu1 (by decide) rfl rfl inF_X3 (by decide) (v := .ref (G.2.2.1 2 u1)) rfl (hts _ wm482) (fun _ h9 => h9) dX4_fill_1 ?_
  refine lv_astore (lv' := [(4, .ref (G.2.2.1 2 u1)), (0, .ref (G.2.2.1 4 0)), (1, .ref (G.2.2.1 3 u1)), (2, .ref (G.2.2.1 10 1)), (3, .int x3)]) hx hb dX4_fill_4 hl (by decide) rfl (fun ls hl => ?_)
  refine lv_aload_n hx hb dX4_fill_6 rfl (lv_at hl 2 rfl) ?_
  refine pgL (C := RX3) (T := TX3) (N := 14) hx hb hts hown hK hw 3 7 u1 hu1 (by decide) rfl rfl inF_X3 (by decide) (v := .ref (G.2.2.1 1 u1)) rfl (hts _ wm487) (fun _ h9 => h9) dX4_fill_7 ?_
  refine lv_aload hx hb dX4_fill_10 (lv_at hl 0 rfl) ?_
  refine pgI (C := RX2) (T := TX2) (N := 16) hx hb hts hown hK hw 2 6 u1 hu1 (by decide) rfl rfl inF_X2 (by decide) rfl (hts _ wm485) (fun _ h9 => h9) dX4_fill_12 ?_
  obtain ⟨σ10, eσ10, h⟩ := nq_e h
  refine ppI (ty := .int) (C := RX1) (T := TX1) (N := 5) hx hb hts hown hK hw hS 1 1 u1 hu1 (by decide) rfl rfl inF_X1 (by decide) rfl (by decide) tyX1_ok nmX1 (hts _ wm555) (fun _ h9 => h9) rfl (by decide +kernel) rfl rfl dX4_fill_15 (fun H locs hw hS => ?_)
  rw [← eσ10] at hw
  have hcσ10 : σ10.1 = σ.1 := by rw [eσ10]; exact rfl
  refine lv_aload_n hx hb dX4_fill_18 rfl (lv_at hl 2 rfl) ?_
  refine pgL (C := RX3) (T := TX3) (N := 14) hx hb hts hown hK hw 3 7 u1 (lt_c hcσ10 3 hu1) (by decide) rfl rfl inF_X3 (by decide) (v := .ref (G.2.2.1 1 u1)) rfl (hts _ wm487) (fun _ h9 => h9) dX4_fill_19 ?_
  refine lv_iconst (v := 0) hx hb dX4_fill_22 (by decide) ?_
  obtain ⟨σ11, eσ11, h⟩ := nq_e h
  refine ppI (ty := .int) (C := RX1) (T := TX1) (N := 5) hx hb hts hown hK hw hS 1 2 u1 (lt_c hcσ10 1 hu1) (by decide) rfl rfl inF_X1 (by decide) rfl (by decide) tyX1_ok nmX1 (hts _ wm556) (fun _ h9 => h9) rfl (by decide +kernel) rfl rfl dX4_fill_23 (fun H locs hw hS => ?_)
  rw [← eσ11] at hw
  have hcσ11 : σ11.1 = σ.1 := by rw [eσ11]; exact hcσ10
  refine lv_aload hx hb dX4_fill_26 (lv_at hl 0 rfl) ?_
  refine lv_iconst (v := 0) hx hb dX4_fill_28 (by decide) ?_
  obtain ⟨σ12, eσ12, h⟩ := nq_e h
  refine ppI (ty := .int) (C := RX2) (T := TX2) (N := 16) hx hb hts hown hK hw hS 2 10 u1 (lt_c hcσ11 2 hu1) (by decide) rfl rfl inF_X2 (by decide) rfl (by decide) tyX2_ok nmX2 (hts _ wm557) (fun _ h9 => h9) rfl (by decide +kernel) rfl rfl dX4_fill_29 (fun H locs hw hS => ?_)
  rw [← eσ12] at hw
  have hcσ12 : σ12.1 = σ.1 := by rw [eσ12]; exact hcσ11
  refine lv_aload_n hx hb dX4_fill_32 rfl (lv_at hl 1 rfl) ?_
  refine lv_aload_n hx hb dX4_fill_33 rfl (lv_at hl 2 rfl) ?_
  refine lv_aload_n hx hb dX4_fill_34 rfl (lv_at hl 3 rfl) ?_
  refine lv_iload_n hx hb dX4_fill_35 rfl (lv_at hl 4 rfl) ?_
  obtain ⟨σ14, e15, h⟩ := ob1_e h
  refine pcallv (va_runV (As := [.ref (G.2.2.1 3 u1), .ref (G.2.2.1 10 1), .int x3]) (rest := []) ⟨hx, hb, hml, hown, hts⟩ (c_X4_putFlow (l := l) (G := G) (tys := tys) (σ := σ12) htys (kf := f_X4_fill nr) (rA := 5 * nr + 4) (rB := 119 * nr + 91) ih (lt_c hcσ12 3 hu1) e15) (cwV 3 hts (gVA wm560 wm561 wm562 wm17 wm620) rfl rfl rfl (by decide +kernel) ⟨(by show (5 * nr + 4) + 4 + 1 ≤ 5 * (nr + 1) + 4; omega), (by show 8 + (7 + 11) + ((119 * nr + 91) + 93) ≤ 119 * (nr + 1) + 91; omega)⟩) (pv_preV hA hS hw hK 4 0 Nat.one_pos (by decide) rfl [.ref (G.2.2.1 3 u1), .ref (G.2.2.1 10 1), .int x3]) rfl rfl hl.1 rfl (lv_room (Nat.le_of_ble_eq_true rfl)) dX4_fill_36 ⟨Nat.zero_le _, Nat.zero_le _⟩) hS (fun s18 H locs hp16 hw hS => ?_)
  obtain ⟨esσ14, hdσ14⟩ := hp16
  obtain rfl := esσ14.symm
  have hcσ14 : σ14.1 = σ.1 := hdσ14.trans hcσ12
  refine lv_aload_n hx hb dX4_fill_39 rfl (lv_at hl 1 rfl) ?_
  refine lv_aload_n hx hb dX4_fill_40 rfl (lv_at hl 2 rfl) ?_
  obtain ⟨σ20, e21, h⟩ := ob1_e h
  refine pcallv (va_runV (As := [.ref (G.2.2.1 3 u1)]) (rest := []) ⟨hx, hb, hml, hown, hts⟩ (c_X4_putLines (l := l) (G := G) (tys := tys) (σ := σ14) htys (lt_c hcσ14 3 hu1) e21) (cwV 1 hts (gVA wm563 wm564 wm565 wm17 wm566) rfl rfl rfl (by decide +kernel) ⟨(by show 3 + 1 ≤ 5 * (nr + 1) + 4; omega), (by show 8 + (10 + 11) + (62) ≤ 119 * (nr + 1) + 91; omega)⟩) (pv_preV hA hS hw hK 4 0 Nat.one_pos (by decide) rfl [.ref (G.2.2.1 3 u1)]) rfl rfl hl.1 rfl (lv_room (Nat.le_of_ble_eq_true rfl)) dX4_fill_41 ⟨Nat.zero_le _, Nat.zero_le _⟩) hS (fun s24 H locs hp22 hw hS => ?_)
  obtain ⟨esσ20, hdσ20⟩ := hp22
  obtain rfl := esσ20.symm
  have hcσ20 : σ20.1 = σ.1 := hdσ20.trans hcσ14
  refine lv_aload_n hx hb dX4_fill_44 rfl (lv_at hl 2 rfl) ?_
  refine pgL (C := RX3) (T := TX3) (N := 14) hx hb hts hown hK hw 3 7 u1 (lt_c hcσ20 3 hu1) (by decide) rfl rfl inF_X3 (by decide) (v := .ref (G.2.2.1 1 u1)) rfl (hts _ wm487) (fun _ h9 => h9) dX4_fill_45 ?_
  refine pgI (C := RX1) (T := TX1) (N := 5) hx hb hts hown hK hw 1 1 u1 (lt_c hcσ20 1 hu1) (by decide) rfl rfl inF_X1 (by decide) rfl (hts _ wm555) (fun _ h9 => h9) dX4_fill_48 ?_
  refine lv_istore (lv' := [(5, .int (σ20.2.1 1 1 u1)), (4, .ref (G.2.2.1 2 u1)), (0, .ref (G.2.2.1 4 0)), (1, .ref (G.2.2.1 3 u1)), (2, .ref (G.2.2.1 10 1)), (3, .int x3)]) hx hb dX4_fill_51 hl (by decide) rfl (fun ls hl => ?_)
  refine lv_aload_n hx hb dX4_fill_53 rfl (lv_at hl 3 rfl) ?_
  refine pgL (C := RX3) (T := TX3) (N := 14) hx hb hts hown hK hw 3 7 u1 (lt_c hcσ20 3 hu1) (by decide) rfl rfl inF_X3 (by decide) (v := .ref (G.2.2.1 1 u1)) rfl (hts _ wm487) (fun _ h9 => h9) dX4_fill_54 ?_
  refine pgI (C := RX1) (T := TX1) (N := 5) hx hb hts hown hK hw 1 0 u1 (lt_c hcσ20 1 hu1) (by decide) rfl rfl inF_X1 (by decide) rfl (hts _ wm489) (fun _ h9 => h9) dX4_fill_57 ?_
  refine lv_aload_n hx hb dX4_fill_60 rfl (lv_at hl 3 rfl) ?_
  refine pgI (C := RX3) (T := TX3) (N := 14) hx hb hts hown hK hw 3 0 u1 (lt_c hcσ20 3 hu1) (by decide) rfl rfl inF_X3 (by decide) rfl (hts _ wm488) (fun _ h9 => h9) dX4_fill_61 ?_
  refine lv_icmp_ne (tgt := 83) hx hb dX4_fill_64 (by decide) (fun c25 => ?_) (fun c25 => ?_)
  · skip
    replace h := ite_n c25 h
    exact blk83 σ20 u1 u1 (σ20.2.1 1 1 u1) hcσ20 hu1 hu1 h _ _ hw hS ls (lv_sub hl [2, 3, 1, 0] rfl)
  · skip
    replace h := ite_p c25 h
    refine lv_aload_n hx hb dX4_fill_67 rfl (lv_at hl 2 rfl) ?_
    refine pgL (C := RX4) (T := TX4) (N := 6) hx hb hts hown hK hw 4 1 0 Nat.one_pos (by decide) rfl rfl inF_X4 (by decide) (v := .ref (G.2.2.1 0 0)) rfl (hts _ wm175) (fun _ h9 => h9) dX4_fill_68 ?_
    refine lv_aload_n hx hb dX4_fill_71 rfl (lv_at hl 3 rfl) ?_
    refine pgI (C := RX3) (T := TX3) (N := 14) hx hb hts hown hK hw 3 0 u1 (lt_c hcσ20 3 hu1) (by decide) rfl rfl inF_X3 (by decide) rfl (hts _ wm488) (fun _ h9 => h9) dX4_fill_72 ?_
    refine lv_iconst (v := 3) hx hb dX4_fill_75 (by decide) ?_
    refine lv_iload hx hb dX4_fill_76 (lv_at hl 0 rfl) ?_
    obtain ⟨r26, e27, h⟩ := ob1_e h
    refine pcalli (va_runV (As := [.int (σ20.2.1 3 0 u1), .int 3, .int (σ20.2.1 1 1 u1)]) (rest := []) ⟨hx, hb, hml, hown, hts⟩ (c_X0_belowBottoms (l := l) (G := G) (tys := tys) (σ := σ20) htys  e27) (cwV 3 hts (gVA wm605 wm606 wm607 wm174 wm608) rfl rfl rfl (by decide +kernel) ⟨(by show 1 + 1 ≤ 5 * (nr + 1) + 4; omega), (by show 8 + (6 + 11) + (13) ≤ 119 * (nr + 1) + 91; omega)⟩) (pv_preV hA hS hw hK 0 0 Nat.one_pos (by decide) rfl [.int (σ20.2.1 3 0 u1), .int 3, .int (σ20.2.1 1 1 u1)]) rfl rfl hl.1 rfl (lv_room (Nat.le_of_ble_eq_true rfl)) dX4_fill_78 ⟨Nat.zero_le _, Nat.zero_le _⟩) hS (fun r29 s30 H locs hp28 hw hS => ?_)
    obtain ⟨err26, esr26⟩ := hp28
    obtain rfl := esr26.symm
    obtain rfl := err26.symm
    refine lv_istore (lv' := [(5, .int r26), (4, .ref (G.2.2.1 2 u1)), (0, .ref (G.2.2.1 4 0)), (1, .ref (G.2.2.1 3 u1)), (2, .ref (G.2.2.1 10 1)), (3, .int x3)]) hx hb dX4_fill_81 hl (by decide) rfl (fun ls hl => ?_)
    exact blk83 σ20 u1 u1 r26 hcσ20 hu1 hu1 h _ _ hw hS ls (lv_sub hl [2, 3, 1, 0] rfl)
def f_X4_shift_115 (k2 : PvS → Int32 → Option PvS) (τ : PvS) (xb2 : Int32) (ub3 : Nat) (ub4 : Nat) (xbs0 : Int32) (ubs1 : Nat) : Option PvS :=
  nm (pvI τ 2 13 ubs1 xbs0) (fun σ1 => nm (σ1.2.2.1 3 8 ub3) (fun o2 => oc o2 (k2 σ1 (xb2 + 1)) (fun jo2 => nm (σ1.2.2.1 3 8 ub3) (fun o3 => oc o3 none (fun jo3 => nm (pvI σ1 2 11 ub4 ((σ1.2.1 2 11 ub4) + (σ1.2.1 2 11 jo3))) (fun σ4 => nm (σ4.2.2.1 3 8 ub3) (fun o5 => oc o5 none (fun jo5 => nm (σ4.2.2.1 3 8 ub3) (fun o6 => oc o6 none (fun jo6 => nm (pvI σ4 2 12 ub4 ((σ4.2.1 2 12 ub4) + ((σ4.2.1 2 12 jo5) - (σ4.2.1 2 13 jo6)))) (fun σ7 => k2 σ7 (xb2 + 1))))))))))))
def f_X4_shift_76 (k2 : PvS → Int32 → Option PvS) (τ : PvS) (xb2 : Int32) (ub3 : Nat) (ub4 : Nat) (xbs0 : Int32) (ubs1 : Nat) : Option PvS :=
  nm (pvI τ 2 12 ubs1 xbs0) (fun σ8 => if (σ8.2.1 2 4 ub4) = 0 then (f_X4_shift_115 k2 σ8 xb2 ub3 ub4 0 ub4) else (f_X4_shift_115 k2 σ8 xb2 ub3 ub4 (imin (σ8.2.1 3 12 ub3) (imax 0 ((σ8.2.1 2 9 ub4) - (σ8.2.1 2 8 ub4)))) ub4))
def f_X4_shift_49 (k2 : PvS → Int32 → Option PvS) (τ : PvS) (xb2 : Int32) (ub3 : Nat) (ub4 : Nat) (xbs0 : Int32) (ubs1 : Nat) : Option PvS :=
  nm (pvI τ 2 11 ubs1 xbs0) (fun σ10 => ob1 (f_X2_isBox σ10 ub4) (fun r11 => if r11 = 0 then (f_X4_shift_76 k2 σ10 xb2 ub3 ub4 0 ub4) else (ob1 (f_X6_of σ10 0 ub3 13) (fun r17 => f_X4_shift_76 k2 σ10 xb2 ub3 ub4 r17 ub4))))
def f_X4_shift_2  : Nat → PvS → Int32 → Option PvS
  | 0, _, _ => none
  | n + 1, τ, xb2 => if (nI (τ.2.2.2.2 1).length) ≤ xb2 then (some τ) else (gd (vin xb2 (τ.2.2.2.2 1).length) (nm ((τ.2.2.2.2 1).getD xb2.toNatClampNeg 0) (fun y25 => ob1 (f_X2_isBox τ y25) (fun r26 => if r26 = 0 then (f_X4_shift_49 (f_X4_shift_2 n) τ xb2 y25 y25 0 y25) else (ob1 (f_X6_of τ 0 y25 12) (fun r32 => f_X4_shift_49 (f_X4_shift_2 n) τ xb2 y25 y25 r32 y25))))))
theorem f_X4_shift_2_z {τ : PvS} {xb2 : Int32} : f_X4_shift_2 0 τ xb2 = none := rfl
theorem f_X4_shift_2_s {n : Nat} {τ : PvS} {xb2 : Int32} : f_X4_shift_2 (n + 1) τ xb2 = if (nI (τ.2.2.2.2 1).length) ≤ xb2 then (some τ) else (gd (vin xb2 (τ.2.2.2.2 1).length) (nm ((τ.2.2.2.2 1).getD xb2.toNatClampNeg 0) (fun y25 => ob1 (f_X2_isBox τ y25) (fun r26 => if r26 = 0 then (f_X4_shift_49 (f_X4_shift_2 n) τ xb2 y25 y25 0 y25) else (ob1 (f_X6_of τ 0 y25 12) (fun r32 => f_X4_shift_49 (f_X4_shift_2 n) τ xb2 y25 y25 r32 y25)))))) := rfl
def f_X4_shift (σ : PvS)  : Option PvS :=
  f_X4_shift_2 fu σ 0
set_option maxHeartbeats 4000000 in
set_option maxRecDepth 100000 in
theorem c_X4_shift {l : Launch} {G : PvG} {tys : List (ClassId × FieldType)} {σ : PvS} (htys : tys = pvT G)    {σ1 : PvS} (h : f_X4_shift σ = some σ1) : Met l yX4_shift (Cond.code yX4_shift cX4_shift 5 none :: WA) ({ frames := 3, cells := 0, slots := 0, locals := 64 }) (va_Pc [.ref (G.2.2.1 4 0), .ref (G.2.2.1 10 1)] (pvU G tys σ)) (va_Qv (fun σ' => σ' = σ1 ∧ σ'.1 = σ.1) (pvU G tys) (pvB G)) 0 0 (pvB G) := by
  refine Met.ofW (cc := cX4_shift) (maxL := 5) (ret := none) (by decide) rfl ?_
  intro p e s m args below meth c s₁ B hml hv
  obtain ⟨rfl, hw, hK, hA⟩ := hv
  have hx := B.exec
  have hb := B.bytes
  have hr := B.returns
  have hts0 := atoms_spec (ws := (Cond.code yX4_shift cX4_shift 5 none :: WA)) B.pre
  have hts : ∀ w ∈ WA, w.before _ s = true := fun w h => hts0 w (List.mem_cons_of_mem _ h)
  have hown : s.vm.findClass RX4 = some m.cls := findClass_of_methodNamed B.named
  have hlocks := B.notSynchronized
  have hS : va_S (pvB G) s.heap s.heap [] := va_S.rf
  have hl := lv_entry ([.ref (G.2.2.1 4 0), .ref (G.2.2.1 10 1)]) (n := 5) (Nat.le_of_ble_eq_true rfl)
  rw [lg_entry_eq]
  generalize (lg_sl ([.ref (G.2.2.1 4 0), .ref (G.2.2.1 10 1)]) ++ List.replicate (5 - (lg_sl ([.ref (G.2.2.1 4 0), .ref (G.2.2.1 10 1)])).length) Slot.unset).toArray = ls at hl ⊢
  have hl : lv_has ls 5 [(0, .ref (G.2.2.1 4 0)), (1, .ref (G.2.2.1 10 1))] := hl
  have hroot := pv_root hw
  unfold f_X4_shift at h
  have loop2 : ∀ (n : Nat) (τ : PvS) (xb2 : Int32), (τ.1 = σ.1) → f_X4_shift_2 n τ xb2 = some σ1 → ∀ (H : Heap) (locs : List Loc), pvW G τ H → va_S (pvB G) s.heap H locs → ∀ (ls : Array Slot), lv_has ls 5 [(0, .ref (G.2.2.1 4 0)), (1, .ref (G.2.2.1 10 1)), (2, .int xb2)] → W p l e (headSpec (Cond.code yX4_shift cX4_shift 5 none :: WA) ({ frames := 3, cells := 0, slots := 0, locals := 64 } : Room)).room s m ([.ref (G.2.2.1 4 0), .ref (G.2.2.1 10 1)] : List Value).toArray below meth c H locs 0 0 (MQ below (va_Qv (fun σ' => σ' = σ1 ∧ σ'.1 = σ.1) (pvU G tys) (pvB G)) ([.ref (G.2.2.1 4 0), .ref (G.2.2.1 10 1)] : List Value).toArray s 0 0 (pvB G)) (F0 m 2 ls []) := by
    intro n2
    induction n2 with
    | zero =>
      intro τ xb2 hcτ h
      rw [f_X4_shift_2_z] at h
      cases h
    | succ n2 ih2 =>
      have blk115 : ∀ (τ : PvS) (xb2 : Int32) (ub3 : Nat) (ub4 : Nat) (xbs0 : Int32) (ubs1 : Nat), (τ.1 = σ.1) → (ub3 < pvM σ 3) → (ub4 < pvM σ 2) → (ubs1 < pvM σ 2) → f_X4_shift_115 (f_X4_shift_2 n2) τ xb2 ub3 ub4 xbs0 ubs1 = some σ1 → ∀ (H : Heap) (locs : List Loc), pvW G τ H → va_S (pvB G) s.heap H locs → ∀ (ls : Array Slot), lv_has ls 5 [(0, .ref (G.2.2.1 4 0)), (1, .ref (G.2.2.1 10 1)), (2, .int xb2), (3, .ref (G.2.2.1 3 ub3)), (4, .ref (G.2.2.1 2 ub4))] → W p l e (headSpec (Cond.code yX4_shift cX4_shift 5 none :: WA) ({ frames := 3, cells := 0, slots := 0, locals := 64 } : Room)).room s m ([.ref (G.2.2.1 4 0), .ref (G.2.2.1 10 1)] : List Value).toArray below meth c H locs 0 0 (MQ below (va_Qv (fun σ' => σ' = σ1 ∧ σ'.1 = σ.1) (pvU G tys) (pvB G)) ([.ref (G.2.2.1 4 0), .ref (G.2.2.1 10 1)] : List Value).toArray s 0 0 (pvB G)) (F0 m 115 ls [.int xbs0, .ref (G.2.2.1 2 ubs1)]) := by
        intro τ xb2 ub3 ub4 xbs0 ubs1 hcτ hub3 hub4 hubs1 h H locs hw hS ls hl
        unfold f_X4_shift_115 at h
        obtain ⟨σ1, eσ1, h⟩ := nq_e h
        refine ppI (ty := .int) (C := RX2) (T := TX2) (N := 16) hx hb hts hown hK hw hS 2 13 ubs1 (lt_c hcτ 2 hubs1) (by decide) rfl rfl inF_X2 (by decide) rfl (by decide) tyX2_ok nmX2 (hts _ wm640) (fun _ h9 => h9) rfl (by decide +kernel) rfl rfl dX4_shift_115 (fun H locs hw hS => ?_)
        rw [← eσ1] at hw
        have hcσ1 : σ1.1 = σ.1 := by rw [eσ1]; exact hcτ
        refine lv_aload_n hx hb dX4_shift_118 rfl (lv_at hl 3 rfl) ?_
        obtain ⟨o2, eo2, h⟩ := nq_e h
        have ho2 := pv_cl hw eo2
        refine pgR (C := RX3) (T := TX3) (N := 14) hx hb hts hown hK hw 3 8 ub3 (lt_c hcσ1 3 hub3) (by decide) rfl rfl inF_X3 (by decide) rfl o2 eo2 (hts _ wm513) (fun _ h9 => h9) dX4_shift_119 ?_
        have ho2 : ∀ j, o2 = some j → j < pvM σ 3 := fun j z => lt_c hcσ1.symm 3 (ho2 j z)
        rcases o2 with _ | jo2
        · skip
          replace h := oc_n h
          refine lv_ifnullN (tgt := 176) hx hb dX4_shift_122 (by decide) ?_
          refine lv_iinc (v := xb2 + 1) (lv' := [(2, .int (xb2 + 1)), (0, .ref (G.2.2.1 4 0)), (1, .ref (G.2.2.1 10 1)), (3, .ref (G.2.2.1 3 ub3)), (4, .ref (G.2.2.1 2 ub4))]) hx hb dX4_shift_176 hl (k := 2) rfl (by rfl) (by decide) rfl (fun ls hl => ?_)
          refine lv_goto (tgt := 2) hx hb dX4_shift_179 (by decide) ?_
          exact ih2 σ1 (xb2 + 1) hcσ1 h _ _ hw hS ls (lv_sub hl [1, 2, 0] rfl)
        · skip
          replace h := oc_s h
          have hjo2 := ho2 jo2 rfl
          refine lv_ifnull hx hb dX4_shift_122 ?_
          refine lv_aload hx hb dX4_shift_125 (lv_at hl 4 rfl) ?_
          refine lv_dup hx hb dX4_shift_127 rfl ?_
          refine pgI (C := RX2) (T := TX2) (N := 16) hx hb hts hown hK hw 2 11 ub4 (lt_c hcσ1 2 hub4) (by decide) rfl rfl inF_X2 (by decide) rfl (hts _ wm637) (fun _ h9 => h9) dX4_shift_128 ?_
          refine lv_aload_n hx hb dX4_shift_131 rfl (lv_at hl 3 rfl) ?_
          obtain ⟨o3, eo3, h⟩ := nq_e h
          have ho3 := pv_cl hw eo3
          refine pgR (C := RX3) (T := TX3) (N := 14) hx hb hts hown hK hw 3 8 ub3 (lt_c hcσ1 3 hub3) (by decide) rfl rfl inF_X3 (by decide) rfl o3 eo3 (hts _ wm513) (fun _ h9 => h9) dX4_shift_132 ?_
          have ho3 : ∀ j, o3 = some j → j < pvM σ 3 := fun j z => lt_c hcσ1.symm 3 (ho3 j z)
          rcases o3 with _ | jo3
          · cases (oc_n h)
          replace h := oc_s h
          have hjo3 := ho3 jo3 rfl
          refine pgL (C := RX3) (T := TX3) (N := 14) hx hb hts hown hK hw 3 6 jo3 (lt_c hcσ1 3 hjo3) (by decide) rfl rfl inF_X3 (by decide) (v := .ref (G.2.2.1 2 jo3)) rfl (hts _ wm482) (fun _ h9 => h9) dX4_shift_135 ?_
          refine pgI (C := RX2) (T := TX2) (N := 16) hx hb hts hown hK hw 2 11 jo3 (lt_c hcσ1 2 hjo3) (by decide) rfl rfl inF_X2 (by decide) rfl (hts _ wm637) (fun _ h9 => h9) dX4_shift_138 ?_
          refine lv_iadd hx hb dX4_shift_141 ?_
          obtain ⟨σ4, eσ4, h⟩ := nq_e h
          refine ppI (ty := .int) (C := RX2) (T := TX2) (N := 16) hx hb hts hown hK hw hS 2 11 ub4 (lt_c hcσ1 2 hub4) (by decide) rfl rfl inF_X2 (by decide) rfl (by decide) tyX2_ok nmX2 (hts _ wm637) (fun _ h9 => h9) rfl (by decide +kernel) rfl rfl dX4_shift_142 (fun H locs hw hS => ?_)
          rw [← eσ4] at hw
          have hcσ4 : σ4.1 = σ.1 := by rw [eσ4]; exact hcσ1
          refine lv_aload hx hb dX4_shift_145 (lv_at hl 4 rfl) ?_
          refine lv_dup hx hb dX4_shift_147 rfl ?_
          refine pgI (C := RX2) (T := TX2) (N := 16) hx hb hts hown hK hw 2 12 ub4 (lt_c hcσ4 2 hub4) (by decide) rfl rfl inF_X2 (by decide) rfl (hts _ wm638) (fun _ h9 => h9) dX4_shift_148 ?_
          refine lv_aload_n hx hb dX4_shift_151 rfl (lv_at hl 3 rfl) ?_
          obtain ⟨o5, eo5, h⟩ := nq_e h
          have ho5 := pv_cl hw eo5
          refine pgR (C := RX3) (T := TX3) (N := 14) hx hb hts hown hK hw 3 8 ub3 (lt_c hcσ4 3 hub3) (by decide) rfl rfl inF_X3 (by decide) rfl o5 eo5 (hts _ wm513) (fun _ h9 => h9) dX4_shift_152 ?_
          have ho5 : ∀ j, o5 = some j → j < pvM σ 3 := fun j z => lt_c hcσ4.symm 3 (ho5 j z)
          rcases o5 with _ | jo5
          · cases (oc_n h)
          replace h := oc_s h
          have hjo5 := ho5 jo5 rfl
          refine pgL (C := RX3) (T := TX3) (N := 14) hx hb hts hown hK hw 3 6 jo5 (lt_c hcσ4 3 hjo5) (by decide) rfl rfl inF_X3 (by decide) (v := .ref (G.2.2.1 2 jo5)) rfl (hts _ wm482) (fun _ h9 => h9) dX4_shift_155 ?_
          refine pgI (C := RX2) (T := TX2) (N := 16) hx hb hts hown hK hw 2 12 jo5 (lt_c hcσ4 2 hjo5) (by decide) rfl rfl inF_X2 (by decide) rfl (hts _ wm638) (fun _ h9 => h9) dX4_shift_158 ?_
          refine lv_aload_n hx hb dX4_shift_161 rfl (lv_at hl 3 rfl) ?_
          obtain ⟨o6, eo6, h⟩ := nq_e h
          have ho6 := pv_cl hw eo6
          refine pgR (C := RX3) (T := TX3) (N := 14) hx hb hts hown hK hw 3 8 ub3 (lt_c hcσ4 3 hub3) (by decide) rfl rfl inF_X3 (by decide) rfl o6 eo6 (hts _ wm513) (fun _ h9 => h9) dX4_shift_162 ?_
          have ho6 : ∀ j, o6 = some j → j < pvM σ 3 := fun j z => lt_c hcσ4.symm 3 (ho6 j z)
          rcases o6 with _ | jo6
          · cases (oc_n h)
          replace h := oc_s h
          have hjo6 := ho6 jo6 rfl
          refine pgL (C := RX3) (T := TX3) (N := 14) hx hb hts hown hK hw 3 6 jo6 (lt_c hcσ4 3 hjo6) (by decide) rfl rfl inF_X3 (by decide) (v := .ref (G.2.2.1 2 jo6)) rfl (hts _ wm482) (fun _ h9 => h9) dX4_shift_165 ?_
          refine pgI (C := RX2) (T := TX2) (N := 16) hx hb hts hown hK hw 2 13 jo6 (lt_c hcσ4 2 hjo6) (by decide) rfl rfl inF_X2 (by decide) rfl (hts _ wm640) (fun _ h9 => h9) dX4_shift_168 ?_
          refine lv_isub hx hb dX4_shift_171 ?_
          refine lv_iadd hx hb dX4_shift_172 ?_
          obtain ⟨σ7, eσ7, h⟩ := nq_e h
          refine ppI (ty := .int) (C := RX2) (T := TX2) (N := 16) hx hb hts hown hK hw hS 2 12 ub4 (lt_c hcσ4 2 hub4) (by decide) rfl rfl inF_X2 (by decide) rfl (by decide) tyX2_ok nmX2 (hts _ wm638) (fun _ h9 => h9) rfl (by decide +kernel) rfl rfl dX4_shift_173 (fun H locs hw hS => ?_)
          rw [← eσ7] at hw
          have hcσ7 : σ7.1 = σ.1 := by rw [eσ7]; exact hcσ4
          refine lv_iinc (v := xb2 + 1) (lv' := [(2, .int (xb2 + 1)), (0, .ref (G.2.2.1 4 0)), (1, .ref (G.2.2.1 10 1)), (3, .ref (G.2.2.1 3 ub3)), (4, .ref (G.2.2.1 2 ub4))]) hx hb dX4_shift_176 hl (k := 2) rfl (by rfl) (by decide) rfl (fun ls hl => ?_)
          refine lv_goto (tgt := 2) hx hb dX4_shift_179 (by decide) ?_
          exact ih2 σ7 (xb2 + 1) hcσ7 h _ _ hw hS ls (lv_sub hl [1, 2, 0] rfl)
      have blk76 : ∀ (τ : PvS) (xb2 : Int32) (ub3 : Nat) (ub4 : Nat) (xbs0 : Int32) (ubs1 : Nat), (τ.1 = σ.1) → (ub3 < pvM σ 3) → (ub4 < pvM σ 2) → (ubs1 < pvM σ 2) → f_X4_shift_76 (f_X4_shift_2 n2) τ xb2 ub3 ub4 xbs0 ubs1 = some σ1 → ∀ (H : Heap) (locs : List Loc), pvW G τ H → va_S (pvB G) s.heap H locs → ∀ (ls : Array Slot), lv_has ls 5 [(0, .ref (G.2.2.1 4 0)), (1, .ref (G.2.2.1 10 1)), (2, .int xb2), (3, .ref (G.2.2.1 3 ub3)), (4, .ref (G.2.2.1 2 ub4))] → W p l e (headSpec (Cond.code yX4_shift cX4_shift 5 none :: WA) ({ frames := 3, cells := 0, slots := 0, locals := 64 } : Room)).room s m ([.ref (G.2.2.1 4 0), .ref (G.2.2.1 10 1)] : List Value).toArray below meth c H locs 0 0 (MQ below (va_Qv (fun σ' => σ' = σ1 ∧ σ'.1 = σ.1) (pvU G tys) (pvB G)) ([.ref (G.2.2.1 4 0), .ref (G.2.2.1 10 1)] : List Value).toArray s 0 0 (pvB G)) (F0 m 76 ls [.int xbs0, .ref (G.2.2.1 2 ubs1)]) := by
        intro τ xb2 ub3 ub4 xbs0 ubs1 hcτ hub3 hub4 hubs1 h H locs hw hS ls hl
        unfold f_X4_shift_76 at h
        obtain ⟨σ8, eσ8, h⟩ := nq_e h
        refine ppI (ty := .int) (C := RX2) (T := TX2) (N := 16) hx hb hts hown hK hw hS 2 12 ubs1 (lt_c hcτ 2 hubs1) (by decide) rfl rfl inF_X2 (by decide) rfl (by decide) tyX2_ok nmX2 (hts _ wm638) (fun _ h9 => h9) rfl (by decide +kernel) rfl rfl dX4_shift_76 (fun H locs hw hS => ?_)
        rw [← eσ8] at hw
        have hcσ8 : σ8.1 = σ.1 := by rw [eσ8]; exact hcτ
        refine lv_aload hx hb dX4_shift_79 (lv_at hl 4 rfl) ?_
        refine lv_aload hx hb dX4_shift_81 (lv_at hl 4 rfl) ?_
        refine pgI (C := RX2) (T := TX2) (N := 16) hx hb hts hown hK hw 2 4 ub4 (lt_c hcσ8 2 hub4) (by decide) rfl rfl inF_X2 (by decide) rfl (hts _ wm506) (fun _ h9 => h9) dX4_shift_83 ?_
        refine lv_if_eq (tgt := 114) hx hb dX4_shift_86 (by decide) (fun c9 => ?_) (fun c9 => ?_)
        · skip
          replace h := ite_p c9 h
          refine lv_iconst (v := 0) hx hb dX4_shift_114 (by decide) ?_
          exact blk115 σ8 xb2 ub3 ub4 0 ub4 hcσ8 hub3 hub4 hub4 h _ _ hw hS ls (lv_sub hl [0, 1, 2, 3, 4] rfl)
        · skip
          replace h := ite_n c9 h
          refine lv_aload_n hx hb dX4_shift_89 rfl (lv_at hl 3 rfl) ?_
          refine pgI (C := RX3) (T := TX3) (N := 14) hx hb hts hown hK hw 3 12 ub3 (lt_c hcσ8 3 hub3) (by decide) rfl rfl inF_X3 (by decide) rfl (hts _ wm639) (fun _ h9 => h9) dX4_shift_90 ?_
          refine lv_iconst (v := 0) hx hb dX4_shift_93 (by decide) ?_
          refine lv_aload hx hb dX4_shift_94 (lv_at hl 4 rfl) ?_
          refine pgI (C := RX2) (T := TX2) (N := 16) hx hb hts hown hK hw 2 9 ub4 (lt_c hcσ8 2 hub4) (by decide) rfl rfl inF_X2 (by decide) rfl (hts _ wm558) (fun _ h9 => h9) dX4_shift_96 ?_
          refine lv_aload hx hb dX4_shift_99 (lv_at hl 4 rfl) ?_
          refine pgI (C := RX2) (T := TX2) (N := 16) hx hb hts hown hK hw 2 8 ub4 (lt_c hcσ8 2 hub4) (by decide) rfl rfl inF_X2 (by decide) rfl (hts _ wm559) (fun _ h9 => h9) dX4_shift_101 ?_
          refine lv_isub hx hb dX4_shift_104 ?_
          refine pmmax hx hb (hml.trans hl.1.symm) hown (hts _ wm533) (hts _ wm111) (hts _ wm112) (hts _ wm113) (Nat.le_of_ble_eq_true rfl) (Nat.le_of_ble_eq_true rfl) (Nat.zero_le _) (Nat.zero_le _) dX4_shift_105 ?_
          refine pmmin hx hb (hml.trans hl.1.symm) hown (hts _ wm611) (hts _ wm160) (hts _ wm112) (hts _ wm161) (Nat.le_of_ble_eq_true rfl) (Nat.le_of_ble_eq_true rfl) (Nat.zero_le _) (Nat.zero_le _) dX4_shift_108 ?_
          refine lv_goto (tgt := 115) hx hb dX4_shift_111 (by decide) ?_
          exact blk115 σ8 xb2 ub3 ub4 (imin (σ8.2.1 3 12 ub3) (imax 0 ((σ8.2.1 2 9 ub4) - (σ8.2.1 2 8 ub4)))) ub4 hcσ8 hub3 hub4 hub4 h _ _ hw hS ls (lv_sub hl [0, 1, 2, 3, 4] rfl)
      have blk49 : ∀ (τ : PvS) (xb2 : Int32) (ub3 : Nat) (ub4 : Nat) (xbs0 : Int32) (ubs1 : Nat), (τ.1 = σ.1) → (ub3 < pvM σ 3) → (ub4 < pvM σ 2) → (ubs1 < pvM σ 2) → f_X4_shift_49 (f_X4_shift_2 n2) τ xb2 ub3 ub4 xbs0 ubs1 = some σ1 → ∀ (H : Heap) (locs : List Loc), pvW G τ H → va_S (pvB G) s.heap H locs → ∀ (ls : Array Slot), lv_has ls 5 [(0, .ref (G.2.2.1 4 0)), (1, .ref (G.2.2.1 10 1)), (2, .int xb2), (3, .ref (G.2.2.1 3 ub3)), (4, .ref (G.2.2.1 2 ub4))] → W p l e (headSpec (Cond.code yX4_shift cX4_shift 5 none :: WA) ({ frames := 3, cells := 0, slots := 0, locals := 64 } : Room)).room s m ([.ref (G.2.2.1 4 0), .ref (G.2.2.1 10 1)] : List Value).toArray below meth c H locs 0 0 (MQ below (va_Qv (fun σ' => σ' = σ1 ∧ σ'.1 = σ.1) (pvU G tys) (pvB G)) ([.ref (G.2.2.1 4 0), .ref (G.2.2.1 10 1)] : List Value).toArray s 0 0 (pvB G)) (F0 m 49 ls [.int xbs0, .ref (G.2.2.1 2 ubs1)]) := by
        intro τ xb2 ub3 ub4 xbs0 ubs1 hcτ hub3 hub4 hubs1 h H locs hw hS ls hl
        unfold f_X4_shift_49 at h
        obtain ⟨σ10, eσ10, h⟩ := nq_e h
        refine ppI (ty := .int) (C := RX2) (T := TX2) (N := 16) hx hb hts hown hK hw hS 2 11 ubs1 (lt_c hcτ 2 hubs1) (by decide) rfl rfl inF_X2 (by decide) rfl (by decide) tyX2_ok nmX2 (hts _ wm637) (fun _ h9 => h9) rfl (by decide +kernel) rfl rfl dX4_shift_49 (fun H locs hw hS => ?_)
        rw [← eσ10] at hw
        have hcσ10 : σ10.1 = σ.1 := by rw [eσ10]; exact hcτ
        refine lv_aload hx hb dX4_shift_52 (lv_at hl 4 rfl) ?_
        refine lv_aload hx hb dX4_shift_54 (lv_at hl 4 rfl) ?_
        obtain ⟨r11, e12, h⟩ := ob1_e h
        refine pcalli (va_runV (As := []) (rest := [.ref (G.2.2.1 2 ub4)]) ⟨hx, hb, hml, hown, hts⟩ (c_X2_isBox (l := l) (G := G) (tys := tys) (σ := σ10) htys (lt_c hcσ10 2 hub4) e12) (cwV 0 hts (gVA wm519 wm520 wm521 wm81 wm522) rfl rfl rfl (by decide +kernel) ⟨(Nat.le_of_ble_eq_true rfl), (Nat.le_of_ble_eq_true rfl)⟩) (pv_preV hA hS hw hK 2 ub4 (lt_c hcσ10 2 hub4) (by decide) rfl []) rfl rfl hl.1 rfl (lv_room (Nat.le_of_ble_eq_true rfl)) dX4_shift_56 ⟨Nat.zero_le _, Nat.zero_le _⟩) hS (fun r14 s15 H locs hp13 hw hS => ?_)
        obtain ⟨err11, esr11, hzr11⟩ := hp13
        obtain rfl := esr11.symm
        obtain rfl := err11.symm
        refine lv_if_eq (tgt := 75) hx hb dX4_shift_59 (by decide) (fun c16 => ?_) (fun c16 => ?_)
        · skip
          replace h := ite_p c16 h
          refine lv_iconst (v := 0) hx hb dX4_shift_75 (by decide) ?_
          exact blk76 σ10 xb2 ub3 ub4 0 ub4 hcσ10 hub3 hub4 hub4 h _ _ hw hS ls (lv_sub hl [0, 1, 2, 3, 4] rfl)
        · skip
          replace h := ite_n c16 h
          refine lv_aload_n hx hb dX4_shift_62 rfl (lv_at hl 0 rfl) ?_
          refine pgL (C := RX4) (T := TX4) (N := 6) hx hb hts hown hK hw 4 0 0 Nat.one_pos (by decide) rfl rfl inF_X4 (by decide) (v := .ref (G.2.2.1 6 0)) rfl (hts _ wm171) (fun _ h9 => h9) dX4_shift_63 ?_
          refine lv_aload_n hx hb dX4_shift_66 rfl (lv_at hl 3 rfl) ?_
          refine lv_bipush (v := 13) hx hb dX4_shift_67 (by decide) ?_
          obtain ⟨r17, e18, h⟩ := ob1_e h
          refine pcalli (va_runV (As := [.ref (G.2.2.1 3 ub3), .int 13]) (rest := [.ref (G.2.2.1 2 ub4)]) ⟨hx, hb, hml, hown, hts⟩ (c_X6_of (l := l) (G := G) (tys := tys) (σ := σ10) htys (show 0 < 2 from by decide) (lt_c hcσ10 3 hub3) e18) (cwV 2 hts (gVA wm515 wm473 wm474 wm23 wm475) rfl rfl rfl (by decide +kernel) ⟨(Nat.le_of_ble_eq_true rfl), (Nat.le_of_ble_eq_true rfl)⟩) (pv_preV hA hS hw hK 6 0 (show 0 < 2 from by decide) (by decide) rfl [.ref (G.2.2.1 3 ub3), .int 13]) rfl rfl hl.1 rfl (lv_room (Nat.le_of_ble_eq_true rfl)) dX4_shift_69 ⟨Nat.zero_le _, Nat.zero_le _⟩) hS (fun r20 s21 H locs hp19 hw hS => ?_)
          obtain ⟨err17, esr17⟩ := hp19
          obtain rfl := esr17.symm
          obtain rfl := err17.symm
          refine lv_goto (tgt := 76) hx hb dX4_shift_72 (by decide) ?_
          exact blk76 σ10 xb2 ub3 ub4 r17 ub4 hcσ10 hub3 hub4 hub4 h _ _ hw hS ls (lv_sub hl [0, 1, 2, 3, 4] rfl)
      intro τ xb2 hcτ h H locs hw hS ls hl
      rw [f_X4_shift_2_s] at h
      refine lv_iload_n hx hb dX4_shift_2 rfl (lv_at hl 2 rfl) ?_
      refine lv_aload_n hx hb dX4_shift_3 rfl (lv_at hl 1 rfl) ?_
      refine pcalli (va_runV (As := []) (rest := [.int xb2]) ⟨hx, hb, hml, hown, hts⟩ (c_lsize (l := l) (G := G) (tys := tys) (σ := τ) (j := 1) (show 1 < τ.1 0 + 3 from Nat.lt_of_lt_of_le (by decide) (Nat.le_add_left 3 _))) (cwV 0 hts (gVA wm507 wm251 wm252 wm13 wm253) rfl rfl rfl (by decide +kernel) ⟨(Nat.le_of_ble_eq_true rfl), (Nat.le_of_ble_eq_true rfl)⟩) (pl_preV hA hS hw hK 1 (show 1 < τ.1 0 + 3 from Nat.lt_of_lt_of_le (by decide) (Nat.le_add_left 3 _)) []) rfl rfl hl.1 rfl (lv_room (Nat.le_of_ble_eq_true rfl)) dX4_shift_4 ⟨Nat.zero_le _, Nat.zero_le _⟩) hS (fun rz22 sz22 H locs hpz22 hw hS => ?_)
      obtain ⟨rfl, ez22⟩ := hpz22
      obtain rfl := ez22.symm
      refine lv_icmp_ge (tgt := 182) hx hb dX4_shift_7 (by decide) (fun c23 => ?_) (fun c23 => ?_)
      · skip
        replace h := ite_p c23 h
        exact pev hx hb hr hlocks hA hw hK hS (psv h hcτ) dX4_shift_182
      · skip
        replace h := ite_n c23 h
        refine lv_aload_n hx hb dX4_shift_10 rfl (lv_at hl 1 rfl) ?_
        refine lv_iload_n hx hb dX4_shift_11 rfl (lv_at hl 2 rfl) ?_
        obtain ⟨g24, h⟩ := gd_e h
        obtain ⟨y25, ey25, h⟩ := nq_e h
        refine pcallg (κ := 3) rfl (va_runV (As := [.int xb2]) (rest := []) ⟨hx, hb, hml, hown, hts⟩ (c_lgetI (l := l) (G := G) (tys := tys) (σ := τ) htys (j := 1) (show 1 < τ.1 0 + 3 from Nat.lt_of_lt_of_le (by decide) (Nat.le_add_left 3 _)) g24 (pl_len2 hw 1 (show 1 < τ.1 0 + 3 from Nat.lt_of_lt_of_le (by decide) (Nat.le_add_left 3 _)))) (cwV 1 hts (gVA wm508 wm255 wm256 wm13 wm257) rfl rfl rfl (by decide +kernel) ⟨(Nat.le_of_ble_eq_true rfl), (Nat.le_of_ble_eq_true rfl)⟩) (pl_preV hA hS hw hK 1 (show 1 < τ.1 0 + 3 from Nat.lt_of_lt_of_le (by decide) (Nat.le_add_left 3 _)) [.int xb2]) rfl rfl hl.1 rfl (lv_room (Nat.le_of_ble_eq_true rfl)) dX4_shift_12 ⟨Nat.zero_le _, Nat.zero_le _⟩) hS (fun zy25 ezy25 H locs hw hS => ?_)
        obtain rfl : y25 = zy25 := ey25.trans ezy25.symm
        have hy25 : y25 < pvM τ 3 := by rw [ey25]; exact pl_lt hw 1 (show 1 < τ.1 0 + 3 from Nat.lt_of_lt_of_le (by decide) (Nat.le_add_left 3 _)) _ (Nat.not_le.mp fun q => g24 (Or.inr q)) rfl
        have hy25 : y25 < pvM σ 3 := lt_c hcτ.symm 3 hy25
        refine pcast hx hb hown hK hw 3 y25 (lt_c hcτ 3 hy25) (by decide) rfl (hts _ wm502) dX4_shift_15 ?_
        refine lv_astore_n (lv' := [(3, .ref (G.2.2.1 3 y25)), (0, .ref (G.2.2.1 4 0)), (1, .ref (G.2.2.1 10 1)), (2, .int xb2)]) hx hb dX4_shift_18 rfl hl (by decide) rfl (fun ls hl => ?_)
        refine lv_aload_n hx hb dX4_shift_19 rfl (lv_at hl 0 rfl) ?_
        refine pgL (C := RX3) (T := TX3) (N := 14) hx hb hts hown hK hw 3 6 y25 (lt_c hcτ 3 hy25) (by decide) rfl rfl inF_X3 (by decide) (v := .ref (G.2.2.1 2 y25)) rfl (hts _ wm482) (fun _ h9 => h9) dX4_shift_20 ?_
        refine lv_astore (lv' := [(4, .ref (G.2.2.1 2 y25)), (3, .ref (G.2.2.1 3 y25)), (0, .ref (G.2.2.1 4 0)), (1, .ref (G.2.2.1 10 1)), (2, .int xb2)]) hx hb dX4_shift_23 hl (by decide) rfl (fun ls hl => ?_)
        refine lv_aload hx hb dX4_shift_25 (lv_at hl 0 rfl) ?_
        refine lv_aload hx hb dX4_shift_27 (lv_at hl 0 rfl) ?_
        obtain ⟨r26, e27, h⟩ := ob1_e h
        refine pcalli (va_runV (As := []) (rest := [.ref (G.2.2.1 2 y25)]) ⟨hx, hb, hml, hown, hts⟩ (c_X2_isBox (l := l) (G := G) (tys := tys) (σ := τ) htys (lt_c hcτ 2 hy25) e27) (cwV 0 hts (gVA wm519 wm520 wm521 wm81 wm522) rfl rfl rfl (by decide +kernel) ⟨(Nat.le_of_ble_eq_true rfl), (Nat.le_of_ble_eq_true rfl)⟩) (pv_preV hA hS hw hK 2 y25 (lt_c hcτ 2 hy25) (by decide) rfl []) rfl rfl hl.1 rfl (lv_room (Nat.le_of_ble_eq_true rfl)) dX4_shift_29 ⟨Nat.zero_le _, Nat.zero_le _⟩) hS (fun r29 s30 H locs hp28 hw hS => ?_)
        obtain ⟨err26, esr26, hzr26⟩ := hp28
        obtain rfl := esr26.symm
        obtain rfl := err26.symm
        refine lv_if_eq (tgt := 48) hx hb dX4_shift_32 (by decide) (fun c31 => ?_) (fun c31 => ?_)
        · skip
          replace h := ite_p c31 h
          refine lv_iconst (v := 0) hx hb dX4_shift_48 (by decide) ?_
          exact blk49 τ xb2 y25 y25 0 y25 hcτ hy25 hy25 hy25 h _ _ hw hS ls (lv_sub hl [2, 3, 4, 1, 0] rfl)
        · skip
          replace h := ite_n c31 h
          refine lv_aload_n hx hb dX4_shift_35 rfl (lv_at hl 2 rfl) ?_
          refine pgL (C := RX4) (T := TX4) (N := 6) hx hb hts hown hK hw 4 0 0 Nat.one_pos (by decide) rfl rfl inF_X4 (by decide) (v := .ref (G.2.2.1 6 0)) rfl (hts _ wm171) (fun _ h9 => h9) dX4_shift_36 ?_
          refine lv_aload_n hx hb dX4_shift_39 rfl (lv_at hl 1 rfl) ?_
          refine lv_bipush (v := 12) hx hb dX4_shift_40 (by decide) ?_
          obtain ⟨r32, e33, h⟩ := ob1_e h
          refine pcalli (va_runV (As := [.ref (G.2.2.1 3 y25), .int 12]) (rest := [.ref (G.2.2.1 2 y25)]) ⟨hx, hb, hml, hown, hts⟩ (c_X6_of (l := l) (G := G) (tys := tys) (σ := τ) htys (show 0 < 2 from by decide) (lt_c hcτ 3 hy25) e33) (cwV 2 hts (gVA wm515 wm473 wm474 wm23 wm475) rfl rfl rfl (by decide +kernel) ⟨(Nat.le_of_ble_eq_true rfl), (Nat.le_of_ble_eq_true rfl)⟩) (pv_preV hA hS hw hK 6 0 (show 0 < 2 from by decide) (by decide) rfl [.ref (G.2.2.1 3 y25), .int 12]) rfl rfl hl.1 rfl (lv_room (Nat.le_of_ble_eq_true rfl)) dX4_shift_42 ⟨Nat.zero_le _, Nat.zero_le _⟩) hS (fun r35 s36 H locs hp34 hw hS => ?_)
          obtain ⟨err32, esr32⟩ := hp34
          obtain rfl := esr32.symm
          obtain rfl := err32.symm
          refine lv_goto (tgt := 49) hx hb dX4_shift_45 (by decide) ?_
          exact blk49 τ xb2 y25 y25 r32 y25 hcτ hy25 hy25 hy25 h _ _ hw hS ls (lv_sub hl [2, 3, 4, 1, 0] rfl)
  refine lv_iconst (v := 0) hx hb dX4_shift_0 (by decide) ?_
  refine lv_istore_n (lv' := [(2, .int 0), (0, .ref (G.2.2.1 4 0)), (1, .ref (G.2.2.1 10 1))]) hx hb dX4_shift_1 rfl hl (by decide) rfl (fun ls hl => ?_)
  exact loop2 fu σ 0 rfl h _ _ hw hS ls (lv_sub hl [1, 2, 0] rfl)
def f_X4_layOut (σ : PvS) (x2 : Int32) : Option PvS :=
  ob1 (f_X0_clear σ) (fun σ2 => ob1 (f_X8_clear σ2) (fun σ8 => nm (pvI σ8 4 4 0 0) (fun σ13 => nm (pvI σ13 4 5 0 0) (fun σ14 => ob1 (f_X4_prepare σ14) (fun σ16 => ob1 (f_X4_findWishes σ16) (fun σ22 => nm (pvI σ22 2 5 0 (σ22.2.1 2 3 0)) (fun σ27 => nm (pvI σ27 2 6 0 (σ27.2.1 2 3 0)) (fun σ28 => ob1 (f_X4_widthOr σ28 0 (x2 - (2 * (σ28.2.1 2 3 0)))) (fun r29 => nm (pvI σ28 2 7 0 r29) (fun σ34 => nm (pvI σ34 1 0 0 (σ34.2.1 3 0 0)) (fun σ35 => ob1 (f_X4_fill 13 σ35 0 0) (fun σ37 => ob1 (f_X4_shift σ37) (fun σ43 => nm (pvI σ43 4 3 0 x2) (fun σ48 => some σ48))))))))))))))
set_option maxHeartbeats 4000000 in
set_option maxRecDepth 100000 in
theorem c_X4_layOut {l : Launch} {G : PvG} {tys : List (ClassId × FieldType)} {σ : PvS} (htys : tys = pvT G)  {x2 : Int32}  {σ1 : PvS} (h : f_X4_layOut σ x2 = some σ1) : Met l yX4_layOut (Cond.code yX4_layOut cX4_layOut 4 none :: WA) ({ frames := 70, cells := 0, slots := 0, locals := 1664 }) (va_Pc [.ref (G.2.2.1 4 0), .ref (G.2.2.1 7 0), .int x2] (pvU G tys σ)) (va_Qv (fun σ' => σ' = σ1 ∧ σ'.1 = σ.1) (pvU G tys) (pvB G)) 0 0 (pvB G) := by
  refine Met.ofW (cc := cX4_layOut) (maxL := 4) (ret := none) (by decide) rfl ?_
  intro p e s m args below meth c s₁ B hml hv
  obtain ⟨rfl, hw, hK, hA⟩ := hv
  have hx := B.exec
  have hb := B.bytes
  have hr := B.returns
  have hts0 := atoms_spec (ws := (Cond.code yX4_layOut cX4_layOut 4 none :: WA)) B.pre
  have hts : ∀ w ∈ WA, w.before _ s = true := fun w h => hts0 w (List.mem_cons_of_mem _ h)
  have hown : s.vm.findClass RX4 = some m.cls := findClass_of_methodNamed B.named
  have hlocks := B.notSynchronized
  have hS : va_S (pvB G) s.heap s.heap [] := va_S.rf
  have hl := lv_entry ([.ref (G.2.2.1 4 0), .ref (G.2.2.1 7 0), .int x2]) (n := 4) (Nat.le_of_ble_eq_true rfl)
  rw [lg_entry_eq]
  generalize (lg_sl ([.ref (G.2.2.1 4 0), .ref (G.2.2.1 7 0), .int x2]) ++ List.replicate (4 - (lg_sl ([.ref (G.2.2.1 4 0), .ref (G.2.2.1 7 0), .int x2])).length) Slot.unset).toArray = ls at hl ⊢
  have hl : lv_has ls 4 [(0, .ref (G.2.2.1 4 0)), (1, .ref (G.2.2.1 7 0)), (2, .int x2)] := hl
  have hroot := pv_root hw
  unfold f_X4_layOut at h
  refine lv_aload_n hx hb dX4_layOut_0 rfl (lv_at hl 0 rfl) ?_
  refine pgL (C := RX4) (T := TX4) (N := 6) hx hb hts hown hK hw 4 1 0 Nat.one_pos (by decide) rfl rfl inF_X4 (by decide) (v := .ref (G.2.2.1 0 0)) rfl (hts _ wm175) (fun _ h9 => h9) dX4_layOut_1 ?_
  obtain ⟨σ2, e3, h⟩ := ob1_e h
  refine pcallv (va_runV (As := []) (rest := []) ⟨hx, hb, hml, hown, hts⟩ (c_X0_clear (l := l) (G := G) (tys := tys) (σ := σ) htys  e3) (cwV 0 hts (gVA wm490 wm491 wm492 wm174 wm493) rfl rfl rfl (by decide +kernel) ⟨(Nat.le_of_ble_eq_true rfl), (Nat.le_of_ble_eq_true rfl)⟩) (pv_preV hA hS hw hK 0 0 Nat.one_pos (by decide) rfl []) rfl rfl hl.1 rfl (lv_room (Nat.le_of_ble_eq_true rfl)) dX4_layOut_4 ⟨Nat.zero_le _, Nat.zero_le _⟩) hS (fun s6 H locs hp4 hw hS => ?_)
  obtain ⟨esσ2, hdσ2⟩ := hp4
  obtain rfl := esσ2.symm
  have hcσ2 : σ2.1 = σ.1 := hdσ2
  refine lv_aload_n hx hb dX4_layOut_7 rfl (lv_at hl 0 rfl) ?_
  refine pgL (C := RX4) (T := TX4) (N := 6) hx hb hts hown hK hw 4 2 0 Nat.one_pos (by decide) rfl rfl inF_X4 (by decide) (v := .ref (G.2.2.1 8 0)) rfl (hts _ wm179) (fun _ h9 => h9) dX4_layOut_8 ?_
  obtain ⟨σ8, e9, h⟩ := ob1_e h
  refine pcallv (va_runV (As := []) (rest := []) ⟨hx, hb, hml, hown, hts⟩ (c_X8_clear (l := l) (G := G) (tys := tys) (σ := σ2) htys  e9) (cwV 0 hts (gVA wm494 wm495 wm496 wm178 wm497) rfl rfl rfl (by decide +kernel) ⟨(Nat.le_of_ble_eq_true rfl), (Nat.le_of_ble_eq_true rfl)⟩) (pv_preV hA hS hw hK 8 0 Nat.one_pos (by decide) rfl []) rfl rfl hl.1 rfl (lv_room (Nat.le_of_ble_eq_true rfl)) dX4_layOut_11 ⟨Nat.zero_le _, Nat.zero_le _⟩) hS (fun s12 H locs hp10 hw hS => ?_)
  obtain ⟨esσ8, hdσ8⟩ := hp10
  obtain rfl := esσ8.symm
  have hcσ8 : σ8.1 = σ.1 := hdσ8.trans hcσ2
  refine lv_aload_n hx hb dX4_layOut_14 rfl (lv_at hl 0 rfl) ?_
  refine lv_iconst (v := 0) hx hb dX4_layOut_15 (by decide) ?_
  obtain ⟨σ13, eσ13, h⟩ := nq_e h
  refine ppI (ty := .int) (C := RX4) (T := TX4) (N := 6) hx hb hts hown hK hw hS 4 4 0 Nat.one_pos (by decide) rfl rfl inF_X4 (by decide) rfl (by decide) tyX4_ok nmX4 (hts _ wm181) (fun _ h9 => h9) rfl (by decide +kernel) rfl rfl dX4_layOut_16 (fun H locs hw hS => ?_)
  rw [← eσ13] at hw
  have hcσ13 : σ13.1 = σ.1 := by rw [eσ13]; exact hcσ8
  refine lv_aload_n hx hb dX4_layOut_19 rfl (lv_at hl 0 rfl) ?_
  refine lv_iconst (v := 0) hx hb dX4_layOut_20 (by decide) ?_
  obtain ⟨σ14, eσ14, h⟩ := nq_e h
  refine ppI (ty := .int) (C := RX4) (T := TX4) (N := 6) hx hb hts hown hK hw hS 4 5 0 Nat.one_pos (by decide) rfl rfl inF_X4 (by decide) rfl (by decide) tyX4_ok nmX4 (hts _ wm182) (fun _ h9 => h9) rfl (by decide +kernel) rfl rfl dX4_layOut_21 (fun H locs hw hS => ?_)
  rw [← eσ14] at hw
  have hcσ14 : σ14.1 = σ.1 := by rw [eσ14]; exact hcσ13
  refine lv_aload_n hx hb dX4_layOut_24 rfl (lv_at hl 0 rfl) ?_
  refine lv_aload_n hx hb dX4_layOut_25 rfl (lv_at hl 1 rfl) ?_
  refine pgL (C := RX7) (T := TX7) (N := 3) hx hb hts hown hK hw 7 1 0 Nat.one_pos (by decide) rfl rfl inF_X7 (by decide) (v := .ref (G.2.2.1 10 1)) rfl (hts _ wm480) (fun _ h9 => h9) dX4_layOut_26 ?_
  obtain ⟨σ16, e17, h⟩ := ob1_e h
  refine pcallv (va_runV (As := [.ref (G.2.2.1 10 1)]) (rest := []) ⟨hx, hb, hml, hown, hts⟩ (c_X4_prepare (l := l) (G := G) (tys := tys) (σ := σ14) htys  e17) (cwV 1 hts (gVA wm498 wm499 wm500 wm17 wm501) rfl rfl rfl (by decide +kernel) ⟨(Nat.le_of_ble_eq_true rfl), (Nat.le_of_ble_eq_true rfl)⟩) (pv_preV hA hS hw hK 4 0 Nat.one_pos (by decide) rfl [.ref (G.2.2.1 10 1)]) rfl rfl hl.1 rfl (lv_room (Nat.le_of_ble_eq_true rfl)) dX4_layOut_29 ⟨Nat.zero_le _, Nat.zero_le _⟩) hS (fun s20 H locs hp18 hw hS => ?_)
  obtain ⟨esσ16, hdσ16⟩ := hp18
  obtain rfl := esσ16.symm
  have hcσ16 : σ16.1 = σ.1 := hdσ16.trans hcσ14
  refine lv_aload_n hx hb dX4_layOut_32 rfl (lv_at hl 0 rfl) ?_
  refine lv_aload_n hx hb dX4_layOut_33 rfl (lv_at hl 1 rfl) ?_
  refine pgL (C := RX7) (T := TX7) (N := 3) hx hb hts hown hK hw 7 1 0 Nat.one_pos (by decide) rfl rfl inF_X7 (by decide) (v := .ref (G.2.2.1 10 1)) rfl (hts _ wm480) (fun _ h9 => h9) dX4_layOut_34 ?_
  obtain ⟨σ22, e23, h⟩ := ob1_e h
  refine pcallv (va_runV (As := [.ref (G.2.2.1 10 1)]) (rest := []) ⟨hx, hb, hml, hown, hts⟩ (c_X4_findWishes (l := l) (G := G) (tys := tys) (σ := σ16) htys  e23) (cwV 1 hts (gVA wm523 wm524 wm525 wm17 wm526) rfl rfl rfl (by decide +kernel) ⟨(Nat.le_of_ble_eq_true rfl), (Nat.le_of_ble_eq_true rfl)⟩) (pv_preV hA hS hw hK 4 0 Nat.one_pos (by decide) rfl [.ref (G.2.2.1 10 1)]) rfl rfl hl.1 rfl (lv_room (Nat.le_of_ble_eq_true rfl)) dX4_layOut_37 ⟨Nat.zero_le _, Nat.zero_le _⟩) hS (fun s26 H locs hp24 hw hS => ?_)
  obtain ⟨esσ22, hdσ22⟩ := hp24
  obtain rfl := esσ22.symm
  have hcσ22 : σ22.1 = σ.1 := hdσ22.trans hcσ16
  refine lv_aload_n hx hb dX4_layOut_40 rfl (lv_at hl 1 rfl) ?_
  refine pgL (C := RX7) (T := TX7) (N := 3) hx hb hts hown hK hw 7 2 0 Nat.one_pos (by decide) rfl rfl inF_X7 (by decide) (v := .ref (G.2.2.1 3 0)) rfl (hts _ wm481) (fun _ h9 => h9) dX4_layOut_41 ?_
  refine pgL (C := RX3) (T := TX3) (N := 14) hx hb hts hown hK hw 3 6 0 (lt_c hcσ22 3 hroot) (by decide) rfl rfl inF_X3 (by decide) (v := .ref (G.2.2.1 2 0)) rfl (hts _ wm482) (fun _ h9 => h9) dX4_layOut_44 ?_
  refine lv_astore_n (lv' := [(3, .ref (G.2.2.1 2 0)), (0, .ref (G.2.2.1 4 0)), (1, .ref (G.2.2.1 7 0)), (2, .int x2)]) hx hb dX4_layOut_47 rfl hl (by decide) rfl (fun ls hl => ?_)
  refine lv_aload_n hx hb dX4_layOut_48 rfl (lv_at hl 0 rfl) ?_
  refine lv_aload_n hx hb dX4_layOut_49 rfl (lv_at hl 0 rfl) ?_
  refine pgI (C := RX2) (T := TX2) (N := 16) hx hb hts hown hK hw 2 3 0 (lt_c hcσ22 2 hroot) (by decide) rfl rfl inF_X2 (by decide) rfl (hts _ wm483) (fun _ h9 => h9) dX4_layOut_50 ?_
  obtain ⟨σ27, eσ27, h⟩ := nq_e h
  refine ppI (ty := .int) (C := RX2) (T := TX2) (N := 16) hx hb hts hown hK hw hS 2 5 0 (lt_c hcσ22 2 hroot) (by decide) rfl rfl inF_X2 (by decide) rfl (by decide) tyX2_ok nmX2 (hts _ wm484) (fun _ h9 => h9) rfl (by decide +kernel) rfl rfl dX4_layOut_53 (fun H locs hw hS => ?_)
  rw [← eσ27] at hw
  have hcσ27 : σ27.1 = σ.1 := by rw [eσ27]; exact hcσ22
  refine lv_aload_n hx hb dX4_layOut_56 rfl (lv_at hl 0 rfl) ?_
  refine lv_aload_n hx hb dX4_layOut_57 rfl (lv_at hl 0 rfl) ?_
  refine pgI (C := RX2) (T := TX2) (N := 16) hx hb hts hown hK hw 2 3 0 (lt_c hcσ27 2 hroot) (by decide) rfl rfl inF_X2 (by decide) rfl (hts _ wm483) (fun _ h9 => h9) dX4_layOut_58 ?_
  obtain ⟨σ28, eσ28, h⟩ := nq_e h
  refine ppI (ty := .int) (C := RX2) (T := TX2) (N := 16) hx hb hts hown hK hw hS 2 6 0 (lt_c hcσ27 2 hroot) (by decide) rfl rfl inF_X2 (by decide) rfl (by decide) tyX2_ok nmX2 (hts _ wm485) (fun _ h9 => h9) rfl (by decide +kernel) rfl rfl dX4_layOut_61 (fun H locs hw hS => ?_)
  rw [← eσ28] at hw
  have hcσ28 : σ28.1 = σ.1 := by rw [eσ28]; exact hcσ27
  refine lv_aload_n hx hb dX4_layOut_64 rfl (lv_at hl 0 rfl) ?_
  refine lv_aload_n hx hb dX4_layOut_65 rfl (lv_at hl 1 rfl) ?_
  refine lv_aload_n hx hb dX4_layOut_66 rfl (lv_at hl 2 rfl) ?_
  refine pgL (C := RX7) (T := TX7) (N := 3) hx hb hts hown hK hw 7 2 0 Nat.one_pos (by decide) rfl rfl inF_X7 (by decide) (v := .ref (G.2.2.1 3 0)) rfl (hts _ wm481) (fun _ h9 => h9) dX4_layOut_67 ?_
  refine lv_iload_n hx hb dX4_layOut_70 rfl (lv_at hl 3 rfl) ?_
  refine lv_iconst (v := 2) hx hb dX4_layOut_71 (by decide) ?_
  refine lv_aload_n hx hb dX4_layOut_72 rfl (lv_at hl 0 rfl) ?_
  refine pgI (C := RX2) (T := TX2) (N := 16) hx hb hts hown hK hw 2 3 0 (lt_c hcσ28 2 hroot) (by decide) rfl rfl inF_X2 (by decide) rfl (hts _ wm483) (fun _ h9 => h9) dX4_layOut_73 ?_
  refine lv_imul hx hb dX4_layOut_76 ?_
  refine lv_isub hx hb dX4_layOut_77 ?_
  obtain ⟨r29, e30, h⟩ := ob1_e h
  refine pcalli (va_runV (As := [.ref (G.2.2.1 3 0), .int (x2 - (2 * (σ28.2.1 2 3 0)))]) (rest := [.ref (G.2.2.1 2 0)]) ⟨hx, hb, hml, hown, hts⟩ (c_X4_widthOr (l := l) (G := G) (tys := tys) (σ := σ28) htys (lt_c hcσ28 3 hroot) e30) (cwV 2 hts (gVA wm534 wm535 wm536 wm17 wm537) rfl rfl rfl (by decide +kernel) ⟨(Nat.le_of_ble_eq_true rfl), (Nat.le_of_ble_eq_true rfl)⟩) (pv_preV hA hS hw hK 4 0 Nat.one_pos (by decide) rfl [.ref (G.2.2.1 3 0), .int (x2 - (2 * (σ28.2.1 2 3 0)))]) rfl rfl hl.1 rfl (lv_room (Nat.le_of_ble_eq_true rfl)) dX4_layOut_78 ⟨Nat.zero_le _, Nat.zero_le _⟩) hS (fun r32 s33 H locs hp31 hw hS => ?_)
  obtain ⟨err29, esr29⟩ := hp31
  obtain rfl := esr29.symm
  obtain rfl := err29.symm
  obtain ⟨σ34, eσ34, h⟩ := nq_e h
  refine ppI (ty := .int) (C := RX2) (T := TX2) (N := 16) hx hb hts hown hK hw hS 2 7 0 (lt_c hcσ28 2 hroot) (by decide) rfl rfl inF_X2 (by decide) rfl (by decide) tyX2_ok nmX2 (hts _ wm486) (fun _ h9 => h9) rfl (by decide +kernel) rfl rfl dX4_layOut_81 (fun H locs hw hS => ?_)
  rw [← eσ34] at hw
  have hcσ34 : σ34.1 = σ.1 := by rw [eσ34]; exact hcσ28
  refine lv_aload_n hx hb dX4_layOut_84 rfl (lv_at hl 2 rfl) ?_
  refine pgL (C := RX7) (T := TX7) (N := 3) hx hb hts hown hK hw 7 2 0 Nat.one_pos (by decide) rfl rfl inF_X7 (by decide) (v := .ref (G.2.2.1 3 0)) rfl (hts _ wm481) (fun _ h9 => h9) dX4_layOut_85 ?_
  refine pgL (C := RX3) (T := TX3) (N := 14) hx hb hts hown hK hw 3 7 0 (lt_c hcσ34 3 hroot) (by decide) rfl rfl inF_X3 (by decide) (v := .ref (G.2.2.1 1 0)) rfl (hts _ wm487) (fun _ h9 => h9) dX4_layOut_88 ?_
  refine lv_aload_n hx hb dX4_layOut_91 rfl (lv_at hl 2 rfl) ?_
  refine pgL (C := RX7) (T := TX7) (N := 3) hx hb hts hown hK hw 7 2 0 Nat.one_pos (by decide) rfl rfl inF_X7 (by decide) (v := .ref (G.2.2.1 3 0)) rfl (hts _ wm481) (fun _ h9 => h9) dX4_layOut_92 ?_
  refine pgI (C := RX3) (T := TX3) (N := 14) hx hb hts hown hK hw 3 0 0 (lt_c hcσ34 3 hroot) (by decide) rfl rfl inF_X3 (by decide) rfl (hts _ wm488) (fun _ h9 => h9) dX4_layOut_95 ?_
  obtain ⟨σ35, eσ35, h⟩ := nq_e h
  refine ppI (ty := .int) (C := RX1) (T := TX1) (N := 5) hx hb hts hown hK hw hS 1 0 0 (lt_c hcσ34 1 hroot) (by decide) rfl rfl inF_X1 (by decide) rfl (by decide) tyX1_ok nmX1 (hts _ wm489) (fun _ h9 => h9) rfl (by decide +kernel) rfl rfl dX4_layOut_98 (fun H locs hw hS => ?_)
  rw [← eσ35] at hw
  have hcσ35 : σ35.1 = σ.1 := by rw [eσ35]; exact hcσ34
  refine lv_aload_n hx hb dX4_layOut_101 rfl (lv_at hl 1 rfl) ?_
  refine lv_aload_n hx hb dX4_layOut_102 rfl (lv_at hl 2 rfl) ?_
  refine pgL (C := RX7) (T := TX7) (N := 3) hx hb hts hown hK hw 7 2 0 Nat.one_pos (by decide) rfl rfl inF_X7 (by decide) (v := .ref (G.2.2.1 3 0)) rfl (hts _ wm481) (fun _ h9 => h9) dX4_layOut_103 ?_
  refine lv_aload_n hx hb dX4_layOut_106 rfl (lv_at hl 2 rfl) ?_
  refine pgL (C := RX7) (T := TX7) (N := 3) hx hb hts hown hK hw 7 1 0 Nat.one_pos (by decide) rfl rfl inF_X7 (by decide) (v := .ref (G.2.2.1 10 1)) rfl (hts _ wm480) (fun _ h9 => h9) dX4_layOut_107 ?_
  refine lv_iconst (v := 0) hx hb dX4_layOut_110 (by decide) ?_
  obtain ⟨σ37, e38, h⟩ := ob1_e h
  refine pcallv (va_runV (As := [.ref (G.2.2.1 3 0), .ref (G.2.2.1 10 1), .int 0]) (rest := []) ⟨hx, hb, hml, hown, hts⟩ (c_X4_fill (l := l) (G := G) (tys := tys) htys 13 (σ := σ35) (lt_c hcσ35 3 hroot) e38) (cwV 3 hts (gVA wm551 wm552 wm553 wm17 wm554) rfl rfl rfl (by decide +kernel) ⟨(Nat.le_of_ble_eq_true rfl), (Nat.le_of_ble_eq_true rfl)⟩) (pv_preV hA hS hw hK 4 0 Nat.one_pos (by decide) rfl [.ref (G.2.2.1 3 0), .ref (G.2.2.1 10 1), .int 0]) rfl rfl hl.1 rfl (lv_room (Nat.le_of_ble_eq_true rfl)) dX4_layOut_111 ⟨Nat.zero_le _, Nat.zero_le _⟩) hS (fun s41 H locs hp39 hw hS => ?_)
  obtain ⟨esσ37, hdσ37⟩ := hp39
  obtain rfl := esσ37.symm
  have hcσ37 : σ37.1 = σ.1 := hdσ37.trans hcσ35
  refine lv_aload_n hx hb dX4_layOut_114 rfl (lv_at hl 1 rfl) ?_
  refine lv_aload_n hx hb dX4_layOut_115 rfl (lv_at hl 2 rfl) ?_
  refine pgL (C := RX7) (T := TX7) (N := 3) hx hb hts hown hK hw 7 1 0 Nat.one_pos (by decide) rfl rfl inF_X7 (by decide) (v := .ref (G.2.2.1 10 1)) rfl (hts _ wm480) (fun _ h9 => h9) dX4_layOut_116 ?_
  obtain ⟨σ43, e44, h⟩ := ob1_e h
  refine pcallv (va_runV (As := [.ref (G.2.2.1 10 1)]) (rest := []) ⟨hx, hb, hml, hown, hts⟩ (c_X4_shift (l := l) (G := G) (tys := tys) (σ := σ37) htys  e44) (cwV 1 hts (gVA wm633 wm634 wm635 wm17 wm636) rfl rfl rfl (by decide +kernel) ⟨(Nat.le_of_ble_eq_true rfl), (Nat.le_of_ble_eq_true rfl)⟩) (pv_preV hA hS hw hK 4 0 Nat.one_pos (by decide) rfl [.ref (G.2.2.1 10 1)]) rfl rfl hl.1 rfl (lv_room (Nat.le_of_ble_eq_true rfl)) dX4_layOut_119 ⟨Nat.zero_le _, Nat.zero_le _⟩) hS (fun s47 H locs hp45 hw hS => ?_)
  obtain ⟨esσ43, hdσ43⟩ := hp45
  obtain rfl := esσ43.symm
  have hcσ43 : σ43.1 = σ.1 := hdσ43.trans hcσ37
  refine lv_aload_n hx hb dX4_layOut_122 rfl (lv_at hl 1 rfl) ?_
  refine lv_iload_n hx hb dX4_layOut_123 rfl (lv_at hl 3 rfl) ?_
  obtain ⟨σ48, eσ48, h⟩ := nq_e h
  refine ppI (ty := .int) (C := RX4) (T := TX4) (N := 6) hx hb hts hown hK hw hS 4 3 0 Nat.one_pos (by decide) rfl rfl inF_X4 (by decide) rfl (by decide) tyX4_ok nmX4 (hts _ wm180) (fun _ h9 => h9) rfl (by decide +kernel) rfl rfl dX4_layOut_124 (fun H locs hw hS => ?_)
  rw [← eσ48] at hw
  have hcσ48 : σ48.1 = σ.1 := by rw [eσ48]; exact hcσ43
  exact pev hx hb hr hlocks hA hw hK hS (psv h hcσ48) dX4_layOut_127
