def f_X9_addRule_42  (τ : PvS) (xb1 : Int32) (xb2 : Int32) (xb3 : Int32) : Option (Int32 × PvS) :=
  if (nI (τ.2.2.2.2 2).length) < 24 then (ob1 (f_X9_forgetWhatWasWorkedOut τ) (fun σ4 => gd (is01 xb3) (nm (pvRule σ4 xb1 xb2 xb3) (fun σ10 => gd ((σ10.2.2.2.2 2).length < 64) (nm (pvL σ10 2 (σ10.2.2.2.2 2 ++ [σ4.1 1])) (fun σ13 => some ((nI (σ13.2.2.2.2 2).length) - 1, σ13))))))) else (none)
def f_X9_addRule (σ : PvS) (x1 : Int32) (x2 : Int32) (x3 : Int32) : Option (Int32 × PvS) :=
  ob1 (f_X9_isProperty σ x1) (fun r19 => if r19 = 0 then (none) else (ob1 (f_X9_isValueOf σ x1 x2) (fun r25 => if r25 = 0 then (if x2 = 9999 then (f_X9_addRule_42 σ x1 x2 x3) else (none)) else (f_X9_addRule_42 σ x1 x2 x3))))
set_option maxHeartbeats 4000000 in
set_option maxRecDepth 100000 in
theorem c_X9_addRule {l : Launch} {G : PvG} {tys : List (ClassId × FieldType)} {σ : PvS} (htys : tys = pvT G)  {x1 : Int32} {x2 : Int32} {x3 : Int32}  {r : Int32} {σ1 : PvS} (h : f_X9_addRule σ x1 x2 x3 = some (r, σ1)) : Met l yX9_addRule (Cond.code yX9_addRule cX9_addRule 4 (some .int) :: WA) ({ frames := 7, cells := 6, slots := 118, locals := 241 }) (va_Pc [.ref (G.2.2.1 9 0), .int x1, .int x2, .int x3] (pvU G tys σ)) (va_Qi (fun r' (u : (Nat → Nat → Nat) × PvS) => r' = r ∧ u.2 = σ1 ∧ pvGr G.2.2.1 u.1 σ u.2) (pvUa G tys) (pvB G)) 6 118 (pvB G) := by
  refine Met.ofW (cc := cX9_addRule) (maxL := 4) (ret := (some .int)) (by decide) rfl ?_
  intro p e s m args below meth c s₁ B hml hv
  obtain ⟨rfl, hw, hK, hA⟩ := hv
  have hx := B.exec
  have hb := B.bytes
  have hr := B.returns
  have hts0 := atoms_spec (ws := (Cond.code yX9_addRule cX9_addRule 4 (some .int) :: WA)) B.pre
  have hts : ∀ w ∈ WA, w.before _ s = true := fun w h => hts0 w (List.mem_cons_of_mem _ h)
  have hown : s.vm.findClass RX9 = some m.cls := findClass_of_methodNamed B.named
  have hlocks := B.notSynchronized
  have hS : va_S (pvB G) s.heap s.heap [] := va_S.rf
  have hl := lv_entry ([.ref (G.2.2.1 9 0), .int x1, .int x2, .int x3]) (n := 4) (Nat.le_of_ble_eq_true rfl)
  rw [lg_entry_eq]
  generalize (lg_sl ([.ref (G.2.2.1 9 0), .int x1, .int x2, .int x3]) ++ List.replicate (4 - (lg_sl ([.ref (G.2.2.1 9 0), .int x1, .int x2, .int x3])).length) Slot.unset).toArray = ls at hl ⊢
  have hl : lv_has ls 4 [(0, .ref (G.2.2.1 9 0)), (1, .int x1), (2, .int x2), (3, .int x3)] := hl
  have hroot := pv_root hw
  unfold f_X9_addRule at h
  have blk42 : ∀ (τ : PvS) (xb1 : Int32) (xb2 : Int32) (xb3 : Int32), (τ.1 = σ.1) → f_X9_addRule_42 τ xb1 xb2 xb3 = some (r, σ1) → ∀ (H : Heap) (locs : List Loc), pvW G τ H → va_S (pvB G) s.heap H locs → ∀ (ls : Array Slot), lv_has ls 4 [(0, .ref (G.2.2.1 9 0)), (1, .int xb1), (2, .int xb2), (3, .int xb3)] → W p l e (headSpec (Cond.code yX9_addRule cX9_addRule 4 (some .int) :: WA) ({ frames := 7, cells := 6, slots := 118, locals := 241 } : Room)).room s m ([.ref (G.2.2.1 9 0), .int x1, .int x2, .int x3] : List Value).toArray below meth c H locs 0 0 (MQ below (va_Qi (fun r' (u : (Nat → Nat → Nat) × PvS) => r' = r ∧ u.2 = σ1 ∧ pvGr G.2.2.1 u.1 σ u.2) (pvUa G tys) (pvB G)) ([.ref (G.2.2.1 9 0), .int x1, .int x2, .int x3] : List Value).toArray s 6 118 (pvB G)) (F0 m 42 ls []) := by
    intro τ xb1 xb2 xb3 hcτ h H locs hw hS ls hl
    unfold f_X9_addRule_42 at h
    refine lv_aload_n hx hb dX9_addRule_42 rfl (lv_at hl 0 rfl) ?_
    refine pgL (C := RX9) (T := TX9) (N := 6) hx hb hts hown hK hw 9 1 0 Nat.one_pos (by decide) rfl rfl inF_X9 (by decide) (v := .ref (G.2.2.1 10 2)) rfl (hts _ wm14) (fun _ h9 => h9) dX9_addRule_43 ?_
    refine pcalli (va_runV (As := []) (rest := []) ⟨hx, hb, hml, hown, hts⟩ (c_lsize (l := l) (G := G) (tys := tys) (σ := τ) (j := 2) (show 2 < τ.1 0 + 3 from Nat.lt_of_lt_of_le (by decide) (Nat.le_add_left 3 _))) (cwV 0 hts (gVA wm327 wm251 wm252 wm13 wm253) rfl rfl rfl (by decide +kernel) ⟨(Nat.le_of_ble_eq_true rfl), (Nat.le_of_ble_eq_true rfl)⟩) (pl_preV hA hS hw hK 2 (show 2 < τ.1 0 + 3 from Nat.lt_of_lt_of_le (by decide) (Nat.le_add_left 3 _)) []) rfl rfl hl.1 rfl (lv_room (Nat.le_of_ble_eq_true rfl)) dX9_addRule_46 ⟨Nat.zero_le _, Nat.zero_le _⟩) hS (fun rz1 sz1 H locs hpz1 hw hS => ?_)
    obtain ⟨rfl, ez1⟩ := hpz1
    obtain rfl := ez1.symm
    refine lv_bipush (v := 24) hx hb dX9_addRule_49 (by decide) ?_
    refine lv_icmp_lt (tgt := 64) hx hb dX9_addRule_51 (by decide) (fun c2 => ?_) (fun c2 => ?_)
    · skip
      replace h := ite_p c2 h
      refine lv_aload_n hx hb dX9_addRule_64 rfl (lv_at hl 0 rfl) ?_
      obtain ⟨σ4, e5, h⟩ := ob1_e h
      refine pcallv (va_runV (As := []) (rest := []) ⟨hx, hb, hml, hown, hts⟩ (c_X9_forgetWhatWasWorkedOut (l := l) (G := G) (tys := tys) (σ := τ) htys  e5) (cwV 0 hts (gVA wm279 wm280 wm281 wm2 wm282) rfl rfl rfl (by decide +kernel) ⟨(Nat.le_of_ble_eq_true rfl), (Nat.le_of_ble_eq_true rfl)⟩) (pv_preV hA hS hw hK 9 0 Nat.one_pos (by decide) rfl []) rfl rfl hl.1 rfl (lv_room (Nat.le_of_ble_eq_true rfl)) dX9_addRule_65 ⟨Nat.zero_le _, Nat.zero_le _⟩) hS (fun s8 H locs hp6 hw hS => ?_)
      obtain ⟨esσ4, hdσ4⟩ := hp6
      obtain rfl := esσ4.symm
      have hcσ4 : σ4.1 = σ.1 := hdσ4.trans hcτ
      refine lv_aload_n hx hb dX9_addRule_68 rfl (lv_at hl 0 rfl) ?_
      refine pgL (C := RX9) (T := TX9) (N := 6) hx hb hts hown hK hw 9 1 0 Nat.one_pos (by decide) rfl rfl inF_X9 (by decide) (v := .ref (G.2.2.1 10 2)) rfl (hts _ wm14) (fun _ h9 => h9) dX9_addRule_69 ?_
      obtain ⟨L, f, hO, hL, hP, hD, hz, hC⟩ := hw
      have hw : yP G (va_pl L f) H := ⟨hP, hD⟩
      refine va_new (D := G.2.1) (ci := 6) (fs := [.int 0, .int 0, .int 0, .null, .null, .null, .null, .int 0, .int 0, .int 0]) (C := RX5) (T := TX5) (N := 10) hx hb hts inF_X5 tyX5 tyX5_ok hown (hts _ wm357) (hts _ wm358) (hts _ wm359) hK hw.1 hw.2 hS hA.1 rfl (fun j hj => by rcases (show j = 0 ∨ j = 1 ∨ j = 2 ∨ j = 3 ∨ j = 4 ∨ j = 5 ∨ j = 6 ∨ j = 7 ∨ j = 8 ∨ j = 9 by omega) with rfl | rfl | rfl | rfl | rfl | rfl | rfl | rfl | rfl | rfl <;> rfl) (Nat.le_of_ble_eq_true rfl) (Nat.le_of_ble_eq_true rfl) dX9_addRule_72 (fun q H hP hD hS => ?_)
      have hw : yP G (va_pl L f ++ [yO q 6 [.int 0, .int 0, .int 0, .null, .null, .null, .null, .int 0, .int 0, .int 0]]) H := ⟨hP, hD⟩
      refine lv_dup hx hb dX9_addRule_75 rfl ?_
      refine lv_iload_n hx hb dX9_addRule_76 rfl (lv_at hl 1 rfl) ?_
      refine lv_iload_n hx hb dX9_addRule_77 rfl (lv_at hl 2 rfl) ?_
      refine lv_iload_n hx hb dX9_addRule_78 rfl (lv_at hl 3 rfl) ?_
      obtain ⟨g9, h⟩ := gd_e h
      refine ycallv (va_runI (As := [.int xb1, .int xb2, .int xb3]) (rest := .ref q :: [.ref (G.2.2.1 10 2)]) ⟨hx, hb, hml, hown, hts⟩ (c_X5_init (l := l) (G := G) (tys := tys) htys (X := va_pl L f ++ [yO q 6 [.int 0, .int 0, .int 0, .null, .null, .null, .null, .int 0, .int 0, .int 0]]) (k := (va_pl L f).length) (a := q) (x := xb1) (y := xb2) (z := xb3) y_last g9) (cwI 3 hts (gNA wm362) rfl rfl rfl (hts _ wm359) (hts _ wm360) (hts _ wm361) rfl (by decide +kernel) ⟨Nat.le_of_ble_eq_true rfl, Nat.le_of_ble_eq_true rfl⟩) (y_pre hA hS hw hK _) rfl rfl hl.1 rfl (lv_room (Nat.le_of_ble_eq_true rfl)) dX9_addRule_79 ⟨Nat.le_of_ble_eq_true rfl, Nat.le_of_ble_eq_true rfl⟩) hS (fun X1 H locs hp hw hS => ?_)
      obtain ⟨q1, q2, q3, q4, rfl⟩ := hp
      rw [y_back] at hw
      obtain ⟨ad, hgr, hq, hw⟩ := pv_addRule hO hL hz hC hw
      obtain ⟨σ10, eσ10, h⟩ := nq_e h
      rw [← eσ10] at hw hgr
      have ea11 : ad 9 0 = G.2.2.1 9 0 := hgr.1.1 9 0 Nat.one_pos
      have ea12 : ad 10 2 = G.2.2.1 10 2 := hgr.1.2 2 (show 2 < σ4.1 0 + 3 from Nat.lt_of_lt_of_le (by decide) (Nat.le_add_left 3 _))
      have hl : lv_has ls 4 [(0, .ref (ad 9 0)), (1, .int xb1), (2, .int xb2), (3, .int xb3)] := by rw [ea11]; exact hl
      refine W.eq (g2 := F0 m 82 ls [.ref (ad 5 (σ4.1 1)), .ref (ad 10 2)]) (congrArg (F0 m 82 ls) (by first | rfl | simp only [ea11, ea12, hq])) ?_
      obtain ⟨G, hGn⟩ : ∃ G2 : PvG, G2 = pvGa G ad := ⟨_, rfl⟩
      rw [← hGn] at hw
      have hA : pvA0 G s s.heap := by rw [hGn]; exact hA
      have hK : va_K G.2.1 pvC tys s := by rw [hGn]; exact hK
      have hS : va_S (pvB G) s.heap H locs := by rw [hGn]; exact hS
      have htys : tys = pvT G := by rw [hGn]; exact htys
      have hl : lv_has ls 4 [(0, .ref (G.2.2.1 9 0)), (1, .int xb1), (2, .int xb2), (3, .int xb3)] := by rw [hGn]; exact hl
      refine W.eq (g2 := F0 m 82 ls [.ref (G.2.2.1 5 (σ4.1 1)), .ref (G.2.2.1 10 2)]) (by rw [hGn]) ?_
      have hroot := pv_root hw
      have hnewσ10 : σ4.1 1 < pvM σ10 5 := by rw [eσ10]; exact Nat.lt_succ_self _
      obtain ⟨g14, h⟩ := gd_e h
      obtain ⟨σ13, eσ13, h⟩ := nq_e h
      refine pcalli (va_runV (As := [.ref (G.2.2.1 5 (σ4.1 1))]) (rest := []) ⟨hx, hb, hml, hown, hts⟩ (c_ladd (l := l) (G := G) (tys := tys) (σ := σ10) htys (j := 2) (show 2 < σ10.1 0 + 3 from Nat.lt_of_lt_of_le (by decide) (Nat.le_add_left 3 _)) (show σ4.1 1 < pvM σ10 (pvK 2) from by rw [show pvK 2 = 5 from rfl]; exact hnewσ10) g14) (cwV 1 hts (gVA wm375 wm117 wm118 wm13 wm119) rfl rfl rfl (by decide +kernel) ⟨(Nat.le_of_ble_eq_true rfl), (Nat.le_of_ble_eq_true rfl)⟩) (pl_preV hA hS hw hK 2 (show 2 < σ10.1 0 + 3 from Nat.lt_of_lt_of_le (by decide) (Nat.le_add_left 3 _)) [.ref (G.2.2.1 5 (σ4.1 1))]) rfl rfl hl.1 rfl (lv_room (Nat.le_of_ble_eq_true rfl)) dX9_addRule_82 ⟨Nat.le_of_ble_eq_true rfl, Nat.le_of_ble_eq_true rfl⟩) hS (fun r16 s17 H locs hp15 hw hS => ?_)
      obtain ⟨erσ13, esσ13⟩ := hp15
      obtain rfl : σ13 = s17 := eσ13.trans esσ13.symm
      subst erσ13
      have hcσ13 : σ13.1 = σ10.1 := by rw [eσ13]; exact rfl
      refine lv_pop hx hb dX9_addRule_85 rfl ?_
      refine lv_aload_n hx hb dX9_addRule_86 rfl (lv_at hl 0 rfl) ?_
      refine pgL (C := RX9) (T := TX9) (N := 6) hx hb hts hown hK hw 9 1 0 Nat.one_pos (by decide) rfl rfl inF_X9 (by decide) (v := .ref (G.2.2.1 10 2)) rfl (hts _ wm14) (fun _ h9 => h9) dX9_addRule_87 ?_
      refine pcalli (va_runV (As := []) (rest := []) ⟨hx, hb, hml, hown, hts⟩ (c_lsize (l := l) (G := G) (tys := tys) (σ := σ13) (j := 2) (show 2 < σ13.1 0 + 3 from Nat.lt_of_lt_of_le (by decide) (Nat.le_add_left 3 _))) (cwV 0 hts (gVA wm327 wm251 wm252 wm13 wm253) rfl rfl rfl (by decide +kernel) ⟨(Nat.le_of_ble_eq_true rfl), (Nat.le_of_ble_eq_true rfl)⟩) (pl_preV hA hS hw hK 2 (show 2 < σ13.1 0 + 3 from Nat.lt_of_lt_of_le (by decide) (Nat.le_add_left 3 _)) []) rfl rfl hl.1 rfl (lv_room (Nat.le_of_ble_eq_true rfl)) dX9_addRule_90 ⟨Nat.le_of_ble_eq_true rfl, Nat.le_of_ble_eq_true rfl⟩) hS (fun rz18 sz18 H locs hpz18 hw hS => ?_)
      obtain ⟨rfl, ez18⟩ := hpz18
      obtain rfl := ez18.symm
      refine lv_iconst (v := 1) hx hb dX9_addRule_93 (by decide) ?_
      refine lv_isub hx hb dX9_addRule_94 ?_
      refine W.widen (k := 6) (n := 118) (Nat.le_of_ble_eq_true rfl) (Nat.le_of_ble_eq_true rfl) ?_
      subst hGn
      cases h
      exact peai hx hb hr hlocks hA hw hK hS ⟨rfl, rfl, pvGr_r hcσ13 (pvGr_c hcσ4 hgr)⟩ dX9_addRule_95
    · skip
      replace h := ite_n c2 h
      cases h
  refine lv_iload_n hx hb dX9_addRule_0 rfl (lv_at hl 1 rfl) ?_
  obtain ⟨r19, e20, h⟩ := ob1_e h
  refine pcalli (va_runS (As := [.int x1]) (rest := []) ⟨hx, hb, hml, hown, hts⟩ (c_X9_isProperty (l := l) (G := G) (tys := tys) (σ := σ) htys  e20) (va_cwS 1 hts (gSA wm337 wm338 wm2 wm339) rfl rfl rfl (by decide +kernel) ⟨(Nat.le_of_ble_eq_true rfl), (Nat.le_of_ble_eq_true rfl)⟩) (pv_preS hA hS hw hK [.int x1]) rfl rfl hl.1 rfl (lv_room (Nat.le_of_ble_eq_true rfl)) dX9_addRule_1 ⟨Nat.zero_le _, Nat.zero_le _⟩) hS (fun r22 s23 H locs hp21 hw hS => ?_)
  obtain ⟨err19, esr19, hzr19⟩ := hp21
  obtain rfl := esr19.symm
  obtain rfl := err19.symm
  refine lv_if_ne (tgt := 17) hx hb dX9_addRule_4 (by decide) (fun c24 => ?_) (fun c24 => ?_)
  · skip
    replace h := ite_n c24 h
    refine lv_iload_n hx hb dX9_addRule_17 rfl (lv_at hl 1 rfl) ?_
    refine lv_iload_n hx hb dX9_addRule_18 rfl (lv_at hl 2 rfl) ?_
    obtain ⟨r25, e26, h⟩ := ob1_e h
    refine pcalli (va_runS (As := [.int x1, .int x2]) (rest := []) ⟨hx, hb, hml, hown, hts⟩ (c_X9_isValueOf (l := l) (G := G) (tys := tys) (σ := σ) htys  e26) (va_cwS 2 hts (gSA wm340 wm341 wm2 wm342) rfl rfl rfl (by decide +kernel) ⟨(Nat.le_of_ble_eq_true rfl), (Nat.le_of_ble_eq_true rfl)⟩) (pv_preS hA hS hw hK [.int x1, .int x2]) rfl rfl hl.1 rfl (lv_room (Nat.le_of_ble_eq_true rfl)) dX9_addRule_19 ⟨Nat.zero_le _, Nat.zero_le _⟩) hS (fun r28 s29 H locs hp27 hw hS => ?_)
    obtain ⟨err25, esr25, hzr25⟩ := hp27
    obtain rfl := esr25.symm
    obtain rfl := err25.symm
    refine lv_if_ne (tgt := 42) hx hb dX9_addRule_22 (by decide) (fun c30 => ?_) (fun c30 => ?_)
    · skip
      replace h := ite_n c30 h
      exact blk42 σ x1 x2 x3 rfl h _ _ hw hS ls (lv_sub hl [0, 1, 2, 3] rfl)
    · skip
      replace h := ite_p c30 h
      refine lv_iload_n hx hb dX9_addRule_25 rfl (lv_at hl 2 rfl) ?_
      refine lv_sipush (v := 9999) hx hb dX9_addRule_26 (by decide) ?_
      refine lv_icmp_eq (tgt := 42) hx hb dX9_addRule_29 (by decide) (fun c31 => ?_) (fun c31 => ?_)
      · skip
        replace h := ite_p c31 h
        exact blk42 σ x1 x2 x3 rfl h _ _ hw hS ls (lv_sub hl [0, 1, 2, 3] rfl)
      · skip
        replace h := ite_n c31 h
        cases h
  · skip
    replace h := ite_p c24 h
    cases h
