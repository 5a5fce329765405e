def f_L_below (σ : PvS) (x0 : Int32) (x1 : Int32) : Option Int32 :=
  gd (¬ x1 = 0) (some ((x0 &&& 2147483647) - (x0 &&& 2147483647) / x1 * x1))
set_option maxHeartbeats 4000000 in
set_option maxRecDepth 100000 in
theorem c_L_below {l : Launch} {G : PvG} {tys : List (ClassId × FieldType)} {σ : PvS} (htys : tys = pvT G)  {x0 : Int32} {x1 : Int32}  {r : Int32} (h : f_L_below σ x0 x1 = some r) : Met l yL_below (Cond.code yL_below cL_below 2 (some .int) :: WA) ({ frames := 0, cells := 0, slots := 0, locals := 0 }) (va_Pc [.int x0, .int x1] (pvU G tys σ)) (va_Qi (fun r' σ' => r' = r ∧ σ' = σ) (pvU G tys) (pvB G)) 0 0 (pvB G) := by
  refine Met.ofW (cc := cL_below) (maxL := 2) (ret := (some .int)) (by decide) rfl ?_
  intro p e s m args below meth c s₁ B hml hv
  obtain ⟨rfl, hw, hK, hA⟩ := hv
  have hx := B.exec
  have hb := B.bytes
  have hr := B.returns
  have hts0 := atoms_spec (ws := (Cond.code yL_below cL_below 2 (some .int) :: WA)) B.pre
  have hts : ∀ w ∈ WA, w.before _ s = true := fun w h => hts0 w (List.mem_cons_of_mem _ h)
  have hown : s.vm.findClass RL = some m.cls := findClass_of_methodNamed B.named
  have hlocks := B.notSynchronized
  have hS : va_S (pvB G) s.heap s.heap [] := va_S.rf
  have hl := lv_entry ([.int x0, .int x1]) (n := 2) (Nat.le_of_ble_eq_true rfl)
  rw [lg_entry_eq]
  generalize (lg_sl ([.int x0, .int x1]) ++ List.replicate (2 - (lg_sl ([.int x0, .int x1])).length) Slot.unset).toArray = ls at hl ⊢
  have hl : lv_has ls 2 [(0, .int x0), (1, .int x1)] := hl
  have hroot := pv_root hw
  unfold f_L_below at h
  refine lv_iload_n hx hb dL_below_0 rfl (lv_at hl 0 rfl) ?_
  refine lv_ldc (v := 2147483647) hx hb hown (hts _ wm222) dL_below_1 ?_
  refine lv_iand hx hb dL_below_3 ?_
  refine lv_iload_n hx hb dL_below_4 rfl (lv_at hl 1 rfl) ?_
  obtain ⟨g1, h⟩ := gd_e h
  refine lv_irem hx hb dL_below_5 g1 ?_
  exact pei hx hb hr hlocks hA hw hK hS ⟨Option.some.inj h, rfl⟩ dL_below_6
def f_L_isSound_462 (k4 : PvS → Int32 → Int32 → Option (Int32 × PvS)) (k331 : PvS → Int32 → Int32 → Int32 → Option (Int32 × PvS)) (τ : PvS) (xb1 : Int32) (xb2 : Int32) (xb5 : Int32) (xbs0 : Int32) (xbs1 : Int32) : Option (Int32 × PvS) :=
  if xbs1 = xbs0 then (k331 τ xb1 xb2 (xb5 + 1)) else (some (0, τ))
def f_L_isSound_445 (k4 : PvS → Int32 → Int32 → Option (Int32 × PvS)) (k331 : PvS → Int32 → Int32 → Int32 → Option (Int32 × PvS)) (τ : PvS) (xb1 : Int32) (xb2 : Int32) (xb5 : Int32) (xbs0 : Int32) : Option (Int32 × PvS) :=
  f_L_isSound_462 k4 k331 τ xb1 xb2 xb5 (-1) xbs0
def f_L_isSound_410 (k4 : PvS → Int32 → Int32 → Option (Int32 × PvS)) (k331 : PvS → Int32 → Int32 → Int32 → Option (Int32 × PvS)) (τ : PvS) (xb1 : Int32) (xb2 : Int32) (xb5 : Int32) (xb6 : Int32) : Option (Int32 × PvS) :=
  if xb6 = (-3) then (ob2 (f_X9_styleOf τ xb2 xb5) (fun r3 σ4 => if xb5 = 0 then (f_L_isSound_462 k4 k331 σ4 xb1 xb2 xb5 1 r3) else (if xb5 = 1 then (f_L_isSound_445 k4 k331 σ4 xb1 xb2 xb5 r3) else (if xb5 = 2 then (f_L_isSound_445 k4 k331 σ4 xb1 xb2 xb5 r3) else (if xb5 = 9 then (f_L_isSound_462 k4 k331 σ4 xb1 xb2 xb5 8 r3) else (f_L_isSound_462 k4 k331 σ4 xb1 xb2 xb5 0 r3)))))) else (k331 τ xb1 xb2 (xb5 + 1))
def f_L_isSound_378 (k4 : PvS → Int32 → Int32 → Option (Int32 × PvS)) (k331 : PvS → Int32 → Int32 → Int32 → Option (Int32 × PvS)) (τ : PvS) (xb1 : Int32) (xb2 : Int32) (xb5 : Int32) (xb6 : Int32) : Option (Int32 × PvS) :=
  if xb6 = (-2) then (if xb2 = 0 then (some (0, τ)) else (ob2 (f_X9_styleOf τ xb2 xb5) (fun r15 σ16 => ob1 (f_X9_parent σ16 xb2) (fun r21 => ob2 (f_X9_styleOf σ16 r21 xb5) (fun r26 σ27 => if r15 = r26 then (f_L_isSound_410 k4 k331 σ27 xb1 xb2 xb5 xb6) else (some (0, σ27))))))) else (f_L_isSound_410 k4 k331 τ xb1 xb2 xb5 xb6)
def f_L_isSound_331 (k4 : PvS → Int32 → Int32 → Option (Int32 × PvS)) : Nat → PvS → Int32 → Int32 → Int32 → Option (Int32 × PvS)
  | 0, _, _, _, _ => none
  | n + 1, τ, xb1, xb2, xb5 => if 14 ≤ xb5 then (k4 τ xb1 (xb2 + 1)) else (ob2 (f_X9_because τ xb2 xb5) (fun r34 σ35 => if r34 < (-3) then (some (0, σ35)) else (ob1 (f_X9_rules σ35) (fun r41 => if r41 ≤ r34 then (some (0, σ35)) else (if r34 < 0 then (f_L_isSound_378 k4 (f_L_isSound_331 k4 n) σ35 xb1 xb2 xb5 r34) else (ob1 (f_X9_matches σ35 r34 xb2) (fun r48 => if r48 = 0 then (some (0, σ35)) else (f_L_isSound_378 k4 (f_L_isSound_331 k4 n) σ35 xb1 xb2 xb5 r34))))))))
theorem f_L_isSound_331_z {k4 : PvS → Int32 → Int32 → Option (Int32 × PvS)} {τ : PvS} {xb1 : Int32} {xb2 : Int32} {xb5 : Int32} : f_L_isSound_331 k4 0 τ xb1 xb2 xb5 = none := rfl
theorem f_L_isSound_331_s {n : Nat} {k4 : PvS → Int32 → Int32 → Option (Int32 × PvS)} {τ : PvS} {xb1 : Int32} {xb2 : Int32} {xb5 : Int32} : f_L_isSound_331 k4 (n + 1) τ xb1 xb2 xb5 = if 14 ≤ xb5 then (k4 τ xb1 (xb2 + 1)) else (ob2 (f_X9_because τ xb2 xb5) (fun r34 σ35 => if r34 < (-3) then (some (0, σ35)) else (ob1 (f_X9_rules σ35) (fun r41 => if r41 ≤ r34 then (some (0, σ35)) else (if r34 < 0 then (f_L_isSound_378 k4 (f_L_isSound_331 k4 n) σ35 xb1 xb2 xb5 r34) else (ob1 (f_X9_matches σ35 r34 xb2) (fun r48 => if r48 = 0 then (some (0, σ35)) else (f_L_isSound_378 k4 (f_L_isSound_331 k4 n) σ35 xb1 xb2 xb5 r34)))))))) := rfl
def f_L_isSound_247 (k4 : PvS → Int32 → Int32 → Option (Int32 × PvS)) : Nat → PvS → Int32 → Int32 → Int32 → Int32 → Option (Int32 × PvS)
  | 0, _, _, _, _, _ => none
  | n + 1, τ, xb1, xb2, xb4, xb5 => ob1 (f_X9_size τ xb2) (fun r54 => if r54 ≤ xb5 then (if xb4 = 0 then (f_L_isSound_331 k4 fu τ xb1 xb2 0) else (ob2 (f_X9_scrolled τ xb2) (fun r61 σ62 => if r61 ≤ 0 then (f_L_isSound_331 k4 fu σ62 xb1 xb2 0) else (ob2 (f_X9_styleOf σ62 xb2 11) (fun r68 σ69 => if r68 = 1 then (ob2 (f_X9_scrolled σ69 xb2) (fun r75 σ76 => ob2 (f_X9_reachOf σ76 xb2) (fun r81 σ82 => if r81 < r75 then (some (0, σ82)) else (ob2 (f_X9_styleOf σ82 xb2 2) (fun r88 σ89 => if 0 ≤ r88 then (f_L_isSound_331 k4 fu σ89 xb1 xb2 0) else (some (0, σ89))))))) else (some (0, σ69))))))) else (ob1 (f_X9_childAt τ xb2 xb5) (fun r95 => ob1 (f_X9_parent τ r95) (fun r100 => if r100 = xb2 then (f_L_isSound_247 k4 n τ xb1 xb2 xb4 (xb5 + 1)) else (some (0, τ))))))
theorem f_L_isSound_247_z {k4 : PvS → Int32 → Int32 → Option (Int32 × PvS)} {τ : PvS} {xb1 : Int32} {xb2 : Int32} {xb4 : Int32} {xb5 : Int32} : f_L_isSound_247 k4 0 τ xb1 xb2 xb4 xb5 = none := rfl
theorem f_L_isSound_247_s {n : Nat} {k4 : PvS → Int32 → Int32 → Option (Int32 × PvS)} {τ : PvS} {xb1 : Int32} {xb2 : Int32} {xb4 : Int32} {xb5 : Int32} : f_L_isSound_247 k4 (n + 1) τ xb1 xb2 xb4 xb5 = ob1 (f_X9_size τ xb2) (fun r54 => if r54 ≤ xb5 then (if xb4 = 0 then (f_L_isSound_331 k4 fu τ xb1 xb2 0) else (ob2 (f_X9_scrolled τ xb2) (fun r61 σ62 => if r61 ≤ 0 then (f_L_isSound_331 k4 fu σ62 xb1 xb2 0) else (ob2 (f_X9_styleOf σ62 xb2 11) (fun r68 σ69 => if r68 = 1 then (ob2 (f_X9_scrolled σ69 xb2) (fun r75 σ76 => ob2 (f_X9_reachOf σ76 xb2) (fun r81 σ82 => if r81 < r75 then (some (0, σ82)) else (ob2 (f_X9_styleOf σ82 xb2 2) (fun r88 σ89 => if 0 ≤ r88 then (f_L_isSound_331 k4 fu σ89 xb1 xb2 0) else (some (0, σ89))))))) else (some (0, σ69))))))) else (ob1 (f_X9_childAt τ xb2 xb5) (fun r95 => ob1 (f_X9_parent τ r95) (fun r100 => if r100 = xb2 then (f_L_isSound_247 k4 n τ xb1 xb2 xb4 (xb5 + 1)) else (some (0, τ)))))) := rfl
def f_L_isSound_206 (k4 : PvS → Int32 → Int32 → Option (Int32 × PvS)) (τ : PvS) (xb1 : Int32) (xb2 : Int32) (xb4 : Int32) (xbs0 : Int32) (xbs1 : Int32) : Option (Int32 × PvS) :=
  if xbs1 = xbs0 then (ob1 (f_X9_isText τ xb2) (fun r107 => if r107 = 0 then (f_L_isSound_247 k4 fu τ xb1 xb2 xb4 0) else (ob2 (f_X9_seen τ xb2) (fun r113 σ114 => ob1 (f_X9_size σ114 xb2) (fun r119 => if r119 < r113 then (some (0, σ114)) else (ob1 (f_X9_size σ114 xb2) (fun r125 => if r125 ≤ 20 then (k4 σ114 xb1 (xb2 + 1)) else (some (0, σ114))))))))) else (some (0, τ))
def f_L_isSound_197 (k4 : PvS → Int32 → Int32 → Option (Int32 × PvS)) (τ : PvS) (xb1 : Int32) (xb2 : Int32) (xb4 : Int32) (xbs0 : Int32) : Option (Int32 × PvS) :=
  if xb2 = 0 then (f_L_isSound_206 k4 τ xb1 xb2 xb4 1 xbs0) else (f_L_isSound_206 k4 τ xb1 xb2 xb4 0 xbs0)
def f_L_isSound_184 (k4 : PvS → Int32 → Int32 → Option (Int32 × PvS)) (τ : PvS) (xb1 : Int32) (xb2 : Int32) (xb4 : Int32) : Option (Int32 × PvS) :=
  ob1 (f_X9_parent τ xb2) (fun r132 => if 0 ≤ r132 then (f_L_isSound_197 k4 τ xb1 xb2 xb4 0) else (f_L_isSound_197 k4 τ xb1 xb2 xb4 1))
def f_L_isSound_164 (k4 : PvS → Int32 → Int32 → Option (Int32 × PvS)) (τ : PvS) (xb1 : Int32) (xb2 : Int32) (xb4 : Int32) : Option (Int32 × PvS) :=
  ob1 (f_X9_parent τ xb2) (fun r138 => if r138 < 0 then (f_L_isSound_184 k4 τ xb1 xb2 xb4) else (ob1 (f_X9_parent τ xb2) (fun r144 => ob1 (f_X9_isThere τ r144) (fun r149 => if r149 = 0 then (some (0, τ)) else (f_L_isSound_184 k4 τ xb1 xb2 xb4)))))
def f_L_isSound_138 (k4 : PvS → Int32 → Int32 → Option (Int32 × PvS)) (τ : PvS) (xb1 : Int32) (xb2 : Int32) (xb4 : Int32) (xbs0 : Int32) (xbs1 : Int32) : Option (Int32 × PvS) :=
  if xbs1 = xbs0 then (if xb4 = 0 then (ob2 (f_X9_lines τ xb2) (fun r157 σ158 => if r157 = 0 then (ob2 (f_X9_scrolled σ158 xb2) (fun r164 σ165 => if r164 = 0 then (f_L_isSound_164 k4 σ165 xb1 xb2 xb4) else (some (0, σ165)))) else (some (0, σ158)))) else (f_L_isSound_164 k4 τ xb1 xb2 xb4)) else (some (0, τ))
def f_L_isSound_117 (k4 : PvS → Int32 → Int32 → Option (Int32 × PvS)) (τ : PvS) (xb1 : Int32) (xb2 : Int32) (xb4 : Int32) (xbs0 : Int32) (xbs1 : Int32) : Option (Int32 × PvS) :=
  if xbs1 = xbs0 then (ob2 (f_X9_xOf τ xb2) (fun r172 σ173 => if r172 = (-9999) then (f_L_isSound_138 k4 σ173 xb1 xb2 xb4 0 xb4) else (f_L_isSound_138 k4 σ173 xb1 xb2 xb4 1 xb4))) else (some (0, τ))
def f_L_isSound_99 (k4 : PvS → Int32 → Int32 → Option (Int32 × PvS)) (τ : PvS) (xb1 : Int32) (xb2 : Int32) (xb4 : Int32) (xbs0 : Int32) (xbs1 : Int32) : Option (Int32 × PvS) :=
  if xbs1 = xbs0 then (ob2 (f_X9_reachOf τ xb2) (fun r180 σ181 => if r180 < 0 then (f_L_isSound_117 k4 σ181 xb1 xb2 xb4 0 xb4) else (f_L_isSound_117 k4 σ181 xb1 xb2 xb4 1 xb4))) else (some (0, τ))
def f_L_isSound_81 (k4 : PvS → Int32 → Int32 → Option (Int32 × PvS)) (τ : PvS) (xb1 : Int32) (xb2 : Int32) (xb4 : Int32) (xbs0 : Int32) (xbs1 : Int32) : Option (Int32 × PvS) :=
  if xbs1 = xbs0 then (ob2 (f_X9_highOf τ xb2) (fun r188 σ189 => if r188 < 0 then (f_L_isSound_99 k4 σ189 xb1 xb2 xb4 0 xb4) else (f_L_isSound_99 k4 σ189 xb1 xb2 xb4 1 xb4))) else (some (0, τ))
def f_L_isSound_66 (k4 : PvS → Int32 → Int32 → Option (Int32 × PvS)) (τ : PvS) (xb1 : Int32) (xb2 : Int32) (xb4 : Int32) : Option (Int32 × PvS) :=
  ob2 (f_X9_wideOf τ xb2) (fun r195 σ196 => if r195 < 0 then (f_L_isSound_81 k4 σ196 xb1 xb2 xb4 0 xb4) else (f_L_isSound_81 k4 σ196 xb1 xb2 xb4 1 xb4))
def f_L_isSound_59 (k4 : PvS → Int32 → Int32 → Option (Int32 × PvS)) (τ : PvS) (xb1 : Int32) (xb2 : Int32) (xb3 : Int32) (xb4 : Int32) (xbs0 : Int32) (xbs1 : Int32) : Option (Int32 × PvS) :=
  if xbs1 = xbs0 then (f_L_isSound_66 k4 τ xb1 xb2 xb4) else (if xb3 = 0 then (f_L_isSound_66 k4 τ xb1 xb2 xb4) else (some (0, τ)))
def f_L_isSound_42 (k4 : PvS → Int32 → Int32 → Option (Int32 × PvS)) (τ : PvS) (xb1 : Int32) (xb2 : Int32) (xb3 : Int32) (xbs0 : Int32) : Option (Int32 × PvS) :=
  ob1 (f_X9_isText τ xb2) (fun r204 => if xb3 = 1 then (f_L_isSound_59 k4 τ xb1 xb2 xb3 xbs0 1 r204) else (f_L_isSound_59 k4 τ xb1 xb2 xb3 xbs0 0 r204))
def f_L_isSound_4  : Nat → PvS → Int32 → Int32 → Option (Int32 × PvS)
  | 0, _, _, _ => none
  | n + 1, τ, xb1, xb2 => ob1 (f_X9_added τ) (fun r210 => if r210 ≤ xb2 then (ob1 (f_X9_nodes τ) (fun r216 => if xb1 = r216 then (ob2 (f_X9_pageHeight τ) (fun r222 σ223 => if r222 < 0 then (some (0, σ223)) else (ob2 (f_X9_meanLine σ223) (fun r229 σ230 => if (Op.cmpValue (FP.dcmp r229 FP.dconst0) CmpOp.l) < 0 then (some (0, σ230)) else (some (1, σ230)))))) else (some (0, τ)))) else (ob1 (f_X9_isThere τ xb2) (fun r236 => if r236 = 0 then (f_L_isSound_4 n τ xb1 (xb2 + 1)) else (ob2 (f_X9_sortOf τ xb2) (fun r242 σ243 => if r242 ≤ 2 then (f_L_isSound_42 (f_L_isSound_4 n) σ243 (xb1 + 1) xb2 r242 0) else (f_L_isSound_42 (f_L_isSound_4 n) σ243 (xb1 + 1) xb2 r242 1))))))
theorem f_L_isSound_4_z {τ : PvS} {xb1 : Int32} {xb2 : Int32} : f_L_isSound_4 0 τ xb1 xb2 = none := rfl
theorem f_L_isSound_4_s {n : Nat} {τ : PvS} {xb1 : Int32} {xb2 : Int32} : f_L_isSound_4 (n + 1) τ xb1 xb2 = ob1 (f_X9_added τ) (fun r210 => if r210 ≤ xb2 then (ob1 (f_X9_nodes τ) (fun r216 => if xb1 = r216 then (ob2 (f_X9_pageHeight τ) (fun r222 σ223 => if r222 < 0 then (some (0, σ223)) else (ob2 (f_X9_meanLine σ223) (fun r229 σ230 => if (Op.cmpValue (FP.dcmp r229 FP.dconst0) CmpOp.l) < 0 then (some (0, σ230)) else (some (1, σ230)))))) else (some (0, τ)))) else (ob1 (f_X9_isThere τ xb2) (fun r236 => if r236 = 0 then (f_L_isSound_4 n τ xb1 (xb2 + 1)) else (ob2 (f_X9_sortOf τ xb2) (fun r242 σ243 => if r242 ≤ 2 then (f_L_isSound_42 (f_L_isSound_4 n) σ243 (xb1 + 1) xb2 r242 0) else (f_L_isSound_42 (f_L_isSound_4 n) σ243 (xb1 + 1) xb2 r242 1)))))) := rfl
def f_L_isSound (σ : PvS)  : Option (Int32 × PvS) :=
  f_L_isSound_4 fu σ 0 0
set_option maxHeartbeats 4000000 in
set_option maxRecDepth 100000 in
theorem c_L_isSound {l : Launch} {G : PvG} {tys : List (ClassId × FieldType)} {σ : PvS} (htys : tys = pvT G)    {r : Int32} {σ1 : PvS} (h : f_L_isSound σ = some (r, σ1)) : Met l yL_isSound (Cond.code yL_isSound cL_isSound 7 (some .boolean) :: WA) ({ frames := 73, cells := 0, slots := 0, locals := 1732 }) (va_Pc [.ref (G.2.2.1 9 0)] (pvU G tys σ)) (va_Qi (fun r' σ' => r' = r ∧ σ' = σ1 ∧ σ'.1 = σ.1 ∧ is01 r') (pvU G tys) (pvB G)) 0 0 (pvB G) := by
  refine Met.ofW (cc := cL_isSound) (maxL := 7) (ret := (some .boolean)) (by decide) rfl ?_
  intro p e s m args below meth c s₁ B hml hv
  obtain ⟨rfl, hw, hK, hA⟩ := hv
  have hx := B.exec
  have hb := B.bytes
  have hr := B.returns
  have hts0 := atoms_spec (ws := (Cond.code yL_isSound cL_isSound 7 (some .boolean) :: WA)) B.pre
  have hts : ∀ w ∈ WA, w.before _ s = true := fun w h => hts0 w (List.mem_cons_of_mem _ h)
  have hown : s.vm.findClass RL = some m.cls := findClass_of_methodNamed B.named
  have hlocks := B.notSynchronized
  have hS : va_S (pvB G) s.heap s.heap [] := va_S.rf
  have hl := lv_entry ([.ref (G.2.2.1 9 0)]) (n := 7) (Nat.le_of_ble_eq_true rfl)
  rw [lg_entry_eq]
  generalize (lg_sl ([.ref (G.2.2.1 9 0)]) ++ List.replicate (7 - (lg_sl ([.ref (G.2.2.1 9 0)])).length) Slot.unset).toArray = ls at hl ⊢
  have hl : lv_has ls 7 [(0, .ref (G.2.2.1 9 0))] := hl
  have hroot := pv_root hw
  unfold f_L_isSound at h
  have loop4 : ∀ (n : Nat) (τ : PvS) (xb1 : Int32) (xb2 : Int32), (τ.1 = σ.1) → f_L_isSound_4 n τ xb1 xb2 = some (r, σ1) → ∀ (H : Heap) (locs : List Loc), pvW G τ H → va_S (pvB G) s.heap H locs → ∀ (ls : Array Slot), lv_has ls 7 [(0, .ref (G.2.2.1 9 0)), (1, .int xb1), (2, .int xb2)] → W p l e (headSpec (Cond.code yL_isSound cL_isSound 7 (some .boolean) :: WA) ({ frames := 73, cells := 0, slots := 0, locals := 1732 } : Room)).room s m ([.ref (G.2.2.1 9 0)] : List Value).toArray below meth c H locs 0 0 (MQ below (va_Qi (fun r' σ' => r' = r ∧ σ' = σ1 ∧ σ'.1 = σ.1 ∧ is01 r') (pvU G tys) (pvB G)) ([.ref (G.2.2.1 9 0)] : List Value).toArray s 0 0 (pvB G)) (F0 m 4 ls []) := by
    intro n4
    induction n4 with
    | zero =>
      intro τ xb1 xb2 hcτ h
      rw [f_L_isSound_4_z] at h
      cases h
    | succ n4 ih4 =>
      have loop331 : ∀ (n : Nat) (τ : PvS) (xb1 : Int32) (xb2 : Int32) (xb5 : Int32), (τ.1 = σ.1) → f_L_isSound_331 (f_L_isSound_4 n4) n τ xb1 xb2 xb5 = some (r, σ1) → ∀ (H : Heap) (locs : List Loc), pvW G τ H → va_S (pvB G) s.heap H locs → ∀ (ls : Array Slot), lv_has ls 7 [(0, .ref (G.2.2.1 9 0)), (1, .int xb1), (2, .int xb2), (5, .int xb5)] → W p l e (headSpec (Cond.code yL_isSound cL_isSound 7 (some .boolean) :: WA) ({ frames := 73, cells := 0, slots := 0, locals := 1732 } : Room)).room s m ([.ref (G.2.2.1 9 0)] : List Value).toArray below meth c H locs 0 0 (MQ below (va_Qi (fun r' σ' => r' = r ∧ σ' = σ1 ∧ σ'.1 = σ.1 ∧ is01 r') (pvU G tys) (pvB G)) ([.ref (G.2.2.1 9 0)] : List Value).toArray s 0 0 (pvB G)) (F0 m 331 ls []) := by
        intro n331
        induction n331 with
        | zero =>
          intro τ xb1 xb2 xb5 hcτ h
          rw [f_L_isSound_331_z] at h
          cases h
        | succ n331 ih331 =>
          have blk462 : ∀ (τ : PvS) (xb1 : Int32) (xb2 : Int32) (xb5 : Int32) (xbs0 : Int32) (xbs1 : Int32), (τ.1 = σ.1) → f_L_isSound_462 (f_L_isSound_4 n4) (f_L_isSound_331 (f_L_isSound_4 n4) n331) τ xb1 xb2 xb5 xbs0 xbs1 = some (r, σ1) → ∀ (H : Heap) (locs : List Loc), pvW G τ H → va_S (pvB G) s.heap H locs → ∀ (ls : Array Slot), lv_has ls 7 [(0, .ref (G.2.2.1 9 0)), (1, .int xb1), (2, .int xb2), (5, .int xb5)] → W p l e (headSpec (Cond.code yL_isSound cL_isSound 7 (some .boolean) :: WA) ({ frames := 73, cells := 0, slots := 0, locals := 1732 } : Room)).room s m ([.ref (G.2.2.1 9 0)] : List Value).toArray below meth c H locs 0 0 (MQ below (va_Qi (fun r' σ' => r' = r ∧ σ' = σ1 ∧ σ'.1 = σ.1 ∧ is01 r') (pvU G tys) (pvB G)) ([.ref (G.2.2.1 9 0)] : List Value).toArray s 0 0 (pvB G)) (F0 m 462 ls [.int xbs0, .int xbs1]) := by
            intro τ xb1 xb2 xb5 xbs0 xbs1 hcτ h H locs hw hS ls hl
            unfold f_L_isSound_462 at h
            refine lv_icmp_eq (tgt := 467) hx hb dL_isSound_462 (by decide) (fun c1 => ?_) (fun c1 => ?_)
            · skip
              replace h := ite_p c1 h
              refine lv_iinc (v := xb5 + 1) (lv' := [(5, .int (xb5 + 1)), (0, .ref (G.2.2.1 9 0)), (1, .int xb1), (2, .int xb2)]) hx hb dL_isSound_467 hl (k := 3) rfl (by rfl) (by decide) rfl (fun ls hl => ?_)
              refine lv_goto (tgt := 331) hx hb dL_isSound_470 (by decide) ?_
              exact ih331 τ xb1 xb2 (xb5 + 1) hcτ h _ _ hw hS ls (lv_sub hl [1, 2, 3, 0] rfl)
            · skip
              replace h := ite_n c1 h
              refine lv_iconst (v := 0) hx hb dL_isSound_465 (by decide) ?_
              exact pez hx hb hr (is01_nar (Or.inl rfl)) hlocks hA hw hK hS ⟨(pst h hcτ).1, (pst h hcτ).2.1, (pst h hcτ).2.2, (Or.inl rfl)⟩ dL_isSound_466
          have blk445 : ∀ (τ : PvS) (xb1 : Int32) (xb2 : Int32) (xb5 : Int32) (xbs0 : Int32), (τ.1 = σ.1) → f_L_isSound_445 (f_L_isSound_4 n4) (f_L_isSound_331 (f_L_isSound_4 n4) n331) τ xb1 xb2 xb5 xbs0 = some (r, σ1) → ∀ (H : Heap) (locs : List Loc), pvW G τ H → va_S (pvB G) s.heap H locs → ∀ (ls : Array Slot), lv_has ls 7 [(0, .ref (G.2.2.1 9 0)), (1, .int xb1), (2, .int xb2), (5, .int xb5)] → W p l e (headSpec (Cond.code yL_isSound cL_isSound 7 (some .boolean) :: WA) ({ frames := 73, cells := 0, slots := 0, locals := 1732 } : Room)).room s m ([.ref (G.2.2.1 9 0)] : List Value).toArray below meth c H locs 0 0 (MQ below (va_Qi (fun r' σ' => r' = r ∧ σ' = σ1 ∧ σ'.1 = σ.1 ∧ is01 r') (pvU G tys) (pvB G)) ([.ref (G.2.2.1 9 0)] : List Value).toArray s 0 0 (pvB G)) (F0 m 445 ls [.int xbs0]) := by
            intro τ xb1 xb2 xb5 xbs0 hcτ h H locs hw hS ls hl
            unfold f_L_isSound_445 at h
            refine lv_iconst (v := (-1)) hx hb dL_isSound_445 (by decide) ?_
            refine lv_goto (tgt := 462) hx hb dL_isSound_446 (by decide) ?_
            exact blk462 τ xb1 xb2 xb5 (-1) xbs0 hcτ h _ _ hw hS ls (lv_sub hl [0, 1, 2, 3] rfl)
          have blk410 : ∀ (τ : PvS) (xb1 : Int32) (xb2 : Int32) (xb5 : Int32) (xb6 : Int32), (τ.1 = σ.1) → f_L_isSound_410 (f_L_isSound_4 n4) (f_L_isSound_331 (f_L_isSound_4 n4) n331) τ xb1 xb2 xb5 xb6 = some (r, σ1) → ∀ (H : Heap) (locs : List Loc), pvW G τ H → va_S (pvB G) s.heap H locs → ∀ (ls : Array Slot), lv_has ls 7 [(0, .ref (G.2.2.1 9 0)), (1, .int xb1), (2, .int xb2), (5, .int xb5), (6, .int xb6)] → W p l e (headSpec (Cond.code yL_isSound cL_isSound 7 (some .boolean) :: WA) ({ frames := 73, cells := 0, slots := 0, locals := 1732 } : Room)).room s m ([.ref (G.2.2.1 9 0)] : List Value).toArray below meth c H locs 0 0 (MQ below (va_Qi (fun r' σ' => r' = r ∧ σ' = σ1 ∧ σ'.1 = σ.1 ∧ is01 r') (pvU G tys) (pvB G)) ([.ref (G.2.2.1 9 0)] : List Value).toArray s 0 0 (pvB G)) (F0 m 410 ls []) := by
            intro τ xb1 xb2 xb5 xb6 hcτ h H locs hw hS ls hl
            unfold f_L_isSound_410 at h
            refine lv_iload hx hb dL_isSound_410 (lv_at hl 4 rfl) ?_
            refine lv_bipush (v := (-3)) hx hb dL_isSound_412 (by decide) ?_
            refine lv_icmp_ne (tgt := 467) hx hb dL_isSound_414 (by decide) (fun c2 => ?_) (fun c2 => ?_)
            · skip
              replace h := ite_n c2 h
              refine lv_iinc (v := xb5 + 1) (lv' := [(5, .int (xb5 + 1)), (0, .ref (G.2.2.1 9 0)), (1, .int xb1), (2, .int xb2), (6, .int xb6)]) hx hb dL_isSound_467 hl (k := 3) rfl (by rfl) (by decide) rfl (fun ls hl => ?_)
              refine lv_goto (tgt := 331) hx hb dL_isSound_470 (by decide) ?_
              exact ih331 τ xb1 xb2 (xb5 + 1) hcτ h _ _ hw hS ls (lv_sub hl [1, 2, 3, 0] rfl)
            · skip
              replace h := ite_p c2 h
              refine lv_aload_n hx hb dL_isSound_417 rfl (lv_at hl 0 rfl) ?_
              refine lv_iload_n hx hb dL_isSound_418 rfl (lv_at hl 2 rfl) ?_
              refine lv_iload hx hb dL_isSound_419 (lv_at hl 3 rfl) ?_
              obtain ⟨r3, σ4, e5, h⟩ := ob2_e h
              refine pcalli (va_runV (As := [.int xb2, .int xb5]) (rest := []) ⟨hx, hb, hml, hown, hts⟩ (c_X9_styleOf (l := l) (G := G) (tys := tys) (σ := τ) htys  e5) (cwV 2 hts (gVA wm728 wm729 wm730 wm2 wm731) rfl rfl rfl (by decide +kernel) ⟨(Nat.le_of_ble_eq_true rfl), (Nat.le_of_ble_eq_true rfl)⟩) (pv_preV hA hS hw hK 9 0 Nat.one_pos (by decide) rfl [.int xb2, .int xb5]) rfl rfl hl.1 rfl (lv_room (Nat.le_of_ble_eq_true rfl)) dL_isSound_421 ⟨Nat.zero_le _, Nat.zero_le _⟩) hS (fun r7 s8 H locs hp6 hw hS => ?_)
              obtain ⟨err3, esσ4, hdσ4⟩ := hp6
              obtain rfl := esσ4.symm
              have hcσ4 : σ4.1 = σ.1 := hdσ4.trans hcτ
              obtain rfl := err3.symm
              refine lv_iload hx hb dL_isSound_424 (lv_at hl 3 rfl) ?_
              refine lv_if_ne (tgt := 433) hx hb dL_isSound_426 (by decide) (fun c9 => ?_) (fun c9 => ?_)
              · skip
                replace h := ite_n c9 h
                refine lv_iload hx hb dL_isSound_433 (lv_at hl 3 rfl) ?_
                refine lv_iconst (v := 1) hx hb dL_isSound_435 (by decide) ?_
                refine lv_icmp_eq (tgt := 445) hx hb dL_isSound_436 (by decide) (fun c10 => ?_) (fun c10 => ?_)
                · skip
                  replace h := ite_p c10 h
                  exact blk445 σ4 xb1 xb2 xb5 r3 hcσ4 h _ _ hw hS ls (lv_sub hl [0, 1, 2, 3] rfl)
                · skip
                  replace h := ite_n c10 h
                  refine lv_iload hx hb dL_isSound_439 (lv_at hl 3 rfl) ?_
                  refine lv_iconst (v := 2) hx hb dL_isSound_441 (by decide) ?_
                  refine lv_icmp_ne (tgt := 449) hx hb dL_isSound_442 (by decide) (fun c11 => ?_) (fun c11 => ?_)
                  · skip
                    replace h := ite_n c11 h
                    refine lv_iload hx hb dL_isSound_449 (lv_at hl 3 rfl) ?_
                    refine lv_bipush (v := 9) hx hb dL_isSound_451 (by decide) ?_
                    refine lv_icmp_ne (tgt := 461) hx hb dL_isSound_453 (by decide) (fun c12 => ?_) (fun c12 => ?_)
                    · skip
                      replace h := ite_n c12 h
                      refine lv_iconst (v := 0) hx hb dL_isSound_461 (by decide) ?_
                      exact blk462 σ4 xb1 xb2 xb5 0 r3 hcσ4 h _ _ hw hS ls (lv_sub hl [0, 1, 2, 3] rfl)
                    · skip
                      replace h := ite_p c12 h
                      refine lv_bipush (v := 8) hx hb dL_isSound_456 (by decide) ?_
                      refine lv_goto (tgt := 462) hx hb dL_isSound_458 (by decide) ?_
                      exact blk462 σ4 xb1 xb2 xb5 8 r3 hcσ4 h _ _ hw hS ls (lv_sub hl [0, 1, 2, 3] rfl)
                  · skip
                    replace h := ite_p c11 h
                    exact blk445 σ4 xb1 xb2 xb5 r3 hcσ4 h _ _ hw hS ls (lv_sub hl [0, 1, 2, 3] rfl)
              · skip
                replace h := ite_p c9 h
                refine lv_iconst (v := 1) hx hb dL_isSound_429 (by decide) ?_
                refine lv_goto (tgt := 462) hx hb dL_isSound_430 (by decide) ?_
                exact blk462 σ4 xb1 xb2 xb5 1 r3 hcσ4 h _ _ hw hS ls (lv_sub hl [0, 1, 2, 3] rfl)
          have blk378 : ∀ (τ : PvS) (xb1 : Int32) (xb2 : Int32) (xb5 : Int32) (xb6 : Int32), (τ.1 = σ.1) → f_L_isSound_378 (f_L_isSound_4 n4) (f_L_isSound_331 (f_L_isSound_4 n4) n331) τ xb1 xb2 xb5 xb6 = some (r, σ1) → ∀ (H : Heap) (locs : List Loc), pvW G τ H → va_S (pvB G) s.heap H locs → ∀ (ls : Array Slot), lv_has ls 7 [(0, .ref (G.2.2.1 9 0)), (1, .int xb1), (2, .int xb2), (5, .int xb5), (6, .int xb6)] → W p l e (headSpec (Cond.code yL_isSound cL_isSound 7 (some .boolean) :: WA) ({ frames := 73, cells := 0, slots := 0, locals := 1732 } : Room)).room s m ([.ref (G.2.2.1 9 0)] : List Value).toArray below meth c H locs 0 0 (MQ below (va_Qi (fun r' σ' => r' = r ∧ σ' = σ1 ∧ σ'.1 = σ.1 ∧ is01 r') (pvU G tys) (pvB G)) ([.ref (G.2.2.1 9 0)] : List Value).toArray s 0 0 (pvB G)) (F0 m 378 ls []) := by
            intro τ xb1 xb2 xb5 xb6 hcτ h H locs hw hS ls hl
            unfold f_L_isSound_378 at h
            refine lv_iload hx hb dL_isSound_378 (lv_at hl 4 rfl) ?_
            refine lv_bipush (v := (-2)) hx hb dL_isSound_380 (by decide) ?_
            refine lv_icmp_ne (tgt := 410) hx hb dL_isSound_382 (by decide) (fun c13 => ?_) (fun c13 => ?_)
            · skip
              replace h := ite_n c13 h
              exact blk410 τ xb1 xb2 xb5 xb6 hcτ h _ _ hw hS ls (lv_sub hl [0, 1, 2, 3, 4] rfl)
            · skip
              replace h := ite_p c13 h
              refine lv_iload_n hx hb dL_isSound_385 rfl (lv_at hl 2 rfl) ?_
              refine lv_if_eq (tgt := 465) hx hb dL_isSound_386 (by decide) (fun c14 => ?_) (fun c14 => ?_)
              · skip
                replace h := ite_p c14 h
                refine lv_iconst (v := 0) hx hb dL_isSound_465 (by decide) ?_
                exact pez hx hb hr (is01_nar (Or.inl rfl)) hlocks hA hw hK hS ⟨(pst h hcτ).1, (pst h hcτ).2.1, (pst h hcτ).2.2, (Or.inl rfl)⟩ dL_isSound_466
              · skip
                replace h := ite_n c14 h
                refine lv_aload_n hx hb dL_isSound_389 rfl (lv_at hl 0 rfl) ?_
                refine lv_iload_n hx hb dL_isSound_390 rfl (lv_at hl 2 rfl) ?_
                refine lv_iload hx hb dL_isSound_391 (lv_at hl 3 rfl) ?_
                obtain ⟨r15, σ16, e17, h⟩ := ob2_e h
                refine pcalli (va_runV (As := [.int xb2, .int xb5]) (rest := []) ⟨hx, hb, hml, hown, hts⟩ (c_X9_styleOf (l := l) (G := G) (tys := tys) (σ := τ) htys  e17) (cwV 2 hts (gVA wm728 wm729 wm730 wm2 wm731) rfl rfl rfl (by decide +kernel) ⟨(Nat.le_of_ble_eq_true rfl), (Nat.le_of_ble_eq_true rfl)⟩) (pv_preV hA hS hw hK 9 0 Nat.one_pos (by decide) rfl [.int xb2, .int xb5]) rfl rfl hl.1 rfl (lv_room (Nat.le_of_ble_eq_true rfl)) dL_isSound_393 ⟨Nat.zero_le _, Nat.zero_le _⟩) hS (fun r19 s20 H locs hp18 hw hS => ?_)
                obtain ⟨err15, esσ16, hdσ16⟩ := hp18
                obtain rfl := esσ16.symm
                have hcσ16 : σ16.1 = σ.1 := hdσ16.trans hcτ
                obtain rfl := err15.symm
                refine lv_aload_n hx hb dL_isSound_396 rfl (lv_at hl 0 rfl) ?_
                refine lv_aload_n hx hb dL_isSound_397 rfl (lv_at hl 0 rfl) ?_
                refine lv_iload_n hx hb dL_isSound_398 rfl (lv_at hl 2 rfl) ?_
                obtain ⟨r21, e22, h⟩ := ob1_e h
                refine pcalli (va_runV (As := [.int xb2]) (rest := [.ref (G.2.2.1 9 0), .int r15]) ⟨hx, hb, hml, hown, hts⟩ (c_X9_parent (l := l) (G := G) (tys := tys) (σ := σ16) htys  e22) (cwV 1 hts (gVA wm691 wm692 wm693 wm2 wm694) rfl rfl rfl (by decide +kernel) ⟨(Nat.le_of_ble_eq_true rfl), (Nat.le_of_ble_eq_true rfl)⟩) (pv_preV hA hS hw hK 9 0 Nat.one_pos (by decide) rfl [.int xb2]) rfl rfl hl.1 rfl (lv_room (Nat.le_of_ble_eq_true rfl)) dL_isSound_399 ⟨Nat.zero_le _, Nat.zero_le _⟩) hS (fun r24 s25 H locs hp23 hw hS => ?_)
                obtain ⟨err21, esr21⟩ := hp23
                obtain rfl := esr21.symm
                obtain rfl := err21.symm
                refine lv_iload hx hb dL_isSound_402 (lv_at hl 3 rfl) ?_
                obtain ⟨r26, σ27, e28, h⟩ := ob2_e h
                refine pcalli (va_runV (As := [.int r21, .int xb5]) (rest := [.int r15]) ⟨hx, hb, hml, hown, hts⟩ (c_X9_styleOf (l := l) (G := G) (tys := tys) (σ := σ16) htys  e28) (cwV 2 hts (gVA wm728 wm729 wm730 wm2 wm731) rfl rfl rfl (by decide +kernel) ⟨(Nat.le_of_ble_eq_true rfl), (Nat.le_of_ble_eq_true rfl)⟩) (pv_preV hA hS hw hK 9 0 Nat.one_pos (by decide) rfl [.int r21, .int xb5]) rfl rfl hl.1 rfl (lv_room (Nat.le_of_ble_eq_true rfl)) dL_isSound_404 ⟨Nat.zero_le _, Nat.zero_le _⟩) hS (fun r30 s31 H locs hp29 hw hS => ?_)
                obtain ⟨err26, esσ27, hdσ27⟩ := hp29
                obtain rfl := esσ27.symm
                have hcσ27 : σ27.1 = σ.1 := hdσ27.trans hcσ16
                obtain rfl := err26.symm
                refine lv_icmp_ne (tgt := 465) hx hb dL_isSound_407 (by decide) (fun c32 => ?_) (fun c32 => ?_)
                · skip
                  replace h := ite_n c32 h
                  refine lv_iconst (v := 0) hx hb dL_isSound_465 (by decide) ?_
                  exact pez hx hb hr (is01_nar (Or.inl rfl)) hlocks hA hw hK hS ⟨(pst h hcσ27).1, (pst h hcσ27).2.1, (pst h hcσ27).2.2, (Or.inl rfl)⟩ dL_isSound_466
                · skip
                  replace h := ite_p c32 h
                  exact blk410 σ27 xb1 xb2 xb5 xb6 hcσ27 h _ _ hw hS ls (lv_sub hl [0, 1, 2, 3, 4] rfl)
          intro τ xb1 xb2 xb5 hcτ h H locs hw hS ls hl
          rw [f_L_isSound_331_s] at h
          refine lv_iload hx hb dL_isSound_331 (lv_at hl 3 rfl) ?_
          refine lv_bipush (v := 14) hx hb dL_isSound_333 (by decide) ?_
          refine lv_icmp_ge (tgt := 473) hx hb dL_isSound_335 (by decide) (fun c33 => ?_) (fun c33 => ?_)
          · skip
            replace h := ite_p c33 h
            refine lv_iinc (v := xb2 + 1) (lv' := [(2, .int (xb2 + 1)), (0, .ref (G.2.2.1 9 0)), (1, .int xb1), (5, .int xb5)]) hx hb dL_isSound_473 hl (k := 2) rfl (by rfl) (by decide) rfl (fun ls hl => ?_)
            refine lv_goto (tgt := 4) hx hb dL_isSound_476 (by decide) ?_
            exact ih4 τ xb1 (xb2 + 1) hcτ h _ _ hw hS ls (lv_sub hl [1, 2, 0] rfl)
          · skip
            replace h := ite_n c33 h
            refine lv_aload_n hx hb dL_isSound_338 rfl (lv_at hl 0 rfl) ?_
            refine lv_iload_n hx hb dL_isSound_339 rfl (lv_at hl 2 rfl) ?_
            refine lv_iload hx hb dL_isSound_340 (lv_at hl 3 rfl) ?_
            obtain ⟨r34, σ35, e36, h⟩ := ob2_e h
            refine pcalli (va_runV (As := [.int xb2, .int xb5]) (rest := []) ⟨hx, hb, hml, hown, hts⟩ (c_X9_because (l := l) (G := G) (tys := tys) (σ := τ) htys  e36) (cwV 2 hts (gVA wm733 wm734 wm735 wm2 wm736) rfl rfl rfl (by decide +kernel) ⟨(Nat.le_of_ble_eq_true rfl), (Nat.le_of_ble_eq_true rfl)⟩) (pv_preV hA hS hw hK 9 0 Nat.one_pos (by decide) rfl [.int xb2, .int xb5]) rfl rfl hl.1 rfl (lv_room (Nat.le_of_ble_eq_true rfl)) dL_isSound_342 ⟨Nat.zero_le _, Nat.zero_le _⟩) hS (fun r38 s39 H locs hp37 hw hS => ?_)
            obtain ⟨err34, esσ35, hdσ35⟩ := hp37
            obtain rfl := esσ35.symm
            have hcσ35 : σ35.1 = σ.1 := hdσ35.trans hcτ
            obtain rfl := err34.symm
            refine lv_istore (lv' := [(6, .int r34), (0, .ref (G.2.2.1 9 0)), (1, .int xb1), (2, .int xb2), (5, .int xb5)]) hx hb dL_isSound_345 hl (by decide) rfl (fun ls hl => ?_)
            refine lv_iload hx hb dL_isSound_347 (lv_at hl 0 rfl) ?_
            refine lv_bipush (v := (-3)) hx hb dL_isSound_349 (by decide) ?_
            refine lv_icmp_lt (tgt := 465) hx hb dL_isSound_351 (by decide) (fun c40 => ?_) (fun c40 => ?_)
            · skip
              replace h := ite_p c40 h
              refine lv_iconst (v := 0) hx hb dL_isSound_465 (by decide) ?_
              exact pez hx hb hr (is01_nar (Or.inl rfl)) hlocks hA hw hK hS ⟨(pst h hcσ35).1, (pst h hcσ35).2.1, (pst h hcσ35).2.2, (Or.inl rfl)⟩ dL_isSound_466
            · skip
              replace h := ite_n c40 h
              refine lv_iload hx hb dL_isSound_354 (lv_at hl 0 rfl) ?_
              refine lv_aload_n hx hb dL_isSound_356 rfl (lv_at hl 1 rfl) ?_
              obtain ⟨r41, e42, h⟩ := ob1_e h
              refine pcalli (va_runV (As := []) (rest := [.int r34]) ⟨hx, hb, hml, hown, hts⟩ (c_X9_rules (l := l) (G := G) (tys := tys) (σ := σ35) htys  e42) (cwV 0 hts (gVA wm741 wm742 wm743 wm2 wm744) rfl rfl rfl (by decide +kernel) ⟨(Nat.le_of_ble_eq_true rfl), (Nat.le_of_ble_eq_true rfl)⟩) (pv_preV hA hS hw hK 9 0 Nat.one_pos (by decide) rfl []) rfl rfl hl.1 rfl (lv_room (Nat.le_of_ble_eq_true rfl)) dL_isSound_357 ⟨Nat.zero_le _, Nat.zero_le _⟩) hS (fun r44 s45 H locs hp43 hw hS => ?_)
              obtain ⟨err41, esr41⟩ := hp43
              obtain rfl := esr41.symm
              obtain rfl := err41.symm
              refine lv_icmp_ge (tgt := 465) hx hb dL_isSound_360 (by decide) (fun c46 => ?_) (fun c46 => ?_)
              · skip
                replace h := ite_p c46 h
                refine lv_iconst (v := 0) hx hb dL_isSound_465 (by decide) ?_
                exact pez hx hb hr (is01_nar (Or.inl rfl)) hlocks hA hw hK hS ⟨(pst h hcσ35).1, (pst h hcσ35).2.1, (pst h hcσ35).2.2, (Or.inl rfl)⟩ dL_isSound_466
              · skip
                replace h := ite_n c46 h
                refine lv_iload hx hb dL_isSound_363 (lv_at hl 0 rfl) ?_
                refine lv_if_lt (tgt := 378) hx hb dL_isSound_365 (by decide) (fun c47 => ?_) (fun c47 => ?_)
                · skip
                  replace h := ite_p c47 h
                  exact blk378 σ35 xb1 xb2 xb5 r34 hcσ35 h _ _ hw hS ls (lv_sub hl [1, 2, 3, 4, 0] rfl)
                · skip
                  replace h := ite_n c47 h
                  refine lv_aload_n hx hb dL_isSound_368 rfl (lv_at hl 1 rfl) ?_
                  refine lv_iload hx hb dL_isSound_369 (lv_at hl 0 rfl) ?_
                  refine lv_iload_n hx hb dL_isSound_371 rfl (lv_at hl 3 rfl) ?_
                  obtain ⟨r48, e49, h⟩ := ob1_e h
                  refine pcalli (va_runV (As := [.int r34, .int xb2]) (rest := []) ⟨hx, hb, hml, hown, hts⟩ (c_X9_matches (l := l) (G := G) (tys := tys) (σ := σ35) htys  e49) (cwV 2 hts (gVA wm745 wm746 wm747 wm2 wm748) rfl rfl rfl (by decide +kernel) ⟨(Nat.le_of_ble_eq_true rfl), (Nat.le_of_ble_eq_true rfl)⟩) (pv_preV hA hS hw hK 9 0 Nat.one_pos (by decide) rfl [.int r34, .int xb2]) rfl rfl hl.1 rfl (lv_room (Nat.le_of_ble_eq_true rfl)) dL_isSound_372 ⟨Nat.zero_le _, Nat.zero_le _⟩) hS (fun r51 s52 H locs hp50 hw hS => ?_)
                  obtain ⟨err48, esr48, hzr48⟩ := hp50
                  obtain rfl := esr48.symm
                  obtain rfl := err48.symm
                  refine lv_if_eq (tgt := 465) hx hb dL_isSound_375 (by decide) (fun c53 => ?_) (fun c53 => ?_)
                  · skip
                    replace h := ite_p c53 h
                    refine lv_iconst (v := 0) hx hb dL_isSound_465 (by decide) ?_
                    exact pez hx hb hr (is01_nar (Or.inl rfl)) hlocks hA hw hK hS ⟨(pst h hcσ35).1, (pst h hcσ35).2.1, (pst h hcσ35).2.2, (Or.inl rfl)⟩ dL_isSound_466
                  · skip
                    replace h := ite_n c53 h
                    exact blk378 σ35 xb1 xb2 xb5 r34 hcσ35 h _ _ hw hS ls (lv_sub hl [1, 2, 3, 4, 0] rfl)
      have loop247 : ∀ (n : Nat) (τ : PvS) (xb1 : Int32) (xb2 : Int32) (xb4 : Int32) (xb5 : Int32), (τ.1 = σ.1) → f_L_isSound_247 (f_L_isSound_4 n4) n τ xb1 xb2 xb4 xb5 = some (r, σ1) → ∀ (H : Heap) (locs : List Loc), pvW G τ H → va_S (pvB G) s.heap H locs → ∀ (ls : Array Slot), lv_has ls 7 [(0, .ref (G.2.2.1 9 0)), (1, .int xb1), (2, .int xb2), (4, .int xb4), (5, .int xb5)] → W p l e (headSpec (Cond.code yL_isSound cL_isSound 7 (some .boolean) :: WA) ({ frames := 73, cells := 0, slots := 0, locals := 1732 } : Room)).room s m ([.ref (G.2.2.1 9 0)] : List Value).toArray below meth c H locs 0 0 (MQ below (va_Qi (fun r' σ' => r' = r ∧ σ' = σ1 ∧ σ'.1 = σ.1 ∧ is01 r') (pvU G tys) (pvB G)) ([.ref (G.2.2.1 9 0)] : List Value).toArray s 0 0 (pvB G)) (F0 m 247 ls []) := by
        intro n247
        induction n247 with
        | zero =>
          intro τ xb1 xb2 xb4 xb5 hcτ h
          rw [f_L_isSound_247_z] at h
          cases h
        | succ n247 ih247 =>
          intro τ xb1 xb2 xb4 xb5 hcτ h H locs hw hS ls hl
          rw [f_L_isSound_247_s] at h
          refine lv_iload hx hb dL_isSound_247 (lv_at hl 4 rfl) ?_
          refine lv_aload_n hx hb dL_isSound_249 rfl (lv_at hl 0 rfl) ?_
          refine lv_iload_n hx hb dL_isSound_250 rfl (lv_at hl 2 rfl) ?_
          obtain ⟨r54, e55, h⟩ := ob1_e h
          refine pcalli (va_runV (As := [.int xb2]) (rest := [.int xb5]) ⟨hx, hb, hml, hown, hts⟩ (c_X9_size (l := l) (G := G) (tys := tys) (σ := τ) htys  e55) (cwV 1 hts (gVA wm321 wm322 wm323 wm2 wm324) rfl rfl rfl (by decide +kernel) ⟨(Nat.le_of_ble_eq_true rfl), (Nat.le_of_ble_eq_true rfl)⟩) (pv_preV hA hS hw hK 9 0 Nat.one_pos (by decide) rfl [.int xb2]) rfl rfl hl.1 rfl (lv_room (Nat.le_of_ble_eq_true rfl)) dL_isSound_251 ⟨Nat.zero_le _, Nat.zero_le _⟩) hS (fun r57 s58 H locs hp56 hw hS => ?_)
          obtain ⟨err54, esr54⟩ := hp56
          obtain rfl := esr54.symm
          obtain rfl := err54.symm
          refine lv_icmp_ge (tgt := 280) hx hb dL_isSound_254 (by decide) (fun c59 => ?_) (fun c59 => ?_)
          · skip
            replace h := ite_p c59 h
            refine lv_iload hx hb dL_isSound_280 (lv_at hl 3 rfl) ?_
            refine lv_if_eq (tgt := 328) hx hb dL_isSound_282 (by decide) (fun c60 => ?_) (fun c60 => ?_)
            · skip
              replace h := ite_p c60 h
              refine lv_iconst (v := 0) hx hb dL_isSound_328 (by decide) ?_
              refine lv_istore (lv' := [(5, .int 0), (0, .ref (G.2.2.1 9 0)), (1, .int xb1), (2, .int xb2), (4, .int xb4)]) hx hb dL_isSound_329 hl (by decide) rfl (fun ls hl => ?_)
              exact loop331 fu τ xb1 xb2 0 hcτ h _ _ hw hS ls (lv_sub hl [1, 2, 3, 0] rfl)
            · skip
              replace h := ite_n c60 h
              refine lv_aload_n hx hb dL_isSound_285 rfl (lv_at hl 0 rfl) ?_
              refine lv_iload_n hx hb dL_isSound_286 rfl (lv_at hl 2 rfl) ?_
              obtain ⟨r61, σ62, e63, h⟩ := ob2_e h
              refine pcalli (va_runV (As := [.int xb2]) (rest := []) ⟨hx, hb, hml, hown, hts⟩ (c_X9_scrolled (l := l) (G := G) (tys := tys) (σ := τ) htys  e63) (cwV 1 hts (gVA wm686 wm687 wm688 wm2 wm689) rfl rfl rfl (by decide +kernel) ⟨(Nat.le_of_ble_eq_true rfl), (Nat.le_of_ble_eq_true rfl)⟩) (pv_preV hA hS hw hK 9 0 Nat.one_pos (by decide) rfl [.int xb2]) rfl rfl hl.1 rfl (lv_room (Nat.le_of_ble_eq_true rfl)) dL_isSound_287 ⟨Nat.zero_le _, Nat.zero_le _⟩) hS (fun r65 s66 H locs hp64 hw hS => ?_)
              obtain ⟨err61, esσ62, hdσ62⟩ := hp64
              obtain rfl := esσ62.symm
              have hcσ62 : σ62.1 = σ.1 := hdσ62.trans hcτ
              obtain rfl := err61.symm
              refine lv_if_le (tgt := 328) hx hb dL_isSound_290 (by decide) (fun c67 => ?_) (fun c67 => ?_)
              · skip
                replace h := ite_p c67 h
                refine lv_iconst (v := 0) hx hb dL_isSound_328 (by decide) ?_
                refine lv_istore (lv' := [(5, .int 0), (0, .ref (G.2.2.1 9 0)), (1, .int xb1), (2, .int xb2), (4, .int xb4)]) hx hb dL_isSound_329 hl (by decide) rfl (fun ls hl => ?_)
                exact loop331 fu σ62 xb1 xb2 0 hcσ62 h _ _ hw hS ls (lv_sub hl [1, 2, 3, 0] rfl)
              · skip
                replace h := ite_n c67 h
                refine lv_aload_n hx hb dL_isSound_293 rfl (lv_at hl 0 rfl) ?_
                refine lv_iload_n hx hb dL_isSound_294 rfl (lv_at hl 2 rfl) ?_
                refine lv_bipush (v := 11) hx hb dL_isSound_295 (by decide) ?_
                obtain ⟨r68, σ69, e70, h⟩ := ob2_e h
                refine pcalli (va_runV (As := [.int xb2, .int 11]) (rest := []) ⟨hx, hb, hml, hown, hts⟩ (c_X9_styleOf (l := l) (G := G) (tys := tys) (σ := σ62) htys  e70) (cwV 2 hts (gVA wm728 wm729 wm730 wm2 wm731) rfl rfl rfl (by decide +kernel) ⟨(Nat.le_of_ble_eq_true rfl), (Nat.le_of_ble_eq_true rfl)⟩) (pv_preV hA hS hw hK 9 0 Nat.one_pos (by decide) rfl [.int xb2, .int 11]) rfl rfl hl.1 rfl (lv_room (Nat.le_of_ble_eq_true rfl)) dL_isSound_297 ⟨Nat.zero_le _, Nat.zero_le _⟩) hS (fun r72 s73 H locs hp71 hw hS => ?_)
                obtain ⟨err68, esσ69, hdσ69⟩ := hp71
                obtain rfl := esσ69.symm
                have hcσ69 : σ69.1 = σ.1 := hdσ69.trans hcσ62
                obtain rfl := err68.symm
                refine lv_iconst (v := 1) hx hb dL_isSound_300 (by decide) ?_
                refine lv_icmp_ne (tgt := 326) hx hb dL_isSound_301 (by decide) (fun c74 => ?_) (fun c74 => ?_)
                · skip
                  replace h := ite_n c74 h
                  refine lv_iconst (v := 0) hx hb dL_isSound_326 (by decide) ?_
                  exact pez hx hb hr (is01_nar (Or.inl rfl)) hlocks hA hw hK hS ⟨(pst h hcσ69).1, (pst h hcσ69).2.1, (pst h hcσ69).2.2, (Or.inl rfl)⟩ dL_isSound_327
                · skip
                  replace h := ite_p c74 h
                  refine lv_aload_n hx hb dL_isSound_304 rfl (lv_at hl 0 rfl) ?_
                  refine lv_iload_n hx hb dL_isSound_305 rfl (lv_at hl 2 rfl) ?_
                  obtain ⟨r75, σ76, e77, h⟩ := ob2_e h
                  refine pcalli (va_runV (As := [.int xb2]) (rest := []) ⟨hx, hb, hml, hown, hts⟩ (c_X9_scrolled (l := l) (G := G) (tys := tys) (σ := σ69) htys  e77) (cwV 1 hts (gVA wm686 wm687 wm688 wm2 wm689) rfl rfl rfl (by decide +kernel) ⟨(Nat.le_of_ble_eq_true rfl), (Nat.le_of_ble_eq_true rfl)⟩) (pv_preV hA hS hw hK 9 0 Nat.one_pos (by decide) rfl [.int xb2]) rfl rfl hl.1 rfl (lv_room (Nat.le_of_ble_eq_true rfl)) dL_isSound_306 ⟨Nat.zero_le _, Nat.zero_le _⟩) hS (fun r79 s80 H locs hp78 hw hS => ?_)
                  obtain ⟨err75, esσ76, hdσ76⟩ := hp78
                  obtain rfl := esσ76.symm
                  have hcσ76 : σ76.1 = σ.1 := hdσ76.trans hcσ69
                  obtain rfl := err75.symm
                  refine lv_aload_n hx hb dL_isSound_309 rfl (lv_at hl 0 rfl) ?_
                  refine lv_iload_n hx hb dL_isSound_310 rfl (lv_at hl 2 rfl) ?_
                  obtain ⟨r81, σ82, e83, h⟩ := ob2_e h
                  refine pcalli (va_runV (As := [.int xb2]) (rest := [.int r75]) ⟨hx, hb, hml, hown, hts⟩ (c_X9_reachOf (l := l) (G := G) (tys := tys) (σ := σ76) htys  e83) (cwV 1 hts (gVA wm662 wm663 wm664 wm2 wm665) rfl rfl rfl (by decide +kernel) ⟨(Nat.le_of_ble_eq_true rfl), (Nat.le_of_ble_eq_true rfl)⟩) (pv_preV hA hS hw hK 9 0 Nat.one_pos (by decide) rfl [.int xb2]) rfl rfl hl.1 rfl (lv_room (Nat.le_of_ble_eq_true rfl)) dL_isSound_311 ⟨Nat.zero_le _, Nat.zero_le _⟩) hS (fun r85 s86 H locs hp84 hw hS => ?_)
                  obtain ⟨err81, esσ82, hdσ82⟩ := hp84
                  obtain rfl := esσ82.symm
                  have hcσ82 : σ82.1 = σ.1 := hdσ82.trans hcσ76
                  obtain rfl := err81.symm
                  refine lv_icmp_gt (tgt := 326) hx hb dL_isSound_314 (by decide) (fun c87 => ?_) (fun c87 => ?_)
                  · skip
                    replace h := ite_p c87 h
                    refine lv_iconst (v := 0) hx hb dL_isSound_326 (by decide) ?_
                    exact pez hx hb hr (is01_nar (Or.inl rfl)) hlocks hA hw hK hS ⟨(pst h hcσ82).1, (pst h hcσ82).2.1, (pst h hcσ82).2.2, (Or.inl rfl)⟩ dL_isSound_327
                  · skip
                    replace h := ite_n c87 h
                    refine lv_aload_n hx hb dL_isSound_317 rfl (lv_at hl 0 rfl) ?_
                    refine lv_iload_n hx hb dL_isSound_318 rfl (lv_at hl 2 rfl) ?_
                    refine lv_iconst (v := 2) hx hb dL_isSound_319 (by decide) ?_
                    obtain ⟨r88, σ89, e90, h⟩ := ob2_e h
                    refine pcalli (va_runV (As := [.int xb2, .int 2]) (rest := []) ⟨hx, hb, hml, hown, hts⟩ (c_X9_styleOf (l := l) (G := G) (tys := tys) (σ := σ82) htys  e90) (cwV 2 hts (gVA wm728 wm729 wm730 wm2 wm731) rfl rfl rfl (by decide +kernel) ⟨(Nat.le_of_ble_eq_true rfl), (Nat.le_of_ble_eq_true rfl)⟩) (pv_preV hA hS hw hK 9 0 Nat.one_pos (by decide) rfl [.int xb2, .int 2]) rfl rfl hl.1 rfl (lv_room (Nat.le_of_ble_eq_true rfl)) dL_isSound_320 ⟨Nat.zero_le _, Nat.zero_le _⟩) hS (fun r92 s93 H locs hp91 hw hS => ?_)
                    obtain ⟨err88, esσ89, hdσ89⟩ := hp91
                    obtain rfl := esσ89.symm
                    have hcσ89 : σ89.1 = σ.1 := hdσ89.trans hcσ82
                    obtain rfl := err88.symm
                    refine lv_if_ge (tgt := 328) hx hb dL_isSound_323 (by decide) (fun c94 => ?_) (fun c94 => ?_)
                    · skip
                      replace h := ite_p c94 h
                      refine lv_iconst (v := 0) hx hb dL_isSound_328 (by decide) ?_
                      refine lv_istore (lv' := [(5, .int 0), (0, .ref (G.2.2.1 9 0)), (1, .int xb1), (2, .int xb2), (4, .int xb4)]) hx hb dL_isSound_329 hl (by decide) rfl (fun ls hl => ?_)
                      exact loop331 fu σ89 xb1 xb2 0 hcσ89 h _ _ hw hS ls (lv_sub hl [1, 2, 3, 0] rfl)
                    · skip
                      replace h := ite_n c94 h
                      refine lv_iconst (v := 0) hx hb dL_isSound_326 (by decide) ?_
                      exact pez hx hb hr (is01_nar (Or.inl rfl)) hlocks hA hw hK hS ⟨(pst h hcσ89).1, (pst h hcσ89).2.1, (pst h hcσ89).2.2, (Or.inl rfl)⟩ dL_isSound_327
          · skip
            replace h := ite_n c59 h
            refine lv_aload_n hx hb dL_isSound_257 rfl (lv_at hl 0 rfl) ?_
            refine lv_aload_n hx hb dL_isSound_258 rfl (lv_at hl 0 rfl) ?_
            refine lv_iload_n hx hb dL_isSound_259 rfl (lv_at hl 2 rfl) ?_
            refine lv_iload hx hb dL_isSound_260 (lv_at hl 4 rfl) ?_
            obtain ⟨r95, e96, h⟩ := ob1_e h
            refine pcalli (va_runV (As := [.int xb2, .int xb5]) (rest := [.ref (G.2.2.1 9 0)]) ⟨hx, hb, hml, hown, hts⟩ (c_X9_childAt (l := l) (G := G) (tys := tys) (σ := τ) htys  e96) (cwV 2 hts (gVA wm724 wm725 wm726 wm2 wm727) rfl rfl rfl (by decide +kernel) ⟨(Nat.le_of_ble_eq_true rfl), (Nat.le_of_ble_eq_true rfl)⟩) (pv_preV hA hS hw hK 9 0 Nat.one_pos (by decide) rfl [.int xb2, .int xb5]) rfl rfl hl.1 rfl (lv_room (Nat.le_of_ble_eq_true rfl)) dL_isSound_262 ⟨Nat.zero_le _, Nat.zero_le _⟩) hS (fun r98 s99 H locs hp97 hw hS => ?_)
            obtain ⟨err95, esr95⟩ := hp97
            obtain rfl := esr95.symm
            obtain rfl := err95.symm
            obtain ⟨r100, e101, h⟩ := ob1_e h
            refine pcalli (va_runV (As := [.int r95]) (rest := []) ⟨hx, hb, hml, hown, hts⟩ (c_X9_parent (l := l) (G := G) (tys := tys) (σ := τ) htys  e101) (cwV 1 hts (gVA wm691 wm692 wm693 wm2 wm694) rfl rfl rfl (by decide +kernel) ⟨(Nat.le_of_ble_eq_true rfl), (Nat.le_of_ble_eq_true rfl)⟩) (pv_preV hA hS hw hK 9 0 Nat.one_pos (by decide) rfl [.int r95]) rfl rfl hl.1 rfl (lv_room (Nat.le_of_ble_eq_true rfl)) dL_isSound_265 ⟨Nat.zero_le _, Nat.zero_le _⟩) hS (fun r103 s104 H locs hp102 hw hS => ?_)
            obtain ⟨err100, esr100⟩ := hp102
            obtain rfl := esr100.symm
            obtain rfl := err100.symm
            refine lv_iload_n hx hb dL_isSound_268 rfl (lv_at hl 2 rfl) ?_
            refine lv_icmp_eq (tgt := 274) hx hb dL_isSound_269 (by decide) (fun c105 => ?_) (fun c105 => ?_)
            · skip
              replace h := ite_p c105 h
              refine lv_iinc (v := xb5 + 1) (lv' := [(5, .int (xb5 + 1)), (0, .ref (G.2.2.1 9 0)), (1, .int xb1), (2, .int xb2), (4, .int xb4)]) hx hb dL_isSound_274 hl (k := 4) rfl (by rfl) (by decide) rfl (fun ls hl => ?_)
              refine lv_goto (tgt := 247) hx hb dL_isSound_277 (by decide) ?_
              exact ih247 τ xb1 xb2 xb4 (xb5 + 1) hcτ h _ _ hw hS ls (lv_sub hl [1, 2, 3, 4, 0] rfl)
            · skip
              replace h := ite_n c105 h
              refine lv_iconst (v := 0) hx hb dL_isSound_272 (by decide) ?_
              exact pez hx hb hr (is01_nar (Or.inl rfl)) hlocks hA hw hK hS ⟨(pst h hcτ).1, (pst h hcτ).2.1, (pst h hcτ).2.2, (Or.inl rfl)⟩ dL_isSound_273
      have blk206 : ∀ (τ : PvS) (xb1 : Int32) (xb2 : Int32) (xb4 : Int32) (xbs0 : Int32) (xbs1 : Int32), (τ.1 = σ.1) → f_L_isSound_206 (f_L_isSound_4 n4) τ xb1 xb2 xb4 xbs0 xbs1 = some (r, σ1) → ∀ (H : Heap) (locs : List Loc), pvW G τ H → va_S (pvB G) s.heap H locs → ∀ (ls : Array Slot), lv_has ls 7 [(0, .ref (G.2.2.1 9 0)), (1, .int xb1), (2, .int xb2), (4, .int xb4)] → W p l e (headSpec (Cond.code yL_isSound cL_isSound 7 (some .boolean) :: WA) ({ frames := 73, cells := 0, slots := 0, locals := 1732 } : Room)).room s m ([.ref (G.2.2.1 9 0)] : List Value).toArray below meth c H locs 0 0 (MQ below (va_Qi (fun r' σ' => r' = r ∧ σ' = σ1 ∧ σ'.1 = σ.1 ∧ is01 r') (pvU G tys) (pvB G)) ([.ref (G.2.2.1 9 0)] : List Value).toArray s 0 0 (pvB G)) (F0 m 206 ls [.int xbs0, .int xbs1]) := by
        intro τ xb1 xb2 xb4 xbs0 xbs1 hcτ h H locs hw hS ls hl
        unfold f_L_isSound_206 at h
        refine lv_icmp_eq (tgt := 211) hx hb dL_isSound_206 (by decide) (fun c106 => ?_) (fun c106 => ?_)
        · skip
          replace h := ite_p c106 h
          refine lv_aload_n hx hb dL_isSound_211 rfl (lv_at hl 0 rfl) ?_
          refine lv_iload_n hx hb dL_isSound_212 rfl (lv_at hl 2 rfl) ?_
          obtain ⟨r107, e108, h⟩ := ob1_e h
          refine pcalli (va_runV (As := [.int xb2]) (rest := []) ⟨hx, hb, hml, hown, hts⟩ (c_X9_isText (l := l) (G := G) (tys := tys) (σ := τ) htys  e108) (cwV 1 hts (gVA wm641 wm642 wm643 wm2 wm644) rfl rfl rfl (by decide +kernel) ⟨(Nat.le_of_ble_eq_true rfl), (Nat.le_of_ble_eq_true rfl)⟩) (pv_preV hA hS hw hK 9 0 Nat.one_pos (by decide) rfl [.int xb2]) rfl rfl hl.1 rfl (lv_room (Nat.le_of_ble_eq_true rfl)) dL_isSound_213 ⟨Nat.zero_le _, Nat.zero_le _⟩) hS (fun r110 s111 H locs hp109 hw hS => ?_)
          obtain ⟨err107, esr107, hzr107⟩ := hp109
          obtain rfl := esr107.symm
          obtain rfl := err107.symm
          refine lv_if_eq (tgt := 244) hx hb dL_isSound_216 (by decide) (fun c112 => ?_) (fun c112 => ?_)
          · skip
            replace h := ite_p c112 h
            refine lv_iconst (v := 0) hx hb dL_isSound_244 (by decide) ?_
            refine lv_istore (lv' := [(5, .int 0), (0, .ref (G.2.2.1 9 0)), (1, .int xb1), (2, .int xb2), (4, .int xb4)]) hx hb dL_isSound_245 hl (by decide) rfl (fun ls hl => ?_)
            exact loop247 fu τ xb1 xb2 xb4 0 hcτ h _ _ hw hS ls (lv_sub hl [1, 2, 3, 4, 0] rfl)
          · skip
            replace h := ite_n c112 h
            refine lv_aload_n hx hb dL_isSound_219 rfl (lv_at hl 0 rfl) ?_
            refine lv_iload_n hx hb dL_isSound_220 rfl (lv_at hl 2 rfl) ?_
            obtain ⟨r113, σ114, e115, h⟩ := ob2_e h
            refine pcalli (va_runV (As := [.int xb2]) (rest := []) ⟨hx, hb, hml, hown, hts⟩ (c_X9_seen (l := l) (G := G) (tys := tys) (σ := τ) htys  e115) (cwV 1 hts (gVA wm697 wm698 wm699 wm2 wm700) rfl rfl rfl (by decide +kernel) ⟨(Nat.le_of_ble_eq_true rfl), (Nat.le_of_ble_eq_true rfl)⟩) (pv_preV hA hS hw hK 9 0 Nat.one_pos (by decide) rfl [.int xb2]) rfl rfl hl.1 rfl (lv_room (Nat.le_of_ble_eq_true rfl)) dL_isSound_221 ⟨Nat.zero_le _, Nat.zero_le _⟩) hS (fun r117 s118 H locs hp116 hw hS => ?_)
            obtain ⟨err113, esσ114, hdσ114⟩ := hp116
            obtain rfl := esσ114.symm
            have hcσ114 : σ114.1 = σ.1 := hdσ114.trans hcτ
            obtain rfl := err113.symm
            refine lv_aload_n hx hb dL_isSound_224 rfl (lv_at hl 0 rfl) ?_
            refine lv_iload_n hx hb dL_isSound_225 rfl (lv_at hl 2 rfl) ?_
            obtain ⟨r119, e120, h⟩ := ob1_e h
            refine pcalli (va_runV (As := [.int xb2]) (rest := [.int r113]) ⟨hx, hb, hml, hown, hts⟩ (c_X9_size (l := l) (G := G) (tys := tys) (σ := σ114) htys  e120) (cwV 1 hts (gVA wm321 wm322 wm323 wm2 wm324) rfl rfl rfl (by decide +kernel) ⟨(Nat.le_of_ble_eq_true rfl), (Nat.le_of_ble_eq_true rfl)⟩) (pv_preV hA hS hw hK 9 0 Nat.one_pos (by decide) rfl [.int xb2]) rfl rfl hl.1 rfl (lv_room (Nat.le_of_ble_eq_true rfl)) dL_isSound_226 ⟨Nat.zero_le _, Nat.zero_le _⟩) hS (fun r122 s123 H locs hp121 hw hS => ?_)
            obtain ⟨err119, esr119⟩ := hp121
            obtain rfl := esr119.symm
            obtain rfl := err119.symm
            refine lv_icmp_gt (tgt := 242) hx hb dL_isSound_229 (by decide) (fun c124 => ?_) (fun c124 => ?_)
            · skip
              replace h := ite_p c124 h
              refine lv_iconst (v := 0) hx hb dL_isSound_242 (by decide) ?_
              exact pez hx hb hr (is01_nar (Or.inl rfl)) hlocks hA hw hK hS ⟨(pst h hcσ114).1, (pst h hcσ114).2.1, (pst h hcσ114).2.2, (Or.inl rfl)⟩ dL_isSound_243
            · skip
              replace h := ite_n c124 h
              refine lv_aload_n hx hb dL_isSound_232 rfl (lv_at hl 0 rfl) ?_
              refine lv_iload_n hx hb dL_isSound_233 rfl (lv_at hl 2 rfl) ?_
              obtain ⟨r125, e126, h⟩ := ob1_e h
              refine pcalli (va_runV (As := [.int xb2]) (rest := []) ⟨hx, hb, hml, hown, hts⟩ (c_X9_size (l := l) (G := G) (tys := tys) (σ := σ114) htys  e126) (cwV 1 hts (gVA wm321 wm322 wm323 wm2 wm324) rfl rfl rfl (by decide +kernel) ⟨(Nat.le_of_ble_eq_true rfl), (Nat.le_of_ble_eq_true rfl)⟩) (pv_preV hA hS hw hK 9 0 Nat.one_pos (by decide) rfl [.int xb2]) rfl rfl hl.1 rfl (lv_room (Nat.le_of_ble_eq_true rfl)) dL_isSound_234 ⟨Nat.zero_le _, Nat.zero_le _⟩) hS (fun r128 s129 H locs hp127 hw hS => ?_)
              obtain ⟨err125, esr125⟩ := hp127
              obtain rfl := esr125.symm
              obtain rfl := err125.symm
              refine lv_bipush (v := 20) hx hb dL_isSound_237 (by decide) ?_
              refine lv_icmp_le (tgt := 473) hx hb dL_isSound_239 (by decide) (fun c130 => ?_) (fun c130 => ?_)
              · skip
                replace h := ite_p c130 h
                refine lv_iinc (v := xb2 + 1) (lv' := [(2, .int (xb2 + 1)), (0, .ref (G.2.2.1 9 0)), (1, .int xb1), (4, .int xb4)]) hx hb dL_isSound_473 hl (k := 2) rfl (by rfl) (by decide) rfl (fun ls hl => ?_)
                refine lv_goto (tgt := 4) hx hb dL_isSound_476 (by decide) ?_
                exact ih4 σ114 xb1 (xb2 + 1) hcσ114 h _ _ hw hS ls (lv_sub hl [1, 2, 0] rfl)
              · skip
                replace h := ite_n c130 h
                refine lv_iconst (v := 0) hx hb dL_isSound_242 (by decide) ?_
                exact pez hx hb hr (is01_nar (Or.inl rfl)) hlocks hA hw hK hS ⟨(pst h hcσ114).1, (pst h hcσ114).2.1, (pst h hcσ114).2.2, (Or.inl rfl)⟩ dL_isSound_243
        · skip
          replace h := ite_n c106 h
          refine lv_iconst (v := 0) hx hb dL_isSound_209 (by decide) ?_
          exact pez hx hb hr (is01_nar (Or.inl rfl)) hlocks hA hw hK hS ⟨(pst h hcτ).1, (pst h hcτ).2.1, (pst h hcτ).2.2, (Or.inl rfl)⟩ dL_isSound_210
      have blk197 : ∀ (τ : PvS) (xb1 : Int32) (xb2 : Int32) (xb4 : Int32) (xbs0 : Int32), (τ.1 = σ.1) → f_L_isSound_197 (f_L_isSound_4 n4) τ xb1 xb2 xb4 xbs0 = some (r, σ1) → ∀ (H : Heap) (locs : List Loc), pvW G τ H → va_S (pvB G) s.heap H locs → ∀ (ls : Array Slot), lv_has ls 7 [(0, .ref (G.2.2.1 9 0)), (1, .int xb1), (2, .int xb2), (4, .int xb4)] → W p l e (headSpec (Cond.code yL_isSound cL_isSound 7 (some .boolean) :: WA) ({ frames := 73, cells := 0, slots := 0, locals := 1732 } : Room)).room s m ([.ref (G.2.2.1 9 0)] : List Value).toArray below meth c H locs 0 0 (MQ below (va_Qi (fun r' σ' => r' = r ∧ σ' = σ1 ∧ σ'.1 = σ.1 ∧ is01 r') (pvU G tys) (pvB G)) ([.ref (G.2.2.1 9 0)] : List Value).toArray s 0 0 (pvB G)) (F0 m 197 ls [.int xbs0]) := by
        intro τ xb1 xb2 xb4 xbs0 hcτ h H locs hw hS ls hl
        unfold f_L_isSound_197 at h
        refine lv_iload_n hx hb dL_isSound_197 rfl (lv_at hl 2 rfl) ?_
        refine lv_if_ne (tgt := 205) hx hb dL_isSound_198 (by decide) (fun c131 => ?_) (fun c131 => ?_)
        · skip
          replace h := ite_n c131 h
          refine lv_iconst (v := 0) hx hb dL_isSound_205 (by decide) ?_
          exact blk206 τ xb1 xb2 xb4 0 xbs0 hcτ h _ _ hw hS ls (lv_sub hl [0, 1, 2, 3] rfl)
        · skip
          replace h := ite_p c131 h
          refine lv_iconst (v := 1) hx hb dL_isSound_201 (by decide) ?_
          refine lv_goto (tgt := 206) hx hb dL_isSound_202 (by decide) ?_
          exact blk206 τ xb1 xb2 xb4 1 xbs0 hcτ h _ _ hw hS ls (lv_sub hl [0, 1, 2, 3] rfl)
      have blk184 : ∀ (τ : PvS) (xb1 : Int32) (xb2 : Int32) (xb4 : Int32), (τ.1 = σ.1) → f_L_isSound_184 (f_L_isSound_4 n4) τ xb1 xb2 xb4 = some (r, σ1) → ∀ (H : Heap) (locs : List Loc), pvW G τ H → va_S (pvB G) s.heap H locs → ∀ (ls : Array Slot), lv_has ls 7 [(0, .ref (G.2.2.1 9 0)), (1, .int xb1), (2, .int xb2), (4, .int xb4)] → W p l e (headSpec (Cond.code yL_isSound cL_isSound 7 (some .boolean) :: WA) ({ frames := 73, cells := 0, slots := 0, locals := 1732 } : Room)).room s m ([.ref (G.2.2.1 9 0)] : List Value).toArray below meth c H locs 0 0 (MQ below (va_Qi (fun r' σ' => r' = r ∧ σ' = σ1 ∧ σ'.1 = σ.1 ∧ is01 r') (pvU G tys) (pvB G)) ([.ref (G.2.2.1 9 0)] : List Value).toArray s 0 0 (pvB G)) (F0 m 184 ls []) := by
        intro τ xb1 xb2 xb4 hcτ h H locs hw hS ls hl
        unfold f_L_isSound_184 at h
        refine lv_aload_n hx hb dL_isSound_184 rfl (lv_at hl 0 rfl) ?_
        refine lv_iload_n hx hb dL_isSound_185 rfl (lv_at hl 2 rfl) ?_
        obtain ⟨r132, e133, h⟩ := ob1_e h
        refine pcalli (va_runV (As := [.int xb2]) (rest := []) ⟨hx, hb, hml, hown, hts⟩ (c_X9_parent (l := l) (G := G) (tys := tys) (σ := τ) htys  e133) (cwV 1 hts (gVA wm691 wm692 wm693 wm2 wm694) rfl rfl rfl (by decide +kernel) ⟨(Nat.le_of_ble_eq_true rfl), (Nat.le_of_ble_eq_true rfl)⟩) (pv_preV hA hS hw hK 9 0 Nat.one_pos (by decide) rfl [.int xb2]) rfl rfl hl.1 rfl (lv_room (Nat.le_of_ble_eq_true rfl)) dL_isSound_186 ⟨Nat.zero_le _, Nat.zero_le _⟩) hS (fun r135 s136 H locs hp134 hw hS => ?_)
        obtain ⟨err132, esr132⟩ := hp134
        obtain rfl := esr132.symm
        obtain rfl := err132.symm
        refine lv_if_ge (tgt := 196) hx hb dL_isSound_189 (by decide) (fun c137 => ?_) (fun c137 => ?_)
        · skip
          replace h := ite_p c137 h
          refine lv_iconst (v := 0) hx hb dL_isSound_196 (by decide) ?_
          exact blk197 τ xb1 xb2 xb4 0 hcτ h _ _ hw hS ls (lv_sub hl [0, 1, 2, 3] rfl)
        · skip
          replace h := ite_n c137 h
          refine lv_iconst (v := 1) hx hb dL_isSound_192 (by decide) ?_
          refine lv_goto (tgt := 197) hx hb dL_isSound_193 (by decide) ?_
          exact blk197 τ xb1 xb2 xb4 1 hcτ h _ _ hw hS ls (lv_sub hl [0, 1, 2, 3] rfl)
      have blk164 : ∀ (τ : PvS) (xb1 : Int32) (xb2 : Int32) (xb4 : Int32), (τ.1 = σ.1) → f_L_isSound_164 (f_L_isSound_4 n4) τ xb1 xb2 xb4 = some (r, σ1) → ∀ (H : Heap) (locs : List Loc), pvW G τ H → va_S (pvB G) s.heap H locs → ∀ (ls : Array Slot), lv_has ls 7 [(0, .ref (G.2.2.1 9 0)), (1, .int xb1), (2, .int xb2), (4, .int xb4)] → W p l e (headSpec (Cond.code yL_isSound cL_isSound 7 (some .boolean) :: WA) ({ frames := 73, cells := 0, slots := 0, locals := 1732 } : Room)).room s m ([.ref (G.2.2.1 9 0)] : List Value).toArray below meth c H locs 0 0 (MQ below (va_Qi (fun r' σ' => r' = r ∧ σ' = σ1 ∧ σ'.1 = σ.1 ∧ is01 r') (pvU G tys) (pvB G)) ([.ref (G.2.2.1 9 0)] : List Value).toArray s 0 0 (pvB G)) (F0 m 164 ls []) := by
        intro τ xb1 xb2 xb4 hcτ h H locs hw hS ls hl
        unfold f_L_isSound_164 at h
        refine lv_aload_n hx hb dL_isSound_164 rfl (lv_at hl 0 rfl) ?_
        refine lv_iload_n hx hb dL_isSound_165 rfl (lv_at hl 2 rfl) ?_
        obtain ⟨r138, e139, h⟩ := ob1_e h
        refine pcalli (va_runV (As := [.int xb2]) (rest := []) ⟨hx, hb, hml, hown, hts⟩ (c_X9_parent (l := l) (G := G) (tys := tys) (σ := τ) htys  e139) (cwV 1 hts (gVA wm691 wm692 wm693 wm2 wm694) rfl rfl rfl (by decide +kernel) ⟨(Nat.le_of_ble_eq_true rfl), (Nat.le_of_ble_eq_true rfl)⟩) (pv_preV hA hS hw hK 9 0 Nat.one_pos (by decide) rfl [.int xb2]) rfl rfl hl.1 rfl (lv_room (Nat.le_of_ble_eq_true rfl)) dL_isSound_166 ⟨Nat.zero_le _, Nat.zero_le _⟩) hS (fun r141 s142 H locs hp140 hw hS => ?_)
        obtain ⟨err138, esr138⟩ := hp140
        obtain rfl := esr138.symm
        obtain rfl := err138.symm
        refine lv_if_lt (tgt := 184) hx hb dL_isSound_169 (by decide) (fun c143 => ?_) (fun c143 => ?_)
        · skip
          replace h := ite_p c143 h
          exact blk184 τ xb1 xb2 xb4 hcτ h _ _ hw hS ls (lv_sub hl [0, 1, 2, 3] rfl)
        · skip
          replace h := ite_n c143 h
          refine lv_aload_n hx hb dL_isSound_172 rfl (lv_at hl 0 rfl) ?_
          refine lv_aload_n hx hb dL_isSound_173 rfl (lv_at hl 0 rfl) ?_
          refine lv_iload_n hx hb dL_isSound_174 rfl (lv_at hl 2 rfl) ?_
          obtain ⟨r144, e145, h⟩ := ob1_e h
          refine pcalli (va_runV (As := [.int xb2]) (rest := [.ref (G.2.2.1 9 0)]) ⟨hx, hb, hml, hown, hts⟩ (c_X9_parent (l := l) (G := G) (tys := tys) (σ := τ) htys  e145) (cwV 1 hts (gVA wm691 wm692 wm693 wm2 wm694) rfl rfl rfl (by decide +kernel) ⟨(Nat.le_of_ble_eq_true rfl), (Nat.le_of_ble_eq_true rfl)⟩) (pv_preV hA hS hw hK 9 0 Nat.one_pos (by decide) rfl [.int xb2]) rfl rfl hl.1 rfl (lv_room (Nat.le_of_ble_eq_true rfl)) dL_isSound_175 ⟨Nat.zero_le _, Nat.zero_le _⟩) hS (fun r147 s148 H locs hp146 hw hS => ?_)
          obtain ⟨err144, esr144⟩ := hp146
          obtain rfl := esr144.symm
          obtain rfl := err144.symm
          obtain ⟨r149, e150, h⟩ := ob1_e h
          refine pcalli (va_runV (As := [.int r144]) (rest := []) ⟨hx, hb, hml, hown, hts⟩ (c_X9_isThere (l := l) (G := G) (tys := tys) (σ := τ) htys  e150) (cwV 1 hts (gVA wm402 wm403 wm404 wm2 wm405) rfl rfl rfl (by decide +kernel) ⟨(Nat.le_of_ble_eq_true rfl), (Nat.le_of_ble_eq_true rfl)⟩) (pv_preV hA hS hw hK 9 0 Nat.one_pos (by decide) rfl [.int r144]) rfl rfl hl.1 rfl (lv_room (Nat.le_of_ble_eq_true rfl)) dL_isSound_178 ⟨Nat.zero_le _, Nat.zero_le _⟩) hS (fun r152 s153 H locs hp151 hw hS => ?_)
          obtain ⟨err149, esr149, hzr149⟩ := hp151
          obtain rfl := esr149.symm
          obtain rfl := err149.symm
          refine lv_if_eq (tgt := 209) hx hb dL_isSound_181 (by decide) (fun c154 => ?_) (fun c154 => ?_)
          · skip
            replace h := ite_p c154 h
            refine lv_iconst (v := 0) hx hb dL_isSound_209 (by decide) ?_
            exact pez hx hb hr (is01_nar (Or.inl rfl)) hlocks hA hw hK hS ⟨(pst h hcτ).1, (pst h hcτ).2.1, (pst h hcτ).2.2, (Or.inl rfl)⟩ dL_isSound_210
          · skip
            replace h := ite_n c154 h
            exact blk184 τ xb1 xb2 xb4 hcτ h _ _ hw hS ls (lv_sub hl [0, 1, 2, 3] rfl)
      have blk138 : ∀ (τ : PvS) (xb1 : Int32) (xb2 : Int32) (xb4 : Int32) (xbs0 : Int32) (xbs1 : Int32), (τ.1 = σ.1) → f_L_isSound_138 (f_L_isSound_4 n4) τ xb1 xb2 xb4 xbs0 xbs1 = some (r, σ1) → ∀ (H : Heap) (locs : List Loc), pvW G τ H → va_S (pvB G) s.heap H locs → ∀ (ls : Array Slot), lv_has ls 7 [(0, .ref (G.2.2.1 9 0)), (1, .int xb1), (2, .int xb2), (4, .int xb4)] → W p l e (headSpec (Cond.code yL_isSound cL_isSound 7 (some .boolean) :: WA) ({ frames := 73, cells := 0, slots := 0, locals := 1732 } : Room)).room s m ([.ref (G.2.2.1 9 0)] : List Value).toArray below meth c H locs 0 0 (MQ below (va_Qi (fun r' σ' => r' = r ∧ σ' = σ1 ∧ σ'.1 = σ.1 ∧ is01 r') (pvU G tys) (pvB G)) ([.ref (G.2.2.1 9 0)] : List Value).toArray s 0 0 (pvB G)) (F0 m 138 ls [.int xbs0, .int xbs1]) := by
        intro τ xb1 xb2 xb4 xbs0 xbs1 hcτ h H locs hw hS ls hl
        unfold f_L_isSound_138 at h
        refine lv_icmp_ne (tgt := 162) hx hb dL_isSound_138 (by decide) (fun c155 => ?_) (fun c155 => ?_)
        · skip
          replace h := ite_n c155 h
          refine lv_iconst (v := 0) hx hb dL_isSound_162 (by decide) ?_
          exact pez hx hb hr (is01_nar (Or.inl rfl)) hlocks hA hw hK hS ⟨(pst h hcτ).1, (pst h hcτ).2.1, (pst h hcτ).2.2, (Or.inl rfl)⟩ dL_isSound_163
        · skip
          replace h := ite_p c155 h
          refine lv_iload hx hb dL_isSound_141 (lv_at hl 3 rfl) ?_
          refine lv_if_ne (tgt := 164) hx hb dL_isSound_143 (by decide) (fun c156 => ?_) (fun c156 => ?_)
          · skip
            replace h := ite_n c156 h
            exact blk164 τ xb1 xb2 xb4 hcτ h _ _ hw hS ls (lv_sub hl [0, 1, 2, 3] rfl)
          · skip
            replace h := ite_p c156 h
            refine lv_aload_n hx hb dL_isSound_146 rfl (lv_at hl 0 rfl) ?_
            refine lv_iload_n hx hb dL_isSound_147 rfl (lv_at hl 2 rfl) ?_
            obtain ⟨r157, σ158, e159, h⟩ := ob2_e h
            refine pcalli (va_runV (As := [.int xb2]) (rest := []) ⟨hx, hb, hml, hown, hts⟩ (c_X9_lines (l := l) (G := G) (tys := tys) (σ := τ) htys  e159) (cwV 1 hts (gVA wm678 wm679 wm680 wm2 wm681) rfl rfl rfl (by decide +kernel) ⟨(Nat.le_of_ble_eq_true rfl), (Nat.le_of_ble_eq_true rfl)⟩) (pv_preV hA hS hw hK 9 0 Nat.one_pos (by decide) rfl [.int xb2]) rfl rfl hl.1 rfl (lv_room (Nat.le_of_ble_eq_true rfl)) dL_isSound_148 ⟨Nat.zero_le _, Nat.zero_le _⟩) hS (fun r161 s162 H locs hp160 hw hS => ?_)
            obtain ⟨err157, esσ158, hdσ158⟩ := hp160
            obtain rfl := esσ158.symm
            have hcσ158 : σ158.1 = σ.1 := hdσ158.trans hcτ
            obtain rfl := err157.symm
            refine lv_if_ne (tgt := 162) hx hb dL_isSound_151 (by decide) (fun c163 => ?_) (fun c163 => ?_)
            · skip
              replace h := ite_n c163 h
              refine lv_iconst (v := 0) hx hb dL_isSound_162 (by decide) ?_
              exact pez hx hb hr (is01_nar (Or.inl rfl)) hlocks hA hw hK hS ⟨(pst h hcσ158).1, (pst h hcσ158).2.1, (pst h hcσ158).2.2, (Or.inl rfl)⟩ dL_isSound_163
            · skip
              replace h := ite_p c163 h
              refine lv_aload_n hx hb dL_isSound_154 rfl (lv_at hl 0 rfl) ?_
              refine lv_iload_n hx hb dL_isSound_155 rfl (lv_at hl 2 rfl) ?_
              obtain ⟨r164, σ165, e166, h⟩ := ob2_e h
              refine pcalli (va_runV (As := [.int xb2]) (rest := []) ⟨hx, hb, hml, hown, hts⟩ (c_X9_scrolled (l := l) (G := G) (tys := tys) (σ := σ158) htys  e166) (cwV 1 hts (gVA wm686 wm687 wm688 wm2 wm689) rfl rfl rfl (by decide +kernel) ⟨(Nat.le_of_ble_eq_true rfl), (Nat.le_of_ble_eq_true rfl)⟩) (pv_preV hA hS hw hK 9 0 Nat.one_pos (by decide) rfl [.int xb2]) rfl rfl hl.1 rfl (lv_room (Nat.le_of_ble_eq_true rfl)) dL_isSound_156 ⟨Nat.zero_le _, Nat.zero_le _⟩) hS (fun r168 s169 H locs hp167 hw hS => ?_)
              obtain ⟨err164, esσ165, hdσ165⟩ := hp167
              obtain rfl := esσ165.symm
              have hcσ165 : σ165.1 = σ.1 := hdσ165.trans hcσ158
              obtain rfl := err164.symm
              refine lv_if_eq (tgt := 164) hx hb dL_isSound_159 (by decide) (fun c170 => ?_) (fun c170 => ?_)
              · skip
                replace h := ite_p c170 h
                exact blk164 σ165 xb1 xb2 xb4 hcσ165 h _ _ hw hS ls (lv_sub hl [0, 1, 2, 3] rfl)
              · skip
                replace h := ite_n c170 h
                refine lv_iconst (v := 0) hx hb dL_isSound_162 (by decide) ?_
                exact pez hx hb hr (is01_nar (Or.inl rfl)) hlocks hA hw hK hS ⟨(pst h hcσ165).1, (pst h hcσ165).2.1, (pst h hcσ165).2.2, (Or.inl rfl)⟩ dL_isSound_163
      have blk117 : ∀ (τ : PvS) (xb1 : Int32) (xb2 : Int32) (xb4 : Int32) (xbs0 : Int32) (xbs1 : Int32), (τ.1 = σ.1) → f_L_isSound_117 (f_L_isSound_4 n4) τ xb1 xb2 xb4 xbs0 xbs1 = some (r, σ1) → ∀ (H : Heap) (locs : List Loc), pvW G τ H → va_S (pvB G) s.heap H locs → ∀ (ls : Array Slot), lv_has ls 7 [(0, .ref (G.2.2.1 9 0)), (1, .int xb1), (2, .int xb2), (4, .int xb4)] → W p l e (headSpec (Cond.code yL_isSound cL_isSound 7 (some .boolean) :: WA) ({ frames := 73, cells := 0, slots := 0, locals := 1732 } : Room)).room s m ([.ref (G.2.2.1 9 0)] : List Value).toArray below meth c H locs 0 0 (MQ below (va_Qi (fun r' σ' => r' = r ∧ σ' = σ1 ∧ σ'.1 = σ.1 ∧ is01 r') (pvU G tys) (pvB G)) ([.ref (G.2.2.1 9 0)] : List Value).toArray s 0 0 (pvB G)) (F0 m 117 ls [.int xbs0, .int xbs1]) := by
        intro τ xb1 xb2 xb4 xbs0 xbs1 hcτ h H locs hw hS ls hl
        unfold f_L_isSound_117 at h
        refine lv_icmp_ne (tgt := 162) hx hb dL_isSound_117 (by decide) (fun c171 => ?_) (fun c171 => ?_)
        · skip
          replace h := ite_n c171 h
          refine lv_iconst (v := 0) hx hb dL_isSound_162 (by decide) ?_
          exact pez hx hb hr (is01_nar (Or.inl rfl)) hlocks hA hw hK hS ⟨(pst h hcτ).1, (pst h hcτ).2.1, (pst h hcτ).2.2, (Or.inl rfl)⟩ dL_isSound_163
        · skip
          replace h := ite_p c171 h
          refine lv_iload hx hb dL_isSound_120 (lv_at hl 3 rfl) ?_
          refine lv_aload_n hx hb dL_isSound_122 rfl (lv_at hl 0 rfl) ?_
          refine lv_iload_n hx hb dL_isSound_123 rfl (lv_at hl 2 rfl) ?_
          obtain ⟨r172, σ173, e174, h⟩ := ob2_e h
          refine pcalli (va_runV (As := [.int xb2]) (rest := [.int xb4]) ⟨hx, hb, hml, hown, hts⟩ (c_X9_xOf (l := l) (G := G) (tys := tys) (σ := τ) htys  e174) (cwV 1 hts (gVA wm670 wm671 wm672 wm2 wm673) rfl rfl rfl (by decide +kernel) ⟨(Nat.le_of_ble_eq_true rfl), (Nat.le_of_ble_eq_true rfl)⟩) (pv_preV hA hS hw hK 9 0 Nat.one_pos (by decide) rfl [.int xb2]) rfl rfl hl.1 rfl (lv_room (Nat.le_of_ble_eq_true rfl)) dL_isSound_124 ⟨Nat.zero_le _, Nat.zero_le _⟩) hS (fun r176 s177 H locs hp175 hw hS => ?_)
          obtain ⟨err172, esσ173, hdσ173⟩ := hp175
          obtain rfl := esσ173.symm
          have hcσ173 : σ173.1 = σ.1 := hdσ173.trans hcτ
          obtain rfl := err172.symm
          refine lv_sipush (v := (-9999)) hx hb dL_isSound_127 (by decide) ?_
          refine lv_icmp_eq (tgt := 137) hx hb dL_isSound_130 (by decide) (fun c178 => ?_) (fun c178 => ?_)
          · skip
            replace h := ite_p c178 h
            refine lv_iconst (v := 0) hx hb dL_isSound_137 (by decide) ?_
            exact blk138 σ173 xb1 xb2 xb4 0 xb4 hcσ173 h _ _ hw hS ls (lv_sub hl [0, 1, 2, 3] rfl)
          · skip
            replace h := ite_n c178 h
            refine lv_iconst (v := 1) hx hb dL_isSound_133 (by decide) ?_
            refine lv_goto (tgt := 138) hx hb dL_isSound_134 (by decide) ?_
            exact blk138 σ173 xb1 xb2 xb4 1 xb4 hcσ173 h _ _ hw hS ls (lv_sub hl [0, 1, 2, 3] rfl)
      have blk99 : ∀ (τ : PvS) (xb1 : Int32) (xb2 : Int32) (xb4 : Int32) (xbs0 : Int32) (xbs1 : Int32), (τ.1 = σ.1) → f_L_isSound_99 (f_L_isSound_4 n4) τ xb1 xb2 xb4 xbs0 xbs1 = some (r, σ1) → ∀ (H : Heap) (locs : List Loc), pvW G τ H → va_S (pvB G) s.heap H locs → ∀ (ls : Array Slot), lv_has ls 7 [(0, .ref (G.2.2.1 9 0)), (1, .int xb1), (2, .int xb2), (4, .int xb4)] → W p l e (headSpec (Cond.code yL_isSound cL_isSound 7 (some .boolean) :: WA) ({ frames := 73, cells := 0, slots := 0, locals := 1732 } : Room)).room s m ([.ref (G.2.2.1 9 0)] : List Value).toArray below meth c H locs 0 0 (MQ below (va_Qi (fun r' σ' => r' = r ∧ σ' = σ1 ∧ σ'.1 = σ.1 ∧ is01 r') (pvU G tys) (pvB G)) ([.ref (G.2.2.1 9 0)] : List Value).toArray s 0 0 (pvB G)) (F0 m 99 ls [.int xbs0, .int xbs1]) := by
        intro τ xb1 xb2 xb4 xbs0 xbs1 hcτ h H locs hw hS ls hl
        unfold f_L_isSound_99 at h
        refine lv_icmp_ne (tgt := 162) hx hb dL_isSound_99 (by decide) (fun c179 => ?_) (fun c179 => ?_)
        · skip
          replace h := ite_n c179 h
          refine lv_iconst (v := 0) hx hb dL_isSound_162 (by decide) ?_
          exact pez hx hb hr (is01_nar (Or.inl rfl)) hlocks hA hw hK hS ⟨(pst h hcτ).1, (pst h hcτ).2.1, (pst h hcτ).2.2, (Or.inl rfl)⟩ dL_isSound_163
        · skip
          replace h := ite_p c179 h
          refine lv_iload hx hb dL_isSound_102 (lv_at hl 3 rfl) ?_
          refine lv_aload_n hx hb dL_isSound_104 rfl (lv_at hl 0 rfl) ?_
          refine lv_iload_n hx hb dL_isSound_105 rfl (lv_at hl 2 rfl) ?_
          obtain ⟨r180, σ181, e182, h⟩ := ob2_e h
          refine pcalli (va_runV (As := [.int xb2]) (rest := [.int xb4]) ⟨hx, hb, hml, hown, hts⟩ (c_X9_reachOf (l := l) (G := G) (tys := tys) (σ := τ) htys  e182) (cwV 1 hts (gVA wm662 wm663 wm664 wm2 wm665) rfl rfl rfl (by decide +kernel) ⟨(Nat.le_of_ble_eq_true rfl), (Nat.le_of_ble_eq_true rfl)⟩) (pv_preV hA hS hw hK 9 0 Nat.one_pos (by decide) rfl [.int xb2]) rfl rfl hl.1 rfl (lv_room (Nat.le_of_ble_eq_true rfl)) dL_isSound_106 ⟨Nat.zero_le _, Nat.zero_le _⟩) hS (fun r184 s185 H locs hp183 hw hS => ?_)
          obtain ⟨err180, esσ181, hdσ181⟩ := hp183
          obtain rfl := esσ181.symm
          have hcσ181 : σ181.1 = σ.1 := hdσ181.trans hcτ
          obtain rfl := err180.symm
          refine lv_if_lt (tgt := 116) hx hb dL_isSound_109 (by decide) (fun c186 => ?_) (fun c186 => ?_)
          · skip
            replace h := ite_p c186 h
            refine lv_iconst (v := 0) hx hb dL_isSound_116 (by decide) ?_
            exact blk117 σ181 xb1 xb2 xb4 0 xb4 hcσ181 h _ _ hw hS ls (lv_sub hl [0, 1, 2, 3] rfl)
          · skip
            replace h := ite_n c186 h
            refine lv_iconst (v := 1) hx hb dL_isSound_112 (by decide) ?_
            refine lv_goto (tgt := 117) hx hb dL_isSound_113 (by decide) ?_
            exact blk117 σ181 xb1 xb2 xb4 1 xb4 hcσ181 h _ _ hw hS ls (lv_sub hl [0, 1, 2, 3] rfl)
      have blk81 : ∀ (τ : PvS) (xb1 : Int32) (xb2 : Int32) (xb4 : Int32) (xbs0 : Int32) (xbs1 : Int32), (τ.1 = σ.1) → f_L_isSound_81 (f_L_isSound_4 n4) τ xb1 xb2 xb4 xbs0 xbs1 = some (r, σ1) → ∀ (H : Heap) (locs : List Loc), pvW G τ H → va_S (pvB G) s.heap H locs → ∀ (ls : Array Slot), lv_has ls 7 [(0, .ref (G.2.2.1 9 0)), (1, .int xb1), (2, .int xb2), (4, .int xb4)] → W p l e (headSpec (Cond.code yL_isSound cL_isSound 7 (some .boolean) :: WA) ({ frames := 73, cells := 0, slots := 0, locals := 1732 } : Room)).room s m ([.ref (G.2.2.1 9 0)] : List Value).toArray below meth c H locs 0 0 (MQ below (va_Qi (fun r' σ' => r' = r ∧ σ' = σ1 ∧ σ'.1 = σ.1 ∧ is01 r') (pvU G tys) (pvB G)) ([.ref (G.2.2.1 9 0)] : List Value).toArray s 0 0 (pvB G)) (F0 m 81 ls [.int xbs0, .int xbs1]) := by
        intro τ xb1 xb2 xb4 xbs0 xbs1 hcτ h H locs hw hS ls hl
        unfold f_L_isSound_81 at h
        refine lv_icmp_ne (tgt := 162) hx hb dL_isSound_81 (by decide) (fun c187 => ?_) (fun c187 => ?_)
        · skip
          replace h := ite_n c187 h
          refine lv_iconst (v := 0) hx hb dL_isSound_162 (by decide) ?_
          exact pez hx hb hr (is01_nar (Or.inl rfl)) hlocks hA hw hK hS ⟨(pst h hcτ).1, (pst h hcτ).2.1, (pst h hcτ).2.2, (Or.inl rfl)⟩ dL_isSound_163
        · skip
          replace h := ite_p c187 h
          refine lv_iload hx hb dL_isSound_84 (lv_at hl 3 rfl) ?_
          refine lv_aload_n hx hb dL_isSound_86 rfl (lv_at hl 0 rfl) ?_
          refine lv_iload_n hx hb dL_isSound_87 rfl (lv_at hl 2 rfl) ?_
          obtain ⟨r188, σ189, e190, h⟩ := ob2_e h
          refine pcalli (va_runV (As := [.int xb2]) (rest := [.int xb4]) ⟨hx, hb, hml, hown, hts⟩ (c_X9_highOf (l := l) (G := G) (tys := tys) (σ := τ) htys  e190) (cwV 1 hts (gVA wm654 wm655 wm656 wm2 wm657) rfl rfl rfl (by decide +kernel) ⟨(Nat.le_of_ble_eq_true rfl), (Nat.le_of_ble_eq_true rfl)⟩) (pv_preV hA hS hw hK 9 0 Nat.one_pos (by decide) rfl [.int xb2]) rfl rfl hl.1 rfl (lv_room (Nat.le_of_ble_eq_true rfl)) dL_isSound_88 ⟨Nat.zero_le _, Nat.zero_le _⟩) hS (fun r192 s193 H locs hp191 hw hS => ?_)
          obtain ⟨err188, esσ189, hdσ189⟩ := hp191
          obtain rfl := esσ189.symm
          have hcσ189 : σ189.1 = σ.1 := hdσ189.trans hcτ
          obtain rfl := err188.symm
          refine lv_if_lt (tgt := 98) hx hb dL_isSound_91 (by decide) (fun c194 => ?_) (fun c194 => ?_)
          · skip
            replace h := ite_p c194 h
            refine lv_iconst (v := 0) hx hb dL_isSound_98 (by decide) ?_
            exact blk99 σ189 xb1 xb2 xb4 0 xb4 hcσ189 h _ _ hw hS ls (lv_sub hl [0, 1, 2, 3] rfl)
          · skip
            replace h := ite_n c194 h
            refine lv_iconst (v := 1) hx hb dL_isSound_94 (by decide) ?_
            refine lv_goto (tgt := 99) hx hb dL_isSound_95 (by decide) ?_
            exact blk99 σ189 xb1 xb2 xb4 1 xb4 hcσ189 h _ _ hw hS ls (lv_sub hl [0, 1, 2, 3] rfl)
      have blk66 : ∀ (τ : PvS) (xb1 : Int32) (xb2 : Int32) (xb4 : Int32), (τ.1 = σ.1) → f_L_isSound_66 (f_L_isSound_4 n4) τ xb1 xb2 xb4 = some (r, σ1) → ∀ (H : Heap) (locs : List Loc), pvW G τ H → va_S (pvB G) s.heap H locs → ∀ (ls : Array Slot), lv_has ls 7 [(0, .ref (G.2.2.1 9 0)), (1, .int xb1), (2, .int xb2), (4, .int xb4)] → W p l e (headSpec (Cond.code yL_isSound cL_isSound 7 (some .boolean) :: WA) ({ frames := 73, cells := 0, slots := 0, locals := 1732 } : Room)).room s m ([.ref (G.2.2.1 9 0)] : List Value).toArray below meth c H locs 0 0 (MQ below (va_Qi (fun r' σ' => r' = r ∧ σ' = σ1 ∧ σ'.1 = σ.1 ∧ is01 r') (pvU G tys) (pvB G)) ([.ref (G.2.2.1 9 0)] : List Value).toArray s 0 0 (pvB G)) (F0 m 66 ls []) := by
        intro τ xb1 xb2 xb4 hcτ h H locs hw hS ls hl
        unfold f_L_isSound_66 at h
        refine lv_iload hx hb dL_isSound_66 (lv_at hl 3 rfl) ?_
        refine lv_aload_n hx hb dL_isSound_68 rfl (lv_at hl 0 rfl) ?_
        refine lv_iload_n hx hb dL_isSound_69 rfl (lv_at hl 2 rfl) ?_
        obtain ⟨r195, σ196, e197, h⟩ := ob2_e h
        refine pcalli (va_runV (As := [.int xb2]) (rest := [.int xb4]) ⟨hx, hb, hml, hown, hts⟩ (c_X9_wideOf (l := l) (G := G) (tys := tys) (σ := τ) htys  e197) (cwV 1 hts (gVA wm645 wm646 wm647 wm2 wm648) rfl rfl rfl (by decide +kernel) ⟨(Nat.le_of_ble_eq_true rfl), (Nat.le_of_ble_eq_true rfl)⟩) (pv_preV hA hS hw hK 9 0 Nat.one_pos (by decide) rfl [.int xb2]) rfl rfl hl.1 rfl (lv_room (Nat.le_of_ble_eq_true rfl)) dL_isSound_70 ⟨Nat.zero_le _, Nat.zero_le _⟩) hS (fun r199 s200 H locs hp198 hw hS => ?_)
        obtain ⟨err195, esσ196, hdσ196⟩ := hp198
        obtain rfl := esσ196.symm
        have hcσ196 : σ196.1 = σ.1 := hdσ196.trans hcτ
        obtain rfl := err195.symm
        refine lv_if_lt (tgt := 80) hx hb dL_isSound_73 (by decide) (fun c201 => ?_) (fun c201 => ?_)
        · skip
          replace h := ite_p c201 h
          refine lv_iconst (v := 0) hx hb dL_isSound_80 (by decide) ?_
          exact blk81 σ196 xb1 xb2 xb4 0 xb4 hcσ196 h _ _ hw hS ls (lv_sub hl [0, 1, 2, 3] rfl)
        · skip
          replace h := ite_n c201 h
          refine lv_iconst (v := 1) hx hb dL_isSound_76 (by decide) ?_
          refine lv_goto (tgt := 81) hx hb dL_isSound_77 (by decide) ?_
          exact blk81 σ196 xb1 xb2 xb4 1 xb4 hcσ196 h _ _ hw hS ls (lv_sub hl [0, 1, 2, 3] rfl)
      have blk59 : ∀ (τ : PvS) (xb1 : Int32) (xb2 : Int32) (xb3 : Int32) (xb4 : Int32) (xbs0 : Int32) (xbs1 : Int32), (τ.1 = σ.1) → f_L_isSound_59 (f_L_isSound_4 n4) τ xb1 xb2 xb3 xb4 xbs0 xbs1 = some (r, σ1) → ∀ (H : Heap) (locs : List Loc), pvW G τ H → va_S (pvB G) s.heap H locs → ∀ (ls : Array Slot), lv_has ls 7 [(0, .ref (G.2.2.1 9 0)), (1, .int xb1), (2, .int xb2), (3, .int xb3), (4, .int xb4)] → W p l e (headSpec (Cond.code yL_isSound cL_isSound 7 (some .boolean) :: WA) ({ frames := 73, cells := 0, slots := 0, locals := 1732 } : Room)).room s m ([.ref (G.2.2.1 9 0)] : List Value).toArray below meth c H locs 0 0 (MQ below (va_Qi (fun r' σ' => r' = r ∧ σ' = σ1 ∧ σ'.1 = σ.1 ∧ is01 r') (pvU G tys) (pvB G)) ([.ref (G.2.2.1 9 0)] : List Value).toArray s 0 0 (pvB G)) (F0 m 59 ls [.int xbs0, .int xbs1]) := by
        intro τ xb1 xb2 xb3 xb4 xbs0 xbs1 hcτ h H locs hw hS ls hl
        unfold f_L_isSound_59 at h
        refine lv_icmp_eq (tgt := 66) hx hb dL_isSound_59 (by decide) (fun c202 => ?_) (fun c202 => ?_)
        · skip
          replace h := ite_p c202 h
          exact blk66 τ xb1 xb2 xb4 hcτ h _ _ hw hS ls (lv_sub hl [0, 1, 2, 4] rfl)
        · skip
          replace h := ite_n c202 h
          refine lv_iload_n hx hb dL_isSound_62 rfl (lv_at hl 3 rfl) ?_
          refine lv_if_ne (tgt := 162) hx hb dL_isSound_63 (by decide) (fun c203 => ?_) (fun c203 => ?_)
          · skip
            replace h := ite_n c203 h
            refine lv_iconst (v := 0) hx hb dL_isSound_162 (by decide) ?_
            exact pez hx hb hr (is01_nar (Or.inl rfl)) hlocks hA hw hK hS ⟨(pst h hcτ).1, (pst h hcτ).2.1, (pst h hcτ).2.2, (Or.inl rfl)⟩ dL_isSound_163
          · skip
            replace h := ite_p c203 h
            exact blk66 τ xb1 xb2 xb4 hcτ h _ _ hw hS ls (lv_sub hl [0, 1, 2, 4] rfl)
      have blk42 : ∀ (τ : PvS) (xb1 : Int32) (xb2 : Int32) (xb3 : Int32) (xbs0 : Int32), (τ.1 = σ.1) → f_L_isSound_42 (f_L_isSound_4 n4) τ xb1 xb2 xb3 xbs0 = some (r, σ1) → ∀ (H : Heap) (locs : List Loc), pvW G τ H → va_S (pvB G) s.heap H locs → ∀ (ls : Array Slot), lv_has ls 7 [(0, .ref (G.2.2.1 9 0)), (1, .int xb1), (2, .int xb2), (3, .int xb3)] → W p l e (headSpec (Cond.code yL_isSound cL_isSound 7 (some .boolean) :: WA) ({ frames := 73, cells := 0, slots := 0, locals := 1732 } : Room)).room s m ([.ref (G.2.2.1 9 0)] : List Value).toArray below meth c H locs 0 0 (MQ below (va_Qi (fun r' σ' => r' = r ∧ σ' = σ1 ∧ σ'.1 = σ.1 ∧ is01 r') (pvU G tys) (pvB G)) ([.ref (G.2.2.1 9 0)] : List Value).toArray s 0 0 (pvB G)) (F0 m 42 ls [.int xbs0]) := by
        intro τ xb1 xb2 xb3 xbs0 hcτ h H locs hw hS ls hl
        unfold f_L_isSound_42 at h
        refine lv_istore (lv' := [(4, .int xbs0), (0, .ref (G.2.2.1 9 0)), (1, .int xb1), (2, .int xb2), (3, .int xb3)]) hx hb dL_isSound_42 hl (by decide) rfl (fun ls hl => ?_)
        refine lv_aload_n hx hb dL_isSound_44 rfl (lv_at hl 1 rfl) ?_
        refine lv_iload_n hx hb dL_isSound_45 rfl (lv_at hl 3 rfl) ?_
        obtain ⟨r204, e205, h⟩ := ob1_e h
        refine pcalli (va_runV (As := [.int xb2]) (rest := []) ⟨hx, hb, hml, hown, hts⟩ (c_X9_isText (l := l) (G := G) (tys := tys) (σ := τ) htys  e205) (cwV 1 hts (gVA wm641 wm642 wm643 wm2 wm644) rfl rfl rfl (by decide +kernel) ⟨(Nat.le_of_ble_eq_true rfl), (Nat.le_of_ble_eq_true rfl)⟩) (pv_preV hA hS hw hK 9 0 Nat.one_pos (by decide) rfl [.int xb2]) rfl rfl hl.1 rfl (lv_room (Nat.le_of_ble_eq_true rfl)) dL_isSound_46 ⟨Nat.zero_le _, Nat.zero_le _⟩) hS (fun r207 s208 H locs hp206 hw hS => ?_)
        obtain ⟨err204, esr204, hzr204⟩ := hp206
        obtain rfl := esr204.symm
        obtain rfl := err204.symm
        refine lv_iload_n hx hb dL_isSound_49 rfl (lv_at hl 4 rfl) ?_
        refine lv_iconst (v := 1) hx hb dL_isSound_50 (by decide) ?_
        refine lv_icmp_ne (tgt := 58) hx hb dL_isSound_51 (by decide) (fun c209 => ?_) (fun c209 => ?_)
        · skip
          replace h := ite_n c209 h
          refine lv_iconst (v := 0) hx hb dL_isSound_58 (by decide) ?_
          exact blk59 τ xb1 xb2 xb3 xbs0 0 r204 hcτ h _ _ hw hS ls (lv_sub hl [1, 2, 3, 4, 0] rfl)
        · skip
          replace h := ite_p c209 h
          refine lv_iconst (v := 1) hx hb dL_isSound_54 (by decide) ?_
          refine lv_goto (tgt := 59) hx hb dL_isSound_55 (by decide) ?_
          exact blk59 τ xb1 xb2 xb3 xbs0 1 r204 hcτ h _ _ hw hS ls (lv_sub hl [1, 2, 3, 4, 0] rfl)
      intro τ xb1 xb2 hcτ h H locs hw hS ls hl
      rw [f_L_isSound_4_s] at h
      refine lv_iload_n hx hb dL_isSound_4 rfl (lv_at hl 2 rfl) ?_
      refine lv_aload_n hx hb dL_isSound_5 rfl (lv_at hl 0 rfl) ?_
      obtain ⟨r210, e211, h⟩ := ob1_e h
      refine pcalli (va_runV (As := []) (rest := [.int xb2]) ⟨hx, hb, hml, hown, hts⟩ (c_X9_added (l := l) (G := G) (tys := tys) (σ := τ) htys  e211) (cwV 0 hts (gVA wm398 wm399 wm400 wm2 wm401) rfl rfl rfl (by decide +kernel) ⟨(Nat.le_of_ble_eq_true rfl), (Nat.le_of_ble_eq_true rfl)⟩) (pv_preV hA hS hw hK 9 0 Nat.one_pos (by decide) rfl []) rfl rfl hl.1 rfl (lv_room (Nat.le_of_ble_eq_true rfl)) dL_isSound_6 ⟨Nat.zero_le _, Nat.zero_le _⟩) hS (fun r213 s214 H locs hp212 hw hS => ?_)
      obtain ⟨err210, esr210⟩ := hp212
      obtain rfl := esr210.symm
      obtain rfl := err210.symm
      refine lv_icmp_ge (tgt := 479) hx hb dL_isSound_9 (by decide) (fun c215 => ?_) (fun c215 => ?_)
      · skip
        replace h := ite_p c215 h
        refine lv_iload_n hx hb dL_isSound_479 rfl (lv_at hl 1 rfl) ?_
        refine lv_aload_n hx hb dL_isSound_480 rfl (lv_at hl 0 rfl) ?_
        obtain ⟨r216, e217, h⟩ := ob1_e h
        refine pcalli (va_runV (As := []) (rest := [.int xb1]) ⟨hx, hb, hml, hown, hts⟩ (c_X9_nodes (l := l) (G := G) (tys := tys) (σ := τ) htys  e217) (cwV 0 hts (gVA wm750 wm751 wm752 wm2 wm753) rfl rfl rfl (by decide +kernel) ⟨(Nat.le_of_ble_eq_true rfl), (Nat.le_of_ble_eq_true rfl)⟩) (pv_preV hA hS hw hK 9 0 Nat.one_pos (by decide) rfl []) rfl rfl hl.1 rfl (lv_room (Nat.le_of_ble_eq_true rfl)) dL_isSound_481 ⟨Nat.zero_le _, Nat.zero_le _⟩) hS (fun r219 s220 H locs hp218 hw hS => ?_)
        obtain ⟨err216, esr216⟩ := hp218
        obtain rfl := esr216.symm
        obtain rfl := err216.symm
        refine lv_icmp_ne (tgt := 507) hx hb dL_isSound_484 (by decide) (fun c221 => ?_) (fun c221 => ?_)
        · skip
          replace h := ite_n c221 h
          refine lv_iconst (v := 0) hx hb dL_isSound_507 (by decide) ?_
          exact pez hx hb hr (is01_nar (Or.inl rfl)) hlocks hA hw hK hS ⟨(pst h hcτ).1, (pst h hcτ).2.1, (pst h hcτ).2.2, (Or.inl rfl)⟩ dL_isSound_508
        · skip
          replace h := ite_p c221 h
          refine lv_aload_n hx hb dL_isSound_487 rfl (lv_at hl 0 rfl) ?_
          obtain ⟨r222, σ223, e224, h⟩ := ob2_e h
          refine pcalli (va_runV (As := []) (rest := []) ⟨hx, hb, hml, hown, hts⟩ (c_X9_pageHeight (l := l) (G := G) (tys := tys) (σ := τ) htys  e224) (cwV 0 hts (gVA wm754 wm755 wm756 wm2 wm757) rfl rfl rfl (by decide +kernel) ⟨(Nat.le_of_ble_eq_true rfl), (Nat.le_of_ble_eq_true rfl)⟩) (pv_preV hA hS hw hK 9 0 Nat.one_pos (by decide) rfl []) rfl rfl hl.1 rfl (lv_room (Nat.le_of_ble_eq_true rfl)) dL_isSound_488 ⟨Nat.zero_le _, Nat.zero_le _⟩) hS (fun r226 s227 H locs hp225 hw hS => ?_)
          obtain ⟨err222, esσ223, hdσ223⟩ := hp225
          obtain rfl := esσ223.symm
          have hcσ223 : σ223.1 = σ.1 := hdσ223.trans hcτ
          obtain rfl := err222.symm
          refine lv_if_lt (tgt := 507) hx hb dL_isSound_491 (by decide) (fun c228 => ?_) (fun c228 => ?_)
          · skip
            replace h := ite_p c228 h
            refine lv_iconst (v := 0) hx hb dL_isSound_507 (by decide) ?_
            exact pez hx hb hr (is01_nar (Or.inl rfl)) hlocks hA hw hK hS ⟨(pst h hcσ223).1, (pst h hcσ223).2.1, (pst h hcσ223).2.2, (Or.inl rfl)⟩ dL_isSound_508
          · skip
            replace h := ite_n c228 h
            refine lv_aload_n hx hb dL_isSound_494 rfl (lv_at hl 0 rfl) ?_
            obtain ⟨r229, σ230, e231, h⟩ := ob2_e h
            refine pcalld (va_runV (As := []) (rest := []) ⟨hx, hb, hml, hown, hts⟩ (c_X9_meanLine (l := l) (G := G) (tys := tys) (σ := σ223) htys  e231) (cwV 0 hts (gVA wm762 wm763 wm764 wm2 wm765) rfl rfl rfl (by decide +kernel) ⟨(Nat.le_of_ble_eq_true rfl), (Nat.le_of_ble_eq_true rfl)⟩) (pv_preV hA hS hw hK 9 0 Nat.one_pos (by decide) rfl []) rfl rfl hl.1 rfl (lv_room (Nat.le_of_ble_eq_true rfl)) dL_isSound_495 ⟨Nat.zero_le _, Nat.zero_le _⟩) hS (fun r233 s234 H locs hp232 hw hS => ?_)
            obtain ⟨err229, esσ230, hdσ230⟩ := hp232
            obtain rfl := esσ230.symm
            have hcσ230 : σ230.1 = σ.1 := hdσ230.trans hcσ223
            obtain rfl := err229.symm
            refine lv_dconst0 hx hb dL_isSound_498 ?_
            refine lv_dcmp hx hb dL_isSound_499 ?_
            refine lv_if_lt (tgt := 507) hx hb dL_isSound_500 (by decide) (fun c235 => ?_) (fun c235 => ?_)
            · skip
              replace h := ite_p c235 h
              refine lv_iconst (v := 0) hx hb dL_isSound_507 (by decide) ?_
              exact pez hx hb hr (is01_nar (Or.inl rfl)) hlocks hA hw hK hS ⟨(pst h hcσ230).1, (pst h hcσ230).2.1, (pst h hcσ230).2.2, (Or.inl rfl)⟩ dL_isSound_508
            · skip
              replace h := ite_n c235 h
              refine lv_iconst (v := 1) hx hb dL_isSound_503 (by decide) ?_
              refine lv_goto (tgt := 508) hx hb dL_isSound_504 (by decide) ?_
              exact pez hx hb hr (is01_nar (Or.inr rfl)) hlocks hA hw hK hS ⟨(pst h hcσ230).1, (pst h hcσ230).2.1, (pst h hcσ230).2.2, (Or.inr rfl)⟩ dL_isSound_508
      · skip
        replace h := ite_n c215 h
        refine lv_aload_n hx hb dL_isSound_12 rfl (lv_at hl 0 rfl) ?_
        refine lv_iload_n hx hb dL_isSound_13 rfl (lv_at hl 2 rfl) ?_
        obtain ⟨r236, e237, h⟩ := ob1_e h
        refine pcalli (va_runV (As := [.int xb2]) (rest := []) ⟨hx, hb, hml, hown, hts⟩ (c_X9_isThere (l := l) (G := G) (tys := tys) (σ := τ) htys  e237) (cwV 1 hts (gVA wm402 wm403 wm404 wm2 wm405) rfl rfl rfl (by decide +kernel) ⟨(Nat.le_of_ble_eq_true rfl), (Nat.le_of_ble_eq_true rfl)⟩) (pv_preV hA hS hw hK 9 0 Nat.one_pos (by decide) rfl [.int xb2]) rfl rfl hl.1 rfl (lv_room (Nat.le_of_ble_eq_true rfl)) dL_isSound_14 ⟨Nat.zero_le _, Nat.zero_le _⟩) hS (fun r239 s240 H locs hp238 hw hS => ?_)
        obtain ⟨err236, esr236, hzr236⟩ := hp238
        obtain rfl := esr236.symm
        obtain rfl := err236.symm
        refine lv_if_ne (tgt := 23) hx hb dL_isSound_17 (by decide) (fun c241 => ?_) (fun c241 => ?_)
        · skip
          replace h := ite_n c241 h
          refine lv_iinc (v := xb1 + 1) (lv' := [(1, .int (xb1 + 1)), (0, .ref (G.2.2.1 9 0)), (2, .int xb2)]) hx hb dL_isSound_23 hl (k := 1) rfl (by rfl) (by decide) rfl (fun ls hl => ?_)
          refine lv_aload_n hx hb dL_isSound_26 rfl (lv_at hl 1 rfl) ?_
          refine lv_iload_n hx hb dL_isSound_27 rfl (lv_at hl 2 rfl) ?_
          obtain ⟨r242, σ243, e244, h⟩ := ob2_e h
          refine pcalli (va_runV (As := [.int xb2]) (rest := []) ⟨hx, hb, hml, hown, hts⟩ (c_X9_sortOf (l := l) (G := G) (tys := tys) (σ := τ) htys  e244) (cwV 1 hts (gVA wm406 wm407 wm408 wm2 wm409) rfl rfl rfl (by decide +kernel) ⟨(Nat.le_of_ble_eq_true rfl), (Nat.le_of_ble_eq_true rfl)⟩) (pv_preV hA hS hw hK 9 0 Nat.one_pos (by decide) rfl [.int xb2]) rfl rfl hl.1 rfl (lv_room (Nat.le_of_ble_eq_true rfl)) dL_isSound_28 ⟨Nat.zero_le _, Nat.zero_le _⟩) hS (fun r246 s247 H locs hp245 hw hS => ?_)
          obtain ⟨err242, esσ243, hdσ243⟩ := hp245
          obtain rfl := esσ243.symm
          have hcσ243 : σ243.1 = σ.1 := hdσ243.trans hcτ
          obtain rfl := err242.symm
          refine lv_istore_n (lv' := [(3, .int r242), (1, .int (xb1 + 1)), (0, .ref (G.2.2.1 9 0)), (2, .int xb2)]) hx hb dL_isSound_31 rfl hl (by decide) rfl (fun ls hl => ?_)
          refine lv_iload_n hx hb dL_isSound_32 rfl (lv_at hl 0 rfl) ?_
          refine lv_iconst (v := 2) hx hb dL_isSound_33 (by decide) ?_
          refine lv_icmp_le (tgt := 41) hx hb dL_isSound_34 (by decide) (fun c248 => ?_) (fun c248 => ?_)
          · skip
            replace h := ite_p c248 h
            refine lv_iconst (v := 0) hx hb dL_isSound_41 (by decide) ?_
            exact blk42 σ243 (xb1 + 1) xb2 r242 0 hcσ243 h _ _ hw hS ls (lv_sub hl [2, 1, 3, 0] rfl)
          · skip
            replace h := ite_n c248 h
            refine lv_iconst (v := 1) hx hb dL_isSound_37 (by decide) ?_
            refine lv_goto (tgt := 42) hx hb dL_isSound_38 (by decide) ?_
            exact blk42 σ243 (xb1 + 1) xb2 r242 1 hcσ243 h _ _ hw hS ls (lv_sub hl [2, 1, 3, 0] rfl)
        · skip
          replace h := ite_p c241 h
          refine lv_goto (tgt := 473) hx hb dL_isSound_20 (by decide) ?_
          refine lv_iinc (v := xb2 + 1) (lv' := [(2, .int (xb2 + 1)), (0, .ref (G.2.2.1 9 0)), (1, .int xb1)]) hx hb dL_isSound_473 hl (k := 2) rfl (by rfl) (by decide) rfl (fun ls hl => ?_)
          refine lv_goto (tgt := 4) hx hb dL_isSound_476 (by decide) ?_
          exact ih4 τ xb1 (xb2 + 1) hcτ h _ _ hw hS ls (lv_sub hl [1, 2, 0] rfl)
  refine lv_iconst (v := 0) hx hb dL_isSound_0 (by decide) ?_
  refine lv_istore_n (lv' := [(1, .int 0), (0, .ref (G.2.2.1 9 0))]) hx hb dL_isSound_1 rfl hl (by decide) rfl (fun ls hl => ?_)
  refine lv_iconst (v := 0) hx hb dL_isSound_2 (by decide) ?_
  refine lv_istore_n (lv' := [(2, .int 0), (1, .int 0), (0, .ref (G.2.2.1 9 0))]) hx hb dL_isSound_3 rfl hl (by decide) rfl (fun ls hl => ?_)
  exact loop4 fu σ 0 0 rfl h _ _ hw hS ls (lv_sub hl [2, 1, 0] rfl)
