/-! LISTS: size and get, over the pool -/
section PVLS
variable {p : Program} {l : Launch} {e : Env} {R : Room} {s : State} {m : MethodId} {args : Array Value} {below : List Frame} {meth : Method} {c : Code} {H : Heap} {locs : List Loc} {cells slots : Nat} {Q : State → Prop}
variable {cc : ByteArray} {pc : Nat} {ls : Array Slot} {rest st0 : List Value} {a : Array Value} {tys : List (ClassId × FieldType)} {H0 : Heap} {G : PvG} {σ : PvS} {mc ms : Nat}
/-- a list's field 'size' is read -/
theorem plS {own : String} {index : Nat} {Ts : List Cond} (hx : p.tables.exec = Jvm.exec) (hb : c.code = cc) (hts : ∀ w ∈ Ts, w.before args s = true) (hown : s.vm.findClass own = some m.cls) (hK : va_K G.2.1 pvC tys s) (hw : pvW G σ H) (j : Nat) (hj : j < σ.1 0 + 3) (hin : ∀ w ∈ u_ws RJx4a65c TJx4a65c 3, w ∈ Ts) (hlink : (Cond.fieldLink own index "java/util/ArrayList" "size" "I").before args s = true) (hdg : decode cc pc = .ok (.getfield index, 3))
    (kk : W p l e R s m args below meth c H locs cells slots Q (F0 m (pc + 3) ls (.int (nI (σ.2.2.2.2 j).length) :: rest))) : W p l e R s m args below meth c H locs cells slots Q (F0 m pc ls (.ref (G.2.2.1 10 j) :: rest)) := by
  obtain ⟨L, f, hO, ⟨ba, hL⟩, hP, hD, hz, hC⟩ := hw
  obtain ⟨⟨a1, -⟩, ⟨mc, b⟩, -⟩ := hL j hj
  obtain ⟨q0, hq⟩ := va_pl_get (X := []) (f := f) a1
  exact va_get (D := G.2.1) (ci := 0) (C := RJx4a65c) (T := TJx4a65c) (N := 3) (fs := [.int mc, .ref (ba j), .int (nI (σ.2.2.2.2 j).length)]) hx hb hts hin hown hK hP q0 (by rw [← b]; exact hq) rfl 2 (by decide) hlink (fun _ h9 => h9) rfl hdg kk
/-- an element of a list is read: the field 'elementData', the place, the element -/
theorem plE {own : String} {index : Nat} {Ts : List Cond} (hx : p.tables.exec = Jvm.exec) (hb : c.code = cc) (hts : ∀ w ∈ Ts, w.before args s = true) (hown : s.vm.findClass own = some m.cls) (hK : va_K G.2.1 pvC tys s) (htys : tys = pvT G) (hw : pvW G σ H) (j : Nat) (hj : j < σ.1 0 + 3) (i : Nat) (hi : i < (σ.2.2.2.2 j).length) (hin : ∀ w ∈ u_ws RJx4a65c TJx4a65c 3, w ∈ Ts) (hlink : (Cond.fieldLink own index "java/util/ArrayList" "elementData" "[Ljava/lang/Object;").before args s = true) (hl : ls[1]? = some (.val (.int (nI i)))) (hdg : decode cc pc = .ok (.getfield index, 3)) (hdg1 : decode cc (pc + 3) = .ok (.iload_n 1, 1)) (hdg2 : decode cc (pc + 3 + 1) = .ok (.aaload, 1))
    (kk : W p l e R s m args below meth c H locs cells slots Q (F0 m (pc + 3 + 1 + 1) ls (.ref (G.2.2.1 (pvK j) ((σ.2.2.2.2 j).getD i 0)) :: rest))) : W p l e R s m args below meth c H locs cells slots Q (F0 m pc ls (.ref (G.2.2.1 10 j) :: rest)) := by
  obtain ⟨L, f, hO, ⟨ba, hL⟩, hP, hD, hz, hC⟩ := hw
  obtain ⟨⟨a1, -, -, a4, -⟩, ⟨mc, b⟩, c9⟩ := hL j hj
  obtain ⟨q0, hq⟩ := va_pl_get (X := []) (f := f) a1
  refine va_get (D := G.2.1) (ci := 0) (C := RJx4a65c) (T := TJx4a65c) (N := 3) (fs := [.int mc, .ref (ba j), .int (nI (σ.2.2.2.2 j).length)]) hx hb hts hin hown hK hP q0 (by rw [← b]; exact hq) rfl 1 (by decide) hlink (fun _ h9 => h9) rfl hdg ?_
  refine lv_iload_n hx hb hdg1 rfl hl ?_
  rcases c9 with ⟨c1, -⟩ | ⟨cap, c1, c2, c3, c4, c5, c6, c7⟩
  · rw [c1] at hi; exact absurd hi (Nat.not_lt_zero i)
  obtain ⟨q1, hq1⟩ := va_pl_get (X := []) (f := f) c1
  subst htys
  refine va_aldq (D := G.2.1) hx hb hK hP q1 3 (by rw [← c7]; exact hq1) rfl (vp_in_nI (Nat.lt_of_lt_of_le hi c5) (by omega)) hdg2 ?_
  have e1 : va_rf (((σ.2.2.2.2 j)[(nI i).toNatClampNeg]?).map (G.2.2.1 (pvK j))) = .ref (G.2.2.1 (pvK j) ((σ.2.2.2.2 j).getD i 0)) := by
    rw [nI_clamp (by omega), List.getElem?_eq_getElem hi, List.getD_eq_getElem?_getD, List.getElem?_eq_getElem hi]
    rfl
  rw [e1]
  exact kk
end PVLS
set_option maxHeartbeats 4000000 in
set_option maxRecDepth 100000 in
theorem c_check3 {l : Launch} {G : PvG} {tys : List (ClassId × FieldType)} {σ : PvS} {i n : Nat} (hi : i < n) (hn : n < 2 ^ 31) {v : Value} : Met l yJ3_checkIndex_8e157 (Cond.code yJ3_checkIndex_8e157 cJ3_checkIndex_8e157 3 (some .int) :: WA) ({ frames := 0, cells := 0, slots := 0, locals := 0 }) (va_Pc [.int (nI i), .int (nI n), .null] (pvU G tys σ)) (va_Qi (fun r σ' => r = nI i ∧ σ' = σ) (pvU G tys) (pvB G)) 0 0 (pvB G) := by
  refine Met.ofW (cc := cJ3_checkIndex_8e157) (maxL := 3) (ret := (some .int)) (by decide) rfl ?_
  intro p e s m args below meth c s₁ B hml hv
  obtain ⟨rfl, hw, hK, hA⟩ := hv
  have hx := B.exec
  have hb := B.bytes
  have hr := B.returns
  have hlocks := B.notSynchronized
  have hS : va_S (pvB G) s.heap s.heap [] := va_S.rf
  have hl := lv_entry ([.int (nI i), .int (nI n), .null]) (n := 3) (Nat.le_of_ble_eq_true rfl)
  rw [lg_entry_eq]
  generalize (lg_sl ([.int (nI i), .int (nI n), .null]) ++ List.replicate (3 - (lg_sl ([.int (nI i), .int (nI n), .null])).length) Slot.unset).toArray = ls at hl ⊢
  have hl : lv_has ls 3 [(0, .int (nI i)), (1, .int (nI n)), (2, .null)] := hl
  refine lv_iload_n hx hb dJ3_checkIndex_8e157_0 rfl (lv_at hl 0 rfl) ?_
  refine lv_if_lt (tgt := 9) hx hb dJ3_checkIndex_8e157_1 (by decide) (fun c1 => absurd c1 (nI_pos (by omega))) (fun c1 => ?_)
  refine lv_iload_n hx hb dJ3_checkIndex_8e157_4 rfl (lv_at hl 0 rfl) ?_
  refine lv_iload_n hx hb dJ3_checkIndex_8e157_5 rfl (lv_at hl 1 rfl) ?_
  refine lv_icmp_lt (tgt := 16) hx hb dJ3_checkIndex_8e157_6 (by decide) (fun c2 => ?_) (fun c2 => absurd (nI_lt hi hn) c2)
  refine lv_iload_n hx hb dJ3_checkIndex_8e157_16 rfl (lv_at hl 0 rfl) ?_
  exact pei hx hb hr hlocks hA hw hK hS ⟨rfl, rfl⟩ dJ3_checkIndex_8e157_17
set_option maxHeartbeats 4000000 in
set_option maxRecDepth 100000 in
theorem c_check15 {l : Launch} {G : PvG} {tys : List (ClassId × FieldType)} {σ : PvS} {i n : Nat} (hi : i < n) (hn : n < 2 ^ 31) : Met l yJ15_checkIndex_7cf53 (Cond.code yJ15_checkIndex_7cf53 cJ15_checkIndex_7cf53 2 (some .int) :: WA) ({ frames := 1, cells := 0, slots := 0, locals := 22 }) (va_Pc [.int (nI i), .int (nI n)] (pvU G tys σ)) (va_Qi (fun r σ' => r = nI i ∧ σ' = σ) (pvU G tys) (pvB G)) 0 0 (pvB G) := by
  refine Met.ofW (cc := cJ15_checkIndex_7cf53) (maxL := 2) (ret := (some .int)) (by decide) rfl ?_
  intro p e s m args below meth c s₁ B hml hv
  obtain ⟨rfl, hw, hK, hA⟩ := hv
  have hx := B.exec
  have hb := B.bytes
  have hr := B.returns
  have hts0 := atoms_spec (ws := (Cond.code yJ15_checkIndex_7cf53 cJ15_checkIndex_7cf53 2 (some .int) :: WA)) B.pre
  have hts : ∀ w ∈ WA, w.before _ s = true := fun w h => hts0 w (List.mem_cons_of_mem _ h)
  have hown : s.vm.findClass RJ15 = some m.cls := findClass_of_methodNamed B.named
  have hlocks := B.notSynchronized
  have hS : va_S (pvB G) s.heap s.heap [] := va_S.rf
  have hl := lv_entry ([.int (nI i), .int (nI n)]) (n := 2) (Nat.le_of_ble_eq_true rfl)
  rw [lg_entry_eq]
  generalize (lg_sl ([.int (nI i), .int (nI n)]) ++ List.replicate (2 - (lg_sl ([.int (nI i), .int (nI n)])).length) Slot.unset).toArray = ls at hl ⊢
  have hl : lv_has ls 2 [(0, .int (nI i)), (1, .int (nI n))] := hl
  refine lv_iload_n hx hb dJ15_checkIndex_7cf53_0 rfl (lv_at hl 0 rfl) ?_
  refine lv_iload_n hx hb dJ15_checkIndex_7cf53_1 rfl (lv_at hl 1 rfl) ?_
  refine lv_null hx hb dJ15_checkIndex_7cf53_2 ?_
  refine pcalli (va_runS (As := [.int (nI i), .int (nI n), .null]) (rest := []) ⟨hx, hb, hml, hown, hts⟩ (c_check3 (l := l) (G := G) (tys := tys) (σ := σ) hi hn (v := .null)) (va_cwS 3 hts (gSA wm262 wm263 wm264 wm265) rfl rfl rfl (by decide +kernel) ⟨Nat.le_of_ble_eq_true rfl, Nat.le_of_ble_eq_true rfl⟩) (pv_preS hA hS hw hK [.int (nI i), .int (nI n), .null]) rfl rfl hl.1 rfl (lv_room (Nat.le_of_ble_eq_true rfl)) dJ15_checkIndex_7cf53_3 ⟨Nat.zero_le _, Nat.zero_le _⟩) hS (fun r σ1 H locs hp hw hS => ?_)
  exact pei hx hb hr hlocks hA hw hK hS hp dJ15_checkIndex_7cf53_6
set_option maxHeartbeats 4000000 in
set_option maxRecDepth 100000 in
theorem c_lsize {l : Launch} {G : PvG} {tys : List (ClassId × FieldType)} {σ : PvS} {j : Nat} (hj : j < σ.1 0 + 3) : Met l yJx4a65c_size_8abf5 (Cond.code yJx4a65c_size_8abf5 cJx4a65c_size_8abf5 1 (some .int) :: WA) ({ frames := 0, cells := 0, slots := 0, locals := 0 }) (va_Pc [.ref (G.2.2.1 10 j)] (pvU G tys σ)) (va_Qi (fun r σ' => r = nI (σ.2.2.2.2 j).length ∧ σ' = σ) (pvU G tys) (pvB G)) 0 0 (pvB G) := by
  refine Met.ofW (cc := cJx4a65c_size_8abf5) (maxL := 1) (ret := (some .int)) (by decide) rfl ?_
  intro p e s m args below meth c s₁ B hml hv
  obtain ⟨rfl, hw, hK, hA⟩ := hv
  have hx := B.exec
  have hb := B.bytes
  have hr := B.returns
  have hts0 := atoms_spec (ws := (Cond.code yJx4a65c_size_8abf5 cJx4a65c_size_8abf5 1 (some .int) :: WA)) B.pre
  have hts : ∀ w ∈ WA, w.before _ s = true := fun w h => hts0 w (List.mem_cons_of_mem _ h)
  have hown : s.vm.findClass RJx4a65c = some m.cls := findClass_of_methodNamed B.named
  have hlocks := B.notSynchronized
  have hS : va_S (pvB G) s.heap s.heap [] := va_S.rf
  have hl := lv_entry ([.ref (G.2.2.1 10 j)]) (n := 1) (Nat.le_of_ble_eq_true rfl)
  rw [lg_entry_eq]
  generalize (lg_sl ([.ref (G.2.2.1 10 j)]) ++ List.replicate (1 - (lg_sl ([.ref (G.2.2.1 10 j)])).length) Slot.unset).toArray = ls at hl ⊢
  have hl : lv_has ls 1 [(0, .ref (G.2.2.1 10 j))] := hl
  refine lv_aload_n hx hb dJx4a65c_size_8abf5_0 rfl (lv_at hl 0 rfl) ?_
  refine plS hx hb hts hown hK hw j hj inF_Jx4a65c (hts _ wm122) dJx4a65c_size_8abf5_1 ?_
  exact pei hx hb hr hlocks hA hw hK hS ⟨rfl, rfl⟩ dJx4a65c_size_8abf5_4
set_option maxHeartbeats 4000000 in
set_option maxRecDepth 100000 in
theorem c_lelem {l : Launch} {G : PvG} {tys : List (ClassId × FieldType)} {σ : PvS} (htys : tys = pvT G) {j : Nat} (hj : j < σ.1 0 + 3) {i : Nat} (hi : i < (σ.2.2.2.2 j).length) : Met l yJx4a65c_elementData_915e3 (Cond.code yJx4a65c_elementData_915e3 cJx4a65c_elementData_915e3 2 (some (.object "java/lang/Object")) :: WA) ({ frames := 0, cells := 0, slots := 0, locals := 0 }) (va_Pc [.ref (G.2.2.1 10 j), .int (nI i)] (pvU G tys σ)) (va_Qq (fun r σ' => r = some (G.2.2.1 (pvK j) ((σ.2.2.2.2 j).getD i 0)) ∧ σ' = σ) (pvU G tys) (pvB G)) 0 0 (pvB G) := by
  refine Met.ofW (cc := cJx4a65c_elementData_915e3) (maxL := 2) (ret := (some (.object "java/lang/Object"))) (by decide) rfl ?_
  intro p e s m args below meth c s₁ B hml hv
  obtain ⟨rfl, hw, hK, hA⟩ := hv
  have hx := B.exec
  have hb := B.bytes
  have hr := B.returns
  have hts0 := atoms_spec (ws := (Cond.code yJx4a65c_elementData_915e3 cJx4a65c_elementData_915e3 2 (some (.object "java/lang/Object")) :: WA)) B.pre
  have hts : ∀ w ∈ WA, w.before _ s = true := fun w h => hts0 w (List.mem_cons_of_mem _ h)
  have hown : s.vm.findClass RJx4a65c = some m.cls := findClass_of_methodNamed B.named
  have hlocks := B.notSynchronized
  have hS : va_S (pvB G) s.heap s.heap [] := va_S.rf
  have hl := lv_entry ([.ref (G.2.2.1 10 j), .int (nI i)]) (n := 2) (Nat.le_of_ble_eq_true rfl)
  rw [lg_entry_eq]
  generalize (lg_sl ([.ref (G.2.2.1 10 j), .int (nI i)]) ++ List.replicate (2 - (lg_sl ([.ref (G.2.2.1 10 j), .int (nI i)])).length) Slot.unset).toArray = ls at hl ⊢
  have hl : lv_has ls 2 [(0, .ref (G.2.2.1 10 j)), (1, .int (nI i))] := hl
  refine lv_aload_n hx hb dJx4a65c_elementData_915e3_0 rfl (lv_at hl 0 rfl) ?_
  refine plE hx hb hts hown hK htys hw j hj i hi inF_Jx4a65c (hts _ wm47) (lv_at hl 1 rfl) dJx4a65c_elementData_915e3_1 dJx4a65c_elementData_915e3_4 dJx4a65c_elementData_915e3_5 ?_
  exact peq hx hb hr (Or.inl ⟨_, rfl⟩) hlocks hA hw hK hS (r := some _) ⟨rfl, rfl⟩ dJx4a65c_elementData_915e3_6
set_option maxHeartbeats 4000000 in
set_option maxRecDepth 100000 in
theorem c_lget {l : Launch} {G : PvG} {tys : List (ClassId × FieldType)} {σ : PvS} (htys : tys = pvT G) {j : Nat} (hj : j < σ.1 0 + 3) {i : Nat} (hi : i < (σ.2.2.2.2 j).length) (h64 : (σ.2.2.2.2 j).length < 2 ^ 31) : Met l yJx4a65c_get_915e3 (Cond.code yJx4a65c_get_915e3 cJx4a65c_get_915e3 2 (some (.object "java/lang/Object")) :: WA) ({ frames := 2, cells := 0, slots := 0, locals := 43 }) (va_Pc [.ref (G.2.2.1 10 j), .int (nI i)] (pvU G tys σ)) (va_Qq (fun r σ' => r = some (G.2.2.1 (pvK j) ((σ.2.2.2.2 j).getD i 0)) ∧ σ' = σ) (pvU G tys) (pvB G)) 0 0 (pvB G) := by
  refine Met.ofW (cc := cJx4a65c_get_915e3) (maxL := 2) (ret := (some (.object "java/lang/Object"))) (by decide) rfl ?_
  intro p e s m args below meth c s₁ B hml hv
  obtain ⟨rfl, hw, hK, hA⟩ := hv
  have hx := B.exec
  have hb := B.bytes
  have hr := B.returns
  have hts0 := atoms_spec (ws := (Cond.code yJx4a65c_get_915e3 cJx4a65c_get_915e3 2 (some (.object "java/lang/Object")) :: WA)) B.pre
  have hts : ∀ w ∈ WA, w.before _ s = true := fun w h => hts0 w (List.mem_cons_of_mem _ h)
  have hown : s.vm.findClass RJx4a65c = some m.cls := findClass_of_methodNamed B.named
  have hlocks := B.notSynchronized
  have hS : va_S (pvB G) s.heap s.heap [] := va_S.rf
  have hl := lv_entry ([.ref (G.2.2.1 10 j), .int (nI i)]) (n := 2) (Nat.le_of_ble_eq_true rfl)
  rw [lg_entry_eq]
  generalize (lg_sl ([.ref (G.2.2.1 10 j), .int (nI i)]) ++ List.replicate (2 - (lg_sl ([.ref (G.2.2.1 10 j), .int (nI i)])).length) Slot.unset).toArray = ls at hl ⊢
  have hl : lv_has ls 2 [(0, .ref (G.2.2.1 10 j)), (1, .int (nI i))] := hl
  refine lv_iload_n hx hb dJx4a65c_get_915e3_0 rfl (lv_at hl 1 rfl) ?_
  refine lv_aload_n hx hb dJx4a65c_get_915e3_1 rfl (lv_at hl 0 rfl) ?_
  refine plS hx hb hts hown hK hw j hj inF_Jx4a65c (hts _ wm122) dJx4a65c_get_915e3_2 ?_
  refine pcalli (va_runS (As := [.int (nI i), .int (nI (σ.2.2.2.2 j).length)]) (rest := []) ⟨hx, hb, hml, hown, hts⟩ (c_check15 (l := l) (G := G) (tys := tys) (σ := σ) hi h64) (va_cwS 2 hts (gSA wm258 wm259 wm260 wm261) rfl rfl rfl (by decide +kernel) ⟨Nat.le_of_ble_eq_true rfl, Nat.le_of_ble_eq_true rfl⟩) (pv_preS hA hS hw hK [.int (nI i), .int (nI (σ.2.2.2.2 j).length)]) rfl rfl hl.1 rfl (lv_room (Nat.le_of_ble_eq_true rfl)) dJx4a65c_get_915e3_5 ⟨Nat.zero_le _, Nat.zero_le _⟩) hS (fun r σ1 H locs hp hw hS => ?_)
  obtain ⟨er, e1⟩ := hp
  obtain rfl := e1.symm
  refine lv_pop hx hb dJx4a65c_get_915e3_8 rfl ?_
  refine lv_aload_n hx hb dJx4a65c_get_915e3_9 rfl (lv_at hl 0 rfl) ?_
  refine lv_iload_n hx hb dJx4a65c_get_915e3_10 rfl (lv_at hl 1 rfl) ?_
  refine pcallq (va_runV (As := [.int (nI i)]) (rest := []) ⟨hx, hb, hml, hown, hts⟩ (c_lelem (l := l) (G := G) (tys := tys) (σ := σ) htys hj hi) (cwV 1 hts (gVA wm266 wm267 wm268 wm13 wm269) rfl rfl rfl (by decide +kernel) ⟨Nat.le_of_ble_eq_true rfl, Nat.le_of_ble_eq_true rfl⟩) (pl_preV hA hS hw hK j hj [.int (nI i)]) rfl rfl hl.1 rfl (lv_room (Nat.le_of_ble_eq_true rfl)) dJx4a65c_get_915e3_11 ⟨Nat.zero_le _, Nat.zero_le _⟩) hS (fun r σ1 H locs hp hw hS => ?_)
  exact peq hx hb hr (Or.inl ⟨_, rfl⟩) hlocks hA hw hK hS hp dJx4a65c_get_915e3_14
theorem c_lgetI {l : Launch} {G : PvG} {tys : List (ClassId × FieldType)} {σ : PvS} (htys : tys = pvT G) {j : Nat} (hj : j < σ.1 0 + 3) {x : Int32} (hi : vin x (σ.2.2.2.2 j).length) (h64 : (σ.2.2.2.2 j).length < 2 ^ 31) : Met l yJx4a65c_get_915e3 (Cond.code yJx4a65c_get_915e3 cJx4a65c_get_915e3 2 (some (.object "java/lang/Object")) :: WA) ({ frames := 2, cells := 0, slots := 0, locals := 43 }) (va_Pc [.ref (G.2.2.1 10 j), .int x] (pvU G tys σ)) (va_Qq (fun r σ' => r = some (G.2.2.1 (pvK j) ((σ.2.2.2.2 j).getD x.toNatClampNeg 0)) ∧ σ' = σ) (pvU G tys) (pvB G)) 0 0 (pvB G) := by
  obtain ⟨k, hk, rfl⟩ := vp_in_of hi h64
  rw [nI_clamp (Nat.lt_trans hk h64)]
  exact c_lget htys hj hk h64
