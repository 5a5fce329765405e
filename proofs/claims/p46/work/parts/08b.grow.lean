/-! LISTS, changed: the methods of java.util.ArrayList that do it -/
def pvUx (G : PvG) (tys : List (ClassId × FieldType)) (σ : PvS) (j : Nat) (m : Int32) (b : Nat) (z : Int32) (AR : List LxA) (U : State) : Prop := lxW G σ j m b z AR U.heap ∧ va_K G.2.1 pvC tys U ∧ pvA0 G U U.heap
theorem pvUx_calling {G : PvG} {tys : List (ClassId × FieldType)} {σ : PvS} {j : Nat} {mm : Int32} {b : Nat} {z : Int32} {AR : List LxA} {av : List Value} : FrameBlind (va_Pc av (pvUx G tys σ j mm b z AR)) := fun a U g mk q => ⟨q.1, q.2.1, va_K.moved (u := U) (U := U.calling g mk a) (Vm.Alike.refl U.vm) q.2.2.1, q.2.2.2.calling⟩
section LXC
variable {p : Program} {l : Launch} {e : Env} {R : Room} {s : State} {m : MethodId} {args : Array Value} {below : List Frame} {meth : Method} {c : Code} {H : Heap} {locs : List Loc} {cells slots : Nat} {Q : State → Prop}
variable {cc : ByteArray} {pc : Nat} {ls : Array Slot} {rest st0 : List Value} {a : Array Value} {tys : List (ClassId × FieldType)} {H0 : Heap} {G : PvG} {σ : PvS} {mc ms : Nat} {j : Nat} {mm : Int32} {b : Nat} {z : Int32} {AR : List LxA}
theorem lx_preS (hA : pvA0 G s s.heap) (hS : va_S (pvB G) s.heap H locs) (hw : lxW G σ j mm b z AR H) (hK : va_K G.2.1 pvC tys s) (As : List Value) : PreS s H (va_Pc As (pvUx G tys σ j mm b z AR)) As :=
  ⟨pvUx_calling, fun U hU hW => ⟨rfl, by rw [hU]; exact hw, va_K.moved hW.alike hK, hA.to hS hW hU⟩⟩
theorem lx_recv (hw : lxW G σ j mm b z AR H) (hK : va_K G.2.1 pvC tys s) (hj : j < σ.1 0 + 3) : ∃ cell : Cell, H[G.2.2.1 10 j]? = some cell ∧ cell.vm.isStatics = false ∧ s.vm.findClass RJx4a65c = some cell.cls := by
  obtain ⟨L, f, hO, ⟨ba, h1, h2, h3, h4⟩, hP, hD, hz⟩ := hw
  obtain ⟨q0, hq⟩ := va_pl_get (X := []) (f := f) (h1 j hj).1
  exact va_recv (ci := 0) hK hP rfl (by rw [← h3]; exact hq)
theorem lx_preV (hA : pvA0 G s s.heap) (hS : va_S (pvB G) s.heap H locs) (hw : lxW G σ j mm b z AR H) (hK : va_K G.2.1 pvC tys s) (hj : j < σ.1 0 + 3) (As : List Value) : PreV s H RJx4a65c (G.2.2.1 10 j) (va_Pc (.ref (G.2.2.1 10 j) :: As) (pvUx G tys σ j mm b z AR)) As :=
  ⟨pvUx_calling, lx_recv hw hK hj, fun U hU hW => ⟨rfl, by rw [hU]; exact hw, va_K.moved hW.alike hK, hA.to hS hW hU⟩⟩
theorem lx_arr (hw : lxW G σ j mm b z AR H) (hK : va_K G.2.1 pvC tys s) (htys : tys = pvT G) {k : Nat} {x : LxA} (hk : AR[k]? = some x) : ∃ cell : Cell, H[x.1]? = some cell ∧ cell.vm.isStatics = false ∧ s.vm.findClass "[Ljava/lang/Object;" = some cell.cls := by
  obtain ⟨L, f, hO, ⟨ba, h1, h2, h3, h4, h5⟩, hP, hD, hz⟩ := hw
  obtain ⟨d1, d2, d3, d4, d5, d6, d7⟩ := h4 k x hk
  obtain ⟨q0, hq⟩ := va_pl_get (X := []) (f := f) d1
  have hc : H[x.1]? = some (vp_cell (G.1 3) (x.2.1, .inr (.inr (.inr (.inr x.2.2))))) := by
    have := hP q0 _ hq
    rw [d6] at this
    exact this
  subst htys
  obtain ⟨_, _, _, _, _, b2⟩ := (hK.2 3 (G.1 3, .object "java/lang/Object") rfl).2
  exact ⟨_, hc, rfl, b2⟩
/-- what an array of the list's holds behind a change -/
def lxHas (AR : List LxA) (b cap : Nat) (g : Nat → Option Nat) : Prop := ∃ k : Nat, AR[k]? = some (b, cap, g)
end LXC
set_option maxHeartbeats 4000000 in
set_option maxRecDepth 100000 in
theorem c_newLength {l : Launch} {x y w : Int32} (h1 : 0 < x + imax y w) (h2 : x + imax y w ≤ 2147483639) : Met l yJ8_newLength_cabcc (Cond.code yJ8_newLength_cabcc cJ8_newLength_cabcc 4 (some .int) :: WA) ({ frames := 1, cells := 0, slots := 0, locals := 14 }) (va_Pc [.int x, .int y, .int w] (fun _ => True)) (va_Qi (fun r (_ : Unit) => r = x + imax y w) (fun _ _ => True) (fun _ => False)) 0 0 (fun _ => False) := by
  refine Met.ofW (cc := cJ8_newLength_cabcc) (maxL := 4) (ret := (some .int)) (by decide) rfl ?_
  intro p e s m args below meth c s₁ B hml hv
  obtain ⟨rfl, -⟩ := hv
  have hx := B.exec
  have hb := B.bytes
  have hr := B.returns
  have hts0 := atoms_spec (ws := (Cond.code yJ8_newLength_cabcc cJ8_newLength_cabcc 4 (some .int) :: WA)) B.pre
  have hts : ∀ w ∈ WA, w.before _ s = true := fun w h => hts0 w (List.mem_cons_of_mem _ h)
  have hown : s.vm.findClass RJ8 = some m.cls := findClass_of_methodNamed B.named
  have hlocks := B.notSynchronized
  have hS : va_S (fun _ => False) s.heap s.heap [] := va_S.rf
  have hl := lv_entry ([.int x, .int y, .int w]) (n := 4) (Nat.le_of_ble_eq_true rfl)
  rw [lg_entry_eq]
  generalize (lg_sl ([.int x, .int y, .int w]) ++ List.replicate (4 - (lg_sl ([.int x, .int y, .int w])).length) Slot.unset).toArray = ls at hl ⊢
  have hl : lv_has ls 4 [(0, .int x), (1, .int y), (2, .int w)] := hl
  refine lv_iload_n hx hb dJ8_newLength_cabcc_0 rfl (lv_at hl 0 rfl) ?_
  refine lv_iload_n hx hb dJ8_newLength_cabcc_1 rfl (lv_at hl 1 rfl) ?_
  refine lv_iload_n hx hb dJ8_newLength_cabcc_2 rfl (lv_at hl 2 rfl) ?_
  refine pmmax hx hb (hml.trans hl.1.symm) hown (hts _ wm141) (hts _ wm111) (hts _ wm112) (hts _ wm113) (Nat.le_of_ble_eq_true rfl) (Nat.le_of_ble_eq_true rfl) (Nat.zero_le _) (Nat.zero_le _) dJ8_newLength_cabcc_3 ?_
  refine lv_iadd hx hb dJ8_newLength_cabcc_6 ?_
  refine lv_topi (fun v ev => ?_)
  rw [← ev] at h1 h2
  refine lv_istore_n (lv' := [(3, .int v), (0, .int x), (1, .int y), (2, .int w)]) hx hb dJ8_newLength_cabcc_7 rfl hl (by decide) rfl (fun ls hl => ?_)
  refine lv_iconst (v := 0) hx hb dJ8_newLength_cabcc_8 (by decide) ?_
  refine lv_iload_n hx hb dJ8_newLength_cabcc_9 rfl (lv_at hl 0 rfl) ?_
  refine lv_icmp_ge (tgt := 21) hx hb dJ8_newLength_cabcc_10 (by decide) (fun z => absurd z (Int32.not_le.mpr h1)) (fun _ => ?_)
  refine lv_iload_n hx hb dJ8_newLength_cabcc_13 rfl (lv_at hl 0 rfl) ?_
  refine lv_ldc (v := 2147483639) hx hb hown (hts _ wm142) dJ8_newLength_cabcc_14 ?_
  refine lv_icmp_gt (tgt := 21) hx hb dJ8_newLength_cabcc_16 (by decide) (fun z => absurd z (Int32.not_lt.mpr h2)) (fun _ => ?_)
  refine lv_iload_n hx hb dJ8_newLength_cabcc_19 rfl (lv_at hl 0 rfl) ?_
  exact W.iret hx hb hr (fun t ht hW => ⟨⟨v, (), rfl, ev, trivial⟩, hS.F ht⟩) hS.2.2 dJ8_newLength_cabcc_20
set_option maxHeartbeats 4000000 in
set_option maxRecDepth 100000 in
theorem c_copyOf3 {l : Launch} {G : PvG} {tys : List (ClassId × FieldType)} {σ : PvS} (htys : tys = pvT G) {j : Nat} (hj : j < σ.1 0 + 3) {mm : Int32} {b : Nat} {z : Int32} {AR : List LxA} {k : Nat} {x : LxA} (hk : AR[k]? = some x) {N : Nat} (hN : 0 < N ∧ N ≤ 1000) (hxN : x.2.1 ≤ N) {mi : Nat} : Met l yJ7_copyOf_6403c (Cond.code yJ7_copyOf_6403c cJ7_copyOf_6403c 4 (some (.array (.object "java/lang/Object"))) :: WA) ({ frames := 1, cells := 1, slots := N, locals := 60 }) (va_Pc [.ref x.1, .int (nI N), .ref mi] (fun U => pvUx G tys σ j mm b z AR U ∧ va_Mi "[Ljava/lang/Object;" mi U)) (va_Qq (fun r (q : Nat) => r = some q) (fun q => pvUx G tys σ j mm b z (AR ++ [(q, N, va_cpy x.2.2 (fun _ => none) 0 0 x.2.1)])) (pvB G)) 1 N (pvB G) := by
  refine Met.ofW (cc := cJ7_copyOf_6403c) (maxL := 4) (ret := (some (.array (.object "java/lang/Object")))) (by decide) rfl ?_
  intro p e s m args below meth c s₁ B hml hv
  obtain ⟨rfl, ⟨hw, hK, hA⟩, hM⟩ := hv
  have hx := B.exec
  have hb := B.bytes
  have hr := B.returns
  have hts0 := atoms_spec (ws := (Cond.code yJ7_copyOf_6403c cJ7_copyOf_6403c 4 (some (.array (.object "java/lang/Object"))) :: WA)) B.pre
  have hts : ∀ w ∈ WA, w.before _ s = true := fun w h => hts0 w (List.mem_cons_of_mem _ h)
  have hown : s.vm.findClass RJ7 = some m.cls := findClass_of_methodNamed B.named
  have hlocks := B.notSynchronized
  have hS : va_S (pvB G) s.heap s.heap [] := va_S.rf
  have hl := lv_entry ([.ref x.1, .int (nI N), .ref mi]) (n := 4) (Nat.le_of_ble_eq_true rfl)
  rw [lg_entry_eq]
  generalize (lg_sl ([.ref x.1, .int (nI N), .ref mi]) ++ List.replicate (4 - (lg_sl ([.ref x.1, .int (nI N), .ref mi])).length) Slot.unset).toArray = ls at hl ⊢
  have hl : lv_has ls 4 [(0, .ref x.1), (1, .int (nI N)), (2, .ref mi)] := hl
  have hlt := (List.getElem?_eq_some_iff.mp hk).1
  refine lv_aload_n hx hb dJ7_copyOf_6403c_0 rfl (lv_at hl 2 rfl) ?_
  refine va_ldcM hx hb hown (hts _ wm157) hM dJ7_copyOf_6403c_1 ?_
  refine lv_acmp_ne (rx := some mi) (ry := some mi) (tgt := 13) hx hb dJ7_copyOf_6403c_3 (by decide) (fun z => absurd rfl z) (fun _ => ?_)
  refine lv_iload_n hx hb dJ7_copyOf_6403c_6 rfl (lv_at hl 1 rfl) ?_
  refine lxNew hx hb hown (hts _ wm158) hA hK htys hw hS hj hN (Nat.le_refl 1) (by show 0 + N ≤ N; omega) dJ7_copyOf_6403c_7 (fun q H locs hw hS => ?_)
  refine lv_goto (tgt := 24) hx hb dJ7_copyOf_6403c_10 (by decide) ?_
  refine lv_astore_n (lv' := [(3, .ref q), (0, .ref x.1), (1, .int (nI N)), (2, .ref mi)]) hx hb dJ7_copyOf_6403c_24 rfl hl (by decide) rfl (fun ls hl => ?_)
  refine lv_aload_n hx hb dJ7_copyOf_6403c_25 rfl (lv_at hl 1 rfl) ?_
  refine lv_iconst (v := 0) hx hb dJ7_copyOf_6403c_26 (by decide) ?_
  refine lv_aload_n hx hb dJ7_copyOf_6403c_27 rfl (lv_at hl 0 rfl) ?_
  refine lv_iconst (v := 0) hx hb dJ7_copyOf_6403c_28 (by decide) ?_
  refine lv_aload_n hx hb dJ7_copyOf_6403c_29 rfl (lv_at hl 1 rfl) ?_
  refine lxLen hx hb hK htys hw k (x := x) (by rw [List.getElem?_append_left hlt]; exact hk) dJ7_copyOf_6403c_30 ?_
  refine lv_iload_n hx hb dJ7_copyOf_6403c_31 rfl (lv_at hl 2 rfl) ?_
  refine pmmin hx hb (hml.trans hl.1.symm) hown (hts _ wm159) (hts _ wm160) (hts _ wm112) (hts _ wm161) (Nat.le_of_ble_eq_true rfl) (Nat.le_of_ble_eq_true rfl) (Nat.le_refl 1) (by show 0 + N ≤ N; omega) dJ7_copyOf_6403c_32 ?_
  have hmin : imin (nI x.2.1) (nI N) = nI x.2.1 := by
    unfold imin
    by_cases q : nI N < nI x.2.1
    · exact absurd ((nI_ltI (by omega) (by omega)).mp q) (by omega)
    · rw [if_neg q]
  rw [hmin]
  refine lxCp hx hb (hml.trans hl.1.symm) hown (hts _ wm162) (hts _ wm163) (hts _ wm164) (hts _ wm165) hA hK htys hw hS hj k AR.length (x := x) (y := (q, N, fun _ => none)) (by rw [List.getElem?_append_left hlt]; exact hk) (by simp) (by decide) (by decide) (nI_pos (by omega)) (by rw [nI_clamp (by omega)]; show 0 + _ ≤ _; omega) (by rw [nI_clamp (by omega)]; show 0 + _ ≤ N; omega) (Nat.le_of_ble_eq_true rfl) (by show _ ≤ 60; decide +kernel) dJ7_copyOf_6403c_35 (fun H locs hw hS => ?_)
  refine lv_aload_n hx hb dJ7_copyOf_6403c_38 rfl (lv_at hl 0 rfl) ?_
  have e1 : (AR ++ [(q, N, fun _ => none)]).set AR.length (q, N, va_cpy x.2.2 (fun _ => none) (0 : Int32).toNatClampNeg (0 : Int32).toNatClampNeg (nI x.2.1).toNatClampNeg) = AR ++ [(q, N, va_cpy x.2.2 (fun _ => none) 0 0 x.2.1)] := by
    rw [List.set_append_right _ _ (Nat.le_refl _), Nat.sub_self, nI_clamp (by omega)]
    rfl
  rw [e1] at hw
  refine W.widen (k := 1) (n := N) (by omega) (by omega) ?_
  exact W.aret (v := .ref q) hx hb hr (Or.inr ⟨_, rfl⟩) (Or.inr ⟨_, rfl⟩) (fun t ht hW => ⟨⟨some q, q, rfl, rfl, by rw [ht]; exact hw, va_K.moved hW.alike hK, hA.to hS hW ht⟩, hS.F ht⟩) hS.2.2 dJ7_copyOf_6403c_39
set_option maxHeartbeats 4000000 in
set_option maxRecDepth 100000 in
theorem c_copyOf2 {l : Launch} {G : PvG} {tys : List (ClassId × FieldType)} {σ : PvS} (htys : tys = pvT G) {j : Nat} (hj : j < σ.1 0 + 3) {mm : Int32} {b : Nat} {z : Int32} {AR : List LxA} {k : Nat} {x : LxA} (hk : AR[k]? = some x) {N : Nat} (hN : 0 < N ∧ N ≤ 1000) (hxN : x.2.1 ≤ N)  : Met l yJ7_copyOf_1904c (Cond.code yJ7_copyOf_1904c cJ7_copyOf_1904c 2 (some (.array (.object "java/lang/Object"))) :: WA) ({ frames := 2, cells := 1, slots := N, locals := 90 }) (va_Pc [.ref x.1, .int (nI N)] (pvUx G tys σ j mm b z AR)) (va_Qq (fun r (q : Nat) => r = some q) (fun q => pvUx G tys σ j mm b z (AR ++ [(q, N, va_cpy x.2.2 (fun _ => none) 0 0 x.2.1)])) (pvB G)) 1 N (pvB G) := by
  refine Met.ofW (cc := cJ7_copyOf_1904c) (maxL := 2) (ret := (some (.array (.object "java/lang/Object")))) (by decide) rfl ?_
  intro p e s m args below meth c s₁ B hml hv
  obtain ⟨rfl, hw, hK, hA⟩ := hv
  have hx := B.exec
  have hb := B.bytes
  have hr := B.returns
  have hts0 := atoms_spec (ws := (Cond.code yJ7_copyOf_1904c cJ7_copyOf_1904c 2 (some (.array (.object "java/lang/Object"))) :: WA)) B.pre
  have hts : ∀ w ∈ WA, w.before _ s = true := fun w h => hts0 w (List.mem_cons_of_mem _ h)
  have hown : s.vm.findClass RJ7 = some m.cls := findClass_of_methodNamed B.named
  have hlocks := B.notSynchronized
  have hS : va_S (pvB G) s.heap s.heap [] := va_S.rf
  have hl := lv_entry ([.ref x.1, .int (nI N)]) (n := 2) (Nat.le_of_ble_eq_true rfl)
  rw [lg_entry_eq]
  generalize (lg_sl ([.ref x.1, .int (nI N)]) ++ List.replicate (2 - (lg_sl ([.ref x.1, .int (nI N)])).length) Slot.unset).toArray = ls at hl ⊢
  have hl : lv_has ls 2 [(0, .ref x.1), (1, .int (nI N))] := hl
  obtain ⟨mi, hM⟩ := hA.2.2.2.2.2.2.2.2.2.2.2.2.2.2.2
  refine lv_aload_n hx hb dJ7_copyOf_1904c_0 rfl (lv_at hl 0 rfl) ?_
  refine lv_iload_n hx hb dJ7_copyOf_1904c_1 rfl (lv_at hl 1 rfl) ?_
  refine lv_aload_n hx hb dJ7_copyOf_1904c_2 rfl (lv_at hl 0 rfl) ?_
  refine va_getC hx hb (hml.trans hl.1.symm) hown (hts _ wm150) (va_Dc.use hA.2.2.2.2.2.2.2.2.2.2.2.2.2.2.1) (hts _ wm151) (hts _ wm152) (hts _ wm153) hM (lx_arr hw hK htys hk) (Nat.le_of_ble_eq_true rfl) (by show 2 + 14 ≤ 90; decide) dJ7_copyOf_1904c_3 ?_
  refine va_callq (va_runS (As := [.ref x.1, .int (nI N), .ref mi]) (rest := []) ⟨hx, hb, hml, hown, hts⟩ (c_copyOf3 (l := l) (G := G) (tys := tys) (σ := σ) htys hj hk hN hxN (mi := mi)) (va_cwS 3 hts (gSA wm154 wm155 wm148 wm156) rfl rfl rfl (by decide +kernel) ⟨Nat.le_of_ble_eq_true rfl, Nat.le_of_ble_eq_true rfl⟩) ⟨fun a U g mk q => ⟨q.1, ⟨q.2.1.1, va_K.moved (u := U) (U := U.calling g mk a) (Vm.Alike.refl U.vm) q.2.1.2.1, q.2.1.2.2.calling⟩, q.2.2.moved (Vm.Alike.refl U.vm)⟩, fun U hU hW => ⟨rfl, ⟨by rw [hU]; exact hw, va_K.moved hW.alike hK, hA.to hS hW hU⟩, hM.moved hW.alike⟩⟩ rfl rfl hl.1 rfl (lv_room (Nat.le_of_ble_eq_true rfl)) dJ7_copyOf_1904c_6 ⟨Nat.le_refl 1, by show 0 + N ≤ N; omega⟩) hS (fun _ _ h => h) (fun _ h => h) (fun r q t H locs ht hvm hp hB _ _ hS => ?_)
  subst hp
  have hw := hB.1
  rw [ht] at hw
  refine W.widen (k := 1) (n := N) (by omega) (by omega) ?_
  exact W.aret (v := .ref q) hx hb hr (Or.inr ⟨_, rfl⟩) (Or.inr ⟨_, rfl⟩) (fun t ht hW => ⟨⟨some q, q, rfl, rfl, by rw [ht]; exact hw, va_K.moved hW.alike hK, hA.to hS hW ht⟩, hS.F ht⟩) hS.2.2 dJ7_copyOf_1904c_9
set_option maxHeartbeats 4000000 in
set_option maxRecDepth 100000 in
theorem c_grow1 {l : Launch} {G : PvG} {tys : List (ClassId × FieldType)} {σ : PvS} (htys : tys = pvT G) {j : Nat} (hj : j < σ.1 0 + 3) {mm : Int32} {b : Nat} {z : Int32} {AR : List LxA} {c0 : Nat} {g : Nat → Option Nat} (hc0 : c0 ≤ 64) (hcase : (AR = [] ∧ b = G.2.2.2.1.1 0 ∧ c0 = 0) ∨ (AR = [(b, c0, g)] ∧ 1 ≤ c0))  : Met l yJx4a65c_grow_92f84 (Cond.code yJx4a65c_grow_92f84 cJx4a65c_grow_92f84 4 (some (.array (.object "java/lang/Object"))) :: WA) ({ frames := 3, cells := 1, slots := 96, locals := 130 }) (va_Pc [.ref (G.2.2.1 10 j), .int (nI (c0 + 1))] (pvUx G tys σ j mm b z AR)) (va_Qq (fun r (u : Nat × List LxA) => r = some u.1 ∧ ∃ cap g1, c0 < cap ∧ cap ≤ 1000 ∧ lxHas u.2 u.1 cap g1 ∧ ∀ t, g1 t = if t < c0 then g t else none) (fun u => pvUx G tys σ j mm u.1 z u.2) (pvB G)) 1 96 (pvB G) := by
  refine Met.ofW (cc := cJx4a65c_grow_92f84) (maxL := 4) (ret := (some (.array (.object "java/lang/Object")))) (by decide) rfl ?_
  intro p e s m args below meth c s₁ B hml hv
  obtain ⟨rfl, hw, hK, hA⟩ := hv
  have hx := B.exec
  have hb := B.bytes
  have hr := B.returns
  have hts0 := atoms_spec (ws := (Cond.code yJx4a65c_grow_92f84 cJx4a65c_grow_92f84 4 (some (.array (.object "java/lang/Object"))) :: WA)) B.pre
  have hts : ∀ w ∈ WA, w.before _ s = true := fun w h => hts0 w (List.mem_cons_of_mem _ h)
  have hown : s.vm.findClass RJx4a65c = some m.cls := findClass_of_methodNamed B.named
  have hlocks := B.notSynchronized
  have hS : va_S (pvB G) s.heap s.heap [] := va_S.rf
  have hl := lv_entry ([.ref (G.2.2.1 10 j), .int (nI (c0 + 1))]) (n := 4) (Nat.le_of_ble_eq_true rfl)
  rw [lg_entry_eq]
  generalize (lg_sl ([.ref (G.2.2.1 10 j), .int (nI (c0 + 1))]) ++ List.replicate (4 - (lg_sl ([.ref (G.2.2.1 10 j), .int (nI (c0 + 1))])).length) Slot.unset).toArray = ls at hl ⊢
  have hl : lv_has ls 4 [(0, .ref (G.2.2.1 10 j)), (1, .int (nI (c0 + 1)))] := hl
  refine lv_aload_n hx hb dJx4a65c_grow_92f84_0 rfl (lv_at hl 0 rfl) ?_
  refine lxGet hx hb hts hown hK hw hj 1 (by decide) rfl (hts _ wm47) (fun _ h9 => h9) dJx4a65c_grow_92f84_1 ?_
  rcases hcase with ⟨hAR, hb0, rfl⟩ | ⟨hAR, h1⟩
  · subst hAR
    subst hb0
    refine va_tlen hx hb hA.2.1.1.2 hS (v := 0) rfl dJx4a65c_grow_92f84_4 ?_
    refine lv_istore_n (lv' := [(2, .int 0), (0, .ref (G.2.2.1 10 j)), (1, .int (nI (0 + 1)))]) hx hb dJx4a65c_grow_92f84_5 rfl hl (by decide) rfl (fun ls hl => ?_)
    refine lv_iload_n hx hb dJx4a65c_grow_92f84_6 rfl (lv_at hl 0 rfl) ?_
    refine lv_if_gt (tgt := 20) hx hb dJx4a65c_grow_92f84_7 (by decide) (fun z => absurd z (by decide)) (fun _ => ?_)
    refine lv_aload_n hx hb dJx4a65c_grow_92f84_10 rfl (lv_at hl 1 rfl) ?_
    refine lxGet hx hb hts hown hK hw hj 1 (by decide) rfl (hts _ wm47) (fun _ h9 => h9) dJx4a65c_grow_92f84_11 ?_
    refine va_gets (C := RJx4a65c) hx hb hA.2.1.1.1 hS hown (hts _ wm46) (fun _ h9 => h9) dJx4a65c_grow_92f84_14 ?_
    refine lv_acmp_eq (rx := some (G.2.2.2.1.1 0)) (ry := some (G.2.2.2.1.1 0)) (tgt := 45) hx hb dJx4a65c_grow_92f84_17 (by decide) (fun _ => ?_) (fun z => absurd rfl z)
    refine lv_aload_n hx hb dJx4a65c_grow_92f84_45 rfl (lv_at hl 1 rfl) ?_
    refine lv_bipush (v := 10) hx hb dJx4a65c_grow_92f84_46 (by decide) ?_
    refine lv_iload_n hx hb dJx4a65c_grow_92f84_48 rfl (lv_at hl 2 rfl) ?_
    refine pmmax hx hb (hml.trans hl.1.symm) hown (hts _ wm135) (hts _ wm111) (hts _ wm112) (hts _ wm113) (Nat.le_of_ble_eq_true rfl) (Nat.le_of_ble_eq_true rfl) (Nat.zero_le _) (Nat.zero_le _) dJx4a65c_grow_92f84_49 ?_
    rw [show imax 10 (nI (0 + 1)) = nI 10 from by decide]
    refine lxNew hx hb hown (hts _ wm136) hA hK htys hw hS hj (N := 10) (by decide) (Nat.le_of_ble_eq_true rfl) (Nat.le_of_ble_eq_true rfl) dJx4a65c_grow_92f84_52 (fun q H locs hw hS => ?_)
    refine lv_dup_x1 hx hb dJx4a65c_grow_92f84_55 rfl rfl ?_
    refine lxPut (ty := .array (.object "java/lang/Object")) (mm' := mm) (b' := q) (z' := z) hx hb hts hown hK hw hS hj 1 (by decide) rfl (hts _ wm47) (fun _ h9 => h9) rfl (by decide +kernel) rfl rfl dJx4a65c_grow_92f84_56 (fun H locs hw hS => ?_)
    refine W.widen (k := 1) (n := 96) (by omega) (by omega) ?_
    refine W.aret (v := .ref q) hx hb hr (Or.inr ⟨_, rfl⟩) (Or.inr ⟨_, rfl⟩) (fun t ht hW => ⟨⟨some q, (q, _), rfl, ⟨rfl, 10, (fun _ => none), by decide, by decide, ⟨0, rfl⟩, fun t => by simp⟩, by rw [ht]; exact hw, va_K.moved hW.alike hK, hA.to hS hW ht⟩, hS.F ht⟩) hS.2.2 dJx4a65c_grow_92f84_59
  · subst hAR
    have e2 : nI c0 >>> ((1 : Int32) &&& 31) = nI (c0 / 2) := (show ∀ n : Fin 65, nI n.1 >>> ((1 : Int32) &&& 31) = nI (n.1 / 2) from by decide +kernel) ⟨c0, by omega⟩
    have e1 : nI (c0 + 1) - nI c0 = nI 1 := by rw [pk_sub (by omega)]; congr 1; omega
    have e3 : imax (nI 1) (nI (c0 / 2)) = nI (max 1 (c0 / 2)) := by
      unfold imax
      by_cases q : nI 1 < nI (c0 / 2)
      · rw [if_pos q]; have := (nI_ltI (by omega) (by omega)).mp q; congr 1; omega
      · rw [if_neg q]; have : ¬ 1 < c0 / 2 := fun w => q ((nI_ltI (by omega) (by omega)).mpr w); congr 1; omega
    have hmx : max 1 (c0 / 2) ≤ 32 := by omega
    have hm1 : 1 ≤ max 1 (c0 / 2) := by omega
    generalize max 1 (c0 / 2) = mxx at e3 hmx hm1
    refine lxLen hx hb hK htys hw 0 (x := (b, c0, g)) rfl dJx4a65c_grow_92f84_4 ?_
    refine lv_istore_n (lv' := [(2, .int (nI c0)), (0, .ref (G.2.2.1 10 j)), (1, .int (nI (c0 + 1)))]) hx hb dJx4a65c_grow_92f84_5 rfl hl (by decide) rfl (fun ls hl => ?_)
    refine lv_iload_n hx hb dJx4a65c_grow_92f84_6 rfl (lv_at hl 0 rfl) ?_
    refine lv_if_gt (tgt := 20) hx hb dJx4a65c_grow_92f84_7 (by decide) (fun _ => ?_) (fun w => absurd (show (0 : Int32) < nI c0 from by rw [← nI_0]; exact (nI_ltI (by omega) (by omega)).mpr (by omega)) w)
    refine lv_iload_n hx hb dJx4a65c_grow_92f84_20 rfl (lv_at hl 0 rfl) ?_
    refine lv_iload_n hx hb dJx4a65c_grow_92f84_21 rfl (lv_at hl 2 rfl) ?_
    refine lv_iload_n hx hb dJx4a65c_grow_92f84_22 rfl (lv_at hl 0 rfl) ?_
    refine lv_isub hx hb dJx4a65c_grow_92f84_23 ?_
    refine lv_iload_n hx hb dJx4a65c_grow_92f84_24 rfl (lv_at hl 0 rfl) ?_
    refine lv_iconst (v := 1) hx hb dJx4a65c_grow_92f84_25 (by decide) ?_
    refine lv_ishr hx hb dJx4a65c_grow_92f84_26 ?_
    rw [e1, e2]
    refine va_calli (va_runS (As := [.int (nI c0), .int (nI 1), .int (nI (c0 / 2))]) (rest := []) ⟨hx, hb, hml, hown, hts⟩ (c_newLength (l := l) (x := nI c0) (y := nI 1) (w := nI (c0 / 2)) (by rw [e3, nI_add, ← nI_0]; exact (nI_ltI (by omega) (by omega)).mpr (by omega)) (by rw [e3, nI_add, show (2147483639 : Int32) = nI 2147483639 from rfl]; exact (nI_leI (by omega) (by omega)).mpr (by omega))) (va_cwS 3 hts (gSA wm137 wm138 wm139 wm140) rfl rfl rfl (by decide +kernel) ⟨Nat.le_of_ble_eq_true rfl, Nat.le_of_ble_eq_true rfl⟩) ⟨fun a U g mk q => q, fun U hU hW => ⟨rfl, trivial⟩⟩ rfl rfl hl.1 rfl (lv_room (Nat.le_of_ble_eq_true rfl)) dJx4a65c_grow_92f84_27 ⟨Nat.zero_le _, Nat.zero_le _⟩) hS (fun _ _ h => h.elim) (fun _ h => h.elim) (fun r u t H1 locs ht hvm hp hB hz1 hk1 hS => ?_)
    have hw := hw.kept (H1 := H1) (fun q hq => hk1 q hq (fun h => h))
    rw [e3, nI_add] at hp
    subst hp
    refine lv_istore_n (lv' := [(3, .int (nI (c0 + mxx))), (2, .int (nI c0)), (0, .ref (G.2.2.1 10 j)), (1, .int (nI (c0 + 1)))]) hx hb dJx4a65c_grow_92f84_30 rfl hl (by decide) rfl (fun ls hl => ?_)
    refine lv_aload_n hx hb dJx4a65c_grow_92f84_31 rfl (lv_at hl 2 rfl) ?_
    refine lv_aload_n hx hb dJx4a65c_grow_92f84_32 rfl (lv_at hl 2 rfl) ?_
    refine lxGet hx hb hts hown hK hw hj 1 (by decide) rfl (hts _ wm47) (fun _ h9 => h9) dJx4a65c_grow_92f84_33 ?_
    refine lv_iload_n hx hb dJx4a65c_grow_92f84_36 rfl (lv_at hl 0 rfl) ?_
    refine va_callq (va_runS (As := [.ref b, .int (nI (c0 + mxx))]) (rest := [.ref (G.2.2.1 10 j)]) ⟨hx, hb, hml, hown, hts⟩ (c_copyOf2 (l := l) (G := G) (tys := tys) (σ := σ) htys hj (AR := [(b, c0, g)]) (k := 0) (x := (b, c0, g)) rfl (N := c0 + mxx) (by omega) (by show c0 ≤ _; omega)) (va_cwS 2 hts (gSA wm146 wm147 wm148 wm149) rfl rfl rfl (by decide +kernel) ⟨Nat.le_of_ble_eq_true rfl, Nat.le_of_ble_eq_true rfl⟩) (lx_preS hA hS hw hK [.ref b, .int (nI (c0 + mxx))]) rfl rfl hl.1 rfl (lv_room (Nat.le_of_ble_eq_true rfl)) dJx4a65c_grow_92f84_37 ⟨Nat.le_refl 1, by show 0 + (c0 + mxx) ≤ 96; omega⟩) hS (fun _ _ h => h) (fun _ h => h) (fun r q t H locs ht hvm hp hB _ _ hS => ?_)
    subst hp
    have hw := hB.1
    rw [ht] at hw
    refine lv_dup_x1 (va := .ref q) hx hb dJx4a65c_grow_92f84_40 rfl rfl ?_
    refine lxPut (ty := .array (.object "java/lang/Object")) (mm' := mm) (b' := q) (z' := z) hx hb hts hown hK hw hS hj 1 (by decide) rfl (hts _ wm47) (fun _ h9 => h9) rfl (by decide +kernel) rfl rfl dJx4a65c_grow_92f84_41 (fun H locs hw hS => ?_)
    refine W.widen (k := 1) (n := 96) (by omega) (by omega) ?_
    refine W.aret (v := .ref q) hx hb hr (Or.inr ⟨_, rfl⟩) (Or.inr ⟨_, rfl⟩) (fun t ht hW => ⟨⟨some q, (q, _), rfl, ⟨rfl, c0 + mxx, va_cpy g (fun _ => none) 0 0 c0, by omega, by omega, ⟨1, rfl⟩, fun t => ?_⟩, by rw [ht]; exact hw, va_K.moved hW.alike hK, hA.to hS hW ht⟩, hS.F ht⟩) hS.2.2 dJx4a65c_grow_92f84_44
    show va_cpy g (fun _ => none) 0 0 c0 t = _
    split
    · rename_i w; rw [pk_cpy_in (by omega) (by omega)]; congr 1; omega
    · rename_i w; rw [pk_cpy_out (by omega)]
set_option maxHeartbeats 4000000 in
set_option maxRecDepth 100000 in
theorem c_grow0 {l : Launch} {G : PvG} {tys : List (ClassId × FieldType)} {σ : PvS} (htys : tys = pvT G) {j : Nat} (hj : j < σ.1 0 + 3) {mm : Int32} {b : Nat} {z : Int32} {AR : List LxA} {c0 : Nat} {g : Nat → Option Nat} (hc0 : c0 ≤ 64) (hcase : (AR = [] ∧ b = G.2.2.2.1.1 0 ∧ c0 = 0) ∨ (AR = [(b, c0, g)] ∧ 1 ≤ c0)) (hz : z = nI c0) : Met l yJx4a65c_grow_d5877 (Cond.code yJx4a65c_grow_d5877 cJx4a65c_grow_d5877 1 (some (.array (.object "java/lang/Object"))) :: WA) ({ frames := 4, cells := 1, slots := 96, locals := 160 }) (va_Pc [.ref (G.2.2.1 10 j)] (pvUx G tys σ j mm b z AR)) (va_Qq (fun r (u : Nat × List LxA) => r = some u.1 ∧ ∃ cap g1, c0 < cap ∧ cap ≤ 1000 ∧ lxHas u.2 u.1 cap g1 ∧ ∀ t, g1 t = if t < c0 then g t else none) (fun u => pvUx G tys σ j mm u.1 z u.2) (pvB G)) 1 96 (pvB G) := by
  refine Met.ofW (cc := cJx4a65c_grow_d5877) (maxL := 1) (ret := (some (.array (.object "java/lang/Object")))) (by decide) rfl ?_
  intro p e s m args below meth c s₁ B hml hv
  obtain ⟨rfl, hw, hK, hA⟩ := hv
  have hx := B.exec
  have hb := B.bytes
  have hr := B.returns
  have hts0 := atoms_spec (ws := (Cond.code yJx4a65c_grow_d5877 cJx4a65c_grow_d5877 1 (some (.array (.object "java/lang/Object"))) :: WA)) B.pre
  have hts : ∀ w ∈ WA, w.before _ s = true := fun w h => hts0 w (List.mem_cons_of_mem _ h)
  have hown : s.vm.findClass RJx4a65c = some m.cls := findClass_of_methodNamed B.named
  have hlocks := B.notSynchronized
  have hS : va_S (pvB G) s.heap s.heap [] := va_S.rf
  have hl := lv_entry ([.ref (G.2.2.1 10 j)]) (n := 1) (Nat.le_of_ble_eq_true rfl)
  rw [lg_entry_eq]
  generalize (lg_sl ([.ref (G.2.2.1 10 j)]) ++ List.replicate (1 - (lg_sl ([.ref (G.2.2.1 10 j)])).length) Slot.unset).toArray = ls at hl ⊢
  have hl : lv_has ls 1 [(0, .ref (G.2.2.1 10 j))] := hl
  refine lv_aload_n hx hb dJx4a65c_grow_d5877_0 rfl (lv_at hl 0 rfl) ?_
  refine lv_aload_n hx hb dJx4a65c_grow_d5877_1 rfl (lv_at hl 0 rfl) ?_
  refine lxGet hx hb hts hown hK hw hj 2 (by decide) rfl (hts _ wm122) (fun _ h9 => h9) dJx4a65c_grow_d5877_2 ?_
  refine lv_iconst (v := 1) hx hb dJx4a65c_grow_d5877_5 (by decide) ?_
  refine lv_iadd hx hb dJx4a65c_grow_d5877_6 ?_
  rw [show z + 1 = nI (c0 + 1) from by rw [hz, nI_1]]
  refine va_callq (va_runV (As := [.int (nI (c0 + 1))]) (rest := []) ⟨hx, hb, hml, hown, hts⟩ (c_grow1 (l := l) (G := G) (tys := tys) (σ := σ) htys hj hc0 hcase) (cwV 1 hts (gVA wm131 wm132 wm133 wm13 wm134) rfl rfl rfl (by decide +kernel) ⟨Nat.le_of_ble_eq_true rfl, Nat.le_of_ble_eq_true rfl⟩) (lx_preV hA hS hw hK hj [.int (nI (c0 + 1))]) rfl rfl hl.1 rfl (lv_room (Nat.le_of_ble_eq_true rfl)) dJx4a65c_grow_d5877_7 ⟨Nat.le_refl 1, Nat.le_of_ble_eq_true rfl⟩) hS (fun _ _ h => h) (fun _ h => h) (fun r u t H locs ht hvm hp hB _ _ hS => ?_)
  obtain ⟨hp1, hp2⟩ := hp
  subst hp1
  have hw := hB.1
  rw [ht] at hw
  refine W.widen (k := 1) (n := 96) (by omega) (by omega) ?_
  exact W.aret (v := .ref u.1) hx hb hr (Or.inr ⟨_, rfl⟩) (Or.inr ⟨_, rfl⟩) (fun t ht hW => ⟨⟨some u.1, u, rfl, ⟨rfl, hp2⟩, by rw [ht]; exact hw, va_K.moved hW.alike hK, hA.to hS hW ht⟩, hS.F ht⟩) hS.2.2 dJx4a65c_grow_d5877_10
