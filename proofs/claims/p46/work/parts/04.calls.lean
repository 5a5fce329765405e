/-! CONTRACTS over the pool: what holds between two calls, ends, calls -/
abbrev pvB (G : PvG) : Nat → Prop := fun q => G.2.2.2.2 q
/-- the tables of the class -/
def tb1 : Nat → Int32 := fun j => ([0, -1, -1, 0, 0, 0, 0, 0, 0, 1, 0, 0, -500, -500] : List Int32).getD j 0
def tb2 : Nat → Int32 := fun j => ([2, 1000, 1000, 100, 100, 20, 2, 3, 255, 40, 2, 1, 500, 500] : List Int32).getD j 0
def tb3 : Nat → Int32 := fun j => ([1, -1, -1, 0, 0, 0, 0, 0, 0, 8, 0, 0, 0, 0] : List Int32).getD j 0
def pvSt (G : PvG) (k : Nat) (n : String) (f : Nat → Int32) (U : State) (H : Heap) : Prop := va_Z RX9 n "[I" (.ref (G.2.2.2.1.1 k)) (pvB G) U H ∧ va_T .int (G.2.2.2.1.1 k) 14 (fun j => .int (f j)) (pvB G) U H
/-- what is so of cells that are not ours: the shared empty array, the tables, the script -/
def pvX (G : PvG) (U : State) (H : Heap) : Prop := (va_Z RJx4a65c "DEFAULTCAPACITY_EMPTY_ELEMENTDATA" "[Ljava/lang/Object;" (.ref (G.2.2.2.1.1 0)) (pvB G) U H ∧ va_T (.object "java/lang/Object") (G.2.2.2.1.1 0) 0 (fun _ => .null) (pvB G) U H) ∧
  pvSt G 1 "LEAST_VALUES" tb1 U H ∧ pvSt G 2 "GREATEST_VALUES" tb2 U H ∧ pvSt G 3 "FIRST_VALUES" tb3 U H ∧ (va_X (G.2.2.2.1.1 4) (G.2.2.2.1.1 5) G.2.2.2.1.2 U H ∧ ¬ pvB G (G.2.2.2.1.1 4))
theorem pvSt.to {G : PvG} {k : Nat} {n : String} {f : Nat → Int32} {u U : State} {H H1 : Heap} (h : pvSt G k n f u H) (hvm : u.vm.Alike U.vm) (hq : ∀ a : Nat, a < H.size → ¬ pvB G a → H1[a]? = H[a]?) : pvSt G k n f U H1 :=
  ⟨(h.1.moved hvm).kept hq, (h.2.moved hvm).kept hq⟩
theorem pvX.to {G : PvG} {u U : State} {H H1 : Heap} (h : pvX G u H) (hvm : u.vm.Alike U.vm) (hq : ∀ a : Nat, a < H.size → ¬ pvB G a → H1[a]? = H[a]?) : pvX G U H1 := by
  obtain ⟨⟨a1, a2⟩, b, c, d, e, f⟩ := h
  refine ⟨⟨(a1.moved hvm).kept hq, (a2.moved hvm).kept hq⟩, b.to hvm hq, c.to hvm hq, d.to hvm hq, ?_, f⟩
  have e1 := va_X.moved hvm e
  refine e1.kept (hq _ ?_ f)
  obtain ⟨scr, h1, -⟩ := e1
  exact (Array.getElem?_eq_some_iff.mp h1).1
/-- what the tables say besides: links among nest mates, what may stand in a list -/
def pvNw (U : State) : Prop := va_Nw (.methodLinkNest RX3 20 yX1_init RX9) U ∧ va_Nw (.methodLinkNest RX9 28 yX4_init RX9) U ∧ va_Nw (.methodLinkNest RX4 11 yX6_init RX9) U ∧ va_Nw (.methodLinkNest RX4 20 yX0_init RX9) U ∧ va_Nw (.methodLinkNest RX4 27 yX8_init RX9) U ∧ va_Nw (.methodLinkNest RX9 40 yX6_init RX9) U ∧ va_Nw (.methodLinkNest RX6 55 yX9_isProperty RX9) U ∧ va_Nw (.methodLinkNest RX6 94 yX9_isInherited RX9) U ∧ va_Nw (.fieldLinkNest RX6 101 RX9 "FIRST_VALUES" "[I" RX9) U ∧ va_Nw (.castable RX3 "java/lang/Object") U ∧ va_Nw (.castable RX5 "java/lang/Object") U ∧ va_AO "java/lang/Object" U ∧ va_Dc U ∧ ∃ mi, va_Mi "[Ljava/lang/Object;" mi U
theorem pvNw.to {s U : State} (h : pvNw s) (hW : s.WarmedH U.vm) : pvNw U := by
  obtain ⟨a0, a1, a2, a3, a4, a5, a6, a7, a8, a9, a10, b0, b1, mi, b2⟩ := h
  exact ⟨va_Nw.warmM hW a0, va_Nw.warmM hW a1, va_Nw.warmM hW a2, va_Nw.warmM hW a3, va_Nw.warmM hW a4, va_Nw.warmM hW a5, va_Nw.warmM hW a6, va_Nw.warmM hW a7, va_Nw.warmF hW a8, va_Nw.warmC hW a9, va_Nw.warmC hW a10, b0.moved hW.alike, b1.moved hW.alike, mi, b2.moved hW.alike⟩
theorem pvNw.same {u U : State} (h : pvNw u) (hv : u.vm = U.vm) : pvNw U := by
  obtain ⟨a0, a1, a2, a3, a4, a5, a6, a7, a8, a9, a10, b0, b1, mi, b2⟩ := h
  exact ⟨va_Nw.same rfl hv a0, va_Nw.same rfl hv a1, va_Nw.same rfl hv a2, va_Nw.same rfl hv a3, va_Nw.same rfl hv a4, va_Nw.same rfl hv a5, va_Nw.same rfl hv a6, va_Nw.same rfl hv a7, va_Nw.same rfl hv a8, va_Nw.same rfl hv a9, va_Nw.same rfl hv a10, b0.moved (by rw [← hv]; exact Vm.Alike.refl _), b1.moved (by rw [← hv]; exact Vm.Alike.refl _), mi, b2.moved (by rw [← hv]; exact Vm.Alike.refl _)⟩
def pvA0 (G : PvG) (U : State) (H : Heap) : Prop := (∀ q, H.size ≤ q → G.2.2.2.2 q) ∧ pvX G U H ∧ pvNw U
theorem pvA0.to {G : PvG} {u U : State} {H1 : Heap} {locs : List Loc} (h : pvA0 G u u.heap) (hS : va_S (pvB G) u.heap H1 locs) (hW : u.WarmedH U.vm) (hU : U.heap = H1) : pvA0 G U U.heap := by
  rw [hU]
  exact ⟨fun q hq => h.1 q (Nat.le_trans hS.1 hq), h.2.1.to hW.alike hS.2.1, h.2.2.to hW⟩
def pvU (G : PvG) (tys : List (ClassId × FieldType)) (σ : PvS) (U : State) : Prop := pvW G σ U.heap ∧ va_K G.2.1 pvC tys U ∧ pvA0 G U U.heap
theorem pvA0.calling {G : PvG} {U : State} {g : JFrame} {mk : MethodId} {a : Array Value} (h : pvA0 G U U.heap) : pvA0 G (U.calling g mk a) (U.calling g mk a).heap :=
  ⟨h.1, h.2.1.to (Vm.Alike.refl U.vm) (fun _ _ _ => rfl), h.2.2.same rfl⟩
theorem pvU_calling {G : PvG} {tys : List (ClassId × FieldType)} {σ : PvS} {av : List Value} : FrameBlind (va_Pc av (pvU G tys σ)) := fun a U g mk q => ⟨q.1, q.2.1, va_K.moved (u := U) (U := U.calling g mk a) (Vm.Alike.refl U.vm) q.2.2.1, q.2.2.2.calling⟩
section PVC
variable {p : Program} {l : Launch} {e : Env} {R : Room} {s : State} {m : MethodId} {args : Array Value} {below : List Frame} {meth : Method} {c : Code} {H : Heap} {locs : List Loc} {cells slots : Nat} {Q : State → Prop}
variable {cc : ByteArray} {pc : Nat} {ls : Array Slot} {rest st0 : List Value} {a : Array Value} {tys : List (ClassId × FieldType)} {H0 : Heap} {G : PvG} {σ : PvS} {mc ms : Nat}
theorem pv_recv {C : String} {T : u_T} {N : Nat} (hw : pvW G σ H) (hK : va_K G.2.1 pvC tys s) (κ i : Nat) (hi : i < pvM σ κ) (hκ : κ ≤ 9) (hc : pvC[κ + 1]? = some (C, T, N)) : ∃ cell : Cell, H[G.2.2.1 κ i]? = some cell ∧ cell.vm.isStatics = false ∧ s.vm.findClass C = some cell.cls := by
  obtain ⟨L, f, hO, hL, hP, hD, hz⟩ := hw
  obtain ⟨ha, he⟩ := hO.1 κ i hi
  obtain ⟨q0, hq⟩ := va_pl_get (X := []) (f := f) ha
  rw [pvE_obj hκ] at he
  exact va_recv (ci := κ + 1) hK hP hc (by rw [← he]; exact hq)
/-- what a call of an object's method wants -/
theorem pv_preV {C : String} {T : u_T} {N : Nat} (hA : pvA0 G s s.heap) (hS : va_S (pvB G) s.heap H locs) (hw : pvW G σ H) (hK : va_K G.2.1 pvC tys s) (κ i : Nat) (hi : i < pvM σ κ) (hκ : κ ≤ 9) (hc : pvC[κ + 1]? = some (C, T, N)) (As : List Value) : PreV s H C (G.2.2.1 κ i) (va_Pc (.ref (G.2.2.1 κ i) :: As) (pvU G tys σ)) As :=
  ⟨pvU_calling, pv_recv hw hK κ i hi hκ hc, fun U hU hW => ⟨rfl, by rw [hU]; exact hw, va_K.moved hW.alike hK, hA.to hS hW hU⟩⟩
theorem pv_preS (hA : pvA0 G s s.heap) (hS : va_S (pvB G) s.heap H locs) (hw : pvW G σ H) (hK : va_K G.2.1 pvC tys s) (As : List Value) : PreS s H (va_Pc As (pvU G tys σ)) As :=
  ⟨pvU_calling, fun U hU hW => ⟨rfl, by rw [hU]; exact hw, va_K.moved hW.alike hK, hA.to hS hW hU⟩⟩
theorem pl_recv (hw : pvW G σ H) (hK : va_K G.2.1 pvC tys s) (j : Nat) (hj : j < σ.1 0 + 3) : ∃ cell : Cell, H[G.2.2.1 10 j]? = some cell ∧ cell.vm.isStatics = false ∧ s.vm.findClass RJx4a65c = some cell.cls := by
  obtain ⟨L, f, hO, ⟨ba, hL⟩, hP, hD, hz⟩ := hw
  obtain ⟨⟨a1, -⟩, ⟨mc, b⟩, -⟩ := hL j hj
  obtain ⟨q0, hq⟩ := va_pl_get (X := []) (f := f) a1
  exact va_recv (ci := 0) hK hP rfl (by rw [← b]; exact hq)
theorem pl_preV (hA : pvA0 G s s.heap) (hS : va_S (pvB G) s.heap H locs) (hw : pvW G σ H) (hK : va_K G.2.1 pvC tys s) (j : Nat) (hj : j < σ.1 0 + 3) (As : List Value) : PreV s H RJx4a65c (G.2.2.1 10 j) (va_Pc (.ref (G.2.2.1 10 j) :: As) (pvU G tys σ)) As :=
  ⟨pvU_calling, pl_recv hw hK j hj, fun U hU hW => ⟨rfl, by rw [hU]; exact hw, va_K.moved hW.alike hK, hA.to hS hW hU⟩⟩
theorem pcalli {post : Int32 → PvS → Prop} (hr : va_Run p l e R s m args below meth c H locs cells slots mc ms (F0 m pc ls st0) rest (va_Qi post (pvU G tys) (pvB G) a) (pvB G)) (hS : va_S (pvB G) H0 H locs)
    (kk : ∀ (r : Int32) (σ' : PvS) (H1 : Heap) (locs1 : List Loc), post r σ' → pvW G σ' H1 → va_S (pvB G) H0 H1 locs1 → W p l e R s m args below meth c H1 locs1 (cells + mc) (slots + ms) Q (F0 m (pc + 3) ls (.int r :: rest))) : W p l e R s m args below meth c H locs cells slots Q (F0 m pc ls st0) :=
  va_calli hr hS (fun _ _ h => h) (fun _ h => h) (fun r u t H1 locs1 ht _ hp hb _ _ hS1 => kk r u H1 locs1 hp (by rw [← ht]; exact hb.1) hS1)
theorem pcalll {post : Int64 → PvS → Prop} (hr : va_Run p l e R s m args below meth c H locs cells slots mc ms (F0 m pc ls st0) rest (va_Ql post (pvU G tys) (pvB G) a) (pvB G)) (hS : va_S (pvB G) H0 H locs)
    (kk : ∀ (r : Int64) (σ' : PvS) (H1 : Heap) (locs1 : List Loc), post r σ' → pvW G σ' H1 → va_S (pvB G) H0 H1 locs1 → W p l e R s m args below meth c H1 locs1 (cells + mc) (slots + ms) Q (F0 m (pc + 3) ls (.long r :: rest))) : W p l e R s m args below meth c H locs cells slots Q (F0 m pc ls st0) :=
  va_calll hr hS (fun _ _ h => h) (fun _ h => h) (fun r u t H1 locs1 ht _ hp hb _ _ hS1 => kk r u H1 locs1 hp (by rw [← ht]; exact hb.1) hS1)
theorem pcalld {post : UInt64 → PvS → Prop} (hr : va_Run p l e R s m args below meth c H locs cells slots mc ms (F0 m pc ls st0) rest (va_Qd post (pvU G tys) (pvB G) a) (pvB G)) (hS : va_S (pvB G) H0 H locs)
    (kk : ∀ (r : UInt64) (σ' : PvS) (H1 : Heap) (locs1 : List Loc), post r σ' → pvW G σ' H1 → va_S (pvB G) H0 H1 locs1 → W p l e R s m args below meth c H1 locs1 (cells + mc) (slots + ms) Q (F0 m (pc + 3) ls (.double r :: rest))) : W p l e R s m args below meth c H locs cells slots Q (F0 m pc ls st0) :=
  va_calld hr hS (fun _ _ h => h) (fun _ h => h) (fun r u t H1 locs1 ht _ hp hb _ _ hS1 => kk r u H1 locs1 hp (by rw [← ht]; exact hb.1) hS1)
theorem pcallq {post : Option Nat → PvS → Prop} (hr : va_Run p l e R s m args below meth c H locs cells slots mc ms (F0 m pc ls st0) rest (va_Qq post (pvU G tys) (pvB G) a) (pvB G)) (hS : va_S (pvB G) H0 H locs)
    (kk : ∀ (r : Option Nat) (σ' : PvS) (H1 : Heap) (locs1 : List Loc), post r σ' → pvW G σ' H1 → va_S (pvB G) H0 H1 locs1 → W p l e R s m args below meth c H1 locs1 (cells + mc) (slots + ms) Q (F0 m (pc + 3) ls (va_rf r :: rest))) : W p l e R s m args below meth c H locs cells slots Q (F0 m pc ls st0) :=
  va_callq hr hS (fun _ _ h => h) (fun _ h => h) (fun r u t H1 locs1 ht _ hp hb _ _ hS1 => kk r u H1 locs1 hp (by rw [← ht]; exact hb.1) hS1)
theorem pcallv {post : PvS → Prop} (hr : va_Run p l e R s m args below meth c H locs cells slots mc ms (F0 m pc ls st0) rest (va_Qv post (pvU G tys) (pvB G) a) (pvB G)) (hS : va_S (pvB G) H0 H locs)
    (kk : ∀ (σ' : PvS) (H1 : Heap) (locs1 : List Loc), post σ' → pvW G σ' H1 → va_S (pvB G) H0 H1 locs1 → W p l e R s m args below meth c H1 locs1 (cells + mc) (slots + ms) Q (F0 m (pc + 3) ls (rest))) : W p l e R s m args below meth c H locs cells slots Q (F0 m pc ls st0) :=
  va_callv hr hS (fun _ _ h => h) (fun _ h => h) (fun u t H1 locs1 ht _ hp hb _ _ hS1 => kk u H1 locs1 hp (by rw [← ht]; exact hb.1) hS1)
theorem pei {post : Int32 → PvS → Prop} {r : Int32} (hx : p.tables.exec = Jvm.exec) (hb : c.code = cc) (hr : meth.sig.returnType = some .int) (hlocks : meth.locks = false) (hA : pvA0 G s s.heap) (hw : pvW G σ H) (hK : va_K G.2.1 pvC tys s) (hS : va_S (pvB G) s.heap H locs) (hp : post r σ) (hdg : decode cc pc = .ok (.ireturn, 1)) : W p l e R s m args below meth c H locs cells slots (MQ below (va_Qi post (pvU G tys) (pvB G)) args s cells slots (pvB G)) (F0 m pc ls [.int r]) :=
  W.iret hx hb hr (fun t ht hW => ⟨⟨r, σ, rfl, hp, by rw [ht]; exact hw, va_K.moved hW.alike hK, hA.to hS hW ht⟩, hS.F ht⟩) hS.2.2 hdg hlocks
theorem pez {post : Int32 → PvS → Prop} {r : Int32} (hx : p.tables.exec = Jvm.exec) (hb : c.code = cc) (hr : meth.sig.returnType = some .boolean) (hn : narrow .boolean (.int r) = .int r) (hlocks : meth.locks = false) (hA : pvA0 G s s.heap) (hw : pvW G σ H) (hK : va_K G.2.1 pvC tys s) (hS : va_S (pvB G) s.heap H locs) (hp : post r σ) (hdg : decode cc pc = .ok (.ireturn, 1)) : W p l e R s m args below meth c H locs cells slots (MQ below (va_Qi post (pvU G tys) (pvB G)) args s cells slots (pvB G)) (F0 m pc ls [.int r]) :=
  W.zret hx hb hr hn (fun t ht hW => ⟨⟨r, σ, rfl, hp, by rw [ht]; exact hw, va_K.moved hW.alike hK, hA.to hS hW ht⟩, hS.F ht⟩) hS.2.2 hdg hlocks
theorem pel {post : Int64 → PvS → Prop} {r : Int64} (hx : p.tables.exec = Jvm.exec) (hb : c.code = cc) (hr : meth.sig.returnType = some .long) (hlocks : meth.locks = false) (hA : pvA0 G s s.heap) (hw : pvW G σ H) (hK : va_K G.2.1 pvC tys s) (hS : va_S (pvB G) s.heap H locs) (hp : post r σ) (hdg : decode cc pc = .ok (.lreturn, 1)) : W p l e R s m args below meth c H locs cells slots (MQ below (va_Ql post (pvU G tys) (pvB G)) args s cells slots (pvB G)) (F0 m pc ls [.long r]) :=
  W.lret hx hb hr (fun t ht hW => ⟨⟨r, σ, rfl, hp, by rw [ht]; exact hw, va_K.moved hW.alike hK, hA.to hS hW ht⟩, hS.F ht⟩) hS.2.2 hdg hlocks
theorem ped {post : UInt64 → PvS → Prop} {r : UInt64} (hx : p.tables.exec = Jvm.exec) (hb : c.code = cc) (hr : meth.sig.returnType = some .double) (hlocks : meth.locks = false) (hA : pvA0 G s s.heap) (hw : pvW G σ H) (hK : va_K G.2.1 pvC tys s) (hS : va_S (pvB G) s.heap H locs) (hp : post r σ) (hdg : decode cc pc = .ok (.dreturn, 1)) : W p l e R s m args below meth c H locs cells slots (MQ below (va_Qd post (pvU G tys) (pvB G)) args s cells slots (pvB G)) (F0 m pc ls [.double r]) :=
  W.dret hx hb hr (fun t ht hW => ⟨⟨r, σ, rfl, hp, by rw [ht]; exact hw, va_K.moved hW.alike hK, hA.to hS hW ht⟩, hS.F ht⟩) hS.2.2 hdg hlocks
theorem pev {post : PvS → Prop} (hx : p.tables.exec = Jvm.exec) (hb : c.code = cc) (hr : meth.sig.returnType = none) (hlocks : meth.locks = false) (hA : pvA0 G s s.heap) (hw : pvW G σ H) (hK : va_K G.2.1 pvC tys s) (hS : va_S (pvB G) s.heap H locs) (hp : post σ) (hdg : decode cc pc = .ok (.return_, 1)) : W p l e R s m args below meth c H locs cells slots (MQ below (va_Qv post (pvU G tys) (pvB G)) args s cells slots (pvB G)) (F0 m pc ls []) :=
  W.vret hx hb hr (fun t ht hW => ⟨⟨σ, rfl, hp, by rw [ht]; exact hw, va_K.moved hW.alike hK, hA.to hS hW ht⟩, hS.F ht⟩) hS.2.2 hdg hlocks
theorem peq {post : Option Nat → PvS → Prop} {r : Option Nat} {rt : FieldType} (hx : p.tables.exec = Jvm.exec) (hb : c.code = cc) (hr : meth.sig.returnType = some rt) (hrt : (∃ n, rt = .object n) ∨ ∃ t, rt = .array t) (hlocks : meth.locks = false) (hA : pvA0 G s s.heap) (hw : pvW G σ H) (hK : va_K G.2.1 pvC tys s) (hS : va_S (pvB G) s.heap H locs) (hp : post r σ) (hdg : decode cc pc = .ok (.areturn, 1)) : W p l e R s m args below meth c H locs cells slots (MQ below (va_Qq post (pvU G tys) (pvB G)) args s cells slots (pvB G)) (F0 m pc ls [va_rf r]) :=
  W.aret hx hb hr hrt (va_rf_or r) (fun t ht hW => ⟨⟨r, σ, rfl, hp, by rw [ht]; exact hw, va_K.moved hW.alike hK, hA.to hS hW ht⟩, hS.F ht⟩) hS.2.2 hdg hlocks
end PVC
