/-! CONTRACTS over the pool: what holds between two calls, ends, calls -/
def pvU (G : PvG) (tys : List (ClassId × FieldType)) (σ : PvS) (U : State) : Prop := pvW G σ U.heap ∧ va_K G.2.1 pvC tys U ∧ ∀ q, U.heap.size ≤ q → G.2.2.2.2 q
abbrev pvB (G : PvG) : Nat → Prop := fun q => G.2.2.2.2 q
theorem pvU_calling {G : PvG} {tys : List (ClassId × FieldType)} {σ : PvS} {av : List Value} : FrameBlind (va_Pc av (pvU G tys σ)) := fun a U g mk q => ⟨q.1, q.2.1, va_K.moved (u := U) (U := U.calling g mk a) (Vm.Alike.refl U.vm) q.2.2.1, q.2.2.2⟩
section PVC
variable {p : Program} {l : Launch} {e : Env} {R : Room} {s : State} {m : MethodId} {args : Array Value} {below : List Frame} {meth : Method} {c : Code} {H : Heap} {locs : List Loc} {cells slots : Nat} {Q : State → Prop}
variable {cc : ByteArray} {pc : Nat} {ls : Array Slot} {rest st0 : List Value} {a : Array Value} {tys : List (ClassId × FieldType)} {H0 : Heap} {G : PvG} {σ : PvS} {mc ms : Nat}
theorem pv_recv {C : String} {T : u_T} {N : Nat} (hw : pvW G σ H) (hK : va_K G.2.1 pvC tys s) (κ i : Nat) (hi : i < pvM σ κ) (hκ : κ ≤ 9) (hc : pvC[κ + 1]? = some (C, T, N)) : ∃ cell : Cell, H[G.2.2.1 κ i]? = some cell ∧ cell.vm.isStatics = false ∧ s.vm.findClass C = some cell.cls := by
  obtain ⟨L, f, hO, hL, hP, hD, hz⟩ := hw
  obtain ⟨ha, he⟩ := hO.1 κ i hi
  obtain ⟨q0, hq⟩ := va_pl_get (X := []) (f := f) ha
  rw [pvE_obj hκ] at he
  exact va_recv (ci := κ + 1) hK hP hc (by rw [← he]; exact hq)
/-- what a call of an object's method wants -/
theorem pv_preV {C : String} {T : u_T} {N : Nat} (hA : ∀ q, s.heap.size ≤ q → G.2.2.2.2 q) (hS : va_S (pvB G) s.heap H locs) (hw : pvW G σ H) (hK : va_K G.2.1 pvC tys s) (κ i : Nat) (hi : i < pvM σ κ) (hκ : κ ≤ 9) (hc : pvC[κ + 1]? = some (C, T, N)) (As : List Value) : PreV s H C (G.2.2.1 κ i) (va_Pc (.ref (G.2.2.1 κ i) :: As) (pvU G tys σ)) As :=
  ⟨pvU_calling, pv_recv hw hK κ i hi hκ hc, fun U hU hW => ⟨rfl, by rw [hU]; exact hw, va_K.moved hW.alike hK, fun q hq => hA q (Nat.le_trans hS.1 (by rw [← hU]; exact hq))⟩⟩
theorem pv_preS (hA : ∀ q, s.heap.size ≤ q → G.2.2.2.2 q) (hS : va_S (pvB G) s.heap H locs) (hw : pvW G σ H) (hK : va_K G.2.1 pvC tys s) (As : List Value) : PreS s H (va_Pc As (pvU G tys σ)) As :=
  ⟨pvU_calling, fun U hU hW => ⟨rfl, by rw [hU]; exact hw, va_K.moved hW.alike hK, fun q hq => hA q (Nat.le_trans hS.1 (by rw [← hU]; exact hq))⟩⟩
theorem pcalli {post : Int32 → PvS → Prop} (hr : va_Run p l e R s m args below meth c H locs cells slots mc ms (F0 m pc ls st0) rest (va_Qi post (pvU G tys) (pvB G) a) (pvB G)) (hS : va_S (pvB G) H0 H locs)
    (kk : ∀ (r : Int32) (σ' : PvS) (H1 : Heap) (locs1 : List Loc), post r σ' → pvW G σ' H1 → va_S (pvB G) H0 H1 locs1 → W p l e R s m args below meth c H1 locs1 (cells + mc) (slots + ms) Q (F0 m (pc + 3) ls (.int r :: rest))) : W p l e R s m args below meth c H locs cells slots Q (F0 m pc ls st0) :=
  va_calli hr hS (fun _ _ h => h) (fun _ h => h) (fun r u t H1 locs1 ht _ hp hb _ _ hS1 => kk r u H1 locs1 hp (by rw [← ht]; exact hb.1) hS1)
theorem pcallv {post : PvS → Prop} (hr : va_Run p l e R s m args below meth c H locs cells slots mc ms (F0 m pc ls st0) rest (va_Qv post (pvU G tys) (pvB G) a) (pvB G)) (hS : va_S (pvB G) H0 H locs)
    (kk : ∀ (σ' : PvS) (H1 : Heap) (locs1 : List Loc), post σ' → pvW G σ' H1 → va_S (pvB G) H0 H1 locs1 → W p l e R s m args below meth c H1 locs1 (cells + mc) (slots + ms) Q (F0 m (pc + 3) ls rest)) : W p l e R s m args below meth c H locs cells slots Q (F0 m pc ls st0) :=
  va_callv hr hS (fun _ _ h => h) (fun _ h => h) (fun u t H1 locs1 ht _ hp hb _ _ hS1 => kk u H1 locs1 hp (by rw [← ht]; exact hb.1) hS1)
theorem pcallq {post : Option Nat → PvS → Prop} (hr : va_Run p l e R s m args below meth c H locs cells slots mc ms (F0 m pc ls st0) rest (va_Qq post (pvU G tys) (pvB G) a) (pvB G)) (hS : va_S (pvB G) H0 H locs)
    (kk : ∀ (r : Option Nat) (σ' : PvS) (H1 : Heap) (locs1 : List Loc), post r σ' → pvW G σ' H1 → va_S (pvB G) H0 H1 locs1 → W p l e R s m args below meth c H1 locs1 (cells + mc) (slots + ms) Q (F0 m (pc + 3) ls (va_rf r :: rest))) : W p l e R s m args below meth c H locs cells slots Q (F0 m pc ls st0) :=
  va_callq hr hS (fun _ _ h => h) (fun _ h => h) (fun r u t H1 locs1 ht _ hp hb _ _ hS1 => kk r u H1 locs1 hp (by rw [← ht]; exact hb.1) hS1)
/-- ends -/
theorem pei {post : Int32 → PvS → Prop} {r : Int32} (hx : p.tables.exec = Jvm.exec) (hb : c.code = cc) (hr : meth.sig.returnType = some .int) (hlocks : meth.locks = false) (hA : ∀ q, s.heap.size ≤ q → G.2.2.2.2 q) (hw : pvW G σ H) (hK : va_K G.2.1 pvC tys s) (hS : va_S (pvB G) s.heap H locs) (hp : post r σ) (hdg : decode cc pc = .ok (.ireturn, 1)) : W p l e R s m args below meth c H locs cells slots (MQ below (va_Qi post (pvU G tys) (pvB G)) args s cells slots (pvB G)) (F0 m pc ls [.int r]) :=
  W.iret hx hb hr (fun t ht hW => ⟨⟨r, σ, rfl, hp, by rw [ht]; exact hw, va_K.moved hW.alike hK, fun q hq => hA q (Nat.le_trans hS.1 (by rw [← ht]; exact hq))⟩, hS.F ht⟩) hS.2.2 hdg hlocks
theorem pez {post : Int32 → PvS → Prop} {r : Int32} (hx : p.tables.exec = Jvm.exec) (hb : c.code = cc) (hr : meth.sig.returnType = some .boolean) (hlocks : meth.locks = false) (hA : ∀ q, s.heap.size ≤ q → G.2.2.2.2 q) (hw : pvW G σ H) (hK : va_K G.2.1 pvC tys s) (hS : va_S (pvB G) s.heap H locs) (hn : narrow .boolean (.int r) = .int r) (hp : post r σ) (hdg : decode cc pc = .ok (.ireturn, 1)) : W p l e R s m args below meth c H locs cells slots (MQ below (va_Qi post (pvU G tys) (pvB G)) args s cells slots (pvB G)) (F0 m pc ls [.int r]) :=
  W.zret hx hb hr hn (fun t ht hW => ⟨⟨r, σ, rfl, hp, by rw [ht]; exact hw, va_K.moved hW.alike hK, fun q hq => hA q (Nat.le_trans hS.1 (by rw [← ht]; exact hq))⟩, hS.F ht⟩) hS.2.2 hdg hlocks
theorem pev {post : PvS → Prop} (hx : p.tables.exec = Jvm.exec) (hb : c.code = cc) (hr : meth.sig.returnType = none) (hlocks : meth.locks = false) (hA : ∀ q, s.heap.size ≤ q → G.2.2.2.2 q) (hw : pvW G σ H) (hK : va_K G.2.1 pvC tys s) (hS : va_S (pvB G) s.heap H locs) (hp : post σ) (hdg : decode cc pc = .ok (.return_, 1)) : W p l e R s m args below meth c H locs cells slots (MQ below (va_Qv post (pvU G tys) (pvB G)) args s cells slots (pvB G)) (F0 m pc ls []) :=
  W.vret hx hb hr (fun t ht hW => ⟨⟨σ, rfl, hp, by rw [ht]; exact hw, va_K.moved hW.alike hK, fun q hq => hA q (Nat.le_trans hS.1 (by rw [← ht]; exact hq))⟩, hS.F ht⟩) hS.2.2 hdg hlocks
theorem peq {post : Option Nat → PvS → Prop} {r : Option Nat} {rt : FieldType} (hx : p.tables.exec = Jvm.exec) (hb : c.code = cc) (hr : meth.sig.returnType = some rt) (hrt : (∃ n, rt = .object n) ∨ ∃ t, rt = .array t) (hlocks : meth.locks = false) (hA : ∀ q, s.heap.size ≤ q → G.2.2.2.2 q) (hw : pvW G σ H) (hK : va_K G.2.1 pvC tys s) (hS : va_S (pvB G) s.heap H locs) (hp : post r σ) (hdg : decode cc pc = .ok (.areturn, 1)) : W p l e R s m args below meth c H locs cells slots (MQ below (va_Qq post (pvU G tys) (pvB G)) args s cells slots (pvB G)) (F0 m pc ls [va_rf r]) :=
  W.aret hx hb hr hrt (va_rf_or r) (fun t ht hW => ⟨⟨r, σ, rfl, hp, by rw [ht]; exact hw, va_K.moved hW.alike hK, fun q hq => hA q (Nat.le_trans hS.1 (by rw [← ht]; exact hq))⟩, hS.F ht⟩) hS.2.2 hdg hlocks
end PVC
