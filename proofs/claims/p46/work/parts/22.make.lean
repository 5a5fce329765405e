/-! MAKING: cells that are not in the pool yet, one behind another in a list -/
def yP (G : PvG) (X : va_W) (H : Heap) : Prop := va_P G.2.1 pvC X H ∧ va_D (pvB G) X
def pvY (G : PvG) (tys : List (ClassId × FieldType)) (X : va_W) (U : State) : Prop := yP G X U.heap ∧ va_K G.2.1 pvC tys U ∧ pvA0 G U U.heap
theorem pvY_calling {G : PvG} {tys : List (ClassId × FieldType)} {X : va_W} {av : List Value} : FrameBlind (va_Pc av (pvY G tys X)) := fun a U g mk q => ⟨q.1, q.2.1, va_K.moved (u := U) (U := U.calling g mk a) (Vm.Alike.refl U.vm) q.2.2.1, q.2.2.2.calling⟩
theorem y_start {X : va_W} {k : Nat} {e : Nat × va_E} (h : X[k]? = some e) : X = X.set k e ++ [] := by
  rw [List.append_nil]
  apply List.ext_getElem?
  intro j
  rw [List.getElem?_set]
  split
  · rename_i q
    subst q
    rw [if_pos (List.getElem?_eq_some_iff.mp h).1, h]
  · rfl
theorem y_lt {X : va_W} {k : Nat} {e : Nat × va_E} (h : X[k]? = some e) : k < X.length := (List.getElem?_eq_some_iff.mp h).1
theorem y_at0 {X l : va_W} {k : Nat} {e : Nat × va_E} (h : k < X.length) : (X.set k e ++ l)[k]? = some e := by
  rw [List.getElem?_append_left (by rw [List.length_set]; exact h), List.getElem?_set_self h]
theorem y_set0 {X l : va_W} {k : Nat} {e e' : Nat × va_E} (h : k < X.length) : (X.set k e ++ l).set k e' = X.set k e' ++ l := by
  rw [List.set_append_left _ _ (by rw [List.length_set]; exact h), List.set_set]
theorem y_last {A : va_W} {c : Nat × va_E} : (A ++ [c])[A.length]? = some c := by simp
theorem y_setL {A : va_W} {c c' : Nat × va_E} : (A ++ [c]).set A.length c' = A ++ [c'] := by
  rw [List.set_append_right _ _ (Nat.le_refl _)]; simp
theorem y_back {A l : va_W} {c c' : Nat × va_E} : (A ++ [c]).set A.length c' ++ l = A ++ (c' :: l) := by
  rw [y_setL, List.append_assoc]; rfl
section YR
variable {p : Program} {l : Launch} {e : Env} {R : Room} {s : State} {m : MethodId} {args : Array Value} {below : List Frame} {meth : Method} {c : Code} {H : Heap} {locs : List Loc} {cells slots : Nat} {Q : State → Prop}
variable {cc : ByteArray} {pc : Nat} {ls : Array Slot} {rest st0 : List Value} {a : Array Value} {tys : List (ClassId × FieldType)} {H0 : Heap} {G : PvG} {X : va_W} {mc ms : Nat}
theorem y_pre (hA : pvA0 G s s.heap) (hS : va_S (pvB G) s.heap H locs) (hw : yP G X H) (hK : va_K G.2.1 pvC tys s) (As : List Value) : PreS s H (va_Pc As (pvY G tys X)) As :=
  ⟨pvY_calling, fun U hU hW => ⟨rfl, by rw [hU]; exact hw, va_K.moved hW.alike hK, hA.to hS hW hU⟩⟩
theorem ycallv {post : va_W → Prop} (hr : va_Run p l e R s m args below meth c H locs cells slots mc ms (F0 m pc ls st0) rest (va_Qv post (pvY G tys) (pvB G) a) (pvB G)) (hS : va_S (pvB G) H0 H locs)
    (kk : ∀ (X' : va_W) (H1 : Heap) (locs1 : List Loc), post X' → yP G X' H1 → va_S (pvB G) H0 H1 locs1 → W p l e R s m args below meth c H1 locs1 (cells + mc) (slots + ms) Q (F0 m (pc + 3) ls (rest))) : W p l e R s m args below meth c H locs cells slots Q (F0 m pc ls st0) :=
  va_callv hr hS (fun _ _ h => h) (fun _ h => h) (fun u t H1 locs1 ht _ hp hb _ _ hS1 => kk u H1 locs1 hp (by rw [← ht]; exact hb.1) hS1)
theorem yev {post : va_W → Prop} (hx : p.tables.exec = Jvm.exec) (hb : c.code = cc) (hr : meth.sig.returnType = none) (hlocks : meth.locks = false) (hA : pvA0 G s s.heap) (hw : yP G X H) (hK : va_K G.2.1 pvC tys s) (hS : va_S (pvB G) s.heap H locs) (hp : post X) (hdg : decode cc pc = .ok (.return_, 1)) : W p l e R s m args below meth c H locs cells slots (MQ below (va_Qv post (pvY G tys) (pvB G)) args s cells slots (pvB G)) (F0 m pc ls []) :=
  W.vret hx hb hr (fun t ht hW => ⟨⟨X, rfl, hp, by rw [ht]; exact hw, va_K.moved hW.alike hK, hA.to hS hW ht⟩, hS.F ht⟩) hS.2.2 hdg hlocks
/-- the constructor of Object -/
theorem yobj {own : String} {idx : Nat} {q : Nat} (hx : p.tables.exec = Jvm.exec) (hb : c.code = cc) (hml : c.maxLocals = ls.size) (hown : s.vm.findClass own = some m.cls) (hlink : (Cond.methodLink own idx Lib.objectInit).before args s = true) (hinst : (Cond.instanceMethod Lib.objectInit).before args s = true) (hcode : (Cond.code Lib.objectInit ⟨#[0xb1]⟩ 1 none).before args s = true) (hd : decode cc pc = .ok (.invokespecial idx, 3))
    (hframes : 1 ≤ R.frames) (hlocals : (rest.map fun v => v.category).sum + 12 ≤ R.locals)
    (kk : W p l e R s m args below meth c H locs cells slots Q (F0 m (pc + 3) ls rest)) : W p l e R s m args below meth c H locs cells slots Q (F0 m pc ls (.ref q :: rest)) := by
  refine W.objInit hx hb hown hlink hinst hcode (g := F0 m pc ls (.ref q :: rest)) rfl hml.symm rfl hd hframes (by show 2 * 0 + _ + 12 ≤ _; omega) ?_
  exact kk
theorem y_cls {cA cB : ClassId} {ty : FieldType} {k : Nat} (hK : va_K G.2.1 pvC (tys ++ [(cA, ty)]) s) (hk : tys[k]? = some (cB, ty)) (ho : ∀ C, ty ≠ .object C) : cA = cB := by
  have a1 := (hK.2 tys.length (cA, ty) (by simp)).2
  have hlt := (List.getElem?_eq_some_iff.mp hk).1
  have a2 := (hK.2 k (cB, ty) (by rw [List.getElem?_append_left hlt]; exact hk)).2
  unfold va_RA at a1 a2
  cases ty with
  | object C => exact absurd rfl (ho C)
  | _ => exact Option.some.inj (a1.symm.trans a2)
theorem y_clsO {cA cB : ClassId} {C : String} {k : Nat} (hK : va_K G.2.1 pvC (tys ++ [(cA, .object C)]) s) (hk : tys[k]? = some (cB, .object C)) : cA = cB := by
  have hlt := (List.getElem?_eq_some_iff.mp hk).1
  obtain ⟨_, _, _, _, _, b1⟩ := (hK.2 tys.length (cA, .object C) (by simp)).2
  obtain ⟨_, _, _, _, _, b2⟩ := (hK.2 k (cB, .object C) (by rw [List.getElem?_append_left hlt]; exact hk)).2
  exact Option.some.inj (b1.symm.trans b2)
/-- a new array of ints -/
theorem ynewI (hx : p.tables.exec = Jvm.exec) (hb : c.code = cc) (harr : (Cond.arrayClass .int).before args s = true) (hA : pvA0 G s s.heap) (hK : va_K G.2.1 pvC tys s) (htys : tys = pvT G) (hw : yP G X H) (hS : va_S (pvB G) s.heap H locs) {n : Int32} {N : Nat} (hn : ¬ n < 0) (hN : n.toNatClampNeg = N) (hbytes : N ≤ 1000) (hcells : cells + 1 ≤ R.cells) (hslots : slots + N ≤ R.slots) (hdg : decode cc pc = .ok (.newarray .int, 2))
    (kk : ∀ (q : Nat) (H1 : Heap), yP G (X ++ [(q, .inl (G.1 0, N, .inl (fun _ => 0)))]) H1 → va_S (pvB G) s.heap H1 locs → W p l e R s m args below meth c H1 locs (cells + 1) (slots + N) Q (F0 m (pc + 2) ls (.ref q :: rest))) : W p l e R s m args below meth c H locs cells slots Q (F0 m pc ls (.int n :: rest)) := by
  refine va_newa (D := G.2.1) (atype := .int) (ty := .int) (a0 := (N, .inl (fun _ => 0))) hx hb harr rfl hK hw.1 hw.2 hS hA.1 (fun _ => rfl) hn hN (by show N * 4 ≤ _; omega) hcells hslots hdg fun q cA H1 hK1 hP1 hD1 hS1 => ?_
  have e : cA = G.1 0 := y_cls (k := 0) hK1 (by rw [htys]; rfl) (fun _ => by simp)
  subst e
  exact kk q H1 ⟨hP1, hD1⟩ hS1
theorem ynewZ (hx : p.tables.exec = Jvm.exec) (hb : c.code = cc) (harr : (Cond.arrayClass .boolean).before args s = true) (hA : pvA0 G s s.heap) (hK : va_K G.2.1 pvC tys s) (htys : tys = pvT G) (hw : yP G X H) (hS : va_S (pvB G) s.heap H locs) {n : Int32} {N : Nat} (hn : ¬ n < 0) (hN : n.toNatClampNeg = N) (hbytes : N ≤ 1000) (hcells : cells + 1 ≤ R.cells) (hslots : slots + N ≤ R.slots) (hdg : decode cc pc = .ok (.newarray .boolean, 2))
    (kk : ∀ (q : Nat) (H1 : Heap), yP G (X ++ [(q, .inl (G.1 1, N, .inl (fun _ => 0)))]) H1 → va_S (pvB G) s.heap H1 locs → W p l e R s m args below meth c H1 locs (cells + 1) (slots + N) Q (F0 m (pc + 2) ls (.ref q :: rest))) : W p l e R s m args below meth c H locs cells slots Q (F0 m pc ls (.int n :: rest)) := by
  refine va_newa (D := G.2.1) (atype := .boolean) (ty := .boolean) (a0 := (N, .inl (fun _ => 0))) hx hb harr rfl hK hw.1 hw.2 hS hA.1 (fun _ => rfl) hn hN (by show N * 1 ≤ _; omega) hcells hslots hdg fun q cA H1 hK1 hP1 hD1 hS1 => ?_
  have e : cA = G.1 1 := y_cls (k := 1) hK1 (by rw [htys]; rfl) (fun _ => by simp)
  subst e
  exact kk q H1 ⟨hP1, hD1⟩ hS1
/-- a new array of nodes -/
theorem ynewQ {own : String} {index : Nat} (hx : p.tables.exec = Jvm.exec) (hb : c.code = cc) (hown : s.vm.findClass own = some m.cls) (hcl : (Cond.classLink own index "PinnaceView$Node").before args s = true) (hover : va_AO "PinnaceView$Node" s) (hA : pvA0 G s s.heap) (hK : va_K G.2.1 pvC tys s) (htys : tys = pvT G) (hw : yP G X H) (hS : va_S (pvB G) s.heap H locs) {n : Int32} {N : Nat} (hn : ¬ n < 0) (hN : n.toNatClampNeg = N) (hbytes : N ≤ 1000) (hcells : cells + 1 ≤ R.cells) (hslots : slots + N ≤ R.slots) (hdg : decode cc pc = .ok (.anewarray index, 3))
    (kk : ∀ (q : Nat) (H1 : Heap), yP G (X ++ [(q, .inl (G.1 2, N, .inr (.inr (.inr (.inr (fun _ => none))))))]) H1 → va_S (pvB G) s.heap H1 locs → W p l e R s m args below meth c H1 locs (cells + 1) (slots + N) Q (F0 m (pc + 3) ls (.ref q :: rest))) : W p l e R s m args below meth c H locs cells slots Q (F0 m pc ls (.int n :: rest)) := by
  refine va_newq (D := G.2.1) hx hb hown hcl hover hK hw.1 hw.2 hS hA.1 hn hN (by omega) hcells hslots hdg fun q cA H1 hK1 hP1 hD1 hS1 => ?_
  have e : cA = G.1 2 := y_clsO (k := 2) hK1 (by rw [htys]; rfl)
  subst e
  exact kk q H1 ⟨hP1, hD1⟩ hS1
end YR
