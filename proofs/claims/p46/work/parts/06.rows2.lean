/-! MORE ROWS: nullable values, lists, casts, comparing objects, tables, Math -/
theorem pvK_c (i : Nat) : pvK (i + 3) = 3 := if_neg (by omega)
section PVX
variable {p : Program} {l : Launch} {e : Env} {R : Room} {s : State} {m : MethodId} {args : Array Value} {below : List Frame} {meth : Method} {c : Code} {H : Heap} {locs : List Loc} {cells slots : Nat} {Q : State → Prop}
variable {cc : ByteArray} {pc : Nat} {ls : Array Slot} {rest st0 : List Value} {a : Array Value} {tys : List (ClassId × FieldType)} {H0 : Heap} {G : PvG} {σ : PvS} {mc ms : Nat}
theorem qld_n (hx : p.tables.exec = Jvm.exec) (hb : c.code = cc) {k : Fin 4} {i : Nat} {o : Option Nat} (hdg : decode cc pc = .ok (.aload_n k, 1)) (hi : (k : Nat) = i) (hl : ls[i]? = some (.val (va_rf o))) (kk : W p l e R s m args below meth c H locs cells slots Q (F0 m (pc + 1) ls (va_rf o :: rest))) : W p l e R s m args below meth c H locs cells slots Q (F0 m pc ls rest) := by
  cases o with
  | none => exact lv_aload_nN hx hb hdg hi hl kk
  | some a => exact lv_aload_n hx hb hdg hi hl kk
theorem qst_n (hx : p.tables.exec = Jvm.exec) (hb : c.code = cc) {k : Fin 4} {i nL : Nat} {o : Option Nat} {lv lv' : List (Nat × Value)} (hdg : decode cc pc = .ok (.astore_n k, 1)) (hi : (k : Nat) = i) (h : lv_has ls nL lv) (hn : i < nL) (hl : (i, va_rf o) :: lv.filter (fun q => !(q.1 == i) && !(q.1 + 1 == i && q.2.category == 2)) = lv') (kk : ∀ ls' : Array Slot, lv_has ls' nL lv' → W p l e R s m args below meth c H locs cells slots Q (F0 m (pc + 1) ls' rest)) : W p l e R s m args below meth c H locs cells slots Q (F0 m pc ls (va_rf o :: rest)) := by
  cases o with
  | none => exact lv_astore_nN hx hb hdg hi h hn hl kk
  | some a => exact lv_astore_n hx hb hdg hi h hn hl kk
theorem qld (hx : p.tables.exec = Jvm.exec) (hb : c.code = cc) {i : Nat} {o : Option Nat} (hdg : decode cc pc = .ok (.aload i, 2)) (hl : ls[i]? = some (.val (va_rf o))) (kk : W p l e R s m args below meth c H locs cells slots Q (F0 m (pc + 2) ls (va_rf o :: rest))) : W p l e R s m args below meth c H locs cells slots Q (F0 m pc ls rest) := by
  cases o with
  | none => exact lv_aloadN hx hb hdg hl kk
  | some a => exact lv_aload hx hb hdg hl kk
theorem qst (hx : p.tables.exec = Jvm.exec) (hb : c.code = cc) {i nL : Nat} {o : Option Nat} {lv lv' : List (Nat × Value)} (hdg : decode cc pc = .ok (.astore i, 2)) (h : lv_has ls nL lv) (hn : i < nL) (hl : (i, va_rf o) :: lv.filter (fun q => !(q.1 == i) && !(q.1 + 1 == i && q.2.category == 2)) = lv') (kk : ∀ ls' : Array Slot, lv_has ls' nL lv' → W p l e R s m args below meth c H locs cells slots Q (F0 m (pc + 2) ls' rest)) : W p l e R s m args below meth c H locs cells slots Q (F0 m pc ls (va_rf o :: rest)) := by
  cases o with
  | none => exact lv_astoreN hx hb hdg h hn hl kk
  | some a => exact lv_astore hx hb hdg h hn hl kk
theorem pl_lt (hw : pvW G σ H) (j : Nat) (hj : j < σ.1 0 + 3) (i : Nat) (hi : i < (σ.2.2.2.2 j).length) {κ : Nat} (hκ : pvK j = κ) : (σ.2.2.2.2 j).getD i 0 < pvM σ κ := by
  obtain ⟨L, f, hO, ⟨ba, hL⟩, hP, hD, hz, hC⟩ := hw
  obtain ⟨⟨-, -, -, -, a5⟩, -, -⟩ := hL j hj
  subst hκ
  refine a5 _ ?_
  rw [List.getD_eq_getElem?_getD, List.getElem?_eq_getElem hi]
  exact List.getElem_mem hi
theorem pl_len (hw : pvW G σ H) (j : Nat) (hj : j < σ.1 0 + 3) : (σ.2.2.2.2 j).length ≤ 64 := by
  obtain ⟨L, f, hO, ⟨ba, hL⟩, hP, hD, hz, hC⟩ := hw
  exact (hL j hj).1.2.2.2.1
theorem pl_len2 (hw : pvW G σ H) (j : Nat) (hj : j < σ.1 0 + 3) : (σ.2.2.2.2 j).length < 2 ^ 31 := Nat.lt_of_le_of_lt (pl_len hw j hj) (by decide)
theorem pv_inj (hw : pvW G σ H) {κ i j : Nat} (hi : i < pvM σ κ) (hj : j < pvM σ κ) : G.2.2.1 κ i = G.2.2.1 κ j ↔ i = j := by
  obtain ⟨L, f, hO, -⟩ := hw
  exact ⟨fun q => (hO.2 κ i κ j hi hj q).2, fun q => by rw [q]⟩
/-- behind list.get(i) -/
theorem pcallg {j i κ : Nat} (hκ : pvK j = κ) (hr : va_Run p l e R s m args below meth c H locs cells slots mc ms (F0 m pc ls st0) rest (va_Qq (fun r σ' => r = some (G.2.2.1 (pvK j) ((σ.2.2.2.2 j).getD i 0)) ∧ σ' = σ) (pvU G tys) (pvB G) a) (pvB G)) (hS : va_S (pvB G) H0 H locs)
    (kk : ∀ (y : Nat), y = (σ.2.2.2.2 j).getD i 0 → ∀ (H1 : Heap) (locs1 : List Loc), pvW G σ H1 → va_S (pvB G) H0 H1 locs1 → W p l e R s m args below meth c H1 locs1 (cells + mc) (slots + ms) Q (F0 m (pc + 3) ls (.ref (G.2.2.1 κ y) :: rest))) : W p l e R s m args below meth c H locs cells slots Q (F0 m pc ls st0) := by
  subst hκ
  refine pcallq hr hS fun r σ' H1 locs1 hp hw1 hS1 => ?_
  obtain ⟨rfl, rfl⟩ := hp
  exact kk _ rfl H1 locs1 hw1 hS1
/-- a cast to the class that it is of -/
theorem pcast {own C : String} {T : u_T} {N index : Nat} (hx : p.tables.exec = Jvm.exec) (hb : c.code = cc) (hown : s.vm.findClass own = some m.cls) (hK : va_K G.2.1 pvC tys s) (hw : pvW G σ H) (κ i : Nat) (hi : i < pvM σ κ) (hκ : κ ≤ 9) (hc : pvC[κ + 1]? = some (C, T, N)) (hlink : (Cond.classLink own index C).before args s = true) (hdg : decode cc pc = .ok (.checkcast index, 3))
    (kk : W p l e R s m args below meth c H locs cells slots Q (F0 m (pc + 3) ls (.ref (G.2.2.1 κ i) :: rest))) : W p l e R s m args below meth c H locs cells slots Q (F0 m pc ls (.ref (G.2.2.1 κ i) :: rest)) :=
  va_castS hx hb hown hlink (hK.1 (κ + 1) _ hc).2 (pv_recv hw hK κ i hi hκ hc) hdg kk
theorem pacmp_ne (hx : p.tables.exec = Jvm.exec) (hb : c.code = cc) (hw : pvW G σ H) (κ i j : Nat) (hi : i < pvM σ κ) (hj : j < pvM σ κ) {off : Int} {tgt : Nat} (hdg : decode cc pc = .ok (.if_acmp .ne off, 3)) (ht : (pc : Int) + off = (tgt : Int))
    (kt : ¬ i = j → W p l e R s m args below meth c H locs cells slots Q (F0 m tgt ls rest)) (kf : i = j → W p l e R s m args below meth c H locs cells slots Q (F0 m (pc + 3) ls rest)) : W p l e R s m args below meth c H locs cells slots Q (F0 m pc ls (.ref (G.2.2.1 κ j) :: .ref (G.2.2.1 κ i) :: rest)) :=
  lv_acmp_ne (rx := some (G.2.2.1 κ i)) (ry := some (G.2.2.1 κ j)) hx hb hdg ht (fun q => kt fun z => q (by rw [z])) (fun q => kf ((pv_inj hw hi hj).mp (Option.some.inj q)))
theorem pacmp_eq (hx : p.tables.exec = Jvm.exec) (hb : c.code = cc) (hw : pvW G σ H) (κ i j : Nat) (hi : i < pvM σ κ) (hj : j < pvM σ κ) {off : Int} {tgt : Nat} (hdg : decode cc pc = .ok (.if_acmp .eq off, 3)) (ht : (pc : Int) + off = (tgt : Int))
    (kt : i = j → W p l e R s m args below meth c H locs cells slots Q (F0 m tgt ls rest)) (kf : ¬ i = j → W p l e R s m args below meth c H locs cells slots Q (F0 m (pc + 3) ls rest)) : W p l e R s m args below meth c H locs cells slots Q (F0 m pc ls (.ref (G.2.2.1 κ j) :: .ref (G.2.2.1 κ i) :: rest)) :=
  lv_acmp_eq (rx := some (G.2.2.1 κ i)) (ry := some (G.2.2.1 κ j)) hx hb hdg ht (fun q => kt ((pv_inj hw hi hj).mp (Option.some.inj q))) (fun q => kf fun z => q (by rw [z]))
theorem pacmpN_ne (hx : p.tables.exec = Jvm.exec) (hb : c.code = cc) {x : Nat} {off : Int} {tgt : Nat} (hdg : decode cc pc = .ok (.if_acmp .ne off, 3)) (ht : (pc : Int) + off = (tgt : Int))
    (kt : W p l e R s m args below meth c H locs cells slots Q (F0 m tgt ls rest)) : W p l e R s m args below meth c H locs cells slots Q (F0 m pc ls (.ref x :: .null :: rest)) :=
  lv_acmp_ne (rx := none) (ry := some x) hx hb hdg ht (fun _ => kt) (fun q => nomatch q)
theorem pacmpN_eq (hx : p.tables.exec = Jvm.exec) (hb : c.code = cc) {x : Nat} {off : Int} {tgt : Nat} (hdg : decode cc pc = .ok (.if_acmp .eq off, 3)) (ht : (pc : Int) + off = (tgt : Int))
    (kf : W p l e R s m args below meth c H locs cells slots Q (F0 m (pc + 3) ls rest)) : W p l e R s m args below meth c H locs cells slots Q (F0 m pc ls (.ref x :: .null :: rest)) :=
  lv_acmp_eq (rx := none) (ry := some x) hx hb hdg ht (fun q => nomatch q) (fun _ => kf)
theorem pv_injq {o : Option Nat} {κ j : Nat} (hw : pvW G σ H) (ho : ∀ i, o = some i → i < pvM σ κ) (hj : j < pvM σ κ) (h : o.map (G.2.2.1 κ) = some (G.2.2.1 κ j)) : o = some j := by
  cases o with
  | none => cases h
  | some i => rw [(pv_inj hw (ho i rfl) hj).mp (Option.some.inj h)]
theorem pacmpq_ne (hx : p.tables.exec = Jvm.exec) (hb : c.code = cc) (hw : pvW G σ H) (κ : Nat) (o : Option Nat) (j : Nat) (ho : ∀ i, o = some i → i < pvM σ κ) (hj : j < pvM σ κ) {off : Int} {tgt : Nat} (hdg : decode cc pc = .ok (.if_acmp .ne off, 3)) (ht : (pc : Int) + off = (tgt : Int))
    (kt : ¬ o = some j → W p l e R s m args below meth c H locs cells slots Q (F0 m tgt ls rest)) (kf : o = some j → W p l e R s m args below meth c H locs cells slots Q (F0 m (pc + 3) ls rest)) : W p l e R s m args below meth c H locs cells slots Q (F0 m pc ls (.ref (G.2.2.1 κ j) :: va_rf (o.map (G.2.2.1 κ)) :: rest)) :=
  lv_acmp_ne (rx := o.map (G.2.2.1 κ)) (ry := some (G.2.2.1 κ j)) hx hb hdg ht (fun q => kt (fun z => q (by rw [z]; rfl))) (fun q => kf (pv_injq hw ho hj q))
theorem pacmpq_eq (hx : p.tables.exec = Jvm.exec) (hb : c.code = cc) (hw : pvW G σ H) (κ : Nat) (o : Option Nat) (j : Nat) (ho : ∀ i, o = some i → i < pvM σ κ) (hj : j < pvM σ κ) {off : Int} {tgt : Nat} (hdg : decode cc pc = .ok (.if_acmp .eq off, 3)) (ht : (pc : Int) + off = (tgt : Int))
    (kt : o = some j → W p l e R s m args below meth c H locs cells slots Q (F0 m tgt ls rest)) (kf : ¬ o = some j → W p l e R s m args below meth c H locs cells slots Q (F0 m (pc + 3) ls rest)) : W p l e R s m args below meth c H locs cells slots Q (F0 m pc ls (.ref (G.2.2.1 κ j) :: va_rf (o.map (G.2.2.1 κ)) :: rest)) :=
  lv_acmp_eq (rx := o.map (G.2.2.1 κ)) (ry := some (G.2.2.1 κ j)) hx hb hdg ht (fun q => kt (pv_injq hw ho hj q)) (fun q => kf (fun z => q (by rw [z]; rfl)))
theorem pgT (hx : p.tables.exec = Jvm.exec) (hb : c.code = cc) (hA : pvA0 G s s.heap) (hS : va_S (pvB G) s.heap H locs) (k : Nat) {n : String} {f : Nat → Int32} (hT : pvSt G k n f s s.heap) {i : Int32} (hin : vp_in i 14) (hdg : decode cc pc = .ok (.iaload, 1))
    (kk : W p l e R s m args below meth c H locs cells slots Q (F0 m (pc + 1) ls (.int (f i.toNatClampNeg) :: rest))) : W p l e R s m args below meth c H locs cells slots Q (F0 m pc ls (.int i :: .ref (G.2.2.2.1.1 k) :: rest)) :=
  va_ti hx hb hT.2 hS hin rfl hdg kk
theorem pmmax (hx : p.tables.exec = Jvm.exec) (hb : c.code = cc) (hml : c.maxLocals = ls.size) {own : String} {index : Nat} (hown : s.vm.findClass own = some m.cls) (hlink : (Cond.methodLink own index Lib.Math.max.name).before args s = true) (hstat : (Cond.static Lib.Math.max.name).before args s = true) (hini : (Cond.initialized "java/lang/Math").before args s = true) (hcode : (Cond.code Lib.Math.max.name Lib.Math.max.code 2 (some .int)).before args s = true)
    (hframes : 1 ≤ R.frames) (hlocals : (rest.map fun v => v.category).sum + 13 ≤ R.locals) (hc : cells ≤ R.cells) (hs : slots ≤ R.slots) {x y : Int32} (hdg : decode cc pc = .ok (.invokestatic index, 3))
    (kk : W p l e R s m args below meth c H locs cells slots Q (F0 m (pc + 3) ls (.int (imax x y) :: rest))) : W p l e R s m args below meth c H locs cells slots Q (F0 m pc ls (.int y :: .int x :: rest)) :=
  va_mmax hx hb hml hown hlink hstat hini hcode hframes hlocals hc hs hdg kk
theorem pmmin (hx : p.tables.exec = Jvm.exec) (hb : c.code = cc) (hml : c.maxLocals = ls.size) {own : String} {index : Nat} (hown : s.vm.findClass own = some m.cls) (hlink : (Cond.methodLink own index Lib.Math.min.name).before args s = true) (hstat : (Cond.static Lib.Math.min.name).before args s = true) (hini : (Cond.initialized "java/lang/Math").before args s = true) (hcode : (Cond.code Lib.Math.min.name Lib.Math.min.code 2 (some .int)).before args s = true)
    (hframes : 1 ≤ R.frames) (hlocals : (rest.map fun v => v.category).sum + 13 ≤ R.locals) (hc : cells ≤ R.cells) (hs : slots ≤ R.slots) {x y : Int32} (hdg : decode cc pc = .ok (.invokestatic index, 3))
    (kk : W p l e R s m args below meth c H locs cells slots Q (F0 m (pc + 3) ls (.int (imin x y) :: rest))) : W p l e R s m args below meth c H locs cells slots Q (F0 m pc ls (.int y :: .int x :: rest)) :=
  va_mmin hx hb hml hown hlink hstat hini hcode hframes hlocals hc hs hdg kk
end PVX
