/-! ROWS over the pool of objects -/
/-- array classes, class tables, addresses, the shared empty array, which addresses are ours (all that are free are) -/
abbrev PvG : Type := (Nat → ClassId) × va_G × (Nat → Nat → Nat) × Nat × (Nat → Prop)
/-- of which kind a list's elements are: list 2 is that of the rules -/
def pvK (j : Nat) : Nat := if j = 2 then 5 else 3
/-- the lists: 0 all nodes, 1 the order, 2 the rules, i + 3 the children of node i -/
def pvLl (cy : Nat → ClassId) (ad : Nat → Nat → Nat) (d0 : Nat) (σ : PvS) (L : List Nat) (f : Nat → va_E) : Prop :=
  ∃ ba : Nat → Nat, ∀ j, j < σ.1.1 + 3 →
    (ad 10 j ∈ L ∧ (∀ κ i, i < pvM σ κ → ad κ i ≠ ad 10 j) ∧ (∀ j', j' < σ.1.1 + 3 → ad 10 j' = ad 10 j → j' = j) ∧ (σ.2.2.2.2.2 j).length ≤ 64 ∧ (∀ x ∈ σ.2.2.2.2.2 j, x < pvM σ (pvK j))) ∧
    (∃ mc : Int32, f (ad 10 j) = .inr (0, [.int mc, .ref (ba j), .int (nI (σ.2.2.2.2.2 j).length)])) ∧
    ((σ.2.2.2.2.2 j = [] ∧ ba j = d0) ∨ ∃ cap : Nat, ba j ∈ L ∧ (∀ κ i, i < pvM σ κ → ad κ i ≠ ba j) ∧ (∀ j', j' < σ.1.1 + 3 → ad 10 j' ≠ ba j) ∧ (∀ j', j' < σ.1.1 + 3 → ba j' = ba j → j' = j) ∧ (σ.2.2.2.2.2 j).length ≤ cap ∧ cap ≤ 1000 ∧
      f (ba j) = .inl (cy 3, cap, .inr (.inr (.inr (.inr (fun t => ((σ.2.2.2.2.2 j)[t]?).map (ad (pvK j))))))))
/-- the world: all objects of the system, as the state has them -/
def pvW (G : PvG) (σ : PvS) (H : Heap) : Prop := ∃ (L : List Nat) (f : Nat → va_E), pvO G.1 G.2.2.1 σ L f ∧ pvLl G.1 G.2.2.1 G.2.2.2.1 σ L f ∧ va_P G.2.1 pvC (va_pl L f) H ∧ va_D (fun q => G.2.2.2.2 q) (va_pl L f) ∧ ¬ G.2.2.2.2 G.2.2.2.1
theorem pvLl_put {cy : Nat → ClassId} {ad : Nat → Nat → Nat} {d0 : Nat} {σ σ' : PvS} {L : List Nat} {f : Nat → va_E} {κ i : Nat} {en : va_E} (h : pvLl cy ad d0 σ L f) (hi : i < pvM σ κ) (hd : ad κ i ≠ d0) (h1 : σ'.1 = σ.1) (h2 : σ'.2.2.2.2.2 = σ.2.2.2.2.2) : pvLl cy ad d0 σ' L (va_up f (ad κ i) en) := by
  have hM : ∀ κ, pvM σ' κ = pvM σ κ := fun κ => by unfold pvM; rw [h1]
  obtain ⟨ba, h⟩ := h
  refine ⟨ba, fun j hj => ?_⟩
  rw [h1] at hj
  obtain ⟨⟨a1, a2, a3, a4, a5⟩, ⟨mc, b⟩, c⟩ := h j hj
  rw [h1, h2]
  simp only [hM]
  refine ⟨⟨a1, a2, a3, a4, a5⟩, ⟨mc, ?_⟩, ?_⟩
  · rw [va_up_ne _ _ (fun q => a2 κ i hi q.symm)]
    exact b
  · rcases c with c | ⟨cap, c1, c2, c3, c4, c5, c6, c7⟩
    · exact Or.inl c
    · exact Or.inr ⟨cap, c1, c2, c3, c4, c5, c6, by rw [va_up_ne _ _ (fun q => c2 κ i hi q.symm)]; exact c7⟩
/-- the array classes: of numbers, of booleans, of nodes, of objects, of arrays of numbers -/
abbrev pvT (G : PvG) : List (ClassId × FieldType) := [(G.1 0, .int), (G.1 1, .boolean), (G.1 2, .object "PinnaceView$Node"), (G.1 3, .object "java/lang/Object"), (G.1 4, .array .int)]
section PVR
variable {p : Program} {l : Launch} {e : Env} {R : Room} {s : State} {m : MethodId} {args : Array Value} {below : List Frame} {meth : Method} {c : Code} {H : Heap} {locs : List Loc} {cells slots : Nat} {Q : State → Prop}
variable {cc : ByteArray} {pc : Nat} {ls : Array Slot} {rest : List Value} {tys : List (ClassId × FieldType)} {H0 : Heap} {G : PvG} {σ : PvS} {own ref C : String} {T : u_T} {N index : Nat} {Ts : List Cond}
theorem pv_range {α : Type} {n k : Nat} {g : Nat → α} (h : k < n) : ((List.range n).map g)[k]? = some (g k) := by
  rw [List.getElem?_map, List.getElem?_range h]
  rfl
/-- a field is read -/
theorem pg (hx : p.tables.exec = Jvm.exec) (hb : c.code = cc) (hts : ∀ w ∈ Ts, w.before args s = true) (hown : s.vm.findClass own = some m.cls) (hK : va_K G.2.1 pvC tys s) (hw : pvW G σ H) (κ k i : Nat) (hi : i < pvM σ κ) (hκ : κ ≤ 9) (hc : pvC[κ + 1]? = some (C, T, N)) (hN : pvN κ = N) (hin : ∀ w ∈ u_ws C T N, w ∈ Ts) (hk : k < N) (hlink : (Cond.fieldLink own index ref (T k).2.1 (T k).2.2.1).before args s = true) (hsame : ∀ x, s.fieldFound? (T k).1 (T k).2.1 (T k).2.2.1 = some x → s.fieldFound? ref (T k).2.1 (T k).2.2.1 = some x) (hdg : decode cc pc = .ok (.getfield index, 3))
    (kk : W p l e R s m args below meth c H locs cells slots Q (F0 m (pc + 3) ls (pvF G.2.2.1 σ κ k i :: rest))) : W p l e R s m args below meth c H locs cells slots Q (F0 m pc ls (.ref (G.2.2.1 κ i) :: rest)) := by
  obtain ⟨L, f, hO, hL, hP, hD, hz⟩ := hw
  obtain ⟨ha, he⟩ := hO.1 κ i hi
  obtain ⟨q0, hq⟩ := va_pl_get (X := []) (f := f) ha
  refine va_get (D := G.2.1) (ci := κ + 1) (fs := (List.range (pvN κ)).map (fun k => pvF G.2.2.1 σ κ k i)) hx hb hts hin hown hK hP q0 (by rw [pvE_obj hκ] at he; rw [← he]; exact hq) hc k hk hlink hsame (pv_range (by rw [hN]; exact hk)) hdg kk
/-- a number's field is read -/
theorem pgI (hx : p.tables.exec = Jvm.exec) (hb : c.code = cc) (hts : ∀ w ∈ Ts, w.before args s = true) (hown : s.vm.findClass own = some m.cls) (hK : va_K G.2.1 pvC tys s) (hw : pvW G σ H) (κ k i : Nat) (hi : i < pvM σ κ) (hκ : κ ≤ 9) (hc : pvC[κ + 1]? = some (C, T, N)) (hN : pvN κ = N) (hin : ∀ w ∈ u_ws C T N, w ∈ Ts) (hk : k < N) (hf : (pvc κ k).1 = 0) (hlink : (Cond.fieldLink own index ref (T k).2.1 (T k).2.2.1).before args s = true) (hsame : ∀ x, s.fieldFound? (T k).1 (T k).2.1 (T k).2.2.1 = some x → s.fieldFound? ref (T k).2.1 (T k).2.2.1 = some x) (hdg : decode cc pc = .ok (.getfield index, 3))
    (kk : W p l e R s m args below meth c H locs cells slots Q (F0 m (pc + 3) ls (.int (σ.2.1 κ k i) :: rest))) : W p l e R s m args below meth c H locs cells slots Q (F0 m pc ls (.ref (G.2.2.1 κ i) :: rest)) :=
  pg hx hb hts hown hK hw κ k i hi hκ hc hN hin hk hlink hsame hdg (by rw [pvF_I hf]; exact kk)
/-- a node's field is read: null, or a node -/
theorem pgR (hx : p.tables.exec = Jvm.exec) (hb : c.code = cc) (hts : ∀ w ∈ Ts, w.before args s = true) (hown : s.vm.findClass own = some m.cls) (hK : va_K G.2.1 pvC tys s) (hw : pvW G σ H) (κ k i : Nat) (hi : i < pvM σ κ) (hκ : κ ≤ 9) (hc : pvC[κ + 1]? = some (C, T, N)) (hN : pvN κ = N) (hin : ∀ w ∈ u_ws C T N, w ∈ Ts) (hk : k < N) (hf : (pvc κ k).1 = 3) (hlink : (Cond.fieldLink own index ref (T k).2.1 (T k).2.2.1).before args s = true) (hsame : ∀ x, s.fieldFound? (T k).1 (T k).2.1 (T k).2.2.1 = some x → s.fieldFound? ref (T k).2.1 (T k).2.2.1 = some x) (hdg : decode cc pc = .ok (.getfield index, 3))
    (k0 : σ.2.2.1 κ k i = none → W p l e R s m args below meth c H locs cells slots Q (F0 m (pc + 3) ls (.null :: rest))) (k1 : ∀ j, σ.2.2.1 κ k i = some j → W p l e R s m args below meth c H locs cells slots Q (F0 m (pc + 3) ls (.ref (G.2.2.1 3 j) :: rest))) : W p l e R s m args below meth c H locs cells slots Q (F0 m pc ls (.ref (G.2.2.1 κ i) :: rest)) := by
  refine pg hx hb hts hown hK hw κ k i hi hκ hc hN hin hk hlink hsame hdg ?_
  rw [pvF_R hf]
  cases hq : σ.2.2.1 κ k i with
  | none => exact k0 hq
  | some j => exact k1 j hq
/-- a node's field of which it is known what it holds -/
theorem pgRs (hx : p.tables.exec = Jvm.exec) (hb : c.code = cc) (hts : ∀ w ∈ Ts, w.before args s = true) (hown : s.vm.findClass own = some m.cls) (hK : va_K G.2.1 pvC tys s) (hw : pvW G σ H) (κ k i : Nat) (hi : i < pvM σ κ) (hκ : κ ≤ 9) (hc : pvC[κ + 1]? = some (C, T, N)) (hN : pvN κ = N) (hin : ∀ w ∈ u_ws C T N, w ∈ Ts) (hk : k < N) (hf : (pvc κ k).1 = 3) {j : Nat} (hq : σ.2.2.1 κ k i = some j) (hlink : (Cond.fieldLink own index ref (T k).2.1 (T k).2.2.1).before args s = true) (hsame : ∀ x, s.fieldFound? (T k).1 (T k).2.1 (T k).2.2.1 = some x → s.fieldFound? ref (T k).2.1 (T k).2.2.1 = some x) (hdg : decode cc pc = .ok (.getfield index, 3))
    (kk : W p l e R s m args below meth c H locs cells slots Q (F0 m (pc + 3) ls (.ref (G.2.2.1 3 j) :: rest))) : W p l e R s m args below meth c H locs cells slots Q (F0 m pc ls (.ref (G.2.2.1 κ i) :: rest)) :=
  pg hx hb hts hown hK hw κ k i hi hκ hc hN hin hk hlink hsame hdg (by rw [pvF_R hf, hq]; exact kk)
theorem pgRn (hx : p.tables.exec = Jvm.exec) (hb : c.code = cc) (hts : ∀ w ∈ Ts, w.before args s = true) (hown : s.vm.findClass own = some m.cls) (hK : va_K G.2.1 pvC tys s) (hw : pvW G σ H) (κ k i : Nat) (hi : i < pvM σ κ) (hκ : κ ≤ 9) (hc : pvC[κ + 1]? = some (C, T, N)) (hN : pvN κ = N) (hin : ∀ w ∈ u_ws C T N, w ∈ Ts) (hk : k < N) (hf : (pvc κ k).1 = 3) (hq : σ.2.2.1 κ k i = none) (hlink : (Cond.fieldLink own index ref (T k).2.1 (T k).2.2.1).before args s = true) (hsame : ∀ x, s.fieldFound? (T k).1 (T k).2.1 (T k).2.2.1 = some x → s.fieldFound? ref (T k).2.1 (T k).2.2.1 = some x) (hdg : decode cc pc = .ok (.getfield index, 3))
    (kk : W p l e R s m args below meth c H locs cells slots Q (F0 m (pc + 3) ls (.null :: rest))) : W p l e R s m args below meth c H locs cells slots Q (F0 m pc ls (.ref (G.2.2.1 κ i) :: rest)) :=
  pg hx hb hts hown hK hw κ k i hi hκ hc hN hin hk hlink hsame hdg (by rw [pvF_R hf, hq]; exact kk)
/-- a field that always holds the same object is read -/
theorem pgL (hx : p.tables.exec = Jvm.exec) (hb : c.code = cc) (hts : ∀ w ∈ Ts, w.before args s = true) (hown : s.vm.findClass own = some m.cls) (hK : va_K G.2.1 pvC tys s) (hw : pvW G σ H) (κ k i : Nat) (hi : i < pvM σ κ) (hκ : κ ≤ 9) (hc : pvC[κ + 1]? = some (C, T, N)) (hN : pvN κ = N) (hin : ∀ w ∈ u_ws C T N, w ∈ Ts) (hk : k < N) {v : Value} (hf : pvF G.2.2.1 σ κ k i = v) (hlink : (Cond.fieldLink own index ref (T k).2.1 (T k).2.2.1).before args s = true) (hsame : ∀ x, s.fieldFound? (T k).1 (T k).2.1 (T k).2.2.1 = some x → s.fieldFound? ref (T k).2.1 (T k).2.2.1 = some x) (hdg : decode cc pc = .ok (.getfield index, 3))
    (kk : W p l e R s m args below meth c H locs cells slots Q (F0 m (pc + 3) ls (v :: rest))) : W p l e R s m args below meth c H locs cells slots Q (F0 m pc ls (.ref (G.2.2.1 κ i) :: rest)) :=
  pg hx hb hts hown hK hw κ k i hi hκ hc hN hin hk hlink hsame hdg (by rw [hf]; exact kk)
/-- a number is put into a field -/
theorem ppI (hx : p.tables.exec = Jvm.exec) (hb : c.code = cc) (hts : ∀ w ∈ Ts, w.before args s = true) (hown : s.vm.findClass own = some m.cls) (hK : va_K G.2.1 pvC tys s) (hw : pvW G σ H) (hS : va_S (fun q => G.2.2.2.2 q) H0 H locs) (κ k i : Nat) (hi : i < pvM σ κ) (hκ : κ ≤ 9) (hc : pvC[κ + 1]? = some (C, T, N)) (hN : pvN κ = N) (hin : ∀ w ∈ u_ws C T N, w ∈ Ts) (hk : k < N) (hf : (pvc κ k).1 = 0) (hxf : ¬ (κ = 3 ∧ k = 1)) {ty : FieldType} {ty0 : Nat → FieldType} (hty : ∀ k, k < N → parseFieldDescriptor (T k).2.2.1 = some (ty0 k)) (hnm : ∀ a, a < N → ∀ b, b < N → a ≠ b → (T a).2.1 ≠ (T b).2.1) (hlink : (Cond.fieldLink own index ref (T k).2.1 (T k).2.2.1).before args s = true) (hsame : ∀ x, s.fieldFound? (T k).1 (T k).2.1 (T k).2.2.1 = some x → s.fieldFound? ref (T k).2.1 (T k).2.2.1 = some x) (hfin : (T k).2.2.2 = false) (hd : parseFieldDescriptor (T k).2.2.1 = some ty) {v : Int32} (hn : narrow ty (.int v) = .int v) (hfit : fits ty (.int v) = true) (hdg : decode cc pc = .ok (.putfield index, 3))
    (kk : ∀ (H1 : Heap) (locs1 : List Loc), pvW G (pvI σ κ k i v) H1 → va_S (fun q => G.2.2.2.2 q) H0 H1 locs1 → W p l e R s m args below meth c H1 locs1 cells slots Q (F0 m (pc + 3) ls rest)) : W p l e R s m args below meth c H locs cells slots Q (F0 m pc ls (.int v :: .ref (G.2.2.1 κ i) :: rest)) := by
  obtain ⟨L, f, hO, hL, hP, hD, hd0⟩ := hw
  obtain ⟨ha, he⟩ := hO.1 κ i hi
  obtain ⟨q0, hq⟩ := va_pl_get (X := []) (f := f) ha
  have hq : (va_pl L f)[q0]? = some (G.2.2.1 κ i, f (G.2.2.1 κ i)) := hq
  have hge : G.2.2.2.2 (G.2.2.1 κ i) := hD.2 q0 _ hq
  refine va_put (D := G.2.1) (ci := κ + 1) (fs := (List.range (pvN κ)).map (fun k => pvF G.2.2.1 σ κ k i)) hx hb hts hin ty0 hty hnm hown hK hP hD hS q0 (by rw [pvE_obj hκ] at he; rw [← he]; exact hq) hc k hk hlink hsame hfin hd hn hfit (by rw [List.length_map, List.length_range, hN]; exact hk) hdg fun H1 locs1 hP1 hD1 hS1 => ?_
  have hset := va_pl_set (X := []) (e := .inr (κ + 1, ((List.range (pvN κ)).map (fun k => pvF G.2.2.1 σ κ k i)).set k (.int v))) hD ha hq
  have hP2 : va_P G.2.1 pvC ([] ++ va_pl L (va_up f (G.2.2.1 κ i) (.inr (κ + 1, ((List.range (pvN κ)).map (fun k => pvF G.2.2.1 σ κ k i)).set k (.int v))))) H1 := by rw [← hset]; exact hP1
  have hD2 : va_D (fun q => G.2.2.2.2 q) ([] ++ va_pl L (va_up f (G.2.2.1 κ i) (.inr (κ + 1, ((List.range (pvN κ)).map (fun k => pvF G.2.2.1 σ κ k i)).set k (.int v))))) := by rw [← hset]; exact hD1
  exact kk H1 locs1 ⟨L, _, pvO_putI hO hi hκ hf hxf, pvLl_put hL hi (fun q => hd0 (by rw [← q]; exact hge)) rfl rfl, hP2, hD2, hd0⟩ hS1
/-- an array of numbers is read -/
theorem pvE_arr {cy : Nat → ClassId} {ad : Nat → Nat → Nat} {κ i : Nat} (h9 : 9 < κ) (h26 : κ ≠ 26) (h34 : κ ≠ 34) (h35 : κ ≠ 35) : pvE cy ad σ κ i = .inl (cy (if κ = 41 then 1 else 0), pvLen σ κ i, .inl (fun j => σ.2.2.2.1 κ i j)) := by
  unfold pvE
  rw [if_neg (show ¬ κ ≤ 9 by omega), if_neg h26, if_neg (show ¬ (κ = 34 ∨ κ = 35) by omega)]
theorem pgA (hx : p.tables.exec = Jvm.exec) (hb : c.code = cc) (hK : va_K G.2.1 pvC tys s) (htys : tys = pvT G) (hw : pvW G σ H) (κ j : Nat) (hj : j < pvM σ κ) (h9 : 9 < κ) (h26 : κ ≠ 26) (h34 : κ ≠ 34) (h35 : κ ≠ 35) (h41 : κ ≠ 41) {i : Int32} (hin : vp_in i (pvLen σ κ j)) (hdg : decode cc pc = .ok (.iaload, 1))
    (kk : W p l e R s m args below meth c H locs cells slots Q (F0 m (pc + 1) ls (.int (σ.2.2.2.1 κ j i.toNatClampNeg) :: rest))) : W p l e R s m args below meth c H locs cells slots Q (F0 m pc ls (.int i :: .ref (G.2.2.1 κ j) :: rest)) := by
  obtain ⟨L, f, hO, hL, hP, hD, hz⟩ := hw
  obtain ⟨ha, he⟩ := hO.1 κ j hj
  obtain ⟨q0, hq⟩ := va_pl_get (X := []) (f := f) ha
  rw [pvE_arr h9 h26 h34 h35, if_neg h41] at he
  subst htys
  exact va_iald (D := G.2.1) (f := fun t => σ.2.2.2.1 κ j t) hx hb hK hP q0 0 (by rw [← he]; exact hq) rfl hin hdg kk
/-- a number is put into an array of numbers -/
theorem ppA (hx : p.tables.exec = Jvm.exec) (hb : c.code = cc) (hK : va_K G.2.1 pvC tys s) (htys : tys = pvT G) (hw : pvW G σ H) (hS : va_S (fun q => G.2.2.2.2 q) H0 H locs) (κ j : Nat) (hj : j < pvM σ κ) (h9 : 9 < κ) (h26 : κ ≠ 26) (h34 : κ ≠ 34) (h35 : κ ≠ 35) (h41 : κ ≠ 41) {i v : Int32} (hin : vp_in i (pvLen σ κ j)) (hdg : decode cc pc = .ok (.iastore, 1))
    (kk : ∀ (H1 : Heap) (locs1 : List Loc), pvW G (pvA σ κ j i.toNatClampNeg v) H1 → va_S (fun q => G.2.2.2.2 q) H0 H1 locs1 → W p l e R s m args below meth c H1 locs1 cells slots Q (F0 m (pc + 1) ls rest)) : W p l e R s m args below meth c H locs cells slots Q (F0 m pc ls (.int v :: .int i :: .ref (G.2.2.1 κ j) :: rest)) := by
  obtain ⟨L, f, hO, hL, hP, hD, hd0⟩ := hw
  obtain ⟨ha, he⟩ := hO.1 κ j hj
  obtain ⟨q0, hq⟩ := va_pl_get (X := []) (f := f) ha
  have hq : (va_pl L f)[q0]? = some (G.2.2.1 κ j, f (G.2.2.1 κ j)) := hq
  have hge : G.2.2.2.2 (G.2.2.1 κ j) := hD.2 q0 _ hq
  have hput := pvO_putA (j := i.toNatClampNeg) (v := v) hO hj h9 h26 h34 h35
  rw [if_neg h41] at hput
  rw [pvE_arr h9 h26 h34 h35, if_neg h41] at he
  subst htys
  refine va_iast (D := G.2.1) (f := fun t => σ.2.2.2.1 κ j t) hx hb hK hP hD hS q0 0 (by rw [← he]; exact hq) rfl hin hdg fun H1 locs1 hP1 hD1 hS1 => ?_
  have hset := va_pl_set (X := []) (e := .inl (G.1 0, pvLen σ κ j, .inl (upd (fun t => σ.2.2.2.1 κ j t) i.toNatClampNeg v))) hD ha hq
  have hP2 : va_P G.2.1 pvC ([] ++ va_pl L (va_up f (G.2.2.1 κ j) (.inl (G.1 0, pvLen σ κ j, .inl (upd (fun t => σ.2.2.2.1 κ j t) i.toNatClampNeg v))))) H1 := by rw [← hset]; exact hP1
  have hD2 : va_D (fun q => G.2.2.2.2 q) ([] ++ va_pl L (va_up f (G.2.2.1 κ j) (.inl (G.1 0, pvLen σ κ j, .inl (upd (fun t => σ.2.2.2.1 κ j t) i.toNatClampNeg v))))) := by rw [← hset]; exact hD1
  exact kk H1 locs1 ⟨L, _, hput, pvLl_put hL hj (fun q => hd0 (by rw [← q]; exact hge)) rfl rfl, hP2, hD2, hd0⟩ hS1
/-- an array of numbers is read at a place that is a natural number -/
theorem pgAn (hx : p.tables.exec = Jvm.exec) (hb : c.code = cc) (hK : va_K G.2.1 pvC tys s) (htys : tys = pvT G) (hw : pvW G σ H) (κ j : Nat) (hj : j < pvM σ κ) (h9 : 9 < κ) (h26 : κ ≠ 26) (h34 : κ ≠ 34) (h35 : κ ≠ 35) (h41 : κ ≠ 41) (i : Nat) (hin : i < pvLen σ κ j) (hdg : decode cc pc = .ok (.iaload, 1))
    (kk : W p l e R s m args below meth c H locs cells slots Q (F0 m (pc + 1) ls (.int (σ.2.2.2.1 κ j i) :: rest))) : W p l e R s m args below meth c H locs cells slots Q (F0 m pc ls (.int (nI i) :: .ref (G.2.2.1 κ j) :: rest)) := by
  have hL : pvLen σ κ j < 2 ^ 31 := by unfold pvLen; split <;> (try split) <;> (try split) <;> (try split) <;> (try split) <;> (try split) <;> decide
  refine pgA hx hb hK htys hw κ j hj h9 h26 h34 h35 h41 (vp_in_nI hin hL) hdg ?_
  rw [nI_clamp (Nat.lt_trans hin hL)]
  exact kk
/-- a number is put into an array of numbers at a place that is a natural number -/
theorem ppAn (hx : p.tables.exec = Jvm.exec) (hb : c.code = cc) (hK : va_K G.2.1 pvC tys s) (htys : tys = pvT G) (hw : pvW G σ H) (hS : va_S (fun q => G.2.2.2.2 q) H0 H locs) (κ j : Nat) (hj : j < pvM σ κ) (h9 : 9 < κ) (h26 : κ ≠ 26) (h34 : κ ≠ 34) (h35 : κ ≠ 35) (h41 : κ ≠ 41) (i : Nat) {v : Int32} (hin : i < pvLen σ κ j) (hdg : decode cc pc = .ok (.iastore, 1))
    (kk : ∀ (H1 : Heap) (locs1 : List Loc), pvW G (pvA σ κ j i v) H1 → va_S (fun q => G.2.2.2.2 q) H0 H1 locs1 → W p l e R s m args below meth c H1 locs1 cells slots Q (F0 m (pc + 1) ls rest)) : W p l e R s m args below meth c H locs cells slots Q (F0 m pc ls (.int v :: .int (nI i) :: .ref (G.2.2.1 κ j) :: rest)) := by
  have hL : pvLen σ κ j < 2 ^ 31 := by unfold pvLen; split <;> (try split) <;> (try split) <;> (try split) <;> (try split) <;> (try split) <;> decide
  refine ppA hx hb hK htys hw hS κ j hj h9 h26 h34 h35 h41 (vp_in_nI hin hL) hdg ?_
  rw [nI_clamp (Nat.lt_trans hin hL)]
  exact kk
end PVR
