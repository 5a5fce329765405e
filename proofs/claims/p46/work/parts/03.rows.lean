/-! ROWS over the pool of objects -/
/-- array classes, class tables, addresses, the shared empty array, which addresses are ours (all that are free are) -/
abbrev PvG : Type := (Nat → ClassId) × va_G × (Nat → Nat → Nat) × ((Nat → Nat) × (Nat → Int32)) × (Nat → Prop)
/-- of which kind a list's elements are: list 2 is that of the rules -/
def pvK (j : Nat) : Nat := if j = 2 then 5 else 3
/-- the lists: 0 all nodes, 1 the order, 2 the rules, i + 3 the children of node i -/
def pvLl (cy : Nat → ClassId) (ad : Nat → Nat → Nat) (d0 : Nat) (σ : PvS) (L : List Nat) (f : Nat → va_E) : Prop :=
  ∃ ba : Nat → Nat, ∀ j, j < σ.1 0 + 3 →
    (ad 10 j ∈ L ∧ (∀ κ i, i < pvM σ κ → ad κ i ≠ ad 10 j) ∧ (∀ j', j' < σ.1 0 + 3 → ad 10 j' = ad 10 j → j' = j) ∧ (σ.2.2.2.2 j).length ≤ 64 ∧ (∀ x ∈ σ.2.2.2.2 j, x < pvM σ (pvK j))) ∧
    (∃ mc : Int32, f (ad 10 j) = .inr (0, [.int mc, .ref (ba j), .int (nI (σ.2.2.2.2 j).length)])) ∧
    ((σ.2.2.2.2 j = [] ∧ ba j = d0) ∨ ∃ cap : Nat, ba j ∈ L ∧ (∀ κ i, i < pvM σ κ → ad κ i ≠ ba j) ∧ (∀ j', j' < σ.1 0 + 3 → ad 10 j' ≠ ba j) ∧ (∀ j', j' < σ.1 0 + 3 → ba j' = ba j → j' = j) ∧ (σ.2.2.2.2 j).length ≤ cap ∧ (0 < cap ∧ cap ≤ 1000) ∧
      f (ba j) = .inl (cy 3, cap, .inr (.inr (.inr (.inr (fun t => ((σ.2.2.2.2 j)[t]?).map (ad (pvK j))))))))
/-- the world: all objects of the system, as the state has them -/
def pvW (G : PvG) (σ : PvS) (H : Heap) : Prop := ∃ (L : List Nat) (f : Nat → va_E), pvO G.1 G.2.2.1 σ L f ∧ pvLl G.1 G.2.2.1 (G.2.2.2.1.1 0) σ L f ∧ va_P G.2.1 pvC (va_pl L f) H ∧ va_D (fun q => G.2.2.2.2 q) (va_pl L f) ∧ ¬ G.2.2.2.2 (G.2.2.2.1.1 0) ∧ pvCl σ
theorem pvLl_put {cy : Nat → ClassId} {ad : Nat → Nat → Nat} {d0 : Nat} {σ σ' : PvS} {L : List Nat} {f : Nat → va_E} {κ i : Nat} {en : va_E} (h : pvLl cy ad d0 σ L f) (hi : i < pvM σ κ) (h1 : σ'.1 = σ.1) (h2 : σ'.2.2.2.2 = σ.2.2.2.2) : pvLl cy ad d0 σ' L (va_up f (ad κ i) en) := by
  have hM : ∀ κ, pvM σ' κ = pvM σ κ := fun κ => by unfold pvM; rw [h1]
  obtain ⟨ba, h⟩ := h
  refine ⟨ba, fun j hj => ?_⟩
  rw [h1] at hj
  obtain ⟨⟨a1, a2, a3, a4, a5⟩, ⟨mc, b⟩, c⟩ := h j hj
  rw [h1, h2]
  simp only [hM]
  refine ⟨⟨a1, a2, a3, a4, a5⟩, ⟨mc, ?_⟩, ?_⟩
  · rw [va_up_ne _ _ (fun q => a2 κ i hi q.symm)]
    exact b
  · rcases c with c | ⟨cap, c1, c2, c3, c4, c5, c6, c7⟩
    · exact Or.inl c
    · exact Or.inr ⟨cap, c1, c2, c3, c4, c5, c6, by rw [va_up_ne _ _ (fun q => c2 κ i hi q.symm)]; exact c7⟩
/-- the array classes: of numbers, of booleans, of nodes, of objects, of arrays of numbers -/
abbrev pvT (G : PvG) : List (ClassId × FieldType) := [(G.1 0, .int), (G.1 1, .boolean), (G.1 2, .object "PinnaceView$Node"), (G.1 3, .object "java/lang/Object"), (G.1 4, .array .int)]
section PVR
variable {p : Program} {l : Launch} {e : Env} {R : Room} {s : State} {m : MethodId} {args : Array Value} {below : List Frame} {meth : Method} {c : Code} {H : Heap} {locs : List Loc} {cells slots : Nat} {Q : State → Prop}
variable {cc : ByteArray} {pc : Nat} {ls : Array Slot} {rest : List Value} {tys : List (ClassId × FieldType)} {H0 : Heap} {G : PvG} {σ : PvS} {own ref C : String} {T : u_T} {N index : Nat} {Ts : List Cond}
/-- a row of an array of arrays is read -/
theorem va_aldqA {D : va_G} {cl : List vw_C} {ws : va_W} {a : Nat} (hexec : p.tables.exec = Jvm.exec) (hb : c.code = cc) (hK : va_K D cl tys s) (hP : va_P D cl ws H) (q0 t0 : Nat) {cA : ClassId} {ty : FieldType} {n : Nat} {f : Nat → Option Nat} (ha : ws[q0]? = some (a, .inl (cA, n, .inr (.inr (.inr (.inr f)))))) (ht : tys[t0]? = some (cA, .array ty)) {i : Int32} (hin : vp_in i n) (hdg : decode cc pc = .ok (.aaload, 1))
  (kk : W p l e R s m args below meth c H locs cells slots Q (F0 m (pc + 1) ls (va_rf (f i.toNatClampNeg) :: rest))) : W p l e R s m args below meth c H locs cells slots Q (F0 m pc ls (.int i :: .ref a :: rest)) := by
  have hlt : i.toNatClampNeg < n := Nat.not_le.mp fun q => hin (Or.inr q)
  exact W.aald (v := va_rf (f i.toNatClampNeg)) (ty := .array ty) hexec hb (hP q0 _ ha) ((hK.2 t0 _ ht).1 n (fun j => va_rf (f j))) rfl (fun q => by cases q) (by show ¬ (i < 0 ∨ (arrV _ _ _).slots.size ≤ _); rw [arrV_size]; exact hin) (by show (arrV _ _ _).slots[_]? = _; rw [arrV_read _ _ hlt]) rfl rfl hdg kk
theorem pv_range {α : Type} {n k : Nat} {g : Nat → α} (h : k < n) : ((List.range n).map g)[k]? = some (g k) := by
  rw [List.getElem?_map, List.getElem?_range h]
  rfl
theorem pv_cl (hw : pvW G σ H) {κ k i : Nat} {o : Option Nat} (ho : o = σ.2.2.1 κ k i) : ∀ j, o = some j → j < pvM σ (pvRk κ) := by
  obtain ⟨L, f, hO, hL, hP, hD, hz, hC⟩ := hw
  exact fun j q => hC.2 κ k i j (by rw [← ho]; exact q)
theorem pv_root (hw : pvW G σ H) : 0 < pvM σ 3 := by
  obtain ⟨L, f, hO, hL, hP, hD, hz, hC⟩ := hw
  exact hC.1
/-- a field is read -/
theorem pg (hx : p.tables.exec = Jvm.exec) (hb : c.code = cc) (hts : ∀ w ∈ Ts, w.before args s = true) (hown : s.vm.findClass own = some m.cls) (hK : va_K G.2.1 pvC tys s) (hw : pvW G σ H) (κ k i : Nat) (hi : i < pvM σ κ) (hκ : κ ≤ 9) (hc : pvC[κ + 1]? = some (C, T, N)) (hN : pvN κ = N) (hin : ∀ w ∈ u_ws C T N, w ∈ Ts) (hk : k < N) (hlink : (Cond.fieldLink own index ref (T k).2.1 (T k).2.2.1).before args s = true) (hsame : ∀ x, s.fieldFound? (T k).1 (T k).2.1 (T k).2.2.1 = some x → s.fieldFound? ref (T k).2.1 (T k).2.2.1 = some x) (hdg : decode cc pc = .ok (.getfield index, 3))
    (kk : W p l e R s m args below meth c H locs cells slots Q (F0 m (pc + 3) ls (pvF G.2.2.1 σ κ k i :: rest))) : W p l e R s m args below meth c H locs cells slots Q (F0 m pc ls (.ref (G.2.2.1 κ i) :: rest)) := by
  obtain ⟨L, f, hO, hL, hP, hD, hz⟩ := hw
  obtain ⟨ha, he⟩ := hO.1 κ i hi
  obtain ⟨q0, hq⟩ := va_pl_get (X := []) (f := f) ha
  refine va_get (D := G.2.1) (ci := κ + 1) (fs := (List.range (pvN κ)).map (fun k => pvF G.2.2.1 σ κ k i)) hx hb hts hin hown hK hP q0 (by rw [pvE_obj hκ] at he; rw [← he]; exact hq) hc k hk hlink hsame (pv_range (by rw [hN]; exact hk)) hdg kk
/-- a number's field is read -/
theorem pgI (hx : p.tables.exec = Jvm.exec) (hb : c.code = cc) (hts : ∀ w ∈ Ts, w.before args s = true) (hown : s.vm.findClass own = some m.cls) (hK : va_K G.2.1 pvC tys s) (hw : pvW G σ H) (κ k i : Nat) (hi : i < pvM σ κ) (hκ : κ ≤ 9) (hc : pvC[κ + 1]? = some (C, T, N)) (hN : pvN κ = N) (hin : ∀ w ∈ u_ws C T N, w ∈ Ts) (hk : k < N) (hf : (pvc κ k).1 = 0) (hlink : (Cond.fieldLink own index ref (T k).2.1 (T k).2.2.1).before args s = true) (hsame : ∀ x, s.fieldFound? (T k).1 (T k).2.1 (T k).2.2.1 = some x → s.fieldFound? ref (T k).2.1 (T k).2.2.1 = some x) (hdg : decode cc pc = .ok (.getfield index, 3))
    (kk : W p l e R s m args below meth c H locs cells slots Q (F0 m (pc + 3) ls (.int (σ.2.1 κ k i) :: rest))) : W p l e R s m args below meth c H locs cells slots Q (F0 m pc ls (.ref (G.2.2.1 κ i) :: rest)) :=
  pg hx hb hts hown hK hw κ k i hi hκ hc hN hin hk hlink hsame hdg (by rw [pvF_I hf]; exact kk)
/-- a field that may be null is read -/
theorem pgR (hx : p.tables.exec = Jvm.exec) (hb : c.code = cc) (hts : ∀ w ∈ Ts, w.before args s = true) (hown : s.vm.findClass own = some m.cls) (hK : va_K G.2.1 pvC tys s) (hw : pvW G σ H) (κ k i : Nat) (hi : i < pvM σ κ) (hκ : κ ≤ 9) (hc : pvC[κ + 1]? = some (C, T, N)) (hN : pvN κ = N) (hin : ∀ w ∈ u_ws C T N, w ∈ Ts) (hk : k < N) (hf : (pvc κ k).1 = 3) (o : Option Nat) (ho : o = σ.2.2.1 κ k i) (hlink : (Cond.fieldLink own index ref (T k).2.1 (T k).2.2.1).before args s = true) (hsame : ∀ x, s.fieldFound? (T k).1 (T k).2.1 (T k).2.2.1 = some x → s.fieldFound? ref (T k).2.1 (T k).2.2.1 = some x) (hdg : decode cc pc = .ok (.getfield index, 3))
    (kk : W p l e R s m args below meth c H locs cells slots Q (F0 m (pc + 3) ls (va_rf (o.map (G.2.2.1 3)) :: rest))) : W p l e R s m args below meth c H locs cells slots Q (F0 m pc ls (.ref (G.2.2.1 κ i) :: rest)) := by
  subst ho
  exact pg hx hb hts hown hK hw κ k i hi hκ hc hN hin hk hlink hsame hdg (by rw [pvF_R hf]; exact kk)
/-- a field that always holds the same object is read -/
theorem pgL (hx : p.tables.exec = Jvm.exec) (hb : c.code = cc) (hts : ∀ w ∈ Ts, w.before args s = true) (hown : s.vm.findClass own = some m.cls) (hK : va_K G.2.1 pvC tys s) (hw : pvW G σ H) (κ k i : Nat) (hi : i < pvM σ κ) (hκ : κ ≤ 9) (hc : pvC[κ + 1]? = some (C, T, N)) (hN : pvN κ = N) (hin : ∀ w ∈ u_ws C T N, w ∈ Ts) (hk : k < N) {v : Value} (hf : pvF G.2.2.1 σ κ k i = v) (hlink : (Cond.fieldLink own index ref (T k).2.1 (T k).2.2.1).before args s = true) (hsame : ∀ x, s.fieldFound? (T k).1 (T k).2.1 (T k).2.2.1 = some x → s.fieldFound? ref (T k).2.1 (T k).2.2.1 = some x) (hdg : decode cc pc = .ok (.getfield index, 3))
    (kk : W p l e R s m args below meth c H locs cells slots Q (F0 m (pc + 3) ls (v :: rest))) : W p l e R s m args below meth c H locs cells slots Q (F0 m pc ls (.ref (G.2.2.1 κ i) :: rest)) :=
  pg hx hb hts hown hK hw κ k i hi hκ hc hN hin hk hlink hsame hdg (by rw [hf]; exact kk)
/-- a number is put into a field -/
theorem ppI (hx : p.tables.exec = Jvm.exec) (hb : c.code = cc) (hts : ∀ w ∈ Ts, w.before args s = true) (hown : s.vm.findClass own = some m.cls) (hK : va_K G.2.1 pvC tys s) (hw : pvW G σ H) (hS : va_S (fun q => G.2.2.2.2 q) H0 H locs) (κ k i : Nat) (hi : i < pvM σ κ) (hκ : κ ≤ 9) (hc : pvC[κ + 1]? = some (C, T, N)) (hN : pvN κ = N) (hin : ∀ w ∈ u_ws C T N, w ∈ Ts) (hk : k < N) (hf : (pvc κ k).1 = 0) (hxf : ¬ (κ = 3 ∧ k = 1)) {ty : FieldType} {ty0 : Nat → FieldType} (hty : ∀ k, k < N → parseFieldDescriptor (T k).2.2.1 = some (ty0 k)) (hnm : ∀ a, a < N → ∀ b, b < N → a ≠ b → (T a).2.1 ≠ (T b).2.1) (hlink : (Cond.fieldLink own index ref (T k).2.1 (T k).2.2.1).before args s = true) (hsame : ∀ x, s.fieldFound? (T k).1 (T k).2.1 (T k).2.2.1 = some x → s.fieldFound? ref (T k).2.1 (T k).2.2.1 = some x) (hfin : (T k).2.2.2 = false) (hd : parseFieldDescriptor (T k).2.2.1 = some ty) {v : Int32} (hn : narrow ty (.int v) = .int v) (hfit : fits ty (.int v) = true) (hdg : decode cc pc = .ok (.putfield index, 3))
    (kk : ∀ (H1 : Heap) (locs1 : List Loc), pvW G (pvI σ κ k i v) H1 → va_S (fun q => G.2.2.2.2 q) H0 H1 locs1 → W p l e R s m args below meth c H1 locs1 cells slots Q (F0 m (pc + 3) ls rest)) : W p l e R s m args below meth c H locs cells slots Q (F0 m pc ls (.int v :: .ref (G.2.2.1 κ i) :: rest)) := by
  obtain ⟨L, f, hO, hL, hP, hD, hd0, hC⟩ := hw
  obtain ⟨ha, he⟩ := hO.1 κ i hi
  obtain ⟨q0, hq⟩ := va_pl_get (X := []) (f := f) ha
  have hq : (va_pl L f)[q0]? = some (G.2.2.1 κ i, f (G.2.2.1 κ i)) := hq
  refine va_put (D := G.2.1) (ci := κ + 1) (fs := (List.range (pvN κ)).map (fun k => pvF G.2.2.1 σ κ k i)) hx hb hts hin ty0 hty hnm hown hK hP hD hS q0 (by rw [pvE_obj hκ] at he; rw [← he]; exact hq) hc k hk hlink hsame hfin hd hn hfit (by rw [List.length_map, List.length_range, hN]; exact hk) hdg fun H1 locs1 hP1 hD1 hS1 => ?_
  have hset := va_pl_set (X := []) (e := .inr (κ + 1, ((List.range (pvN κ)).map (fun k => pvF G.2.2.1 σ κ k i)).set k (.int v))) hD ha hq
  have hP2 : va_P G.2.1 pvC ([] ++ va_pl L (va_up f (G.2.2.1 κ i) (.inr (κ + 1, ((List.range (pvN κ)).map (fun k => pvF G.2.2.1 σ κ k i)).set k (.int v))))) H1 := by rw [← hset]; exact hP1
  have hD2 : va_D (fun q => G.2.2.2.2 q) ([] ++ va_pl L (va_up f (G.2.2.1 κ i) (.inr (κ + 1, ((List.range (pvN κ)).map (fun k => pvF G.2.2.1 σ κ k i)).set k (.int v))))) := by rw [← hset]; exact hD1
  exact kk H1 locs1 ⟨L, _, pvO_putI hO hi hκ hf hxf, pvLl_put hL hi rfl rfl, hP2, hD2, hd0, pvCl_c hC rfl rfl⟩ hS1
/-- an object or null is put into a field -/
theorem ppR (hx : p.tables.exec = Jvm.exec) (hb : c.code = cc) (hts : ∀ w ∈ Ts, w.before args s = true) (hown : s.vm.findClass own = some m.cls) (hK : va_K G.2.1 pvC tys s) (hw : pvW G σ H) (hS : va_S (fun q => G.2.2.2.2 q) H0 H locs) (κ k i : Nat) (hi : i < pvM σ κ) (hκ : κ ≤ 9) (hc : pvC[κ + 1]? = some (C, T, N)) (hN : pvN κ = N) (hin : ∀ w ∈ u_ws C T N, w ∈ Ts) (hk : k < N) (hf : (pvc κ k).1 = 3) {ty : FieldType} {ty0 : Nat → FieldType} (hty : ∀ k, k < N → parseFieldDescriptor (T k).2.2.1 = some (ty0 k)) (hnm : ∀ a, a < N → ∀ b, b < N → a ≠ b → (T a).2.1 ≠ (T b).2.1) (hlink : (Cond.fieldLink own index ref (T k).2.1 (T k).2.2.1).before args s = true) (hsame : ∀ x, s.fieldFound? (T k).1 (T k).2.1 (T k).2.2.1 = some x → s.fieldFound? ref (T k).2.1 (T k).2.2.1 = some x) (hfin : (T k).2.2.2 = false) (hd : parseFieldDescriptor (T k).2.2.1 = some ty) {v : Option Nat} (hv : ∀ j, v = some j → j < pvM σ (pvRk κ)) (hn : narrow ty (va_rf (v.map (G.2.2.1 3))) = va_rf (v.map (G.2.2.1 3))) (hfit : fits ty (va_rf (v.map (G.2.2.1 3))) = true) (hdg : decode cc pc = .ok (.putfield index, 3))
    (kk : ∀ (H1 : Heap) (locs1 : List Loc), pvW G (pvR σ κ k i v) H1 → va_S (fun q => G.2.2.2.2 q) H0 H1 locs1 → W p l e R s m args below meth c H1 locs1 cells slots Q (F0 m (pc + 3) ls rest)) : W p l e R s m args below meth c H locs cells slots Q (F0 m pc ls (va_rf (v.map (G.2.2.1 3)) :: .ref (G.2.2.1 κ i) :: rest)) := by
  obtain ⟨L, f, hO, hL, hP, hD, hd0, hC⟩ := hw
  obtain ⟨ha, he⟩ := hO.1 κ i hi
  obtain ⟨q0, hq⟩ := va_pl_get (X := []) (f := f) ha
  have hq : (va_pl L f)[q0]? = some (G.2.2.1 κ i, f (G.2.2.1 κ i)) := hq
  refine va_put (D := G.2.1) (ci := κ + 1) (fs := (List.range (pvN κ)).map (fun k => pvF G.2.2.1 σ κ k i)) hx hb hts hin ty0 hty hnm hown hK hP hD hS q0 (by rw [pvE_obj hκ] at he; rw [← he]; exact hq) hc k hk hlink hsame hfin hd hn hfit (by rw [List.length_map, List.length_range, hN]; exact hk) hdg fun H1 locs1 hP1 hD1 hS1 => ?_
  have hset := va_pl_set (X := []) (e := .inr (κ + 1, ((List.range (pvN κ)).map (fun k => pvF G.2.2.1 σ κ k i)).set k (va_rf (v.map (G.2.2.1 3))))) hD ha hq
  have hP2 : va_P G.2.1 pvC ([] ++ va_pl L (va_up f (G.2.2.1 κ i) (.inr (κ + 1, ((List.range (pvN κ)).map (fun k => pvF G.2.2.1 σ κ k i)).set k (va_rf (v.map (G.2.2.1 3))))))) H1 := by rw [← hset]; exact hP1
  have hD2 : va_D (fun q => G.2.2.2.2 q) ([] ++ va_pl L (va_up f (G.2.2.1 κ i) (.inr (κ + 1, ((List.range (pvN κ)).map (fun k => pvF G.2.2.1 σ κ k i)).set k (va_rf (v.map (G.2.2.1 3))))))) := by rw [← hset]; exact hD1
  exact kk H1 locs1 ⟨L, _, pvO_putR hO hi hκ hf, pvLl_put hL hi rfl rfl, hP2, hD2, hd0, pvCl_R hC hv⟩ hS1
/-- an array of numbers is read -/
theorem pgA (hx : p.tables.exec = Jvm.exec) (hb : c.code = cc) (hK : va_K G.2.1 pvC tys s) (htys : tys = pvT G) (hw : pvW G σ H) (κ j : Nat) (hj : j < pvM σ κ) (hk : pvIA κ = true) (h41 : κ ≠ 41) {i : Int32} (hin : vp_in i (pvLen σ κ j)) (hdg : decode cc pc = .ok (.iaload, 1))
    (kk : W p l e R s m args below meth c H locs cells slots Q (F0 m (pc + 1) ls (.int (σ.2.2.2.1 κ j i.toNatClampNeg) :: rest))) : W p l e R s m args below meth c H locs cells slots Q (F0 m pc ls (.int i :: .ref (G.2.2.1 κ j) :: rest)) := by
  obtain ⟨L, f, hO, hL, hP, hD, hd0, hC⟩ := hw
  obtain ⟨ha, he⟩ := hO.1 κ j hj
  obtain ⟨q0, hq⟩ := va_pl_get (X := []) (f := f) ha
  have hq : (va_pl L f)[q0]? = some (G.2.2.1 κ j, f (G.2.2.1 κ j)) := hq
  rw [pvE_arr hk, if_neg h41] at he
  subst htys
  exact va_iald (D := G.2.1) (f := fun t => σ.2.2.2.1 κ j t) hx hb hK hP q0 0 (by rw [← he]; exact hq) rfl hin hdg kk
/-- a number is put into an array of numbers -/
theorem ppA (hx : p.tables.exec = Jvm.exec) (hb : c.code = cc) (hK : va_K G.2.1 pvC tys s) (htys : tys = pvT G) (hw : pvW G σ H) (hS : va_S (fun q => G.2.2.2.2 q) H0 H locs) (κ j : Nat) (hj : j < pvM σ κ) (hk : pvIA κ = true) (h41 : κ ≠ 41) {i v : Int32} (hin : vp_in i (pvLen σ κ j)) (hdg : decode cc pc = .ok (.iastore, 1))
    (kk : ∀ (H1 : Heap) (locs1 : List Loc), pvW G (pvA σ κ j i.toNatClampNeg v) H1 → va_S (fun q => G.2.2.2.2 q) H0 H1 locs1 → W p l e R s m args below meth c H1 locs1 cells slots Q (F0 m (pc + 1) ls rest)) : W p l e R s m args below meth c H locs cells slots Q (F0 m pc ls (.int v :: .int i :: .ref (G.2.2.1 κ j) :: rest)) := by
  obtain ⟨L, f, hO, hL, hP, hD, hd0, hC⟩ := hw
  obtain ⟨ha, he⟩ := hO.1 κ j hj
  obtain ⟨q0, hq⟩ := va_pl_get (X := []) (f := f) ha
  have hq : (va_pl L f)[q0]? = some (G.2.2.1 κ j, f (G.2.2.1 κ j)) := hq
  have hput := pvO_putA (j := i.toNatClampNeg) (v := v) hO hj hk
  rw [if_neg h41] at hput
  rw [pvE_arr hk, if_neg h41] at he
  subst htys
  refine va_iast (D := G.2.1) (f := fun t => σ.2.2.2.1 κ j t) hx hb hK hP hD hS q0 0 (by rw [← he]; exact hq) rfl hin hdg fun H1 locs1 hP1 hD1 hS1 => ?_
  have hset := va_pl_set (X := []) (e := .inl (G.1 0, pvLen σ κ j, .inl (upd (fun t => σ.2.2.2.1 κ j t) i.toNatClampNeg v))) hD ha hq
  have hP2 : va_P G.2.1 pvC ([] ++ va_pl L (va_up f (G.2.2.1 κ j) (.inl (G.1 0, pvLen σ κ j, .inl (upd (fun t => σ.2.2.2.1 κ j t) i.toNatClampNeg v))))) H1 := by rw [← hset]; exact hP1
  have hD2 : va_D (fun q => G.2.2.2.2 q) ([] ++ va_pl L (va_up f (G.2.2.1 κ j) (.inl (G.1 0, pvLen σ κ j, .inl (upd (fun t => σ.2.2.2.1 κ j t) i.toNatClampNeg v))))) := by rw [← hset]; exact hD1
  exact kk H1 locs1 ⟨L, _, hput, pvLl_put hL hj rfl rfl, hP2, hD2, hd0, pvCl_c hC rfl rfl⟩ hS1
/-- an array of booleans is read -/
theorem pgZ (hx : p.tables.exec = Jvm.exec) (hb : c.code = cc) (hK : va_K G.2.1 pvC tys s) (htys : tys = pvT G) (hw : pvW G σ H) (j : Nat) (hj : j < pvM σ 41) {i : Int32} (hin : vp_in i 3) (hdg : decode cc pc = .ok (.baload, 1))
    (kk : W p l e R s m args below meth c H locs cells slots Q (F0 m (pc + 1) ls (.int (σ.2.2.2.1 41 j i.toNatClampNeg) :: rest))) : W p l e R s m args below meth c H locs cells slots Q (F0 m pc ls (.int i :: .ref (G.2.2.1 41 j) :: rest)) := by
  obtain ⟨L, f, hO, hL, hP, hD, hd0, hC⟩ := hw
  obtain ⟨ha, he⟩ := hO.1 41 j hj
  obtain ⟨q0, hq⟩ := va_pl_get (X := []) (f := f) ha
  have hq : (va_pl L f)[q0]? = some (G.2.2.1 41 j, f (G.2.2.1 41 j)) := hq
  subst htys
  exact va_zald (D := G.2.1) (f := fun t => σ.2.2.2.1 41 j t) (n := 3) hx hb hK hP q0 1 (by rw [he] at hq; exact hq) rfl hin hdg kk
/-- a boolean is put into an array of booleans -/
theorem ppZ (hx : p.tables.exec = Jvm.exec) (hb : c.code = cc) (hK : va_K G.2.1 pvC tys s) (htys : tys = pvT G) (hw : pvW G σ H) (hS : va_S (fun q => G.2.2.2.2 q) H0 H locs) (j : Nat) (hj : j < pvM σ 41) {i v : Int32} (hin : vp_in i 3) (hn : vp_nar .boolean v = v) (hdg : decode cc pc = .ok (.bastore, 1))
    (kk : ∀ (H1 : Heap) (locs1 : List Loc), pvW G (pvA σ 41 j i.toNatClampNeg v) H1 → va_S (fun q => G.2.2.2.2 q) H0 H1 locs1 → W p l e R s m args below meth c H1 locs1 cells slots Q (F0 m (pc + 1) ls rest)) : W p l e R s m args below meth c H locs cells slots Q (F0 m pc ls (.int v :: .int i :: .ref (G.2.2.1 41 j) :: rest)) := by
  obtain ⟨L, f, hO, hL, hP, hD, hd0, hC⟩ := hw
  obtain ⟨ha, he⟩ := hO.1 41 j hj
  obtain ⟨q0, hq⟩ := va_pl_get (X := []) (f := f) ha
  have hq : (va_pl L f)[q0]? = some (G.2.2.1 41 j, f (G.2.2.1 41 j)) := hq
  have hput := pvO_putA (κ := 41) (j := i.toNatClampNeg) (v := v) hO hj rfl
  subst htys
  refine va_zast (D := G.2.1) (f := fun t => σ.2.2.2.1 41 j t) (n := 3) hx hb hK hP hD hS q0 1 (by rw [he] at hq; exact hq) rfl hin hdg fun H1 locs1 hP1 hD1 hS1 => ?_
  rw [hn] at hP1 hD1
  have hset := va_pl_set (X := []) (e := .inl (G.1 1, 3, .inl (upd (fun t => σ.2.2.2.1 41 j t) i.toNatClampNeg v))) hD ha hq
  have hP2 : va_P G.2.1 pvC ([] ++ va_pl L (va_up f (G.2.2.1 41 j) (.inl (G.1 1, 3, .inl (upd (fun t => σ.2.2.2.1 41 j t) i.toNatClampNeg v))))) H1 := by rw [← hset]; exact hP1
  have hD2 : va_D (fun q => G.2.2.2.2 q) ([] ++ va_pl L (va_up f (G.2.2.1 41 j) (.inl (G.1 1, 3, .inl (upd (fun t => σ.2.2.2.1 41 j t) i.toNatClampNeg v))))) := by rw [← hset]; exact hD1
  exact kk H1 locs1 ⟨L, _, hput, pvLl_put hL hj rfl rfl, hP2, hD2, hd0, pvCl_c hC rfl rfl⟩ hS1
/-- a row of a grid is read -/
theorem pgRow (hx : p.tables.exec = Jvm.exec) (hb : c.code = cc) (hK : va_K G.2.1 pvC tys s) (htys : tys = pvT G) (hw : pvW G σ H) (κ j : Nat) (hj : j < pvM σ κ) (hk : κ = 34 ∨ κ = 35) {i : Int32} (hin : vp_in i 40) (hdg : decode cc pc = .ok (.aaload, 1))
    (kk : W p l e R s m args below meth c H locs cells slots Q (F0 m (pc + 1) ls (.ref (G.2.2.1 (κ + 2) (40 * j + i.toNatClampNeg)) :: rest))) : W p l e R s m args below meth c H locs cells slots Q (F0 m pc ls (.int i :: .ref (G.2.2.1 κ j) :: rest)) := by
  obtain ⟨L, f, hO, hL, hP, hD, hd0, hC⟩ := hw
  obtain ⟨ha, he⟩ := hO.1 κ j hj
  obtain ⟨q0, hq⟩ := va_pl_get (X := []) (f := f) ha
  have hq : (va_pl L f)[q0]? = some (G.2.2.1 κ j, f (G.2.2.1 κ j)) := hq
  rw [pvE_row hk] at he
  subst htys
  refine va_aldqA (D := G.2.1) hx hb hK hP q0 4 (by rw [← he]; exact hq) rfl hin hdg ?_
  have hlt : i.toNatClampNeg < 40 := Nat.not_le.mp fun q => hin (Or.inr q)
  rw [if_pos hlt]
  exact kk
/-- a place of an array of references is read -/
theorem pgQT (hx : p.tables.exec = Jvm.exec) (hb : c.code = cc) (hK : va_K G.2.1 pvC tys s) (htys : tys = pvT G) (hw : pvW G σ H) (j : Nat) (hj : j < pvM σ 26) {i : Int32} (hin : vp_in i 800) (o : Option Nat) (ho : o = σ.2.2.1 26 i.toNatClampNeg j) (hdg : decode cc pc = .ok (.aaload, 1))
    (kk : W p l e R s m args below meth c H locs cells slots Q (F0 m (pc + 1) ls (va_rf (o.map (G.2.2.1 3)) :: rest))) : W p l e R s m args below meth c H locs cells slots Q (F0 m pc ls (.int i :: .ref (G.2.2.1 26 j) :: rest)) := by
  obtain ⟨L, f, hO, hL, hP, hD, hd0, hC⟩ := hw
  obtain ⟨ha, he⟩ := hO.1 26 j hj
  obtain ⟨q0, hq⟩ := va_pl_get (X := []) (f := f) ha
  have hq : (va_pl L f)[q0]? = some (G.2.2.1 26 j, f (G.2.2.1 26 j)) := hq
  rw [pvE_26] at he
  subst htys
  subst ho
  exact va_aldq (D := G.2.1) hx hb hK hP q0 2 (by rw [← he]; exact hq) rfl hin hdg kk
/-- a place of an array of references is read -/
theorem pgQM (hx : p.tables.exec = Jvm.exec) (hb : c.code = cc) (hK : va_K G.2.1 pvC tys s) (htys : tys = pvT G) (hw : pvW G σ H) (j : Nat) (hj : j < pvM σ 51) {i : Int32} (hin : vp_in i (pvLen σ 51 j)) (o : Option Nat) (ho : o = σ.2.2.1 51 i.toNatClampNeg j) (hdg : decode cc pc = .ok (.aaload, 1))
    (kk : W p l e R s m args below meth c H locs cells slots Q (F0 m (pc + 1) ls (va_rf (o.map (G.2.2.1 52)) :: rest))) : W p l e R s m args below meth c H locs cells slots Q (F0 m pc ls (.int i :: .ref (G.2.2.1 51 j) :: rest)) := by
  obtain ⟨L, f, hO, hL, hP, hD, hd0, hC⟩ := hw
  obtain ⟨ha, he⟩ := hO.1 51 j hj
  obtain ⟨q0, hq⟩ := va_pl_get (X := []) (f := f) ha
  have hq : (va_pl L f)[q0]? = some (G.2.2.1 51 j, f (G.2.2.1 51 j)) := hq
  rw [pvE_51] at he
  subst htys
  subst ho
  exact va_aldqA (D := G.2.1) hx hb hK hP q0 4 (by rw [← he]; exact hq) rfl hin hdg kk
/-- a node is put into the array of texts -/
theorem ppQT (hx : p.tables.exec = Jvm.exec) (hb : c.code = cc) (hK : va_K G.2.1 pvC tys s) (htys : tys = pvT G) (hw : pvW G σ H) (hS : va_S (fun q => G.2.2.2.2 q) H0 H locs) (j : Nat) (hj : j < pvM σ 26) (v : Nat) (hv : v < pvM σ 3) {i : Int32} (hin : vp_in i 800) (hdg : decode cc pc = .ok (.aastore, 1))
    (kk : ∀ (H1 : Heap) (locs1 : List Loc), pvW G (pvR σ 26 i.toNatClampNeg j (some v)) H1 → va_S (fun q => G.2.2.2.2 q) H0 H1 locs1 → W p l e R s m args below meth c H1 locs1 cells slots Q (F0 m (pc + 1) ls rest)) : W p l e R s m args below meth c H locs cells slots Q (F0 m pc ls (.ref (G.2.2.1 3 v) :: .int i :: .ref (G.2.2.1 26 j) :: rest)) := by
  obtain ⟨L, f, hO, hL, hP, hD, hd0, hC⟩ := hw
  obtain ⟨ha, he⟩ := hO.1 26 j hj
  obtain ⟨q0, hq⟩ := va_pl_get (X := []) (f := f) ha
  have hq : (va_pl L f)[q0]? = some (G.2.2.1 26 j, f (G.2.2.1 26 j)) := hq
  obtain ⟨hv1, hv2⟩ := hO.1 3 v hv
  obtain ⟨q1, hq1⟩ := va_pl_get (X := []) (f := f) hv1
  rw [pvE_obj (by decide)] at hv2
  rw [pvE_26] at he
  subst htys
  have hput := pvO_putQ (κ := 26) (j := i.toNatClampNeg) (v := some v) hO hj (Or.inl rfl)
  refine va_astq (D := G.2.1) (r := (RX3, TX3, 14)) hx hb hK hP hD hS q0 2 q1 4 (by rw [← he]; exact hq) rfl (by rw [← hv2]; exact hq1) rfl hin hdg fun H1 locs1 hP1 hD1 hS1 => ?_
  have hset := va_pl_set (X := []) (e := .inl (G.1 2, 800, .inr (.inr (.inr (.inr (va_up (fun t => (σ.2.2.1 26 t j).map (G.2.2.1 3)) i.toNatClampNeg (some (G.2.2.1 3 v)))))))) hD ha hq
  have hP2 : va_P G.2.1 pvC ([] ++ va_pl L (va_up f (G.2.2.1 26 j) (.inl (G.1 2, 800, .inr (.inr (.inr (.inr (va_up (fun t => (σ.2.2.1 26 t j).map (G.2.2.1 3)) i.toNatClampNeg (some (G.2.2.1 3 v)))))))))) H1 := by rw [← hset]; exact hP1
  have hD2 : va_D (fun q => G.2.2.2.2 q) ([] ++ va_pl L (va_up f (G.2.2.1 26 j) (.inl (G.1 2, 800, .inr (.inr (.inr (.inr (va_up (fun t => (σ.2.2.1 26 t j).map (G.2.2.1 3)) i.toNatClampNeg (some (G.2.2.1 3 v)))))))))) := by rw [← hset]; exact hD1
  exact kk H1 locs1 ⟨L, _, hput, pvLl_put hL hj rfl rfl, hP2, hD2, hd0, pvCl_R hC (fun _ q => by cases q; exact hv)⟩ hS1
/-- an array's length -/
theorem palen (hx : p.tables.exec = Jvm.exec) (hb : c.code = cc) (hK : va_K G.2.1 pvC tys s) (htys : tys = pvT G) (hw : pvW G σ H) (κ j : Nat) (hj : j < pvM σ κ) (hk : pvIA κ = true) (h41 : κ ≠ 41) (hdg : decode cc pc = .ok (.arraylength, 1))
    (kk : W p l e R s m args below meth c H locs cells slots Q (F0 m (pc + 1) ls (.int (nI (pvLen σ κ j)) :: rest))) : W p l e R s m args below meth c H locs cells slots Q (F0 m pc ls (.ref (G.2.2.1 κ j) :: rest)) := by
  obtain ⟨L, f, hO, hL, hP, hD, hd0, hC⟩ := hw
  obtain ⟨ha, he⟩ := hO.1 κ j hj
  obtain ⟨q0, hq⟩ := va_pl_get (X := []) (f := f) ha
  have hq : (va_pl L f)[q0]? = some (G.2.2.1 κ j, f (G.2.2.1 κ j)) := hq
  rw [pvE_arr hk, if_neg h41] at he
  subst htys
  exact va_alen (D := G.2.1) (x := (pvLen σ κ j, .inl (fun t => σ.2.2.2.1 κ j t))) hx hb hK hP q0 0 (by rw [← he]; exact hq) rfl rfl hdg kk
end PVR
