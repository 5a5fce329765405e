/-! THE LAW'S ARRAYS ARE MADE, over the pool -/
section NWA
variable {p : Program} {l : Launch} {e : Env} {R : Room} {s : State} {m : MethodId} {args : Array Value} {below : List Frame} {meth : Method} {c : Code} {H : Heap} {locs : List Loc} {cells slots : Nat} {Q : State → Prop}
variable {cc : ByteArray} {pc : Nat} {ls : Array Slot} {rest st0 : List Value} {a : Array Value} {tys : List (ClassId × FieldType)} {H0 : Heap} {G : PvG} {σ : PvS} {mc ms : Nat}
theorem pnewA (hx : p.tables.exec = Jvm.exec) (hb : c.code = cc) (harr : (Cond.arrayClass .int).before args s = true) (hA : pvA0 G s s.heap) (hK : va_K G.2.1 pvC tys s) (htys : tys = pvT G) (hw : pvW G σ H) (hS : va_S (pvB G) s.heap H locs) {t N : Nat} {n : Int32} (ht : t = 52 ∧ N = 5 ∨ t = 53 ∧ N = 12 ∨ t = 54 ∧ N = 13) (hn : ¬ n < 0) (hN : n.toNatClampNeg = N) (hcells : cells + 1 ≤ R.cells) (hslots : slots + N ≤ R.slots) (hdg : decode cc pc = .ok (.newarray .int, 2))
    (kk : ∀ (ad : Nat → Nat → Nat) (H1 : Heap), pvGr G.2.2.1 ad σ (pvArr σ t 0 (fun _ => 0)) → pvW (pvGa G ad) (pvArr σ t 0 (fun _ => 0)) H1 → va_S (pvB G) s.heap H1 locs → W p l e R s m args below meth c H1 locs (cells + 1) (slots + N) Q (F0 m (pc + 2) ls (.ref (ad t (σ.1 (t - 49))) :: rest))) : W p l e R s m args below meth c H locs cells slots Q (F0 m pc ls (.int n :: rest)) := by
  obtain ⟨L, f, hO, hL, hP, hD, hz, hC⟩ := hw
  refine ynewI (X := va_pl L f) hx hb harr hA hK htys ⟨hP, hD⟩ hS hn hN (by omega) hcells hslots hdg fun q H1 hw hS1 => ?_
  obtain ⟨ad, hg, hq, hw⟩ := pv_addArr (t := t) (x := 0) (g := fun _ => 0) (q := q) (by omega) hO hL hz hC hw (fun ad => by
    rw [pvE_arrI (by omega)]
    rcases ht with ⟨rfl, rfl⟩ | ⟨rfl, rfl⟩ | ⟨rfl, rfl⟩ <;> rfl)
  rw [← hq]
  exact kk ad H1 hg hw hS1
theorem pnewM {own : String} {index : Nat} (hx : p.tables.exec = Jvm.exec) (hb : c.code = cc) (hown : s.vm.findClass own = some m.cls) (hcl : (Cond.classLink own index "[I").before args s = true) (hover : va_AOA .int s) (hA : pvA0 G s s.heap) (hK : va_K G.2.1 pvC tys s) (htys : tys = pvT G) (hw : pvW G σ H) (hS : va_S (pvB G) s.heap H locs) {n : Int32} (hn : ¬ n < 0) (hN : n.toNatClampNeg ≤ 1000) (hcells : cells + 1 ≤ R.cells) (hslots : slots + n.toNatClampNeg ≤ R.slots) (hdg : decode cc pc = .ok (.anewarray index, 3))
    (kk : ∀ (ad : Nat → Nat → Nat) (H1 : Heap), pvGr G.2.2.1 ad σ (pvArr σ 51 n (fun _ => 0)) → pvW (pvGa G ad) (pvArr σ 51 n (fun _ => 0)) H1 → va_S (pvB G) s.heap H1 locs → W p l e R s m args below meth c H1 locs (cells + 1) (slots + n.toNatClampNeg) Q (F0 m (pc + 3) ls (.ref (ad 51 (σ.1 2)) :: rest))) : W p l e R s m args below meth c H locs cells slots Q (F0 m pc ls (.int n :: rest)) := by
  obtain ⟨L, f, hO, hL, hP, hD, hz, hC⟩ := hw
  refine W.anewA (t := .int) hx hb hown hcl (va_AOA.use hover) (g := F0 m pc ls (.int n :: rest)) rfl hdg rfl hn (by omega) hcells hslots fun cA kA comp f1 f2 f3 f4 => ?_
  have e0 : cA = G.1 4 := by
    have h4 := (hK.2 4 (G.1 4, .array .int) (by rw [htys]; rfl)).2
    have h4 : s.vm.findClass ("[" ++ (FieldType.array .int).toString) = some (G.1 4) := h4
    exact Option.some.inj (f1.symm.trans h4)
  subst e0
  generalize hH1 : H.push ({ cls := G.1 4, slots := Array.replicate n.toNatClampNeg .null, vm := .none } : Cell) = H1
  have z1 : H1.size = H.size + 1 := by rw [← hH1, Array.size_push]
  have e1 : H1[H.size]? = some (arrV (G.1 4) n.toNatClampNeg (fun _ => .null)) := by rw [← hH1, Array.getElem?_push_size, ← arrV_new]
  have o1 : ∀ q : Nat, q < H.size → H1[q]? = H[q]? := fun q hq => by rw [← hH1, Array.getElem?_push, if_neg (Nat.ne_of_lt hq)]
  have hP1 : va_P G.2.1 pvC (va_pl L f ++ [(H.size, .inl (G.1 4, n.toNatClampNeg, .inr (.inr (.inr (.inr (fun _ => none))))))]) H1 := (hP.kept (fun k x hx => o1 x.1 ((hP k x hx).lt))).app (fun k x hx => by
    have h0 : k < 1 := (List.getElem?_eq_some_iff.mp hx).1
    rw [show k = 0 by omega] at hx
    cases hx
    show H1[H.size]? = some (vp_cell _ _)
    rw [e1, vp_cell_q]
    rfl)
  have hD1 := hD.push (e := .inl (G.1 4, n.toNatClampNeg, .inr (.inr (.inr (.inr (fun _ => none)))))) hP rfl (hA.1 _ hS.1)
  obtain ⟨ad, hg, hq, hw⟩ := pv_addArr (t := 51) (x := n) (g := fun _ => 0) (q := H.size) (by omega) hO hL hz hC ⟨hP1, hD1⟩ (fun ad => pvE_arr51)
  have hS1 : va_S (pvB G) s.heap H1 locs := ⟨Nat.le_trans hS.1 (by omega), fun x h1 h2 => (o1 x (Nat.lt_of_lt_of_le h1 hS.1)).trans (hS.2.1 x h1 h2), hS.2.2⟩
  have k2 := kk ad H1 hg hw hS1
  rw [show ad 51 (σ.1 2) = H.size from hq] at k2
  exact k2
/-- a row is put into the array of rows -/
theorem ppQM (hx : p.tables.exec = Jvm.exec) (hb : c.code = cc) (hover : va_AOA .int s) (hK : va_K G.2.1 pvC tys s) (htys : tys = pvT G) (hw : pvW G σ H) (hS : va_S (pvB G) H0 H locs) (j : Nat) (hj : j < pvM σ 51) (v : Nat) (hv : v < pvM σ 52) {i : Int32} (hin : vp_in i (pvLen σ 51 j)) (hdg : decode cc pc = .ok (.aastore, 1))
    (kk : ∀ (H1 : Heap) (locs1 : List Loc), pvW G (pvR σ 51 i.toNatClampNeg j (some v)) H1 → va_S (pvB G) H0 H1 locs1 → W p l e R s m args below meth c H1 locs1 cells slots Q (F0 m (pc + 1) ls rest)) : W p l e R s m args below meth c H locs cells slots Q (F0 m pc ls (.ref (G.2.2.1 52 v) :: .int i :: .ref (G.2.2.1 51 j) :: rest)) := by
  obtain ⟨L, f, hO, hL, hP, hD, hd0, hC⟩ := hw
  obtain ⟨ha, he⟩ := hO.1 51 j hj
  obtain ⟨q0, hq⟩ := va_pl_get (X := []) (f := f) ha
  have hq : (va_pl L f)[q0]? = some (G.2.2.1 51 j, f (G.2.2.1 51 j)) := hq
  obtain ⟨hv1, hv2⟩ := hO.1 52 v hv
  obtain ⟨q1, hq1⟩ := va_pl_get (X := []) (f := f) hv1
  have hq1 : (va_pl L f)[q1]? = some (G.2.2.1 52 v, f (G.2.2.1 52 v)) := hq1
  rw [pvE_51] at he
  rw [pvE_arr rfl] at hv2
  have hput := pvO_putQ (κ := 51) (j := i.toNatClampNeg) (v := some v) hO hj (Or.inr rfl)
  have hlt : i.toNatClampNeg < pvLen σ 51 j := Nat.not_le.mp fun q => hin (Or.inr q)
  have h0 : ¬ i < 0 := fun q => hin (Or.inl q)
  have c51 : H[G.2.2.1 51 j]? = some (vp_cell (G.1 4) (pvLen σ 51 j, .inr (.inr (.inr (.inr (fun t => (σ.2.2.1 51 t j).map (G.2.2.1 52))))))) := by
    have := hP q0 _ hq
    rw [he] at this
    exact this
  have c52 : H[G.2.2.1 52 v]? = some (vp_cell (G.1 0) (pvLen σ 52 v, .inl (fun t => σ.2.2.2.1 52 v t))) := by
    have := hP q1 _ hq1
    rw [hv2] at this
    exact this
  obtain ⟨comp, cA, kA, f1, f2, f3, f4, f5⟩ := arrayOverA_spec hover
  have g4 : s.vm.findClass ("[" ++ (FieldType.array .int).toString) = some (G.1 4) := (hK.2 4 (G.1 4, .array .int) (by rw [htys]; rfl)).2
  have g0 : s.vm.findClass (FieldType.array .int).toString = some (G.1 0) := (hK.2 0 (G.1 0, .int) (by rw [htys]; rfl)).2
  obtain rfl : cA = G.1 4 := Option.some.inj (f5.symm.trans g4)
  obtain rfl : comp = G.1 0 := Option.some.inj (f1.symm.trans g0)
  obtain ⟨kC, hkC, -⟩ := Vm.findClass_spec g0
  refine W.aast (g := F0 m pc ls (.ref (G.2.2.1 52 v) :: .int i :: .ref (G.2.2.1 51 j) :: rest)) hx hb c51 (fun q h => by cases h) (fun h => by cases h) f3 f4 rfl hkC ⟨h0, by show _ < (arrV _ _ _).slots.size; rw [arrV_size]; exact hlt⟩ c52 (fun q h => by cases h) hkC (Vm.assignable_self _ _) rfl rfl hdg fun H1 e z oq => ?_
  have hP1 := hP.set (e := (.inl (G.1 4, pvLen σ 51 j, .inr (.inr (.inr (.inr (va_up (fun t => (σ.2.2.1 51 t j).map (G.2.2.1 52)) i.toNatClampNeg (some (G.2.2.1 52 v))))))) : va_E)) hD hq (by
    show H1[G.2.2.1 51 j]? = some (vp_cell _ _)
    rw [e, vp_cell_q, vp_cell_q, arrV_store]
    congr 2
    funext q
    by_cases hq : q = i.toNatClampNeg
    · subst hq
      simp [updV, va_up, va_rf]
    · simp [updV, va_up, hq]) oq
  have hset := va_pl_set (X := []) (e := .inl (G.1 4, pvLen σ 51 j, .inr (.inr (.inr (.inr (va_up (fun t => (σ.2.2.1 51 t j).map (G.2.2.1 52)) i.toNatClampNeg (some (G.2.2.1 52 v)))))))) hD ha hq
  have hD1 := hD.set (e := (.inl (G.1 4, pvLen σ 51 j, .inr (.inr (.inr (.inr (va_up (fun t => (σ.2.2.1 51 t j).map (G.2.2.1 52)) i.toNatClampNeg (some (G.2.2.1 52 v))))))) : va_E)) hq
  have hP2 : va_P G.2.1 pvC ([] ++ va_pl L (va_up f (G.2.2.1 51 j) (.inl (G.1 4, pvLen σ 51 j, .inr (.inr (.inr (.inr (va_up (fun t => (σ.2.2.1 51 t j).map (G.2.2.1 52)) i.toNatClampNeg (some (G.2.2.1 52 v)))))))))) H1 := by rw [← hset]; exact hP1
  have hD2 : va_D (fun q => G.2.2.2.2 q) ([] ++ va_pl L (va_up f (G.2.2.1 51 j) (.inl (G.1 4, pvLen σ 51 j, .inr (.inr (.inr (.inr (va_up (fun t => (σ.2.2.1 51 t j).map (G.2.2.1 52)) i.toNatClampNeg (some (G.2.2.1 52 v)))))))))) := by rw [← hset]; exact hD1
  exact kk H1 _ ⟨L, _, hput, pvLl_put hL hj rfl rfl, hP2, hD2, hd0, pvCl_R hC (fun _ q => by cases q; exact hv)⟩ (hS.put z oq (hD.2 q0 _ hq))
end NWA
