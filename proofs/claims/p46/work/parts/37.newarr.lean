/-! THE LAW'S ARRAYS ARE MADE, over the pool -/
section NWA
variable {p : Program} {l : Launch} {e : Env} {R : Room} {s : State} {m : MethodId} {args : Array Value} {below : List Frame} {meth : Method} {c : Code} {H : Heap} {locs : List Loc} {cells slots : Nat} {Q : State → Prop}
variable {cc : ByteArray} {pc : Nat} {ls : Array Slot} {rest st0 : List Value} {a : Array Value} {tys : List (ClassId × FieldType)} {H0 : Heap} {G : PvG} {σ : PvS} {mc ms : Nat}
theorem pnewA (hx : p.tables.exec = Jvm.exec) (hb : c.code = cc) (harr : (Cond.arrayClass .int).before args s = true) (hA : pvA0 G s s.heap) (hK : va_K G.2.1 pvC tys s) (htys : tys = pvT G) (hw : pvW G σ H) (hS : va_S (pvB G) s.heap H locs) {t N : Nat} {n : Int32} (ht : t = 52 ∧ N = 5 ∨ t = 53 ∧ N = 12 ∨ t = 54 ∧ N = 13) (hn : ¬ n < 0) (hN : n.toNatClampNeg = N) (hcells : cells + 1 ≤ R.cells) (hslots : slots + N ≤ R.slots) (hdg : decode cc pc = .ok (.newarray .int, 2))
    (kk : ∀ (ad : Nat → Nat → Nat) (H1 : Heap), pvGr G.2.2.1 ad σ (pvArr σ t 0 (fun _ => 0)) → pvW (pvGa G ad) (pvArr σ t 0 (fun _ => 0)) H1 → va_S (pvB G) s.heap H1 locs → W p l e R s m args below meth c H1 locs (cells + 1) (slots + N) Q (F0 m (pc + 2) ls (.ref (ad t (σ.1 (t - 49))) :: rest))) : W p l e R s m args below meth c H locs cells slots Q (F0 m pc ls (.int n :: rest)) := by
  obtain ⟨L, f, hO, hL, hP, hD, hz, hC⟩ := hw
  refine ynewI (X := va_pl L f) hx hb harr hA hK htys ⟨hP, hD⟩ hS hn hN (by omega) hcells hslots hdg fun q H1 hw hS1 => ?_
  obtain ⟨ad, hg, hq, hw⟩ := pv_addArr (t := t) (x := 0) (g := fun _ => 0) (q := q) (by omega) hO hL hz hC hw (fun ad => by
    rw [pvE_arrI (by omega)]
    rcases ht with ⟨rfl, rfl⟩ | ⟨rfl, rfl⟩ | ⟨rfl, rfl⟩ <;> rfl)
  rw [← hq]
  exact kk ad H1 hg hw hS1
theorem pnewM {own : String} {index : Nat} (hx : p.tables.exec = Jvm.exec) (hb : c.code = cc) (hown : s.vm.findClass own = some m.cls) (hcl : (Cond.classLink own index "[I").before args s = true) (hover : va_AO "[I" s) (hK4 : ∀ cA : ClassId, va_K G.2.1 pvC (tys ++ [(cA, .object "[I")]) s → cA = G.1 4) (hA : pvA0 G s s.heap) (hK : va_K G.2.1 pvC tys s) (hw : pvW G σ H) (hS : va_S (pvB G) s.heap H locs) {n : Int32} (hn : ¬ n < 0) (hN : n.toNatClampNeg ≤ 1000) (hcells : cells + 1 ≤ R.cells) (hslots : slots + n.toNatClampNeg ≤ R.slots) (hdg : decode cc pc = .ok (.anewarray index, 3))
    (kk : ∀ (ad : Nat → Nat → Nat) (H1 : Heap), pvGr G.2.2.1 ad σ (pvArr σ 51 n (fun _ => 0)) → pvW (pvGa G ad) (pvArr σ 51 n (fun _ => 0)) H1 → va_S (pvB G) s.heap H1 locs → W p l e R s m args below meth c H1 locs (cells + 1) (slots + n.toNatClampNeg) Q (F0 m (pc + 3) ls (.ref (ad 51 (σ.1 2)) :: rest))) : W p l e R s m args below meth c H locs cells slots Q (F0 m pc ls (.int n :: rest)) := by
  obtain ⟨L, f, hO, hL, hP, hD, hz, hC⟩ := hw
  refine va_newq (D := G.2.1) (ws := va_pl L f) hx hb hown hcl hover hK hP hD hS hA.1 hn rfl (by omega) hcells hslots hdg fun q cA H1 hK1 hP1 hD1 hS1 => ?_
  have e : cA = G.1 4 := hK4 cA hK1
  subst e
  obtain ⟨ad, hg, hq, hw⟩ := pv_addArr (t := 51) (x := n) (g := fun _ => 0) (q := q) (by omega) hO hL hz hC ⟨hP1, hD1⟩ (fun ad => pvE_arr51)
  rw [← show ad 51 (σ.1 2) = q from hq]
  exact kk ad H1 hg hw hS1
end NWA
