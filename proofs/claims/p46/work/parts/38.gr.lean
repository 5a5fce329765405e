/-! GROWTH, one after another -/
theorem pvGr_refl {ad : Nat → Nat → Nat} {σ : PvS} : pvGr ad ad σ σ := ⟨⟨fun _ _ _ => rfl, fun _ _ => rfl⟩, fun _ _ h => h, Nat.le_refl _⟩
theorem pvGr_trans {ad ad1 ad2 : Nat → Nat → Nat} {σ σ1 σ2 : PvS} (h : pvGr ad ad1 σ σ1) (h1 : pvGr ad1 ad2 σ1 σ2) : pvGr ad ad2 σ σ2 :=
  ⟨pvAg_trans h.1 h1.1 h.2.1 h.2.2, fun κ i q => h1.2.1 κ i (h.2.1 κ i q), Nat.le_trans h.2.2 h1.2.2⟩
/-- a world's addresses apart from another's: what doesn't look at addresses goes over -/
theorem pvGe_A {G0 G : PvG} (hGe : G = pvGa G0 G.2.2.1) {s : State} {H : Heap} (h : pvA0 G0 s H) : pvA0 G s H := by rw [hGe]; exact h
theorem pvGe_K {G0 G : PvG} (hGe : G = pvGa G0 G.2.2.1) {tys : List (ClassId × FieldType)} {s : State} (h : va_K G0.2.1 pvC tys s) : va_K G.2.1 pvC tys s := by rw [hGe]; exact h
theorem pvGe_T {G0 G : PvG} (hGe : G = pvGa G0 G.2.2.1) {tys : List (ClassId × FieldType)} (h : tys = pvT G0) : tys = pvT G := by rw [hGe]; exact h
theorem pvGe_S {G0 G : PvG} (hGe : G = pvGa G0 G.2.2.1) {H0 H : Heap} {locs : List Loc} (h : va_S (pvB G0) H0 H locs) : va_S (pvB G) H0 H locs := by rw [hGe]; exact h
theorem pvGe_S' {G0 G : PvG} (hGe : G = pvGa G0 G.2.2.1) {H0 H : Heap} {locs : List Loc} (h : va_S (pvB G) H0 H locs) : va_S (pvB G0) H0 H locs := by rw [hGe] at h; exact h
theorem pvGe_sc {G0 G : PvG} (hGe : G = pvGa G0 G.2.2.1) : G.2.2.2 = G0.2.2.2 := by rw [hGe]
theorem pvGe_next {G0 G G1 : PvG} {ad : Nat → Nat → Nat} (hGe : G = pvGa G0 G.2.2.1) (h : G1 = pvGa G ad) : G1 = pvGa G0 G1.2.2.1 := by rw [h, hGe]
theorem pvGe_W {G0 G : PvG} (hGe : G = pvGa G0 G.2.2.1) {σ : PvS} {H : Heap} (h : pvW G σ H) : pvW (pvGa G0 G.2.2.1) σ H := by rw [← hGe]; exact h
section GR8
variable {p : Program} {l : Launch} {e : Env} {R : Room} {s : State} {m : MethodId} {args : Array Value} {below : List Frame} {meth : Method} {c : Code} {H : Heap} {locs : List Loc} {cells slots : Nat} {Q : State → Prop}
variable {cc : ByteArray} {pc : Nat} {ls : Array Slot} {rest st0 : List Value} {a : Array Value} {tys : List (ClassId × FieldType)} {H0 : Heap} {G : PvG} {σ : PvS} {mc ms : Nat}
/-- the world of the law's methods that make arrays of arrays -/
theorem pv_preS2 (hN : pvN2 s) (hA : pvA0 G s s.heap) (hS : va_S (pvB G) s.heap H locs) (hw : pvW G σ H) (hK : va_K G.2.1 pvC tys s) (As : List Value) : PreS s H (va_Pc As (fun U => pvU G tys σ U ∧ pvN2 U)) As :=
  ⟨fun a U g mk q => ⟨q.1, ⟨q.2.1.1, va_K.moved (u := U) (U := U.calling g mk a) (Vm.Alike.refl U.vm) q.2.1.2.1, q.2.1.2.2.calling⟩, q.2.2.1.moved (u := U) (U := U.calling g mk a) (Vm.Alike.refl U.vm), q.2.2.2.moved (u := U) (U := U.calling g mk a) (Vm.Alike.refl U.vm)⟩, fun U hU hW => ⟨rfl, ⟨by rw [hU]; exact hw, va_K.moved hW.alike hK, hA.to hS hW hU⟩, hN.to hW⟩⟩
theorem pcallaq {post : Option Nat → ((Nat → Nat → Nat) × PvS) → Prop} (hr : va_Run p l e R s m args below meth c H locs cells slots mc ms (F0 m pc ls st0) rest (va_Qq post (pvUa G tys) (pvB G) a) (pvB G)) (hS : va_S (pvB G) H0 H locs)
    (kk : ∀ (r : Option Nat) (ad : Nat → Nat → Nat) (σ' : PvS) (H1 : Heap) (locs1 : List Loc), post r (ad, σ') → pvW (pvGa G ad) σ' H1 → va_S (pvB G) H0 H1 locs1 → W p l e R s m args below meth c H1 locs1 (cells + mc) (slots + ms) Q (F0 m (pc + 3) ls (va_rf r :: rest))) : W p l e R s m args below meth c H locs cells slots Q (F0 m pc ls st0) :=
  va_callq hr hS (fun _ _ h => h) (fun _ h => h) (fun r u t H1 locs1 ht _ hp hb _ _ hS1 => kk r u.1 u.2 H1 locs1 hp (by rw [← ht]; exact hb.1) hS1)
theorem peaq {post : Option Nat → ((Nat → Nat → Nat) × PvS) → Prop} {r : Option Nat} {rt : FieldType} {ad : Nat → Nat → Nat} (hx : p.tables.exec = Jvm.exec) (hb : c.code = cc) (hr : meth.sig.returnType = some rt) (hrt : (∃ n, rt = .object n) ∨ ∃ t, rt = .array t) (hlocks : meth.locks = false) (hA : pvA0 G s s.heap) (hw : pvW (pvGa G ad) σ H) (hK : va_K G.2.1 pvC tys s) (hS : va_S (pvB G) s.heap H locs) (hp : post r (ad, σ)) (hdg : decode cc pc = .ok (.areturn, 1)) : W p l e R s m args below meth c H locs cells slots (MQ below (va_Qq post (pvUa G tys) (pvB G)) args s cells slots (pvB G)) (F0 m pc ls [va_rf r]) :=
  W.aret hx hb hr hrt (va_rf_or r) (fun t ht hW => ⟨⟨r, (ad, σ), rfl, hp, by rw [ht]; exact hw, va_K.moved hW.alike hK, hA.to hS hW ht⟩, hS.F ht⟩) hS.2.2 hdg hlocks
end GR8
