/-! MORE ROWS: elements of lists, casts, comparing objects -/
theorem pv_z {P : Prop} [Decidable P] {r : Int32} (h : r = if P then 1 else 0) (h0 : r = 0) : ¬ P := fun q => by rw [if_pos q] at h; rw [h] at h0; exact absurd h0 (by decide)
theorem pv_nz {P : Prop} [Decidable P] {r : Int32} (h : r = if P then 1 else 0) (h0 : ¬ r = 0) : P := Decidable.byContradiction fun q => h0 (by rw [h, if_neg q])
theorem pvK_c (i : Nat) : pvK (i + 3) = 3 := if_neg (by omega)
section PVX
variable {p : Program} {l : Launch} {e : Env} {R : Room} {s : State} {m : MethodId} {args : Array Value} {below : List Frame} {meth : Method} {c : Code} {H : Heap} {locs : List Loc} {cells slots : Nat} {Q : State → Prop}
variable {cc : ByteArray} {pc : Nat} {ls : Array Slot} {rest st0 : List Value} {a : Array Value} {tys : List (ClassId × FieldType)} {H0 : Heap} {G : PvG} {σ : PvS} {mc ms : Nat}
theorem pl_lt (hw : pvW G σ H) (j : Nat) (hj : j < σ.1.1 + 3) (i : Nat) (hi : i < (σ.2.2.2.2.2 j).length) {κ : Nat} (hκ : pvK j = κ) : (σ.2.2.2.2.2 j).getD i 0 < pvM σ κ := by
  obtain ⟨L, f, hO, ⟨ba, hL⟩, hP, hD, hz⟩ := hw
  obtain ⟨⟨-, -, -, -, a5⟩, -, -⟩ := hL j hj
  subst hκ
  refine a5 _ ?_
  rw [List.getD_eq_getElem?_getD, List.getElem?_eq_getElem hi]
  exact List.getElem_mem hi
theorem pl_len (hw : pvW G σ H) (j : Nat) (hj : j < σ.1.1 + 3) : (σ.2.2.2.2.2 j).length ≤ 64 := by
  obtain ⟨L, f, hO, ⟨ba, hL⟩, hP, hD, hz⟩ := hw
  exact (hL j hj).1.2.2.2.1
theorem pl_len2 (hw : pvW G σ H) (j : Nat) (hj : j < σ.1.1 + 3) : (σ.2.2.2.2.2 j).length < 2 ^ 31 := Nat.lt_of_le_of_lt (pl_len hw j hj) (by decide)
theorem pv_inj (hw : pvW G σ H) {κ i j : Nat} (hi : i < pvM σ κ) (hj : j < pvM σ κ) : G.2.2.1 κ i = G.2.2.1 κ j ↔ i = j := by
  obtain ⟨L, f, hO, -⟩ := hw
  exact ⟨fun q => (hO.2 κ i κ j hi hj q).2, fun q => by rw [q]⟩
/-- behind list.get(i) -/
theorem pcallg {j i κ : Nat} (hκ : pvK j = κ) (hr : va_Run p l e R s m args below meth c H locs cells slots mc ms (F0 m pc ls st0) rest (va_Qq (fun r σ' => r = some (G.2.2.1 (pvK j) ((σ.2.2.2.2.2 j).getD i 0)) ∧ σ' = σ) (pvU G tys) (pvB G) a) (pvB G)) (hS : va_S (pvB G) H0 H locs)
    (kk : ∀ (y : Nat), y = (σ.2.2.2.2.2 j).getD i 0 → ∀ (H1 : Heap) (locs1 : List Loc), pvW G σ H1 → va_S (pvB G) H0 H1 locs1 → W p l e R s m args below meth c H1 locs1 (cells + mc) (slots + ms) Q (F0 m (pc + 3) ls (.ref (G.2.2.1 κ y) :: rest))) : W p l e R s m args below meth c H locs cells slots Q (F0 m pc ls st0) := by
  subst hκ
  refine pcallq hr hS fun r σ' H1 locs1 hp hw1 hS1 => ?_
  obtain ⟨rfl, rfl⟩ := hp
  exact kk _ rfl H1 locs1 hw1 hS1
/-- a cast to the class that it is of -/
theorem pcast {own C : String} {T : u_T} {N index : Nat} (hx : p.tables.exec = Jvm.exec) (hb : c.code = cc) (hown : s.vm.findClass own = some m.cls) (hK : va_K G.2.1 pvC tys s) (hw : pvW G σ H) (κ i : Nat) (hi : i < pvM σ κ) (hκ : κ ≤ 9) (hc : pvC[κ + 1]? = some (C, T, N)) (hlink : (Cond.classLink own index C).before args s = true) (hdg : decode cc pc = .ok (.checkcast index, 3))
    (kk : W p l e R s m args below meth c H locs cells slots Q (F0 m (pc + 3) ls (.ref (G.2.2.1 κ i) :: rest))) : W p l e R s m args below meth c H locs cells slots Q (F0 m pc ls (.ref (G.2.2.1 κ i) :: rest)) :=
  va_castS hx hb hown hlink (hK.1 (κ + 1) _ hc).2 (pv_recv hw hK κ i hi hκ hc) hdg kk
theorem pacmp_ne (hx : p.tables.exec = Jvm.exec) (hb : c.code = cc) (hw : pvW G σ H) (κ i j : Nat) (hi : i < pvM σ κ) (hj : j < pvM σ κ) {off : Int} {tgt : Nat} (hdg : decode cc pc = .ok (.if_acmp .ne off, 3)) (ht : (pc : Int) + off = (tgt : Int))
    (kt : ¬ i = j → W p l e R s m args below meth c H locs cells slots Q (F0 m tgt ls rest)) (kf : i = j → W p l e R s m args below meth c H locs cells slots Q (F0 m (pc + 3) ls rest)) : W p l e R s m args below meth c H locs cells slots Q (F0 m pc ls (.ref (G.2.2.1 κ j) :: .ref (G.2.2.1 κ i) :: rest)) :=
  lv_acmp_ne (rx := some (G.2.2.1 κ i)) (ry := some (G.2.2.1 κ j)) hx hb hdg ht (fun q => kt fun z => q (by rw [z])) (fun q => kf ((pv_inj hw hi hj).mp (Option.some.inj q)))
theorem pacmp_eq (hx : p.tables.exec = Jvm.exec) (hb : c.code = cc) (hw : pvW G σ H) (κ i j : Nat) (hi : i < pvM σ κ) (hj : j < pvM σ κ) {off : Int} {tgt : Nat} (hdg : decode cc pc = .ok (.if_acmp .eq off, 3)) (ht : (pc : Int) + off = (tgt : Int))
    (kt : i = j → W p l e R s m args below meth c H locs cells slots Q (F0 m tgt ls rest)) (kf : ¬ i = j → W p l e R s m args below meth c H locs cells slots Q (F0 m (pc + 3) ls rest)) : W p l e R s m args below meth c H locs cells slots Q (F0 m pc ls (.ref (G.2.2.1 κ j) :: .ref (G.2.2.1 κ i) :: rest)) :=
  lv_acmp_eq (rx := some (G.2.2.1 κ i)) (ry := some (G.2.2.1 κ j)) hx hb hdg ht (fun q => kt ((pv_inj hw hi hj).mp (Option.some.inj q))) (fun q => kf fun z => q (by rw [z]))
theorem pacmpN_ne (hx : p.tables.exec = Jvm.exec) (hb : c.code = cc) {x : Nat} {off : Int} {tgt : Nat} (hdg : decode cc pc = .ok (.if_acmp .ne off, 3)) (ht : (pc : Int) + off = (tgt : Int))
    (kt : W p l e R s m args below meth c H locs cells slots Q (F0 m tgt ls rest)) : W p l e R s m args below meth c H locs cells slots Q (F0 m pc ls (.ref x :: .null :: rest)) :=
  lv_acmp_ne (rx := none) (ry := some x) hx hb hdg ht (fun _ => kt) (fun q => nomatch q)
theorem pacmpN_eq (hx : p.tables.exec = Jvm.exec) (hb : c.code = cc) {x : Nat} {off : Int} {tgt : Nat} (hdg : decode cc pc = .ok (.if_acmp .eq off, 3)) (ht : (pc : Int) + off = (tgt : Int))
    (kf : W p l e R s m args below meth c H locs cells slots Q (F0 m (pc + 3) ls rest)) : W p l e R s m args below meth c H locs cells slots Q (F0 m pc ls (.ref x :: .null :: rest)) :=
  lv_acmp_eq (rx := none) (ry := some x) hx hb hdg ht (fun q => nomatch q) (fun _ => kf)
theorem palen (hx : p.tables.exec = Jvm.exec) (hb : c.code = cc) (hK : va_K G.2.1 pvC tys s) (htys : tys = pvT G) (hw : pvW G σ H) (κ j : Nat) (hj : j < pvM σ κ) (h9 : 9 < κ) (h26 : κ ≠ 26) (h34 : κ ≠ 34) (h35 : κ ≠ 35) (h41 : κ ≠ 41) (hdg : decode cc pc = .ok (.arraylength, 1))
    (kk : W p l e R s m args below meth c H locs cells slots Q (F0 m (pc + 1) ls (.int (nI (pvLen σ κ j)) :: rest))) : W p l e R s m args below meth c H locs cells slots Q (F0 m pc ls (.ref (G.2.2.1 κ j) :: rest)) := by
  obtain ⟨L, f, hO, hL, hP, hD, hz⟩ := hw
  obtain ⟨ha, he⟩ := hO.1 κ j hj
  obtain ⟨q0, hq⟩ := va_pl_get (X := []) (f := f) ha
  rw [pvE_arr h9 h26 h34 h35, if_neg h41] at he
  subst htys
  exact va_alen (D := G.2.1) (x := (pvLen σ κ j, .inl (fun t => σ.2.2.2.1 κ j t))) hx hb hK hP q0 0 (by rw [← he]; exact hq) rfl rfl hdg kk
theorem pgZn (hx : p.tables.exec = Jvm.exec) (hb : c.code = cc) (hK : va_K G.2.1 pvC tys s) (htys : tys = pvT G) (hw : pvW G σ H) (j : Nat) (hj : j < pvM σ 41) (i : Nat) (hin : i < 3) (hdg : decode cc pc = .ok (.baload, 1))
    (kk : W p l e R s m args below meth c H locs cells slots Q (F0 m (pc + 1) ls (.int (σ.2.2.2.1 41 j i) :: rest))) : W p l e R s m args below meth c H locs cells slots Q (F0 m pc ls (.int (nI i) :: .ref (G.2.2.1 41 j) :: rest)) := by
  obtain ⟨L, f, hO, hL, hP, hD, hz⟩ := hw
  obtain ⟨ha, he⟩ := hO.1 41 j hj
  obtain ⟨q0, hq⟩ := va_pl_get (X := []) (f := f) ha
  subst htys
  refine va_zald (D := G.2.1) (f := fun t => σ.2.2.2.1 41 j t) (n := 3) hx hb hK hP q0 1 (by rw [he] at hq; exact hq) rfl (vp_in_nI hin (by decide)) hdg ?_
  rw [nI_clamp (by omega)]
  exact kk
end PVX
