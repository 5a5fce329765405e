theorem pvGn_S {G G1 : PvG} {ad : Nat → Nat → Nat} (h : G1 = pvGa G ad) {H0 H : Heap} {locs : List Loc} (hS : va_S (pvB G) H0 H locs) : va_S (pvB G1) H0 H locs := by rw [h]; exact hS
def f_L_build_251 (k34 : PvS → Int32 → Nat → Int32 → Option (Nat × PvS)) (xs : Nat → Int32) (nn : Nat) (τ : PvS) (xb2 : Int32) (ub3 : Nat) (xb4 : Int32) (xb5 : Int32) : Option (Nat × PvS) :=
  ob1 (f_L_below τ (xb5 >>> (5 &&& 31)) 2) (fun r1 => if r1 = 0 then (gd (vin xb4 (pvLen τ 51 ub3)) (nm (τ.2.2.1 51 xb4.toNatClampNeg ub3) (fun o8 => oc o8 none (fun jo8 => ob1 (f_L_below τ (xb5 >>> (6 &&& 31)) 3) (fun r9 => gd (vin (4) (pvLen τ 52 jo8)) (nm (pvA τ 52 jo8 ((4 : Int32).toNatClampNeg) ((1 : Int32) <<< (r9 &&& 31))) (fun σ15 => ob1 (f_L_below σ15 (xb5 >>> (6 &&& 31)) 3) (fun r16 => ob2 (f_X9_setClass σ15 xb4 r16 1) (fun r21 σ22 => k34 σ22 xb2 ub3 (xb4 + 1)))))))))) else (k34 τ xb2 ub3 (xb4 + 1)))
def f_L_build_205 (k34 : PvS → Int32 → Nat → Int32 → Option (Nat × PvS)) (xs : Nat → Int32) (nn : Nat) (τ : PvS) (xb2 : Int32) (ub3 : Nat) (xb4 : Int32) (xb5 : Int32) (xb8 : Int32) : Option (Nat × PvS) :=
  if xb8 = 0 then (ob1 (f_L_below τ (xb5 >>> (4 &&& 31)) 4) (fun r28 => if r28 = 0 then (gd (vin xb4 (pvLen τ 51 ub3)) (nm (τ.2.2.1 51 xb4.toNatClampNeg ub3) (fun o35 => oc o35 none (fun jo35 => ob1 (f_L_below τ xb5 3) (fun r36 => gd (vin (3) (pvLen τ 52 jo35)) (nm (pvA τ 52 jo35 ((3 : Int32).toNatClampNeg) (1 + r36)) (fun σ42 => gd (vin xb4 (pvLen σ42 51 ub3)) (nm (σ42.2.2.1 51 xb4.toNatClampNeg ub3) (fun o44 => oc o44 none (fun jo44 => gd (vin (3) (pvLen σ42 52 jo44)) (ob2 (f_X9_setName σ42 xb4 (σ42.2.2.2.1 52 jo44 (3 : Int32).toNatClampNeg)) (fun r46 σ47 => f_L_build_251 k34 xs nn σ47 xb2 ub3 xb4 xb5)))))))))))) else (f_L_build_251 k34 xs nn τ xb2 ub3 xb4 xb5))) else (k34 τ xb2 ub3 (xb4 + 1))
def f_L_build_156 (k34 : PvS → Int32 → Nat → Int32 → Option (Nat × PvS)) (xs : Nat → Int32) (nn : Nat) (τ : PvS) (xb2 : Int32) (ub3 : Nat) (xb4 : Int32) (xb5 : Int32) (xb6 : Int32) (xb8 : Int32) (xbs0 : Int32) (xbs1 : Int32) (ubs2 : Nat) (ubs3 : Nat) (xbs4 : Int32) (ubs5 : Nat) : Option (Nat × PvS) :=
  gd (vin xbs1 (pvLen τ 52 ubs2)) (nm (pvA τ 52 ubs2 (xbs1.toNatClampNeg) xbs0) (fun σ53 => ob1 (f_L_below σ53 (xb5 >>> (2 &&& 31)) 4) (fun r54 => gd (vin (2) (pvLen σ53 52 ubs3)) (nm (pvA σ53 52 ubs3 ((2 : Int32).toNatClampNeg) r54) (fun σ60 => gd (vin (3) (pvLen σ60 52 ubs3)) (nm (pvA σ60 52 ubs3 ((3 : Int32).toNatClampNeg) 0) (fun σ62 => gd (vin (4) (pvLen σ62 52 ubs3)) (nm (pvA σ62 52 ubs3 ((4 : Int32).toNatClampNeg) 0) (fun σ64 => gd (vin xbs4 (pvLen σ64 51 ubs5)) (nm (pvR σ64 51 (xbs4.toNatClampNeg) ubs5 (some ubs3)) (fun σ66 => if xb8 = 0 then (gd (vin xb4 (pvLen σ66 51 ub3)) (nm (σ66.2.2.1 51 xb4.toNatClampNeg ub3) (fun o69 => oc o69 none (fun jo69 => gd (vin (2) (pvLen σ66 52 jo69)) (ob2 (f_X9_addElement σ66 xb6 (σ66.2.2.2.1 52 jo69 (2 : Int32).toNatClampNeg)) (fun r71 σ72 => f_L_build_205 k34 xs nn σ72 xb2 ub3 xb4 xb5 xb8)))))) else (ob2 (f_X9_addText σ66 xb6) (fun r81 σ82 => f_L_build_205 k34 xs nn σ82 xb2 ub3 xb4 xb5 xb8)))))))))))))
def f_L_build_131 (k34 : PvS → Int32 → Nat → Int32 → Option (Nat × PvS)) (xs : Nat → Int32) (nn : Nat) (τ : PvS) (xb2 : Int32) (ub3 : Nat) (xb4 : Int32) (xb5 : Int32) (xb6 : Int32) (xbs0 : Int32) : Option (Nat × PvS) :=
  nm (pvArr τ 52 0 (fun _ => 0)) (fun σ91 => gd (vin (0) (pvLen σ91 52 (τ.1 3))) (nm (pvA σ91 52 (τ.1 3) ((0 : Int32).toNatClampNeg) xb6) (fun σ99 => if xbs0 = 0 then (f_L_build_156 k34 xs nn σ99 xb2 ub3 xb4 xb5 xb6 xbs0 0 1 (τ.1 3) (τ.1 3) xb4 ub3) else (f_L_build_156 k34 xs nn σ99 xb2 ub3 xb4 xb5 xb6 xbs0 1 1 (τ.1 3) (τ.1 3) xb4 ub3))))
def f_L_build_115 (k34 : PvS → Int32 → Nat → Int32 → Option (Nat × PvS)) (xs : Nat → Int32) (nn : Nat) (τ : PvS) (xb2 : Int32) (ub3 : Nat) (xb4 : Int32) (xb5 : Int32) (xb6 : Int32) : Option (Nat × PvS) :=
  ob1 (f_L_below τ (xb5 >>> (3 &&& 31)) 4) (fun r101 => if r101 = 0 then (f_L_build_131 k34 xs nn τ xb2 ub3 xb4 xb5 xb6 1) else (f_L_build_131 k34 xs nn τ xb2 ub3 xb4 xb5 xb6 0))
def f_L_build_112 (k34 : PvS → Int32 → Nat → Int32 → Option (Nat × PvS)) (xs : Nat → Int32) (nn : Nat) (τ : PvS) (xb2 : Int32) (ub3 : Nat) (xb4 : Int32) (xb5 : Int32) : Option (Nat × PvS) :=
  f_L_build_115 k34 xs nn τ xb2 ub3 xb4 xb5 0
def f_L_build_76 (k34 : PvS → Int32 → Nat → Int32 → Option (Nat × PvS)) (xs : Nat → Int32) (nn : Nat) : Nat → PvS → Int32 → Nat → Int32 → Int32 → Int32 → Int32 → Int32 → Option (Nat × PvS)
  | 0, _, _, _, _, _, _, _, _ => none
  | n + 1, τ, xb2, ub3, xb4, xb5, xb6, xb7, xb8 => if xb8 ≤ 0 then (gd (vin xb6 (pvLen τ 51 ub3)) (nm (τ.2.2.1 51 xb6.toNatClampNeg ub3) (fun o109 => oc o109 none (fun jo109 => gd (vin (1) (pvLen τ 52 jo109)) (if (τ.2.2.2.1 52 jo109 (1 : Int32).toNatClampNeg) = 1 then (f_L_build_112 k34 xs nn τ xb2 ub3 xb4 xb5) else (if xb7 ≤ 7 then (f_L_build_115 k34 xs nn τ xb2 ub3 xb4 xb5 xb6) else (f_L_build_112 k34 xs nn τ xb2 ub3 xb4 xb5))))))) else (gd (vin xb8 (pvLen τ 51 ub3)) (nm (τ.2.2.1 51 xb8.toNatClampNeg ub3) (fun o114 => oc o114 none (fun jo114 => gd (vin (0) (pvLen τ 52 jo114)) (f_L_build_76 k34 xs nn n τ xb2 ub3 xb4 xb5 xb6 (xb7 + 1) (τ.2.2.2.1 52 jo114 (0 : Int32).toNatClampNeg))))))
theorem f_L_build_76_z {k34 : PvS → Int32 → Nat → Int32 → Option (Nat × PvS)} {xs : Nat → Int32} {nn : Nat} {τ : PvS} {xb2 : Int32} {ub3 : Nat} {xb4 : Int32} {xb5 : Int32} {xb6 : Int32} {xb7 : Int32} {xb8 : Int32} : f_L_build_76 k34 xs nn 0 τ xb2 ub3 xb4 xb5 xb6 xb7 xb8 = none := rfl
theorem f_L_build_76_s {n : Nat} {k34 : PvS → Int32 → Nat → Int32 → Option (Nat × PvS)} {xs : Nat → Int32} {nn : Nat} {τ : PvS} {xb2 : Int32} {ub3 : Nat} {xb4 : Int32} {xb5 : Int32} {xb6 : Int32} {xb7 : Int32} {xb8 : Int32} : f_L_build_76 k34 xs nn (n + 1) τ xb2 ub3 xb4 xb5 xb6 xb7 xb8 = if xb8 ≤ 0 then (gd (vin xb6 (pvLen τ 51 ub3)) (nm (τ.2.2.1 51 xb6.toNatClampNeg ub3) (fun o109 => oc o109 none (fun jo109 => gd (vin (1) (pvLen τ 52 jo109)) (if (τ.2.2.2.1 52 jo109 (1 : Int32).toNatClampNeg) = 1 then (f_L_build_112 k34 xs nn τ xb2 ub3 xb4 xb5) else (if xb7 ≤ 7 then (f_L_build_115 k34 xs nn τ xb2 ub3 xb4 xb5 xb6) else (f_L_build_112 k34 xs nn τ xb2 ub3 xb4 xb5))))))) else (gd (vin xb8 (pvLen τ 51 ub3)) (nm (τ.2.2.1 51 xb8.toNatClampNeg ub3) (fun o114 => oc o114 none (fun jo114 => gd (vin (0) (pvLen τ 52 jo114)) (f_L_build_76 k34 xs nn n τ xb2 ub3 xb4 xb5 xb6 (xb7 + 1) (τ.2.2.2.1 52 jo114 (0 : Int32).toNatClampNeg)))))) := rfl
def f_L_build_34  (xs : Nat → Int32) (nn : Nat) : Nat → PvS → Int32 → Nat → Int32 → Option (Nat × PvS)
  | 0, _, _, _, _ => none
  | n + 1, τ, xb2, ub3, xb4 => if xb2 ≤ xb4 then (some (ub3, τ)) else (gd (¬ (xb4 - xb4 / 13 * 13) < 0) (nm (f_cell xs nn (xb4 - xb4 / 13 * 13)) (fun r118 => ob1 (f_L_below τ (r118 >>> (((xb4 / 13) * 7) &&& 31)) xb4) (fun r124 => f_L_build_76 (f_L_build_34 xs nn n) xs nn fu τ xb2 ub3 xb4 (r118 >>> (((xb4 / 13) * 7) &&& 31)) r124 0 r124))))
theorem f_L_build_34_z {xs : Nat → Int32} {nn : Nat} {τ : PvS} {xb2 : Int32} {ub3 : Nat} {xb4 : Int32} : f_L_build_34 xs nn 0 τ xb2 ub3 xb4 = none := rfl
theorem f_L_build_34_s {n : Nat} {xs : Nat → Int32} {nn : Nat} {τ : PvS} {xb2 : Int32} {ub3 : Nat} {xb4 : Int32} : f_L_build_34 xs nn (n + 1) τ xb2 ub3 xb4 = if xb2 ≤ xb4 then (some (ub3, τ)) else (gd (¬ (xb4 - xb4 / 13 * 13) < 0) (nm (f_cell xs nn (xb4 - xb4 / 13 * 13)) (fun r118 => ob1 (f_L_below τ (r118 >>> (((xb4 / 13) * 7) &&& 31)) xb4) (fun r124 => f_L_build_76 (f_L_build_34 xs nn n) xs nn fu τ xb2 ub3 xb4 (r118 >>> (((xb4 / 13) * 7) &&& 31)) r124 0 r124)))) := rfl
def f_L_build (xs : Nat → Int32) (nn : Nat) (σ : PvS) (x2 : Int32) : Option (Nat × PvS) :=
  gd (¬ x2 < 0) (gd (x2.toNatClampNeg ≤ 16) (nm (pvArr σ 51 x2 (fun _ => 0)) (fun σ129 => nm (pvArr σ129 52 0 (fun _ => 0)) (fun σ136 => gd (vin (0) (pvLen σ136 52 (σ129.1 3))) (nm (pvA σ136 52 (σ129.1 3) ((0 : Int32).toNatClampNeg) (-1)) (fun σ144 => gd (vin (1) (pvLen σ144 52 (σ129.1 3))) (nm (pvA σ144 52 (σ129.1 3) ((1 : Int32).toNatClampNeg) 0) (fun σ146 => gd (vin (2) (pvLen σ146 52 (σ129.1 3))) (nm (pvA σ146 52 (σ129.1 3) ((2 : Int32).toNatClampNeg) 0) (fun σ148 => gd (vin (3) (pvLen σ148 52 (σ129.1 3))) (nm (pvA σ148 52 (σ129.1 3) ((3 : Int32).toNatClampNeg) 0) (fun σ150 => gd (vin (4) (pvLen σ150 52 (σ129.1 3))) (nm (pvA σ150 52 (σ129.1 3) ((4 : Int32).toNatClampNeg) 0) (fun σ152 => gd (vin (0) (pvLen σ152 51 (σ.1 2))) (nm (pvR σ152 51 ((0 : Int32).toNatClampNeg) (σ.1 2) (some (σ129.1 3))) (fun σ154 => f_L_build_34 xs nn 16 σ154 x2 (σ.1 2) 1))))))))))))))))
set_option maxHeartbeats 8000000 in
set_option maxRecDepth 100000 in
theorem c_L_build {l : Launch} {G0 : PvG} {tys : List (ClassId × FieldType)} {σ : PvS} (htys0 : tys = pvT G0) {xs : Nat → Int32} {nn : Nat} (hxs0 : xs = G0.2.2.2.1.2) (hnn0 : nn = G0.2.2.2.1.1 5) (hlt0 : G0.2.2.2.1.1 5 < 2 ^ 31) {x2 : Int32} {r : Nat} {σ1 : PvS} (h : f_L_build xs nn σ x2 = some (r, σ1)) : Met l yL_build (Cond.code yL_build cL_build 9 (some (.array (.array .int))) :: WA) ({ frames := 28, cells := 1277, slots := 109484, locals := 647 }) (va_Pc [.ref (G0.2.2.1 9 0), .ref (G0.2.2.2.1.1 4), .int x2] (fun U => pvU G0 tys σ U ∧ pvN2 U)) (va_Qq (fun r' (u : (Nat → Nat → Nat) × PvS) => r' = some (u.1 51 r) ∧ u.2 = σ1 ∧ pvGr G0.2.2.1 u.1 σ u.2 ∧ r < pvM u.2 51) (pvUa G0 tys) (pvB G0)) 1277 109484 (pvB G0) := by
  refine Met.ofW (cc := cL_build) (maxL := 9) (ret := (some (.array (.array .int)))) (by decide) rfl ?_
  intro p e s m args below meth c s₁ B hml hv
  obtain ⟨rfl, ⟨hw, hK0, hA0⟩, hN⟩ := hv
  have hx := B.exec
  have hb := B.bytes
  have hr := B.returns
  have hts0 := atoms_spec (ws := (Cond.code yL_build cL_build 9 (some (.array (.array .int))) :: WA)) B.pre
  have hts : ∀ w ∈ WA, w.before _ s = true := fun w h => hts0 w (List.mem_cons_of_mem _ h)
  have hown : s.vm.findClass RL = some m.cls := findClass_of_methodNamed B.named
  have hlocks := B.notSynchronized
  have hS : va_S (pvB G0) s.heap s.heap [] := va_S.rf
  have hl := lv_entry ([.ref (G0.2.2.1 9 0), .ref (G0.2.2.2.1.1 4), .int x2]) (n := 9) (Nat.le_of_ble_eq_true rfl)
  rw [lg_entry_eq]
  generalize (lg_sl ([.ref (G0.2.2.1 9 0), .ref (G0.2.2.2.1.1 4), .int x2]) ++ List.replicate (9 - (lg_sl ([.ref (G0.2.2.1 9 0), .ref (G0.2.2.2.1.1 4), .int x2])).length) Slot.unset).toArray = ls at hl ⊢
  have hl : lv_has ls 9 [(0, .ref (G0.2.2.1 9 0)), (1, .ref (G0.2.2.2.1.1 4)), (2, .int x2)] := hl
  unfold f_L_build at h
  have loop34 : ∀ (n : Nat), n ≤ 16 → ∀ (G : PvG) (τ : PvS) (xb2 : Int32) (ub3 : Nat) (xb4 : Int32), G = pvGa G0 G.2.2.1 → pvGr G0.2.2.1 G.2.2.1 σ τ → (ub3 < pvM τ 51) → f_L_build_34 xs nn n τ xb2 ub3 xb4 = some (r, σ1) → ∀ (H : Heap) (locs : List Loc), pvW G τ H → va_S (pvB G) s.heap H locs → ∀ (ls : Array Slot), lv_has ls 9 [(0, .ref (G.2.2.1 9 0)), (1, .ref (G.2.2.2.1.1 4)), (2, .int xb2), (3, .ref (G.2.2.1 51 ub3)), (4, .int xb4)] → W p l e (headSpec (Cond.code yL_build cL_build 9 (some (.array (.array .int))) :: WA) ({ frames := 28, cells := 1277, slots := 109484, locals := 647 } : Room)).room s m ([.ref (G0.2.2.1 9 0), .ref (G0.2.2.2.1.1 4), .int x2] : List Value).toArray below meth c H locs (2 + 75 * (16 - n) + 0) (21 + 6439 * (16 - n) + 0) (MQ below (va_Qq (fun r' (u : (Nat → Nat → Nat) × PvS) => r' = some (u.1 51 r) ∧ u.2 = σ1 ∧ pvGr G0.2.2.1 u.1 σ u.2 ∧ r < pvM u.2 51) (pvUa G0 tys) (pvB G0)) ([.ref (G0.2.2.1 9 0), .ref (G0.2.2.2.1.1 4), .int x2] : List Value).toArray s 1277 109484 (pvB G0)) (F0 m 34 ls []) := by
    intro n34
    induction n34 with
    | zero =>
      intro _ G τ xb2 ub3 xb4 hGe hgr hub3 h
      rw [f_L_build_34_z] at h
      cases h
    | succ n34 ih34 =>
      intro hn34
      have blk251 : ∀ (G : PvG) (τ : PvS) (xb2 : Int32) (ub3 : Nat) (xb4 : Int32) (xb5 : Int32), G = pvGa G0 G.2.2.1 → pvGr G0.2.2.1 G.2.2.1 σ τ → (ub3 < pvM τ 51) → f_L_build_251 (f_L_build_34 xs nn n34) xs nn τ xb2 ub3 xb4 xb5 = some (r, σ1) → ∀ (H : Heap) (locs : List Loc), pvW G τ H → va_S (pvB G) s.heap H locs → ∀ (ls : Array Slot), lv_has ls 9 [(0, .ref (G.2.2.1 9 0)), (1, .ref (G.2.2.2.1.1 4)), (2, .int xb2), (3, .ref (G.2.2.1 51 ub3)), (4, .int xb4), (5, .int xb5)] → W p l e (headSpec (Cond.code yL_build cL_build 9 (some (.array (.array .int))) :: WA) ({ frames := 28, cells := 1277, slots := 109484, locals := 647 } : Room)).room s m ([.ref (G0.2.2.1 9 0), .ref (G0.2.2.2.1.1 4), .int x2] : List Value).toArray below meth c H locs (2 + 75 * (16 - (n34 + 1)) + 75) (21 + 6439 * (16 - (n34 + 1)) + 6439) (MQ below (va_Qq (fun r' (u : (Nat → Nat → Nat) × PvS) => r' = some (u.1 51 r) ∧ u.2 = σ1 ∧ pvGr G0.2.2.1 u.1 σ u.2 ∧ r < pvM u.2 51) (pvUa G0 tys) (pvB G0)) ([.ref (G0.2.2.1 9 0), .ref (G0.2.2.2.1.1 4), .int x2] : List Value).toArray s 1277 109484 (pvB G0)) (F0 m 251 ls []) := by
        intro G τ xb2 ub3 xb4 xb5 hGe hgr hub3 h H locs hw hS ls hl
        have hA := pvGe_A hGe hA0
        have hK := pvGe_K hGe hK0
        have htys := pvGe_T hGe htys0
        have hroot := pv_root hw
        unfold f_L_build_251 at h
        refine lv_iload hx hb dL_build_251 (lv_at hl 5 rfl) ?_
        refine lv_iconst (v := 5) hx hb dL_build_253 (by decide) ?_
        refine lv_ishr hx hb dL_build_254 ?_
        refine lv_iconst (v := 2) hx hb dL_build_255 (by decide) ?_
        obtain ⟨r1, e2, h⟩ := ob1_e h
        refine pcalli (va_runS (As := [.int (xb5 >>> (5 &&& 31)), .int 2]) (rest := []) ⟨hx, hb, hml, hown, hts⟩ (c_L_below (l := l) (G := G) (tys := tys) (σ := τ) htys  e2) (va_cwS 2 hts (gSA wm219 wm220 wm216 wm221) rfl rfl rfl (by decide +kernel) ⟨(Nat.le_of_ble_eq_true rfl), (Nat.le_of_ble_eq_true rfl)⟩) (pv_preS hA hS hw hK [.int (xb5 >>> (5 &&& 31)), .int 2]) rfl rfl hl.1 rfl (lv_room (Nat.le_of_ble_eq_true rfl)) dL_build_256 ⟨(by show 2 + 75 * (16 - (n34 + 1)) + 75 + 0 ≤ 1277; omega), (by show 21 + 6439 * (16 - (n34 + 1)) + 6439 + 0 ≤ 109484; omega)⟩) hS (fun r4 s5 H locs hp3 hw hS => ?_)
        obtain ⟨err1, esr1⟩ := hp3
        obtain rfl := esr1.symm
        obtain rfl := err1.symm
        refine W.widen (k := 2 + 75 * (16 - (n34 + 1)) + 75) (n := 21 + 6439 * (16 - (n34 + 1)) + 6439) (by omega) (by omega) ?_
        refine lv_if_ne (tgt := 296) hx hb dL_build_259 (by decide) (fun c6 => ?_) (fun c6 => ?_)
        · skip
          replace h := ite_n c6 h
          refine lv_iinc (v := xb4 + 1) (lv' := [(4, .int (xb4 + 1)), (0, .ref (G.2.2.1 9 0)), (1, .ref (G.2.2.2.1.1 4)), (2, .int xb2), (3, .ref (G.2.2.1 51 ub3)), (5, .int xb5)]) hx hb dL_build_296 hl (k := 4) rfl (by rfl) (by decide) rfl (fun ls hl => ?_)
          refine lv_goto (tgt := 34) hx hb dL_build_299 (by decide) ?_
          refine W.widen (k := 2 + 75 * (16 - n34) + 0) (n := 21 + 6439 * (16 - n34) + 0) (by omega) (by omega) ?_
          exact ih34 (by omega) G τ xb2 ub3 (xb4 + 1) hGe hgr hub3 h _ _ hw hS ls (lv_sub hl [1, 2, 3, 4, 0] rfl)
        · skip
          replace h := ite_p c6 h
          refine lv_aload_n hx hb dL_build_262 rfl (lv_at hl 3 rfl) ?_
          refine lv_iload hx hb dL_build_263 (lv_at hl 4 rfl) ?_
          obtain ⟨g7, h⟩ := gd_e h
          obtain ⟨o8, eo8, h⟩ := nq_e h
          have ho8 := pv_cl hw eo8
          refine pgQM hx hb hK htys hw ub3 hub3 g7 o8 eo8 dL_build_265 ?_
          have ho8 : ∀ j, o8 = some j → j < pvM τ 52 := ho8
          rcases o8 with _ | jo8
          · cases (oc_n h)
          replace h := oc_s h
          have hjo8 := ho8 jo8 rfl
          refine lv_iconst (v := 4) hx hb dL_build_266 (by decide) ?_
          refine lv_iconst (v := 1) hx hb dL_build_267 (by decide) ?_
          refine lv_iload hx hb dL_build_268 (lv_at hl 5 rfl) ?_
          refine lv_bipush (v := 6) hx hb dL_build_270 (by decide) ?_
          refine lv_ishr hx hb dL_build_272 ?_
          refine lv_iconst (v := 3) hx hb dL_build_273 (by decide) ?_
          obtain ⟨r9, e10, h⟩ := ob1_e h
          refine pcalli (va_runS (As := [.int (xb5 >>> (6 &&& 31)), .int 3]) (rest := [.int 1, .int 4, .ref (G.2.2.1 52 jo8)]) ⟨hx, hb, hml, hown, hts⟩ (c_L_below (l := l) (G := G) (tys := tys) (σ := τ) htys  e10) (va_cwS 2 hts (gSA wm219 wm220 wm216 wm221) rfl rfl rfl (by decide +kernel) ⟨(Nat.le_of_ble_eq_true rfl), (Nat.le_of_ble_eq_true rfl)⟩) (pv_preS hA hS hw hK [.int (xb5 >>> (6 &&& 31)), .int 3]) rfl rfl hl.1 rfl (lv_room (Nat.le_of_ble_eq_true rfl)) dL_build_274 ⟨(by show 2 + 75 * (16 - (n34 + 1)) + 75 + 0 ≤ 1277; omega), (by show 21 + 6439 * (16 - (n34 + 1)) + 6439 + 0 ≤ 109484; omega)⟩) hS (fun r12 s13 H locs hp11 hw hS => ?_)
          obtain ⟨err9, esr9⟩ := hp11
          obtain rfl := esr9.symm
          obtain rfl := err9.symm
          refine W.widen (k := 2 + 75 * (16 - (n34 + 1)) + 75) (n := 21 + 6439 * (16 - (n34 + 1)) + 6439) (by omega) (by omega) ?_
          refine lv_ishl hx hb dL_build_277 ?_
          obtain ⟨g14, h⟩ := gd_e h
          obtain ⟨σ15, eσ15, h⟩ := nq_e h
          refine ppA hx hb hK htys hw hS 52 jo8 hjo8 rfl (by decide) g14 dL_build_278 (fun H locs hw hS => ?_)
          rw [← eσ15] at hw
          have hcσ15 : σ15.1 = τ.1 := by rw [eσ15]; exact rfl
          refine lv_aload_n hx hb dL_build_279 rfl (lv_at hl 0 rfl) ?_
          refine lv_iload hx hb dL_build_280 (lv_at hl 4 rfl) ?_
          refine lv_iload hx hb dL_build_282 (lv_at hl 5 rfl) ?_
          refine lv_bipush (v := 6) hx hb dL_build_284 (by decide) ?_
          refine lv_ishr hx hb dL_build_286 ?_
          refine lv_iconst (v := 3) hx hb dL_build_287 (by decide) ?_
          obtain ⟨r16, e17, h⟩ := ob1_e h
          refine pcalli (va_runS (As := [.int (xb5 >>> (6 &&& 31)), .int 3]) (rest := [.int xb4, .ref (G.2.2.1 9 0)]) ⟨hx, hb, hml, hown, hts⟩ (c_L_below (l := l) (G := G) (tys := tys) (σ := σ15) htys  e17) (va_cwS 2 hts (gSA wm219 wm220 wm216 wm221) rfl rfl rfl (by decide +kernel) ⟨(Nat.le_of_ble_eq_true rfl), (Nat.le_of_ble_eq_true rfl)⟩) (pv_preS hA hS hw hK [.int (xb5 >>> (6 &&& 31)), .int 3]) rfl rfl hl.1 rfl (lv_room (Nat.le_of_ble_eq_true rfl)) dL_build_288 ⟨(by show 2 + 75 * (16 - (n34 + 1)) + 75 + 0 ≤ 1277; omega), (by show 21 + 6439 * (16 - (n34 + 1)) + 6439 + 0 ≤ 109484; omega)⟩) hS (fun r19 s20 H locs hp18 hw hS => ?_)
          obtain ⟨err16, esr16⟩ := hp18
          obtain rfl := esr16.symm
          obtain rfl := err16.symm
          refine W.widen (k := 2 + 75 * (16 - (n34 + 1)) + 75) (n := 21 + 6439 * (16 - (n34 + 1)) + 6439) (by omega) (by omega) ?_
          refine lv_iconst (v := 1) hx hb dL_build_291 (by decide) ?_
          obtain ⟨r21, σ22, e23, h⟩ := ob2_e h
          refine pcalli (va_runV (As := [.int xb4, .int r16, .int 1]) (rest := []) ⟨hx, hb, hml, hown, hts⟩ (c_X9_setClass (l := l) (G := G) (tys := tys) (σ := σ15) htys  e23) (cwV 3 hts (gVA wm312 wm313 wm314 wm2 wm315) rfl rfl rfl (by decide +kernel) ⟨(Nat.le_of_ble_eq_true rfl), (Nat.le_of_ble_eq_true rfl)⟩) (pv_preV hA hS hw hK 9 0 Nat.one_pos (by decide) rfl [.int xb4, .int r16, .int 1]) rfl rfl hl.1 rfl (lv_room (Nat.le_of_ble_eq_true rfl)) dL_build_292 ⟨(by show 2 + 75 * (16 - (n34 + 1)) + 75 + 0 ≤ 1277; omega), (by show 21 + 6439 * (16 - (n34 + 1)) + 6439 + 0 ≤ 109484; omega)⟩) hS (fun r25 s26 H locs hp24 hw hS => ?_)
          obtain ⟨err21, esσ22, hdσ22, hzr21⟩ := hp24
          obtain rfl := esσ22.symm
          have hcσ22 : σ22.1 = τ.1 := hdσ22.trans hcσ15
          obtain rfl := err21.symm
          refine W.widen (k := 2 + 75 * (16 - (n34 + 1)) + 75) (n := 21 + 6439 * (16 - (n34 + 1)) + 6439) (by omega) (by omega) ?_
          refine lv_pop hx hb dL_build_295 rfl ?_
          refine lv_iinc (v := xb4 + 1) (lv' := [(4, .int (xb4 + 1)), (0, .ref (G.2.2.1 9 0)), (1, .ref (G.2.2.2.1.1 4)), (2, .int xb2), (3, .ref (G.2.2.1 51 ub3)), (5, .int xb5)]) hx hb dL_build_296 hl (k := 4) rfl (by rfl) (by decide) rfl (fun ls hl => ?_)
          refine lv_goto (tgt := 34) hx hb dL_build_299 (by decide) ?_
          refine W.widen (k := 2 + 75 * (16 - n34) + 0) (n := 21 + 6439 * (16 - n34) + 0) (by omega) (by omega) ?_
          exact ih34 (by omega) G σ22 xb2 ub3 (xb4 + 1) hGe (pvGr_r hcσ22 hgr) (lt_c hcσ22 51 hub3) h _ _ hw hS ls (lv_sub hl [1, 2, 3, 4, 0] rfl)
      have blk205 : ∀ (G : PvG) (τ : PvS) (xb2 : Int32) (ub3 : Nat) (xb4 : Int32) (xb5 : Int32) (xb8 : Int32), G = pvGa G0 G.2.2.1 → pvGr G0.2.2.1 G.2.2.1 σ τ → (ub3 < pvM τ 51) → f_L_build_205 (f_L_build_34 xs nn n34) xs nn τ xb2 ub3 xb4 xb5 xb8 = some (r, σ1) → ∀ (H : Heap) (locs : List Loc), pvW G τ H → va_S (pvB G) s.heap H locs → ∀ (ls : Array Slot), lv_has ls 9 [(0, .ref (G.2.2.1 9 0)), (1, .ref (G.2.2.2.1.1 4)), (2, .int xb2), (3, .ref (G.2.2.1 51 ub3)), (4, .int xb4), (5, .int xb5), (8, .int xb8)] → W p l e (headSpec (Cond.code yL_build cL_build 9 (some (.array (.array .int))) :: WA) ({ frames := 28, cells := 1277, slots := 109484, locals := 647 } : Room)).room s m ([.ref (G0.2.2.1 9 0), .ref (G0.2.2.2.1.1 4), .int x2] : List Value).toArray below meth c H locs (2 + 75 * (16 - (n34 + 1)) + 75) (21 + 6439 * (16 - (n34 + 1)) + 6439) (MQ below (va_Qq (fun r' (u : (Nat → Nat → Nat) × PvS) => r' = some (u.1 51 r) ∧ u.2 = σ1 ∧ pvGr G0.2.2.1 u.1 σ u.2 ∧ r < pvM u.2 51) (pvUa G0 tys) (pvB G0)) ([.ref (G0.2.2.1 9 0), .ref (G0.2.2.2.1.1 4), .int x2] : List Value).toArray s 1277 109484 (pvB G0)) (F0 m 205 ls []) := by
        intro G τ xb2 ub3 xb4 xb5 xb8 hGe hgr hub3 h H locs hw hS ls hl
        have hA := pvGe_A hGe hA0
        have hK := pvGe_K hGe hK0
        have htys := pvGe_T hGe htys0
        have hroot := pv_root hw
        unfold f_L_build_205 at h
        refine lv_iload hx hb dL_build_205 (lv_at hl 6 rfl) ?_
        refine lv_if_eq (tgt := 213) hx hb dL_build_207 (by decide) (fun c27 => ?_) (fun c27 => ?_)
        · skip
          replace h := ite_p c27 h
          refine lv_iload hx hb dL_build_213 (lv_at hl 5 rfl) ?_
          refine lv_iconst (v := 4) hx hb dL_build_215 (by decide) ?_
          refine lv_ishr hx hb dL_build_216 ?_
          refine lv_iconst (v := 4) hx hb dL_build_217 (by decide) ?_
          obtain ⟨r28, e29, h⟩ := ob1_e h
          refine pcalli (va_runS (As := [.int (xb5 >>> (4 &&& 31)), .int 4]) (rest := []) ⟨hx, hb, hml, hown, hts⟩ (c_L_below (l := l) (G := G) (tys := tys) (σ := τ) htys  e29) (va_cwS 2 hts (gSA wm219 wm220 wm216 wm221) rfl rfl rfl (by decide +kernel) ⟨(Nat.le_of_ble_eq_true rfl), (Nat.le_of_ble_eq_true rfl)⟩) (pv_preS hA hS hw hK [.int (xb5 >>> (4 &&& 31)), .int 4]) rfl rfl hl.1 rfl (lv_room (Nat.le_of_ble_eq_true rfl)) dL_build_218 ⟨(by show 2 + 75 * (16 - (n34 + 1)) + 75 + 0 ≤ 1277; omega), (by show 21 + 6439 * (16 - (n34 + 1)) + 6439 + 0 ≤ 109484; omega)⟩) hS (fun r31 s32 H locs hp30 hw hS => ?_)
          obtain ⟨err28, esr28⟩ := hp30
          obtain rfl := esr28.symm
          obtain rfl := err28.symm
          refine W.widen (k := 2 + 75 * (16 - (n34 + 1)) + 75) (n := 21 + 6439 * (16 - (n34 + 1)) + 6439) (by omega) (by omega) ?_
          refine lv_if_ne (tgt := 251) hx hb dL_build_221 (by decide) (fun c33 => ?_) (fun c33 => ?_)
          · skip
            replace h := ite_n c33 h
            refine W.widen (k := 2 + 75 * (16 - (n34 + 1)) + 75) (n := 21 + 6439 * (16 - (n34 + 1)) + 6439) (by omega) (by omega) ?_
            exact blk251 G τ xb2 ub3 xb4 xb5 hGe hgr hub3 h _ _ hw hS ls (lv_sub hl [0, 1, 2, 3, 4, 5] rfl)
          · skip
            replace h := ite_p c33 h
            refine lv_aload_n hx hb dL_build_224 rfl (lv_at hl 3 rfl) ?_
            refine lv_iload hx hb dL_build_225 (lv_at hl 4 rfl) ?_
            obtain ⟨g34, h⟩ := gd_e h
            obtain ⟨o35, eo35, h⟩ := nq_e h
            have ho35 := pv_cl hw eo35
            refine pgQM hx hb hK htys hw ub3 hub3 g34 o35 eo35 dL_build_227 ?_
            have ho35 : ∀ j, o35 = some j → j < pvM τ 52 := ho35
            rcases o35 with _ | jo35
            · cases (oc_n h)
            replace h := oc_s h
            have hjo35 := ho35 jo35 rfl
            refine lv_iconst (v := 3) hx hb dL_build_228 (by decide) ?_
            refine lv_iconst (v := 1) hx hb dL_build_229 (by decide) ?_
            refine lv_iload hx hb dL_build_230 (lv_at hl 5 rfl) ?_
            refine lv_iconst (v := 3) hx hb dL_build_232 (by decide) ?_
            obtain ⟨r36, e37, h⟩ := ob1_e h
            refine pcalli (va_runS (As := [.int xb5, .int 3]) (rest := [.int 1, .int 3, .ref (G.2.2.1 52 jo35)]) ⟨hx, hb, hml, hown, hts⟩ (c_L_below (l := l) (G := G) (tys := tys) (σ := τ) htys  e37) (va_cwS 2 hts (gSA wm219 wm220 wm216 wm221) rfl rfl rfl (by decide +kernel) ⟨(Nat.le_of_ble_eq_true rfl), (Nat.le_of_ble_eq_true rfl)⟩) (pv_preS hA hS hw hK [.int xb5, .int 3]) rfl rfl hl.1 rfl (lv_room (Nat.le_of_ble_eq_true rfl)) dL_build_233 ⟨(by show 2 + 75 * (16 - (n34 + 1)) + 75 + 0 ≤ 1277; omega), (by show 21 + 6439 * (16 - (n34 + 1)) + 6439 + 0 ≤ 109484; omega)⟩) hS (fun r39 s40 H locs hp38 hw hS => ?_)
            obtain ⟨err36, esr36⟩ := hp38
            obtain rfl := esr36.symm
            obtain rfl := err36.symm
            refine W.widen (k := 2 + 75 * (16 - (n34 + 1)) + 75) (n := 21 + 6439 * (16 - (n34 + 1)) + 6439) (by omega) (by omega) ?_
            refine lv_iadd hx hb dL_build_236 ?_
            obtain ⟨g41, h⟩ := gd_e h
            obtain ⟨σ42, eσ42, h⟩ := nq_e h
            refine ppA hx hb hK htys hw hS 52 jo35 hjo35 rfl (by decide) g41 dL_build_237 (fun H locs hw hS => ?_)
            rw [← eσ42] at hw
            have hcσ42 : σ42.1 = τ.1 := by rw [eσ42]; exact rfl
            refine lv_aload_n hx hb dL_build_238 rfl (lv_at hl 0 rfl) ?_
            refine lv_iload hx hb dL_build_239 (lv_at hl 4 rfl) ?_
            refine lv_aload_n hx hb dL_build_241 rfl (lv_at hl 3 rfl) ?_
            refine lv_iload hx hb dL_build_242 (lv_at hl 4 rfl) ?_
            obtain ⟨g43, h⟩ := gd_e h
            obtain ⟨o44, eo44, h⟩ := nq_e h
            have ho44 := pv_cl hw eo44
            refine pgQM hx hb hK htys hw ub3 (lt_c hcσ42 51 hub3) g43 o44 eo44 dL_build_244 ?_
            have ho44 : ∀ j, o44 = some j → j < pvM τ 52 := fun j z => lt_c hcσ42.symm 52 (ho44 j z)
            rcases o44 with _ | jo44
            · cases (oc_n h)
            replace h := oc_s h
            have hjo44 := ho44 jo44 rfl
            refine lv_iconst (v := 3) hx hb dL_build_245 (by decide) ?_
            obtain ⟨g45, h⟩ := gd_e h
            refine pgA hx hb hK htys hw 52 jo44 (lt_c hcσ42 52 hjo44) rfl (by decide) g45 dL_build_246 ?_
            obtain ⟨r46, σ47, e48, h⟩ := ob2_e h
            refine pcalli (va_runV (As := [.int xb4, .int (σ42.2.2.2.1 52 jo44 (3 : Int32).toNatClampNeg)]) (rest := []) ⟨hx, hb, hml, hown, hts⟩ (c_X9_setName (l := l) (G := G) (tys := tys) (σ := σ42) htys  e48) (cwV 2 hts (gVA wm307 wm308 wm309 wm2 wm310) rfl rfl rfl (by decide +kernel) ⟨(Nat.le_of_ble_eq_true rfl), (Nat.le_of_ble_eq_true rfl)⟩) (pv_preV hA hS hw hK 9 0 Nat.one_pos (by decide) rfl [.int xb4, .int (σ42.2.2.2.1 52 jo44 (3 : Int32).toNatClampNeg)]) rfl rfl hl.1 rfl (lv_room (Nat.le_of_ble_eq_true rfl)) dL_build_247 ⟨(by show 2 + 75 * (16 - (n34 + 1)) + 75 + 0 ≤ 1277; omega), (by show 21 + 6439 * (16 - (n34 + 1)) + 6439 + 0 ≤ 109484; omega)⟩) hS (fun r50 s51 H locs hp49 hw hS => ?_)
            obtain ⟨err46, esσ47, hdσ47⟩ := hp49
            obtain rfl := esσ47.symm
            have hcσ47 : σ47.1 = τ.1 := hdσ47.trans hcσ42
            obtain rfl := err46.symm
            refine W.widen (k := 2 + 75 * (16 - (n34 + 1)) + 75) (n := 21 + 6439 * (16 - (n34 + 1)) + 6439) (by omega) (by omega) ?_
            refine lv_pop hx hb dL_build_250 rfl ?_
            refine W.widen (k := 2 + 75 * (16 - (n34 + 1)) + 75) (n := 21 + 6439 * (16 - (n34 + 1)) + 6439) (by omega) (by omega) ?_
            exact blk251 G σ47 xb2 ub3 xb4 xb5 hGe (pvGr_r hcσ47 hgr) (lt_c hcσ47 51 hub3) h _ _ hw hS ls (lv_sub hl [0, 1, 2, 3, 4, 5] rfl)
        · skip
          replace h := ite_n c27 h
          refine lv_goto (tgt := 296) hx hb dL_build_210 (by decide) ?_
          refine lv_iinc (v := xb4 + 1) (lv' := [(4, .int (xb4 + 1)), (0, .ref (G.2.2.1 9 0)), (1, .ref (G.2.2.2.1.1 4)), (2, .int xb2), (3, .ref (G.2.2.1 51 ub3)), (5, .int xb5), (8, .int xb8)]) hx hb dL_build_296 hl (k := 4) rfl (by rfl) (by decide) rfl (fun ls hl => ?_)
          refine lv_goto (tgt := 34) hx hb dL_build_299 (by decide) ?_
          refine W.widen (k := 2 + 75 * (16 - n34) + 0) (n := 21 + 6439 * (16 - n34) + 0) (by omega) (by omega) ?_
          exact ih34 (by omega) G τ xb2 ub3 (xb4 + 1) hGe hgr hub3 h _ _ hw hS ls (lv_sub hl [1, 2, 3, 4, 0] rfl)
      have blk156 : ∀ (G : PvG) (τ : PvS) (xb2 : Int32) (ub3 : Nat) (xb4 : Int32) (xb5 : Int32) (xb6 : Int32) (xb8 : Int32) (xbs0 : Int32) (xbs1 : Int32) (ubs2 : Nat) (ubs3 : Nat) (xbs4 : Int32) (ubs5 : Nat), G = pvGa G0 G.2.2.1 → pvGr G0.2.2.1 G.2.2.1 σ τ → (ub3 < pvM τ 51) → (ubs2 < pvM τ 52) → (ubs3 < pvM τ 52) → (ubs5 < pvM τ 51) → f_L_build_156 (f_L_build_34 xs nn n34) xs nn τ xb2 ub3 xb4 xb5 xb6 xb8 xbs0 xbs1 ubs2 ubs3 xbs4 ubs5 = some (r, σ1) → ∀ (H : Heap) (locs : List Loc), pvW G τ H → va_S (pvB G) s.heap H locs → ∀ (ls : Array Slot), lv_has ls 9 [(0, .ref (G.2.2.1 9 0)), (1, .ref (G.2.2.2.1.1 4)), (2, .int xb2), (3, .ref (G.2.2.1 51 ub3)), (4, .int xb4), (5, .int xb5), (6, .int xb6), (8, .int xb8)] → W p l e (headSpec (Cond.code yL_build cL_build 9 (some (.array (.array .int))) :: WA) ({ frames := 28, cells := 1277, slots := 109484, locals := 647 } : Room)).room s m ([.ref (G0.2.2.1 9 0), .ref (G0.2.2.2.1.1 4), .int x2] : List Value).toArray below meth c H locs (2 + 75 * (16 - (n34 + 1)) + 1) (21 + 6439 * (16 - (n34 + 1)) + 5) (MQ below (va_Qq (fun r' (u : (Nat → Nat → Nat) × PvS) => r' = some (u.1 51 r) ∧ u.2 = σ1 ∧ pvGr G0.2.2.1 u.1 σ u.2 ∧ r < pvM u.2 51) (pvUa G0 tys) (pvB G0)) ([.ref (G0.2.2.1 9 0), .ref (G0.2.2.2.1.1 4), .int x2] : List Value).toArray s 1277 109484 (pvB G0)) (F0 m 156 ls [.int xbs0, .int xbs1, .ref (G.2.2.1 52 ubs2), .ref (G.2.2.1 52 ubs3), .int xbs4, .ref (G.2.2.1 51 ubs5)]) := by
        intro G τ xb2 ub3 xb4 xb5 xb6 xb8 xbs0 xbs1 ubs2 ubs3 xbs4 ubs5 hGe hgr hub3 hubs2 hubs3 hubs5 h H locs hw hS ls hl
        have hA := pvGe_A hGe hA0
        have hK := pvGe_K hGe hK0
        have htys := pvGe_T hGe htys0
        have hroot := pv_root hw
        unfold f_L_build_156 at h
        obtain ⟨g52, h⟩ := gd_e h
        obtain ⟨σ53, eσ53, h⟩ := nq_e h
        refine ppA hx hb hK htys hw hS 52 ubs2 hubs2 rfl (by decide) g52 dL_build_156 (fun H locs hw hS => ?_)
        rw [← eσ53] at hw
        have hcσ53 : σ53.1 = τ.1 := by rw [eσ53]; exact rfl
        refine lv_dup hx hb dL_build_157 rfl ?_
        refine lv_iconst (v := 2) hx hb dL_build_158 (by decide) ?_
        refine lv_iload hx hb dL_build_159 (lv_at hl 5 rfl) ?_
        refine lv_iconst (v := 2) hx hb dL_build_161 (by decide) ?_
        refine lv_ishr hx hb dL_build_162 ?_
        refine lv_iconst (v := 4) hx hb dL_build_163 (by decide) ?_
        obtain ⟨r54, e55, h⟩ := ob1_e h
        refine pcalli (va_runS (As := [.int (xb5 >>> (2 &&& 31)), .int 4]) (rest := [.int 2, .ref (G.2.2.1 52 ubs3), .ref (G.2.2.1 52 ubs3), .int xbs4, .ref (G.2.2.1 51 ubs5)]) ⟨hx, hb, hml, hown, hts⟩ (c_L_below (l := l) (G := G) (tys := tys) (σ := σ53) htys  e55) (va_cwS 2 hts (gSA wm219 wm220 wm216 wm221) rfl rfl rfl (by decide +kernel) ⟨(Nat.le_of_ble_eq_true rfl), (Nat.le_of_ble_eq_true rfl)⟩) (pv_preS hA hS hw hK [.int (xb5 >>> (2 &&& 31)), .int 4]) rfl rfl hl.1 rfl (lv_room (Nat.le_of_ble_eq_true rfl)) dL_build_164 ⟨(by show 2 + 75 * (16 - (n34 + 1)) + 1 + 0 ≤ 1277; omega), (by show 21 + 6439 * (16 - (n34 + 1)) + 5 + 0 ≤ 109484; omega)⟩) hS (fun r57 s58 H locs hp56 hw hS => ?_)
        obtain ⟨err54, esr54⟩ := hp56
        obtain rfl := esr54.symm
        obtain rfl := err54.symm
        refine W.widen (k := 2 + 75 * (16 - (n34 + 1)) + 1) (n := 21 + 6439 * (16 - (n34 + 1)) + 5) (by omega) (by omega) ?_
        obtain ⟨g59, h⟩ := gd_e h
        obtain ⟨σ60, eσ60, h⟩ := nq_e h
        refine ppA hx hb hK htys hw hS 52 ubs3 (lt_c hcσ53 52 hubs3) rfl (by decide) g59 dL_build_167 (fun H locs hw hS => ?_)
        rw [← eσ60] at hw
        have hcσ60 : σ60.1 = τ.1 := by rw [eσ60]; exact hcσ53
        refine lv_dup hx hb dL_build_168 rfl ?_
        refine lv_iconst (v := 3) hx hb dL_build_169 (by decide) ?_
        refine lv_iconst (v := 0) hx hb dL_build_170 (by decide) ?_
        obtain ⟨g61, h⟩ := gd_e h
        obtain ⟨σ62, eσ62, h⟩ := nq_e h
        refine ppA hx hb hK htys hw hS 52 ubs3 (lt_c hcσ60 52 hubs3) rfl (by decide) g61 dL_build_171 (fun H locs hw hS => ?_)
        rw [← eσ62] at hw
        have hcσ62 : σ62.1 = τ.1 := by rw [eσ62]; exact hcσ60
        refine lv_dup hx hb dL_build_172 rfl ?_
        refine lv_iconst (v := 4) hx hb dL_build_173 (by decide) ?_
        refine lv_iconst (v := 0) hx hb dL_build_174 (by decide) ?_
        obtain ⟨g63, h⟩ := gd_e h
        obtain ⟨σ64, eσ64, h⟩ := nq_e h
        refine ppA hx hb hK htys hw hS 52 ubs3 (lt_c hcσ62 52 hubs3) rfl (by decide) g63 dL_build_175 (fun H locs hw hS => ?_)
        rw [← eσ64] at hw
        have hcσ64 : σ64.1 = τ.1 := by rw [eσ64]; exact hcσ62
        obtain ⟨g65, h⟩ := gd_e h
        obtain ⟨σ66, eσ66, h⟩ := nq_e h
        refine ppQM hx hb hN.2 hK htys hw hS ubs5 (lt_c hcσ64 51 hubs5) ubs3 (lt_c hcσ64 52 hubs3) g65 dL_build_176 (fun H locs hw hS => ?_)
        rw [← eσ66] at hw
        have hcσ66 : σ66.1 = τ.1 := by rw [eσ66]; exact hcσ64
        refine lv_iload hx hb dL_build_177 (lv_at hl 7 rfl) ?_
        refine lv_if_eq (tgt := 192) hx hb dL_build_179 (by decide) (fun c67 => ?_) (fun c67 => ?_)
        · skip
          replace h := ite_p c67 h
          refine lv_aload_n hx hb dL_build_192 rfl (lv_at hl 0 rfl) ?_
          refine lv_iload hx hb dL_build_193 (lv_at hl 6 rfl) ?_
          refine lv_aload_n hx hb dL_build_195 rfl (lv_at hl 3 rfl) ?_
          refine lv_iload hx hb dL_build_196 (lv_at hl 4 rfl) ?_
          obtain ⟨g68, h⟩ := gd_e h
          obtain ⟨o69, eo69, h⟩ := nq_e h
          have ho69 := pv_cl hw eo69
          refine pgQM hx hb hK htys hw ub3 (lt_c hcσ66 51 hub3) g68 o69 eo69 dL_build_198 ?_
          have ho69 : ∀ j, o69 = some j → j < pvM τ 52 := fun j z => lt_c hcσ66.symm 52 (ho69 j z)
          rcases o69 with _ | jo69
          · cases (oc_n h)
          replace h := oc_s h
          have hjo69 := ho69 jo69 rfl
          refine lv_iconst (v := 2) hx hb dL_build_199 (by decide) ?_
          obtain ⟨g70, h⟩ := gd_e h
          refine pgA hx hb hK htys hw 52 jo69 (lt_c hcσ66 52 hjo69) rfl (by decide) g70 dL_build_200 ?_
          obtain ⟨r71, σ72, e73, h⟩ := ob2_e h
          refine pcallai (G := G) (va_runV (As := [.int xb6, .int (σ66.2.2.2.1 52 jo69 (2 : Int32).toNatClampNeg)]) (rest := []) ⟨hx, hb, hml, hown, hts⟩ (c_X9_addElement (l := l) (G := G) (tys := tys) (σ := σ66) htys  e73) (cwV 2 hts (gVA wm303 wm304 wm305 wm2 wm306) rfl rfl rfl (by decide +kernel) ⟨(Nat.le_of_ble_eq_true rfl), (Nat.le_of_ble_eq_true rfl)⟩) (pv_preV hA hS hw hK 9 0 Nat.one_pos (by decide) rfl [.int xb6, .int (σ66.2.2.2.1 52 jo69 (2 : Int32).toNatClampNeg)]) rfl rfl hl.1 rfl (lv_room (Nat.le_of_ble_eq_true rfl)) dL_build_201 ⟨(by show 2 + 75 * (16 - (n34 + 1)) + 1 + 74 ≤ 1277; omega), (by show 21 + 6439 * (16 - (n34 + 1)) + 5 + 6434 ≤ 109484; omega)⟩) hS (fun r75 ad77 s76 H locs hp74 hw hS => ?_)
          obtain ⟨err71, esσ72, hgσ72⟩ := hp74
          have esσ72 : s76 = σ72 := esσ72
          obtain rfl := esσ72.symm
          obtain rfl := err71.symm
          have hgσ72 : pvGr G.2.2.1 ad77 σ66 σ72 := hgσ72
          refine W.widen (k := 2 + 75 * (16 - (n34 + 1)) + 75) (n := 21 + 6439 * (16 - (n34 + 1)) + 6439) (by omega) (by omega) ?_
          have ea78 : ad77 9 0 = G.2.2.1 9 0 := hgσ72.1.1 9 0 Nat.one_pos
          have ea79 : ad77 51 ub3 = G.2.2.1 51 ub3 := hgσ72.1.1 51 ub3 (lt_c hcσ66 51 hub3)
          have hl : lv_has ls 9 [(0, .ref (ad77 9 0)), (1, .ref (G.2.2.2.1.1 4)), (2, .int xb2), (3, .ref (ad77 51 ub3)), (4, .int xb4), (5, .int xb5), (6, .int xb6), (8, .int xb8)] := by rw [ea78, ea79]; exact hl
          refine W.eq (g2 := F0 m 204 ls [.int r71]) (congrArg (F0 m 204 ls) (by first | rfl | rfl | (rfl; rfl))) ?_
          have hf80 : ub3 < pvM σ72 51 := hgσ72.2.1 51 ub3 (lt_c hcσ66 51 hub3)
          have hgr := pvGr_trans (pvGr_r hcσ66 hgr) hgσ72
          obtain ⟨G, hGn⟩ : ∃ G2 : PvG, G2 = pvGa G ad77 := ⟨_, rfl⟩
          rw [← hGn] at hw
          have hgr : pvGr G0.2.2.1 G.2.2.1 σ σ72 := by rw [hGn]; exact hgr
          have hGe := pvGe_next hGe hGn
          have hA : pvA0 G s s.heap := by rw [hGn]; exact hA
          have hK : va_K G.2.1 pvC tys s := by rw [hGn]; exact hK
          have htys : tys = pvT G := by rw [hGn]; exact htys
          have hS := pvGn_S hGn hS
          have hl : lv_has ls 9 [(0, .ref (G.2.2.1 9 0)), (1, .ref (G.2.2.2.1.1 4)), (2, .int xb2), (3, .ref (G.2.2.1 51 ub3)), (4, .int xb4), (5, .int xb5), (6, .int xb6), (8, .int xb8)] := by rw [hGn]; exact hl
          refine W.eq (g2 := F0 m 204 ls [.int r71]) (by first | rfl | rw [hGn]) ?_
          have hroot := pv_root hw
          refine lv_pop hx hb dL_build_204 rfl ?_
          refine W.widen (k := 2 + 75 * (16 - (n34 + 1)) + 75) (n := 21 + 6439 * (16 - (n34 + 1)) + 6439) (by omega) (by omega) ?_
          exact blk205 G σ72 xb2 ub3 xb4 xb5 xb8 hGe hgr hf80 h _ _ hw hS ls (lv_sub hl [0, 1, 2, 3, 4, 5, 7] rfl)
        · skip
          replace h := ite_n c67 h
          refine lv_aload_n hx hb dL_build_182 rfl (lv_at hl 0 rfl) ?_
          refine lv_iload hx hb dL_build_183 (lv_at hl 6 rfl) ?_
          obtain ⟨r81, σ82, e83, h⟩ := ob2_e h
          refine pcallai (G := G) (va_runV (As := [.int xb6]) (rest := []) ⟨hx, hb, hml, hown, hts⟩ (c_X9_addText (l := l) (G := G) (tys := tys) (σ := σ66) htys  e83) (cwV 1 hts (gVA wm227 wm228 wm229 wm2 wm230) rfl rfl rfl (by decide +kernel) ⟨(Nat.le_of_ble_eq_true rfl), (Nat.le_of_ble_eq_true rfl)⟩) (pv_preV hA hS hw hK 9 0 Nat.one_pos (by decide) rfl [.int xb6]) rfl rfl hl.1 rfl (lv_room (Nat.le_of_ble_eq_true rfl)) dL_build_185 ⟨(by show 2 + 75 * (16 - (n34 + 1)) + 1 + 74 ≤ 1277; omega), (by show 21 + 6439 * (16 - (n34 + 1)) + 5 + 6434 ≤ 109484; omega)⟩) hS (fun r85 ad87 s86 H locs hp84 hw hS => ?_)
          obtain ⟨err81, esσ82, hgσ82⟩ := hp84
          have esσ82 : s86 = σ82 := esσ82
          obtain rfl := esσ82.symm
          obtain rfl := err81.symm
          have hgσ82 : pvGr G.2.2.1 ad87 σ66 σ82 := hgσ82
          refine W.widen (k := 2 + 75 * (16 - (n34 + 1)) + 75) (n := 21 + 6439 * (16 - (n34 + 1)) + 6439) (by omega) (by omega) ?_
          have ea88 : ad87 9 0 = G.2.2.1 9 0 := hgσ82.1.1 9 0 Nat.one_pos
          have ea89 : ad87 51 ub3 = G.2.2.1 51 ub3 := hgσ82.1.1 51 ub3 (lt_c hcσ66 51 hub3)
          have hl : lv_has ls 9 [(0, .ref (ad87 9 0)), (1, .ref (G.2.2.2.1.1 4)), (2, .int xb2), (3, .ref (ad87 51 ub3)), (4, .int xb4), (5, .int xb5), (6, .int xb6), (8, .int xb8)] := by rw [ea88, ea89]; exact hl
          refine W.eq (g2 := F0 m 188 ls [.int r81]) (congrArg (F0 m 188 ls) (by first | rfl | rfl | (rfl; rfl))) ?_
          have hf90 : ub3 < pvM σ82 51 := hgσ82.2.1 51 ub3 (lt_c hcσ66 51 hub3)
          have hgr := pvGr_trans (pvGr_r hcσ66 hgr) hgσ82
          obtain ⟨G, hGn⟩ : ∃ G2 : PvG, G2 = pvGa G ad87 := ⟨_, rfl⟩
          rw [← hGn] at hw
          have hgr : pvGr G0.2.2.1 G.2.2.1 σ σ82 := by rw [hGn]; exact hgr
          have hGe := pvGe_next hGe hGn
          have hA : pvA0 G s s.heap := by rw [hGn]; exact hA
          have hK : va_K G.2.1 pvC tys s := by rw [hGn]; exact hK
          have htys : tys = pvT G := by rw [hGn]; exact htys
          have hS := pvGn_S hGn hS
          have hl : lv_has ls 9 [(0, .ref (G.2.2.1 9 0)), (1, .ref (G.2.2.2.1.1 4)), (2, .int xb2), (3, .ref (G.2.2.1 51 ub3)), (4, .int xb4), (5, .int xb5), (6, .int xb6), (8, .int xb8)] := by rw [hGn]; exact hl
          refine W.eq (g2 := F0 m 188 ls [.int r81]) (by first | rfl | rw [hGn]) ?_
          have hroot := pv_root hw
          refine lv_pop hx hb dL_build_188 rfl ?_
          refine lv_goto (tgt := 205) hx hb dL_build_189 (by decide) ?_
          refine W.widen (k := 2 + 75 * (16 - (n34 + 1)) + 75) (n := 21 + 6439 * (16 - (n34 + 1)) + 6439) (by omega) (by omega) ?_
          exact blk205 G σ82 xb2 ub3 xb4 xb5 xb8 hGe hgr hf90 h _ _ hw hS ls (lv_sub hl [0, 1, 2, 3, 4, 5, 7] rfl)
      have blk131 : ∀ (G : PvG) (τ : PvS) (xb2 : Int32) (ub3 : Nat) (xb4 : Int32) (xb5 : Int32) (xb6 : Int32) (xbs0 : Int32), G = pvGa G0 G.2.2.1 → pvGr G0.2.2.1 G.2.2.1 σ τ → (ub3 < pvM τ 51) → f_L_build_131 (f_L_build_34 xs nn n34) xs nn τ xb2 ub3 xb4 xb5 xb6 xbs0 = some (r, σ1) → ∀ (H : Heap) (locs : List Loc), pvW G τ H → va_S (pvB G) s.heap H locs → ∀ (ls : Array Slot), lv_has ls 9 [(0, .ref (G.2.2.1 9 0)), (1, .ref (G.2.2.2.1.1 4)), (2, .int xb2), (3, .ref (G.2.2.1 51 ub3)), (4, .int xb4), (5, .int xb5), (6, .int xb6)] → W p l e (headSpec (Cond.code yL_build cL_build 9 (some (.array (.array .int))) :: WA) ({ frames := 28, cells := 1277, slots := 109484, locals := 647 } : Room)).room s m ([.ref (G0.2.2.1 9 0), .ref (G0.2.2.2.1.1 4), .int x2] : List Value).toArray below meth c H locs (2 + 75 * (16 - (n34 + 1)) + 0) (21 + 6439 * (16 - (n34 + 1)) + 0) (MQ below (va_Qq (fun r' (u : (Nat → Nat → Nat) × PvS) => r' = some (u.1 51 r) ∧ u.2 = σ1 ∧ pvGr G0.2.2.1 u.1 σ u.2 ∧ r < pvM u.2 51) (pvUa G0 tys) (pvB G0)) ([.ref (G0.2.2.1 9 0), .ref (G0.2.2.2.1.1 4), .int x2] : List Value).toArray s 1277 109484 (pvB G0)) (F0 m 131 ls [.int xbs0]) := by
        intro G τ xb2 ub3 xb4 xb5 xb6 xbs0 hGe hgr hub3 h H locs hw hS ls hl
        have hA := pvGe_A hGe hA0
        have hK := pvGe_K hGe hK0
        have htys := pvGe_T hGe htys0
        have hroot := pv_root hw
        unfold f_L_build_131 at h
        refine lv_istore (lv' := [(8, .int xbs0), (0, .ref (G.2.2.1 9 0)), (1, .ref (G.2.2.2.1.1 4)), (2, .int xb2), (3, .ref (G.2.2.1 51 ub3)), (4, .int xb4), (5, .int xb5), (6, .int xb6)]) hx hb dL_build_131 hl (by decide) rfl (fun ls hl => ?_)
        refine lv_aload_n hx hb dL_build_133 rfl (lv_at hl 4 rfl) ?_
        refine lv_iload hx hb dL_build_134 (lv_at hl 5 rfl) ?_
        refine lv_iconst (v := 5) hx hb dL_build_136 (by decide) ?_
        obtain ⟨σ91, eσ91, h⟩ := nq_e h
        refine pnewA hx hb (hts _ wm3) hA hK htys hw hS (t := 52) (N := 5) (by decide) (by decide) (by decide) (by show 2 + 75 * (16 - (n34 + 1)) + 0 + 1 ≤ 1277; omega) (by show 21 + 6439 * (16 - (n34 + 1)) + 0 + 5 ≤ 109484; omega) dL_build_137 (fun ad92 H hg93 hw hS => ?_)
        rw [← eσ91] at hw hg93
        refine W.widen (k := 2 + 75 * (16 - (n34 + 1)) + 1) (n := 21 + 6439 * (16 - (n34 + 1)) + 5) (by omega) (by omega) ?_
        have ea94 : ad92 9 0 = G.2.2.1 9 0 := hg93.1.1 9 0 Nat.one_pos
        have ea95 : ad92 51 ub3 = G.2.2.1 51 ub3 := hg93.1.1 51 ub3 hub3
        have hl : lv_has ls 9 [(8, .int xbs0), (0, .ref (ad92 9 0)), (1, .ref (G.2.2.2.1.1 4)), (2, .int xb2), (3, .ref (ad92 51 ub3)), (4, .int xb4), (5, .int xb5), (6, .int xb6)] := by rw [ea94, ea95]; exact hl
        refine W.eq (g2 := F0 m 139 ls [.ref (ad92 52 (τ.1 3)), .int xb4, .ref (ad92 51 ub3)]) (congrArg (F0 m 139 ls) (by first | rfl | rw [ea95] | (rw [ea95]; rfl))) ?_
        have hf96 : ub3 < pvM σ91 51 := hg93.2.1 51 ub3 hub3
        have hgr := pvGr_trans hgr hg93
        obtain ⟨G, hGn⟩ : ∃ G2 : PvG, G2 = pvGa G ad92 := ⟨_, rfl⟩
        rw [← hGn] at hw
        have hgr : pvGr G0.2.2.1 G.2.2.1 σ σ91 := by rw [hGn]; exact hgr
        have hGe := pvGe_next hGe hGn
        have hA : pvA0 G s s.heap := by rw [hGn]; exact hA
        have hK : va_K G.2.1 pvC tys s := by rw [hGn]; exact hK
        have htys : tys = pvT G := by rw [hGn]; exact htys
        have hS := pvGn_S hGn hS
        have hl : lv_has ls 9 [(8, .int xbs0), (0, .ref (G.2.2.1 9 0)), (1, .ref (G.2.2.2.1.1 4)), (2, .int xb2), (3, .ref (G.2.2.1 51 ub3)), (4, .int xb4), (5, .int xb5), (6, .int xb6)] := by rw [hGn]; exact hl
        refine W.eq (g2 := F0 m 139 ls [.ref (G.2.2.1 52 (τ.1 3)), .int xb4, .ref (G.2.2.1 51 ub3)]) (by first | rfl | rw [hGn]) ?_
        have hroot := pv_root hw
        have hn97 : τ.1 3 < pvM σ91 52 := by rw [eσ91]; exact Nat.lt_succ_self _
        refine lv_dup hx hb dL_build_139 rfl ?_
        refine lv_iconst (v := 0) hx hb dL_build_140 (by decide) ?_
        refine lv_iload hx hb dL_build_141 (lv_at hl 7 rfl) ?_
        obtain ⟨g98, h⟩ := gd_e h
        obtain ⟨σ99, eσ99, h⟩ := nq_e h
        refine ppA hx hb hK htys hw hS 52 (τ.1 3) hn97 rfl (by decide) g98 dL_build_143 (fun H locs hw hS => ?_)
        rw [← eσ99] at hw
        have hcσ99 : σ99.1 = σ91.1 := by rw [eσ99]; exact rfl
        refine lv_dup hx hb dL_build_144 rfl ?_
        refine lv_iconst (v := 1) hx hb dL_build_145 (by decide) ?_
        refine lv_iload hx hb dL_build_146 (lv_at hl 0 rfl) ?_
        refine lv_if_eq (tgt := 155) hx hb dL_build_148 (by decide) (fun c100 => ?_) (fun c100 => ?_)
        · skip
          replace h := ite_p c100 h
          refine lv_iconst (v := 0) hx hb dL_build_155 (by decide) ?_
          refine W.widen (k := 2 + 75 * (16 - (n34 + 1)) + 1) (n := 21 + 6439 * (16 - (n34 + 1)) + 5) (by omega) (by omega) ?_
          exact blk156 G σ99 xb2 ub3 xb4 xb5 xb6 xbs0 0 1 (τ.1 3) (τ.1 3) xb4 ub3 hGe (pvGr_r hcσ99 hgr) (lt_c hcσ99 51 hf96) (lt_c hcσ99 52 hn97) (lt_c hcσ99 52 hn97) (lt_c hcσ99 51 hf96) h _ _ hw hS ls (lv_sub hl [1, 2, 3, 4, 5, 6, 7, 0] rfl)
        · skip
          replace h := ite_n c100 h
          refine lv_iconst (v := 1) hx hb dL_build_151 (by decide) ?_
          refine lv_goto (tgt := 156) hx hb dL_build_152 (by decide) ?_
          refine W.widen (k := 2 + 75 * (16 - (n34 + 1)) + 1) (n := 21 + 6439 * (16 - (n34 + 1)) + 5) (by omega) (by omega) ?_
          exact blk156 G σ99 xb2 ub3 xb4 xb5 xb6 xbs0 1 1 (τ.1 3) (τ.1 3) xb4 ub3 hGe (pvGr_r hcσ99 hgr) (lt_c hcσ99 51 hf96) (lt_c hcσ99 52 hn97) (lt_c hcσ99 52 hn97) (lt_c hcσ99 51 hf96) h _ _ hw hS ls (lv_sub hl [1, 2, 3, 4, 5, 6, 7, 0] rfl)
      have blk115 : ∀ (G : PvG) (τ : PvS) (xb2 : Int32) (ub3 : Nat) (xb4 : Int32) (xb5 : Int32) (xb6 : Int32), G = pvGa G0 G.2.2.1 → pvGr G0.2.2.1 G.2.2.1 σ τ → (ub3 < pvM τ 51) → f_L_build_115 (f_L_build_34 xs nn n34) xs nn τ xb2 ub3 xb4 xb5 xb6 = some (r, σ1) → ∀ (H : Heap) (locs : List Loc), pvW G τ H → va_S (pvB G) s.heap H locs → ∀ (ls : Array Slot), lv_has ls 9 [(0, .ref (G.2.2.1 9 0)), (1, .ref (G.2.2.2.1.1 4)), (2, .int xb2), (3, .ref (G.2.2.1 51 ub3)), (4, .int xb4), (5, .int xb5), (6, .int xb6)] → W p l e (headSpec (Cond.code yL_build cL_build 9 (some (.array (.array .int))) :: WA) ({ frames := 28, cells := 1277, slots := 109484, locals := 647 } : Room)).room s m ([.ref (G0.2.2.1 9 0), .ref (G0.2.2.2.1.1 4), .int x2] : List Value).toArray below meth c H locs (2 + 75 * (16 - (n34 + 1)) + 0) (21 + 6439 * (16 - (n34 + 1)) + 0) (MQ below (va_Qq (fun r' (u : (Nat → Nat → Nat) × PvS) => r' = some (u.1 51 r) ∧ u.2 = σ1 ∧ pvGr G0.2.2.1 u.1 σ u.2 ∧ r < pvM u.2 51) (pvUa G0 tys) (pvB G0)) ([.ref (G0.2.2.1 9 0), .ref (G0.2.2.2.1.1 4), .int x2] : List Value).toArray s 1277 109484 (pvB G0)) (F0 m 115 ls []) := by
        intro G τ xb2 ub3 xb4 xb5 xb6 hGe hgr hub3 h H locs hw hS ls hl
        have hA := pvGe_A hGe hA0
        have hK := pvGe_K hGe hK0
        have htys := pvGe_T hGe htys0
        have hroot := pv_root hw
        unfold f_L_build_115 at h
        refine lv_iload hx hb dL_build_115 (lv_at hl 5 rfl) ?_
        refine lv_iconst (v := 3) hx hb dL_build_117 (by decide) ?_
        refine lv_ishr hx hb dL_build_118 ?_
        refine lv_iconst (v := 4) hx hb dL_build_119 (by decide) ?_
        obtain ⟨r101, e102, h⟩ := ob1_e h
        refine pcalli (va_runS (As := [.int (xb5 >>> (3 &&& 31)), .int 4]) (rest := []) ⟨hx, hb, hml, hown, hts⟩ (c_L_below (l := l) (G := G) (tys := tys) (σ := τ) htys  e102) (va_cwS 2 hts (gSA wm219 wm220 wm216 wm221) rfl rfl rfl (by decide +kernel) ⟨(Nat.le_of_ble_eq_true rfl), (Nat.le_of_ble_eq_true rfl)⟩) (pv_preS hA hS hw hK [.int (xb5 >>> (3 &&& 31)), .int 4]) rfl rfl hl.1 rfl (lv_room (Nat.le_of_ble_eq_true rfl)) dL_build_120 ⟨(by show 2 + 75 * (16 - (n34 + 1)) + 0 + 0 ≤ 1277; omega), (by show 21 + 6439 * (16 - (n34 + 1)) + 0 + 0 ≤ 109484; omega)⟩) hS (fun r104 s105 H locs hp103 hw hS => ?_)
        obtain ⟨err101, esr101⟩ := hp103
        obtain rfl := esr101.symm
        obtain rfl := err101.symm
        refine W.widen (k := 2 + 75 * (16 - (n34 + 1)) + 0) (n := 21 + 6439 * (16 - (n34 + 1)) + 0) (by omega) (by omega) ?_
        refine lv_if_ne (tgt := 130) hx hb dL_build_123 (by decide) (fun c106 => ?_) (fun c106 => ?_)
        · skip
          replace h := ite_n c106 h
          refine lv_iconst (v := 0) hx hb dL_build_130 (by decide) ?_
          refine W.widen (k := 2 + 75 * (16 - (n34 + 1)) + 0) (n := 21 + 6439 * (16 - (n34 + 1)) + 0) (by omega) (by omega) ?_
          exact blk131 G τ xb2 ub3 xb4 xb5 xb6 0 hGe hgr hub3 h _ _ hw hS ls (lv_sub hl [0, 1, 2, 3, 4, 5, 6] rfl)
        · skip
          replace h := ite_p c106 h
          refine lv_iconst (v := 1) hx hb dL_build_126 (by decide) ?_
          refine lv_goto (tgt := 131) hx hb dL_build_127 (by decide) ?_
          refine W.widen (k := 2 + 75 * (16 - (n34 + 1)) + 0) (n := 21 + 6439 * (16 - (n34 + 1)) + 0) (by omega) (by omega) ?_
          exact blk131 G τ xb2 ub3 xb4 xb5 xb6 1 hGe hgr hub3 h _ _ hw hS ls (lv_sub hl [0, 1, 2, 3, 4, 5, 6] rfl)
      have blk112 : ∀ (G : PvG) (τ : PvS) (xb2 : Int32) (ub3 : Nat) (xb4 : Int32) (xb5 : Int32), G = pvGa G0 G.2.2.1 → pvGr G0.2.2.1 G.2.2.1 σ τ → (ub3 < pvM τ 51) → f_L_build_112 (f_L_build_34 xs nn n34) xs nn τ xb2 ub3 xb4 xb5 = some (r, σ1) → ∀ (H : Heap) (locs : List Loc), pvW G τ H → va_S (pvB G) s.heap H locs → ∀ (ls : Array Slot), lv_has ls 9 [(0, .ref (G.2.2.1 9 0)), (1, .ref (G.2.2.2.1.1 4)), (2, .int xb2), (3, .ref (G.2.2.1 51 ub3)), (4, .int xb4), (5, .int xb5)] → W p l e (headSpec (Cond.code yL_build cL_build 9 (some (.array (.array .int))) :: WA) ({ frames := 28, cells := 1277, slots := 109484, locals := 647 } : Room)).room s m ([.ref (G0.2.2.1 9 0), .ref (G0.2.2.2.1.1 4), .int x2] : List Value).toArray below meth c H locs (2 + 75 * (16 - (n34 + 1)) + 0) (21 + 6439 * (16 - (n34 + 1)) + 0) (MQ below (va_Qq (fun r' (u : (Nat → Nat → Nat) × PvS) => r' = some (u.1 51 r) ∧ u.2 = σ1 ∧ pvGr G0.2.2.1 u.1 σ u.2 ∧ r < pvM u.2 51) (pvUa G0 tys) (pvB G0)) ([.ref (G0.2.2.1 9 0), .ref (G0.2.2.2.1.1 4), .int x2] : List Value).toArray s 1277 109484 (pvB G0)) (F0 m 112 ls []) := by
        intro G τ xb2 ub3 xb4 xb5 hGe hgr hub3 h H locs hw hS ls hl
        have hA := pvGe_A hGe hA0
        have hK := pvGe_K hGe hK0
        have htys := pvGe_T hGe htys0
        have hroot := pv_root hw
        unfold f_L_build_112 at h
        refine lv_iconst (v := 0) hx hb dL_build_112 (by decide) ?_
        refine lv_istore (lv' := [(6, .int 0), (0, .ref (G.2.2.1 9 0)), (1, .ref (G.2.2.2.1.1 4)), (2, .int xb2), (3, .ref (G.2.2.1 51 ub3)), (4, .int xb4), (5, .int xb5)]) hx hb dL_build_113 hl (by decide) rfl (fun ls hl => ?_)
        refine W.widen (k := 2 + 75 * (16 - (n34 + 1)) + 0) (n := 21 + 6439 * (16 - (n34 + 1)) + 0) (by omega) (by omega) ?_
        exact blk115 G τ xb2 ub3 xb4 xb5 0 hGe hgr hub3 h _ _ hw hS ls (lv_sub hl [1, 2, 3, 4, 5, 6, 0] rfl)
      have loop76 : ∀ (n : Nat), ∀ (G : PvG) (τ : PvS) (xb2 : Int32) (ub3 : Nat) (xb4 : Int32) (xb5 : Int32) (xb6 : Int32) (xb7 : Int32) (xb8 : Int32), G = pvGa G0 G.2.2.1 → pvGr G0.2.2.1 G.2.2.1 σ τ → (ub3 < pvM τ 51) → f_L_build_76 (f_L_build_34 xs nn n34) xs nn n τ xb2 ub3 xb4 xb5 xb6 xb7 xb8 = some (r, σ1) → ∀ (H : Heap) (locs : List Loc), pvW G τ H → va_S (pvB G) s.heap H locs → ∀ (ls : Array Slot), lv_has ls 9 [(0, .ref (G.2.2.1 9 0)), (1, .ref (G.2.2.2.1.1 4)), (2, .int xb2), (3, .ref (G.2.2.1 51 ub3)), (4, .int xb4), (5, .int xb5), (6, .int xb6), (7, .int xb7), (8, .int xb8)] → W p l e (headSpec (Cond.code yL_build cL_build 9 (some (.array (.array .int))) :: WA) ({ frames := 28, cells := 1277, slots := 109484, locals := 647 } : Room)).room s m ([.ref (G0.2.2.1 9 0), .ref (G0.2.2.2.1.1 4), .int x2] : List Value).toArray below meth c H locs (2 + 75 * (16 - (n34 + 1)) + 0) (21 + 6439 * (16 - (n34 + 1)) + 0) (MQ below (va_Qq (fun r' (u : (Nat → Nat → Nat) × PvS) => r' = some (u.1 51 r) ∧ u.2 = σ1 ∧ pvGr G0.2.2.1 u.1 σ u.2 ∧ r < pvM u.2 51) (pvUa G0 tys) (pvB G0)) ([.ref (G0.2.2.1 9 0), .ref (G0.2.2.2.1.1 4), .int x2] : List Value).toArray s 1277 109484 (pvB G0)) (F0 m 76 ls []) := by
        intro n76
        induction n76 with
        | zero =>
          intro G τ xb2 ub3 xb4 xb5 xb6 xb7 xb8 hGe hgr hub3 h
          rw [f_L_build_76_z] at h
          cases h
        | succ n76 ih76 =>
          intro G τ xb2 ub3 xb4 xb5 xb6 xb7 xb8 hGe hgr hub3 h H locs hw hS ls hl
          have hA := pvGe_A hGe hA0
          have hK := pvGe_K hGe hK0
          have htys := pvGe_T hGe htys0
          have hroot := pv_root hw
          rw [f_L_build_76_s] at h
          refine lv_iload hx hb dL_build_76 (lv_at hl 8 rfl) ?_
          refine lv_if_le (tgt := 95) hx hb dL_build_78 (by decide) (fun c107 => ?_) (fun c107 => ?_)
          · skip
            replace h := ite_p c107 h
            refine lv_aload_n hx hb dL_build_95 rfl (lv_at hl 3 rfl) ?_
            refine lv_iload hx hb dL_build_96 (lv_at hl 6 rfl) ?_
            obtain ⟨g108, h⟩ := gd_e h
            obtain ⟨o109, eo109, h⟩ := nq_e h
            have ho109 := pv_cl hw eo109
            refine pgQM hx hb hK htys hw ub3 hub3 g108 o109 eo109 dL_build_98 ?_
            have ho109 : ∀ j, o109 = some j → j < pvM τ 52 := ho109
            rcases o109 with _ | jo109
            · cases (oc_n h)
            replace h := oc_s h
            have hjo109 := ho109 jo109 rfl
            refine lv_iconst (v := 1) hx hb dL_build_99 (by decide) ?_
            obtain ⟨g110, h⟩ := gd_e h
            refine pgA hx hb hK htys hw 52 jo109 hjo109 rfl (by decide) g110 dL_build_100 ?_
            refine lv_iconst (v := 1) hx hb dL_build_101 (by decide) ?_
            refine lv_icmp_eq (tgt := 112) hx hb dL_build_102 (by decide) (fun c111 => ?_) (fun c111 => ?_)
            · skip
              replace h := ite_p c111 h
              refine W.widen (k := 2 + 75 * (16 - (n34 + 1)) + 0) (n := 21 + 6439 * (16 - (n34 + 1)) + 0) (by omega) (by omega) ?_
              exact blk112 G τ xb2 ub3 xb4 xb5 hGe hgr hub3 h _ _ hw hS ls (lv_sub hl [0, 1, 2, 3, 4, 5] rfl)
            · skip
              replace h := ite_n c111 h
              refine lv_iload hx hb dL_build_105 (lv_at hl 7 rfl) ?_
              refine lv_bipush (v := 7) hx hb dL_build_107 (by decide) ?_
              refine lv_icmp_le (tgt := 115) hx hb dL_build_109 (by decide) (fun c112 => ?_) (fun c112 => ?_)
              · skip
                replace h := ite_p c112 h
                refine W.widen (k := 2 + 75 * (16 - (n34 + 1)) + 0) (n := 21 + 6439 * (16 - (n34 + 1)) + 0) (by omega) (by omega) ?_
                exact blk115 G τ xb2 ub3 xb4 xb5 xb6 hGe hgr hub3 h _ _ hw hS ls (lv_sub hl [0, 1, 2, 3, 4, 5, 6] rfl)
              · skip
                replace h := ite_n c112 h
                refine W.widen (k := 2 + 75 * (16 - (n34 + 1)) + 0) (n := 21 + 6439 * (16 - (n34 + 1)) + 0) (by omega) (by omega) ?_
                exact blk112 G τ xb2 ub3 xb4 xb5 hGe hgr hub3 h _ _ hw hS ls (lv_sub hl [0, 1, 2, 3, 4, 5] rfl)
          · skip
            replace h := ite_n c107 h
            refine lv_iinc (v := xb7 + 1) (lv' := [(7, .int (xb7 + 1)), (0, .ref (G.2.2.1 9 0)), (1, .ref (G.2.2.2.1.1 4)), (2, .int xb2), (3, .ref (G.2.2.1 51 ub3)), (4, .int xb4), (5, .int xb5), (6, .int xb6), (8, .int xb8)]) hx hb dL_build_81 hl (k := 7) rfl (by rfl) (by decide) rfl (fun ls hl => ?_)
            refine lv_aload_n hx hb dL_build_84 rfl (lv_at hl 4 rfl) ?_
            refine lv_iload hx hb dL_build_85 (lv_at hl 8 rfl) ?_
            obtain ⟨g113, h⟩ := gd_e h
            obtain ⟨o114, eo114, h⟩ := nq_e h
            have ho114 := pv_cl hw eo114
            refine pgQM hx hb hK htys hw ub3 hub3 g113 o114 eo114 dL_build_87 ?_
            have ho114 : ∀ j, o114 = some j → j < pvM τ 52 := ho114
            rcases o114 with _ | jo114
            · cases (oc_n h)
            replace h := oc_s h
            have hjo114 := ho114 jo114 rfl
            refine lv_iconst (v := 0) hx hb dL_build_88 (by decide) ?_
            obtain ⟨g115, h⟩ := gd_e h
            refine pgA hx hb hK htys hw 52 jo114 hjo114 rfl (by decide) g115 dL_build_89 ?_
            refine lv_istore (lv' := [(8, .int (τ.2.2.2.1 52 jo114 (0 : Int32).toNatClampNeg)), (7, .int (xb7 + 1)), (0, .ref (G.2.2.1 9 0)), (1, .ref (G.2.2.2.1.1 4)), (2, .int xb2), (3, .ref (G.2.2.1 51 ub3)), (4, .int xb4), (5, .int xb5), (6, .int xb6)]) hx hb dL_build_90 hl (by decide) rfl (fun ls hl => ?_)
            refine lv_goto (tgt := 76) hx hb dL_build_92 (by decide) ?_
            refine W.widen (k := 2 + 75 * (16 - (n34 + 1)) + 0) (n := 21 + 6439 * (16 - (n34 + 1)) + 0) (by omega) (by omega) ?_
            exact ih76 G τ xb2 ub3 xb4 xb5 xb6 (xb7 + 1) (τ.2.2.2.1 52 jo114 (0 : Int32).toNatClampNeg) hGe hgr hub3 h _ _ hw hS ls (lv_sub hl [2, 3, 4, 5, 6, 7, 8, 1, 0] rfl)
      intro G τ xb2 ub3 xb4 hGe hgr hub3 h H locs hw hS ls hl
      have hA := pvGe_A hGe hA0
      have hK := pvGe_K hGe hK0
      have htys := pvGe_T hGe htys0
      have hroot := pv_root hw
      rw [f_L_build_34_s] at h
      refine lv_iload hx hb dL_build_34 (lv_at hl 4 rfl) ?_
      refine lv_iload_n hx hb dL_build_36 rfl (lv_at hl 2 rfl) ?_
      refine lv_icmp_ge (tgt := 302) hx hb dL_build_37 (by decide) (fun c116 => ?_) (fun c116 => ?_)
      · skip
        replace h := ite_p c116 h
        refine lv_aload_n hx hb dL_build_302 rfl (lv_at hl 3 rfl) ?_
        refine W.widen (k := 1277) (n := 109484) (by omega) (by omega) ?_
        obtain ⟨e1, e2⟩ := Prod.mk.inj (Option.some.inj h)
        exact peaq (G := G0) (ad := G.2.2.1) (r := some (G.2.2.1 51 ub3)) hx hb hr (Or.inr ⟨_, rfl⟩) hlocks hA0 (pvGe_W hGe hw) hK0 (pvGe_S' hGe hS) ⟨by rw [← e1], e2, hgr, by rw [← e1]; exact hub3⟩ dL_build_303
      · skip
        replace h := ite_n c116 h
        refine lv_aload_n hx hb dL_build_40 rfl (lv_at hl 1 rfl) ?_
        refine lv_iload hx hb dL_build_41 (lv_at hl 4 rfl) ?_
        refine lv_bipush (v := 13) hx hb dL_build_43 (by decide) ?_
        refine lv_irem hx hb dL_build_45 (by decide) ?_
        obtain ⟨g117, h⟩ := gd_e h
        obtain ⟨r118, e121, h⟩ := nq_e h
        refine pcalli (va_runS (As := [.ref (G.2.2.2.1.1 4), .int (xb4 - xb4 / 13 * 13)]) (rest := []) ⟨hx, hb, hml, hown, hts⟩ (c_L_cell (l := l) (G := G) (tys := tys) htys (σ := τ) (k := xb4 - xb4 / 13 * 13) g117 (by rw [pvGe_sc hGe]; exact hlt0)) (va_cwS 2 hts (gSA wm214 wm215 wm216 wm217) rfl rfl rfl (by decide +kernel) ⟨(Nat.le_of_ble_eq_true rfl), (Nat.le_of_ble_eq_true rfl)⟩) (pv_preS hA hS hw hK [.ref (G.2.2.2.1.1 4), .int (xb4 - xb4 / 13 * 13)]) rfl rfl hl.1 rfl (lv_room (Nat.le_of_ble_eq_true rfl)) dL_build_46 ⟨(by show 2 + 75 * (16 - (n34 + 1)) + 0 + 0 ≤ 1277; omega), (by show 21 + 6439 * (16 - (n34 + 1)) + 0 + 0 ≤ 109484; omega)⟩) hS (fun r119 s120 H locs hp hw hS => ?_)
        obtain ⟨e122, e123⟩ := hp
        obtain rfl := e123.symm
        rw [pvGe_sc hGe, ← hxs0, ← hnn0] at e122
        obtain rfl : r118 = r119 := e121.trans e122.symm
        refine W.widen (k := 2 + 75 * (16 - (n34 + 1)) + 0) (n := 21 + 6439 * (16 - (n34 + 1)) + 0) (by omega) (by omega) ?_
        refine lv_iload hx hb dL_build_49 (lv_at hl 4 rfl) ?_
        refine lv_bipush (v := 13) hx hb dL_build_51 (by decide) ?_
        refine lv_idiv hx hb dL_build_53 (by decide) ?_
        refine lv_bipush (v := 7) hx hb dL_build_54 (by decide) ?_
        refine lv_imul hx hb dL_build_56 ?_
        refine lv_ishr hx hb dL_build_57 ?_
        refine lv_istore (lv' := [(5, .int (r118 >>> (((xb4 / 13) * 7) &&& 31))), (0, .ref (G.2.2.1 9 0)), (1, .ref (G.2.2.2.1.1 4)), (2, .int xb2), (3, .ref (G.2.2.1 51 ub3)), (4, .int xb4)]) hx hb dL_build_58 hl (by decide) rfl (fun ls hl => ?_)
        refine lv_iload hx hb dL_build_60 (lv_at hl 0 rfl) ?_
        refine lv_iload hx hb dL_build_62 (lv_at hl 5 rfl) ?_
        obtain ⟨r124, e125, h⟩ := ob1_e h
        refine pcalli (va_runS (As := [.int (r118 >>> (((xb4 / 13) * 7) &&& 31)), .int xb4]) (rest := []) ⟨hx, hb, hml, hown, hts⟩ (c_L_below (l := l) (G := G) (tys := tys) (σ := τ) htys  e125) (va_cwS 2 hts (gSA wm219 wm220 wm216 wm221) rfl rfl rfl (by decide +kernel) ⟨(Nat.le_of_ble_eq_true rfl), (Nat.le_of_ble_eq_true rfl)⟩) (pv_preS hA hS hw hK [.int (r118 >>> (((xb4 / 13) * 7) &&& 31)), .int xb4]) rfl rfl hl.1 rfl (lv_room (Nat.le_of_ble_eq_true rfl)) dL_build_64 ⟨(by show 2 + 75 * (16 - (n34 + 1)) + 0 + 0 ≤ 1277; omega), (by show 21 + 6439 * (16 - (n34 + 1)) + 0 + 0 ≤ 109484; omega)⟩) hS (fun r127 s128 H locs hp126 hw hS => ?_)
        obtain ⟨err124, esr124⟩ := hp126
        obtain rfl := esr124.symm
        obtain rfl := err124.symm
        refine W.widen (k := 2 + 75 * (16 - (n34 + 1)) + 0) (n := 21 + 6439 * (16 - (n34 + 1)) + 0) (by omega) (by omega) ?_
        refine lv_istore (lv' := [(6, .int r124), (5, .int (r118 >>> (((xb4 / 13) * 7) &&& 31))), (0, .ref (G.2.2.1 9 0)), (1, .ref (G.2.2.2.1.1 4)), (2, .int xb2), (3, .ref (G.2.2.1 51 ub3)), (4, .int xb4)]) hx hb dL_build_67 hl (by decide) rfl (fun ls hl => ?_)
        refine lv_iconst (v := 0) hx hb dL_build_69 (by decide) ?_
        refine lv_istore (lv' := [(7, .int 0), (6, .int r124), (5, .int (r118 >>> (((xb4 / 13) * 7) &&& 31))), (0, .ref (G.2.2.1 9 0)), (1, .ref (G.2.2.2.1.1 4)), (2, .int xb2), (3, .ref (G.2.2.1 51 ub3)), (4, .int xb4)]) hx hb dL_build_70 hl (by decide) rfl (fun ls hl => ?_)
        refine lv_iload hx hb dL_build_72 (lv_at hl 1 rfl) ?_
        refine lv_istore (lv' := [(8, .int r124), (7, .int 0), (6, .int r124), (5, .int (r118 >>> (((xb4 / 13) * 7) &&& 31))), (0, .ref (G.2.2.1 9 0)), (1, .ref (G.2.2.2.1.1 4)), (2, .int xb2), (3, .ref (G.2.2.1 51 ub3)), (4, .int xb4)]) hx hb dL_build_74 hl (by decide) rfl (fun ls hl => ?_)
        refine W.widen (k := 2 + 75 * (16 - (n34 + 1)) + 0) (n := 21 + 6439 * (16 - (n34 + 1)) + 0) (by omega) (by omega) ?_
        exact loop76 fu G τ xb2 ub3 xb4 (r118 >>> (((xb4 / 13) * 7) &&& 31)) r124 0 r124 hGe hgr hub3 h _ _ hw hS ls (lv_sub hl [4, 5, 6, 7, 8, 3, 2, 1, 0] rfl)
  obtain ⟨G, eG⟩ : ∃ G2 : PvG, G2 = G0 := ⟨G0, rfl⟩
  have hGe : G = pvGa G0 G.2.2.1 := by subst eG; rfl
  have hgr : pvGr G0.2.2.1 G.2.2.1 σ σ := by subst eG; exact pvGr_refl
  rw [← eG] at hw hS hl
  have hA := pvGe_A hGe hA0
  have hK := pvGe_K hGe hK0
  have htys := pvGe_T hGe htys0
  have hroot := pv_root hw
  refine lv_iload_n hx hb dL_build_0 rfl (lv_at hl 2 rfl) ?_
  obtain ⟨g132, h⟩ := gd_e h
  obtain ⟨g133, h⟩ := gd_e h
  obtain ⟨σ129, eσ129, h⟩ := nq_e h
  refine pnewM hx hb hown (hts _ wm226) hN.2 hA hK htys hw hS g132 (by omega) (by show 0 + 1 ≤ 1277; omega) (by show 0 + x2.toNatClampNeg ≤ 109484; omega) dL_build_1 (fun ad130 H hg131 hw hS => ?_)
  rw [← eσ129] at hw hg131
  refine W.widen (k := 1) (n := 16) (by omega) (by omega) ?_
  have ea134 : ad130 9 0 = G.2.2.1 9 0 := hg131.1.1 9 0 Nat.one_pos
  have hl : lv_has ls 9 [(0, .ref (ad130 9 0)), (1, .ref (G.2.2.2.1.1 4)), (2, .int x2)] := by rw [ea134]; exact hl
  refine W.eq (g2 := F0 m 4 ls [.ref (ad130 51 (σ.1 2))]) (congrArg (F0 m 4 ls) (by first | rfl | rfl | (rfl; rfl))) ?_
  have hgr := pvGr_trans hgr hg131
  obtain ⟨G, hGn⟩ : ∃ G2 : PvG, G2 = pvGa G ad130 := ⟨_, rfl⟩
  rw [← hGn] at hw
  have hgr : pvGr G0.2.2.1 G.2.2.1 σ σ129 := by rw [hGn]; exact hgr
  have hGe := pvGe_next hGe hGn
  have hA : pvA0 G s s.heap := by rw [hGn]; exact hA
  have hK : va_K G.2.1 pvC tys s := by rw [hGn]; exact hK
  have htys : tys = pvT G := by rw [hGn]; exact htys
  have hS := pvGn_S hGn hS
  have hl : lv_has ls 9 [(0, .ref (G.2.2.1 9 0)), (1, .ref (G.2.2.2.1.1 4)), (2, .int x2)] := by rw [hGn]; exact hl
  refine W.eq (g2 := F0 m 4 ls [.ref (G.2.2.1 51 (σ.1 2))]) (by first | rfl | rw [hGn]) ?_
  have hroot := pv_root hw
  have hn135 : σ.1 2 < pvM σ129 51 := by rw [eσ129]; exact Nat.lt_succ_self _
  refine lv_astore_n (lv' := [(3, .ref (G.2.2.1 51 (σ.1 2))), (0, .ref (G.2.2.1 9 0)), (1, .ref (G.2.2.2.1.1 4)), (2, .int x2)]) hx hb dL_build_4 rfl hl (by decide) rfl (fun ls hl => ?_)
  refine lv_aload_n hx hb dL_build_5 rfl (lv_at hl 0 rfl) ?_
  refine lv_iconst (v := 0) hx hb dL_build_6 (by decide) ?_
  refine lv_iconst (v := 5) hx hb dL_build_7 (by decide) ?_
  obtain ⟨σ136, eσ136, h⟩ := nq_e h
  refine pnewA hx hb (hts _ wm3) hA hK htys hw hS (t := 52) (N := 5) (by decide) (by decide) (by decide) (by show 1 + 1 ≤ 1277; omega) (by show 16 + 5 ≤ 109484; omega) dL_build_8 (fun ad137 H hg138 hw hS => ?_)
  rw [← eσ136] at hw hg138
  refine W.widen (k := 2) (n := 21) (by omega) (by omega) ?_
  have ea139 : ad137 51 (σ.1 2) = G.2.2.1 51 (σ.1 2) := hg138.1.1 51 (σ.1 2) hn135
  have ea140 : ad137 9 0 = G.2.2.1 9 0 := hg138.1.1 9 0 Nat.one_pos
  have hl : lv_has ls 9 [(3, .ref (ad137 51 (σ.1 2))), (0, .ref (ad137 9 0)), (1, .ref (G.2.2.2.1.1 4)), (2, .int x2)] := by rw [ea139, ea140]; exact hl
  refine W.eq (g2 := F0 m 10 ls [.ref (ad137 52 (σ129.1 3)), .int 0, .ref (ad137 51 (σ.1 2))]) (congrArg (F0 m 10 ls) (by first | rfl | rw [ea139] | (rw [ea139]; rfl))) ?_
  have hf141 : σ.1 2 < pvM σ136 51 := hg138.2.1 51 (σ.1 2) hn135
  have hgr := pvGr_trans hgr hg138
  obtain ⟨G, hGn⟩ : ∃ G2 : PvG, G2 = pvGa G ad137 := ⟨_, rfl⟩
  rw [← hGn] at hw
  have hgr : pvGr G0.2.2.1 G.2.2.1 σ σ136 := by rw [hGn]; exact hgr
  have hGe := pvGe_next hGe hGn
  have hA : pvA0 G s s.heap := by rw [hGn]; exact hA
  have hK : va_K G.2.1 pvC tys s := by rw [hGn]; exact hK
  have htys : tys = pvT G := by rw [hGn]; exact htys
  have hS := pvGn_S hGn hS
  have hl : lv_has ls 9 [(3, .ref (G.2.2.1 51 (σ.1 2))), (0, .ref (G.2.2.1 9 0)), (1, .ref (G.2.2.2.1.1 4)), (2, .int x2)] := by rw [hGn]; exact hl
  refine W.eq (g2 := F0 m 10 ls [.ref (G.2.2.1 52 (σ129.1 3)), .int 0, .ref (G.2.2.1 51 (σ.1 2))]) (by first | rfl | rw [hGn]) ?_
  have hroot := pv_root hw
  have hn142 : σ129.1 3 < pvM σ136 52 := by rw [eσ136]; exact Nat.lt_succ_self _
  refine lv_dup hx hb dL_build_10 rfl ?_
  refine lv_iconst (v := 0) hx hb dL_build_11 (by decide) ?_
  refine lv_iconst (v := (-1)) hx hb dL_build_12 (by decide) ?_
  obtain ⟨g143, h⟩ := gd_e h
  obtain ⟨σ144, eσ144, h⟩ := nq_e h
  refine ppA hx hb hK htys hw hS 52 (σ129.1 3) hn142 rfl (by decide) g143 dL_build_13 (fun H locs hw hS => ?_)
  rw [← eσ144] at hw
  have hcσ144 : σ144.1 = σ136.1 := by rw [eσ144]; exact rfl
  refine lv_dup hx hb dL_build_14 rfl ?_
  refine lv_iconst (v := 1) hx hb dL_build_15 (by decide) ?_
  refine lv_iconst (v := 0) hx hb dL_build_16 (by decide) ?_
  obtain ⟨g145, h⟩ := gd_e h
  obtain ⟨σ146, eσ146, h⟩ := nq_e h
  refine ppA hx hb hK htys hw hS 52 (σ129.1 3) (lt_c hcσ144 52 hn142) rfl (by decide) g145 dL_build_17 (fun H locs hw hS => ?_)
  rw [← eσ146] at hw
  have hcσ146 : σ146.1 = σ136.1 := by rw [eσ146]; exact hcσ144
  refine lv_dup hx hb dL_build_18 rfl ?_
  refine lv_iconst (v := 2) hx hb dL_build_19 (by decide) ?_
  refine lv_iconst (v := 0) hx hb dL_build_20 (by decide) ?_
  obtain ⟨g147, h⟩ := gd_e h
  obtain ⟨σ148, eσ148, h⟩ := nq_e h
  refine ppA hx hb hK htys hw hS 52 (σ129.1 3) (lt_c hcσ146 52 hn142) rfl (by decide) g147 dL_build_21 (fun H locs hw hS => ?_)
  rw [← eσ148] at hw
  have hcσ148 : σ148.1 = σ136.1 := by rw [eσ148]; exact hcσ146
  refine lv_dup hx hb dL_build_22 rfl ?_
  refine lv_iconst (v := 3) hx hb dL_build_23 (by decide) ?_
  refine lv_iconst (v := 0) hx hb dL_build_24 (by decide) ?_
  obtain ⟨g149, h⟩ := gd_e h
  obtain ⟨σ150, eσ150, h⟩ := nq_e h
  refine ppA hx hb hK htys hw hS 52 (σ129.1 3) (lt_c hcσ148 52 hn142) rfl (by decide) g149 dL_build_25 (fun H locs hw hS => ?_)
  rw [← eσ150] at hw
  have hcσ150 : σ150.1 = σ136.1 := by rw [eσ150]; exact hcσ148
  refine lv_dup hx hb dL_build_26 rfl ?_
  refine lv_iconst (v := 4) hx hb dL_build_27 (by decide) ?_
  refine lv_iconst (v := 0) hx hb dL_build_28 (by decide) ?_
  obtain ⟨g151, h⟩ := gd_e h
  obtain ⟨σ152, eσ152, h⟩ := nq_e h
  refine ppA hx hb hK htys hw hS 52 (σ129.1 3) (lt_c hcσ150 52 hn142) rfl (by decide) g151 dL_build_29 (fun H locs hw hS => ?_)
  rw [← eσ152] at hw
  have hcσ152 : σ152.1 = σ136.1 := by rw [eσ152]; exact hcσ150
  obtain ⟨g153, h⟩ := gd_e h
  obtain ⟨σ154, eσ154, h⟩ := nq_e h
  refine ppQM hx hb hN.2 hK htys hw hS (σ.1 2) (lt_c hcσ152 51 hf141) (σ129.1 3) (lt_c hcσ152 52 hn142) g153 dL_build_30 (fun H locs hw hS => ?_)
  rw [← eσ154] at hw
  have hcσ154 : σ154.1 = σ136.1 := by rw [eσ154]; exact hcσ152
  refine lv_iconst (v := 1) hx hb dL_build_31 (by decide) ?_
  refine lv_istore (lv' := [(4, .int 1), (3, .ref (G.2.2.1 51 (σ.1 2))), (0, .ref (G.2.2.1 9 0)), (1, .ref (G.2.2.2.1.1 4)), (2, .int x2)]) hx hb dL_build_32 hl (by decide) rfl (fun ls hl => ?_)
  refine W.widen (k := 2 + 75 * (16 - 16) + 0) (n := 21 + 6439 * (16 - 16) + 0) (by omega) (by omega) ?_
  exact loop34 16 (Nat.le_refl 16) G σ154 x2 (σ.1 2) 1 hGe (pvGr_r hcσ154 hgr) (lt_c hcσ154 51 hf141) h _ _ hw hS ls (lv_sub hl [2, 3, 4, 1, 0] rfl)
