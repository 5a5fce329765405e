set_option maxHeartbeats 4000000 in
set_option maxRecDepth 100000 in
theorem c_ysize {l : Launch} {G : PvG} {tys : List (ClassId × FieldType)} (htys : tys = pvT G) {X : va_W} {k a b : Nat} {mm z : Int32} (hX : X[k]? = some (yO a 0 [.int mm, .ref b, .int z])) : Met l yJx4a65c_size_8abf5 (Cond.code yJx4a65c_size_8abf5 cJx4a65c_size_8abf5 1 (some .int) :: WA) ({ frames := 0, cells := 0, slots := 0, locals := 0 }) (va_Pc [.ref a] (pvY G tys X)) (va_Qi (fun r (X1 : va_W) => r = z ∧ X1 = X) (pvY G tys) (pvB G)) 0 0 (pvB G) := by
  refine Met.ofW (cc := cJx4a65c_size_8abf5) (maxL := 1) (ret := (some .int)) (by decide) rfl ?_
  intro p e s m args below meth c s₁ B hml hv
  obtain ⟨rfl, hw, hK, hA⟩ := hv
  have hx := B.exec
  have hb := B.bytes
  have hr := B.returns
  have hts0 := atoms_spec (ws := (Cond.code yJx4a65c_size_8abf5 cJx4a65c_size_8abf5 1 (some .int) :: WA)) B.pre
  have hts : ∀ w ∈ WA, w.before _ s = true := fun w h => hts0 w (List.mem_cons_of_mem _ h)
  have hown : s.vm.findClass RJx4a65c = some m.cls := findClass_of_methodNamed B.named
  have hlocks := B.notSynchronized
  have hS : va_S (pvB G) s.heap s.heap [] := va_S.rf
  have hl := lv_entry ([.ref a]) (n := 1) (Nat.le_of_ble_eq_true rfl)
  rw [lg_entry_eq]
  generalize (lg_sl ([.ref a]) ++ List.replicate (1 - (lg_sl ([.ref a])).length) Slot.unset).toArray = ls at hl ⊢
  have hl : lv_has ls 1 [(0, .ref a)] := hl
  refine lv_aload_n hx hb dJx4a65c_size_8abf5_0 rfl (lv_at hl 0 rfl) ?_
  refine va_get (D := G.2.1) (ci := 0) (C := RJx4a65c) (T := TJx4a65c) (N := 3) hx hb hts inF_Jx4a65c hown hK hw.1 k hX rfl 2 (by decide) (hts _ wm122) (fun _ h9 => h9) rfl dJx4a65c_size_8abf5_1 ?_
  exact W.iret hx hb hr (fun t ht hW => ⟨⟨z, X, rfl, ⟨rfl, rfl⟩, by rw [ht]; exact hw, va_K.moved hW.alike hK, hA.to hS hW ht⟩, hS.F ht⟩) hS.2.2 dJx4a65c_size_8abf5_4
def f_X7_append (σ : PvS) (u1 : Nat) (x2 x3 : Int32) : Option (Int32 × PvS) :=
  gd (is01 x2) (gd ((σ.2.2.2.2 0).length < 64) (nm (pvNode σ (nI (σ.2.2.2.2 0).length) x2 x3) (fun σ1 => nm (pvL σ1 0 (σ1.2.2.2.2 0 ++ [σ.1 0])) (fun σ2 => nm (pvR σ2 3 8 (σ.1 0) (some u1)) (fun σ3 => gd ((σ3.2.2.2.2 (u1 + 3)).length < 64) (nm (pvL σ3 (u1 + 3) (σ3.2.2.2.2 (u1 + 3) ++ [σ.1 0])) (fun σ4 => ob1 (f_X7_listAnew σ4) (fun σ5 => some (σ5.2.1 3 0 (σ.1 0), σ5)))))))))
/-- the answer of a method that makes objects: with it come the addresses -/
abbrev pvUa (G : PvG) (tys : List (ClassId × FieldType)) (u : (Nat → Nat → Nat) × PvS) (U : State) : Prop := pvU (pvGa G u.1) tys u.2 U
theorem pvAg_trans {ad ad1 ad2 : Nat → Nat → Nat} {σ σ1 : PvS} (h : pvAg ad ad1 σ) (h1 : pvAg ad1 ad2 σ1) (hm : ∀ κ i, i < pvM σ κ → i < pvM σ1 κ) (h0 : σ.1 0 ≤ σ1.1 0) : pvAg ad ad2 σ :=
  ⟨fun κ i hi => (h1.1 κ i (hm κ i hi)).trans (h.1 κ i hi), fun j hj => (h1.2 j (by omega)).trans (h.2 j hj)⟩
section GRW
variable {p : Program} {l : Launch} {e : Env} {R : Room} {s : State} {m : MethodId} {args : Array Value} {below : List Frame} {meth : Method} {c : Code} {H : Heap} {locs : List Loc} {cells slots : Nat} {Q : State → Prop}
variable {cc : ByteArray} {pc : Nat} {ls : Array Slot} {rest st0 : List Value} {a : Array Value} {tys : List (ClassId × FieldType)} {H0 : Heap} {G : PvG} {σ : PvS} {mc ms : Nat}
theorem pcallai {post : Int32 → ((Nat → Nat → Nat) × PvS) → Prop} (hr : va_Run p l e R s m args below meth c H locs cells slots mc ms (F0 m pc ls st0) rest (va_Qi post (pvUa G tys) (pvB G) a) (pvB G)) (hS : va_S (pvB G) H0 H locs)
    (kk : ∀ (r : Int32) (ad : Nat → Nat → Nat) (σ' : PvS) (H1 : Heap) (locs1 : List Loc), post r (ad, σ') → pvW (pvGa G ad) σ' H1 → va_S (pvB G) H0 H1 locs1 → W p l e R s m args below meth c H1 locs1 (cells + mc) (slots + ms) Q (F0 m (pc + 3) ls (.int r :: rest))) : W p l e R s m args below meth c H locs cells slots Q (F0 m pc ls st0) :=
  va_calli hr hS (fun _ _ h => h) (fun _ h => h) (fun r u t H1 locs1 ht _ hp hb _ _ hS1 => kk r u.1 u.2 H1 locs1 hp (by rw [← ht]; exact hb.1) hS1)
theorem peai {post : Int32 → ((Nat → Nat → Nat) × PvS) → Prop} {r : Int32} {ad : Nat → Nat → Nat} (hx : p.tables.exec = Jvm.exec) (hb : c.code = cc) (hr : meth.sig.returnType = some .int) (hlocks : meth.locks = false) (hA : pvA0 G s s.heap) (hw : pvW (pvGa G ad) σ H) (hK : va_K G.2.1 pvC tys s) (hS : va_S (pvB G) s.heap H locs) (hp : post r (ad, σ)) (hdg : decode cc pc = .ok (.ireturn, 1)) : W p l e R s m args below meth c H locs cells slots (MQ below (va_Qi post (pvUa G tys) (pvB G)) args s cells slots (pvB G)) (F0 m pc ls [.int r]) :=
  W.iret hx hb hr (fun t ht hW => ⟨⟨r, (ad, σ), rfl, hp, by rw [ht]; exact hw, va_K.moved hW.alike hK, hA.to hS hW ht⟩, hS.F ht⟩) hS.2.2 hdg hlocks
end GRW
def pvGr (ad ad' : Nat → Nat → Nat) (σ σ' : PvS) : Prop := pvAg ad ad' σ ∧ (∀ κ i, i < pvM σ κ → i < pvM σ' κ) ∧ σ.1 0 ≤ σ'.1 0
theorem pvGr_c {ad ad' : Nat → Nat → Nat} {σ τ σ' : PvS} (h : τ.1 = σ.1) (g : pvGr ad ad' τ σ') : pvGr ad ad' σ σ' :=
  ⟨⟨fun κ i q => g.1.1 κ i (by rw [pvM_c h]; exact q), fun j q => g.1.2 j (by rw [h]; exact q)⟩, fun κ i q => g.2.1 κ i (by rw [pvM_c h]; exact q), by rw [← h]; exact g.2.2⟩
theorem pvM_nodeLe {σ : PvS} {x t g : Int32} (κ : Nat) : pvM σ κ ≤ pvM (pvNode σ x t g) κ := by
  rw [pvM_node (σ := σ) (σ' := pvNode σ x t g) rfl]
  split
  · rename_i h; rw [pvM_n0 h]; omega
  · exact Nat.le_refl _
set_option maxHeartbeats 4000000 in
set_option maxRecDepth 100000 in
theorem c_X7_append {l : Launch} {G : PvG} {tys : List (ClassId × FieldType)} (htys : tys = pvT G) {σ : PvS} {u1 : Nat} {x2 x3 : Int32} (hu1 : u1 < pvM σ 3) {r : Int32} {σ1 : PvS} (h : f_X7_append σ u1 x2 x3 = some (r, σ1)) : Met l yX7_append (Cond.code yX7_append cX7_append 5 (some .int) :: WA) ({ frames := 26, cells := 74, slots := 6434, locals := 600 }) (va_Pc [.ref (G.2.2.1 7 0), .ref (G.2.2.1 3 u1), .int x2, .int x3] (pvU G tys σ)) (va_Qi (fun r' (u : (Nat → Nat → Nat) × PvS) => r' = r ∧ u.2 = σ1 ∧ pvGr G.2.2.1 u.1 σ u.2) (pvUa G tys) (pvB G)) 74 6434 (pvB G) := by
  refine Met.ofW (cc := cX7_append) (maxL := 5) (ret := (some .int)) (by decide) rfl ?_
  intro p e s m args below meth c s₁ B hml hv
  obtain ⟨rfl, hw, hK, hA⟩ := hv
  have hx := B.exec
  have hb := B.bytes
  have hr := B.returns
  have hts0 := atoms_spec (ws := (Cond.code yX7_append cX7_append 5 (some .int) :: WA)) B.pre
  have hts : ∀ w ∈ WA, w.before _ s = true := fun w h => hts0 w (List.mem_cons_of_mem _ h)
  have hown : s.vm.findClass RX7 = some m.cls := findClass_of_methodNamed B.named
  have hlocks := B.notSynchronized
  have hS : va_S (pvB G) s.heap s.heap [] := va_S.rf
  have hl := lv_entry ([.ref (G.2.2.1 7 0), .ref (G.2.2.1 3 u1), .int x2, .int x3]) (n := 5) (Nat.le_of_ble_eq_true rfl)
  rw [lg_entry_eq]
  generalize (lg_sl ([.ref (G.2.2.1 7 0), .ref (G.2.2.1 3 u1), .int x2, .int x3]) ++ List.replicate (5 - (lg_sl ([.ref (G.2.2.1 7 0), .ref (G.2.2.1 3 u1), .int x2, .int x3])).length) Slot.unset).toArray = ls at hl ⊢
  have hl : lv_has ls 5 [(0, .ref (G.2.2.1 7 0)), (1, .ref (G.2.2.1 3 u1)), (2, .int x2), (3, .int x3)] := hl
  unfold f_X7_append at h
  obtain ⟨hz2, h⟩ := gd_e h
  obtain ⟨hlen, h⟩ := gd_e h
  obtain ⟨σ2, eσ2, h⟩ := nq_e h
  obtain ⟨σ3, eσ3, h⟩ := nq_e h
  obtain ⟨σ4, eσ4, h⟩ := nq_e h
  obtain ⟨hlen2, h⟩ := gd_e h
  obtain ⟨σ5, eσ5, h⟩ := nq_e h
  obtain ⟨σ6, e6, h⟩ := ob1_e h
  cases h
  obtain ⟨L, f, hO, hL, hP, hD, hz, hC⟩ := hw
  have hL2 := hL
  obtain ⟨ba, hL2⟩ := hL2
  obtain ⟨⟨a1, -⟩, ⟨mc, b0⟩, -⟩ := hL2 0 (by omega)
  obtain ⟨i0, hi0⟩ := va_pl_get (X := []) (f := f) a1
  have hi0 : (va_pl L f)[i0]? = some (yO (G.2.2.1 10 0) 0 [.int mc, .ref (ba 0), .int (nI (σ.2.2.2.2 0).length)]) := by rw [b0] at hi0; exact hi0
  obtain ⟨ta, te⟩ := hO.1 7 0 Nat.one_pos
  obtain ⟨i7, hi7⟩ := va_pl_get (X := []) (f := f) ta
  have hi7 : (va_pl L f)[i7]? = some (yO (G.2.2.1 7 0) 8 [.ref (G.2.2.1 10 0), .ref (G.2.2.1 10 1), .ref (G.2.2.1 3 0)]) := by
    rw [te] at hi7; exact hi7
  have hw : yP G (va_pl L f) s.heap := ⟨hP, hD⟩
  -- behind the constructor: the node goes into the pool, into the lists
  have fin : ∀ (q q1 q2 q3 q4 q5 q6 q7 : Nat) (H : Heap) (locs : List Loc), yP G (va_pl L f ++ [yO q 4 [.int (nI (σ.2.2.2.2 0).length), .int x2, .int x3, .ref q1, .ref q3, .ref q4, .ref q5, .ref q2, .null, .int 0, .int 0, .int 0, .int 0, .int 0], yO q1 0 [.int 0, .ref (G.2.2.2.1.1 0), .int 0], yO q2 2 [.int 0, .int 0, .int 0, .int 0, .int 0], yA q3 (G.1 0) (if x2 = 0 then 0 else 20) (fun _ => 0), yA q4 (G.1 0) (if x2 = 0 then 14 else 0) (if x2 = 0 then dcl 14 else (fun _ => 0)), yO q5 3 [.int 0, .null, .int 0, .int 0, .int 0, .int 0, .int 0, .int 0, .int 0, .int 0, .int 0, .int 0, .int 0, .int 0, .ref q6, .ref q7], yA q6 (G.1 0) (if x2 = 0 then 0 else 20) (fun _ => 0), yA q7 (G.1 0) (if x2 = 0 then 0 else 20) (fun _ => 0)]) H → va_S (pvB G) s.heap H locs → W p l e (headSpec (Cond.code yX7_append cX7_append 5 (some .int) :: WA) ({ frames := 26, cells := 74, slots := 6434, locals := 600 } : Room)).room s m ([.ref (G.2.2.1 7 0), .ref (G.2.2.1 3 u1), .int x2, .int x3] : List Value).toArray below meth c H locs 8 98 (MQ below (va_Qi (fun r' (u : (Nat → Nat → Nat) × PvS) => r' = σ1.2.1 3 0 (σ.1 0) ∧ u.2 = σ1 ∧ pvGr G.2.2.1 u.1 σ u.2) (pvUa G tys) (pvB G)) ([.ref (G.2.2.1 7 0), .ref (G.2.2.1 3 u1), .int x2, .int x3] : List Value).toArray s 74 6434 (pvB G)) (F0 m 16 ls [.ref q]) := by
    intro q q1 q2 q3 q4 q5 q6 q7 H locs hw hS
    have hw := pv_addNode hO hL hz hC hw
    have ha : pvAg G.2.2.1 (adNode G.2.2.1 (σ.1 0) q q1 q2 q3 q4 q5 q6 q7) σ := adNode_ag
    have hq : adNode G.2.2.1 (σ.1 0) q q1 q2 q3 q4 q5 q6 q7 3 (σ.1 0) = q := by simp [adNode]
    generalize adNode G.2.2.1 (σ.1 0) q q1 q2 q3 q4 q5 q6 q7 = ad at hw ha hq
    have hA : pvA0 (pvGa G ad) s s.heap := hA
    have hS : va_S (pvB (pvGa G ad)) s.heap H locs := hS
    have htys : tys = pvT (pvGa G ad) := htys
    rw [← eσ2] at hw
    have c2 : σ2.1 0 = σ.1 0 + 1 := by rw [eσ2]; rfl
    have c3 : σ3.1 = σ2.1 := by rw [eσ3]; rfl
    have c4 : σ4.1 = σ2.1 := by rw [eσ4]; exact c3
    have c5 : σ5.1 = σ2.1 := by rw [eσ5]; exact c4
    have hu2 : u1 < pvM σ2 3 := by show u1 < σ2.1 0; rw [c2]; exact Nat.lt_succ_of_lt hu1
    have hv2 : σ.1 0 < pvM σ2 3 := by show σ.1 0 < σ2.1 0; omega
    have hl : lv_has ls 5 [(0, .ref ((pvGa G ad).2.2.1 7 0)), (1, .ref ((pvGa G ad).2.2.1 3 u1)), (2, .int x2), (3, .int x3)] := by
      rw [show (pvGa G ad).2.2.1 7 0 = G.2.2.1 7 0 from ha.1 7 0 Nat.one_pos, show (pvGa G ad).2.2.1 3 u1 = G.2.2.1 3 u1 from ha.1 3 u1 hu1]; exact hl
    rw [← hq]
    refine lv_astore (lv' := [(4, .ref ((pvGa G ad).2.2.1 3 (σ.1 0))), (0, .ref ((pvGa G ad).2.2.1 7 0)), (1, .ref ((pvGa G ad).2.2.1 3 u1)), (2, .int x2), (3, .int x3)]) hx hb dX7_append_16 hl (by decide) rfl (fun ls hl => ?_)
    refine lv_aload_n hx hb dX7_append_18 rfl (lv_at hl 1 rfl) ?_
    refine pgL (G := (pvGa G ad)) (C := RX7) (T := TX7) (N := 3) hx hb hts hown hK hw 7 0 0 Nat.one_pos (by decide) rfl rfl inF_X7 (by decide) (v := .ref ((pvGa G ad).2.2.1 10 0)) rfl (hts _ wm32) (fun _ h9 => h9) dX7_append_19 ?_
    refine lv_aload hx hb dX7_append_22 (lv_at hl 0 rfl) ?_
    refine pcalli (G := (pvGa G ad)) (va_runV (As := [.ref ((pvGa G ad).2.2.1 3 (σ.1 0))]) (rest := []) ⟨hx, hb, hml, hown, hts⟩ (c_ladd (l := l) (G := (pvGa G ad)) (tys := tys) (σ := σ2) htys (j := 0) (show 0 < σ2.1 0 + 3 by omega) (show σ.1 0 < pvM σ2 3 from hv2) (by rw [eσ2]; show (va_up σ.2.2.2.2 (σ.1 0 + 3) [] 0).length < 64; rw [va_up_ne _ _ (by omega)]; exact hlen)) (cwV 1 hts (gVA wm116 wm117 wm118 wm13 wm119) rfl rfl rfl (by decide +kernel) ⟨Nat.le_of_ble_eq_true rfl, Nat.le_of_ble_eq_true rfl⟩) (pl_preV hA hS hw hK (0) (show 0 < σ2.1 0 + 3 by omega) _) rfl rfl hl.1 rfl (lv_room (Nat.le_of_ble_eq_true rfl)) dX7_append_24 ⟨Nat.le_of_ble_eq_true rfl, Nat.le_of_ble_eq_true rfl⟩) hS (fun r2 s2 H locs hp hw hS => ?_)
    obtain ⟨hp1, hp2⟩ := hp
    obtain rfl : σ3 = s2 := eσ3.trans hp2.symm
    refine lv_pop hx hb dX7_append_27 rfl ?_
    refine lv_aload hx hb dX7_append_28 (lv_at hl 0 rfl) ?_
    refine lv_aload_n hx hb dX7_append_30 rfl (lv_at hl 2 rfl) ?_
    refine ppR (G := (pvGa G ad)) (ty := .object "PinnaceView$Node") (C := RX3) (T := TX3) (N := 14) hx hb hts hown hK hw hS 3 8 (σ.1 0) (show σ.1 0 < pvM σ3 3 from by rw [pvM_c c3]; exact hv2) (by decide) rfl rfl inF_X3 (by decide) rfl tyX3_ok nmX3 (hts _ wm289) (fun _ h9 => h9) rfl (by decide +kernel) (v := some u1) (fun _ z => by cases z; show u1 < pvM σ3 3; rw [pvM_c c3]; exact hu2) rfl rfl dX7_append_31 (fun H locs hw hS => ?_)
    rw [← eσ4] at hw
    refine lv_aload_n hx hb dX7_append_34 rfl (lv_at hl 2 rfl) ?_
    refine pgL (G := (pvGa G ad)) (C := RX3) (T := TX3) (N := 14) hx hb hts hown hK hw 3 3 u1 (show u1 < pvM σ4 3 from by rw [pvM_c c4]; exact hu2) (by decide) rfl rfl inF_X3 (by decide) (v := .ref ((pvGa G ad).2.2.1 10 (u1 + 3))) rfl (hts _ wm290) (fun _ h9 => h9) dX7_append_35 ?_
    refine lv_aload hx hb dX7_append_38 (lv_at hl 0 rfl) ?_
    have hkc : pvK (u1 + 3) = 3 := pvK_c _
    rw [show (pvGa G ad).2.2.1 3 (σ.1 0) = (pvGa G ad).2.2.1 (pvK (u1 + 3)) (σ.1 0) from by rw [hkc]]
    refine pcalli (G := (pvGa G ad)) (va_runV (As := [.ref ((pvGa G ad).2.2.1 (pvK (u1 + 3)) (σ.1 0))]) (rest := []) ⟨hx, hb, hml, hown, hts⟩ (c_ladd (l := l) (G := (pvGa G ad)) (tys := tys) (σ := σ4) htys (j := u1 + 3) (show u1 + 3 < σ4.1 0 + 3 from Nat.add_lt_add_right (show u1 < pvM σ4 3 from by rw [pvM_c c4]; exact hu2) 3) (show σ.1 0 < pvM σ4 (pvK (u1 + 3)) from by rw [hkc, pvM_c c4]; exact hv2) hlen2) (cwV 1 hts (gVA wm116 wm117 wm118 wm13 wm119) rfl rfl rfl (by decide +kernel) ⟨Nat.le_of_ble_eq_true rfl, Nat.le_of_ble_eq_true rfl⟩) (pl_preV hA hS hw hK (u1 + 3) (show u1 + 3 < σ4.1 0 + 3 from Nat.add_lt_add_right (show u1 < pvM σ4 3 from by rw [pvM_c c4]; exact hu2) 3) _) rfl rfl hl.1 rfl (lv_room (Nat.le_of_ble_eq_true rfl)) dX7_append_40 ⟨Nat.le_of_ble_eq_true rfl, Nat.le_of_ble_eq_true rfl⟩) hS (fun r2 s2 H locs hp hw hS => ?_)
    obtain ⟨hp1, hp2⟩ := hp
    obtain rfl : σ5 = s2 := eσ5.trans hp2.symm
    refine lv_pop hx hb dX7_append_43 rfl ?_
    refine lv_aload_n hx hb dX7_append_44 rfl (lv_at hl 1 rfl) ?_
    refine pcallv (G := (pvGa G ad)) (va_runV (As := []) (rest := []) ⟨hx, hb, hml, hown, hts⟩ (c_X7_listAnew (l := l) (G := (pvGa G ad)) (tys := tys) (σ := σ5) htys e6) (cwV 0 hts (gVA wm292 wm293 wm294 wm28 wm295) rfl rfl rfl (by decide +kernel) ⟨Nat.le_of_ble_eq_true rfl, Nat.le_of_ble_eq_true rfl⟩) (pv_preV hA hS hw hK 7 0 Nat.one_pos (by decide) rfl []) rfl rfl hl.1 rfl (lv_room (Nat.le_of_ble_eq_true rfl)) dX7_append_45 ⟨Nat.le_of_ble_eq_true rfl, Nat.le_of_ble_eq_true rfl⟩) hS (fun s6 H locs hp hw hS => ?_)
    obtain ⟨hp1, hp2⟩ := hp
    subst hp1
    refine lv_aload hx hb dX7_append_48 (lv_at hl 0 rfl) ?_
    refine pgI (G := (pvGa G ad)) (C := RX3) (T := TX3) (N := 14) hx hb hts hown hK hw 3 0 (σ.1 0) (show σ.1 0 < pvM s6 3 from by rw [pvM_c hp2, pvM_c c5]; exact hv2) (by decide) rfl rfl inF_X3 (by decide) rfl (hts _ wm291) (fun _ h9 => h9) dX7_append_50 ?_
    exact peai (G := G) hx hb hr hlocks hA hw hK hS ⟨rfl, rfl, ha, fun κ i q => by rw [pvM_c hp2, pvM_c c5, eσ2]; exact Nat.lt_of_lt_of_le q (pvM_nodeLe κ), by show σ.1 0 ≤ s6.1 0; rw [hp2, c5]; omega⟩ dX7_append_53
  refine va_new (D := G.2.1) (ci := 4) (fs := [.int 0, .int 0, .int 0, .null, .null, .null, .null, .null, .null, .int 0, .int 0, .int 0, .int 0, .int 0]) (C := RX3) (T := TX3) (N := 14) hx hb hts inF_X3 tyX3 tyX3_ok hown (hts _ wm40) (hts _ wm41) (hts _ wm42) hK hw.1 hw.2 hS hA.1 rfl (fun j hj => by rcases (show j = 0 ∨ j = 1 ∨ j = 2 ∨ j = 3 ∨ j = 4 ∨ j = 5 ∨ j = 6 ∨ j = 7 ∨ j = 8 ∨ j = 9 ∨ j = 10 ∨ j = 11 ∨ j = 12 ∨ j = 13 by omega) with rfl | rfl | rfl | rfl | rfl | rfl | rfl | rfl | rfl | rfl | rfl | rfl | rfl | rfl <;> rfl) (Nat.le_of_ble_eq_true rfl) (Nat.le_of_ble_eq_true rfl) dX7_append_0 (fun q H hP hD hS => ?_)
  have hw : yP G (va_pl L f ++ [yO q 4 [.int 0, .int 0, .int 0, .null, .null, .null, .null, .null, .null, .int 0, .int 0, .int 0, .int 0, .int 0]]) H := ⟨hP, hD⟩
  have yl : ∀ {k : Nat} {e : Nat × va_E}, (va_pl L f)[k]? = some e → (va_pl L f ++ [yO q 4 [.int 0, .int 0, .int 0, .null, .null, .null, .null, .null, .null, .int 0, .int 0, .int 0, .int 0, .int 0]])[k]? = some e := fun h => by rw [List.getElem?_append_left (y_lt h)]; exact h
  refine lv_dup hx hb dX7_append_3 rfl ?_
  refine lv_aload_n hx hb dX7_append_4 rfl (lv_at hl 0 rfl) ?_
  refine va_get (D := G.2.1) (ci := 8) (C := RX7) (T := TX7) (N := 3) hx hb hts inF_X7 hown hK hw.1 i7 (yl hi7) rfl 0 (by decide) (hts _ wm32) (fun _ h9 => h9) rfl dX7_append_5 ?_
  refine va_calli (va_runV (As := []) (rest := [.ref q, .ref q]) ⟨hx, hb, hml, hown, hts⟩ (c_ysize (l := l) (G := G) (tys := tys) htys (yl hi0)) (cwV 0 hts (gVA wm250 wm251 wm252 wm13 wm253) rfl rfl rfl (by decide +kernel) ⟨Nat.le_of_ble_eq_true rfl, Nat.le_of_ble_eq_true rfl⟩) (y_preV hA hS hw hK rfl (yl hi0) _) rfl rfl hl.1 rfl (lv_room (Nat.le_of_ble_eq_true rfl)) dX7_append_8 ⟨Nat.le_of_ble_eq_true rfl, Nat.le_of_ble_eq_true rfl⟩) hS (fun _ _ h => h) (fun _ h => h) (fun r X1 t H locs ht hvm hp hB _ _ hS => ?_)
  obtain ⟨rfl, rfl⟩ := hp
  have hw := hB.1
  rw [ht] at hw
  refine lv_iload_n hx hb dX7_append_11 rfl (lv_at hl 2 rfl) ?_
  refine lv_iload_n hx hb dX7_append_12 rfl (lv_at hl 3 rfl) ?_
  rcases hz2 with rfl | rfl
  · refine ycallv (va_runI (As := [.int (nI (σ.2.2.2.2 0).length), .int 0, .int x3]) (rest := [.ref q]) ⟨hx, hb, hml, hown, hts⟩ (c_X3_init0 (l := l) (G := G) (tys := tys) htys (X := va_pl L f ++ [yO q 4 [.int 0, .int 0, .int 0, .null, .null, .null, .null, .null, .null, .int 0, .int 0, .int 0, .int 0, .int 0]]) (k := (va_pl L f).length) (a := q) (x := nI (σ.2.2.2.2 0).length) (y := x3) y_last) (cwI 3 hts (gNA wm60) rfl rfl rfl (hts _ wm42) (hts _ wm58) (hts _ wm59) rfl (by decide +kernel) ⟨Nat.le_of_ble_eq_true rfl, Nat.le_of_ble_eq_true rfl⟩) (y_pre hA hS hw hK _) rfl rfl hl.1 rfl (lv_room (Nat.le_of_ble_eq_true rfl)) dX7_append_13 ⟨Nat.le_of_ble_eq_true rfl, Nat.le_of_ble_eq_true rfl⟩) hS (fun X1 H locs hp hw hS => ?_)
    obtain ⟨q1, q2, q3, q4, q5, q6, q7, rfl⟩ := hp
    rw [y_back] at hw
    refine W.widen (k := 8) (n := 98) (by omega) (by omega) ?_
    refine fin q q1 q2 q3 q4 q5 q6 q7 H locs ?_ hS
    simp only [if_pos (show (0 : Int32) = 0 from rfl)]
    exact hw
  · refine ycallv (va_runI (As := [.int (nI (σ.2.2.2.2 0).length), .int 1, .int x3]) (rest := [.ref q]) ⟨hx, hb, hml, hown, hts⟩ (c_X3_init1 (l := l) (G := G) (tys := tys) htys (X := va_pl L f ++ [yO q 4 [.int 0, .int 0, .int 0, .null, .null, .null, .null, .null, .null, .int 0, .int 0, .int 0, .int 0, .int 0]]) (k := (va_pl L f).length) (a := q) (x := nI (σ.2.2.2.2 0).length) (y := x3) y_last) (cwI 3 hts (gNA wm60) rfl rfl rfl (hts _ wm42) (hts _ wm58) (hts _ wm59) rfl (by decide +kernel) ⟨Nat.le_of_ble_eq_true rfl, Nat.le_of_ble_eq_true rfl⟩) (y_pre hA hS hw hK _) rfl rfl hl.1 rfl (lv_room (Nat.le_of_ble_eq_true rfl)) dX7_append_13 ⟨Nat.le_of_ble_eq_true rfl, Nat.le_of_ble_eq_true rfl⟩) hS (fun X1 H locs hp hw hS => ?_)
    obtain ⟨q1, q2, q3, q4, q5, q6, q7, rfl⟩ := hp
    rw [y_back] at hw
    refine W.widen (k := 8) (n := 98) (by omega) (by omega) ?_
    refine fin q q1 q2 q3 q4 q5 q6 q7 H locs ?_ hS
    simp only [if_neg (show ¬ (1 : Int32) = 0 from by decide)]
    exact hw
