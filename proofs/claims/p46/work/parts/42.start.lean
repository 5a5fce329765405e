/-! THE CLAIM OUT OF ONE WALK OF THE LAW'S BODY. Your part is whole_start (and what it stands on); all else here is the same for every law, but numbers. -/
def R_law : String := "PinnaceViewLaw"
def lw_P (b : Addr) (xs : List Int32) (args : Array Value) (s : State) : Prop := args = #[.ref b] ∧ s.IntsAt b xs ∧ xs.length ≤ 260 ∧ (Jvm.Cond.and given_1 narrow_1).before args s = true
/-- what a walk over the start with the record d0 says of its end, said of the start itself -/
theorem lw_closed {s t : State} {o : Outcome} {d0 : Drawn} {L : List Loc} {k n : Nat} (hd0 : s.drawn.sameBut d0 lw_cs) (hv : ∃ v, o = .returned v) (hW : (s.setDrawn d0).WarmedH t.vm) (hs : (s.setDrawn d0).sameButNew ({ t with vm := s.vm } : State) L k n) : State.butDraws s t lw_cs (fun t1 => Framed s o t1 L k n) := by
  have h2 : t.drawn = d0 := congrArg State.drawn hs.1
  refine ⟨⟨hv, hW, State.sameButNew.setDrawn hs s.drawn⟩, ?_, by decide⟩
  rw [h2]
  exact hd0
def lw_Q (_ : Array Value) (s : State) (o : Outcome) (t : State) : Prop := o = .returned (some (.int 1)) ∧ State.butDraws s t lw_cs (fun t1 => Framed s o t1 [] 600086 7301442)
def lw_Z (below : List Frame) (a : Array Value) (s : State) : State → Prop := fun t => ∃ o, t.status = .running ∧ Ended t below o ∧ lw_Q a s o t
/-- the law's own end, with 1 on the stack, nothing written that was there before, its room as the claim has it; d0: the record of draws at this point (at the entry s.drawn: begin with 'refine W.base ?_' and 'have hd0 := Drawn.sameBut.refl s.drawn lw_cs') -/
theorem lw_ret {p : Program} {l : Launch} {e : Env} {s : State} {m : MethodId} {below : List Frame} {meth : Method} {c : Code} {b : Nat} {d0 : Drawn} (hd0 : s.drawn.sameBut d0 lw_cs) (hx : p.tables.exec = Jvm.exec) (hb : c.code = code) (hr : meth.sig.returnType = ret) (hlocks : meth.locks = false) {pc : Nat} {H : Heap} {ls : Array Slot} (hdg : decode code pc = .ok (.ireturn, 1)) : W p l e room_1 (s.setDrawn d0) m #[Value.ref b] below meth c H [] 600086 7301442 (lw_Z below #[Value.ref b] s) (F0 m pc ls [.int 1]) := by
  intro T hT X
  obtain ⟨fs, hret, hrun, hended, hW, hframe⟩ := X.leave (v := some (.int 1)) (hlocks := hlocks) (fun h => by rw [hr] at h; cases h)
  have hmeth' : T.vm.method? m = some meth := X.method'
  refine ⟨T.setFrames fs, ?_, .returned (some (.int 1)), hrun, hended, rfl, lw_closed hd0 ⟨_, rfl⟩ hW hframe⟩
  jvm_step X.here [X.here.top, hx, hb, hdg, hmeth', hr, ret, narrow_b1]
  (try refine ⟨rfl, ?_⟩); (try refine ⟨rfl, ?_⟩)
  first | (intro acts; rw [hret _ acts rfl rfl rfl]) | rw [hret _ _ rfl rfl rfl]
  exact Steps.refl _
/-- what holds at the law's entry: the machine, the code, the tables' words (any of lw_tbl by 'hts w (by decide +kernel)'), the script of L ints xs at the cell b, what the Statement gives of the start (any of its parts by flat_of_before) -/
def lw_At (p : Program) (s : State) (m : MethodId) (meth : Method) (c : Code) (b L : Nat) (xs : Nat → Int32) : Prop :=
  p.tables.exec = Jvm.exec ∧ c.code = code ∧ meth.sig.returnType = ret ∧ c.maxLocals = 17 ∧ s.vm.findClass R_law = some m.cls ∧ (∀ w ∈ lw_tbl, w.before #[Value.ref b] s = true) ∧ va_X b L xs s s.heap ∧ b < s.heap.size ∧ meth.locks = false ∧ (Jvm.Cond.and given_1 narrow_1).before #[Value.ref b] s = true
set_option maxHeartbeats 8000000 in
set_option maxRecDepth 100000 in
theorem law_start {p : Program} {e : Env} {s : State} {m : MethodId} {below : List Frame} {meth : Method} {c : Code} (l : Launch) (hflags : l.flags = flags0) {b L : Nat} {xs : Nat → Int32} (hL : L ≤ 260) (hpure : ∃ τ : PvS, f_law xs L pvS0 = some (1, τ)) (C0 : lw_At p s m meth c b L xs) : W p l e room_1 s m #[Value.ref b] below meth c s.heap [] 0 0 (lw_Z below #[Value.ref b] s) (entryFrame m ([Value.ref b] : List Value).toArray 17) := by
  obtain ⟨hx, hb, hr, hml, hown, hts0, hX, hbl, hlocks, hgv⟩ := id C0
  have hts1 : ∀ w ∈ WA, w.before #[Value.ref b] s = true := fun w h => hts0 w (lw_WA w h)
  have hs := flat_of_before _ hgv
  have hnA : ∀ a : Nat, a < s.heap.size → ¬ (fun q : Nat => s.heap.size ≤ q) a := fun a h => Nat.not_le.mpr h
  obtain ⟨cy, D, hK⟩ := lw_K hts1 hts0
  obtain ⟨t0, z0, v0⟩ := lw_tab0 hts0 hs hnA
  obtain ⟨t1, z1, v1⟩ := lw_tab1 hts0 hs hnA
  obtain ⟨t2, z2, v2⟩ := lw_tab2 hts0 hs hnA
  obtain ⟨t3, z3, v3⟩ := lw_tab3 hts0 hs hnA
  have hz0 : ¬ s.heap.size ≤ t0 := by
    obtain ⟨_, _, _, _, _, _, _, q⟩ := v0
    exact q
  obtain ⟨G, hG⟩ : ∃ G : PvG, G = (cy, D, fun _ _ => 0, (fun k => if k = 0 then t0 else if k = 1 then t1 else if k = 2 then t2 else if k = 3 then t3 else if k = 4 then b else L, xs), fun q => s.heap.size ≤ q) := ⟨_, rfl⟩
  have hA : pvA0 G s s.heap := by
    subst hG
    exact ⟨fun q h => h, ⟨⟨z0, v0⟩, ⟨z1, v1⟩, ⟨z2, v2⟩, ⟨z3, v3⟩, hX, Nat.not_le.mpr hbl⟩, lw_Nw hts0 hs⟩
  have hN : pvN2 s := lw_N2 hts0
  obtain ⟨tys, htys⟩ : ∃ tys, tys = pvT G := ⟨_, rfl⟩
  have hK : va_K G.2.1 pvC tys s := by rw [htys]; subst hG; exact hK
  have hxs : xs = G.2.2.2.1.2 := by subst hG; rfl
  have hnn : L = G.2.2.2.1.1 5 := by subst hG; rfl
  have hsc : G.2.2.2.1.1 4 = b := by subst hG; rfl
  have hz : ¬ pvB G (G.2.2.2.1.1 0) := by subst hG; exact hz0
  have hB : ∀ q, pvB G q → s.heap.size ≤ q := by subst hG; exact fun q h => h
  have hw : yP G [] s.heap := ⟨fun k q h => (by cases h), fun i j p q h => (by cases h), fun k q h => (by cases h)⟩
  clear hG hX z0 v0 z1 v1 z2 v2 z3 v3
  have hd0 := Drawn.sameBut.refl s.drawn lw_cs
  refine W.base ?_
  have hts : ∀ w ∈ WA, w.before #[Value.ref b] (s.setDrawn s.drawn) = true := dr_words hts1 s.drawn
  have hS : va_S (pvB G) s.heap s.heap [] := va_S.rf
  have hA : pvA0 G (s.setDrawn s.drawn) (s.setDrawn s.drawn).heap := hA
  have hK : va_K G.2.1 pvC tys (s.setDrawn s.drawn) := hK
  have hN : pvN2 (s.setDrawn s.drawn) := hN
  have hown : (s.setDrawn s.drawn).vm.findClass RL = some m.cls := hown
  have hS : va_S (pvB G) (s.setDrawn s.drawn).heap (s.setDrawn s.drawn).heap [] := hS
  have hw : yP G [] (s.setDrawn s.drawn).heap := hw
  have hl := lv_entry ([.ref b]) (n := 17) (Nat.le_of_ble_eq_true rfl)
  rw [lg_entry_eq]
  generalize (lg_sl ([.ref b]) ++ List.replicate (17 - (lg_sl ([.ref b])).length) Slot.unset).toArray = ls at hl ⊢
  have hl : lv_has ls 17 [(0, .ref b)] := hl
  refine va_new (D := G.2.1) (ci := 10) (fs := [.null, .null, .null, .null, .null, .int 0]) (C := RX9) (T := TX9) (N := 6) hx hb hts inF_X9 tyX9 tyX9_ok hown (hts _ wm0) (hts _ wm1) (hts _ wm2) hK hw.1 hw.2 hS hA.1 rfl (fun j hj => by rcases (show j = 0 ∨ j = 1 ∨ j = 2 ∨ j = 3 ∨ j = 4 ∨ j = 5 by omega) with rfl | rfl | rfl | rfl | rfl | rfl <;> rfl) (Nat.le_of_ble_eq_true rfl) (Nat.le_of_ble_eq_true rfl) dL_law_0 (fun q H hP hD hS => ?_)
  have hw : yP G [yO q 10 [.null, .null, .null, .null, .null, .int 0]] H := ⟨hP, hD⟩
  refine lv_dup hx hb dL_law_3 rfl ?_
  refine ycallv (va_runI (As := []) (rest := [.ref q]) ⟨hx, hb, hml, hown, hts⟩ (c_X9_init (l := l) (G := G) (tys := tys) htys (X := [yO q 10 [.null, .null, .null, .null, .null, .int 0]]) (k := 0) (a := q) rfl) (cwI 0 hts (gNA wm6) rfl rfl rfl (hts _ wm2) (hts _ wm4) (hts _ wm5) rfl (by decide +kernel) ⟨Nat.le_of_ble_eq_true rfl, Nat.le_of_ble_eq_true rfl⟩) (y_pre2 hN hA hS hw hK _) rfl rfl hl.1 rfl (lv_room (Nat.le_of_ble_eq_true rfl)) dL_law_4 ⟨Nat.le_of_ble_eq_true rfl, Nat.le_of_ble_eq_true rfl⟩) hS (fun X1 H locs hp hw hS => ?_)
  obtain ⟨q1, t2, t3, t4, t5, t6, t7, t8, t9, t10, t11, r12, r13, q14, q15, q16, q17, r18, q19, r20, q21, q22, q23, q24, q25, q26, q27, q28, q29, q30, q31, q32, q33, q34, r35, q36, r37, rfl⟩ := hp
  obtain ⟨ad, had, hw⟩ := pv_init (G := G) (a := q) hz (show yP G (pvY0 G q q1 t2 t3 t4 t5 t6 t7 t8 t9 t10 t11 r12 r13 q14 q15 q16 q17 r18 q19 r20 q21 q22 q23 q24 q25 q26 q27 q28 q29 q30 q31 q32 q33 q34 r35 q36 r37) H from hw)
  refine lv_astore_n (lv' := [(1, .ref q), (0, .ref b)]) hx hb dL_law_7 rfl hl (by decide) rfl (fun ls hl => ?_)
  obtain ⟨τ, hf⟩ := hpure
  refine W.widen (k := 194) (n := 5959) (Nat.le_of_ble_eq_true rfl) (Nat.le_of_ble_eq_true rfl) ?_
  refine law_walk (G0 := pvGa G ad) (tys := tys) htys hxs hnn (show G.2.2.2.1.1 5 < 2 ^ 31 by rw [← hnn]; exact Nat.lt_of_le_of_lt hL (by decide)) hx hb hml hown hts hA hK hN (fun H locs hS ls => ?_) hf H locs hw hS ls (show lv_has ls 17 [(0, .ref (G.2.2.2.1.1 4)), (1, .ref (ad 9 0))] from by rw [had, hsc]; exact lv_sub hl [1, 0] rfl)
  refine va_forget (fun q hq => hB _ (hS.2.2 q hq)) ?_
  exact lw_ret hd0 hx hb hr hlocks dL_law_855
