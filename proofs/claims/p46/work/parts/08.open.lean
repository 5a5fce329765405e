/-! LISTS that are changed: one list laid open: its number of changes, its array, its size; arrays of objects that are its own -/
abbrev LxA : Type := Nat × Nat × (Nat → Option Nat)
def lxOwn (G : PvG) (σ : PvS) (j : Nat) (ba : Nat → Nat) (L : List Nat) (f : Nat → va_E) (x : LxA) : Prop :=
  x.1 ∈ L ∧ (∀ κ i, i < pvM σ κ → G.2.2.1 κ i ≠ x.1) ∧ (∀ j', j' < σ.1 0 + 3 → G.2.2.1 10 j' ≠ x.1) ∧ (∀ j', j' < σ.1 0 + 3 → j' ≠ j → ba j' ≠ x.1) ∧ (0 < x.2.1 ∧ x.2.1 ≤ 1000) ∧ f x.1 = .inl (G.1 3, x.2.1, .inr (.inr (.inr (.inr x.2.2)))) ∧ (∀ t y, x.2.2 t = some y → ∃ i, i < pvM σ (pvK j) ∧ y = G.2.2.1 (pvK j) i)
def lxIn (G : PvG) (σ : PvS) (j : Nat) (m : Int32) (b : Nat) (z : Int32) (AR : List LxA) (L : List Nat) (f : Nat → va_E) : Prop :=
  ∃ ba : Nat → Nat,
   (∀ j', j' < σ.1 0 + 3 → G.2.2.1 10 j' ∈ L ∧ (∀ κ i, i < pvM σ κ → G.2.2.1 κ i ≠ G.2.2.1 10 j') ∧ (∀ j'', j'' < σ.1 0 + 3 → G.2.2.1 10 j'' = G.2.2.1 10 j' → j'' = j')) ∧
   (∀ j', j' < σ.1 0 + 3 → j' ≠ j → ((σ.2.2.2.2 j').length ≤ 64 ∧ ∀ x ∈ σ.2.2.2.2 j', x < pvM σ (pvK j')) ∧ (∃ mc : Int32, f (G.2.2.1 10 j') = .inr (0, [.int mc, .ref (ba j'), .int (nI (σ.2.2.2.2 j').length)])) ∧
     ((σ.2.2.2.2 j' = [] ∧ ba j' = G.2.2.2.1.1 0) ∨ ∃ cap : Nat, ba j' ∈ L ∧ (∀ κ i, i < pvM σ κ → G.2.2.1 κ i ≠ ba j') ∧ (∀ j'', j'' < σ.1 0 + 3 → G.2.2.1 10 j'' ≠ ba j') ∧ (∀ j'', j'' < σ.1 0 + 3 → j'' ≠ j → ba j'' = ba j' → j'' = j') ∧ (σ.2.2.2.2 j').length ≤ cap ∧ (0 < cap ∧ cap ≤ 1000) ∧
      f (ba j') = .inl (G.1 3, cap, .inr (.inr (.inr (.inr (fun t => ((σ.2.2.2.2 j')[t]?).map (G.2.2.1 (pvK j')))))))))  ∧
   f (G.2.2.1 10 j) = .inr (0, [.int m, .ref b, .int z]) ∧ (∀ (k : Nat) (x : LxA), AR[k]? = some x → lxOwn G σ j ba L f x) ∧ (∀ (k k' : Nat) (x y : LxA), AR[k]? = some x → AR[k']? = some y → x.1 = y.1 → k = k')
def lxW (G : PvG) (σ : PvS) (j : Nat) (m : Int32) (b : Nat) (z : Int32) (AR : List LxA) (H : Heap) : Prop := ∃ (L : List Nat) (f : Nat → va_E), pvO G.1 G.2.2.1 σ L f ∧ lxIn G σ j m b z AR L f ∧ va_P G.2.1 pvC (va_pl L f) H ∧ va_D (fun q => G.2.2.2.2 q) (va_pl L f) ∧ ¬ G.2.2.2.2 (G.2.2.2.1.1 0) ∧ pvCl σ
/-- a list is laid open -/
theorem lx_open {G : PvG} {σ : PvS} {H : Heap} {j : Nat} (hw : pvW G σ H) (hj : j < σ.1 0 + 3) : (σ.2.2.2.2 j).length ≤ 64 ∧ (∀ x ∈ σ.2.2.2.2 j, x < pvM σ (pvK j)) ∧ ∃ (m : Int32) (b : Nat) (AR : List LxA), lxW G σ j m b (nI (σ.2.2.2.2 j).length) AR H ∧
    ((AR = [] ∧ b = G.2.2.2.1.1 0 ∧ σ.2.2.2.2 j = []) ∨ ∃ cap, AR = [(b, cap, fun t => ((σ.2.2.2.2 j)[t]?).map (G.2.2.1 (pvK j)))] ∧ (σ.2.2.2.2 j).length ≤ cap ∧ (0 < cap ∧ cap ≤ 1000)) := by
  obtain ⟨L, f, hO, ⟨ba, hL⟩, hP, hD, hz, hC⟩ := hw
  obtain ⟨⟨a1, a2, a3, a4, a5⟩, ⟨mc, b⟩, c9⟩ := hL j hj
  refine ⟨a4, a5, mc, ba j, ?_⟩
  have h1 : ∀ j', j' < σ.1 0 + 3 → G.2.2.1 10 j' ∈ L ∧ (∀ κ i, i < pvM σ κ → G.2.2.1 κ i ≠ G.2.2.1 10 j') ∧ (∀ j'', j'' < σ.1 0 + 3 → G.2.2.1 10 j'' = G.2.2.1 10 j' → j'' = j') := fun j' h => ⟨(hL j' h).1.1, (hL j' h).1.2.1, (hL j' h).1.2.2.1⟩
  have h2 : ∀ j', j' < σ.1 0 + 3 → j' ≠ j → ((σ.2.2.2.2 j').length ≤ 64 ∧ ∀ x ∈ σ.2.2.2.2 j', x < pvM σ (pvK j')) ∧ (∃ mc : Int32, f (G.2.2.1 10 j') = .inr (0, [.int mc, .ref (ba j'), .int (nI (σ.2.2.2.2 j').length)])) ∧
     ((σ.2.2.2.2 j' = [] ∧ ba j' = G.2.2.2.1.1 0) ∨ ∃ cap : Nat, ba j' ∈ L ∧ (∀ κ i, i < pvM σ κ → G.2.2.1 κ i ≠ ba j') ∧ (∀ j'', j'' < σ.1 0 + 3 → G.2.2.1 10 j'' ≠ ba j') ∧ (∀ j'', j'' < σ.1 0 + 3 → j'' ≠ j → ba j'' = ba j' → j'' = j') ∧ (σ.2.2.2.2 j').length ≤ cap ∧ (0 < cap ∧ cap ≤ 1000) ∧
      f (ba j') = .inl (G.1 3, cap, .inr (.inr (.inr (.inr (fun t => ((σ.2.2.2.2 j')[t]?).map (G.2.2.1 (pvK j')))))))) := by
    intro j' h _
    obtain ⟨⟨e1, e2, e3, e4, e5⟩, e6, e7⟩ := hL j' h
    refine ⟨⟨e4, e5⟩, e6, ?_⟩
    rcases e7 with e7 | ⟨cap, d1, d2, d3, d4, d5, d6, d7⟩
    · exact Or.inl e7
    · exact Or.inr ⟨cap, d1, d2, d3, fun j'' q _ => d4 j'' q, d5, d6, d7⟩
  rcases c9 with ⟨c1, c2⟩ | ⟨cap, c1, c2, c3, c4, c5, c6, c7⟩
  · exact ⟨[], ⟨L, f, hO, ⟨ba, h1, h2, b, fun k x q => by simp at q, fun k k' x y q => by simp at q⟩, hP, hD, hz, hC⟩, Or.inl ⟨rfl, c2, c1⟩⟩
  · refine ⟨_, ⟨L, f, hO, ⟨ba, h1, h2, b, fun k x q => ?_, fun k k' x y q q' _ => ?_⟩, hP, hD, hz, hC⟩, Or.inr ⟨cap, rfl, c5, c6⟩⟩
    · have hk : k = 0 := by
        have := (List.getElem?_eq_some_iff.mp q).1
        simp at this; exact this
      subst hk
      cases q
      refine ⟨c1, c2, c3, fun j' q q' z => q' (c4 j' q z), c6, c7, fun t y q => ?_⟩
      simp only [Option.map_eq_some_iff] at q
      obtain ⟨i, q1, q2⟩ := q
      exact ⟨i, a5 i (List.mem_of_getElem? q1), q2.symm⟩
    · have h1 := (List.getElem?_eq_some_iff.mp q).1
      have h2 := (List.getElem?_eq_some_iff.mp q').1
      simp at h1 h2
      rw [h1, h2]
/-- a list is closed again -/
theorem lx_close {G : PvG} {σ : PvS} {H : Heap} {j : Nat} {m : Int32} {b : Nat} {z : Int32} {AR : List LxA} {v : List Nat} {k cap : Nat} {g : Nat → Option Nat} (hj : j < σ.1 0 + 3) (h : lxW G σ j m b z AR H) (hv : v.length ≤ 64) (hc : ∀ x ∈ v, x < pvM σ (pvK j)) (hz : z = nI v.length)
    (ha : (v = [] ∧ b = G.2.2.2.1.1 0) ∨ (AR[k]? = some (b, cap, g) ∧ v.length ≤ cap ∧ ∀ t, g t = (v[t]?).map (G.2.2.1 (pvK j)))) : pvW G (pvL σ j v) H := by
  obtain ⟨L, f, hO, ⟨ba, h1, h2, h3, h4, h5⟩, hP, hD, hz0, hC⟩ := h
  obtain ⟨ba', eb1, eb2⟩ : ∃ ba' : Nat → Nat, ba' j = b ∧ ∀ i, i ≠ j → ba' i = ba i := ⟨fun i => if i = j then b else ba i, if_pos rfl, fun i h => if_neg h⟩
  refine ⟨L, f, hO, ⟨ba', fun j' hj' => ?_⟩, hP, hD, hz0, pvCl_c hC rfl rfl⟩
  have hj' : j' < σ.1 0 + 3 := hj'
  show (_ ∧ _ ∧ _ ∧ ((pvL σ j v).2.2.2.2 j').length ≤ 64 ∧ ∀ x ∈ (pvL σ j v).2.2.2.2 j', _) ∧ _
  rw [pvL_at]
  have hM : ∀ κ, pvM (pvL σ j v) κ = pvM σ κ := fun κ => rfl
  by_cases e : j' = j
  · subst e
    rw [if_pos rfl, eb1]
    refine ⟨⟨(h1 _ hj').1, (h1 _ hj').2.1, (h1 _ hj').2.2, hv, hc⟩, ⟨m, by rw [h3, hz]⟩, ?_⟩
    rcases ha with ⟨q1, q2⟩ | ⟨q1, q2, q3⟩
    · exact Or.inl ⟨q1, q2⟩
    · obtain ⟨d1, d2, d3, d4, d5, d6, d7⟩ := h4 _ _ q1
      refine Or.inr ⟨cap, d1, d2, d3, fun j'' hj'' hb => ?_, q2, d5, ?_⟩
      · by_cases e : j'' = j'
        · exact e
        · rw [eb2 j'' e] at hb
          exact absurd hb (d4 j'' hj'' e)
      · rw [d6]
        have : (fun t => g t) = fun t => (v[t]?).map (G.2.2.1 (pvK j')) := funext q3
        rw [← this]
  · rw [if_neg e, eb2 j' e]
    obtain ⟨⟨e1, e2⟩, e3, e4⟩ := h2 j' hj' e
    refine ⟨⟨(h1 _ hj').1, (h1 _ hj').2.1, (h1 _ hj').2.2, e1, e2⟩, e3, ?_⟩
    rcases e4 with e4 | ⟨cap', d1, d2, d3, d4, d5, d6, d7⟩
    · exact Or.inl e4
    · refine Or.inr ⟨cap', d1, d2, d3, fun j'' hj'' hb => ?_, d5, d6, d7⟩
      by_cases e' : j'' = j
      · subst e'
        rw [eb1] at hb
        rcases ha with ⟨q1, q2⟩ | ⟨q1, q2, q3⟩
        · exfalso
          obtain ⟨q0, hq⟩ := va_pl_get (X := []) (f := f) d1
          exact hz0 (by rw [← q2, hb]; exact hD.2 q0 _ hq)
        · exact absurd hb.symm ((h4 _ _ q1).2.2.2.1 j' hj' e)
      · rw [eb2 j'' e'] at hb
        exact d4 j'' hj'' e' hb
section LX
variable {p : Program} {l : Launch} {e : Env} {R : Room} {s : State} {m : MethodId} {args : Array Value} {below : List Frame} {meth : Method} {c : Code} {H : Heap} {locs : List Loc} {cells slots : Nat} {Q : State → Prop}
variable {cc : ByteArray} {pc : Nat} {ls : Array Slot} {rest st0 : List Value} {a : Array Value} {tys : List (ClassId × FieldType)} {H0 : Heap} {G : PvG} {σ : PvS} {mc ms : Nat} {j : Nat} {mm : Int32} {b : Nat} {z : Int32} {AR : List LxA} {own ref : String} {index : Nat}
theorem lxW.kept (h : lxW G σ j mm b z AR H) {H1 : Heap} (hq : ∀ q, q < H.size → H1[q]? = H[q]?) : lxW G σ j mm b z AR H1 := by
  obtain ⟨L, f, hO, hI, hP, hD, hz⟩ := h
  exact ⟨L, f, hO, hI, hP.kept (fun k x hx => hq x.1 ((hP k x hx).lt)), hD, hz⟩
theorem lxGet (hx : p.tables.exec = Jvm.exec) (hb : c.code = cc) (hts : ∀ w ∈ WA, w.before args s = true) (hown : s.vm.findClass own = some m.cls) (hK : va_K G.2.1 pvC tys s) (hw : lxW G σ j mm b z AR H) (hj : j < σ.1 0 + 3) (k : Nat) (hk : k < 3) {v : Value} (hv : ([.int mm, .ref b, .int z] : List Value)[k]? = some v) (hlink : (Cond.fieldLink own index ref (TJx4a65c k).2.1 (TJx4a65c k).2.2.1).before args s = true) (hsame : ∀ x, s.fieldFound? (TJx4a65c k).1 (TJx4a65c k).2.1 (TJx4a65c k).2.2.1 = some x → s.fieldFound? ref (TJx4a65c k).2.1 (TJx4a65c k).2.2.1 = some x) (hdg : decode cc pc = .ok (.getfield index, 3))
    (kk : W p l e R s m args below meth c H locs cells slots Q (F0 m (pc + 3) ls (v :: rest))) : W p l e R s m args below meth c H locs cells slots Q (F0 m pc ls (.ref (G.2.2.1 10 j) :: rest)) := by
  obtain ⟨L, f, hO, ⟨ba, h1, h2, h3, h4⟩, hP, hD, hz⟩ := hw
  obtain ⟨q0, hq⟩ := va_pl_get (X := []) (f := f) (h1 j hj).1
  exact va_get (D := G.2.1) (ci := 0) (fs := [.int mm, .ref b, .int z]) hx hb hts inF_Jx4a65c hown hK hP q0 (by rw [← h3]; exact hq) rfl k hk hlink hsame hv hdg kk
theorem lxPut (hx : p.tables.exec = Jvm.exec) (hb : c.code = cc) (hts : ∀ w ∈ WA, w.before args s = true) (hown : s.vm.findClass own = some m.cls) (hK : va_K G.2.1 pvC tys s) (hw : lxW G σ j mm b z AR H) (hS : va_S (pvB G) H0 H locs) (hj : j < σ.1 0 + 3) (k : Nat) (hk : k < 3) {v : Value} {mm' : Int32} {b' : Nat} {z' : Int32} (hv : ([.int mm, .ref b, .int z] : List Value).set k v = [.int mm', .ref b', .int z']) {ty : FieldType} (hlink : (Cond.fieldLink own index ref (TJx4a65c k).2.1 (TJx4a65c k).2.2.1).before args s = true) (hsame : ∀ x, s.fieldFound? (TJx4a65c k).1 (TJx4a65c k).2.1 (TJx4a65c k).2.2.1 = some x → s.fieldFound? ref (TJx4a65c k).2.1 (TJx4a65c k).2.2.1 = some x) (hfin : (TJx4a65c k).2.2.2 = false) (hd : parseFieldDescriptor (TJx4a65c k).2.2.1 = some ty) (hn : narrow ty v = v) (hfit : fits ty v = true) (hdg : decode cc pc = .ok (.putfield index, 3))
    (kk : ∀ (H1 : Heap) (locs1 : List Loc), lxW G σ j mm' b' z' AR H1 → va_S (pvB G) H0 H1 locs1 → W p l e R s m args below meth c H1 locs1 cells slots Q (F0 m (pc + 3) ls rest)) : W p l e R s m args below meth c H locs cells slots Q (F0 m pc ls (v :: .ref (G.2.2.1 10 j) :: rest)) := by
  obtain ⟨L, f, hO, ⟨ba, h1, h2, h3, h4, h5⟩, hP, hD, hz⟩ := hw
  obtain ⟨q0, hq⟩ := va_pl_get (X := []) (f := f) (h1 j hj).1
  have hq : (va_pl L f)[q0]? = some (G.2.2.1 10 j, f (G.2.2.1 10 j)) := hq
  refine va_put (D := G.2.1) (ci := 0) (fs := [.int mm, .ref b, .int z]) hx hb hts inF_Jx4a65c tyJx4a65c tyJx4a65c_ok nmJx4a65c hown hK hP hD hS q0 (by rw [← h3]; exact hq) rfl k hk hlink hsame hfin hd hn hfit hk hdg fun H1 locs1 hP1 hD1 hS1 => ?_
  rw [hv] at hP1 hD1
  have hset := va_pl_set (X := []) (e := .inr (0, [.int mm', .ref b', .int z'])) hD (h1 j hj).1 hq
  have hP2 : va_P G.2.1 pvC ([] ++ va_pl L (va_up f (G.2.2.1 10 j) (.inr (0, [.int mm', .ref b', .int z'])))) H1 := by rw [← hset]; exact hP1
  have hD2 : va_D (fun q => G.2.2.2.2 q) ([] ++ va_pl L (va_up f (G.2.2.1 10 j) (.inr (0, [.int mm', .ref b', .int z'])))) := by rw [← hset]; exact hD1
  refine kk H1 locs1 ⟨L, _, ⟨fun κ i hi => ⟨(hO.1 κ i hi).1, ?_⟩, hO.2⟩, ⟨ba, h1, fun j' hj' e => ?_, va_up_self .., fun k x q => ?_, h5⟩, hP2, hD2, hz⟩ hS1
  · rw [va_up_ne _ _ ((h1 j hj).2.1 κ i hi)]
    exact (hO.1 κ i hi).2
  · obtain ⟨e1, ⟨mc, e2⟩, e3⟩ := h2 j' hj' e
    refine ⟨e1, ⟨mc, ?_⟩, ?_⟩
    · rw [va_up_ne _ _ (fun q => e ((h1 j hj).2.2 j' hj' q))]
      exact e2
    · rcases e3 with e3 | ⟨cap, d1, d2, d3, d4, d5, d6, d7⟩
      · exact Or.inl e3
      · exact Or.inr ⟨cap, d1, d2, d3, d4, d5, d6, by rw [va_up_ne _ _ (fun q => d3 j hj q.symm)]; exact d7⟩
  · obtain ⟨d1, d2, d3, d4, d5, d6, d7⟩ := h4 k x q
    exact ⟨d1, d2, d3, d4, d5, by rw [va_up_ne _ _ (fun q => d3 j hj q.symm)]; exact d6, d7⟩
theorem lxLen (hx : p.tables.exec = Jvm.exec) (hb : c.code = cc) (hK : va_K G.2.1 pvC tys s) (htys : tys = pvT G) (hw : lxW G σ j mm b z AR H) (k : Nat) {x : LxA} (hk : AR[k]? = some x) (hdg : decode cc pc = .ok (.arraylength, 1))
    (kk : W p l e R s m args below meth c H locs cells slots Q (F0 m (pc + 1) ls (.int (nI x.2.1) :: rest))) : W p l e R s m args below meth c H locs cells slots Q (F0 m pc ls (.ref x.1 :: rest)) := by
  obtain ⟨L, f, hO, ⟨ba, h1, h2, h3, h4, h5⟩, hP, hD, hz⟩ := hw
  obtain ⟨d1, d2, d3, d4, d5, d6, d7⟩ := h4 k x hk
  obtain ⟨q0, hq⟩ := va_pl_get (X := []) (f := f) d1
  subst htys
  exact va_alen (D := G.2.1) (x := (x.2.1, .inr (.inr (.inr (.inr x.2.2))))) hx hb hK hP q0 3 (by rw [← d6]; exact hq) rfl rfl hdg kk
theorem lxLd (hx : p.tables.exec = Jvm.exec) (hb : c.code = cc) (hK : va_K G.2.1 pvC tys s) (htys : tys = pvT G) (hw : lxW G σ j mm b z AR H) (k : Nat) {x : LxA} (hk : AR[k]? = some x) {i : Int32} (hin : vp_in i x.2.1) (hdg : decode cc pc = .ok (.aaload, 1))
    (kk : W p l e R s m args below meth c H locs cells slots Q (F0 m (pc + 1) ls (va_rf (x.2.2 i.toNatClampNeg) :: rest))) : W p l e R s m args below meth c H locs cells slots Q (F0 m pc ls (.int i :: .ref x.1 :: rest)) := by
  obtain ⟨L, f, hO, ⟨ba, h1, h2, h3, h4, h5⟩, hP, hD, hz⟩ := hw
  obtain ⟨d1, d2, d3, d4, d5, d6, d7⟩ := h4 k x hk
  obtain ⟨q0, hq⟩ := va_pl_get (X := []) (f := f) d1
  subst htys
  exact va_aldq (D := G.2.1) hx hb hK hP q0 3 (by rw [← d6]; exact hq) rfl hin hdg kk
/-- an array of the list's is given other contents -/
theorem lx_set {L : List Nat} {f : Nat → va_E} (hO : pvO G.1 G.2.2.1 σ L f) (hI : lxIn G σ j mm b z AR L f) {k : Nat} {x : LxA} (hk : AR[k]? = some x) {g : Nat → Option Nat} (hg : ∀ t y, g t = some y → ∃ i, i < pvM σ (pvK j) ∧ y = G.2.2.1 (pvK j) i) (hj : j < σ.1 0 + 3) :
    pvO G.1 G.2.2.1 σ L (va_up f x.1 (.inl (G.1 3, x.2.1, .inr (.inr (.inr (.inr g)))))) ∧ lxIn G σ j mm b z (AR.set k (x.1, x.2.1, g)) L (va_up f x.1 (.inl (G.1 3, x.2.1, .inr (.inr (.inr (.inr g)))))) := by
  obtain ⟨ba, h1, h2, h3, h4, h5⟩ := hI
  obtain ⟨d1, d2, d3, d4, d5, d6, d7⟩ := h4 k x hk
  have hlt := (List.getElem?_eq_some_iff.mp hk).1
  refine ⟨⟨fun κ i hi => ⟨(hO.1 κ i hi).1, by rw [va_up_ne _ _ (d2 κ i hi)]; exact (hO.1 κ i hi).2⟩, hO.2⟩, ba, h1, fun j' hj' e => ?_, by rw [va_up_ne _ _ (d3 j hj)]; exact h3, fun k' y q => ?_, fun k1 k2 y1 y2 q1 q2 q3 => ?_⟩
  · obtain ⟨e1, ⟨mc, e2⟩, e3⟩ := h2 j' hj' e
    refine ⟨e1, ⟨mc, by rw [va_up_ne _ _ (d3 j' hj')]; exact e2⟩, ?_⟩
    rcases e3 with e3 | ⟨cap, c1, c2, c3, c4, c5, c6, c7⟩
    · exact Or.inl e3
    · exact Or.inr ⟨cap, c1, c2, c3, c4, c5, c6, by rw [va_up_ne _ _ (d4 j' hj' e)]; exact c7⟩
  · rw [List.getElem?_set] at q
    split at q
    · rename_i e
      subst e
      cases q
      exact ⟨d1, d2, d3, d4, d5, va_up_self .., hg⟩
    · rename_i e
      obtain ⟨c1, c2, c3, c4, c5, c6, c7⟩ := h4 k' y q
      exact ⟨c1, c2, c3, c4, c5, by rw [va_up_ne _ _ (fun z => e (h5 _ _ _ _ q hk z).symm)]; exact c6, c7⟩
  · have key : ∀ (k1 : Nat) (y1 : LxA), (AR.set k (x.1, x.2.1, g))[k1]? = some y1 → ∃ y : LxA, AR[k1]? = some y ∧ y.1 = y1.1 := by
      intro k1 y1 q
      rw [List.getElem?_set] at q
      split at q
      · rename_i e
        subst e
        cases q
        exact ⟨x, hk, rfl⟩
      · exact ⟨y1, q, rfl⟩
    obtain ⟨z1, a1, b1⟩ := key k1 y1 q1
    obtain ⟨z2, a2, b2⟩ := key k2 y2 q2
    exact h5 _ _ _ _ a1 a2 (by rw [b1, b2]; exact q3)
theorem lx_any {κ i : Nat} (hA : pvA0 G s s.heap) (hK : va_K G.2.1 pvC tys s) {L : List Nat} {f : Nat → va_E} (hO : pvO G.1 G.2.2.1 σ L f) (hP : va_P G.2.1 pvC (va_pl L f) H) (hi : i < pvM σ κ) (hκ : κ = 3 ∨ κ = 5) : va_Any "java/lang/Object" s H (G.2.2.1 κ i) := by
  obtain ⟨ha, he⟩ := hO.1 κ i hi
  obtain ⟨q0, hq⟩ := va_pl_get (X := []) (f := f) ha
  rw [he] at hq
  have hcast : ∀ C : String, va_Nw (.castable C "java/lang/Object") s → ∀ comp c0 : ClassId, s.vm.findClass "java/lang/Object" = some comp → s.vm.findClass C = some c0 → s.vm.assignable c0 comp = true := by
    intro C h comp c0 h1 h2
    obtain ⟨c1, t1, f1, f2, f3⟩ := Cond.castable_spec (va_Nw.use (A := #[]) rfl h)
    cases h2.symm.trans f1
    cases h1.symm.trans f2
    exact f3
  rcases hκ with rfl | rfl
  · rw [pvE_obj (by decide)] at hq
    exact va_rAny (r := (RX3, TX3, 14)) hK hP hq rfl (hcast _ hA.2.2.2.2.2.2.2.2.2.2.2.1)
  · rw [pvE_obj (by decide)] at hq
    exact va_rAny (r := (RX5, TX5, 10)) hK hP hq rfl (hcast _ hA.2.2.2.2.2.2.2.2.2.2.2.2.1)
theorem pvK_or (j : Nat) : pvK j = 3 ∨ pvK j = 5 := by unfold pvK; split <;> simp
theorem lxSt (hx : p.tables.exec = Jvm.exec) (hb : c.code = cc) (hA : pvA0 G s s.heap) (hK : va_K G.2.1 pvC tys s) (htys : tys = pvT G) (hw : lxW G σ j mm b z AR H) (hS : va_S (pvB G) H0 H locs) (hj : j < σ.1 0 + 3) (k : Nat) {x : LxA} (hk : AR[k]? = some x) {v : Nat} (hv : v < pvM σ (pvK j)) {i : Int32} (hin : vp_in i x.2.1) (hdg : decode cc pc = .ok (.aastore, 1))
    (kk : ∀ (H1 : Heap) (locs1 : List Loc), lxW G σ j mm b z (AR.set k (x.1, x.2.1, va_up x.2.2 i.toNatClampNeg (some (G.2.2.1 (pvK j) v)))) H1 → va_S (pvB G) H0 H1 locs1 → W p l e R s m args below meth c H1 locs1 cells slots Q (F0 m (pc + 1) ls rest)) : W p l e R s m args below meth c H locs cells slots Q (F0 m pc ls (.ref (G.2.2.1 (pvK j) v) :: .int i :: .ref x.1 :: rest)) := by
  obtain ⟨L, f, hO, hI, hP, hD, hz⟩ := hw
  have hI2 := hI
  obtain ⟨ba, h1, h2, h3, h4, h5⟩ := hI
  obtain ⟨d1, d2, d3, d4, d5, d6, d7⟩ := h4 k x hk
  obtain ⟨q0, hq⟩ := va_pl_get (X := []) (f := f) d1
  have hq : (va_pl L f)[q0]? = some (x.1, f x.1) := hq
  have hany := lx_any hA hK hO hP hv (pvK_or j)
  subst htys
  refine va_astqM (D := G.2.1) hx hb hK hP hD hS q0 3 (by rw [← d6]; exact hq) rfl hany hin hdg fun H1 locs1 hP1 hD1 hS1 => ?_
  have hset := va_pl_set (X := []) (e := .inl (G.1 3, x.2.1, .inr (.inr (.inr (.inr (va_up x.2.2 i.toNatClampNeg (some (G.2.2.1 (pvK j) v)))))))) hD d1 hq
  obtain ⟨g1, g2⟩ := lx_set hO hI2 hk (g := va_up x.2.2 i.toNatClampNeg (some (G.2.2.1 (pvK j) v))) (fun t y q => by
    unfold va_up at q
    split at q
    · cases q; exact ⟨v, hv, rfl⟩
    · exact d7 t y q) hj
  exact kk H1 locs1 ⟨L, _, g1, g2, by rw [← List.nil_append (va_pl L _), ← hset]; exact hP1, by rw [← List.nil_append (va_pl L _), ← hset]; exact hD1, hz⟩ hS1
theorem lxStN (hx : p.tables.exec = Jvm.exec) (hb : c.code = cc) (hK : va_K G.2.1 pvC tys s) (htys : tys = pvT G) (hw : lxW G σ j mm b z AR H) (hS : va_S (pvB G) H0 H locs) (hj : j < σ.1 0 + 3) (k : Nat) {x : LxA} (hk : AR[k]? = some x) {i : Int32} (hin : vp_in i x.2.1) (hdg : decode cc pc = .ok (.aastore, 1))
    (kk : ∀ (H1 : Heap) (locs1 : List Loc), lxW G σ j mm b z (AR.set k (x.1, x.2.1, va_up x.2.2 i.toNatClampNeg none)) H1 → va_S (pvB G) H0 H1 locs1 → W p l e R s m args below meth c H1 locs1 cells slots Q (F0 m (pc + 1) ls rest)) : W p l e R s m args below meth c H locs cells slots Q (F0 m pc ls (.null :: .int i :: .ref x.1 :: rest)) := by
  obtain ⟨L, f, hO, hI, hP, hD, hz⟩ := hw
  have hI2 := hI
  obtain ⟨ba, h1, h2, h3, h4, h5⟩ := hI
  obtain ⟨d1, d2, d3, d4, d5, d6, d7⟩ := h4 k x hk
  obtain ⟨q0, hq⟩ := va_pl_get (X := []) (f := f) d1
  have hq : (va_pl L f)[q0]? = some (x.1, f x.1) := hq
  subst htys
  refine va_astqN (D := G.2.1) hx hb hK hP hD hS q0 3 (by rw [← d6]; exact hq) rfl hin hdg fun H1 locs1 hP1 hD1 hS1 => ?_
  have hset := va_pl_set (X := []) (e := .inl (G.1 3, x.2.1, .inr (.inr (.inr (.inr (va_up x.2.2 i.toNatClampNeg none)))))) hD d1 hq
  obtain ⟨g1, g2⟩ := lx_set hO hI2 hk (g := va_up x.2.2 i.toNatClampNeg none) (fun t y q => by
    unfold va_up at q
    split at q
    · cases q
    · exact d7 t y q) hj
  exact kk H1 locs1 ⟨L, _, g1, g2, by rw [← List.nil_append (va_pl L _), ← hset]; exact hP1, by rw [← List.nil_append (va_pl L _), ← hset]; exact hD1, hz⟩ hS1
/-- System.arraycopy between the list's arrays (or within one) -/
theorem lxCp (hx : p.tables.exec = Jvm.exec) (hb : c.code = cc) (hml : c.maxLocals = ls.size) (hown : s.vm.findClass own = some m.cls) (hlink : (Cond.methodLink own index arraycopyName).before args s = true) (hnat : (Cond.native arraycopyName).before args s = true) (hstat : (Cond.static arraycopyName).before args s = true) (hini : (Cond.initialized "java/lang/System").before args s = true)
    (hA : pvA0 G s s.heap) (hK : va_K G.2.1 pvC tys s) (htys : tys = pvT G) (hw : lxW G σ j mm b z AR H) (hS : va_S (pvB G) H0 H locs) (hj : j < σ.1 0 + 3) (k k' : Nat) {x y : LxA} (hk : AR[k]? = some x) (hk' : AR[k']? = some y) {sp dp n : Int32} (h1 : ¬ sp < 0) (h2 : ¬ dp < 0) (h3 : ¬ n < 0) (h4 : sp.toNatClampNeg + n.toNatClampNeg ≤ x.2.1) (h5 : dp.toNatClampNeg + n.toNatClampNeg ≤ y.2.1)
    (hframes : 1 ≤ R.frames) (hlocals : (rest.map fun v => v.category).sum + (nativeFrameWords "java/lang/System" "arraycopy" 5 + 11) ≤ R.locals) (hdg : decode cc pc = .ok (.invokestatic index, 3))
    (kk : ∀ (H1 : Heap) (locs1 : List Loc), lxW G σ j mm b z (AR.set k' (y.1, y.2.1, va_cpy x.2.2 y.2.2 sp.toNatClampNeg dp.toNatClampNeg n.toNatClampNeg)) H1 → va_S (pvB G) H0 H1 locs1 → W p l e R s m args below meth c H1 locs1 cells slots Q (F0 m (pc + 3) ls rest)) : W p l e R s m args below meth c H locs cells slots Q (F0 m pc ls (.int n :: .int dp :: .ref y.1 :: .int sp :: .ref x.1 :: rest)) := by
  obtain ⟨L, f, hO, hI, hP, hD, hz⟩ := hw
  have hI2 := hI
  obtain ⟨ba, g1, g2, g3, g4, g5⟩ := hI
  obtain ⟨d1, d2, d3, d4, d5, d6, d7⟩ := g4 k x hk
  obtain ⟨e1, e2, e3, e4, e5, e6, e7⟩ := g4 k' y hk'
  obtain ⟨q0, hq⟩ := va_pl_get (X := []) (f := f) d1
  obtain ⟨q1, hq1⟩ := va_pl_get (X := []) (f := f) e1
  have hq1 : (va_pl L f)[q1]? = some (y.1, f y.1) := hq1
  subst htys
  refine va_copyM (D := G.2.1) hx hb hml hown hlink hnat hstat hini hK hP hD hS q0 q1 3 3 (by rw [← d6]; exact hq) (by rw [← e6]; exact hq1) rfl rfl h1 h2 h3 h4 h5 (fun i _ w hw => ?_) hframes hlocals hdg fun H1 locs1 hP1 hD1 hS1 => ?_
  · obtain ⟨i', hi', rfl⟩ := d7 _ w hw
    exact lx_any hA hK hO hP hi' (pvK_or j)
  · have hset := va_pl_set (X := []) (e := .inl (G.1 3, y.2.1, .inr (.inr (.inr (.inr (va_cpy x.2.2 y.2.2 sp.toNatClampNeg dp.toNatClampNeg n.toNatClampNeg)))))) hD e1 hq1
    obtain ⟨a1, a2⟩ := lx_set hO hI2 hk' (g := va_cpy x.2.2 y.2.2 sp.toNatClampNeg dp.toNatClampNeg n.toNatClampNeg) (fun t w q => by
      by_cases hin : dp.toNatClampNeg ≤ t ∧ t < dp.toNatClampNeg + n.toNatClampNeg
      · rw [pk_cpy_in hin.1 hin.2] at q; exact d7 _ w q
      · rw [pk_cpy_out (by omega)] at q; exact e7 _ w q) hj
    exact kk H1 locs1 ⟨L, _, a1, a2, by rw [← List.nil_append (va_pl L _), ← hset]; exact hP1, by rw [← List.nil_append (va_pl L _), ← hset]; exact hD1, hz⟩ hS1
/-- a new array of objects -/
theorem lxNew (hx : p.tables.exec = Jvm.exec) (hb : c.code = cc) (hown : s.vm.findClass own = some m.cls) (hcl : (Cond.classLink own index "java/lang/Object").before args s = true) (hA : pvA0 G s s.heap) (hK : va_K G.2.1 pvC tys s) (htys : tys = pvT G) (hw : lxW G σ j mm b z AR H) (hS : va_S (pvB G) s.heap H locs) (hj : j < σ.1 0 + 3) {N : Nat} (hN : 0 < N ∧ N ≤ 1000) (hcells : cells + 1 ≤ R.cells) (hslots : slots + N ≤ R.slots) (hdg : decode cc pc = .ok (.anewarray index, 3))
    (kk : ∀ (q : Nat) (H1 : Heap) (locs1 : List Loc), lxW G σ j mm b z (AR ++ [(q, N, fun _ => none)]) H1 → va_S (pvB G) s.heap H1 locs1 → W p l e R s m args below meth c H1 locs1 (cells + 1) (slots + N) Q (F0 m (pc + 3) ls (.ref q :: rest))) : W p l e R s m args below meth c H locs cells slots Q (F0 m pc ls (.int (nI N) :: rest)) := by
  obtain ⟨L, f, hO, ⟨ba, g1, g2, g3, g4, g5⟩, hP, hD, hz⟩ := hw
  have hN2 : N < 2 ^ 31 := by omega
  refine va_newq (D := G.2.1) hx hb hown hcl hA.2.2.2.2.2.2.2.2.2.2.2.2.2.1 hK hP hD hS hA.1 (nI_pos hN2) (nI_clamp hN2) (by omega) hcells hslots hdg fun q cA H1 hK1 hP1 hD1 hS1 => ?_
  have hcA : cA = G.1 3 := by
    have a1 := (hK1.2 tys.length (cA, .object "java/lang/Object") (by simp)).2
    have a2 := (hK.2 3 (G.1 3, .object "java/lang/Object") (by rw [htys]; rfl)).2
    obtain ⟨_, _, _, _, _, b1⟩ := a1
    obtain ⟨_, _, _, _, _, b2⟩ := a2
    exact Option.some.inj (b1.symm.trans b2)
  subst hcA
  have hql : q ∉ L := by
    intro hq
    obtain ⟨i, hi⟩ := va_pl_get (X := []) (f := f) hq
    have hi : (va_pl L f)[i]? = some (q, f q) := hi
    have hlt := (List.getElem?_eq_some_iff.mp hi).1
    have := hD1.1 i (va_pl L f).length (q, f q) (q, .inl (G.1 3, N, .inr (.inr (.inr (.inr (fun _ => none)))))) (by rw [List.getElem?_append_left hlt]; exact hi) (by simp) rfl
    omega
  have hpush := va_pl_push (f := f) (e := .inl (G.1 3, N, .inr (.inr (.inr (.inr (fun _ => none)))))) hql
  rw [hpush] at hP1 hD1
  have hne : ∀ w, w ∈ L → w ≠ q := fun w hw e => hql (e ▸ hw)
  refine kk q H1 locs ⟨L ++ [q], _, ⟨fun κ i hi => ⟨List.mem_append_left _ (hO.1 κ i hi).1, by rw [va_up_ne _ _ (hne _ (hO.1 κ i hi).1)]; exact (hO.1 κ i hi).2⟩, hO.2⟩, ⟨ba, fun j' hj' => ⟨List.mem_append_left _ (g1 j' hj').1, (g1 j' hj').2⟩, fun j' hj' e => ?_, ?_, fun k x hx => ?_, fun k k' x y hx hy e => ?_⟩, hP1, hD1, hz⟩ hS1
  · obtain ⟨e1, ⟨mc, e2⟩, e3⟩ := g2 j' hj' e
    refine ⟨e1, ⟨mc, by rw [va_up_ne _ _ (hne _ (g1 j' hj').1)]; exact e2⟩, ?_⟩
    rcases e3 with e3 | ⟨cap, c1, c2, c3, c4, c5, c6, c7⟩
    · exact Or.inl e3
    · exact Or.inr ⟨cap, List.mem_append_left _ c1, c2, c3, c4, c5, c6, by rw [va_up_ne _ _ (hne _ c1)]; exact c7⟩
  · rw [va_up_ne _ _ (hne _ (g1 j hj).1)]; exact g3
  · by_cases hlt : k < AR.length
    · rw [List.getElem?_append_left hlt] at hx
      obtain ⟨c1, c2, c3, c4, c5, c6, c7⟩ := g4 k x hx
      exact ⟨List.mem_append_left _ c1, c2, c3, c4, c5, by rw [va_up_ne _ _ (hne _ c1)]; exact c6, c7⟩
    · rw [List.getElem?_append_right (by omega)] at hx
      have h0 := (List.getElem?_eq_some_iff.mp hx).1
      have h0 : k - AR.length = 0 := by simpa using h0
      rw [h0] at hx
      cases hx
      refine ⟨by simp, fun κ i hi => hne _ (hO.1 κ i hi).1, fun j' hj' => hne _ (g1 j' hj').1, fun j' hj' e w => ?_, hN, va_up_self .., fun t y w => by cases w⟩
      rcases (g2 j' hj' e).2.2 with ⟨-, e3⟩ | ⟨cap, c1, -⟩
      · have : G.2.2.2.2 q := by
          have := hD1.2 L.length (q, (va_up f q (.inl (G.1 3, N, .inr (.inr (.inr (.inr (fun _ => none))))))) q) (by simp [va_pl])
          exact this
        exact hz.1 (by rw [← e3]; exact w ▸ this)
      · exact hne _ c1 w
  · have key : ∀ (k : Nat) (x : LxA), (AR ++ [(q, N, fun _ => none)])[k]? = some x → (AR[k]? = some x ∧ x.1 ∈ L) ∨ (k = AR.length ∧ x.1 = q) := by
      intro k x hx
      by_cases hlt : k < AR.length
      · rw [List.getElem?_append_left hlt] at hx
        exact Or.inl ⟨hx, (g4 k x hx).1⟩
      · rw [List.getElem?_append_right (by omega)] at hx
        have h0 := (List.getElem?_eq_some_iff.mp hx).1
        have h0 : k - AR.length = 0 := by simpa using h0
        rw [h0] at hx
        cases hx
        exact Or.inr ⟨by omega, rfl⟩
    rcases key k x hx with ⟨a1, b1⟩ | ⟨a1, b1⟩ <;> rcases key k' y hy with ⟨a2, b2⟩ | ⟨a2, b2⟩
    · exact g5 _ _ _ _ a1 a2 e
    · exact absurd (e.trans b2) (hne _ b1)
    · exact absurd (e.symm.trans b1) (hne _ b2)
    · rw [a1, a2]
end LX
