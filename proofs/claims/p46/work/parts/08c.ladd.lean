/-! LISTS, changed: add, remove, clear -/
theorem lx_app {ad : Nat → Nat} {l : List Nat} {v : Nat} {g : Nat → Option Nat} (hg : ∀ t, t < l.length → g t = (l[t]?).map ad) (hn : ∀ t, l.length ≤ t → g t = none) (t : Nat) : va_up g l.length (some (ad v)) t = ((l ++ [v])[t]?).map ad := by
  unfold va_up
  by_cases e : t = l.length
  · subst e; rw [if_pos rfl, List.getElem?_append_right (Nat.le_refl _), Nat.sub_self]; rfl
  · rw [if_neg e]
    by_cases h : t < l.length
    · rw [hg t h, List.getElem?_append_left h]
    · rw [hn t (by omega), List.getElem?_append_right (by omega)]
      have : 1 ≤ t - l.length := by omega
      rw [List.getElem?_eq_none (by simpa using this)]
      rfl
theorem lx_none {ad : Nat → Nat} {l : List Nat} {t : Nat} (h : l.length ≤ t) : (l[t]?).map ad = none := by
  rw [List.getElem?_eq_none h]
  rfl
def lxCase (G : PvG) (σ : PvS) (j b : Nat) (AR : List LxA) : Prop := (AR = [] ∧ b = G.2.2.2.1.1 0 ∧ σ.2.2.2.2 j = []) ∨ ∃ cap, AR = [(b, cap, fun t => ((σ.2.2.2.2 j)[t]?).map (G.2.2.1 (pvK j)))] ∧ (σ.2.2.2.2 j).length ≤ cap ∧ (0 < cap ∧ cap ≤ 1000)
set_option maxHeartbeats 4000000 in
set_option maxRecDepth 100000 in
theorem c_ladd3 {l : Launch} {G : PvG} {tys : List (ClassId × FieldType)} {σ : PvS} (htys : tys = pvT G) {j : Nat} (hj : j < σ.1 0 + 3) {mm : Int32} {b : Nat} {AR : List LxA} {v : Nat} (hv : v < pvM σ (pvK j)) (hlen : (σ.2.2.2.2 j).length < 64) (hcl : ∀ x ∈ σ.2.2.2.2 j, x < pvM σ (pvK j)) (hcase : lxCase G σ j b AR)  : Met l yJx4a65c_add_72be8 (Cond.code yJx4a65c_add_72be8 cJx4a65c_add_72be8 4 none :: WA) ({ frames := 5, cells := 1, slots := 96, locals := 190 }) (va_Pc [.ref (G.2.2.1 10 j), .ref (G.2.2.1 (pvK j) v), .ref b, .int (nI (σ.2.2.2.2 j).length)] (pvUx G tys σ j mm b (nI (σ.2.2.2.2 j).length) AR)) (va_Qv (fun σ' => σ' = pvL σ j ((σ.2.2.2.2 j) ++ [v])) (pvU G tys) (pvB G)) 1 96 (pvB G) := by
  refine Met.ofW (cc := cJx4a65c_add_72be8) (maxL := 4) (ret := none) (by decide) rfl ?_
  intro p e s m args below meth c s₁ B hml hv
  obtain ⟨rfl, hw, hK, hA⟩ := hv
  have hx := B.exec
  have hb := B.bytes
  have hr := B.returns
  have hts0 := atoms_spec (ws := (Cond.code yJx4a65c_add_72be8 cJx4a65c_add_72be8 4 none :: WA)) B.pre
  have hts : ∀ w ∈ WA, w.before _ s = true := fun w h => hts0 w (List.mem_cons_of_mem _ h)
  have hown : s.vm.findClass RJx4a65c = some m.cls := findClass_of_methodNamed B.named
  have hlocks := B.notSynchronized
  have hS : va_S (pvB G) s.heap s.heap [] := va_S.rf
  have hl := lv_entry ([.ref (G.2.2.1 10 j), .ref (G.2.2.1 (pvK j) v), .ref b, .int (nI (σ.2.2.2.2 j).length)]) (n := 4) (Nat.le_of_ble_eq_true rfl)
  rw [lg_entry_eq]
  generalize (lg_sl ([.ref (G.2.2.1 10 j), .ref (G.2.2.1 (pvK j) v), .ref b, .int (nI (σ.2.2.2.2 j).length)]) ++ List.replicate (4 - (lg_sl ([.ref (G.2.2.1 10 j), .ref (G.2.2.1 (pvK j) v), .ref b, .int (nI (σ.2.2.2.2 j).length)])).length) Slot.unset).toArray = ls at hl ⊢
  have hl : lv_has ls 4 [(0, .ref (G.2.2.1 10 j)), (1, .ref (G.2.2.1 (pvK j) v)), (2, .ref b), (3, .int (nI (σ.2.2.2.2 j).length))] := hl
  have hcl' : ∀ x ∈ (σ.2.2.2.2 j) ++ [v], x < pvM σ (pvK j) := fun x hx => (List.mem_append.mp hx).elim (hcl x) (fun h => by rw [List.mem_singleton.mp h]; exact hv)
  have hl64 : ((σ.2.2.2.2 j) ++ [v]).length ≤ 64 := by rw [List.length_append]; show _ + 1 ≤ 64; omega
  have hzz : nI (σ.2.2.2.2 j).length + 1 = nI ((σ.2.2.2.2 j) ++ [v]).length := by rw [nI_1, List.length_append]; rfl
  -- what is left when the array has room
  have fin : ∀ (H : Heap) (locs : List Loc) (cl sl : Nat) (q : Nat) (AR : List LxA) (k cap : Nat) (g : Nat → Option Nat), cl ≤ 1 → sl ≤ 96 → AR[k]? = some (q, cap, g) → (σ.2.2.2.2 j).length < cap → cap ≤ 1000 → (∀ t, g t = (((σ.2.2.2.2 j))[t]?).map (G.2.2.1 (pvK j))) → lxW G σ j mm q (nI (σ.2.2.2.2 j).length) AR H → va_S (pvB G) s.heap H locs → ∀ ls, lv_has ls 4 [(0, .ref (G.2.2.1 10 j)), (1, .ref (G.2.2.1 (pvK j) v)), (2, .ref q), (3, .int (nI (σ.2.2.2.2 j).length))] →
    W p l e (headSpec (Cond.code yJx4a65c_add_72be8 cJx4a65c_add_72be8 4 none :: WA) ({ frames := 5, cells := 1, slots := 96, locals := 190 } : Room)).room s m ([.ref (G.2.2.1 10 j), .ref (G.2.2.1 (pvK j) v), .ref b, .int (nI (σ.2.2.2.2 j).length)] : List Value).toArray below meth c H locs cl sl (MQ below (va_Qv (fun σ' => σ' = pvL σ j ((σ.2.2.2.2 j) ++ [v])) (pvU G tys) (pvB G)) ([.ref (G.2.2.1 10 j), .ref (G.2.2.1 (pvK j) v), .ref b, .int (nI (σ.2.2.2.2 j).length)] : List Value).toArray s 1 96 (pvB G)) (F0 m 11 ls []) := by
    intro H locs cl sl q AR k cap g hcl1 hsl1 hk hcap hcap2 hg hw hS ls hl
    refine lv_aload_n hx hb dJx4a65c_add_72be8_11 rfl (lv_at hl 2 rfl) ?_
    refine lv_iload_n hx hb dJx4a65c_add_72be8_12 rfl (lv_at hl 3 rfl) ?_
    refine lv_aload_n hx hb dJx4a65c_add_72be8_13 rfl (lv_at hl 1 rfl) ?_
    refine lxSt hx hb hA hK htys hw hS hj k (x := (q, cap, g)) hk hv (vp_in_nI hcap (show cap < 2 ^ 31 by omega)) dJx4a65c_add_72be8_14 (fun H locs hw hS => ?_)
    refine lv_aload_n hx hb dJx4a65c_add_72be8_15 rfl (lv_at hl 0 rfl) ?_
    refine lv_iload_n hx hb dJx4a65c_add_72be8_16 rfl (lv_at hl 3 rfl) ?_
    refine lv_iconst (v := 1) hx hb dJx4a65c_add_72be8_17 (by decide) ?_
    refine lv_iadd hx hb dJx4a65c_add_72be8_18 ?_
    refine lxPut (ty := .int) (mm' := mm) (b' := q) (z' := (nI (σ.2.2.2.2 j).length + 1)) hx hb hts hown hK hw hS hj 2 (by decide) rfl (hts _ wm122) (fun _ h9 => h9) rfl (by decide +kernel) rfl rfl dJx4a65c_add_72be8_19 (fun H locs hw hS => ?_)
    have hlt := (List.getElem?_eq_some_iff.mp hk).1
    have hw2 := lx_close (v := (σ.2.2.2.2 j) ++ [v]) (k := k) (cap := cap) (g := va_up g (nI (σ.2.2.2.2 j).length).toNatClampNeg (some (G.2.2.1 (pvK j) v))) hj hw hl64 hcl' hzz (Or.inr ⟨by rw [List.getElem?_set_self hlt], by rw [List.length_append]; exact hcap, fun t => by rw [nI_clamp (by omega)]; exact lx_app (fun t _ => hg t) (fun t h => by rw [hg t]; exact lx_none h) t⟩)
    refine W.widen (k := 1) (n := 96) hcl1 hsl1 ?_
    exact pev hx hb hr hlocks hA hw2 hK hS rfl dJx4a65c_add_72be8_22
  refine lv_iload_n hx hb dJx4a65c_add_72be8_0 rfl (lv_at hl 3 rfl) ?_
  refine lv_aload_n hx hb dJx4a65c_add_72be8_1 rfl (lv_at hl 2 rfl) ?_
  rcases hcase with ⟨hAR, hb0, hnil⟩ | ⟨cap, hAR, hc1, hc2⟩
  · subst hAR
    subst hb0
    refine va_tlen hx hb hA.2.1.1.2 hS (v := 0) rfl dJx4a65c_add_72be8_2 ?_
    refine lv_icmp_ne (tgt := 11) hx hb dJx4a65c_add_72be8_3 (by decide) (fun w => absurd (by rw [hnil]; rfl) w) (fun _ => ?_)
    refine lv_aload_n hx hb dJx4a65c_add_72be8_6 rfl (lv_at hl 0 rfl) ?_
    refine va_callq (va_runV (As := []) (rest := []) ⟨hx, hb, hml, hown, hts⟩ (c_grow0 (l := l) (G := G) (tys := tys) (σ := σ) htys hj (c0 := 0) (g := fun _ => none) (by omega) (Or.inl ⟨rfl, rfl, rfl⟩) (by rw [hnil]; rfl)) (cwV 0 hts (gVA wm127 wm128 wm129 wm13 wm130) rfl rfl rfl (by decide +kernel) ⟨Nat.le_of_ble_eq_true rfl, Nat.le_of_ble_eq_true rfl⟩) (lx_preV hA hS hw hK hj []) rfl rfl hl.1 rfl (lv_room (Nat.le_of_ble_eq_true rfl)) dJx4a65c_add_72be8_7 ⟨Nat.le_refl 1, Nat.le_of_ble_eq_true rfl⟩) hS (fun _ _ h => h) (fun _ h => h) (fun r u t H locs ht hvm hp hB _ _ hS => ?_)
    obtain ⟨hp1, cap, g1, hc1, hc2, ⟨k, hk⟩, hg1⟩ := hp
    subst hp1
    have hw := hB.1
    rw [ht] at hw
    refine lv_astore_n (lv' := [(2, .ref u.1), (0, .ref (G.2.2.1 10 j)), (1, .ref (G.2.2.1 (pvK j) v)), (3, .int (nI (σ.2.2.2.2 j).length))]) hx hb dJx4a65c_add_72be8_10 rfl hl (by decide) rfl (fun ls hl => ?_)
    exact fin _ _ _ _ u.1 u.2 k cap g1 (by omega) (by omega) hk (by rw [hnil]; exact hc1) hc2 (fun t => by rw [hg1 t, hnil]; simp) hw hS ls (lv_sub hl [1, 2, 0, 3] rfl)
  · subst hAR
    refine lxLen hx hb hK htys hw 0 (x := (b, cap, fun t => (((σ.2.2.2.2 j))[t]?).map (G.2.2.1 (pvK j)))) rfl dJx4a65c_add_72be8_2 ?_
    refine lv_icmp_ne (tgt := 11) hx hb dJx4a65c_add_72be8_3 (by decide) (fun w => ?_) (fun w => ?_)
    · have hne : (σ.2.2.2.2 j).length ≠ cap := fun q => w (by rw [q])
      exact fin _ _ _ _ b _ 0 cap _ (by omega) (by omega) rfl (by omega) hc2.2 (fun t => rfl) hw hS ls (lv_sub hl [0, 1, 2, 3] rfl)
    · have hne : (σ.2.2.2.2 j).length = cap := (nI_eq (by omega) (by omega)).mp w
      subst hne
      refine lv_aload_n hx hb dJx4a65c_add_72be8_6 rfl (lv_at hl 0 rfl) ?_
      refine va_callq (va_runV (As := []) (rest := []) ⟨hx, hb, hml, hown, hts⟩ (c_grow0 (l := l) (G := G) (tys := tys) (σ := σ) htys hj (c0 := (σ.2.2.2.2 j).length) (g := fun t => (((σ.2.2.2.2 j))[t]?).map (G.2.2.1 (pvK j))) (by omega) (Or.inr ⟨rfl, by omega⟩) rfl) (cwV 0 hts (gVA wm127 wm128 wm129 wm13 wm130) rfl rfl rfl (by decide +kernel) ⟨Nat.le_of_ble_eq_true rfl, Nat.le_of_ble_eq_true rfl⟩) (lx_preV hA hS hw hK hj []) rfl rfl hl.1 rfl (lv_room (Nat.le_of_ble_eq_true rfl)) dJx4a65c_add_72be8_7 ⟨Nat.le_refl 1, Nat.le_of_ble_eq_true rfl⟩) hS (fun _ _ h => h) (fun _ h => h) (fun r u t H locs ht hvm hp hB _ _ hS => ?_)
      obtain ⟨hp1, cap, g1, hd1, hd2, ⟨k, hk⟩, hg1⟩ := hp
      subst hp1
      have hw := hB.1
      rw [ht] at hw
      refine lv_astore_n (lv' := [(2, .ref u.1), (0, .ref (G.2.2.1 10 j)), (1, .ref (G.2.2.1 (pvK j) v)), (3, .int (nI (σ.2.2.2.2 j).length))]) hx hb dJx4a65c_add_72be8_10 rfl hl (by decide) rfl (fun ls hl => ?_)
      refine fin _ _ _ _ u.1 u.2 k cap g1 (by omega) (by omega) hk hd1 hd2 (fun t => ?_) hw hS ls (lv_sub hl [1, 2, 0, 3] rfl)
      rw [hg1 t]
      split
      · rfl
      · rename_i w; rw [lx_none (by omega)]
set_option maxHeartbeats 4000000 in
set_option maxRecDepth 100000 in
theorem c_ladd {l : Launch} {G : PvG} {tys : List (ClassId × FieldType)} {σ : PvS} (htys : tys = pvT G) {j : Nat} (hj : j < σ.1 0 + 3) {v : Nat} (hv : v < pvM σ (pvK j)) (hlen : (σ.2.2.2.2 j).length < 64)  : Met l yJx4a65c_add_9ea2d (Cond.code yJx4a65c_add_9ea2d cJx4a65c_add_9ea2d 2 (some .boolean) :: WA) ({ frames := 6, cells := 1, slots := 96, locals := 220 }) (va_Pc [.ref (G.2.2.1 10 j), .ref (G.2.2.1 (pvK j) v)] (pvU G tys σ)) (va_Qi (fun r σ' => r = 1 ∧ σ' = pvL σ j ((σ.2.2.2.2 j) ++ [v])) (pvU G tys) (pvB G)) 1 96 (pvB G) := by
  refine Met.ofW (cc := cJx4a65c_add_9ea2d) (maxL := 2) (ret := (some .boolean)) (by decide) rfl ?_
  intro p e s m args below meth c s₁ B hml hv
  obtain ⟨rfl, hw, hK, hA⟩ := hv
  have hx := B.exec
  have hb := B.bytes
  have hr := B.returns
  have hts0 := atoms_spec (ws := (Cond.code yJx4a65c_add_9ea2d cJx4a65c_add_9ea2d 2 (some .boolean) :: WA)) B.pre
  have hts : ∀ w ∈ WA, w.before _ s = true := fun w h => hts0 w (List.mem_cons_of_mem _ h)
  have hown : s.vm.findClass RJx4a65c = some m.cls := findClass_of_methodNamed B.named
  have hlocks := B.notSynchronized
  have hS : va_S (pvB G) s.heap s.heap [] := va_S.rf
  have hl := lv_entry ([.ref (G.2.2.1 10 j), .ref (G.2.2.1 (pvK j) v)]) (n := 2) (Nat.le_of_ble_eq_true rfl)
  rw [lg_entry_eq]
  generalize (lg_sl ([.ref (G.2.2.1 10 j), .ref (G.2.2.1 (pvK j) v)]) ++ List.replicate (2 - (lg_sl ([.ref (G.2.2.1 10 j), .ref (G.2.2.1 (pvK j) v)])).length) Slot.unset).toArray = ls at hl ⊢
  have hl : lv_has ls 2 [(0, .ref (G.2.2.1 10 j)), (1, .ref (G.2.2.1 (pvK j) v))] := hl
  obtain ⟨h64, hcl, mm, b, AR, hw, hcase⟩ := lx_open hw hj
  refine lv_aload_n hx hb dJx4a65c_add_9ea2d_0 rfl (lv_at hl 0 rfl) ?_
  refine lv_dup hx hb dJx4a65c_add_9ea2d_1 rfl ?_
  refine lxGet hx hb hts hown hK hw hj 0 (by decide) rfl (hts _ wm120) (fun x hx => u_same (hts _ wm121) x hx) dJx4a65c_add_9ea2d_2 ?_
  refine lv_iconst (v := 1) hx hb dJx4a65c_add_9ea2d_5 (by decide) ?_
  refine lv_iadd hx hb dJx4a65c_add_9ea2d_6 ?_
  refine lxPut (ty := .int) (mm' := (mm + 1)) (b' := b) (z' := (nI (σ.2.2.2.2 j).length)) hx hb hts hown hK hw hS hj 0 (by decide) rfl (hts _ wm120) (fun x hx => u_same (hts _ wm121) x hx) rfl (by decide +kernel) rfl rfl dJx4a65c_add_9ea2d_7 (fun H locs hw hS => ?_)
  refine lv_aload_n hx hb dJx4a65c_add_9ea2d_10 rfl (lv_at hl 0 rfl) ?_
  refine lv_aload_n hx hb dJx4a65c_add_9ea2d_11 rfl (lv_at hl 1 rfl) ?_
  refine lv_aload_n hx hb dJx4a65c_add_9ea2d_12 rfl (lv_at hl 0 rfl) ?_
  refine lxGet hx hb hts hown hK hw hj 1 (by decide) rfl (hts _ wm47) (fun _ h9 => h9) dJx4a65c_add_9ea2d_13 ?_
  refine lv_aload_n hx hb dJx4a65c_add_9ea2d_16 rfl (lv_at hl 0 rfl) ?_
  refine lxGet hx hb hts hown hK hw hj 2 (by decide) rfl (hts _ wm122) (fun _ h9 => h9) dJx4a65c_add_9ea2d_17 ?_
  refine va_callv (va_runV (As := [.ref (G.2.2.1 (pvK j) v), .ref b, .int (nI (σ.2.2.2.2 j).length)]) (rest := []) ⟨hx, hb, hml, hown, hts⟩ (c_ladd3 (l := l) (G := G) (tys := tys) (σ := σ) htys hj (mm := mm + 1) hv hlen hcl hcase) (cwV 3 hts (gVA wm123 wm124 wm125 wm13 wm126) rfl rfl rfl (by decide +kernel) ⟨Nat.le_of_ble_eq_true rfl, Nat.le_of_ble_eq_true rfl⟩) (lx_preV hA hS hw hK hj [.ref (G.2.2.1 (pvK j) v), .ref b, .int (nI (σ.2.2.2.2 j).length)]) rfl rfl hl.1 rfl (lv_room (Nat.le_of_ble_eq_true rfl)) dJx4a65c_add_9ea2d_20 ⟨Nat.le_refl 1, Nat.le_of_ble_eq_true rfl⟩) hS (fun _ _ h => h) (fun _ h => h) (fun u t H locs ht hvm hp hB _ _ hS => ?_)
  have hw := hB.1
  rw [ht] at hw
  refine lv_iconst (v := 1) hx hb dJx4a65c_add_9ea2d_23 (by decide) ?_
  exact pez hx hb hr rfl hlocks hA hw hK hS ⟨rfl, hp⟩ dJx4a65c_add_9ea2d_24
set_option maxHeartbeats 4000000 in
set_option maxRecDepth 100000 in
theorem c_lclear {l : Launch} {G : PvG} {tys : List (ClassId × FieldType)} {σ : PvS} (htys : tys = pvT G) {j : Nat} (hj : j < σ.1 0 + 3)  : Met l yJx4a65c_clear_da8c8 (Cond.code yJx4a65c_clear_da8c8 cJx4a65c_clear_da8c8 4 none :: WA) ({ frames := 0, cells := 0, slots := 0, locals := 0 }) (va_Pc [.ref (G.2.2.1 10 j)] (pvU G tys σ)) (va_Qv (fun σ' => σ' = pvL σ j []) (pvU G tys) (pvB G)) 0 0 (pvB G) := by
  refine Met.ofW (cc := cJx4a65c_clear_da8c8) (maxL := 4) (ret := none) (by decide) rfl ?_
  intro p e s m args below meth c s₁ B hml hv
  obtain ⟨rfl, hw, hK, hA⟩ := hv
  have hx := B.exec
  have hb := B.bytes
  have hr := B.returns
  have hts0 := atoms_spec (ws := (Cond.code yJx4a65c_clear_da8c8 cJx4a65c_clear_da8c8 4 none :: WA)) B.pre
  have hts : ∀ w ∈ WA, w.before _ s = true := fun w h => hts0 w (List.mem_cons_of_mem _ h)
  have hown : s.vm.findClass RJx4a65c = some m.cls := findClass_of_methodNamed B.named
  have hlocks := B.notSynchronized
  have hS : va_S (pvB G) s.heap s.heap [] := va_S.rf
  have hl := lv_entry ([.ref (G.2.2.1 10 j)]) (n := 4) (Nat.le_of_ble_eq_true rfl)
  rw [lg_entry_eq]
  generalize (lg_sl ([.ref (G.2.2.1 10 j)]) ++ List.replicate (4 - (lg_sl ([.ref (G.2.2.1 10 j)])).length) Slot.unset).toArray = ls at hl ⊢
  have hl : lv_has ls 4 [(0, .ref (G.2.2.1 10 j))] := hl
  obtain ⟨h64, hcl, mm, b, AR, hw, hcase⟩ := lx_open hw hj
  refine lv_aload_n hx hb dJx4a65c_clear_da8c8_0 rfl (lv_at hl 0 rfl) ?_
  refine lv_dup hx hb dJx4a65c_clear_da8c8_1 rfl ?_
  refine lxGet hx hb hts hown hK hw hj 0 (by decide) rfl (hts _ wm120) (fun x hx => u_same (hts _ wm121) x hx) dJx4a65c_clear_da8c8_2 ?_
  refine lv_iconst (v := 1) hx hb dJx4a65c_clear_da8c8_5 (by decide) ?_
  refine lv_iadd hx hb dJx4a65c_clear_da8c8_6 ?_
  refine lxPut (ty := .int) (mm' := (mm + 1)) (b' := b) (z' := (nI (σ.2.2.2.2 j).length)) hx hb hts hown hK hw hS hj 0 (by decide) rfl (hts _ wm120) (fun x hx => u_same (hts _ wm121) x hx) rfl (by decide +kernel) rfl rfl dJx4a65c_clear_da8c8_7 (fun H locs hw hS => ?_)
  refine lv_aload_n hx hb dJx4a65c_clear_da8c8_10 rfl (lv_at hl 0 rfl) ?_
  refine lxGet hx hb hts hown hK hw hj 1 (by decide) rfl (hts _ wm47) (fun _ h9 => h9) dJx4a65c_clear_da8c8_11 ?_
  refine lv_astore_n (lv' := [(1, .ref b), (0, .ref (G.2.2.1 10 j))]) hx hb dJx4a65c_clear_da8c8_14 rfl hl (by decide) rfl (fun ls hl => ?_)
  refine lv_aload_n hx hb dJx4a65c_clear_da8c8_15 rfl (lv_at hl 1 rfl) ?_
  refine lxGet hx hb hts hown hK hw hj 2 (by decide) rfl (hts _ wm122) (fun _ h9 => h9) dJx4a65c_clear_da8c8_16 ?_
  refine lv_istore_n (lv' := [(2, .int (nI (σ.2.2.2.2 j).length)), (1, .ref b), (0, .ref (G.2.2.1 10 j))]) hx hb dJx4a65c_clear_da8c8_19 rfl hl (by decide) rfl (fun ls hl => ?_)
  refine lv_aload_n hx hb dJx4a65c_clear_da8c8_20 rfl (lv_at hl 2 rfl) ?_
  refine lv_iconst (v := 0) hx hb dJx4a65c_clear_da8c8_21 (by decide) ?_
  refine lv_dup_x1 hx hb dJx4a65c_clear_da8c8_22 rfl rfl ?_
  refine lxPut (ty := .int) (mm' := (mm + 1)) (b' := b) (z' := 0) hx hb hts hown hK hw hS hj 2 (by decide) rfl (hts _ wm122) (fun _ h9 => h9) rfl (by decide +kernel) rfl rfl dJx4a65c_clear_da8c8_23 (fun H locs hw hS => ?_)
  refine lv_istore_n (lv' := [(3, .int 0), (2, .int (nI (σ.2.2.2.2 j).length)), (1, .ref b), (0, .ref (G.2.2.1 10 j))]) hx hb dJx4a65c_clear_da8c8_26 rfl hl (by decide) rfl (fun ls hl => ?_)
  have loop : ∀ (n i : Nat), (σ.2.2.2.2 j).length - i < n → i ≤ (σ.2.2.2.2 j).length → ∀ (AR : List LxA), ((AR = [] ∧ b = G.2.2.2.1.1 0 ∧ (σ.2.2.2.2 j) = []) ∨ ∃ cap g, AR = [(b, cap, g)] ∧ (σ.2.2.2.2 j).length ≤ cap ∧ cap ≤ 1000 ∧ (∀ t, t < i → g t = none) ∧ ∀ t, (σ.2.2.2.2 j).length ≤ t → g t = none) → ∀ (H : Heap) (locs : List Loc), lxW G σ j (mm + 1) b 0 AR H → va_S (pvB G) s.heap H locs → ∀ ls, lv_has ls 4 [(3, .int (nI i)), (0, .ref (G.2.2.1 10 j)), (1, .ref b), (2, .int (nI (σ.2.2.2.2 j).length))] →
    W p l e (headSpec (Cond.code yJx4a65c_clear_da8c8 cJx4a65c_clear_da8c8 4 none :: WA) ({ frames := 0, cells := 0, slots := 0, locals := 0 } : Room)).room s m ([.ref (G.2.2.1 10 j)] : List Value).toArray below meth c H locs 0 0 (MQ below (va_Qv (fun σ' => σ' = pvL σ j []) (pvU G tys) (pvB G)) ([.ref (G.2.2.1 10 j)] : List Value).toArray s 0 0 (pvB G)) (F0 m 27 ls []) := by
    intro n
    induction n with
    | zero => intros; omega
    | succ n ih =>
      intro i hm hi AR hcs H locs hw hS ls hl
      refine lv_iload_n hx hb dJx4a65c_clear_da8c8_27 rfl (lv_at hl 0 rfl) ?_
      refine lv_iload_n hx hb dJx4a65c_clear_da8c8_28 rfl (lv_at hl 3 rfl) ?_
      refine lv_icmp_ge (tgt := 42) hx hb dJx4a65c_clear_da8c8_29 (by decide) (fun w => ?_) (fun w => ?_)
      · have w := (nI_leI (by omega) (by omega)).mp w
        have hw2 : pvW G (pvL σ j []) H := by
          rcases hcs with ⟨q1, q2, q3⟩ | ⟨cap, g, q1, q2, q3, q4, q5⟩
          · exact lx_close (k := 0) (cap := 0) (g := fun _ => none) hj hw (by decide) (by simp) rfl (Or.inl ⟨rfl, q2⟩)
          · refine lx_close (k := 0) (cap := cap) (g := g) hj hw (by decide) (by simp) rfl (Or.inr ⟨by rw [q1]; rfl, Nat.zero_le _, fun t => ?_⟩)
            by_cases ht : t < i
            · rw [q4 t ht]; rfl
            · rw [q5 t (by omega)]; rfl
        exact pev hx hb hr hlocks hA hw2 hK hS rfl dJx4a65c_clear_da8c8_42
      · have w : ¬ (σ.2.2.2.2 j).length ≤ i := fun q => w ((nI_leI (by omega) (by omega)).mpr q)
        rcases hcs with ⟨q1, q2, q3⟩ | ⟨cap, g, q1, q2, q3, q4, q5⟩
        · rw [q3] at w; exact absurd (Nat.zero_le _) w
        subst q1
        refine lv_aload_n hx hb dJx4a65c_clear_da8c8_32 rfl (lv_at hl 2 rfl) ?_
        refine lv_iload_n hx hb dJx4a65c_clear_da8c8_33 rfl (lv_at hl 0 rfl) ?_
        refine lv_null hx hb dJx4a65c_clear_da8c8_34 ?_
        refine lxStN hx hb hK htys hw hS hj 0 (x := (b, cap, g)) rfl (vp_in_nI (show i < cap by omega) (show cap < 2 ^ 31 by omega)) dJx4a65c_clear_da8c8_35 (fun H locs hw hS => ?_)
        refine lv_iinc (v := nI (i + 1)) (lv' := [(3, .int (nI (i + 1))), (0, .ref (G.2.2.1 10 j)), (1, .ref b), (2, .int (nI (σ.2.2.2.2 j).length))]) hx hb dJx4a65c_clear_da8c8_36 hl (k := 0) rfl (nI_1 _) (by decide) rfl (fun ls hl => ?_)
        refine lv_goto (tgt := 27) hx hb dJx4a65c_clear_da8c8_39 (by decide) ?_
        refine ih (i + 1) (by omega) (by omega) _ (Or.inr ⟨cap, _, rfl, q2, q3, fun t ht => ?_, fun t ht => ?_⟩) _ _ hw hS ls hl
        · show va_up g (nI i).toNatClampNeg none t = none
          rw [nI_clamp (by omega)]
          unfold va_up
          split
          · rfl
          · exact q4 t (by omega)
        · show va_up g (nI i).toNatClampNeg none t = none
          unfold va_up
          split
          · rfl
          · exact q5 t ht
  refine loop ((σ.2.2.2.2 j).length + 1) 0 (by omega) (Nat.zero_le _) AR ?_ _ _ hw hS ls (lv_sub hl [0, 3, 2, 1] rfl)
  rcases hcase with ⟨q1, q2, q3⟩ | ⟨cap, q1, q2, q3⟩
  · exact Or.inl ⟨q1, q2, q3⟩
  · exact Or.inr ⟨cap, _, q1, q2, q3.2, fun t ht => absurd ht (Nat.not_lt_zero _), fun t ht => lx_none ht⟩
