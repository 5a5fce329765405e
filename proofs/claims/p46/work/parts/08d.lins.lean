/-! LISTS, changed: add at a place, remove -/
theorem lx_ins {ad : Nat → Nat} {l : List Nat} {v k : Nat} (hk : k ≤ l.length) {g : Nat → Option Nat} (hg : ∀ t, g t = (l[t]?).map ad) (t : Nat) : va_up (va_cpy g g k (k + 1) (l.length - k)) k (some (ad v)) t = ((l.take k ++ v :: l.drop k)[t]?).map ad := by
  have hlen : (l.take k).length = k := by rw [List.length_take]; omega
  unfold va_up
  by_cases e : t = k
  · subst e; rw [if_pos rfl, List.getElem?_append_right (by omega), hlen, Nat.sub_self]; rfl
  · rw [if_neg e]
    by_cases h : t < k
    · rw [pk_cpy_out (by omega), hg, List.getElem?_append_left (by omega), List.getElem?_take_of_lt h]
    · obtain ⟨d, rfl⟩ : ∃ d, t = k + 1 + d := ⟨t - k - 1, by omega⟩
      rw [List.getElem?_append_right (by omega), hlen, show k + 1 + d - k = d + 1 by omega, List.getElem?_cons_succ, List.getElem?_drop]
      by_cases h2 : k + 1 + d < k + 1 + (l.length - k)
      · rw [pk_cpy_in (by omega) h2, hg]; congr 2; omega
      · rw [pk_cpy_out (by omega), hg, List.getElem?_eq_none (by omega), List.getElem?_eq_none (by omega)]
theorem lx_del {ad : Nat → Nat} {l : List Nat} {k : Nat} (hk : k < l.length) {g : Nat → Option Nat} (hg : ∀ t, g t = (l[t]?).map ad) (t : Nat) : va_up (if k < l.length - 1 then va_cpy g g (k + 1) k (l.length - 1 - k) else g) (l.length - 1) none t = ((l.eraseIdx k)[t]?).map ad := by
  have hlen : (l.eraseIdx k).length = l.length - 1 := by rw [List.length_eraseIdx_of_lt hk]
  unfold va_up
  by_cases e : t = l.length - 1
  · rw [if_pos e, List.getElem?_eq_none (by omega)]; rfl
  · rw [if_neg e, List.getElem?_eraseIdx]
    by_cases h : t < k
    · rw [if_pos h]
      split
      · rw [pk_cpy_out (by omega), hg]
      · rw [hg]
    · rw [if_neg h]
      split
      · by_cases h2 : t < k + (l.length - 1 - k)
        · rw [pk_cpy_in (by omega) h2, hg]; congr 2; omega
        · rw [pk_cpy_out (by omega), hg, List.getElem?_eq_none (by omega), List.getElem?_eq_none (by omega)]
      · rw [hg, List.getElem?_eq_none (by omega), List.getElem?_eq_none (by omega)]
set_option maxHeartbeats 4000000 in
set_option maxRecDepth 100000 in
theorem c_lrange {l : Launch} {G : PvG} {tys : List (ClassId × FieldType)} {σ : PvS} (htys : tys = pvT G) {j : Nat} (hj : j < σ.1 0 + 3) {k : Nat} (hk : k ≤ (σ.2.2.2.2 j).length) : Met l yJx4a65c_rangeCheckForAdd_d00df (Cond.code yJx4a65c_rangeCheckForAdd_d00df cJx4a65c_rangeCheckForAdd_d00df 2 none :: WA) ({ frames := 0, cells := 0, slots := 0, locals := 0 }) (va_Pc [.ref (G.2.2.1 10 j), .int (nI k)] (pvU G tys σ)) (va_Qv (fun σ' => σ' = σ) (pvU G tys) (pvB G)) 0 0 (pvB G) := by
  refine Met.ofW (cc := cJx4a65c_rangeCheckForAdd_d00df) (maxL := 2) (ret := none) (by decide) rfl ?_
  intro p e s m args below meth c s₁ B hml hv
  obtain ⟨rfl, hw, hK, hA⟩ := hv
  have hx := B.exec
  have hb := B.bytes
  have hr := B.returns
  have hts0 := atoms_spec (ws := (Cond.code yJx4a65c_rangeCheckForAdd_d00df cJx4a65c_rangeCheckForAdd_d00df 2 none :: WA)) B.pre
  have hts : ∀ w ∈ WA, w.before _ s = true := fun w h => hts0 w (List.mem_cons_of_mem _ h)
  have hown : s.vm.findClass RJx4a65c = some m.cls := findClass_of_methodNamed B.named
  have hlocks := B.notSynchronized
  have hS : va_S (pvB G) s.heap s.heap [] := va_S.rf
  have hl := lv_entry ([.ref (G.2.2.1 10 j), .int (nI k)]) (n := 2) (Nat.le_of_ble_eq_true rfl)
  rw [lg_entry_eq]
  generalize (lg_sl ([.ref (G.2.2.1 10 j), .int (nI k)]) ++ List.replicate (2 - (lg_sl ([.ref (G.2.2.1 10 j), .int (nI k)])).length) Slot.unset).toArray = ls at hl ⊢
  have hl : lv_has ls 2 [(0, .ref (G.2.2.1 10 j)), (1, .int (nI k))] := hl
  have h64 := pl_len hw j hj
  refine lv_iload_n hx hb dJx4a65c_rangeCheckForAdd_d00df_0 rfl (lv_at hl 1 rfl) ?_
  refine lv_aload_n hx hb dJx4a65c_rangeCheckForAdd_d00df_1 rfl (lv_at hl 0 rfl) ?_
  refine plS hx hb hts hown hK hw j hj inF_Jx4a65c (hts _ wm122) dJx4a65c_rangeCheckForAdd_d00df_2 ?_
  refine lv_icmp_gt (tgt := 12) hx hb dJx4a65c_rangeCheckForAdd_d00df_5 (by decide) (fun w => absurd ((nI_ltI (by omega) (by omega)).mp w) (by omega)) (fun _ => ?_)
  refine lv_iload_n hx hb dJx4a65c_rangeCheckForAdd_d00df_8 rfl (lv_at hl 1 rfl) ?_
  refine lv_if_ge (tgt := 25) hx hb dJx4a65c_rangeCheckForAdd_d00df_9 (by decide) (fun _ => ?_) (fun w => absurd (nI_pos' (by omega)) w)
  exact pev hx hb hr hlocks hA hw hK hS rfl dJx4a65c_rangeCheckForAdd_d00df_25
set_option maxHeartbeats 4000000 in
set_option maxRecDepth 100000 in
theorem c_lins {l : Launch} {G : PvG} {tys : List (ClassId × FieldType)} {σ : PvS} (htys : tys = pvT G) {j : Nat} (hj : j < σ.1 0 + 3) {v : Nat} (hv : v < pvM σ (pvK j)) (hlen : (σ.2.2.2.2 j).length < 64) {k : Nat} (hk : k ≤ (σ.2.2.2.2 j).length)  : Met l yJx4a65c_add_7a177 (Cond.code yJx4a65c_add_7a177 cJx4a65c_add_7a177 5 none :: WA) ({ frames := 5, cells := 1, slots := 96, locals := 190 }) (va_Pc [.ref (G.2.2.1 10 j), .int (nI k), .ref (G.2.2.1 (pvK j) v)] (pvU G tys σ)) (va_Qv (fun σ' => σ' = pvL σ j (((σ.2.2.2.2 j)).take k ++ v :: ((σ.2.2.2.2 j)).drop k)) (pvU G tys) (pvB G)) 1 96 (pvB G) := by
  refine Met.ofW (cc := cJx4a65c_add_7a177) (maxL := 5) (ret := none) (by decide) rfl ?_
  intro p e s m args below meth c s₁ B hml hv
  obtain ⟨rfl, hw, hK, hA⟩ := hv
  have hx := B.exec
  have hb := B.bytes
  have hr := B.returns
  have hts0 := atoms_spec (ws := (Cond.code yJx4a65c_add_7a177 cJx4a65c_add_7a177 5 none :: WA)) B.pre
  have hts : ∀ w ∈ WA, w.before _ s = true := fun w h => hts0 w (List.mem_cons_of_mem _ h)
  have hown : s.vm.findClass RJx4a65c = some m.cls := findClass_of_methodNamed B.named
  have hlocks := B.notSynchronized
  have hS : va_S (pvB G) s.heap s.heap [] := va_S.rf
  have hl := lv_entry ([.ref (G.2.2.1 10 j), .int (nI k), .ref (G.2.2.1 (pvK j) v)]) (n := 5) (Nat.le_of_ble_eq_true rfl)
  rw [lg_entry_eq]
  generalize (lg_sl ([.ref (G.2.2.1 10 j), .int (nI k), .ref (G.2.2.1 (pvK j) v)]) ++ List.replicate (5 - (lg_sl ([.ref (G.2.2.1 10 j), .int (nI k), .ref (G.2.2.1 (pvK j) v)])).length) Slot.unset).toArray = ls at hl ⊢
  have hl : lv_has ls 5 [(0, .ref (G.2.2.1 10 j)), (1, .int (nI k)), (2, .ref (G.2.2.1 (pvK j) v))] := hl
  have hcl' : ∀ x ∈ ((σ.2.2.2.2 j)).take k ++ v :: ((σ.2.2.2.2 j)).drop k, x < pvM σ (pvK j) := fun x hx => (List.mem_append.mp hx).elim (fun h => (lx_open hw hj).2.1 x (List.mem_of_mem_take h)) (fun h => (List.mem_cons.mp h).elim (fun e => by rw [e]; exact hv) (fun h => (lx_open hw hj).2.1 x (List.mem_of_mem_drop h)))
  have hL1 : (((σ.2.2.2.2 j)).take k ++ v :: ((σ.2.2.2.2 j)).drop k).length = (σ.2.2.2.2 j).length + 1 := by simp only [List.length_append, List.length_take, List.length_cons, List.length_drop]; omega
  have hl64 : (((σ.2.2.2.2 j)).take k ++ v :: ((σ.2.2.2.2 j)).drop k).length ≤ 64 := by omega
  refine lv_aload_n hx hb dJx4a65c_add_7a177_0 rfl (lv_at hl 0 rfl) ?_
  refine lv_iload_n hx hb dJx4a65c_add_7a177_1 rfl (lv_at hl 1 rfl) ?_
  refine pcallv (va_runV (As := [.int (nI k)]) (rest := []) ⟨hx, hb, hml, hown, hts⟩ (c_lrange (l := l) (G := G) (tys := tys) (σ := σ) htys hj hk) (cwV 1 hts (gVA wm891 wm892 wm893 wm13 wm894) rfl rfl rfl (by decide +kernel) ⟨Nat.le_of_ble_eq_true rfl, Nat.le_of_ble_eq_true rfl⟩) (pl_preV hA hS hw hK j hj [.int (nI k)]) rfl rfl hl.1 rfl (lv_room (Nat.le_of_ble_eq_true rfl)) dJx4a65c_add_7a177_2 ⟨Nat.zero_le _, Nat.zero_le _⟩) hS (fun s1 H locs hp hw hS => ?_)
  obtain rfl := hp.symm
  obtain ⟨h64, hcl, mm, b, AR, hw, hcase⟩ := lx_open hw hj
  refine lv_aload_n hx hb dJx4a65c_add_7a177_5 rfl (lv_at hl 0 rfl) ?_
  refine lv_dup hx hb dJx4a65c_add_7a177_6 rfl ?_
  refine lxGet hx hb hts hown hK hw hj 0 (by decide) rfl (hts _ wm120) (fun x hx => u_same (hts _ wm121) x hx) dJx4a65c_add_7a177_7 ?_
  refine lv_iconst (v := 1) hx hb dJx4a65c_add_7a177_10 (by decide) ?_
  refine lv_iadd hx hb dJx4a65c_add_7a177_11 ?_
  refine lxPut (ty := .int) (mm' := (mm + 1)) (b' := b) (z' := (nI (σ.2.2.2.2 j).length)) hx hb hts hown hK hw hS hj 0 (by decide) rfl (hts _ wm120) (fun x hx => u_same (hts _ wm121) x hx) rfl (by decide +kernel) rfl rfl dJx4a65c_add_7a177_12 (fun H locs hw hS => ?_)
  refine lv_aload_n hx hb dJx4a65c_add_7a177_15 rfl (lv_at hl 0 rfl) ?_
  refine lxGet hx hb hts hown hK hw hj 2 (by decide) rfl (hts _ wm122) (fun _ h9 => h9) dJx4a65c_add_7a177_16 ?_
  refine lv_dup hx hb dJx4a65c_add_7a177_19 rfl ?_
  refine lv_istore_n (lv' := [(3, .int (nI (σ.2.2.2.2 j).length)), (0, .ref (G.2.2.1 10 j)), (1, .int (nI k)), (2, .ref (G.2.2.1 (pvK j) v))]) hx hb dJx4a65c_add_7a177_20 rfl hl (by decide) rfl (fun ls hl => ?_)
  refine lv_aload_n hx hb dJx4a65c_add_7a177_21 rfl (lv_at hl 1 rfl) ?_
  refine lxGet hx hb hts hown hK hw hj 1 (by decide) rfl (hts _ wm47) (fun _ h9 => h9) dJx4a65c_add_7a177_22 ?_
  refine lv_dup hx hb dJx4a65c_add_7a177_25 rfl ?_
  refine lv_astore (lv' := [(4, .ref b), (3, .int (nI (σ.2.2.2.2 j).length)), (0, .ref (G.2.2.1 10 j)), (1, .int (nI k)), (2, .ref (G.2.2.1 (pvK j) v))]) hx hb dJx4a65c_add_7a177_26 hl (by decide) rfl (fun ls hl => ?_)
  have fin : ∀ (H : Heap) (locs : List Loc) (cl sl : Nat) (q : Nat) (AR : List LxA) (kk cap : Nat) (g : Nat → Option Nat), cl ≤ 1 → sl ≤ 96 → AR[kk]? = some (q, cap, g) → (σ.2.2.2.2 j).length < cap → cap ≤ 1000 → (∀ t, g t = (((σ.2.2.2.2 j))[t]?).map (G.2.2.1 (pvK j))) → lxW G σ j (mm + 1) q (nI (σ.2.2.2.2 j).length) AR H → va_S (pvB G) s.heap H locs → ∀ ls, lv_has ls 5 [(4, .ref q), (3, .int (nI (σ.2.2.2.2 j).length)), (0, .ref (G.2.2.1 10 j)), (1, .int (nI k)), (2, .ref (G.2.2.1 (pvK j) v))] →
    W p l e (headSpec (Cond.code yJx4a65c_add_7a177 cJx4a65c_add_7a177 5 none :: WA) ({ frames := 5, cells := 1, slots := 96, locals := 190 } : Room)).room s m ([.ref (G.2.2.1 10 j), .int (nI k), .ref (G.2.2.1 (pvK j) v)] : List Value).toArray below meth c H locs cl sl (MQ below (va_Qv (fun σ' => σ' = pvL σ j (((σ.2.2.2.2 j)).take k ++ v :: ((σ.2.2.2.2 j)).drop k)) (pvU G tys) (pvB G)) ([.ref (G.2.2.1 10 j), .int (nI k), .ref (G.2.2.1 (pvK j) v)] : List Value).toArray s 1 96 (pvB G)) (F0 m 38 ls []) := by
    intro H locs cl sl q AR kk cap g hcl1 hsl1 hkk hcap hcap2 hg hw hS ls hl
    refine lv_aload hx hb dJx4a65c_add_7a177_38 (lv_at hl 0 rfl) ?_
    refine lv_iload_n hx hb dJx4a65c_add_7a177_40 rfl (lv_at hl 3 rfl) ?_
    refine lv_aload hx hb dJx4a65c_add_7a177_41 (lv_at hl 0 rfl) ?_
    refine lv_iload_n hx hb dJx4a65c_add_7a177_43 rfl (lv_at hl 3 rfl) ?_
    refine lv_iconst (v := 1) hx hb dJx4a65c_add_7a177_44 (by decide) ?_
    refine lv_iadd hx hb dJx4a65c_add_7a177_45 ?_
    refine lv_iload_n hx hb dJx4a65c_add_7a177_46 rfl (lv_at hl 1 rfl) ?_
    refine lv_iload_n hx hb dJx4a65c_add_7a177_47 rfl (lv_at hl 3 rfl) ?_
    refine lv_isub hx hb dJx4a65c_add_7a177_48 ?_
    rw [nI_1, pk_sub hk]
    refine lxCp hx hb (hml.trans hl.1.symm) hown (hts _ wm886) (hts _ wm163) (hts _ wm164) (hts _ wm165) hA hK htys hw hS hj kk kk (x := (q, cap, g)) (y := (q, cap, g)) hkk hkk (nI_pos (by omega)) (nI_pos (by omega)) (nI_pos (by omega)) (by rw [nI_clamp (by omega), nI_clamp (by omega)]; show _ ≤ cap; omega) (by rw [nI_clamp (by omega), nI_clamp (by omega)]; show _ ≤ cap; omega) (Nat.le_of_ble_eq_true rfl) (by show _ ≤ 190; decide +kernel) dJx4a65c_add_7a177_49 (fun H locs hw hS => ?_)
    rw [nI_clamp (by omega), nI_clamp (by omega), nI_clamp (by omega)] at hw
    have hlt := (List.getElem?_eq_some_iff.mp hkk).1
    refine lv_aload hx hb dJx4a65c_add_7a177_52 (lv_at hl 0 rfl) ?_
    refine lv_iload_n hx hb dJx4a65c_add_7a177_54 rfl (lv_at hl 3 rfl) ?_
    refine lv_aload_n hx hb dJx4a65c_add_7a177_55 rfl (lv_at hl 4 rfl) ?_
    refine lxSt hx hb hA hK htys hw hS hj kk (x := (q, cap, va_cpy g g k (k + 1) ((σ.2.2.2.2 j).length - k))) (by rw [List.getElem?_set_self hlt]) hv (vp_in_nI (show k < cap by omega) (show cap < 2 ^ 31 by omega)) dJx4a65c_add_7a177_56 (fun H locs hw hS => ?_)
    refine lv_aload_n hx hb dJx4a65c_add_7a177_57 rfl (lv_at hl 2 rfl) ?_
    refine lv_iload_n hx hb dJx4a65c_add_7a177_58 rfl (lv_at hl 1 rfl) ?_
    refine lv_iconst (v := 1) hx hb dJx4a65c_add_7a177_59 (by decide) ?_
    refine lv_iadd hx hb dJx4a65c_add_7a177_60 ?_
    refine lxPut (ty := .int) (mm' := (mm + 1)) (b' := q) (z' := (nI (σ.2.2.2.2 j).length + 1)) hx hb hts hown hK hw hS hj 2 (by decide) rfl (hts _ wm122) (fun _ h9 => h9) rfl (by decide +kernel) rfl rfl dJx4a65c_add_7a177_61 (fun H locs hw hS => ?_)
    have hw2 := lx_close (v := ((σ.2.2.2.2 j)).take k ++ v :: ((σ.2.2.2.2 j)).drop k) (k := kk) (cap := cap) (g := va_up (va_cpy g g k (k + 1) ((σ.2.2.2.2 j).length - k)) (nI k).toNatClampNeg (some (G.2.2.1 (pvK j) v))) hj hw hl64 hcl' (by rw [nI_1, hL1]) (Or.inr ⟨by rw [List.getElem?_set_self (by rw [List.length_set]; exact hlt)], by omega, fun t => by rw [nI_clamp (by omega)]; exact lx_ins hk hg t⟩)
    refine W.widen (k := 1) (n := 96) hcl1 hsl1 ?_
    exact pev hx hb hr hlocks hA hw2 hK hS rfl dJx4a65c_add_7a177_64
  rcases hcase with ⟨hAR, hb0, hnil⟩ | ⟨cap, hAR, hc1, hc2⟩
  · subst hAR
    subst hb0
    refine va_tlen hx hb hA.2.1.1.2 hS (v := 0) rfl dJx4a65c_add_7a177_28 ?_
    refine lv_icmp_ne (tgt := 38) hx hb dJx4a65c_add_7a177_29 (by decide) (fun w => absurd (by rw [hnil]; rfl) w) (fun _ => ?_)
    refine lv_aload_n hx hb dJx4a65c_add_7a177_32 rfl (lv_at hl 2 rfl) ?_
    refine va_callq (va_runV (As := []) (rest := []) ⟨hx, hb, hml, hown, hts⟩ (c_grow0 (l := l) (G := G) (tys := tys) (σ := σ) htys hj (c0 := 0) (g := fun _ => none) (by omega) (Or.inl ⟨rfl, rfl, rfl⟩) (by rw [hnil]; rfl)) (cwV 0 hts (gVA wm127 wm128 wm129 wm13 wm130) rfl rfl rfl (by decide +kernel) ⟨Nat.le_of_ble_eq_true rfl, Nat.le_of_ble_eq_true rfl⟩) (lx_preV hA hS hw hK hj []) rfl rfl hl.1 rfl (lv_room (Nat.le_of_ble_eq_true rfl)) dJx4a65c_add_7a177_33 ⟨Nat.le_refl 1, Nat.le_of_ble_eq_true rfl⟩) hS (fun _ _ h => h) (fun _ h => h) (fun r u t H locs ht hvm hp hB _ _ hS => ?_)
    obtain ⟨hp1, cap, g1, hc1, hc2, ⟨kk, hkk⟩, hg1⟩ := hp
    subst hp1
    have hw := hB.1
    rw [ht] at hw
    refine lv_astore (lv' := [(4, .ref u.1), (3, .int (nI (σ.2.2.2.2 j).length)), (0, .ref (G.2.2.1 10 j)), (1, .int (nI k)), (2, .ref (G.2.2.1 (pvK j) v))]) hx hb dJx4a65c_add_7a177_36 hl (by decide) rfl (fun ls hl => ?_)
    exact fin _ _ _ _ u.1 u.2 kk cap g1 (by omega) (by omega) hkk (by rw [hnil]; exact hc1) hc2 (fun t => by rw [hg1 t, hnil]; simp) hw hS ls hl
  · subst hAR
    refine lxLen hx hb hK htys hw 0 (x := (b, cap, fun t => (((σ.2.2.2.2 j))[t]?).map (G.2.2.1 (pvK j)))) rfl dJx4a65c_add_7a177_28 ?_
    refine lv_icmp_ne (tgt := 38) hx hb dJx4a65c_add_7a177_29 (by decide) (fun w => ?_) (fun w => ?_)
    · have hne : (σ.2.2.2.2 j).length ≠ cap := fun q => w (by rw [q])
      exact fin _ _ _ _ b _ 0 cap _ (by omega) (by omega) rfl (by omega) hc2.2 (fun t => rfl) hw hS ls hl
    · have hne : (σ.2.2.2.2 j).length = cap := (nI_eq (by omega) (by omega)).mp w
      subst hne
      refine lv_aload_n hx hb dJx4a65c_add_7a177_32 rfl (lv_at hl 2 rfl) ?_
      refine va_callq (va_runV (As := []) (rest := []) ⟨hx, hb, hml, hown, hts⟩ (c_grow0 (l := l) (G := G) (tys := tys) (σ := σ) htys hj (c0 := (σ.2.2.2.2 j).length) (g := fun t => (((σ.2.2.2.2 j))[t]?).map (G.2.2.1 (pvK j))) (by omega) (Or.inr ⟨rfl, by omega⟩) rfl) (cwV 0 hts (gVA wm127 wm128 wm129 wm13 wm130) rfl rfl rfl (by decide +kernel) ⟨Nat.le_of_ble_eq_true rfl, Nat.le_of_ble_eq_true rfl⟩) (lx_preV hA hS hw hK hj []) rfl rfl hl.1 rfl (lv_room (Nat.le_of_ble_eq_true rfl)) dJx4a65c_add_7a177_33 ⟨Nat.le_refl 1, Nat.le_of_ble_eq_true rfl⟩) hS (fun _ _ h => h) (fun _ h => h) (fun r u t H locs ht hvm hp hB _ _ hS => ?_)
      obtain ⟨hp1, cap, g1, hd1, hd2, ⟨kk, hkk⟩, hg1⟩ := hp
      subst hp1
      have hw := hB.1
      rw [ht] at hw
      refine lv_astore (lv' := [(4, .ref u.1), (3, .int (nI (σ.2.2.2.2 j).length)), (0, .ref (G.2.2.1 10 j)), (1, .int (nI k)), (2, .ref (G.2.2.1 (pvK j) v))]) hx hb dJx4a65c_add_7a177_36 hl (by decide) rfl (fun ls hl => ?_)
      refine fin _ _ _ _ u.1 u.2 kk cap g1 (by omega) (by omega) hkk hd1 hd2 (fun t => ?_) hw hS ls hl
      rw [hg1 t]
      split
      · rfl
      · rename_i w; rw [lx_none (by omega)]
set_option maxHeartbeats 4000000 in
set_option maxRecDepth 100000 in
theorem c_lfast {l : Launch} {G : PvG} {tys : List (ClassId × FieldType)} {σ : PvS} (htys : tys = pvT G) {j : Nat} (hj : j < σ.1 0 + 3) {mm : Int32} {b : Nat} {AR : List LxA} {k : Nat} (hk : k < (σ.2.2.2.2 j).length) (h64 : (σ.2.2.2.2 j).length ≤ 64) (hcl : ∀ x ∈ σ.2.2.2.2 j, x < pvM σ (pvK j)) {cap : Nat} (hAR : AR = [(b, cap, fun t => ((σ.2.2.2.2 j)[t]?).map (G.2.2.1 (pvK j)))]) (hc1 : (σ.2.2.2.2 j).length ≤ cap) (hc2 : cap ≤ 1000)  : Met l yJx4a65c_fastRemove_b59b0 (Cond.code yJx4a65c_fastRemove_b59b0 cJx4a65c_fastRemove_b59b0 4 none :: WA) ({ frames := 1, cells := 0, slots := 0, locals := 60 }) (va_Pc [.ref (G.2.2.1 10 j), .ref b, .int (nI k)] (pvUx G tys σ j mm b (nI (σ.2.2.2.2 j).length) AR)) (va_Qv (fun σ' => σ' = pvL σ j (((σ.2.2.2.2 j)).eraseIdx k)) (pvU G tys) (pvB G)) 0 0 (pvB G) := by
  refine Met.ofW (cc := cJx4a65c_fastRemove_b59b0) (maxL := 4) (ret := none) (by decide) rfl ?_
  intro p e s m args below meth c s₁ B hml hv
  obtain ⟨rfl, hw, hK, hA⟩ := hv
  have hx := B.exec
  have hb := B.bytes
  have hr := B.returns
  have hts0 := atoms_spec (ws := (Cond.code yJx4a65c_fastRemove_b59b0 cJx4a65c_fastRemove_b59b0 4 none :: WA)) B.pre
  have hts : ∀ w ∈ WA, w.before _ s = true := fun w h => hts0 w (List.mem_cons_of_mem _ h)
  have hown : s.vm.findClass RJx4a65c = some m.cls := findClass_of_methodNamed B.named
  have hlocks := B.notSynchronized
  have hS : va_S (pvB G) s.heap s.heap [] := va_S.rf
  have hl := lv_entry ([.ref (G.2.2.1 10 j), .ref b, .int (nI k)]) (n := 4) (Nat.le_of_ble_eq_true rfl)
  rw [lg_entry_eq]
  generalize (lg_sl ([.ref (G.2.2.1 10 j), .ref b, .int (nI k)]) ++ List.replicate (4 - (lg_sl ([.ref (G.2.2.1 10 j), .ref b, .int (nI k)])).length) Slot.unset).toArray = ls at hl ⊢
  have hl : lv_has ls 4 [(0, .ref (G.2.2.1 10 j)), (1, .ref b), (2, .int (nI k))] := hl
  subst hAR
  refine lv_aload_n hx hb dJx4a65c_fastRemove_b59b0_0 rfl (lv_at hl 0 rfl) ?_
  refine lv_dup hx hb dJx4a65c_fastRemove_b59b0_1 rfl ?_
  refine lxGet hx hb hts hown hK hw hj 0 (by decide) rfl (hts _ wm120) (fun x hx => u_same (hts _ wm121) x hx) dJx4a65c_fastRemove_b59b0_2 ?_
  refine lv_iconst (v := 1) hx hb dJx4a65c_fastRemove_b59b0_5 (by decide) ?_
  refine lv_iadd hx hb dJx4a65c_fastRemove_b59b0_6 ?_
  refine lxPut (ty := .int) (mm' := (mm + 1)) (b' := b) (z' := (nI (σ.2.2.2.2 j).length)) hx hb hts hown hK hw hS hj 0 (by decide) rfl (hts _ wm120) (fun x hx => u_same (hts _ wm121) x hx) rfl (by decide +kernel) rfl rfl dJx4a65c_fastRemove_b59b0_7 (fun H locs hw hS => ?_)
  refine lv_aload_n hx hb dJx4a65c_fastRemove_b59b0_10 rfl (lv_at hl 0 rfl) ?_
  refine lxGet hx hb hts hown hK hw hj 2 (by decide) rfl (hts _ wm122) (fun _ h9 => h9) dJx4a65c_fastRemove_b59b0_11 ?_
  refine lv_iconst (v := 1) hx hb dJx4a65c_fastRemove_b59b0_14 (by decide) ?_
  refine lv_isub hx hb dJx4a65c_fastRemove_b59b0_15 ?_
  rw [show nI (σ.2.2.2.2 j).length - 1 = (nI ((σ.2.2.2.2 j).length - 1)) from pk_sub (b := 1) (by omega)]
  refine lv_dup hx hb dJx4a65c_fastRemove_b59b0_16 rfl ?_
  refine lv_istore_n (lv' := [(3, .int (nI ((σ.2.2.2.2 j).length - 1))), (0, .ref (G.2.2.1 10 j)), (1, .ref b), (2, .int (nI k))]) hx hb dJx4a65c_fastRemove_b59b0_17 rfl hl (by decide) rfl (fun ls hl => ?_)
  refine lv_iload_n hx hb dJx4a65c_fastRemove_b59b0_18 rfl (lv_at hl 3 rfl) ?_
  have fin : ∀ (H : Heap) (locs : List Loc) (g : Nat → Option Nat), (∀ t, va_up g ((σ.2.2.2.2 j).length - 1) none t = ((((σ.2.2.2.2 j)).eraseIdx k)[t]?).map (G.2.2.1 (pvK j))) → lxW G σ j (mm + 1) b (nI (σ.2.2.2.2 j).length) [(b, cap, g)] H → va_S (pvB G) s.heap H locs → ∀ ls, lv_has ls 4 [(3, .int (nI ((σ.2.2.2.2 j).length - 1))), (0, .ref (G.2.2.1 10 j)), (1, .ref b), (2, .int (nI k))] →
    W p l e (headSpec (Cond.code yJx4a65c_fastRemove_b59b0 cJx4a65c_fastRemove_b59b0 4 none :: WA) ({ frames := 1, cells := 0, slots := 0, locals := 60 } : Room)).room s m ([.ref (G.2.2.1 10 j), .ref b, .int (nI k)] : List Value).toArray below meth c H locs 0 0 (MQ below (va_Qv (fun σ' => σ' = pvL σ j (((σ.2.2.2.2 j)).eraseIdx k)) (pvU G tys) (pvB G)) ([.ref (G.2.2.1 10 j), .ref b, .int (nI k)] : List Value).toArray s 0 0 (pvB G)) (F0 m 34 ls []) := by
    intro H locs g hg hw hS ls hl
    refine lv_aload_n hx hb dJx4a65c_fastRemove_b59b0_34 rfl (lv_at hl 2 rfl) ?_
    refine lv_aload_n hx hb dJx4a65c_fastRemove_b59b0_35 rfl (lv_at hl 1 rfl) ?_
    refine lv_iload_n hx hb dJx4a65c_fastRemove_b59b0_36 rfl (lv_at hl 0 rfl) ?_
    refine lv_dup_x1 hx hb dJx4a65c_fastRemove_b59b0_37 rfl rfl ?_
    refine lxPut (ty := .int) (mm' := (mm + 1)) (b' := b) (z' := (nI ((σ.2.2.2.2 j).length - 1))) hx hb hts hown hK hw hS hj 2 (by decide) rfl (hts _ wm122) (fun _ h9 => h9) rfl (by decide +kernel) rfl rfl dJx4a65c_fastRemove_b59b0_38 (fun H locs hw hS => ?_)
    refine lv_null hx hb dJx4a65c_fastRemove_b59b0_41 ?_
    refine lxStN hx hb hK htys hw hS hj 0 (x := (b, cap, g)) rfl (vp_in_nI (show (σ.2.2.2.2 j).length - 1 < cap by omega) (show cap < 2 ^ 31 by omega)) dJx4a65c_fastRemove_b59b0_42 (fun H locs hw hS => ?_)
    have hlen : (((σ.2.2.2.2 j)).eraseIdx k).length = (σ.2.2.2.2 j).length - 1 := by rw [List.length_eraseIdx_of_lt hk]
    have hw2 := lx_close (v := ((σ.2.2.2.2 j)).eraseIdx k) (k := 0) (cap := cap) (g := va_up g (nI ((σ.2.2.2.2 j).length - 1)).toNatClampNeg none) hj hw (by omega) (fun x hx => hcl x (List.mem_of_mem_eraseIdx hx)) (by rw [hlen]) (Or.inr ⟨rfl, by omega, fun t => by rw [nI_clamp (by omega)]; exact hg t⟩)
    exact pev hx hb hr hlocks hA hw2 hK hS rfl dJx4a65c_fastRemove_b59b0_43
  refine lv_icmp_le (tgt := 34) hx hb dJx4a65c_fastRemove_b59b0_19 (by decide) (fun w => ?_) (fun w => ?_)
  · have w := (nI_leI (by omega) (by omega)).mp w
    refine fin _ _ _ (fun t => ?_) hw hS ls hl
    have := lx_del (ad := G.2.2.1 (pvK j)) hk (g := fun t => (((σ.2.2.2.2 j))[t]?).map (G.2.2.1 (pvK j))) (fun _ => rfl) t
    rw [if_neg (by omega)] at this
    exact this
  · have w : ¬ (σ.2.2.2.2 j).length - 1 ≤ k := fun q => w ((nI_leI (by omega) (by omega)).mpr q)
    refine lv_aload_n hx hb dJx4a65c_fastRemove_b59b0_22 rfl (lv_at hl 2 rfl) ?_
    refine lv_iload_n hx hb dJx4a65c_fastRemove_b59b0_23 rfl (lv_at hl 3 rfl) ?_
    refine lv_iconst (v := 1) hx hb dJx4a65c_fastRemove_b59b0_24 (by decide) ?_
    refine lv_iadd hx hb dJx4a65c_fastRemove_b59b0_25 ?_
    refine lv_aload_n hx hb dJx4a65c_fastRemove_b59b0_26 rfl (lv_at hl 2 rfl) ?_
    refine lv_iload_n hx hb dJx4a65c_fastRemove_b59b0_27 rfl (lv_at hl 3 rfl) ?_
    refine lv_iload_n hx hb dJx4a65c_fastRemove_b59b0_28 rfl (lv_at hl 0 rfl) ?_
    refine lv_iload_n hx hb dJx4a65c_fastRemove_b59b0_29 rfl (lv_at hl 3 rfl) ?_
    refine lv_isub hx hb dJx4a65c_fastRemove_b59b0_30 ?_
    rw [nI_1, pk_sub (by omega)]
    refine lxCp hx hb (hml.trans hl.1.symm) hown (hts _ wm886) (hts _ wm163) (hts _ wm164) (hts _ wm165) hA hK htys hw hS hj 0 0 (x := (b, cap, fun t => (((σ.2.2.2.2 j))[t]?).map (G.2.2.1 (pvK j)))) (y := (b, cap, fun t => (((σ.2.2.2.2 j))[t]?).map (G.2.2.1 (pvK j)))) rfl rfl (nI_pos (by omega)) (nI_pos (by omega)) (nI_pos (by omega)) (by rw [nI_clamp (by omega), nI_clamp (by omega)]; show _ ≤ cap; omega) (by rw [nI_clamp (by omega), nI_clamp (by omega)]; show _ ≤ cap; omega) (Nat.le_of_ble_eq_true rfl) (by show _ ≤ 60; decide +kernel) dJx4a65c_fastRemove_b59b0_31 (fun H locs hw hS => ?_)
    rw [nI_clamp (by omega), nI_clamp (by omega), nI_clamp (by omega)] at hw
    refine fin _ _ _ (fun t => ?_) hw hS ls hl
    have := lx_del (ad := G.2.2.1 (pvK j)) hk (g := fun t => (((σ.2.2.2.2 j))[t]?).map (G.2.2.1 (pvK j))) (fun _ => rfl) t
    rw [if_pos (by omega)] at this
    exact this
set_option maxHeartbeats 4000000 in
set_option maxRecDepth 100000 in
theorem c_lremove {l : Launch} {G : PvG} {tys : List (ClassId × FieldType)} {σ : PvS} (htys : tys = pvT G) {j : Nat} (hj : j < σ.1 0 + 3) {k : Nat} (hk : k < (σ.2.2.2.2 j).length)  : Met l yJx4a65c_remove_915e3 (Cond.code yJx4a65c_remove_915e3 cJx4a65c_remove_915e3 4 (some (.object "java/lang/Object")) :: WA) ({ frames := 2, cells := 0, slots := 0, locals := 90 }) (va_Pc [.ref (G.2.2.1 10 j), .int (nI k)] (pvU G tys σ)) (va_Qq (fun r σ' => r = some (G.2.2.1 (pvK j) (((σ.2.2.2.2 j)).getD k 0)) ∧ σ' = pvL σ j (((σ.2.2.2.2 j)).eraseIdx k)) (pvU G tys) (pvB G)) 0 0 (pvB G) := by
  refine Met.ofW (cc := cJx4a65c_remove_915e3) (maxL := 4) (ret := (some (.object "java/lang/Object"))) (by decide) rfl ?_
  intro p e s m args below meth c s₁ B hml hv
  obtain ⟨rfl, hw, hK, hA⟩ := hv
  have hx := B.exec
  have hb := B.bytes
  have hr := B.returns
  have hts0 := atoms_spec (ws := (Cond.code yJx4a65c_remove_915e3 cJx4a65c_remove_915e3 4 (some (.object "java/lang/Object")) :: WA)) B.pre
  have hts : ∀ w ∈ WA, w.before _ s = true := fun w h => hts0 w (List.mem_cons_of_mem _ h)
  have hown : s.vm.findClass RJx4a65c = some m.cls := findClass_of_methodNamed B.named
  have hlocks := B.notSynchronized
  have hS : va_S (pvB G) s.heap s.heap [] := va_S.rf
  have hl := lv_entry ([.ref (G.2.2.1 10 j), .int (nI k)]) (n := 4) (Nat.le_of_ble_eq_true rfl)
  rw [lg_entry_eq]
  generalize (lg_sl ([.ref (G.2.2.1 10 j), .int (nI k)]) ++ List.replicate (4 - (lg_sl ([.ref (G.2.2.1 10 j), .int (nI k)])).length) Slot.unset).toArray = ls at hl ⊢
  have hl : lv_has ls 4 [(0, .ref (G.2.2.1 10 j)), (1, .int (nI k))] := hl
  have h64' := pl_len hw j hj
  refine lv_iload_n hx hb dJx4a65c_remove_915e3_0 rfl (lv_at hl 1 rfl) ?_
  refine lv_aload_n hx hb dJx4a65c_remove_915e3_1 rfl (lv_at hl 0 rfl) ?_
  refine plS hx hb hts hown hK hw j hj inF_Jx4a65c (hts _ wm122) dJx4a65c_remove_915e3_2 ?_
  refine pcalli (va_runS (As := [.int (nI k), .int (nI (σ.2.2.2.2 j).length)]) (rest := []) ⟨hx, hb, hml, hown, hts⟩ (c_check15 (l := l) (G := G) (tys := tys) (σ := σ) hk (by omega)) (va_cwS 2 hts (gSA wm258 wm259 wm260 wm261) rfl rfl rfl (by decide +kernel) ⟨Nat.le_of_ble_eq_true rfl, Nat.le_of_ble_eq_true rfl⟩) (pv_preS hA hS hw hK [.int (nI k), .int (nI (σ.2.2.2.2 j).length)]) rfl rfl hl.1 rfl (lv_room (Nat.le_of_ble_eq_true rfl)) dJx4a65c_remove_915e3_5 ⟨Nat.zero_le _, Nat.zero_le _⟩) hS (fun r1 s1 H locs hp hw hS => ?_)
  obtain ⟨er, es⟩ := hp
  obtain rfl := es.symm
  refine lv_pop hx hb dJx4a65c_remove_915e3_8 rfl ?_
  obtain ⟨h64, hcl, mm, b, AR, hw, hcase⟩ := lx_open hw hj
  refine lv_aload_n hx hb dJx4a65c_remove_915e3_9 rfl (lv_at hl 0 rfl) ?_
  refine lxGet hx hb hts hown hK hw hj 1 (by decide) rfl (hts _ wm47) (fun _ h9 => h9) dJx4a65c_remove_915e3_10 ?_
  refine lv_astore_n (lv' := [(2, .ref b), (0, .ref (G.2.2.1 10 j)), (1, .int (nI k))]) hx hb dJx4a65c_remove_915e3_13 rfl hl (by decide) rfl (fun ls hl => ?_)
  rcases hcase with ⟨q1, q2, q3⟩ | ⟨cap, hAR, hc1, hc2⟩
  · rw [q3] at hk; exact absurd hk (Nat.not_lt_zero _)
  subst hAR
  refine lv_aload_n hx hb dJx4a65c_remove_915e3_14 rfl (lv_at hl 0 rfl) ?_
  refine lv_iload_n hx hb dJx4a65c_remove_915e3_15 rfl (lv_at hl 2 rfl) ?_
  refine lxLd hx hb hK htys hw 0 (x := (b, cap, fun t => (((σ.2.2.2.2 j))[t]?).map (G.2.2.1 (pvK j)))) rfl (vp_in_nI (show k < cap by omega) (show cap < 2 ^ 31 by omega)) dJx4a65c_remove_915e3_16 ?_
  have e1 : va_rf (((((σ.2.2.2.2 j))[(nI k).toNatClampNeg]?).map (G.2.2.1 (pvK j)))) = .ref (G.2.2.1 (pvK j) (((σ.2.2.2.2 j)).getD k 0)) := by
    rw [nI_clamp (by omega), List.getElem?_eq_getElem hk, List.getD_eq_getElem?_getD, List.getElem?_eq_getElem hk]
    rfl
  rw [e1]
  refine lv_astore_n (lv' := [(3, .ref (G.2.2.1 (pvK j) (((σ.2.2.2.2 j)).getD k 0))), (2, .ref b), (0, .ref (G.2.2.1 10 j)), (1, .int (nI k))]) hx hb dJx4a65c_remove_915e3_17 rfl hl (by decide) rfl (fun ls hl => ?_)
  refine lv_aload_n hx hb dJx4a65c_remove_915e3_18 rfl (lv_at hl 2 rfl) ?_
  refine lv_aload_n hx hb dJx4a65c_remove_915e3_19 rfl (lv_at hl 1 rfl) ?_
  refine lv_iload_n hx hb dJx4a65c_remove_915e3_20 rfl (lv_at hl 3 rfl) ?_
  refine va_callv (va_runV (As := [.ref b, .int (nI k)]) (rest := []) ⟨hx, hb, hml, hown, hts⟩ (c_lfast (l := l) (G := G) (tys := tys) (σ := σ) htys hj (mm := mm) (b := b) hk h64 hcl rfl hc1 hc2.2) (cwV 2 hts (gVA wm882 wm883 wm884 wm13 wm885) rfl rfl rfl (by decide +kernel) ⟨Nat.le_of_ble_eq_true rfl, Nat.le_of_ble_eq_true rfl⟩) (lx_preV hA hS hw hK hj [.ref b, .int (nI k)]) rfl rfl hl.1 rfl (lv_room (Nat.le_of_ble_eq_true rfl)) dJx4a65c_remove_915e3_21 ⟨Nat.zero_le _, Nat.zero_le _⟩) hS (fun _ _ h => h) (fun _ h => h) (fun u t H locs ht hvm hp hB _ _ hS => ?_)
  have hw := hB.1
  rw [ht] at hw
  refine lv_aload_n hx hb dJx4a65c_remove_915e3_24 rfl (lv_at hl 0 rfl) ?_
  exact peq (r := some _) hx hb hr (Or.inl ⟨_, rfl⟩) hlocks hA hw hK hS ⟨rfl, hp⟩ dJx4a65c_remove_915e3_25
theorem c_linsI {l : Launch} {G : PvG} {tys : List (ClassId × FieldType)} {σ : PvS} (htys : tys = pvT G) {j : Nat} (hj : j < σ.1 0 + 3) {v : Nat} (hv : v < pvM σ (pvK j)) (hlen : (σ.2.2.2.2 j).length < 64) {x : Int32} (hx : vin x ((σ.2.2.2.2 j).length + 1)) : Met l yJx4a65c_add_7a177 (Cond.code yJx4a65c_add_7a177 cJx4a65c_add_7a177 5 none :: WA) ({ frames := 5, cells := 1, slots := 96, locals := 190 }) (va_Pc [.ref (G.2.2.1 10 j), .int x, .ref (G.2.2.1 (pvK j) v)] (pvU G tys σ)) (va_Qv (fun σ' => σ' = pvL σ j ((σ.2.2.2.2 j).take x.toNatClampNeg ++ v :: (σ.2.2.2.2 j).drop x.toNatClampNeg)) (pvU G tys) (pvB G)) 1 96 (pvB G) := by
  obtain ⟨k, hk, rfl⟩ := vp_in_of hx (by omega)
  rw [nI_clamp (by omega)]
  exact c_lins htys hj hv hlen (by omega)
theorem c_lremoveI {l : Launch} {G : PvG} {tys : List (ClassId × FieldType)} {σ : PvS} (htys : tys = pvT G) {j : Nat} (hj : j < σ.1 0 + 3) {x : Int32} (hx : vin x (σ.2.2.2.2 j).length) (h64 : (σ.2.2.2.2 j).length < 2 ^ 31) : Met l yJx4a65c_remove_915e3 (Cond.code yJx4a65c_remove_915e3 cJx4a65c_remove_915e3 4 (some (.object "java/lang/Object")) :: WA) ({ frames := 2, cells := 0, slots := 0, locals := 90 }) (va_Pc [.ref (G.2.2.1 10 j), .int x] (pvU G tys σ)) (va_Qq (fun r σ' => r = some (G.2.2.1 (pvK j) ((σ.2.2.2.2 j).getD x.toNatClampNeg 0)) ∧ σ' = pvL σ j ((σ.2.2.2.2 j).eraseIdx x.toNatClampNeg)) (pvU G tys) (pvB G)) 0 0 (pvB G) := by
  obtain ⟨k, hk, rfl⟩ := vp_in_of hx h64
  rw [nI_clamp (by omega)]
  exact c_lremove htys hj hk
