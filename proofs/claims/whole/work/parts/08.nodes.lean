/-- NODES: how many words a text has; how deep nodes lie; what is always so -/
def wd (σ : PvS) (i : Nat) : Nat := (σ.2.1 3 9 i).toNatClampNeg
def pvDp (σ : PvS) (dp : Nat → Nat) : Prop := ∀ i, i < σ.1.1 → (σ.2.2.1 3 8 i = none → dp i = 0) ∧ ∀ j, σ.2.2.1 3 8 i = some j → j < σ.1.1 ∧ dp i = dp j + 1
def pvNd (σ : PvS) : Prop := σ.1.1 ≤ 40 ∧ σ.1.2 ≤ 24 ∧ ∀ i, i < σ.1.1 → (σ.2.1 3 1 i = 0 ∨ σ.2.1 3 1 i = 1) ∧ σ.2.1 3 0 i = nI i ∧ σ.2.1 3 9 i = nI (wd σ i) ∧ wd σ i ≤ 20 ∧ (σ.2.1 3 1 i = 0 → wd σ i = 0)
theorem pvNd_len {σ : PvS} {i : Nat} (h : pvNd σ) (hi : i < σ.1.1) : wd σ i ≤ pvLen σ 30 i := by
  obtain ⟨-, -, h⟩ := h
  obtain ⟨a, b, c, d, e⟩ := h i hi
  show _ ≤ (if σ.2.1 3 1 i = 0 then 0 else 20)
  split
  · rename_i q; rw [e q]; exact Nat.zero_le _
  · exact d
theorem pvLen31 (σ : PvS) (i : Nat) : pvLen σ 31 i = if σ.2.1 3 1 i = 0 then 14 else 0 := rfl
theorem pvLen30 (σ : PvS) (i : Nat) : pvLen σ 30 i = if σ.2.1 3 1 i = 0 then 0 else 20 := rfl
theorem pvLen30_le (σ : PvS) (i : Nat) : pvLen σ 30 i ≤ 20 := by rw [pvLen30]; split <;> decide
theorem pvLen31_le (σ : PvS) (i : Nat) : pvLen σ 31 i ≤ 14 := by rw [pvLen31]; split <;> decide
/-- whether o is i or what i is in, looking up so many times -/
def upIn (σ : PvS) (o : Nat) : Nat → Nat → Bool
  | 0, i => i == o
  | k + 1, i => i == o || match σ.2.2.1 3 8 i with | none => false | some j => upIn σ o k j
/-- the first place from k on at which x stands in a list, -1 if nowhere -/
def plAt (l : List Nat) (x : Nat) : Nat → Nat → Int32
  | 0, _ => -1
  | n + 1, k => if l.getD k 0 = x then nI k else plAt l x n (k + 1)
set_option maxHeartbeats 4000000 in
set_option maxRecDepth 100000 in
theorem c_hasWord {l : Launch} {G : PvG} {tys : List (ClassId × FieldType)} {σ : PvS} (htys : tys = pvT G) (hn : pvNd σ) {i : Nat} (hi : i < σ.1.1) {w : Nat} (hw31 : w < 2 ^ 31) : Met l yX3_hasWord wsX3_hasWord ({ frames := 0, cells := 0, slots := 0, locals := 0 }) (va_Pc [.ref (G.2.2.1 3 i), .int (nI w)] (pvU G tys σ)) (va_Qi (fun r σ' => r = (if w < wd σ i then 1 else 0) ∧ σ' = σ) (pvU G tys) (pvB G)) 0 0 (pvB G) := by
  refine Met.ofW (cc := cX3_hasWord) (maxL := 2) (ret := (some .boolean)) (by decide) rfl ?_
  intro p e s m args below meth c s₁ B hml hv
  obtain ⟨rfl, hw, hK, hA⟩ := hv
  have hx := B.exec
  have hb := B.bytes
  have hr := B.returns
  have hts := atoms_spec (ws := wsX3_hasWord) B.pre
  have hown : s.vm.findClass RX3 = some m.cls := findClass_of_methodNamed B.named
  have hlocks := B.notSynchronized
  have hS : va_S (pvB G) s.heap s.heap [] := va_S.rf
  have hl := lv_entry ([.ref (G.2.2.1 3 i), .int (nI w)]) (n := 2) (Nat.le_of_ble_eq_true rfl)
  rw [lg_entry_eq]
  generalize (lg_sl ([.ref (G.2.2.1 3 i), .int (nI w)]) ++ List.replicate (2 - (lg_sl ([.ref (G.2.2.1 3 i), .int (nI w)])).length) Slot.unset).toArray = ls at hl ⊢
  have hl : lv_has ls 2 [(0, .ref (G.2.2.1 3 i)), (1, .int (nI w))] := hl
  have hwd := (hn.2.2 i hi).2.2.2.1
  have h30l := pvLen30_le σ i
  refine lv_aload_n hx hb dX3_hasWord_0 rfl (lv_at hl 0 rfl) ?_
  refine pgI (C := RX3) (T := TX3) (N := 14) hx hb hts hown hK hw 3 1 i (show i < pvM σ 3 by skip; exact hi) (by decide) rfl rfl (by decide +kernel) (by decide) rfl (hts (.fieldLink RX3 49 "PinnaceView$Node" "isText" "Z") (by decide +kernel)) (fun _ h9 => h9) dX3_hasWord_1 ?_
  refine lv_if_eq (tgt := 32) hx hb dX3_hasWord_4 (by decide) (fun c_4_1 => ?_) (fun c_4_1 => ?_)
  · skip
    refine lv_iconst (v := 0) hx hb dX3_hasWord_32 (by decide) ?_
    exact pez hx hb hr hlocks hA hw hK hS (by decide) (by have h30 := pvNd_len hn hi; have hx9 := (hn.2.2 i hi).2.2.2.2; first | (exfalso; omega) | (refine ⟨?_, rfl⟩; first | (rw [if_pos (by omega)]; done) | (rw [if_neg (by omega)]; done) | (rw [hx9 (by assumption)]; rfl))) dX3_hasWord_33
  · skip
    refine lv_iload_n hx hb dX3_hasWord_7 rfl (lv_at hl 1 rfl) ?_
    refine lv_if_lt (tgt := 32) hx hb dX3_hasWord_8 (by decide) (fun c_8_2 => ?_) (fun c_8_2 => ?_)
    · skip
      have c_8_2 : w < 0 := (nI_ltI (a := w) (b := 0) (by omega) (by omega)).mp c_8_2
      refine lv_iconst (v := 0) hx hb dX3_hasWord_32 (by decide) ?_
      exact pez hx hb hr hlocks hA hw hK hS (by decide) (by have h30 := pvNd_len hn hi; have hx9 := (hn.2.2 i hi).2.2.2.2; first | (exfalso; omega) | (refine ⟨?_, rfl⟩; first | (rw [if_pos (by omega)]; done) | (rw [if_neg (by omega)]; done) | (rw [hx9 (by assumption)]; rfl))) dX3_hasWord_33
    · skip
      have c_8_2 : ¬ w < 0 := fun z => c_8_2 ((nI_ltI (a := w) (b := 0) (by omega) (by omega)).mpr z)
      refine lv_iload_n hx hb dX3_hasWord_11 rfl (lv_at hl 1 rfl) ?_
      refine lv_aload_n hx hb dX3_hasWord_12 rfl (lv_at hl 0 rfl) ?_
      refine pgI (C := RX3) (T := TX3) (N := 14) hx hb hts hown hK hw 3 9 i (show i < pvM σ 3 by skip; exact hi) (by decide) rfl rfl (by decide +kernel) (by decide) rfl (hts (.fieldLink RX3 29 "PinnaceView$Node" "words" "I") (by decide +kernel)) (fun _ h9 => h9) dX3_hasWord_13 ?_
      rw [((hn.2.2 i hi).2.2.1)]
      refine lv_icmp_ge (tgt := 32) hx hb dX3_hasWord_16 (by decide) (fun c_16_3 => ?_) (fun c_16_3 => ?_)
      · skip
        have c_16_3 : (wd σ i) ≤ w := (nI_leI (a := (wd σ i)) (b := w) (by omega) (by omega)).mp c_16_3
        refine lv_iconst (v := 0) hx hb dX3_hasWord_32 (by decide) ?_
        exact pez hx hb hr hlocks hA hw hK hS (by decide) (by have h30 := pvNd_len hn hi; have hx9 := (hn.2.2 i hi).2.2.2.2; first | (exfalso; omega) | (refine ⟨?_, rfl⟩; first | (rw [if_pos (by omega)]; done) | (rw [if_neg (by omega)]; done) | (rw [hx9 (by assumption)]; rfl))) dX3_hasWord_33
      · skip
        have c_16_3 : ¬ (wd σ i) ≤ w := fun z => c_16_3 ((nI_leI (a := (wd σ i)) (b := w) (by omega) (by omega)).mpr z)
        refine lv_iload_n hx hb dX3_hasWord_19 rfl (lv_at hl 1 rfl) ?_
        refine lv_aload_n hx hb dX3_hasWord_20 rfl (lv_at hl 0 rfl) ?_
        refine pgL (C := RX3) (T := TX3) (N := 14) hx hb hts hown hK hw 3 4 i (show i < pvM σ 3 by skip; exact hi) (by decide) rfl rfl (by decide +kernel) (by decide) (v := .ref (G.2.2.1 30 i)) rfl (hts (.fieldLink RX3 55 "PinnaceView$Node" "letters" "[I") (by decide +kernel)) (fun _ h9 => h9) dX3_hasWord_21 ?_
        refine palen hx hb hK htys hw 30 i (show i < pvM σ 30 by skip; exact hi) (by decide) (by decide) (by decide) (by decide) (by decide) dX3_hasWord_24 ?_
        refine lv_icmp_ge (tgt := 32) hx hb dX3_hasWord_25 (by decide) (fun c_25_4 => ?_) (fun c_25_4 => ?_)
        · skip
          have c_25_4 : (pvLen σ 30 i) ≤ w := (nI_leI (a := (pvLen σ 30 i)) (b := w) (by omega) (by omega)).mp c_25_4
          refine lv_iconst (v := 0) hx hb dX3_hasWord_32 (by decide) ?_
          exact pez hx hb hr hlocks hA hw hK hS (by decide) (by have h30 := pvNd_len hn hi; have hx9 := (hn.2.2 i hi).2.2.2.2; first | (exfalso; omega) | (refine ⟨?_, rfl⟩; first | (rw [if_pos (by omega)]; done) | (rw [if_neg (by omega)]; done) | (rw [hx9 (by assumption)]; rfl))) dX3_hasWord_33
        · skip
          have c_25_4 : ¬ (pvLen σ 30 i) ≤ w := fun z => c_25_4 ((nI_leI (a := (pvLen σ 30 i)) (b := w) (by omega) (by omega)).mpr z)
          refine lv_iconst (v := 1) hx hb dX3_hasWord_28 (by decide) ?_
          refine lv_goto (tgt := 33) hx hb dX3_hasWord_29 (by decide) ?_
          exact pez hx hb hr hlocks hA hw hK hS (by decide) (by have h30 := pvNd_len hn hi; have hx9 := (hn.2.2 i hi).2.2.2.2; first | (exfalso; omega) | (refine ⟨?_, rfl⟩; first | (rw [if_pos (by omega)]; done) | (rw [if_neg (by omega)]; done) | (rw [hx9 (by assumption)]; rfl))) dX3_hasWord_33
set_option maxHeartbeats 4000000 in
set_option maxRecDepth 100000 in
theorem c_lettersOf {l : Launch} {G : PvG} {tys : List (ClassId × FieldType)} {σ : PvS} (htys : tys = pvT G) (hn : pvNd σ) {i : Nat} (hi : i < σ.1.1) {w : Nat} (hw31 : w < 2 ^ 31) : Met l yX3_lettersOf wsX3_lettersOf ({ frames := 1, cells := 0, slots := 0, locals := 22 }) (va_Pc [.ref (G.2.2.1 3 i), .int (nI w)] (pvU G tys σ)) (va_Qi (fun r σ' => r = (if w < wd σ i then σ.2.2.2.1 30 i w else 0) ∧ σ' = σ) (pvU G tys) (pvB G)) 0 0 (pvB G) := by
  refine Met.ofW (cc := cX3_lettersOf) (maxL := 2) (ret := (some .int)) (by decide) rfl ?_
  intro p e s m args below meth c s₁ B hml hv
  obtain ⟨rfl, hw, hK, hA⟩ := hv
  have hx := B.exec
  have hb := B.bytes
  have hr := B.returns
  have hts := atoms_spec (ws := wsX3_lettersOf) B.pre
  have hown : s.vm.findClass RX3 = some m.cls := findClass_of_methodNamed B.named
  have hlocks := B.notSynchronized
  have hS : va_S (pvB G) s.heap s.heap [] := va_S.rf
  have hl := lv_entry ([.ref (G.2.2.1 3 i), .int (nI w)]) (n := 2) (Nat.le_of_ble_eq_true rfl)
  rw [lg_entry_eq]
  generalize (lg_sl ([.ref (G.2.2.1 3 i), .int (nI w)]) ++ List.replicate (2 - (lg_sl ([.ref (G.2.2.1 3 i), .int (nI w)])).length) Slot.unset).toArray = ls at hl ⊢
  have hl : lv_has ls 2 [(0, .ref (G.2.2.1 3 i)), (1, .int (nI w))] := hl
  refine lv_aload_n hx hb dX3_lettersOf_0 rfl (lv_at hl 0 rfl) ?_
  refine lv_iload_n hx hb dX3_lettersOf_1 rfl (lv_at hl 1 rfl) ?_
  refine pcalli (va_runV (As := [.int (nI w)]) (rest := []) ⟨hx, hb, hml, hown, hts⟩ (c_hasWord (l := l) (G := G) (tys := tys) (σ := σ) htys hn (show i < pvM σ 3 by skip; exact hi) (by omega)) (cwV 1 hts gX3_lettersOf_X3_hasWord rfl rfl rfl (by decide +kernel) ⟨Nat.le_of_ble_eq_true rfl, Nat.le_of_ble_eq_true rfl⟩) (pv_preV hA hS hw hK 3 i (show i < pvM σ 3 by skip; exact hi) (by decide) rfl [.int (nI w)]) rfl rfl hl.1 rfl (lv_room (Nat.le_of_ble_eq_true rfl)) dX3_lettersOf_2 ⟨Nat.zero_le _, Nat.zero_le _⟩) hS (fun r1 σ1 H locs hp1 hw hS => ?_)
  obtain ⟨er1, eσ1⟩ := hp1
  obtain rfl := eσ1.symm
  refine lv_if_eq (tgt := 17) hx hb dX3_lettersOf_5 (by decide) (fun c_5_2 => ?_) (fun c_5_2 => ?_)
  · skip
    have c_5_2 : ¬ (w < wd σ i) := pv_z er1 c_5_2
    refine lv_iconst (v := 0) hx hb dX3_lettersOf_17 (by decide) ?_
    exact pei hx hb hr hlocks hA hw hK hS (⟨by first | rw [if_pos c_5_2] | rw [if_neg c_5_2], rfl⟩) dX3_lettersOf_18
  · skip
    have c_5_2 : (w < wd σ i) := pv_nz er1 c_5_2
    refine lv_aload_n hx hb dX3_lettersOf_8 rfl (lv_at hl 0 rfl) ?_
    refine pgL (C := RX3) (T := TX3) (N := 14) hx hb hts hown hK hw 3 4 i (show i < pvM σ 3 by skip; exact hi) (by decide) rfl rfl (by decide +kernel) (by decide) (v := .ref (G.2.2.1 30 i)) rfl (hts (.fieldLink RX3 55 "PinnaceView$Node" "letters" "[I") (by decide +kernel)) (fun _ h9 => h9) dX3_lettersOf_9 ?_
    refine lv_iload_n hx hb dX3_lettersOf_12 rfl (lv_at hl 1 rfl) ?_
    refine pgAn hx hb hK htys hw 30 i (show i < pvM σ 30 by skip; exact hi) (by decide) (by decide) (by decide) (by decide) (by decide) w (Nat.lt_of_lt_of_le c_5_2 (pvNd_len hn hi)) dX3_lettersOf_13 ?_
    refine lv_goto (tgt := 18) hx hb dX3_lettersOf_14 (by decide) ?_
    exact pei hx hb hr hlocks hA hw hK hS (⟨by first | rw [if_pos c_5_2] | rw [if_neg c_5_2], rfl⟩) dX3_lettersOf_18
set_option maxHeartbeats 4000000 in
set_option maxRecDepth 100000 in
theorem c_declaredOf {l : Launch} {G : PvG} {tys : List (ClassId × FieldType)} {σ : PvS} (htys : tys = pvT G) {i : Nat} (hi : i < σ.1.1) {p0 : Nat} (hp0 : p0 < 14) : Met l yX3_declaredOf wsX3_declaredOf ({ frames := 0, cells := 0, slots := 0, locals := 0 }) (va_Pc [.ref (G.2.2.1 3 i), .int (nI p0)] (pvU G tys σ)) (va_Qi (fun r σ' => r = (if σ.2.1 3 1 i = 0 then σ.2.2.2.1 31 i p0 else 9998) ∧ σ' = σ) (pvU G tys) (pvB G)) 0 0 (pvB G) := by
  refine Met.ofW (cc := cX3_declaredOf) (maxL := 2) (ret := (some .int)) (by decide) rfl ?_
  intro p e s m args below meth c s₁ B hml hv
  obtain ⟨rfl, hw, hK, hA⟩ := hv
  have hx := B.exec
  have hb := B.bytes
  have hr := B.returns
  have hts := atoms_spec (ws := wsX3_declaredOf) B.pre
  have hown : s.vm.findClass RX3 = some m.cls := findClass_of_methodNamed B.named
  have hlocks := B.notSynchronized
  have hS : va_S (pvB G) s.heap s.heap [] := va_S.rf
  have hl := lv_entry ([.ref (G.2.2.1 3 i), .int (nI p0)]) (n := 2) (Nat.le_of_ble_eq_true rfl)
  rw [lg_entry_eq]
  generalize (lg_sl ([.ref (G.2.2.1 3 i), .int (nI p0)]) ++ List.replicate (2 - (lg_sl ([.ref (G.2.2.1 3 i), .int (nI p0)])).length) Slot.unset).toArray = ls at hl ⊢
  have hl : lv_has ls 2 [(0, .ref (G.2.2.1 3 i)), (1, .int (nI p0))] := hl
  have h30l := pvLen31_le σ i
  refine lv_iload_n hx hb dX3_declaredOf_0 rfl (lv_at hl 1 rfl) ?_
  refine lv_if_lt (tgt := 22) hx hb dX3_declaredOf_1 (by decide) (fun c_1_1 => ?_) (fun c_1_1 => ?_)
  · skip
    have c_1_1 : p0 < 0 := (nI_ltI (a := p0) (b := 0) (by omega) (by omega)).mp c_1_1
    refine lv_sipush (v := 9998) hx hb dX3_declaredOf_22 (by decide) ?_
    exact pei hx hb hr hlocks hA hw hK hS (by have h8 := pvLen31 σ i; first | (exfalso; omega) | (refine ⟨?_, rfl⟩; split <;> first | rfl | (rename_i z; exfalso; first | (rw [if_pos z] at h8; omega) | (rw [if_neg z] at h8; omega)))) dX3_declaredOf_25
  · skip
    have c_1_1 : ¬ p0 < 0 := fun z => c_1_1 ((nI_ltI (a := p0) (b := 0) (by omega) (by omega)).mpr z)
    refine lv_iload_n hx hb dX3_declaredOf_4 rfl (lv_at hl 1 rfl) ?_
    refine lv_aload_n hx hb dX3_declaredOf_5 rfl (lv_at hl 0 rfl) ?_
    refine pgL (C := RX3) (T := TX3) (N := 14) hx hb hts hown hK hw 3 5 i (show i < pvM σ 3 by skip; exact hi) (by decide) rfl rfl (by decide +kernel) (by decide) (v := .ref (G.2.2.1 31 i)) rfl (hts (.fieldLink RX3 59 "PinnaceView$Node" "declared" "[I") (by decide +kernel)) (fun _ h9 => h9) dX3_declaredOf_6 ?_
    refine palen hx hb hK htys hw 31 i (show i < pvM σ 31 by skip; exact hi) (by decide) (by decide) (by decide) (by decide) (by decide) dX3_declaredOf_9 ?_
    refine lv_icmp_ge (tgt := 22) hx hb dX3_declaredOf_10 (by decide) (fun c_10_2 => ?_) (fun c_10_2 => ?_)
    · skip
      have c_10_2 : (pvLen σ 31 i) ≤ p0 := (nI_leI (a := (pvLen σ 31 i)) (b := p0) (by omega) (by omega)).mp c_10_2
      refine lv_sipush (v := 9998) hx hb dX3_declaredOf_22 (by decide) ?_
      exact pei hx hb hr hlocks hA hw hK hS (by have h8 := pvLen31 σ i; first | (exfalso; omega) | (refine ⟨?_, rfl⟩; split <;> first | rfl | (rename_i z; exfalso; first | (rw [if_pos z] at h8; omega) | (rw [if_neg z] at h8; omega)))) dX3_declaredOf_25
    · skip
      have c_10_2 : ¬ (pvLen σ 31 i) ≤ p0 := fun z => c_10_2 ((nI_leI (a := (pvLen σ 31 i)) (b := p0) (by omega) (by omega)).mpr z)
      refine lv_aload_n hx hb dX3_declaredOf_13 rfl (lv_at hl 0 rfl) ?_
      refine pgL (C := RX3) (T := TX3) (N := 14) hx hb hts hown hK hw 3 5 i (show i < pvM σ 3 by skip; exact hi) (by decide) rfl rfl (by decide +kernel) (by decide) (v := .ref (G.2.2.1 31 i)) rfl (hts (.fieldLink RX3 59 "PinnaceView$Node" "declared" "[I") (by decide +kernel)) (fun _ h9 => h9) dX3_declaredOf_14 ?_
      refine lv_iload_n hx hb dX3_declaredOf_17 rfl (lv_at hl 1 rfl) ?_
      refine pgAn hx hb hK htys hw 31 i (show i < pvM σ 31 by skip; exact hi) (by decide) (by decide) (by decide) (by decide) (by decide) p0 (by omega) dX3_declaredOf_18 ?_
      refine lv_goto (tgt := 25) hx hb dX3_declaredOf_19 (by decide) ?_
      exact pei hx hb hr hlocks hA hw hK hS (by have h8 := pvLen31 σ i; first | (exfalso; omega) | (refine ⟨?_, rfl⟩; split <;> first | rfl | (rename_i z; exfalso; first | (rw [if_pos z] at h8; omega) | (rw [if_neg z] at h8; omega)))) dX3_declaredOf_25
set_option maxHeartbeats 4000000 in
set_option maxRecDepth 100000 in
theorem c_setDeclared {l : Launch} {G : PvG} {tys : List (ClassId × FieldType)} {σ : PvS} (htys : tys = pvT G) {i : Nat} (hi : i < σ.1.1) (ht : σ.2.1 3 1 i = 0) {p0 : Nat} (hp0 : p0 < 14) {v : Int32} : Met l yX3_setDeclared wsX3_setDeclared ({ frames := 0, cells := 0, slots := 0, locals := 0 }) (va_Pc [.ref (G.2.2.1 3 i), .int (nI p0), .int v] (pvU G tys σ)) (va_Qv (fun σ' => σ' = pvA σ 31 i p0 v) (pvU G tys) (pvB G)) 0 0 (pvB G) := by
  refine Met.ofW (cc := cX3_setDeclared) (maxL := 3) (ret := none) (by decide) rfl ?_
  intro p e s m args below meth c s₁ B hml hv
  obtain ⟨rfl, hw, hK, hA⟩ := hv
  have hx := B.exec
  have hb := B.bytes
  have hr := B.returns
  have hts := atoms_spec (ws := wsX3_setDeclared) B.pre
  have hown : s.vm.findClass RX3 = some m.cls := findClass_of_methodNamed B.named
  have hlocks := B.notSynchronized
  have hS : va_S (pvB G) s.heap s.heap [] := va_S.rf
  have hl := lv_entry ([.ref (G.2.2.1 3 i), .int (nI p0), .int v]) (n := 3) (Nat.le_of_ble_eq_true rfl)
  rw [lg_entry_eq]
  generalize (lg_sl ([.ref (G.2.2.1 3 i), .int (nI p0), .int v]) ++ List.replicate (3 - (lg_sl ([.ref (G.2.2.1 3 i), .int (nI p0), .int v])).length) Slot.unset).toArray = ls at hl ⊢
  have hl : lv_has ls 3 [(0, .ref (G.2.2.1 3 i)), (1, .int (nI p0)), (2, .int v)] := hl
  have h30l := pvLen31_le σ i
  refine lv_iload_n hx hb dX3_setDeclared_0 rfl (lv_at hl 1 rfl) ?_
  refine lv_if_lt (tgt := 20) hx hb dX3_setDeclared_1 (by decide) (fun c_1_1 => ?_) (fun c_1_1 => ?_)
  · skip
    have c_1_1 : p0 < 0 := (nI_ltI (a := p0) (b := 0) (by omega) (by omega)).mp c_1_1
    exact pev hx hb hr hlocks hA hw hK hS (by have h8 := pvLen31 σ i; rw [if_pos ht] at h8; first | (exfalso; omega) | (skip; rfl)) dX3_setDeclared_20
  · skip
    have c_1_1 : ¬ p0 < 0 := fun z => c_1_1 ((nI_ltI (a := p0) (b := 0) (by omega) (by omega)).mpr z)
    refine lv_iload_n hx hb dX3_setDeclared_4 rfl (lv_at hl 1 rfl) ?_
    refine lv_aload_n hx hb dX3_setDeclared_5 rfl (lv_at hl 0 rfl) ?_
    refine pgL (C := RX3) (T := TX3) (N := 14) hx hb hts hown hK hw 3 5 i (show i < pvM σ 3 by skip; exact hi) (by decide) rfl rfl (by decide +kernel) (by decide) (v := .ref (G.2.2.1 31 i)) rfl (hts (.fieldLink RX3 59 "PinnaceView$Node" "declared" "[I") (by decide +kernel)) (fun _ h9 => h9) dX3_setDeclared_6 ?_
    refine palen hx hb hK htys hw 31 i (show i < pvM σ 31 by skip; exact hi) (by decide) (by decide) (by decide) (by decide) (by decide) dX3_setDeclared_9 ?_
    refine lv_icmp_ge (tgt := 20) hx hb dX3_setDeclared_10 (by decide) (fun c_10_2 => ?_) (fun c_10_2 => ?_)
    · skip
      have c_10_2 : (pvLen σ 31 i) ≤ p0 := (nI_leI (a := (pvLen σ 31 i)) (b := p0) (by omega) (by omega)).mp c_10_2
      exact pev hx hb hr hlocks hA hw hK hS (by have h8 := pvLen31 σ i; rw [if_pos ht] at h8; first | (exfalso; omega) | (skip; rfl)) dX3_setDeclared_20
    · skip
      have c_10_2 : ¬ (pvLen σ 31 i) ≤ p0 := fun z => c_10_2 ((nI_leI (a := (pvLen σ 31 i)) (b := p0) (by omega) (by omega)).mpr z)
      refine lv_aload_n hx hb dX3_setDeclared_13 rfl (lv_at hl 0 rfl) ?_
      refine pgL (C := RX3) (T := TX3) (N := 14) hx hb hts hown hK hw 3 5 i (show i < pvM σ 3 by skip; exact hi) (by decide) rfl rfl (by decide +kernel) (by decide) (v := .ref (G.2.2.1 31 i)) rfl (hts (.fieldLink RX3 59 "PinnaceView$Node" "declared" "[I") (by decide +kernel)) (fun _ h9 => h9) dX3_setDeclared_14 ?_
      refine lv_iload_n hx hb dX3_setDeclared_17 rfl (lv_at hl 1 rfl) ?_
      refine lv_iload_n hx hb dX3_setDeclared_18 rfl (lv_at hl 2 rfl) ?_
      refine ppAn hx hb hK htys hw hS 31 i (show i < pvM σ 31 by skip; exact hi) (by decide) (by decide) (by decide) (by decide) (by decide) p0 (by rw [pvLen31, if_pos ht]; exact hp0) dX3_setDeclared_19 (fun H locs hw hS => ?_)
      obtain ⟨σ3, eσ3⟩ : ∃ z, z = pvA σ 31 i p0 v := ⟨_, rfl⟩
      rw [← eσ3] at hw
      exact pev hx hb hr hlocks hA hw hK hS (by have h8 := pvLen31 σ i; rw [if_pos ht] at h8; first | (exfalso; omega) | ((try subst eσ3); rfl)) dX3_setDeclared_20
set_option maxHeartbeats 4000000 in
set_option maxRecDepth 100000 in
theorem c_ancestors {l : Launch} {G : PvG} {tys : List (ClassId × FieldType)} {σ : PvS} {dp : Nat → Nat} (hdp : pvDp σ dp) (hd40 : ∀ i, i < σ.1.1 → dp i ≤ 40) {i : Nat} (hi : i < σ.1.1) : Met l yX3_ancestors wsX3_ancestors ({ frames := 0, cells := 0, slots := 0, locals := 0 }) (va_Pc [.ref (G.2.2.1 3 i)] (pvU G tys σ)) (va_Qi (fun r σ' => r = nI (dp i) ∧ σ' = σ) (pvU G tys) (pvB G)) 0 0 (pvB G) := by
  refine Met.ofW (cc := cX3_ancestors) (maxL := 3) (ret := (some .int)) (by decide) rfl ?_
  intro p e s m args below meth c s₁ B hml hv
  obtain ⟨rfl, hw, hK, hA⟩ := hv
  have hx := B.exec
  have hb := B.bytes
  have hr := B.returns
  have hts := atoms_spec (ws := wsX3_ancestors) B.pre
  have hown : s.vm.findClass RX3 = some m.cls := findClass_of_methodNamed B.named
  have hlocks := B.notSynchronized
  have hS : va_S (pvB G) s.heap s.heap [] := va_S.rf
  have hl := lv_entry ([.ref (G.2.2.1 3 i)]) (n := 3) (Nat.le_of_ble_eq_true rfl)
  rw [lg_entry_eq]
  generalize (lg_sl ([.ref (G.2.2.1 3 i)]) ++ List.replicate (3 - (lg_sl ([.ref (G.2.2.1 3 i)])).length) Slot.unset).toArray = ls at hl ⊢
  have hl : lv_has ls 3 [(0, .ref (G.2.2.1 3 i))] := hl
  refine lv_iconst (v := 0) hx hb dX3_ancestors_0 (by decide) ?_
  refine lv_istore_n (lv' := [(1, .int 0), (0, .ref (G.2.2.1 3 i))]) hx hb dX3_ancestors_1 rfl hl (by decide) rfl (fun ls hl => ?_)
  refine lv_aload_n hx hb dX3_ancestors_2 rfl (lv_at hl 1 rfl) ?_
  refine pgR (C := RX3) (T := TX3) (N := 14) hx hb hts hown hK hw 3 8 i (show i < pvM σ 3 by skip; exact hi) (by decide) rfl rfl (by decide +kernel) (by decide) rfl (hts (.fieldLink RX3 25 "PinnaceView$Node" "parent" "LPinnaceView$Node;") (by decide +kernel)) (fun _ h9 => h9) dX3_ancestors_3 (fun q3_1 => ?_) (fun jq3_1 q3_1 => ?_)
  · skip
    refine lv_astore_nN (lv' := [(2, .null), (1, .int 0), (0, .ref (G.2.2.1 3 i))]) hx hb dX3_ancestors_6 rfl hl (by decide) rfl (fun ls hl => ?_)
    have loop7 : ∀ (n : Nat) (k : Nat) (o : Option Nat), dp i + 1 - k < n → k ≤ dp i → (o = none → k = dp i) → (∀ j, o = some j → j < σ.1.1 ∧ dp j + k + 1 = dp i) → ∀ (H : Heap) (locs : List Loc), pvW G σ H → va_S (pvB G) s.heap H locs → ∀ (ls : Array Slot), lv_has ls 3 [(0, .ref (G.2.2.1 3 i)), (1, .int (nI k)), (2, va_rf ((o).map (G.2.2.1 3)))] → W p l e (headSpec wsX3_ancestors ({ frames := 0, cells := 0, slots := 0, locals := 0 } : Room)).room s m ([.ref (G.2.2.1 3 i)] : List Value).toArray below meth c H locs 0 0 (MQ below (va_Qi (fun r σ' => r = nI (dp i) ∧ σ' = σ) (pvU G tys) (pvB G)) ([.ref (G.2.2.1 3 i)] : List Value).toArray s 0 0 (pvB G)) (F0 m 7 ls []) := by
      intro n
      induction n with
      | zero => intros; omega
      | succ n ih =>
        intro k o hm hk hk0 hk1 H locs hw hS ls hl
        rcases o with _ | j
        · skip
          have hl : lv_has ls 3 [(0, .ref (G.2.2.1 3 i)), (1, .int (nI k)), (2, .null)] := hl
          refine lv_aload_nN hx hb dX3_ancestors_7 rfl (lv_at hl 2 rfl) ?_
          refine lv_ifnullN (tgt := 22) hx hb dX3_ancestors_8 (by decide) ?_
          refine lv_iload_n hx hb dX3_ancestors_22 rfl (lv_at hl 1 rfl) ?_
          exact pei hx hb hr hlocks hA hw hK hS (⟨congrArg nI (hk0 rfl), rfl⟩) dX3_ancestors_23
        · skip
          have hl : lv_has ls 3 [(0, .ref (G.2.2.1 3 i)), (1, .int (nI k)), (2, .ref (G.2.2.1 3 j))] := hl
          have hjn := (hk1 j rfl).1
          have hj1 := (hk1 j rfl).2
          refine lv_aload_n hx hb dX3_ancestors_7 rfl (lv_at hl 2 rfl) ?_
          refine lv_ifnull hx hb dX3_ancestors_8 ?_
          refine lv_iinc (v := nI (k + 1)) (lv' := [(1, .int (nI (k + 1))), (0, .ref (G.2.2.1 3 i)), (2, .ref (G.2.2.1 3 j))]) hx hb dX3_ancestors_11 hl (k := 1) rfl (nI_1 _) (by decide) rfl (fun ls hl => ?_)
          refine lv_aload_n hx hb dX3_ancestors_14 rfl (lv_at hl 2 rfl) ?_
          refine pgR (C := RX3) (T := TX3) (N := 14) hx hb hts hown hK hw 3 8 j (hjn) (by decide) rfl rfl (by decide +kernel) (by decide) rfl (hts (.fieldLink RX3 25 "PinnaceView$Node" "parent" "LPinnaceView$Node;") (by decide +kernel)) (fun _ h9 => h9) dX3_ancestors_15 (fun q15_2 => ?_) (fun jq15_2 q15_2 => ?_)
          · skip
            refine lv_astore_nN (lv' := [(2, .null), (1, .int (nI (k + 1))), (0, .ref (G.2.2.1 3 i))]) hx hb dX3_ancestors_18 rfl hl (by decide) rfl (fun ls hl => ?_)
            refine lv_goto (tgt := 7) hx hb dX3_ancestors_19 (by decide) ?_
            exact ih (k + 1) none (by omega) (by omega) (by have := hdp j hjn; simp_all <;> omega) (by have := hdp j hjn; intro j0 hj0; first | (cases hj0; done) | (cases hj0; have h9 := this.2 _ q15_2; exact ⟨h9.1, by omega⟩)) _ _ hw hS ls (lv_sub hl [2, 1, 0] rfl)
          · skip
            refine lv_astore_n (lv' := [(2, .ref (G.2.2.1 3 jq15_2)), (1, .int (nI (k + 1))), (0, .ref (G.2.2.1 3 i))]) hx hb dX3_ancestors_18 rfl hl (by decide) rfl (fun ls hl => ?_)
            refine lv_goto (tgt := 7) hx hb dX3_ancestors_19 (by decide) ?_
            exact ih (k + 1) (some jq15_2) (by omega) (by omega) (by have := hdp j hjn; simp_all <;> omega) (by have := hdp j hjn; intro j0 hj0; first | (cases hj0; done) | (cases hj0; have h9 := this.2 _ q15_2; exact ⟨h9.1, by omega⟩)) _ _ hw hS ls (lv_sub hl [2, 1, 0] rfl)
    exact loop7 (dp i + 2) 0 none (by omega) (by omega) (by have := hdp i hi; simp_all) (by have := hdp i hi; intro j0 hj0; first | (cases hj0; done) | (cases hj0; have h9 := this.2 _ q3_1; exact ⟨h9.1, by omega⟩)) _ _ hw hS ls (lv_sub hl [2, 1, 0] rfl)
  · skip
    refine lv_astore_n (lv' := [(2, .ref (G.2.2.1 3 jq3_1)), (1, .int 0), (0, .ref (G.2.2.1 3 i))]) hx hb dX3_ancestors_6 rfl hl (by decide) rfl (fun ls hl => ?_)
    have loop7 : ∀ (n : Nat) (k : Nat) (o : Option Nat), dp i + 1 - k < n → k ≤ dp i → (o = none → k = dp i) → (∀ j, o = some j → j < σ.1.1 ∧ dp j + k + 1 = dp i) → ∀ (H : Heap) (locs : List Loc), pvW G σ H → va_S (pvB G) s.heap H locs → ∀ (ls : Array Slot), lv_has ls 3 [(0, .ref (G.2.2.1 3 i)), (1, .int (nI k)), (2, va_rf ((o).map (G.2.2.1 3)))] → W p l e (headSpec wsX3_ancestors ({ frames := 0, cells := 0, slots := 0, locals := 0 } : Room)).room s m ([.ref (G.2.2.1 3 i)] : List Value).toArray below meth c H locs 0 0 (MQ below (va_Qi (fun r σ' => r = nI (dp i) ∧ σ' = σ) (pvU G tys) (pvB G)) ([.ref (G.2.2.1 3 i)] : List Value).toArray s 0 0 (pvB G)) (F0 m 7 ls []) := by
      intro n
      induction n with
      | zero => intros; omega
      | succ n ih =>
        intro k o hm hk hk0 hk1 H locs hw hS ls hl
        rcases o with _ | j
        · skip
          have hl : lv_has ls 3 [(0, .ref (G.2.2.1 3 i)), (1, .int (nI k)), (2, .null)] := hl
          refine lv_aload_nN hx hb dX3_ancestors_7 rfl (lv_at hl 2 rfl) ?_
          refine lv_ifnullN (tgt := 22) hx hb dX3_ancestors_8 (by decide) ?_
          refine lv_iload_n hx hb dX3_ancestors_22 rfl (lv_at hl 1 rfl) ?_
          exact pei hx hb hr hlocks hA hw hK hS (⟨congrArg nI (hk0 rfl), rfl⟩) dX3_ancestors_23
        · skip
          have hl : lv_has ls 3 [(0, .ref (G.2.2.1 3 i)), (1, .int (nI k)), (2, .ref (G.2.2.1 3 j))] := hl
          have hjn := (hk1 j rfl).1
          have hj1 := (hk1 j rfl).2
          refine lv_aload_n hx hb dX3_ancestors_7 rfl (lv_at hl 2 rfl) ?_
          refine lv_ifnull hx hb dX3_ancestors_8 ?_
          refine lv_iinc (v := nI (k + 1)) (lv' := [(1, .int (nI (k + 1))), (0, .ref (G.2.2.1 3 i)), (2, .ref (G.2.2.1 3 j))]) hx hb dX3_ancestors_11 hl (k := 1) rfl (nI_1 _) (by decide) rfl (fun ls hl => ?_)
          refine lv_aload_n hx hb dX3_ancestors_14 rfl (lv_at hl 2 rfl) ?_
          refine pgR (C := RX3) (T := TX3) (N := 14) hx hb hts hown hK hw 3 8 j (hjn) (by decide) rfl rfl (by decide +kernel) (by decide) rfl (hts (.fieldLink RX3 25 "PinnaceView$Node" "parent" "LPinnaceView$Node;") (by decide +kernel)) (fun _ h9 => h9) dX3_ancestors_15 (fun q15_3 => ?_) (fun jq15_3 q15_3 => ?_)
          · skip
            refine lv_astore_nN (lv' := [(2, .null), (1, .int (nI (k + 1))), (0, .ref (G.2.2.1 3 i))]) hx hb dX3_ancestors_18 rfl hl (by decide) rfl (fun ls hl => ?_)
            refine lv_goto (tgt := 7) hx hb dX3_ancestors_19 (by decide) ?_
            exact ih (k + 1) none (by omega) (by omega) (by have := hdp j hjn; simp_all <;> omega) (by have := hdp j hjn; intro j0 hj0; first | (cases hj0; done) | (cases hj0; have h9 := this.2 _ q15_3; exact ⟨h9.1, by omega⟩)) _ _ hw hS ls (lv_sub hl [2, 1, 0] rfl)
          · skip
            refine lv_astore_n (lv' := [(2, .ref (G.2.2.1 3 jq15_3)), (1, .int (nI (k + 1))), (0, .ref (G.2.2.1 3 i))]) hx hb dX3_ancestors_18 rfl hl (by decide) rfl (fun ls hl => ?_)
            refine lv_goto (tgt := 7) hx hb dX3_ancestors_19 (by decide) ?_
            exact ih (k + 1) (some jq15_3) (by omega) (by omega) (by have := hdp j hjn; simp_all <;> omega) (by have := hdp j hjn; intro j0 hj0; first | (cases hj0; done) | (cases hj0; have h9 := this.2 _ q15_3; exact ⟨h9.1, by omega⟩)) _ _ hw hS ls (lv_sub hl [2, 1, 0] rfl)
    exact loop7 (dp i + 2) 0 (some jq3_1) (by omega) (by omega) (by have := hdp i hi; simp_all) (by have := hdp i hi; intro j0 hj0; first | (cases hj0; done) | (cases hj0; have h9 := this.2 _ q3_1; exact ⟨h9.1, by omega⟩)) _ _ hw hS ls (lv_sub hl [2, 1, 0] rfl)
set_option maxHeartbeats 4000000 in
set_option maxRecDepth 100000 in
theorem c_isOrIsIn {l : Launch} {G : PvG} {tys : List (ClassId × FieldType)} {σ : PvS} {dp : Nat → Nat} (hdp : pvDp σ dp) {i : Nat} (hi : i < σ.1.1) {o : Nat} (ho : o < σ.1.1) : Met l yX3_isOrIsIn wsX3_isOrIsIn ({ frames := 0, cells := 0, slots := 0, locals := 0 }) (va_Pc [.ref (G.2.2.1 3 i), .ref (G.2.2.1 3 o)] (pvU G tys σ)) (va_Qi (fun r σ' => r = (if upIn σ o (dp i) i = true then 1 else 0) ∧ σ' = σ) (pvU G tys) (pvB G)) 0 0 (pvB G) := by
  refine Met.ofW (cc := cX3_isOrIsIn) (maxL := 3) (ret := (some .boolean)) (by decide) rfl ?_
  intro p e s m args below meth c s₁ B hml hv
  obtain ⟨rfl, hw, hK, hA⟩ := hv
  have hx := B.exec
  have hb := B.bytes
  have hr := B.returns
  have hts := atoms_spec (ws := wsX3_isOrIsIn) B.pre
  have hown : s.vm.findClass RX3 = some m.cls := findClass_of_methodNamed B.named
  have hlocks := B.notSynchronized
  have hS : va_S (pvB G) s.heap s.heap [] := va_S.rf
  have hl := lv_entry ([.ref (G.2.2.1 3 i), .ref (G.2.2.1 3 o)]) (n := 3) (Nat.le_of_ble_eq_true rfl)
  rw [lg_entry_eq]
  generalize (lg_sl ([.ref (G.2.2.1 3 i), .ref (G.2.2.1 3 o)]) ++ List.replicate (3 - (lg_sl ([.ref (G.2.2.1 3 i), .ref (G.2.2.1 3 o)])).length) Slot.unset).toArray = ls at hl ⊢
  have hl : lv_has ls 3 [(0, .ref (G.2.2.1 3 i)), (1, .ref (G.2.2.1 3 o))] := hl
  refine lv_aload_n hx hb dX3_isOrIsIn_0 rfl (lv_at hl 0 rfl) ?_
  refine lv_astore_n (lv' := [(2, .ref (G.2.2.1 3 i)), (0, .ref (G.2.2.1 3 i)), (1, .ref (G.2.2.1 3 o))]) hx hb dX3_isOrIsIn_1 rfl hl (by decide) rfl (fun ls hl => ?_)
  have loop2 : ∀ (n : Nat) (k : Nat) (q : Option Nat), k < n → (q = none → upIn σ o (dp i) i = false) → (∀ j, q = some j → j < σ.1.1 ∧ k = dp j + 1 ∧ upIn σ o (dp i) i = upIn σ o (dp j) j) → ∀ (H : Heap) (locs : List Loc), pvW G σ H → va_S (pvB G) s.heap H locs → ∀ (ls : Array Slot), lv_has ls 3 [(0, .ref (G.2.2.1 3 i)), (1, .ref (G.2.2.1 3 o)), (2, va_rf ((q).map (G.2.2.1 3)))] → W p l e (headSpec wsX3_isOrIsIn ({ frames := 0, cells := 0, slots := 0, locals := 0 } : Room)).room s m ([.ref (G.2.2.1 3 i), .ref (G.2.2.1 3 o)] : List Value).toArray below meth c H locs 0 0 (MQ below (va_Qi (fun r σ' => r = (if upIn σ o (dp i) i = true then 1 else 0) ∧ σ' = σ) (pvU G tys) (pvB G)) ([.ref (G.2.2.1 3 i), .ref (G.2.2.1 3 o)] : List Value).toArray s 0 0 (pvB G)) (F0 m 2 ls []) := by
    intro n
    induction n with
    | zero => intros; omega
    | succ n ih =>
      intro k q hm hk0 hk1 H locs hw hS ls hl
      rcases q with _ | j
      · skip
        have hl : lv_has ls 3 [(0, .ref (G.2.2.1 3 i)), (1, .ref (G.2.2.1 3 o)), (2, .null)] := hl
        refine lv_aload_nN hx hb dX3_isOrIsIn_2 rfl (lv_at hl 2 rfl) ?_
        refine lv_ifnullN (tgt := 21) hx hb dX3_isOrIsIn_3 (by decide) ?_
        refine lv_iconst (v := 0) hx hb dX3_isOrIsIn_21 (by decide) ?_
        exact pez hx hb hr hlocks hA hw hK hS (by decide) (by refine ⟨?_, rfl⟩; first | (rw [hk0 rfl]; rfl) | (rw [hj2, if_pos]; cases dp j <;> simp [upIn, trivial])) dX3_isOrIsIn_22
      · skip
        have hl : lv_has ls 3 [(0, .ref (G.2.2.1 3 i)), (1, .ref (G.2.2.1 3 o)), (2, .ref (G.2.2.1 3 j))] := hl
        have hjn := (hk1 j rfl).1
        have hj1 := (hk1 j rfl).2.1
        have hj2 := (hk1 j rfl).2.2
        refine lv_aload_n hx hb dX3_isOrIsIn_2 rfl (lv_at hl 2 rfl) ?_
        refine lv_ifnull hx hb dX3_isOrIsIn_3 ?_
        refine lv_aload_n hx hb dX3_isOrIsIn_6 rfl (lv_at hl 2 rfl) ?_
        refine lv_aload_n hx hb dX3_isOrIsIn_7 rfl (lv_at hl 1 rfl) ?_
        refine pacmp_ne (tgt := 13) hx hb hw 3 j o (hjn) (show o < pvM σ 3 by skip; exact ho) dX3_isOrIsIn_8 (by decide) (fun c_8_1 => ?_) (fun c_8_1 => ?_)
        · skip
          refine lv_aload_n hx hb dX3_isOrIsIn_13 rfl (lv_at hl 2 rfl) ?_
          refine pgR (C := RX3) (T := TX3) (N := 14) hx hb hts hown hK hw 3 8 j (hjn) (by decide) rfl rfl (by decide +kernel) (by decide) rfl (hts (.fieldLink RX3 25 "PinnaceView$Node" "parent" "LPinnaceView$Node;") (by decide +kernel)) (fun _ h9 => h9) dX3_isOrIsIn_14 (fun q14_2 => ?_) (fun jq14_2 q14_2 => ?_)
          · skip
            refine lv_astore_nN (lv' := [(2, .null), (0, .ref (G.2.2.1 3 i)), (1, .ref (G.2.2.1 3 o))]) hx hb dX3_isOrIsIn_17 rfl hl (by decide) rfl (fun ls hl => ?_)
            refine lv_goto (tgt := 2) hx hb dX3_isOrIsIn_18 (by decide) ?_
            exact ih (dp j) none (by omega) (by intro z; first | (cases z; done) | (rw [hj2, (hdp j hjn).1 q14_2]; simp [upIn, c_8_1, q14_2])) (by intro j0 hj0; first | (cases hj0; done) | (cases hj0; have h9 := (hdp j hjn).2 _ q14_2; refine ⟨h9.1, h9.2, ?_⟩; rw [hj2, h9.2]; simp [upIn, c_8_1, q14_2])) _ _ hw hS ls (lv_sub hl [1, 2, 0] rfl)
          · skip
            refine lv_astore_n (lv' := [(2, .ref (G.2.2.1 3 jq14_2)), (0, .ref (G.2.2.1 3 i)), (1, .ref (G.2.2.1 3 o))]) hx hb dX3_isOrIsIn_17 rfl hl (by decide) rfl (fun ls hl => ?_)
            refine lv_goto (tgt := 2) hx hb dX3_isOrIsIn_18 (by decide) ?_
            exact ih (dp j) (some jq14_2) (by omega) (by intro z; first | (cases z; done) | (rw [hj2, (hdp j hjn).1 q14_2]; simp [upIn, c_8_1, q14_2])) (by intro j0 hj0; first | (cases hj0; done) | (cases hj0; have h9 := (hdp j hjn).2 _ q14_2; refine ⟨h9.1, h9.2, ?_⟩; rw [hj2, h9.2]; simp [upIn, c_8_1, q14_2])) _ _ hw hS ls (lv_sub hl [1, 2, 0] rfl)
        · skip
          refine lv_iconst (v := 1) hx hb dX3_isOrIsIn_11 (by decide) ?_
          exact pez hx hb hr hlocks hA hw hK hS (by decide) (by refine ⟨?_, rfl⟩; first | (rw [hk0 rfl]; rfl) | (rw [hj2, if_pos]; cases dp j <;> simp [upIn, c_8_1])) dX3_isOrIsIn_12
  exact loop2 (dp i + 2) (dp i + 1) (some i) (by omega) (by intro z; cases z) (by intro j0 hj0; cases hj0; exact ⟨hi, rfl, rfl⟩) _ _ hw hS ls (lv_sub hl [1, 2, 0] rfl)
set_option maxHeartbeats 4000000 in
set_option maxRecDepth 100000 in
theorem c_place {l : Launch} {G : PvG} {tys : List (ClassId × FieldType)} {σ : PvS} (htys : tys = pvT G) {dp : Nat → Nat} (hdp : pvDp σ dp) {i : Nat} (hi : i < σ.1.1) : Met l yX3_placeAmongSiblings wsX3_placeAmongSiblings ({ frames := 3, cells := 0, slots := 0, locals := 64 }) (va_Pc [.ref (G.2.2.1 3 i)] (pvU G tys σ)) (va_Qi (fun r σ' => r = (match σ.2.2.1 3 8 i with | none => -1 | some j => plAt (σ.2.2.2.2.2 (j + 3)) i (σ.2.2.2.2.2 (j + 3)).length 0) ∧ σ' = σ) (pvU G tys) (pvB G)) 0 0 (pvB G) := by
  refine Met.ofW (cc := cX3_placeAmongSiblings) (maxL := 2) (ret := (some .int)) (by decide) rfl ?_
  intro p e s m args below meth c s₁ B hml hv
  obtain ⟨rfl, hw, hK, hA⟩ := hv
  have hx := B.exec
  have hb := B.bytes
  have hr := B.returns
  have hts := atoms_spec (ws := wsX3_placeAmongSiblings) B.pre
  have hown : s.vm.findClass RX3 = some m.cls := findClass_of_methodNamed B.named
  have hlocks := B.notSynchronized
  have hS : va_S (pvB G) s.heap s.heap [] := va_S.rf
  have hl := lv_entry ([.ref (G.2.2.1 3 i)]) (n := 2) (Nat.le_of_ble_eq_true rfl)
  rw [lg_entry_eq]
  generalize (lg_sl ([.ref (G.2.2.1 3 i)]) ++ List.replicate (2 - (lg_sl ([.ref (G.2.2.1 3 i)])).length) Slot.unset).toArray = ls at hl ⊢
  have hl : lv_has ls 2 [(0, .ref (G.2.2.1 3 i))] := hl
  refine lv_aload_n hx hb dX3_placeAmongSiblings_0 rfl (lv_at hl 0 rfl) ?_
  refine pgR (C := RX3) (T := TX3) (N := 14) hx hb hts hown hK hw 3 8 i (show i < pvM σ 3 by skip; exact hi) (by decide) rfl rfl (by decide +kernel) (by decide) rfl (hts (.fieldLink RX3 25 "PinnaceView$Node" "parent" "LPinnaceView$Node;") (by decide +kernel)) (fun _ h9 => h9) dX3_placeAmongSiblings_1 (fun q1_1 => ?_) (fun jq1_1 q1_1 => ?_)
  · skip
    refine lv_ifnullN (tgt := 46) hx hb dX3_placeAmongSiblings_4 (by decide) ?_
    refine lv_iconst (v := (-1)) hx hb dX3_placeAmongSiblings_46 (by decide) ?_
    exact pei hx hb hr hlocks hA hw hK hS (by refine ⟨?_, rfl⟩; first | (rw [q1_1]; done) | (rw [q1_1]; show _ = plAt _ _ _ _; first | (rw [hinv]; first | (rw [show (σ.2.2.2.2.2 (jq1_1 + 3)).length - k = 0 by omega]; rfl) | (obtain ⟨t, ht⟩ : ∃ t, (σ.2.2.2.2.2 (jq1_1 + 3)).length - k = t + 1 := ⟨(σ.2.2.2.2.2 (jq1_1 + 3)).length - k - 1, by omega⟩; rw [ht]; unfold plAt; rw [if_pos (by rw [← rfl]; exact q1_1)])))) dX3_placeAmongSiblings_47
  · skip
    refine lv_ifnull hx hb dX3_placeAmongSiblings_4 ?_
    refine lv_iconst (v := 0) hx hb dX3_placeAmongSiblings_7 (by decide) ?_
    refine lv_istore_n (lv' := [(1, .int 0), (0, .ref (G.2.2.1 3 i))]) hx hb dX3_placeAmongSiblings_8 rfl hl (by decide) rfl (fun ls hl => ?_)
    have loop9 : ∀ (n : Nat) (k : Nat), (σ.2.2.2.2.2 (jq1_1 + 3)).length - k < n → k ≤ (σ.2.2.2.2.2 (jq1_1 + 3)).length → plAt (σ.2.2.2.2.2 (jq1_1 + 3)) i (σ.2.2.2.2.2 (jq1_1 + 3)).length 0 = plAt (σ.2.2.2.2.2 (jq1_1 + 3)) i ((σ.2.2.2.2.2 (jq1_1 + 3)).length - k) k → ∀ (H : Heap) (locs : List Loc), pvW G σ H → va_S (pvB G) s.heap H locs → ∀ (ls : Array Slot), lv_has ls 2 [(0, .ref (G.2.2.1 3 i)), (1, .int (nI k))] → W p l e (headSpec wsX3_placeAmongSiblings ({ frames := 3, cells := 0, slots := 0, locals := 64 } : Room)).room s m ([.ref (G.2.2.1 3 i)] : List Value).toArray below meth c H locs 0 0 (MQ below (va_Qi (fun r σ' => r = (match σ.2.2.1 3 8 i with | none => -1 | some j => plAt (σ.2.2.2.2.2 (j + 3)) i (σ.2.2.2.2.2 (j + 3)).length 0) ∧ σ' = σ) (pvU G tys) (pvB G)) ([.ref (G.2.2.1 3 i)] : List Value).toArray s 0 0 (pvB G)) (F0 m 9 ls []) := by
      intro n
      induction n with
      | zero => intros; omega
      | succ n ih =>
        intro k hm hk hinv H locs hw hS ls hl
        refine lv_iload_n hx hb dX3_placeAmongSiblings_9 rfl (lv_at hl 1 rfl) ?_
        refine lv_aload_n hx hb dX3_placeAmongSiblings_10 rfl (lv_at hl 0 rfl) ?_
        refine pgRs (C := RX3) (T := TX3) (N := 14) hx hb hts hown hK hw 3 8 i (show i < pvM σ 3 by skip; exact hi) (by decide) rfl rfl (by decide +kernel) (by decide) rfl q1_1 (hts (.fieldLink RX3 25 "PinnaceView$Node" "parent" "LPinnaceView$Node;") (by decide +kernel)) (fun _ h9 => h9) dX3_placeAmongSiblings_11 ?_
        refine pgL (C := RX3) (T := TX3) (N := 14) hx hb hts hown hK hw 3 3 jq1_1 (show jq1_1 < pvM σ 3 by skip; exact (hdp i hi).2 _ q1_1 |>.1) (by decide) rfl rfl (by decide +kernel) (by decide) (v := .ref (G.2.2.1 10 (jq1_1 + 3))) rfl (hts (.fieldLink RX3 12 "PinnaceView$Node" "children" "Ljava/util/ArrayList;") (by decide +kernel)) (fun _ h9 => h9) dX3_placeAmongSiblings_14 ?_
        refine pcalli (va_runV (As := []) (rest := [.int (nI k)]) ⟨hx, hb, hml, hown, hts⟩ (c_lsize (l := l) (G := G) (tys := tys) (σ := σ) (j := jq1_1 + 3) (show jq1_1 + 3 < σ.1.1 + 3 from Nat.add_lt_add_right (show jq1_1 < pvM σ 3 by skip; exact (hdp i hi).2 _ q1_1 |>.1) 3)) (cwV 0 hts gX3_placeAmongSiblings_Jx4a65c_size_8abf5 rfl rfl rfl (by decide +kernel) ⟨Nat.le_of_ble_eq_true rfl, Nat.le_of_ble_eq_true rfl⟩) (pl_preV hA hS hw hK (jq1_1 + 3) (show jq1_1 + 3 < σ.1.1 + 3 from Nat.add_lt_add_right (show jq1_1 < pvM σ 3 by skip; exact (hdp i hi).2 _ q1_1 |>.1) 3) []) rfl rfl hl.1 rfl (lv_room (Nat.le_of_ble_eq_true rfl)) dX3_placeAmongSiblings_17 ⟨Nat.zero_le _, Nat.zero_le _⟩) hS (fun r2 σ2 H locs hp2 hw hS => ?_)
        obtain ⟨rfl, e2⟩ := hp2
        obtain rfl := e2.symm
        have hlen2 := pl_len hw (jq1_1 + 3) (show jq1_1 + 3 < σ.1.1 + 3 from Nat.add_lt_add_right (show jq1_1 < pvM σ 3 by skip; exact (hdp i hi).2 _ q1_1 |>.1) 3)
        refine lv_icmp_ge (tgt := 46) hx hb dX3_placeAmongSiblings_20 (by decide) (fun c_20_3 => ?_) (fun c_20_3 => ?_)
        · skip
          have c_20_3 : (σ.2.2.2.2.2 (jq1_1 + 3)).length ≤ k := (nI_leI (a := (σ.2.2.2.2.2 (jq1_1 + 3)).length) (b := k) (by omega) (by omega)).mp c_20_3
          refine lv_iconst (v := (-1)) hx hb dX3_placeAmongSiblings_46 (by decide) ?_
          exact pei hx hb hr hlocks hA hw hK hS (by refine ⟨?_, rfl⟩; first | (rw [c_20_3]; done) | (rw [q1_1]; show _ = plAt _ _ _ _; first | (rw [hinv]; first | (rw [show (σ.2.2.2.2.2 (jq1_1 + 3)).length - k = 0 by omega]; rfl) | (obtain ⟨t, ht⟩ : ∃ t, (σ.2.2.2.2.2 (jq1_1 + 3)).length - k = t + 1 := ⟨(σ.2.2.2.2.2 (jq1_1 + 3)).length - k - 1, by omega⟩; rw [ht]; unfold plAt; rw [if_pos (by rw [← rfl]; exact c_20_3)])))) dX3_placeAmongSiblings_47
        · skip
          have c_20_3 : ¬ (σ.2.2.2.2.2 (jq1_1 + 3)).length ≤ k := fun z => c_20_3 ((nI_leI (a := (σ.2.2.2.2.2 (jq1_1 + 3)).length) (b := k) (by omega) (by omega)).mpr z)
          refine lv_aload_n hx hb dX3_placeAmongSiblings_23 rfl (lv_at hl 0 rfl) ?_
          refine pgRs (C := RX3) (T := TX3) (N := 14) hx hb hts hown hK hw 3 8 i (show i < pvM σ 3 by skip; exact hi) (by decide) rfl rfl (by decide +kernel) (by decide) rfl q1_1 (hts (.fieldLink RX3 25 "PinnaceView$Node" "parent" "LPinnaceView$Node;") (by decide +kernel)) (fun _ h9 => h9) dX3_placeAmongSiblings_24 ?_
          refine pgL (C := RX3) (T := TX3) (N := 14) hx hb hts hown hK hw 3 3 jq1_1 (show jq1_1 < pvM σ 3 by skip; exact (hdp i hi).2 _ q1_1 |>.1) (by decide) rfl rfl (by decide +kernel) (by decide) (v := .ref (G.2.2.1 10 (jq1_1 + 3))) rfl (hts (.fieldLink RX3 12 "PinnaceView$Node" "children" "Ljava/util/ArrayList;") (by decide +kernel)) (fun _ h9 => h9) dX3_placeAmongSiblings_27 ?_
          refine lv_iload_n hx hb dX3_placeAmongSiblings_30 rfl (lv_at hl 1 rfl) ?_
          have hg4 : k < (σ.2.2.2.2.2 (jq1_1 + 3)).length := by omega
          refine pcallg (κ := 3) (pvK_c _) (va_runV (As := [.int (nI k)]) (rest := []) ⟨hx, hb, hml, hown, hts⟩ (c_lget (l := l) (G := G) (tys := tys) (σ := σ) htys (j := jq1_1 + 3) (show jq1_1 + 3 < σ.1.1 + 3 from Nat.add_lt_add_right (show jq1_1 < pvM σ 3 by skip; exact (hdp i hi).2 _ q1_1 |>.1) 3) hg4 (pl_len2 hw (jq1_1 + 3) (show jq1_1 + 3 < σ.1.1 + 3 from Nat.add_lt_add_right (show jq1_1 < pvM σ 3 by skip; exact (hdp i hi).2 _ q1_1 |>.1) 3))) (cwV 1 hts gX3_placeAmongSiblings_Jx4a65c_get_915e3 rfl rfl rfl (by decide +kernel) ⟨Nat.le_of_ble_eq_true rfl, Nat.le_of_ble_eq_true rfl⟩) (pl_preV hA hS hw hK (jq1_1 + 3) (show jq1_1 + 3 < σ.1.1 + 3 from Nat.add_lt_add_right (show jq1_1 < pvM σ 3 by skip; exact (hdp i hi).2 _ q1_1 |>.1) 3) [.int (nI k)]) rfl rfl hl.1 rfl (lv_room (Nat.le_of_ble_eq_true rfl)) dX3_placeAmongSiblings_31 ⟨Nat.zero_le _, Nat.zero_le _⟩) hS (fun y4 ey4 H locs hw hS => ?_)
          have hy4 : y4 < pvM σ 3 := by rw [ey4]; exact pl_lt hw (jq1_1 + 3) (show jq1_1 + 3 < σ.1.1 + 3 from Nat.add_lt_add_right (show jq1_1 < pvM σ 3 by skip; exact (hdp i hi).2 _ q1_1 |>.1) 3) _ hg4 (pvK_c _)
          refine lv_aload_n hx hb dX3_placeAmongSiblings_34 rfl (lv_at hl 0 rfl) ?_
          refine pacmp_ne (tgt := 40) hx hb hw 3 y4 i (show y4 < pvM σ 3 by skip; exact hy4) (show i < pvM σ 3 by skip; exact hi) dX3_placeAmongSiblings_35 (by decide) (fun c_35_5 => ?_) (fun c_35_5 => ?_)
          · skip
            refine lv_iinc (v := nI (k + 1)) (lv' := [(1, .int (nI (k + 1))), (0, .ref (G.2.2.1 3 i))]) hx hb dX3_placeAmongSiblings_40 hl (k := 1) rfl (nI_1 _) (by decide) rfl (fun ls hl => ?_)
            refine lv_goto (tgt := 9) hx hb dX3_placeAmongSiblings_43 (by decide) ?_
            exact ih (k + 1) (by omega) (by omega) (by rw [hinv]; obtain ⟨t, ht⟩ : ∃ t, (σ.2.2.2.2.2 (jq1_1 + 3)).length - k = t + 1 := ⟨(σ.2.2.2.2.2 (jq1_1 + 3)).length - k - 1, by omega⟩; rw [ht, show (σ.2.2.2.2.2 (jq1_1 + 3)).length - (k + 1) = t by omega]; conv => lhs; unfold plAt; rw [if_neg (by rw [← ey4]; exact c_35_5)]) _ _ hw hS ls (lv_sub hl [1, 0] rfl)
          · skip
            refine lv_iload_n hx hb dX3_placeAmongSiblings_38 rfl (lv_at hl 1 rfl) ?_
            exact pei hx hb hr hlocks hA hw hK hS (by refine ⟨?_, rfl⟩; first | (rw [c_35_5]; done) | (rw [q1_1]; show _ = plAt _ _ _ _; first | (rw [hinv]; first | (rw [show (σ.2.2.2.2.2 (jq1_1 + 3)).length - k = 0 by omega]; rfl) | (obtain ⟨t, ht⟩ : ∃ t, (σ.2.2.2.2.2 (jq1_1 + 3)).length - k = t + 1 := ⟨(σ.2.2.2.2.2 (jq1_1 + 3)).length - k - 1, by omega⟩; rw [ht]; unfold plAt; rw [if_pos (by rw [← ey4]; exact c_35_5)])))) dX3_placeAmongSiblings_39
    exact loop9 ((σ.2.2.2.2.2 (jq1_1 + 3)).length + 1) 0 (by omega) (by omega) (by rw [Nat.sub_zero]) _ _ hw hS ls (lv_sub hl [1, 0] rfl)
