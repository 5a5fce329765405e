/-- FLOATS: the lowest bottom (kind 25) of those of a room and of some sides among the first, not above y -/
def flB (σ : PvS) (room which y : Int32) : Nat → Int32
  | 0 => y
  | k + 1 => if σ.2.2.2.1 20 0 k = room ∧ ¬ (σ.2.2.2.1 21 0 k &&& which) = 0 then (if flB σ room which y k < σ.2.2.2.1 25 0 k then σ.2.2.2.1 25 0 k else flB σ room which y k) else flB σ room which y k
/-- the lowest top -/
def flT (σ : PvS) (room y : Int32) : Nat → Int32
  | 0 => y
  | k + 1 => if σ.2.2.2.1 20 0 k = room then (if flT σ room y k < σ.2.2.2.1 24 0 k then σ.2.2.2.1 24 0 k else flT σ room y k) else flT σ room y k
/-- one more -/
def flPut (σ : PvS) (cnt : Nat) (room side left top wide high : Int32) : PvS :=
  pvI (pvA (pvA (pvA (pvA (pvA (pvA σ 20 0 cnt room) 21 0 cnt side) 22 0 cnt left) 23 0 cnt (left + wide)) 24 0 cnt top) 25 0 cnt (top + high)) 0 6 0 (nI cnt + 1)
/-- a look at one: it narrows the span -/
def flLk (σ : PvS) (b : Nat) (y : Int32) (k : Nat) : PvS :=
  if ¬ σ.2.2.2.1 20 0 k = σ.2.1 1 0 b then σ else if y < σ.2.2.2.1 24 0 k then σ else if σ.2.2.2.1 25 0 k ≤ y then σ else
    if σ.2.2.2.1 21 0 k = 1 then pvI (pvI σ 0 9 0 (if σ.2.1 0 9 0 = y then σ.2.2.2.1 25 0 k else if σ.2.2.2.1 25 0 k < σ.2.1 0 9 0 then σ.2.2.2.1 25 0 k else σ.2.1 0 9 0)) 0 7 0 (if σ.2.1 0 7 0 < σ.2.2.2.1 23 0 k then σ.2.2.2.1 23 0 k else σ.2.1 0 7 0)
    else pvI (pvI σ 0 9 0 (if σ.2.1 0 9 0 = y then σ.2.2.2.1 25 0 k else if σ.2.2.2.1 25 0 k < σ.2.1 0 9 0 then σ.2.2.2.1 25 0 k else σ.2.1 0 9 0)) 0 8 0 (if σ.2.2.2.1 22 0 k < σ.2.1 0 8 0 then σ.2.2.2.1 22 0 k else σ.2.1 0 8 0)
def flLook0 (σ : PvS) (b : Nat) (y : Int32) : PvS := pvI (pvI (pvI σ 0 7 0 (σ.2.1 2 5 b)) 0 8 0 (σ.2.1 2 5 b + σ.2.1 2 7 b)) 0 9 0 y
def flLook (σ : PvS) (b : Nat) (y : Int32) : Nat → PvS
  | 0 => flLook0 σ b y
  | k + 1 => flLk (flLook σ b y k) b y k
theorem pvI_1 (σ : PvS) (κ k i : Nat) (v : Int32) : (pvI σ κ k i v).1 = σ.1 := rfl
theorem pvI_R (σ : PvS) (κ k i : Nat) (v : Int32) : (pvI σ κ k i v).2.2.1 = σ.2.2.1 := rfl
theorem pvI_AA (σ : PvS) (κ k i : Nat) (v : Int32) : (pvI σ κ k i v).2.2.2.1 = σ.2.2.2.1 := rfl
theorem pvI_T (σ : PvS) (κ k i : Nat) (v : Int32) : (pvI σ κ k i v).2.2.2.2 = σ.2.2.2.2 := rfl
theorem pvA_1 (σ : PvS) (κ i j : Nat) (v : Int32) : (pvA σ κ i j v).1 = σ.1 := rfl
theorem pvA_R (σ : PvS) (κ i j : Nat) (v : Int32) : (pvA σ κ i j v).2.2.1 = σ.2.2.1 := rfl
theorem pvA_T (σ : PvS) (κ i j : Nat) (v : Int32) : (pvA σ κ i j v).2.2.2.2 = σ.2.2.2.2 := rfl
theorem pvA_at (σ : PvS) (κ i j κ' i' j' : Nat) (v : Int32) : (pvA σ κ i j v).2.2.2.1 κ' i' j' = if κ' = κ ∧ i' = i ∧ j' = j then v else σ.2.2.2.1 κ' i' j' := rfl
theorem pvR_1 (σ : PvS) (κ k i : Nat) (v : Option Nat) : (pvR σ κ k i v).1 = σ.1 := rfl
theorem pvR_I (σ : PvS) (κ k i : Nat) (v : Option Nat) : (pvR σ κ k i v).2.1 = σ.2.1 := rfl
theorem pvR_A (σ : PvS) (κ k i : Nat) (v : Option Nat) : (pvR σ κ k i v).2.2.2.1 = σ.2.2.2.1 := rfl
theorem pvR_T (σ : PvS) (κ k i : Nat) (v : Option Nat) : (pvR σ κ k i v).2.2.2.2 = σ.2.2.2.2 := rfl
theorem pvR_at (σ : PvS) (κ k i κ' k' i' : Nat) (v : Option Nat) : (pvR σ κ k i v).2.2.1 κ' k' i' = if κ' = κ ∧ k' = k ∧ i' = i then v else σ.2.2.1 κ' k' i' := rfl
theorem pvI_at (σ : PvS) (κ k i κ' k' i' : Nat) (v : Int32) : (pvI σ κ k i v).2.1 κ' k' i' = if κ' = κ ∧ k' = k ∧ i' = i then v else σ.2.1 κ' k' i' := rfl
theorem pvI_A (σ : PvS) (κ k i : Nat) (v : Int32) : (pvI σ κ k i v).2.2 = σ.2.2 := rfl
theorem pvA_I (σ : PvS) (κ i j : Nat) (v : Int32) : (pvA σ κ i j v).2.1 = σ.2.1 := rfl
theorem flLk_keeps (σ : PvS) (b : Nat) (y : Int32) (k : Nat) : (flLk σ b y k).1 = σ.1 ∧ (flLk σ b y k).2.2 = σ.2.2 ∧ ∀ κ k' i, ¬ (κ = 0 ∧ 7 ≤ k' ∧ k' ≤ 9) → (flLk σ b y k).2.1 κ k' i = σ.2.1 κ k' i := by
  unfold flLk
  split
  · exact ⟨rfl, rfl, fun _ _ _ _ => rfl⟩
  split
  · exact ⟨rfl, rfl, fun _ _ _ _ => rfl⟩
  split
  · exact ⟨rfl, rfl, fun _ _ _ _ => rfl⟩
  split
  · exact ⟨rfl, rfl, fun κ k' i h => by rw [pvI_at, pvI_at, if_neg (by omega), if_neg (by omega)]⟩
  · exact ⟨rfl, rfl, fun κ k' i h => by rw [pvI_at, pvI_at, if_neg (by omega), if_neg (by omega)]⟩
theorem flLook_keeps (σ : PvS) (b : Nat) (y : Int32) : ∀ k, (flLook σ b y k).1 = σ.1 ∧ (flLook σ b y k).2.2 = σ.2.2 ∧ ∀ κ k' i, ¬ (κ = 0 ∧ 7 ≤ k' ∧ k' ≤ 9) → (flLook σ b y k).2.1 κ k' i = σ.2.1 κ k' i
  | 0 => ⟨rfl, rfl, fun κ k' i h => by unfold flLook flLook0; rw [pvI_at, pvI_at, pvI_at, if_neg (by omega), if_neg (by omega), if_neg (by omega)]⟩
  | k + 1 => by
    obtain ⟨a1, a2, a3⟩ := flLook_keeps σ b y k
    obtain ⟨b1, b2, b3⟩ := flLk_keeps (flLook σ b y k) b y k
    exact ⟨b1.trans a1, b2.trans a2, fun κ k' i h => (b3 κ k' i h).trans (a3 κ k' i h)⟩
set_option maxHeartbeats 4000000 in
set_option maxRecDepth 100000 in
theorem c_belowBottoms {l : Launch} {G : PvG} {tys : List (ClassId × FieldType)} {σ : PvS} (htys : tys = pvT G) {cnt : Nat} (hcnt : σ.2.1 0 6 0 = nI cnt) (hc40 : cnt ≤ 40) {room which y : Int32} : Met l yX0_belowBottoms wsX0_belowBottoms ({ frames := 1, cells := 0, slots := 0, locals := 21 }) (va_Pc [.ref (G.2.2.1 0 0), .int room, .int which, .int y] (pvU G tys σ)) (va_Qi (fun r σ' => r = flB σ room which y cnt ∧ σ' = σ) (pvU G tys) (pvB G)) 0 0 (pvB G) := by
  refine Met.ofW (cc := cX0_belowBottoms) (maxL := 6) (ret := (some .int)) (by decide) rfl ?_
  intro p e s m args below meth c s₁ B hml hv
  obtain ⟨rfl, hw, hK, hA⟩ := hv
  have hx := B.exec
  have hb := B.bytes
  have hr := B.returns
  have hts := atoms_spec (ws := wsX0_belowBottoms) B.pre
  have hown : s.vm.findClass RX0 = some m.cls := findClass_of_methodNamed B.named
  have hlocks := B.notSynchronized
  have hS : va_S (pvB G) s.heap s.heap [] := va_S.rf
  have hl := lv_entry ([.ref (G.2.2.1 0 0), .int room, .int which, .int y]) (n := 6) (Nat.le_of_ble_eq_true rfl)
  rw [lg_entry_eq]
  generalize (lg_sl ([.ref (G.2.2.1 0 0), .int room, .int which, .int y]) ++ List.replicate (6 - (lg_sl ([.ref (G.2.2.1 0 0), .int room, .int which, .int y])).length) Slot.unset).toArray = ls at hl ⊢
  have hl : lv_has ls 6 [(0, .ref (G.2.2.1 0 0)), (1, .int room), (2, .int which), (3, .int y)] := hl
  refine lv_iload_n hx hb dX0_belowBottoms_0 rfl (lv_at hl 3 rfl) ?_
  refine lv_istore (lv' := [(4, .int y), (0, .ref (G.2.2.1 0 0)), (1, .int room), (2, .int which), (3, .int y)]) hx hb dX0_belowBottoms_1 hl (by decide) rfl (fun ls hl => ?_)
  refine lv_iconst (v := 0) hx hb dX0_belowBottoms_3 (by decide) ?_
  refine lv_istore (lv' := [(5, .int 0), (4, .int y), (0, .ref (G.2.2.1 0 0)), (1, .int room), (2, .int which), (3, .int y)]) hx hb dX0_belowBottoms_4 hl (by decide) rfl (fun ls hl => ?_)
  have loop6 : ∀ (n : Nat) (i : Nat) (lo : Int32), cnt - i < n → i ≤ cnt → lo = flB σ room which y i → ∀ (H : Heap) (locs : List Loc), pvW G σ H → va_S (pvB G) s.heap H locs → ∀ (ls : Array Slot), lv_has ls 6 [(0, .ref (G.2.2.1 0 0)), (1, .int room), (2, .int which), (3, .int y), (4, .int lo), (5, .int (nI i))] → W p l e (headSpec wsX0_belowBottoms ({ frames := 1, cells := 0, slots := 0, locals := 21 } : Room)).room s m ([.ref (G.2.2.1 0 0), .int room, .int which, .int y] : List Value).toArray below meth c H locs 0 0 (MQ below (va_Qi (fun r σ' => r = flB σ room which y cnt ∧ σ' = σ) (pvU G tys) (pvB G)) ([.ref (G.2.2.1 0 0), .int room, .int which, .int y] : List Value).toArray s 0 0 (pvB G)) (F0 m 6 ls []) := by
    intro n
    induction n with
    | zero => intros; omega
    | succ n ih =>
      intro i lo hm hi hlo H locs hw hS ls hl
      refine lv_iload hx hb dX0_belowBottoms_6 (lv_at hl 5 rfl) ?_
      refine lv_aload_n hx hb dX0_belowBottoms_8 rfl (lv_at hl 0 rfl) ?_
      refine pgI (C := RX0) (T := TX0) (N := 10) hx hb hts hown hK hw 0 6 0 (Nat.one_pos) (by decide) rfl rfl (by decide +kernel) (by decide) rfl (hts (.fieldLink RX0 30 "PinnaceView$Floats" "count" "I") (by decide +kernel)) (fun _ h9 => h9) dX0_belowBottoms_9 ?_
      rw [hcnt]
      refine lv_icmp_ge (tgt := 65) hx hb dX0_belowBottoms_12 (by decide) (fun c_12_1 => ?_) (fun c_12_1 => ?_)
      · skip
        have c_12_1 : cnt ≤ i := (nI_leI (a := cnt) (b := i) (by omega) (by omega)).mp c_12_1
        refine lv_iload hx hb dX0_belowBottoms_65 (lv_at hl 4 rfl) ?_
        exact pei hx hb hr hlocks hA hw hK hS (⟨by rw [hlo, show cnt = i by omega], rfl⟩) dX0_belowBottoms_67
      · skip
        have c_12_1 : ¬ cnt ≤ i := fun z => c_12_1 ((nI_leI (a := cnt) (b := i) (by omega) (by omega)).mpr z)
        refine lv_iload hx hb dX0_belowBottoms_15 (lv_at hl 5 rfl) ?_
        refine lv_bipush (v := 40) hx hb dX0_belowBottoms_17 (by decide) ?_
        refine lv_icmp_ge (tgt := 65) hx hb dX0_belowBottoms_19 (by decide) (fun c_19_2 => ?_) (fun c_19_2 => ?_)
        · skip
          have c_19_2 : 40 ≤ i := (nI_leI (a := 40) (b := i) (by omega) (by omega)).mp c_19_2
          refine lv_iload hx hb dX0_belowBottoms_65 (lv_at hl 4 rfl) ?_
          exact pei hx hb hr hlocks hA hw hK hS (⟨by rw [hlo, show cnt = i by omega], rfl⟩) dX0_belowBottoms_67
        · skip
          have c_19_2 : ¬ 40 ≤ i := fun z => c_19_2 ((nI_leI (a := 40) (b := i) (by omega) (by omega)).mpr z)
          refine lv_aload_n hx hb dX0_belowBottoms_22 rfl (lv_at hl 0 rfl) ?_
          refine pgL (C := RX0) (T := TX0) (N := 10) hx hb hts hown hK hw 0 0 0 (Nat.one_pos) (by decide) rfl rfl (by decide +kernel) (by decide) (v := .ref (G.2.2.1 20 0)) rfl (hts (.fieldLink RX0 9 "PinnaceView$Floats" "rooms" "[I") (by decide +kernel)) (fun _ h9 => h9) dX0_belowBottoms_23 ?_
          refine lv_iload hx hb dX0_belowBottoms_26 (lv_at hl 5 rfl) ?_
          refine pgAn hx hb hK htys hw 20 0 (Nat.one_pos) (by decide) (by decide) (by decide) (by decide) (by decide) i (show i < 40 by omega) dX0_belowBottoms_28 ?_
          refine lv_iload_n hx hb dX0_belowBottoms_29 rfl (lv_at hl 1 rfl) ?_
          refine lv_icmp_ne (tgt := 59) hx hb dX0_belowBottoms_30 (by decide) (fun c_30_3 => ?_) (fun c_30_3 => ?_)
          · skip
            refine lv_iinc (v := nI (i + 1)) (lv' := [(5, .int (nI (i + 1))), (0, .ref (G.2.2.1 0 0)), (1, .int room), (2, .int which), (3, .int y), (4, .int lo)]) hx hb dX0_belowBottoms_59 hl (k := 5) rfl (nI_1 _) (by decide) rfl (fun ls hl => ?_)
            refine lv_goto (tgt := 6) hx hb dX0_belowBottoms_62 (by decide) ?_
            exact ih (i + 1) lo (by omega) (by omega) (by (try subst hlo); simp_all [flB]) _ _ hw hS ls (lv_sub hl [1, 2, 3, 4, 5, 0] rfl)
          · skip
            refine lv_aload_n hx hb dX0_belowBottoms_33 rfl (lv_at hl 0 rfl) ?_
            refine pgL (C := RX0) (T := TX0) (N := 10) hx hb hts hown hK hw 0 1 0 (Nat.one_pos) (by decide) rfl rfl (by decide +kernel) (by decide) (v := .ref (G.2.2.1 21 0)) rfl (hts (.fieldLink RX0 15 "PinnaceView$Floats" "sides" "[I") (by decide +kernel)) (fun _ h9 => h9) dX0_belowBottoms_34 ?_
            refine lv_iload hx hb dX0_belowBottoms_37 (lv_at hl 5 rfl) ?_
            refine pgAn hx hb hK htys hw 21 0 (Nat.one_pos) (by decide) (by decide) (by decide) (by decide) (by decide) i (show i < 40 by omega) dX0_belowBottoms_39 ?_
            refine lv_iload_n hx hb dX0_belowBottoms_40 rfl (lv_at hl 2 rfl) ?_
            refine lv_iand hx hb dX0_belowBottoms_41 ?_
            refine lv_if_eq (tgt := 59) hx hb dX0_belowBottoms_42 (by decide) (fun c_42_4 => ?_) (fun c_42_4 => ?_)
            · skip
              refine lv_iinc (v := nI (i + 1)) (lv' := [(5, .int (nI (i + 1))), (0, .ref (G.2.2.1 0 0)), (1, .int room), (2, .int which), (3, .int y), (4, .int lo)]) hx hb dX0_belowBottoms_59 hl (k := 5) rfl (nI_1 _) (by decide) rfl (fun ls hl => ?_)
              refine lv_goto (tgt := 6) hx hb dX0_belowBottoms_62 (by decide) ?_
              exact ih (i + 1) lo (by omega) (by omega) (by (try subst hlo); simp_all [flB]) _ _ hw hS ls (lv_sub hl [1, 2, 3, 4, 5, 0] rfl)
            · skip
              refine lv_iload hx hb dX0_belowBottoms_45 (lv_at hl 4 rfl) ?_
              refine lv_aload_n hx hb dX0_belowBottoms_47 rfl (lv_at hl 0 rfl) ?_
              refine pgL (C := RX0) (T := TX0) (N := 10) hx hb hts hown hK hw 0 5 0 (Nat.one_pos) (by decide) rfl rfl (by decide +kernel) (by decide) (v := .ref (G.2.2.1 25 0)) rfl (hts (.fieldLink RX0 27 "PinnaceView$Floats" "bottoms" "[I") (by decide +kernel)) (fun _ h9 => h9) dX0_belowBottoms_48 ?_
              refine lv_iload hx hb dX0_belowBottoms_51 (lv_at hl 5 rfl) ?_
              refine pgAn hx hb hK htys hw 25 0 (Nat.one_pos) (by decide) (by decide) (by decide) (by decide) (by decide) i (show i < 40 by omega) dX0_belowBottoms_53 ?_
              refine va_mmax hx hb (hml.trans hl.1.symm) hown (hts (.methodLink RX0 43 Lib.Math.max.name) (by decide +kernel)) (hts (.static Lib.Math.max.name) (by decide +kernel)) (hts (.initialized "java/lang/Math") (by decide +kernel)) (hts (.code Lib.Math.max.name Lib.Math.max.code 2 (some .int)) (by decide +kernel)) (Nat.le_of_ble_eq_true rfl) (Nat.le_of_ble_eq_true rfl) (Nat.zero_le _) (Nat.zero_le _) dX0_belowBottoms_54 ?_
              refine lv_istore (lv' := [(4, .int (if lo < (σ.2.2.2.1 25 0 i) then (σ.2.2.2.1 25 0 i) else lo)), (0, .ref (G.2.2.1 0 0)), (1, .int room), (2, .int which), (3, .int y), (5, .int (nI i))]) hx hb dX0_belowBottoms_57 hl (by decide) rfl (fun ls hl => ?_)
              refine lv_iinc (v := nI (i + 1)) (lv' := [(5, .int (nI (i + 1))), (4, .int (if lo < (σ.2.2.2.1 25 0 i) then (σ.2.2.2.1 25 0 i) else lo)), (0, .ref (G.2.2.1 0 0)), (1, .int room), (2, .int which), (3, .int y)]) hx hb dX0_belowBottoms_59 hl (k := 5) rfl (nI_1 _) (by decide) rfl (fun ls hl => ?_)
              refine lv_goto (tgt := 6) hx hb dX0_belowBottoms_62 (by decide) ?_
              exact ih (i + 1) (if lo < (σ.2.2.2.1 25 0 i) then (σ.2.2.2.1 25 0 i) else lo) (by omega) (by omega) (by (try subst hlo); simp_all [flB]) _ _ hw hS ls (lv_sub hl [2, 3, 4, 5, 1, 0] rfl)
  exact loop6 (cnt + 1) 0 y (by omega) (by omega) rfl _ _ hw hS ls (lv_sub hl [2, 3, 4, 5, 1, 0] rfl)
set_option maxHeartbeats 4000000 in
set_option maxRecDepth 100000 in
theorem c_belowTops {l : Launch} {G : PvG} {tys : List (ClassId × FieldType)} {σ : PvS} (htys : tys = pvT G) {cnt : Nat} (hcnt : σ.2.1 0 6 0 = nI cnt) (hc40 : cnt ≤ 40) {room y : Int32} : Met l yX0_belowTops wsX0_belowTops ({ frames := 1, cells := 0, slots := 0, locals := 21 }) (va_Pc [.ref (G.2.2.1 0 0), .int room, .int y] (pvU G tys σ)) (va_Qi (fun r σ' => r = flT σ room y cnt ∧ σ' = σ) (pvU G tys) (pvB G)) 0 0 (pvB G) := by
  refine Met.ofW (cc := cX0_belowTops) (maxL := 5) (ret := (some .int)) (by decide) rfl ?_
  intro p e s m args below meth c s₁ B hml hv
  obtain ⟨rfl, hw, hK, hA⟩ := hv
  have hx := B.exec
  have hb := B.bytes
  have hr := B.returns
  have hts := atoms_spec (ws := wsX0_belowTops) B.pre
  have hown : s.vm.findClass RX0 = some m.cls := findClass_of_methodNamed B.named
  have hlocks := B.notSynchronized
  have hS : va_S (pvB G) s.heap s.heap [] := va_S.rf
  have hl := lv_entry ([.ref (G.2.2.1 0 0), .int room, .int y]) (n := 5) (Nat.le_of_ble_eq_true rfl)
  rw [lg_entry_eq]
  generalize (lg_sl ([.ref (G.2.2.1 0 0), .int room, .int y]) ++ List.replicate (5 - (lg_sl ([.ref (G.2.2.1 0 0), .int room, .int y])).length) Slot.unset).toArray = ls at hl ⊢
  have hl : lv_has ls 5 [(0, .ref (G.2.2.1 0 0)), (1, .int room), (2, .int y)] := hl
  refine lv_iload_n hx hb dX0_belowTops_0 rfl (lv_at hl 2 rfl) ?_
  refine lv_istore_n (lv' := [(3, .int y), (0, .ref (G.2.2.1 0 0)), (1, .int room), (2, .int y)]) hx hb dX0_belowTops_1 rfl hl (by decide) rfl (fun ls hl => ?_)
  refine lv_iconst (v := 0) hx hb dX0_belowTops_2 (by decide) ?_
  refine lv_istore (lv' := [(4, .int 0), (3, .int y), (0, .ref (G.2.2.1 0 0)), (1, .int room), (2, .int y)]) hx hb dX0_belowTops_3 hl (by decide) rfl (fun ls hl => ?_)
  have loop5 : ∀ (n : Nat) (i : Nat) (lo : Int32), cnt - i < n → i ≤ cnt → lo = flT σ room y i → ∀ (H : Heap) (locs : List Loc), pvW G σ H → va_S (pvB G) s.heap H locs → ∀ (ls : Array Slot), lv_has ls 5 [(0, .ref (G.2.2.1 0 0)), (1, .int room), (2, .int y), (3, .int lo), (4, .int (nI i))] → W p l e (headSpec wsX0_belowTops ({ frames := 1, cells := 0, slots := 0, locals := 21 } : Room)).room s m ([.ref (G.2.2.1 0 0), .int room, .int y] : List Value).toArray below meth c H locs 0 0 (MQ below (va_Qi (fun r σ' => r = flT σ room y cnt ∧ σ' = σ) (pvU G tys) (pvB G)) ([.ref (G.2.2.1 0 0), .int room, .int y] : List Value).toArray s 0 0 (pvB G)) (F0 m 5 ls []) := by
    intro n
    induction n with
    | zero => intros; omega
    | succ n ih =>
      intro i lo hm hi hlo H locs hw hS ls hl
      refine lv_iload hx hb dX0_belowTops_5 (lv_at hl 4 rfl) ?_
      refine lv_aload_n hx hb dX0_belowTops_7 rfl (lv_at hl 0 rfl) ?_
      refine pgI (C := RX0) (T := TX0) (N := 10) hx hb hts hown hK hw 0 6 0 (Nat.one_pos) (by decide) rfl rfl (by decide +kernel) (by decide) rfl (hts (.fieldLink RX0 30 "PinnaceView$Floats" "count" "I") (by decide +kernel)) (fun _ h9 => h9) dX0_belowTops_8 ?_
      rw [hcnt]
      refine lv_icmp_ge (tgt := 50) hx hb dX0_belowTops_11 (by decide) (fun c_11_1 => ?_) (fun c_11_1 => ?_)
      · skip
        have c_11_1 : cnt ≤ i := (nI_leI (a := cnt) (b := i) (by omega) (by omega)).mp c_11_1
        refine lv_iload_n hx hb dX0_belowTops_50 rfl (lv_at hl 3 rfl) ?_
        exact pei hx hb hr hlocks hA hw hK hS (⟨by rw [hlo, show cnt = i by omega], rfl⟩) dX0_belowTops_51
      · skip
        have c_11_1 : ¬ cnt ≤ i := fun z => c_11_1 ((nI_leI (a := cnt) (b := i) (by omega) (by omega)).mpr z)
        refine lv_iload hx hb dX0_belowTops_14 (lv_at hl 4 rfl) ?_
        refine lv_bipush (v := 40) hx hb dX0_belowTops_16 (by decide) ?_
        refine lv_icmp_ge (tgt := 50) hx hb dX0_belowTops_18 (by decide) (fun c_18_2 => ?_) (fun c_18_2 => ?_)
        · skip
          have c_18_2 : 40 ≤ i := (nI_leI (a := 40) (b := i) (by omega) (by omega)).mp c_18_2
          refine lv_iload_n hx hb dX0_belowTops_50 rfl (lv_at hl 3 rfl) ?_
          exact pei hx hb hr hlocks hA hw hK hS (⟨by rw [hlo, show cnt = i by omega], rfl⟩) dX0_belowTops_51
        · skip
          have c_18_2 : ¬ 40 ≤ i := fun z => c_18_2 ((nI_leI (a := 40) (b := i) (by omega) (by omega)).mpr z)
          refine lv_aload_n hx hb dX0_belowTops_21 rfl (lv_at hl 0 rfl) ?_
          refine pgL (C := RX0) (T := TX0) (N := 10) hx hb hts hown hK hw 0 0 0 (Nat.one_pos) (by decide) rfl rfl (by decide +kernel) (by decide) (v := .ref (G.2.2.1 20 0)) rfl (hts (.fieldLink RX0 9 "PinnaceView$Floats" "rooms" "[I") (by decide +kernel)) (fun _ h9 => h9) dX0_belowTops_22 ?_
          refine lv_iload hx hb dX0_belowTops_25 (lv_at hl 4 rfl) ?_
          refine pgAn hx hb hK htys hw 20 0 (Nat.one_pos) (by decide) (by decide) (by decide) (by decide) (by decide) i (show i < 40 by omega) dX0_belowTops_27 ?_
          refine lv_iload_n hx hb dX0_belowTops_28 rfl (lv_at hl 1 rfl) ?_
          refine lv_icmp_ne (tgt := 44) hx hb dX0_belowTops_29 (by decide) (fun c_29_3 => ?_) (fun c_29_3 => ?_)
          · skip
            refine lv_iinc (v := nI (i + 1)) (lv' := [(4, .int (nI (i + 1))), (0, .ref (G.2.2.1 0 0)), (1, .int room), (2, .int y), (3, .int lo)]) hx hb dX0_belowTops_44 hl (k := 4) rfl (nI_1 _) (by decide) rfl (fun ls hl => ?_)
            refine lv_goto (tgt := 5) hx hb dX0_belowTops_47 (by decide) ?_
            exact ih (i + 1) lo (by omega) (by omega) (by (try subst hlo); simp_all [flT]) _ _ hw hS ls (lv_sub hl [1, 2, 3, 4, 0] rfl)
          · skip
            refine lv_iload_n hx hb dX0_belowTops_32 rfl (lv_at hl 3 rfl) ?_
            refine lv_aload_n hx hb dX0_belowTops_33 rfl (lv_at hl 0 rfl) ?_
            refine pgL (C := RX0) (T := TX0) (N := 10) hx hb hts hown hK hw 0 4 0 (Nat.one_pos) (by decide) rfl rfl (by decide +kernel) (by decide) (v := .ref (G.2.2.1 24 0)) rfl (hts (.fieldLink RX0 24 "PinnaceView$Floats" "tops" "[I") (by decide +kernel)) (fun _ h9 => h9) dX0_belowTops_34 ?_
            refine lv_iload hx hb dX0_belowTops_37 (lv_at hl 4 rfl) ?_
            refine pgAn hx hb hK htys hw 24 0 (Nat.one_pos) (by decide) (by decide) (by decide) (by decide) (by decide) i (show i < 40 by omega) dX0_belowTops_39 ?_
            refine va_mmax hx hb (hml.trans hl.1.symm) hown (hts (.methodLink RX0 43 Lib.Math.max.name) (by decide +kernel)) (hts (.static Lib.Math.max.name) (by decide +kernel)) (hts (.initialized "java/lang/Math") (by decide +kernel)) (hts (.code Lib.Math.max.name Lib.Math.max.code 2 (some .int)) (by decide +kernel)) (Nat.le_of_ble_eq_true rfl) (Nat.le_of_ble_eq_true rfl) (Nat.zero_le _) (Nat.zero_le _) dX0_belowTops_40 ?_
            refine lv_istore_n (lv' := [(3, .int (if lo < (σ.2.2.2.1 24 0 i) then (σ.2.2.2.1 24 0 i) else lo)), (0, .ref (G.2.2.1 0 0)), (1, .int room), (2, .int y), (4, .int (nI i))]) hx hb dX0_belowTops_43 rfl hl (by decide) rfl (fun ls hl => ?_)
            refine lv_iinc (v := nI (i + 1)) (lv' := [(4, .int (nI (i + 1))), (3, .int (if lo < (σ.2.2.2.1 24 0 i) then (σ.2.2.2.1 24 0 i) else lo)), (0, .ref (G.2.2.1 0 0)), (1, .int room), (2, .int y)]) hx hb dX0_belowTops_44 hl (k := 4) rfl (nI_1 _) (by decide) rfl (fun ls hl => ?_)
            refine lv_goto (tgt := 5) hx hb dX0_belowTops_47 (by decide) ?_
            exact ih (i + 1) (if lo < (σ.2.2.2.1 24 0 i) then (σ.2.2.2.1 24 0 i) else lo) (by omega) (by omega) (by (try subst hlo); simp_all [flT]) _ _ hw hS ls (lv_sub hl [2, 3, 4, 1, 0] rfl)
  exact loop5 (cnt + 1) 0 y (by omega) (by omega) rfl _ _ hw hS ls (lv_sub hl [2, 3, 4, 1, 0] rfl)
set_option maxHeartbeats 4000000 in
set_option maxRecDepth 100000 in
theorem c_flClear {l : Launch} {G : PvG} {tys : List (ClassId × FieldType)} {σ : PvS}  : Met l yX0_clear wsX0_clear ({ frames := 0, cells := 0, slots := 0, locals := 0 }) (va_Pc [.ref (G.2.2.1 0 0)] (pvU G tys σ)) (va_Qv (fun σ' => σ' = pvI σ 0 6 0 0) (pvU G tys) (pvB G)) 0 0 (pvB G) := by
  refine Met.ofW (cc := cX0_clear) (maxL := 1) (ret := none) (by decide) rfl ?_
  intro p e s m args below meth c s₁ B hml hv
  obtain ⟨rfl, hw, hK, hA⟩ := hv
  have hx := B.exec
  have hb := B.bytes
  have hr := B.returns
  have hts := atoms_spec (ws := wsX0_clear) B.pre
  have hown : s.vm.findClass RX0 = some m.cls := findClass_of_methodNamed B.named
  have hlocks := B.notSynchronized
  have hS : va_S (pvB G) s.heap s.heap [] := va_S.rf
  have hl := lv_entry ([.ref (G.2.2.1 0 0)]) (n := 1) (Nat.le_of_ble_eq_true rfl)
  rw [lg_entry_eq]
  generalize (lg_sl ([.ref (G.2.2.1 0 0)]) ++ List.replicate (1 - (lg_sl ([.ref (G.2.2.1 0 0)])).length) Slot.unset).toArray = ls at hl ⊢
  have hl : lv_has ls 1 [(0, .ref (G.2.2.1 0 0))] := hl
  refine lv_aload_n hx hb dX0_clear_0 rfl (lv_at hl 0 rfl) ?_
  refine lv_iconst (v := 0) hx hb dX0_clear_1 (by decide) ?_
  refine ppI (ty := .int) (C := RX0) (T := TX0) (N := 10) hx hb hts hown hK hw hS 0 6 0 (Nat.one_pos) (by decide) rfl rfl (by decide +kernel) (by decide) rfl (by decide) tyX0_ok nmX0 (hts (.fieldLink RX0 30 "PinnaceView$Floats" "count" "I") (by decide +kernel)) (fun _ h9 => h9) rfl (by decide +kernel) rfl rfl dX0_clear_2 (fun H locs hw hS => ?_)
  obtain ⟨σ1, eσ1⟩ : ∃ z, z = pvI σ 0 6 0 0 := ⟨_, rfl⟩
  rw [← eσ1] at hw
  exact pev hx hb hr hlocks hA hw hK hS (by (try subst eσ1); rfl) dX0_clear_5
set_option maxHeartbeats 4000000 in
set_option maxRecDepth 100000 in
theorem c_flPut {l : Launch} {G : PvG} {tys : List (ClassId × FieldType)} {σ : PvS} (htys : tys = pvT G) {cnt : Nat} (hcnt : σ.2.1 0 6 0 = nI cnt) (hc40 : cnt < 40) {room side left top wide high : Int32} : Met l yX0_put wsX0_put ({ frames := 0, cells := 0, slots := 0, locals := 0 }) (va_Pc [.ref (G.2.2.1 0 0), .int room, .int side, .int left, .int top, .int wide, .int high] (pvU G tys σ)) (va_Qv (fun σ' => σ' = flPut σ cnt room side left top wide high) (pvU G tys) (pvB G)) 0 0 (pvB G) := by
  refine Met.ofW (cc := cX0_put) (maxL := 7) (ret := none) (by decide) rfl ?_
  intro p e s m args below meth c s₁ B hml hv
  obtain ⟨rfl, hw, hK, hA⟩ := hv
  have hx := B.exec
  have hb := B.bytes
  have hr := B.returns
  have hts := atoms_spec (ws := wsX0_put) B.pre
  have hown : s.vm.findClass RX0 = some m.cls := findClass_of_methodNamed B.named
  have hlocks := B.notSynchronized
  have hS : va_S (pvB G) s.heap s.heap [] := va_S.rf
  have hl := lv_entry ([.ref (G.2.2.1 0 0), .int room, .int side, .int left, .int top, .int wide, .int high]) (n := 7) (Nat.le_of_ble_eq_true rfl)
  rw [lg_entry_eq]
  generalize (lg_sl ([.ref (G.2.2.1 0 0), .int room, .int side, .int left, .int top, .int wide, .int high]) ++ List.replicate (7 - (lg_sl ([.ref (G.2.2.1 0 0), .int room, .int side, .int left, .int top, .int wide, .int high])).length) Slot.unset).toArray = ls at hl ⊢
  have hl : lv_has ls 7 [(0, .ref (G.2.2.1 0 0)), (1, .int room), (2, .int side), (3, .int left), (4, .int top), (5, .int wide), (6, .int high)] := hl
  refine lv_aload_n hx hb dX0_put_0 rfl (lv_at hl 0 rfl) ?_
  refine pgI (C := RX0) (T := TX0) (N := 10) hx hb hts hown hK hw 0 6 0 (Nat.one_pos) (by decide) rfl rfl (by decide +kernel) (by decide) rfl (hts (.fieldLink RX0 30 "PinnaceView$Floats" "count" "I") (by decide +kernel)) (fun _ h9 => h9) dX0_put_1 ?_
  rw [(show σ.2.1 0 6 0 = nI cnt by skip; exact hcnt)]
  refine lv_if_lt (tgt := 16) hx hb dX0_put_4 (by decide) (fun c_4_1 => ?_) (fun c_4_1 => ?_)
  · skip
    have c_4_1 : cnt < 0 := (nI_ltI (a := cnt) (b := 0) (by omega) (by omega)).mp c_4_1
    exact pev hx hb hr hlocks hA hw hK hS (by first | (skip; rfl) | omega) dX0_put_16
  · skip
    have c_4_1 : ¬ cnt < 0 := fun z => c_4_1 ((nI_ltI (a := cnt) (b := 0) (by omega) (by omega)).mpr z)
    refine lv_aload_n hx hb dX0_put_7 rfl (lv_at hl 0 rfl) ?_
    refine pgI (C := RX0) (T := TX0) (N := 10) hx hb hts hown hK hw 0 6 0 (Nat.one_pos) (by decide) rfl rfl (by decide +kernel) (by decide) rfl (hts (.fieldLink RX0 30 "PinnaceView$Floats" "count" "I") (by decide +kernel)) (fun _ h9 => h9) dX0_put_8 ?_
    rw [(show σ.2.1 0 6 0 = nI cnt by skip; exact hcnt)]
    refine lv_bipush (v := 40) hx hb dX0_put_11 (by decide) ?_
    refine lv_icmp_lt (tgt := 17) hx hb dX0_put_13 (by decide) (fun c_13_2 => ?_) (fun c_13_2 => ?_)
    · skip
      have c_13_2 : cnt < 40 := (nI_ltI (a := cnt) (b := 40) (by omega) (by omega)).mp c_13_2
      refine lv_aload_n hx hb dX0_put_17 rfl (lv_at hl 0 rfl) ?_
      refine pgL (C := RX0) (T := TX0) (N := 10) hx hb hts hown hK hw 0 0 0 (Nat.one_pos) (by decide) rfl rfl (by decide +kernel) (by decide) (v := .ref (G.2.2.1 20 0)) rfl (hts (.fieldLink RX0 9 "PinnaceView$Floats" "rooms" "[I") (by decide +kernel)) (fun _ h9 => h9) dX0_put_18 ?_
      refine lv_aload_n hx hb dX0_put_21 rfl (lv_at hl 0 rfl) ?_
      refine pgI (C := RX0) (T := TX0) (N := 10) hx hb hts hown hK hw 0 6 0 (Nat.one_pos) (by decide) rfl rfl (by decide +kernel) (by decide) rfl (hts (.fieldLink RX0 30 "PinnaceView$Floats" "count" "I") (by decide +kernel)) (fun _ h9 => h9) dX0_put_22 ?_
      rw [(show σ.2.1 0 6 0 = nI cnt by skip; exact hcnt)]
      refine lv_iload_n hx hb dX0_put_25 rfl (lv_at hl 1 rfl) ?_
      refine ppAn hx hb hK htys hw hS 20 0 (Nat.one_pos) (by decide) (by decide) (by decide) (by decide) (by decide) cnt (show cnt < 40 by omega) dX0_put_26 (fun H locs hw hS => ?_)
      obtain ⟨σ3, eσ3⟩ : ∃ z, z = pvA σ 20 0 cnt room := ⟨_, rfl⟩
      rw [← eσ3] at hw
      refine lv_aload_n hx hb dX0_put_27 rfl (lv_at hl 0 rfl) ?_
      refine pgL (C := RX0) (T := TX0) (N := 10) hx hb hts hown hK hw 0 1 0 (Nat.one_pos) (by decide) rfl rfl (by decide +kernel) (by decide) (v := .ref (G.2.2.1 21 0)) rfl (hts (.fieldLink RX0 15 "PinnaceView$Floats" "sides" "[I") (by decide +kernel)) (fun _ h9 => h9) dX0_put_28 ?_
      refine lv_aload_n hx hb dX0_put_31 rfl (lv_at hl 0 rfl) ?_
      refine pgI (C := RX0) (T := TX0) (N := 10) hx hb hts hown hK hw 0 6 0 (Nat.one_pos) (by decide) rfl rfl (by decide +kernel) (by decide) rfl (hts (.fieldLink RX0 30 "PinnaceView$Floats" "count" "I") (by decide +kernel)) (fun _ h9 => h9) dX0_put_32 ?_
      rw [(show σ3.2.1 0 6 0 = nI cnt by (try subst eσ3); exact hcnt)]
      refine lv_iload_n hx hb dX0_put_35 rfl (lv_at hl 2 rfl) ?_
      refine ppAn hx hb hK htys hw hS 21 0 (Nat.one_pos) (by decide) (by decide) (by decide) (by decide) (by decide) cnt (show cnt < 40 by omega) dX0_put_36 (fun H locs hw hS => ?_)
      obtain ⟨σ4, eσ4⟩ : ∃ z, z = pvA σ3 21 0 cnt side := ⟨_, rfl⟩
      rw [← eσ4] at hw
      refine lv_aload_n hx hb dX0_put_37 rfl (lv_at hl 0 rfl) ?_
      refine pgL (C := RX0) (T := TX0) (N := 10) hx hb hts hown hK hw 0 2 0 (Nat.one_pos) (by decide) rfl rfl (by decide +kernel) (by decide) (v := .ref (G.2.2.1 22 0)) rfl (hts (.fieldLink RX0 18 "PinnaceView$Floats" "lefts" "[I") (by decide +kernel)) (fun _ h9 => h9) dX0_put_38 ?_
      refine lv_aload_n hx hb dX0_put_41 rfl (lv_at hl 0 rfl) ?_
      refine pgI (C := RX0) (T := TX0) (N := 10) hx hb hts hown hK hw 0 6 0 (Nat.one_pos) (by decide) rfl rfl (by decide +kernel) (by decide) rfl (hts (.fieldLink RX0 30 "PinnaceView$Floats" "count" "I") (by decide +kernel)) (fun _ h9 => h9) dX0_put_42 ?_
      rw [(show σ4.2.1 0 6 0 = nI cnt by (try subst eσ4 eσ3); exact hcnt)]
      refine lv_iload_n hx hb dX0_put_45 rfl (lv_at hl 3 rfl) ?_
      refine ppAn hx hb hK htys hw hS 22 0 (Nat.one_pos) (by decide) (by decide) (by decide) (by decide) (by decide) cnt (show cnt < 40 by omega) dX0_put_46 (fun H locs hw hS => ?_)
      obtain ⟨σ5, eσ5⟩ : ∃ z, z = pvA σ4 22 0 cnt left := ⟨_, rfl⟩
      rw [← eσ5] at hw
      refine lv_aload_n hx hb dX0_put_47 rfl (lv_at hl 0 rfl) ?_
      refine pgL (C := RX0) (T := TX0) (N := 10) hx hb hts hown hK hw 0 3 0 (Nat.one_pos) (by decide) rfl rfl (by decide +kernel) (by decide) (v := .ref (G.2.2.1 23 0)) rfl (hts (.fieldLink RX0 21 "PinnaceView$Floats" "rights" "[I") (by decide +kernel)) (fun _ h9 => h9) dX0_put_48 ?_
      refine lv_aload_n hx hb dX0_put_51 rfl (lv_at hl 0 rfl) ?_
      refine pgI (C := RX0) (T := TX0) (N := 10) hx hb hts hown hK hw 0 6 0 (Nat.one_pos) (by decide) rfl rfl (by decide +kernel) (by decide) rfl (hts (.fieldLink RX0 30 "PinnaceView$Floats" "count" "I") (by decide +kernel)) (fun _ h9 => h9) dX0_put_52 ?_
      rw [(show σ5.2.1 0 6 0 = nI cnt by (try subst eσ5 eσ4 eσ3); exact hcnt)]
      refine lv_iload_n hx hb dX0_put_55 rfl (lv_at hl 3 rfl) ?_
      refine lv_iload hx hb dX0_put_56 (lv_at hl 5 rfl) ?_
      refine lv_iadd hx hb dX0_put_58 ?_
      refine ppAn hx hb hK htys hw hS 23 0 (Nat.one_pos) (by decide) (by decide) (by decide) (by decide) (by decide) cnt (show cnt < 40 by omega) dX0_put_59 (fun H locs hw hS => ?_)
      obtain ⟨σ6, eσ6⟩ : ∃ z, z = pvA σ5 23 0 cnt (left + wide) := ⟨_, rfl⟩
      rw [← eσ6] at hw
      refine lv_aload_n hx hb dX0_put_60 rfl (lv_at hl 0 rfl) ?_
      refine pgL (C := RX0) (T := TX0) (N := 10) hx hb hts hown hK hw 0 4 0 (Nat.one_pos) (by decide) rfl rfl (by decide +kernel) (by decide) (v := .ref (G.2.2.1 24 0)) rfl (hts (.fieldLink RX0 24 "PinnaceView$Floats" "tops" "[I") (by decide +kernel)) (fun _ h9 => h9) dX0_put_61 ?_
      refine lv_aload_n hx hb dX0_put_64 rfl (lv_at hl 0 rfl) ?_
      refine pgI (C := RX0) (T := TX0) (N := 10) hx hb hts hown hK hw 0 6 0 (Nat.one_pos) (by decide) rfl rfl (by decide +kernel) (by decide) rfl (hts (.fieldLink RX0 30 "PinnaceView$Floats" "count" "I") (by decide +kernel)) (fun _ h9 => h9) dX0_put_65 ?_
      rw [(show σ6.2.1 0 6 0 = nI cnt by (try subst eσ6 eσ5 eσ4 eσ3); exact hcnt)]
      refine lv_iload hx hb dX0_put_68 (lv_at hl 4 rfl) ?_
      refine ppAn hx hb hK htys hw hS 24 0 (Nat.one_pos) (by decide) (by decide) (by decide) (by decide) (by decide) cnt (show cnt < 40 by omega) dX0_put_70 (fun H locs hw hS => ?_)
      obtain ⟨σ7, eσ7⟩ : ∃ z, z = pvA σ6 24 0 cnt top := ⟨_, rfl⟩
      rw [← eσ7] at hw
      refine lv_aload_n hx hb dX0_put_71 rfl (lv_at hl 0 rfl) ?_
      refine pgL (C := RX0) (T := TX0) (N := 10) hx hb hts hown hK hw 0 5 0 (Nat.one_pos) (by decide) rfl rfl (by decide +kernel) (by decide) (v := .ref (G.2.2.1 25 0)) rfl (hts (.fieldLink RX0 27 "PinnaceView$Floats" "bottoms" "[I") (by decide +kernel)) (fun _ h9 => h9) dX0_put_72 ?_
      refine lv_aload_n hx hb dX0_put_75 rfl (lv_at hl 0 rfl) ?_
      refine pgI (C := RX0) (T := TX0) (N := 10) hx hb hts hown hK hw 0 6 0 (Nat.one_pos) (by decide) rfl rfl (by decide +kernel) (by decide) rfl (hts (.fieldLink RX0 30 "PinnaceView$Floats" "count" "I") (by decide +kernel)) (fun _ h9 => h9) dX0_put_76 ?_
      rw [(show σ7.2.1 0 6 0 = nI cnt by (try subst eσ7 eσ6 eσ5 eσ4 eσ3); exact hcnt)]
      refine lv_iload hx hb dX0_put_79 (lv_at hl 4 rfl) ?_
      refine lv_iload hx hb dX0_put_81 (lv_at hl 6 rfl) ?_
      refine lv_iadd hx hb dX0_put_83 ?_
      refine ppAn hx hb hK htys hw hS 25 0 (Nat.one_pos) (by decide) (by decide) (by decide) (by decide) (by decide) cnt (show cnt < 40 by omega) dX0_put_84 (fun H locs hw hS => ?_)
      obtain ⟨σ8, eσ8⟩ : ∃ z, z = pvA σ7 25 0 cnt (top + high) := ⟨_, rfl⟩
      rw [← eσ8] at hw
      refine lv_aload_n hx hb dX0_put_85 rfl (lv_at hl 0 rfl) ?_
      refine lv_dup hx hb dX0_put_86 rfl ?_
      refine pgI (C := RX0) (T := TX0) (N := 10) hx hb hts hown hK hw 0 6 0 (Nat.one_pos) (by decide) rfl rfl (by decide +kernel) (by decide) rfl (hts (.fieldLink RX0 30 "PinnaceView$Floats" "count" "I") (by decide +kernel)) (fun _ h9 => h9) dX0_put_87 ?_
      rw [(show σ8.2.1 0 6 0 = nI cnt by (try subst eσ8 eσ7 eσ6 eσ5 eσ4 eσ3); exact hcnt)]
      refine lv_iconst (v := 1) hx hb dX0_put_90 (by decide) ?_
      refine lv_iadd hx hb dX0_put_91 ?_
      refine ppI (ty := .int) (C := RX0) (T := TX0) (N := 10) hx hb hts hown hK hw hS 0 6 0 (Nat.one_pos) (by decide) rfl rfl (by decide +kernel) (by decide) rfl (by decide) tyX0_ok nmX0 (hts (.fieldLink RX0 30 "PinnaceView$Floats" "count" "I") (by decide +kernel)) (fun _ h9 => h9) rfl (by decide +kernel) rfl rfl dX0_put_92 (fun H locs hw hS => ?_)
      obtain ⟨σ9, eσ9⟩ : ∃ z, z = pvI σ8 0 6 0 ((nI cnt) + 1) := ⟨_, rfl⟩
      rw [← eσ9] at hw
      exact pev hx hb hr hlocks hA hw hK hS (by first | ((try subst eσ9 eσ8 eσ7 eσ6 eσ5 eσ4 eσ3); rfl) | omega) dX0_put_95
    · skip
      have c_13_2 : ¬ cnt < 40 := fun z => c_13_2 ((nI_ltI (a := cnt) (b := 40) (by omega) (by omega)).mpr z)
      exact pev hx hb hr hlocks hA hw hK hS (by first | (skip; rfl) | omega) dX0_put_16
set_option maxHeartbeats 4000000 in
set_option maxRecDepth 100000 in
theorem c_look {l : Launch} {G : PvG} {tys : List (ClassId × FieldType)} {σ : PvS} (htys : tys = pvT G) {cnt : Nat} (hcnt : σ.2.1 0 6 0 = nI cnt) (hc40 : cnt ≤ 40) {b : Nat} (hb0 : b < σ.1.1) {y : Int32} : Met l yX0_look wsX0_look ({ frames := 1, cells := 0, slots := 0, locals := 21 }) (va_Pc [.ref (G.2.2.1 0 0), .ref (G.2.2.1 3 b), .int y] (pvU G tys σ)) (va_Qv (fun σ' => σ' = flLook σ b y cnt) (pvU G tys) (pvB G)) 0 0 (pvB G) := by
  refine Met.ofW (cc := cX0_look) (maxL := 4) (ret := none) (by decide) rfl ?_
  intro p e s m args below meth c s₁ B hml hv
  obtain ⟨rfl, hw, hK, hA⟩ := hv
  have hx := B.exec
  have hb := B.bytes
  have hr := B.returns
  have hts := atoms_spec (ws := wsX0_look) B.pre
  have hown : s.vm.findClass RX0 = some m.cls := findClass_of_methodNamed B.named
  have hlocks := B.notSynchronized
  have hS : va_S (pvB G) s.heap s.heap [] := va_S.rf
  have hl := lv_entry ([.ref (G.2.2.1 0 0), .ref (G.2.2.1 3 b), .int y]) (n := 4) (Nat.le_of_ble_eq_true rfl)
  rw [lg_entry_eq]
  generalize (lg_sl ([.ref (G.2.2.1 0 0), .ref (G.2.2.1 3 b), .int y]) ++ List.replicate (4 - (lg_sl ([.ref (G.2.2.1 0 0), .ref (G.2.2.1 3 b), .int y])).length) Slot.unset).toArray = ls at hl ⊢
  have hl : lv_has ls 4 [(0, .ref (G.2.2.1 0 0)), (1, .ref (G.2.2.1 3 b)), (2, .int y)] := hl
  refine lv_aload_n hx hb dX0_look_0 rfl (lv_at hl 0 rfl) ?_
  refine lv_aload_n hx hb dX0_look_1 rfl (lv_at hl 1 rfl) ?_
  refine pgL (C := RX3) (T := TX3) (N := 14) hx hb hts hown hK hw 3 6 b (show b < pvM σ 3 by skip; first | exact hb0 | exact hbi) (by decide) rfl rfl (by decide +kernel) (by decide) (v := .ref (G.2.2.1 2 b)) rfl (hts (.fieldLink RX0 53 "PinnaceView$Node" "layout" "LPinnaceView$Layout;") (by decide +kernel)) (fun _ h9 => h9) dX0_look_2 ?_
  refine pgI (C := RX2) (T := TX2) (N := 16) hx hb hts hown hK hw 2 5 b (show b < pvM σ 2 by skip; first | exact hb0 | exact hbi) (by decide) rfl rfl (by decide +kernel) (by decide) rfl (hts (.fieldLink RX0 59 "PinnaceView$Layout" "left" "I") (by decide +kernel)) (fun _ h9 => h9) dX0_look_5 ?_
  refine ppI (ty := .int) (C := RX0) (T := TX0) (N := 10) hx hb hts hown hK hw hS 0 7 0 (Nat.one_pos) (by decide) rfl rfl (by decide +kernel) (by decide) rfl (by decide) tyX0_ok nmX0 (hts (.fieldLink RX0 34 "PinnaceView$Floats" "spanBegin" "I") (by decide +kernel)) (fun _ h9 => h9) rfl (by decide +kernel) rfl rfl dX0_look_8 (fun H locs hw hS => ?_)
  obtain ⟨σ1, eσ1⟩ : ∃ z, z = pvI σ 0 7 0 (σ.2.1 2 5 b) := ⟨_, rfl⟩
  rw [← eσ1] at hw
  refine lv_aload_n hx hb dX0_look_11 rfl (lv_at hl 0 rfl) ?_
  refine lv_aload_n hx hb dX0_look_12 rfl (lv_at hl 1 rfl) ?_
  refine pgL (C := RX3) (T := TX3) (N := 14) hx hb hts hown hK hw 3 6 b (show b < pvM σ1 3 by (try subst eσ1); first | exact hb0 | exact hbi) (by decide) rfl rfl (by decide +kernel) (by decide) (v := .ref (G.2.2.1 2 b)) rfl (hts (.fieldLink RX0 53 "PinnaceView$Node" "layout" "LPinnaceView$Layout;") (by decide +kernel)) (fun _ h9 => h9) dX0_look_13 ?_
  refine pgI (C := RX2) (T := TX2) (N := 16) hx hb hts hown hK hw 2 5 b (show b < pvM σ1 2 by (try subst eσ1); first | exact hb0 | exact hbi) (by decide) rfl rfl (by decide +kernel) (by decide) rfl (hts (.fieldLink RX0 59 "PinnaceView$Layout" "left" "I") (by decide +kernel)) (fun _ h9 => h9) dX0_look_16 ?_
  refine lv_aload_n hx hb dX0_look_19 rfl (lv_at hl 1 rfl) ?_
  refine pgL (C := RX3) (T := TX3) (N := 14) hx hb hts hown hK hw 3 6 b (show b < pvM σ1 3 by (try subst eσ1); first | exact hb0 | exact hbi) (by decide) rfl rfl (by decide +kernel) (by decide) (v := .ref (G.2.2.1 2 b)) rfl (hts (.fieldLink RX0 53 "PinnaceView$Node" "layout" "LPinnaceView$Layout;") (by decide +kernel)) (fun _ h9 => h9) dX0_look_20 ?_
  refine pgI (C := RX2) (T := TX2) (N := 16) hx hb hts hown hK hw 2 7 b (show b < pvM σ1 2 by (try subst eσ1); first | exact hb0 | exact hbi) (by decide) rfl rfl (by decide +kernel) (by decide) rfl (hts (.fieldLink RX0 64 "PinnaceView$Layout" "wide" "I") (by decide +kernel)) (fun _ h9 => h9) dX0_look_23 ?_
  refine lv_iadd hx hb dX0_look_26 ?_
  refine ppI (ty := .int) (C := RX0) (T := TX0) (N := 10) hx hb hts hown hK hw hS 0 8 0 (Nat.one_pos) (by decide) rfl rfl (by decide +kernel) (by decide) rfl (by decide) tyX0_ok nmX0 (hts (.fieldLink RX0 37 "PinnaceView$Floats" "spanEnd" "I") (by decide +kernel)) (fun _ h9 => h9) rfl (by decide +kernel) rfl rfl dX0_look_27 (fun H locs hw hS => ?_)
  obtain ⟨σ2, eσ2⟩ : ∃ z, z = pvI σ1 0 8 0 ((σ1.2.1 2 5 b) + (σ1.2.1 2 7 b)) := ⟨_, rfl⟩
  rw [← eσ2] at hw
  refine lv_aload_n hx hb dX0_look_30 rfl (lv_at hl 0 rfl) ?_
  refine lv_iload_n hx hb dX0_look_31 rfl (lv_at hl 2 rfl) ?_
  refine ppI (ty := .int) (C := RX0) (T := TX0) (N := 10) hx hb hts hown hK hw hS 0 9 0 (Nat.one_pos) (by decide) rfl rfl (by decide +kernel) (by decide) rfl (by decide) tyX0_ok nmX0 (hts (.fieldLink RX0 40 "PinnaceView$Floats" "nextBottom" "I") (by decide +kernel)) (fun _ h9 => h9) rfl (by decide +kernel) rfl rfl dX0_look_32 (fun H locs hw hS => ?_)
  obtain ⟨σ3, eσ3⟩ : ∃ z, z = pvI σ2 0 9 0 y := ⟨_, rfl⟩
  rw [← eσ3] at hw
  refine lv_iconst (v := 0) hx hb dX0_look_35 (by decide) ?_
  refine lv_istore_n (lv' := [(3, .int 0), (0, .ref (G.2.2.1 0 0)), (1, .ref (G.2.2.1 3 b)), (2, .int y)]) hx hb dX0_look_36 rfl hl (by decide) rfl (fun ls hl => ?_)
  have loop37 : ∀ (n : Nat) (i : Nat) (σi : PvS), cnt - i < n → i ≤ cnt → σi = flLook σ b y i → ∀ (H : Heap) (locs : List Loc), pvW G σi H → va_S (pvB G) s.heap H locs → ∀ (ls : Array Slot), lv_has ls 4 [(0, .ref (G.2.2.1 0 0)), (1, .ref (G.2.2.1 3 b)), (2, .int y), (3, .int (nI i))] → W p l e (headSpec wsX0_look ({ frames := 1, cells := 0, slots := 0, locals := 21 } : Room)).room s m ([.ref (G.2.2.1 0 0), .ref (G.2.2.1 3 b), .int y] : List Value).toArray below meth c H locs 0 0 (MQ below (va_Qv (fun σ' => σ' = flLook σ b y cnt) (pvU G tys) (pvB G)) ([.ref (G.2.2.1 0 0), .ref (G.2.2.1 3 b), .int y] : List Value).toArray s 0 0 (pvB G)) (F0 m 37 ls []) := by
    intro n
    induction n with
    | zero => intros; omega
    | succ n ih =>
      intro i σi hm hi hσi H locs hw hS ls hl
      have hbi : b < σi.1.1 := by rw [hσi, (flLook_keeps σ b y i).1]; exact hb0
      have hci : σi.2.1 0 6 0 = nI cnt := by rw [hσi, (flLook_keeps σ b y i).2.2 0 6 0 (by omega)]; exact hcnt
      refine lv_iload_n hx hb dX0_look_37 rfl (lv_at hl 3 rfl) ?_
      refine lv_aload_n hx hb dX0_look_38 rfl (lv_at hl 0 rfl) ?_
      refine pgI (C := RX0) (T := TX0) (N := 10) hx hb hts hown hK hw 0 6 0 (Nat.one_pos) (by decide) rfl rfl (by decide +kernel) (by decide) rfl (hts (.fieldLink RX0 30 "PinnaceView$Floats" "count" "I") (by decide +kernel)) (fun _ h9 => h9) dX0_look_39 ?_
      rw [(show σi.2.1 0 6 0 = nI cnt by skip; first | exact hcnt | exact hci)]
      refine lv_icmp_ge (tgt := 174) hx hb dX0_look_42 (by decide) (fun c_42_4 => ?_) (fun c_42_4 => ?_)
      · skip
        have c_42_4 : cnt ≤ i := (nI_leI (a := cnt) (b := i) (by omega) (by omega)).mp c_42_4
        exact pev hx hb hr hlocks hA hw hK hS (by rw [hσi, show cnt = i by omega]) dX0_look_174
      · skip
        have c_42_4 : ¬ cnt ≤ i := fun z => c_42_4 ((nI_leI (a := cnt) (b := i) (by omega) (by omega)).mpr z)
        refine lv_iload_n hx hb dX0_look_45 rfl (lv_at hl 3 rfl) ?_
        refine lv_bipush (v := 40) hx hb dX0_look_46 (by decide) ?_
        refine lv_icmp_ge (tgt := 174) hx hb dX0_look_48 (by decide) (fun c_48_5 => ?_) (fun c_48_5 => ?_)
        · skip
          have c_48_5 : 40 ≤ i := (nI_leI (a := 40) (b := i) (by omega) (by omega)).mp c_48_5
          exact pev hx hb hr hlocks hA hw hK hS (by rw [hσi, show cnt = i by omega]) dX0_look_174
        · skip
          have c_48_5 : ¬ 40 ≤ i := fun z => c_48_5 ((nI_leI (a := 40) (b := i) (by omega) (by omega)).mpr z)
          refine lv_aload_n hx hb dX0_look_51 rfl (lv_at hl 0 rfl) ?_
          refine pgL (C := RX0) (T := TX0) (N := 10) hx hb hts hown hK hw 0 0 0 (Nat.one_pos) (by decide) rfl rfl (by decide +kernel) (by decide) (v := .ref (G.2.2.1 20 0)) rfl (hts (.fieldLink RX0 9 "PinnaceView$Floats" "rooms" "[I") (by decide +kernel)) (fun _ h9 => h9) dX0_look_52 ?_
          refine lv_iload_n hx hb dX0_look_55 rfl (lv_at hl 3 rfl) ?_
          refine pgAn hx hb hK htys hw 20 0 (Nat.one_pos) (by decide) (by decide) (by decide) (by decide) (by decide) i (show i < 40 by omega) dX0_look_56 ?_
          refine lv_aload_n hx hb dX0_look_57 rfl (lv_at hl 1 rfl) ?_
          refine pgL (C := RX3) (T := TX3) (N := 14) hx hb hts hown hK hw 3 7 b (show b < pvM σi 3 by skip; first | exact hb0 | exact hbi) (by decide) rfl rfl (by decide +kernel) (by decide) (v := .ref (G.2.2.1 1 b)) rfl (hts (.fieldLink RX0 67 "PinnaceView$Node" "flow" "LPinnaceView$Flow;") (by decide +kernel)) (fun _ h9 => h9) dX0_look_58 ?_
          refine pgI (C := RX1) (T := TX1) (N := 5) hx hb hts hown hK hw 1 0 b (show b < pvM σi 1 by skip; first | exact hb0 | exact hbi) (by decide) rfl rfl (by decide +kernel) (by decide) rfl (hts (.fieldLink RX0 71 "PinnaceView$Flow" "room" "I") (by decide +kernel)) (fun _ h9 => h9) dX0_look_61 ?_
          refine lv_icmp_ne (tgt := 168) hx hb dX0_look_64 (by decide) (fun c_64_6 => ?_) (fun c_64_6 => ?_)
          · skip
            refine lv_iinc (v := nI (i + 1)) (lv' := [(3, .int (nI (i + 1))), (0, .ref (G.2.2.1 0 0)), (1, .ref (G.2.2.1 3 b)), (2, .int y)]) hx hb dX0_look_168 hl (k := 3) rfl (nI_1 _) (by decide) rfl (fun ls hl => ?_)
            refine lv_goto (tgt := 37) hx hb dX0_look_171 (by decide) ?_
            exact ih (i + 1) _ (by omega) (by omega) (by skip; subst hσi; (try simp only [pvI_1, pvI_R, pvI_AA, pvI_T, pvI_at, pvA_1, pvA_I, pvA_R, pvA_at, pvA_T] at c_42_4 c_48_5 c_64_6); simp [flLook, flLk, pvI_1, pvI_R, pvI_AA, pvI_T, pvI_at, pvA_1, pvA_I, pvA_R, pvA_at, pvA_T, c_42_4, c_48_5, c_64_6]) _ _ hw hS ls (lv_sub hl [1, 2, 3, 0] rfl)
          · skip
            refine lv_iload_n hx hb dX0_look_67 rfl (lv_at hl 2 rfl) ?_
            refine lv_aload_n hx hb dX0_look_68 rfl (lv_at hl 0 rfl) ?_
            refine pgL (C := RX0) (T := TX0) (N := 10) hx hb hts hown hK hw 0 4 0 (Nat.one_pos) (by decide) rfl rfl (by decide +kernel) (by decide) (v := .ref (G.2.2.1 24 0)) rfl (hts (.fieldLink RX0 24 "PinnaceView$Floats" "tops" "[I") (by decide +kernel)) (fun _ h9 => h9) dX0_look_69 ?_
            refine lv_iload_n hx hb dX0_look_72 rfl (lv_at hl 3 rfl) ?_
            refine pgAn hx hb hK htys hw 24 0 (Nat.one_pos) (by decide) (by decide) (by decide) (by decide) (by decide) i (show i < 40 by omega) dX0_look_73 ?_
            refine lv_icmp_lt (tgt := 168) hx hb dX0_look_74 (by decide) (fun c_74_7 => ?_) (fun c_74_7 => ?_)
            · skip
              refine lv_iinc (v := nI (i + 1)) (lv' := [(3, .int (nI (i + 1))), (0, .ref (G.2.2.1 0 0)), (1, .ref (G.2.2.1 3 b)), (2, .int y)]) hx hb dX0_look_168 hl (k := 3) rfl (nI_1 _) (by decide) rfl (fun ls hl => ?_)
              refine lv_goto (tgt := 37) hx hb dX0_look_171 (by decide) ?_
              exact ih (i + 1) _ (by omega) (by omega) (by skip; subst hσi; (try simp only [pvI_1, pvI_R, pvI_AA, pvI_T, pvI_at, pvA_1, pvA_I, pvA_R, pvA_at, pvA_T] at c_42_4 c_48_5 c_64_6 c_74_7); simp [flLook, flLk, pvI_1, pvI_R, pvI_AA, pvI_T, pvI_at, pvA_1, pvA_I, pvA_R, pvA_at, pvA_T, c_42_4, c_48_5, c_64_6, c_74_7]) _ _ hw hS ls (lv_sub hl [1, 2, 3, 0] rfl)
            · skip
              refine lv_iload_n hx hb dX0_look_77 rfl (lv_at hl 2 rfl) ?_
              refine lv_aload_n hx hb dX0_look_78 rfl (lv_at hl 0 rfl) ?_
              refine pgL (C := RX0) (T := TX0) (N := 10) hx hb hts hown hK hw 0 5 0 (Nat.one_pos) (by decide) rfl rfl (by decide +kernel) (by decide) (v := .ref (G.2.2.1 25 0)) rfl (hts (.fieldLink RX0 27 "PinnaceView$Floats" "bottoms" "[I") (by decide +kernel)) (fun _ h9 => h9) dX0_look_79 ?_
              refine lv_iload_n hx hb dX0_look_82 rfl (lv_at hl 3 rfl) ?_
              refine pgAn hx hb hK htys hw 25 0 (Nat.one_pos) (by decide) (by decide) (by decide) (by decide) (by decide) i (show i < 40 by omega) dX0_look_83 ?_
              refine lv_icmp_ge (tgt := 168) hx hb dX0_look_84 (by decide) (fun c_84_8 => ?_) (fun c_84_8 => ?_)
              · skip
                refine lv_iinc (v := nI (i + 1)) (lv' := [(3, .int (nI (i + 1))), (0, .ref (G.2.2.1 0 0)), (1, .ref (G.2.2.1 3 b)), (2, .int y)]) hx hb dX0_look_168 hl (k := 3) rfl (nI_1 _) (by decide) rfl (fun ls hl => ?_)
                refine lv_goto (tgt := 37) hx hb dX0_look_171 (by decide) ?_
                exact ih (i + 1) _ (by omega) (by omega) (by skip; subst hσi; (try simp only [pvI_1, pvI_R, pvI_AA, pvI_T, pvI_at, pvA_1, pvA_I, pvA_R, pvA_at, pvA_T] at c_42_4 c_48_5 c_64_6 c_74_7 c_84_8); simp [flLook, flLk, pvI_1, pvI_R, pvI_AA, pvI_T, pvI_at, pvA_1, pvA_I, pvA_R, pvA_at, pvA_T, c_42_4, c_48_5, c_64_6, c_74_7, c_84_8]) _ _ hw hS ls (lv_sub hl [1, 2, 3, 0] rfl)
              · skip
                refine lv_aload_n hx hb dX0_look_87 rfl (lv_at hl 0 rfl) ?_
                refine lv_aload_n hx hb dX0_look_88 rfl (lv_at hl 0 rfl) ?_
                refine pgI (C := RX0) (T := TX0) (N := 10) hx hb hts hown hK hw 0 9 0 (Nat.one_pos) (by decide) rfl rfl (by decide +kernel) (by decide) rfl (hts (.fieldLink RX0 40 "PinnaceView$Floats" "nextBottom" "I") (by decide +kernel)) (fun _ h9 => h9) dX0_look_89 ?_
                refine lv_iload_n hx hb dX0_look_92 rfl (lv_at hl 2 rfl) ?_
                refine lv_icmp_ne (tgt := 105) hx hb dX0_look_93 (by decide) (fun c_93_9 => ?_) (fun c_93_9 => ?_)
                · skip
                  refine lv_aload_n hx hb dX0_look_105 rfl (lv_at hl 0 rfl) ?_
                  refine pgI (C := RX0) (T := TX0) (N := 10) hx hb hts hown hK hw 0 9 0 (Nat.one_pos) (by decide) rfl rfl (by decide +kernel) (by decide) rfl (hts (.fieldLink RX0 40 "PinnaceView$Floats" "nextBottom" "I") (by decide +kernel)) (fun _ h9 => h9) dX0_look_106 ?_
                  refine lv_aload_n hx hb dX0_look_109 rfl (lv_at hl 0 rfl) ?_
                  refine pgL (C := RX0) (T := TX0) (N := 10) hx hb hts hown hK hw 0 5 0 (Nat.one_pos) (by decide) rfl rfl (by decide +kernel) (by decide) (v := .ref (G.2.2.1 25 0)) rfl (hts (.fieldLink RX0 27 "PinnaceView$Floats" "bottoms" "[I") (by decide +kernel)) (fun _ h9 => h9) dX0_look_110 ?_
                  refine lv_iload_n hx hb dX0_look_113 rfl (lv_at hl 3 rfl) ?_
                  refine pgAn hx hb hK htys hw 25 0 (Nat.one_pos) (by decide) (by decide) (by decide) (by decide) (by decide) i (show i < 40 by omega) dX0_look_114 ?_
                  refine va_mmin hx hb (hml.trans hl.1.symm) hown (hts (.methodLink RX0 76 Lib.Math.min.name) (by decide +kernel)) (hts (.static Lib.Math.min.name) (by decide +kernel)) (hts (.initialized "java/lang/Math") (by decide +kernel)) (hts (.code Lib.Math.min.name Lib.Math.min.code 2 (some .int)) (by decide +kernel)) (Nat.le_of_ble_eq_true rfl) (Nat.le_of_ble_eq_true rfl) (Nat.zero_le _) (Nat.zero_le _) dX0_look_115 ?_
                  refine ppI (ty := .int) (C := RX0) (T := TX0) (N := 10) hx hb hts hown hK hw hS 0 9 0 (Nat.one_pos) (by decide) rfl rfl (by decide +kernel) (by decide) rfl (by decide) tyX0_ok nmX0 (hts (.fieldLink RX0 40 "PinnaceView$Floats" "nextBottom" "I") (by decide +kernel)) (fun _ h9 => h9) rfl (by decide +kernel) rfl rfl dX0_look_118 (fun H locs hw hS => ?_)
                  obtain ⟨σ10, eσ10⟩ : ∃ z, z = pvI σi 0 9 0 (if (σi.2.2.2.1 25 0 i) < (σi.2.1 0 9 0) then (σi.2.2.2.1 25 0 i) else (σi.2.1 0 9 0)) := ⟨_, rfl⟩
                  rw [← eσ10] at hw
                  refine lv_aload_n hx hb dX0_look_121 rfl (lv_at hl 0 rfl) ?_
                  refine pgL (C := RX0) (T := TX0) (N := 10) hx hb hts hown hK hw 0 1 0 (Nat.one_pos) (by decide) rfl rfl (by decide +kernel) (by decide) (v := .ref (G.2.2.1 21 0)) rfl (hts (.fieldLink RX0 15 "PinnaceView$Floats" "sides" "[I") (by decide +kernel)) (fun _ h9 => h9) dX0_look_122 ?_
                  refine lv_iload_n hx hb dX0_look_125 rfl (lv_at hl 3 rfl) ?_
                  refine pgAn hx hb hK htys hw 21 0 (Nat.one_pos) (by decide) (by decide) (by decide) (by decide) (by decide) i (show i < 40 by omega) dX0_look_126 ?_
                  refine lv_iconst (v := 1) hx hb dX0_look_127 (by decide) ?_
                  refine lv_icmp_ne (tgt := 151) hx hb dX0_look_128 (by decide) (fun c_128_11 => ?_) (fun c_128_11 => ?_)
                  · skip
                    refine lv_aload_n hx hb dX0_look_151 rfl (lv_at hl 0 rfl) ?_
                    refine lv_aload_n hx hb dX0_look_152 rfl (lv_at hl 0 rfl) ?_
                    refine pgI (C := RX0) (T := TX0) (N := 10) hx hb hts hown hK hw 0 8 0 (Nat.one_pos) (by decide) rfl rfl (by decide +kernel) (by decide) rfl (hts (.fieldLink RX0 37 "PinnaceView$Floats" "spanEnd" "I") (by decide +kernel)) (fun _ h9 => h9) dX0_look_153 ?_
                    refine lv_aload_n hx hb dX0_look_156 rfl (lv_at hl 0 rfl) ?_
                    refine pgL (C := RX0) (T := TX0) (N := 10) hx hb hts hown hK hw 0 2 0 (Nat.one_pos) (by decide) rfl rfl (by decide +kernel) (by decide) (v := .ref (G.2.2.1 22 0)) rfl (hts (.fieldLink RX0 18 "PinnaceView$Floats" "lefts" "[I") (by decide +kernel)) (fun _ h9 => h9) dX0_look_157 ?_
                    refine lv_iload_n hx hb dX0_look_160 rfl (lv_at hl 3 rfl) ?_
                    refine pgAn hx hb hK htys hw 22 0 (Nat.one_pos) (by decide) (by decide) (by decide) (by decide) (by decide) i (show i < 40 by omega) dX0_look_161 ?_
                    refine va_mmin hx hb (hml.trans hl.1.symm) hown (hts (.methodLink RX0 76 Lib.Math.min.name) (by decide +kernel)) (hts (.static Lib.Math.min.name) (by decide +kernel)) (hts (.initialized "java/lang/Math") (by decide +kernel)) (hts (.code Lib.Math.min.name Lib.Math.min.code 2 (some .int)) (by decide +kernel)) (Nat.le_of_ble_eq_true rfl) (Nat.le_of_ble_eq_true rfl) (Nat.zero_le _) (Nat.zero_le _) dX0_look_162 ?_
                    refine ppI (ty := .int) (C := RX0) (T := TX0) (N := 10) hx hb hts hown hK hw hS 0 8 0 (Nat.one_pos) (by decide) rfl rfl (by decide +kernel) (by decide) rfl (by decide) tyX0_ok nmX0 (hts (.fieldLink RX0 37 "PinnaceView$Floats" "spanEnd" "I") (by decide +kernel)) (fun _ h9 => h9) rfl (by decide +kernel) rfl rfl dX0_look_165 (fun H locs hw hS => ?_)
                    obtain ⟨σ12, eσ12⟩ : ∃ z, z = pvI σ10 0 8 0 (if (σ10.2.2.2.1 22 0 i) < (σ10.2.1 0 8 0) then (σ10.2.2.2.1 22 0 i) else (σ10.2.1 0 8 0)) := ⟨_, rfl⟩
                    rw [← eσ12] at hw
                    refine lv_iinc (v := nI (i + 1)) (lv' := [(3, .int (nI (i + 1))), (0, .ref (G.2.2.1 0 0)), (1, .ref (G.2.2.1 3 b)), (2, .int y)]) hx hb dX0_look_168 hl (k := 3) rfl (nI_1 _) (by decide) rfl (fun ls hl => ?_)
                    refine lv_goto (tgt := 37) hx hb dX0_look_171 (by decide) ?_
                    exact ih (i + 1) _ (by omega) (by omega) (by (try subst eσ12 eσ10); subst hσi; (try simp only [pvI_1, pvI_R, pvI_AA, pvI_T, pvI_at, pvA_1, pvA_I, pvA_R, pvA_at, pvA_T] at c_42_4 c_48_5 c_64_6 c_74_7 c_84_8 c_93_9 c_128_11); simp [flLook, flLk, pvI_1, pvI_R, pvI_AA, pvI_T, pvI_at, pvA_1, pvA_I, pvA_R, pvA_at, pvA_T, c_42_4, c_48_5, c_64_6, c_74_7, c_84_8, c_93_9, c_128_11]) _ _ hw hS ls (lv_sub hl [1, 2, 3, 0] rfl)
                  · skip
                    refine lv_aload_n hx hb dX0_look_131 rfl (lv_at hl 0 rfl) ?_
                    refine lv_aload_n hx hb dX0_look_132 rfl (lv_at hl 0 rfl) ?_
                    refine pgI (C := RX0) (T := TX0) (N := 10) hx hb hts hown hK hw 0 7 0 (Nat.one_pos) (by decide) rfl rfl (by decide +kernel) (by decide) rfl (hts (.fieldLink RX0 34 "PinnaceView$Floats" "spanBegin" "I") (by decide +kernel)) (fun _ h9 => h9) dX0_look_133 ?_
                    refine lv_aload_n hx hb dX0_look_136 rfl (lv_at hl 0 rfl) ?_
                    refine pgL (C := RX0) (T := TX0) (N := 10) hx hb hts hown hK hw 0 3 0 (Nat.one_pos) (by decide) rfl rfl (by decide +kernel) (by decide) (v := .ref (G.2.2.1 23 0)) rfl (hts (.fieldLink RX0 21 "PinnaceView$Floats" "rights" "[I") (by decide +kernel)) (fun _ h9 => h9) dX0_look_137 ?_
                    refine lv_iload_n hx hb dX0_look_140 rfl (lv_at hl 3 rfl) ?_
                    refine pgAn hx hb hK htys hw 23 0 (Nat.one_pos) (by decide) (by decide) (by decide) (by decide) (by decide) i (show i < 40 by omega) dX0_look_141 ?_
                    refine va_mmax hx hb (hml.trans hl.1.symm) hown (hts (.methodLink RX0 43 Lib.Math.max.name) (by decide +kernel)) (hts (.static Lib.Math.max.name) (by decide +kernel)) (hts (.initialized "java/lang/Math") (by decide +kernel)) (hts (.code Lib.Math.max.name Lib.Math.max.code 2 (some .int)) (by decide +kernel)) (Nat.le_of_ble_eq_true rfl) (Nat.le_of_ble_eq_true rfl) (Nat.zero_le _) (Nat.zero_le _) dX0_look_142 ?_
                    refine ppI (ty := .int) (C := RX0) (T := TX0) (N := 10) hx hb hts hown hK hw hS 0 7 0 (Nat.one_pos) (by decide) rfl rfl (by decide +kernel) (by decide) rfl (by decide) tyX0_ok nmX0 (hts (.fieldLink RX0 34 "PinnaceView$Floats" "spanBegin" "I") (by decide +kernel)) (fun _ h9 => h9) rfl (by decide +kernel) rfl rfl dX0_look_145 (fun H locs hw hS => ?_)
                    obtain ⟨σ13, eσ13⟩ : ∃ z, z = pvI σ10 0 7 0 (if (σ10.2.1 0 7 0) < (σ10.2.2.2.1 23 0 i) then (σ10.2.2.2.1 23 0 i) else (σ10.2.1 0 7 0)) := ⟨_, rfl⟩
                    rw [← eσ13] at hw
                    refine lv_goto (tgt := 168) hx hb dX0_look_148 (by decide) ?_
                    refine lv_iinc (v := nI (i + 1)) (lv' := [(3, .int (nI (i + 1))), (0, .ref (G.2.2.1 0 0)), (1, .ref (G.2.2.1 3 b)), (2, .int y)]) hx hb dX0_look_168 hl (k := 3) rfl (nI_1 _) (by decide) rfl (fun ls hl => ?_)
                    refine lv_goto (tgt := 37) hx hb dX0_look_171 (by decide) ?_
                    exact ih (i + 1) _ (by omega) (by omega) (by (try subst eσ13 eσ10); subst hσi; (try simp only [pvI_1, pvI_R, pvI_AA, pvI_T, pvI_at, pvA_1, pvA_I, pvA_R, pvA_at, pvA_T] at c_42_4 c_48_5 c_64_6 c_74_7 c_84_8 c_93_9 c_128_11); simp [flLook, flLk, pvI_1, pvI_R, pvI_AA, pvI_T, pvI_at, pvA_1, pvA_I, pvA_R, pvA_at, pvA_T, c_42_4, c_48_5, c_64_6, c_74_7, c_84_8, c_93_9, c_128_11]) _ _ hw hS ls (lv_sub hl [1, 2, 3, 0] rfl)
                · skip
                  refine lv_aload_n hx hb dX0_look_96 rfl (lv_at hl 0 rfl) ?_
                  refine pgL (C := RX0) (T := TX0) (N := 10) hx hb hts hown hK hw 0 5 0 (Nat.one_pos) (by decide) rfl rfl (by decide +kernel) (by decide) (v := .ref (G.2.2.1 25 0)) rfl (hts (.fieldLink RX0 27 "PinnaceView$Floats" "bottoms" "[I") (by decide +kernel)) (fun _ h9 => h9) dX0_look_97 ?_
                  refine lv_iload_n hx hb dX0_look_100 rfl (lv_at hl 3 rfl) ?_
                  refine pgAn hx hb hK htys hw 25 0 (Nat.one_pos) (by decide) (by decide) (by decide) (by decide) (by decide) i (show i < 40 by omega) dX0_look_101 ?_
                  refine lv_goto (tgt := 118) hx hb dX0_look_102 (by decide) ?_
                  refine ppI (ty := .int) (C := RX0) (T := TX0) (N := 10) hx hb hts hown hK hw hS 0 9 0 (Nat.one_pos) (by decide) rfl rfl (by decide +kernel) (by decide) rfl (by decide) tyX0_ok nmX0 (hts (.fieldLink RX0 40 "PinnaceView$Floats" "nextBottom" "I") (by decide +kernel)) (fun _ h9 => h9) rfl (by decide +kernel) rfl rfl dX0_look_118 (fun H locs hw hS => ?_)
                  obtain ⟨σ14, eσ14⟩ : ∃ z, z = pvI σi 0 9 0 (σi.2.2.2.1 25 0 i) := ⟨_, rfl⟩
                  rw [← eσ14] at hw
                  refine lv_aload_n hx hb dX0_look_121 rfl (lv_at hl 0 rfl) ?_
                  refine pgL (C := RX0) (T := TX0) (N := 10) hx hb hts hown hK hw 0 1 0 (Nat.one_pos) (by decide) rfl rfl (by decide +kernel) (by decide) (v := .ref (G.2.2.1 21 0)) rfl (hts (.fieldLink RX0 15 "PinnaceView$Floats" "sides" "[I") (by decide +kernel)) (fun _ h9 => h9) dX0_look_122 ?_
                  refine lv_iload_n hx hb dX0_look_125 rfl (lv_at hl 3 rfl) ?_
                  refine pgAn hx hb hK htys hw 21 0 (Nat.one_pos) (by decide) (by decide) (by decide) (by decide) (by decide) i (show i < 40 by omega) dX0_look_126 ?_
                  refine lv_iconst (v := 1) hx hb dX0_look_127 (by decide) ?_
                  refine lv_icmp_ne (tgt := 151) hx hb dX0_look_128 (by decide) (fun c_128_15 => ?_) (fun c_128_15 => ?_)
                  · skip
                    refine lv_aload_n hx hb dX0_look_151 rfl (lv_at hl 0 rfl) ?_
                    refine lv_aload_n hx hb dX0_look_152 rfl (lv_at hl 0 rfl) ?_
                    refine pgI (C := RX0) (T := TX0) (N := 10) hx hb hts hown hK hw 0 8 0 (Nat.one_pos) (by decide) rfl rfl (by decide +kernel) (by decide) rfl (hts (.fieldLink RX0 37 "PinnaceView$Floats" "spanEnd" "I") (by decide +kernel)) (fun _ h9 => h9) dX0_look_153 ?_
                    refine lv_aload_n hx hb dX0_look_156 rfl (lv_at hl 0 rfl) ?_
                    refine pgL (C := RX0) (T := TX0) (N := 10) hx hb hts hown hK hw 0 2 0 (Nat.one_pos) (by decide) rfl rfl (by decide +kernel) (by decide) (v := .ref (G.2.2.1 22 0)) rfl (hts (.fieldLink RX0 18 "PinnaceView$Floats" "lefts" "[I") (by decide +kernel)) (fun _ h9 => h9) dX0_look_157 ?_
                    refine lv_iload_n hx hb dX0_look_160 rfl (lv_at hl 3 rfl) ?_
                    refine pgAn hx hb hK htys hw 22 0 (Nat.one_pos) (by decide) (by decide) (by decide) (by decide) (by decide) i (show i < 40 by omega) dX0_look_161 ?_
                    refine va_mmin hx hb (hml.trans hl.1.symm) hown (hts (.methodLink RX0 76 Lib.Math.min.name) (by decide +kernel)) (hts (.static Lib.Math.min.name) (by decide +kernel)) (hts (.initialized "java/lang/Math") (by decide +kernel)) (hts (.code Lib.Math.min.name Lib.Math.min.code 2 (some .int)) (by decide +kernel)) (Nat.le_of_ble_eq_true rfl) (Nat.le_of_ble_eq_true rfl) (Nat.zero_le _) (Nat.zero_le _) dX0_look_162 ?_
                    refine ppI (ty := .int) (C := RX0) (T := TX0) (N := 10) hx hb hts hown hK hw hS 0 8 0 (Nat.one_pos) (by decide) rfl rfl (by decide +kernel) (by decide) rfl (by decide) tyX0_ok nmX0 (hts (.fieldLink RX0 37 "PinnaceView$Floats" "spanEnd" "I") (by decide +kernel)) (fun _ h9 => h9) rfl (by decide +kernel) rfl rfl dX0_look_165 (fun H locs hw hS => ?_)
                    obtain ⟨σ16, eσ16⟩ : ∃ z, z = pvI σ14 0 8 0 (if (σ14.2.2.2.1 22 0 i) < (σ14.2.1 0 8 0) then (σ14.2.2.2.1 22 0 i) else (σ14.2.1 0 8 0)) := ⟨_, rfl⟩
                    rw [← eσ16] at hw
                    refine lv_iinc (v := nI (i + 1)) (lv' := [(3, .int (nI (i + 1))), (0, .ref (G.2.2.1 0 0)), (1, .ref (G.2.2.1 3 b)), (2, .int y)]) hx hb dX0_look_168 hl (k := 3) rfl (nI_1 _) (by decide) rfl (fun ls hl => ?_)
                    refine lv_goto (tgt := 37) hx hb dX0_look_171 (by decide) ?_
                    exact ih (i + 1) _ (by omega) (by omega) (by (try subst eσ16 eσ14); subst hσi; (try simp only [pvI_1, pvI_R, pvI_AA, pvI_T, pvI_at, pvA_1, pvA_I, pvA_R, pvA_at, pvA_T] at c_42_4 c_48_5 c_64_6 c_74_7 c_84_8 c_93_9 c_128_15); simp [flLook, flLk, pvI_1, pvI_R, pvI_AA, pvI_T, pvI_at, pvA_1, pvA_I, pvA_R, pvA_at, pvA_T, c_42_4, c_48_5, c_64_6, c_74_7, c_84_8, c_93_9, c_128_15]) _ _ hw hS ls (lv_sub hl [1, 2, 3, 0] rfl)
                  · skip
                    refine lv_aload_n hx hb dX0_look_131 rfl (lv_at hl 0 rfl) ?_
                    refine lv_aload_n hx hb dX0_look_132 rfl (lv_at hl 0 rfl) ?_
                    refine pgI (C := RX0) (T := TX0) (N := 10) hx hb hts hown hK hw 0 7 0 (Nat.one_pos) (by decide) rfl rfl (by decide +kernel) (by decide) rfl (hts (.fieldLink RX0 34 "PinnaceView$Floats" "spanBegin" "I") (by decide +kernel)) (fun _ h9 => h9) dX0_look_133 ?_
                    refine lv_aload_n hx hb dX0_look_136 rfl (lv_at hl 0 rfl) ?_
                    refine pgL (C := RX0) (T := TX0) (N := 10) hx hb hts hown hK hw 0 3 0 (Nat.one_pos) (by decide) rfl rfl (by decide +kernel) (by decide) (v := .ref (G.2.2.1 23 0)) rfl (hts (.fieldLink RX0 21 "PinnaceView$Floats" "rights" "[I") (by decide +kernel)) (fun _ h9 => h9) dX0_look_137 ?_
                    refine lv_iload_n hx hb dX0_look_140 rfl (lv_at hl 3 rfl) ?_
                    refine pgAn hx hb hK htys hw 23 0 (Nat.one_pos) (by decide) (by decide) (by decide) (by decide) (by decide) i (show i < 40 by omega) dX0_look_141 ?_
                    refine va_mmax hx hb (hml.trans hl.1.symm) hown (hts (.methodLink RX0 43 Lib.Math.max.name) (by decide +kernel)) (hts (.static Lib.Math.max.name) (by decide +kernel)) (hts (.initialized "java/lang/Math") (by decide +kernel)) (hts (.code Lib.Math.max.name Lib.Math.max.code 2 (some .int)) (by decide +kernel)) (Nat.le_of_ble_eq_true rfl) (Nat.le_of_ble_eq_true rfl) (Nat.zero_le _) (Nat.zero_le _) dX0_look_142 ?_
                    refine ppI (ty := .int) (C := RX0) (T := TX0) (N := 10) hx hb hts hown hK hw hS 0 7 0 (Nat.one_pos) (by decide) rfl rfl (by decide +kernel) (by decide) rfl (by decide) tyX0_ok nmX0 (hts (.fieldLink RX0 34 "PinnaceView$Floats" "spanBegin" "I") (by decide +kernel)) (fun _ h9 => h9) rfl (by decide +kernel) rfl rfl dX0_look_145 (fun H locs hw hS => ?_)
                    obtain ⟨σ17, eσ17⟩ : ∃ z, z = pvI σ14 0 7 0 (if (σ14.2.1 0 7 0) < (σ14.2.2.2.1 23 0 i) then (σ14.2.2.2.1 23 0 i) else (σ14.2.1 0 7 0)) := ⟨_, rfl⟩
                    rw [← eσ17] at hw
                    refine lv_goto (tgt := 168) hx hb dX0_look_148 (by decide) ?_
                    refine lv_iinc (v := nI (i + 1)) (lv' := [(3, .int (nI (i + 1))), (0, .ref (G.2.2.1 0 0)), (1, .ref (G.2.2.1 3 b)), (2, .int y)]) hx hb dX0_look_168 hl (k := 3) rfl (nI_1 _) (by decide) rfl (fun ls hl => ?_)
                    refine lv_goto (tgt := 37) hx hb dX0_look_171 (by decide) ?_
                    exact ih (i + 1) _ (by omega) (by omega) (by (try subst eσ17 eσ14); subst hσi; (try simp only [pvI_1, pvI_R, pvI_AA, pvI_T, pvI_at, pvA_1, pvA_I, pvA_R, pvA_at, pvA_T] at c_42_4 c_48_5 c_64_6 c_74_7 c_84_8 c_93_9 c_128_15); simp [flLook, flLk, pvI_1, pvI_R, pvI_AA, pvI_T, pvI_at, pvA_1, pvA_I, pvA_R, pvA_at, pvA_T, c_42_4, c_48_5, c_64_6, c_74_7, c_84_8, c_93_9, c_128_15]) _ _ hw hS ls (lv_sub hl [1, 2, 3, 0] rfl)
  exact loop37 (cnt + 1) 0 _ (by omega) (by omega) (by (try subst eσ3 eσ2 eσ1); rfl) _ _ hw hS ls (lv_sub hl [1, 2, 3, 0] rfl)
