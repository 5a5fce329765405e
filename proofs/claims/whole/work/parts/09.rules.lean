/-- RULES -/
def pt (σ : PvS) (r : Nat) : Nat := (σ.2.1 5 7 r).toNatClampNeg
def pvRu (σ : PvS) : Prop := ∀ r, r < σ.1.2 → σ.2.1 5 7 r = nI (pt σ r) ∧ pt σ r ≤ 3
/-- whether a part fits an element -/
def fitsP (σ : PvS) (r k e : Nat) : Prop := (σ.2.2.2.1 38 r k = -1 ∨ σ.2.2.2.1 38 r k = σ.2.1 3 2 e) ∧ σ.2.1 3 11 e &&& σ.2.2.2.1 39 r k = σ.2.2.2.1 39 r k ∧ (σ.2.2.2.1 40 r k = 0 ∨ σ.2.2.2.1 40 r k = σ.2.1 3 10 e)
noncomputable def fitsB (σ : PvS) (r k e : Nat) : Bool := @decide (k < pt σ r ∧ fitsP σ r k e) (Classical.propDecidable _)
set_option maxHeartbeats 4000000 in
set_option maxRecDepth 100000 in
theorem c_fits {l : Launch} {G : PvG} {tys : List (ClassId × FieldType)} {σ : PvS} (htys : tys = pvT G) (hru : pvRu σ) {r u k : Nat} (hr0 : r < σ.1.2) (hu0 : u < σ.1.1) (hk2 : k ≤ 2) : Met l yX5_fits wsX5_fits ({ frames := 0, cells := 0, slots := 0, locals := 0 }) (va_Pc [.ref (G.2.2.1 5 r), .int (nI k), .ref (G.2.2.1 3 u)] (pvU G tys σ)) (va_Qi (fun z σ' => z = (if fitsB σ r k u = true then 1 else 0) ∧ σ' = σ) (pvU G tys) (pvB G)) 0 0 (pvB G) := by
  refine Met.ofW (cc := cX5_fits) (maxL := 6) (ret := (some .boolean)) (by decide) rfl ?_
  intro p e s m args below meth c s₁ B hml hv
  obtain ⟨rfl, hw, hK, hA⟩ := hv
  have hx := B.exec
  have hb := B.bytes
  have hr := B.returns
  have hts := atoms_spec (ws := wsX5_fits) B.pre
  have hown : s.vm.findClass RX5 = some m.cls := findClass_of_methodNamed B.named
  have hlocks := B.notSynchronized
  have hS : va_S (pvB G) s.heap s.heap [] := va_S.rf
  have hl := lv_entry ([.ref (G.2.2.1 5 r), .int (nI k), .ref (G.2.2.1 3 u)]) (n := 6) (Nat.le_of_ble_eq_true rfl)
  rw [lg_entry_eq]
  generalize (lg_sl ([.ref (G.2.2.1 5 r), .int (nI k), .ref (G.2.2.1 3 u)]) ++ List.replicate (6 - (lg_sl ([.ref (G.2.2.1 5 r), .int (nI k), .ref (G.2.2.1 3 u)])).length) Slot.unset).toArray = ls at hl ⊢
  have hl : lv_has ls 6 [(0, .ref (G.2.2.1 5 r)), (1, .int (nI k)), (2, .ref (G.2.2.1 3 u))] := hl
  have hpt3 := (hru r hr0).2
  refine lv_iload_n hx hb dX5_fits_0 rfl (lv_at hl 1 rfl) ?_
  refine lv_if_lt (tgt := 17) hx hb dX5_fits_1 (by decide) (fun c_1_1 => ?_) (fun c_1_1 => ?_)
  · skip
    have c_1_1 : k < 0 := (nI_ltI (a := k) (b := 0) (by omega) (by omega)).mp c_1_1
    refine lv_iconst (v := 0) hx hb dX5_fits_17 (by decide) ?_
    exact pez hx hb hr hlocks hA hw hK hS (by decide) (by have hpt := (hru r hr0).2; first | (exfalso; omega) | (refine ⟨?_, rfl⟩; unfold fitsB fitsP; simp only [decide_eq_true_eq]; first | (rw [if_pos ⟨by omega, by simp [c_1_1]⟩]; done) | (rw [if_neg]; intro z; first | omega | simp [c_1_1] at z))) dX5_fits_18
  · skip
    have c_1_1 : ¬ k < 0 := fun z => c_1_1 ((nI_ltI (a := k) (b := 0) (by omega) (by omega)).mpr z)
    refine lv_iload_n hx hb dX5_fits_4 rfl (lv_at hl 1 rfl) ?_
    refine lv_aload_n hx hb dX5_fits_5 rfl (lv_at hl 0 rfl) ?_
    refine pgI (C := RX5) (T := TX5) (N := 10) hx hb hts hown hK hw 5 7 r (show r < pvM σ 5 by skip; exact hr0) (by decide) rfl rfl (by decide +kernel) (by decide) rfl (hts (.fieldLink RX5 25 "PinnaceView$Rule" "parts" "I") (by decide +kernel)) (fun _ h9 => h9) dX5_fits_6 ?_
    rw [(hru r hr0).1]
    refine lv_icmp_ge (tgt := 17) hx hb dX5_fits_9 (by decide) (fun c_9_2 => ?_) (fun c_9_2 => ?_)
    · skip
      have c_9_2 : (pt σ r) ≤ k := (nI_leI (a := (pt σ r)) (b := k) (by omega) (by omega)).mp c_9_2
      refine lv_iconst (v := 0) hx hb dX5_fits_17 (by decide) ?_
      exact pez hx hb hr hlocks hA hw hK hS (by decide) (by have hpt := (hru r hr0).2; first | (exfalso; omega) | (refine ⟨?_, rfl⟩; unfold fitsB fitsP; simp only [decide_eq_true_eq]; first | (rw [if_pos ⟨by omega, by simp [c_1_1, c_9_2]⟩]; done) | (rw [if_neg]; intro z; first | omega | simp [c_1_1, c_9_2] at z))) dX5_fits_18
    · skip
      have c_9_2 : ¬ (pt σ r) ≤ k := fun z => c_9_2 ((nI_leI (a := (pt σ r)) (b := k) (by omega) (by omega)).mpr z)
      refine lv_iload_n hx hb dX5_fits_12 rfl (lv_at hl 1 rfl) ?_
      refine lv_iconst (v := 3) hx hb dX5_fits_13 (by decide) ?_
      refine lv_icmp_lt (tgt := 19) hx hb dX5_fits_14 (by decide) (fun c_14_3 => ?_) (fun c_14_3 => ?_)
      · skip
        have c_14_3 : k < 3 := (nI_ltI (a := k) (b := 3) (by omega) (by omega)).mp c_14_3
        refine lv_aload_n hx hb dX5_fits_19 rfl (lv_at hl 0 rfl) ?_
        refine pgL (C := RX5) (T := TX5) (N := 10) hx hb hts hown hK hw 5 3 r (show r < pvM σ 5 by skip; exact hr0) (by decide) rfl rfl (by decide +kernel) (by decide) (v := .ref (G.2.2.1 38 r)) rfl (hts (.fieldLink RX5 9 "PinnaceView$Rule" "tags" "[I") (by decide +kernel)) (fun _ h9 => h9) dX5_fits_20 ?_
        refine lv_iload_n hx hb dX5_fits_23 rfl (lv_at hl 1 rfl) ?_
        refine pgAn hx hb hK htys hw 38 r (show r < pvM σ 38 by skip; exact hr0) (by decide) (by decide) (by decide) (by decide) (by decide) k (show k < 3 by omega) dX5_fits_24 ?_
        refine lv_iconst (v := (-1)) hx hb dX5_fits_25 (by decide) ?_
        refine lv_icmp_eq (tgt := 42) hx hb dX5_fits_26 (by decide) (fun c_26_4 => ?_) (fun c_26_4 => ?_)
        · skip
          refine lv_iconst (v := 1) hx hb dX5_fits_42 (by decide) ?_
          refine lv_goto (tgt := 47) hx hb dX5_fits_43 (by decide) ?_
          refine lv_istore_n (lv' := [(3, .int 1), (0, .ref (G.2.2.1 5 r)), (1, .int (nI k)), (2, .ref (G.2.2.1 3 u))]) hx hb dX5_fits_47 rfl hl (by decide) rfl (fun ls hl => ?_)
          refine lv_aload_n hx hb dX5_fits_48 rfl (lv_at hl 3 rfl) ?_
          refine pgI (C := RX3) (T := TX3) (N := 14) hx hb hts hown hK hw 3 11 u (show u < pvM σ 3 by skip; exact hu0) (by decide) rfl rfl (by decide +kernel) (by decide) rfl (hts (.fieldLink RX5 65 "PinnaceView$Node" "classes" "I") (by decide +kernel)) (fun _ h9 => h9) dX5_fits_49 ?_
          refine lv_aload_n hx hb dX5_fits_52 rfl (lv_at hl 1 rfl) ?_
          refine pgL (C := RX5) (T := TX5) (N := 10) hx hb hts hown hK hw 5 4 r (show r < pvM σ 5 by skip; exact hr0) (by decide) rfl rfl (by decide +kernel) (by decide) (v := .ref (G.2.2.1 39 r)) rfl (hts (.fieldLink RX5 15 "PinnaceView$Rule" "classBits" "[I") (by decide +kernel)) (fun _ h9 => h9) dX5_fits_53 ?_
          refine lv_iload_n hx hb dX5_fits_56 rfl (lv_at hl 2 rfl) ?_
          refine pgAn hx hb hK htys hw 39 r (show r < pvM σ 39 by skip; exact hr0) (by decide) (by decide) (by decide) (by decide) (by decide) k (show k < 3 by omega) dX5_fits_57 ?_
          refine lv_iand hx hb dX5_fits_58 ?_
          refine lv_aload_n hx hb dX5_fits_59 rfl (lv_at hl 1 rfl) ?_
          refine pgL (C := RX5) (T := TX5) (N := 10) hx hb hts hown hK hw 5 4 r (show r < pvM σ 5 by skip; exact hr0) (by decide) rfl rfl (by decide +kernel) (by decide) (v := .ref (G.2.2.1 39 r)) rfl (hts (.fieldLink RX5 15 "PinnaceView$Rule" "classBits" "[I") (by decide +kernel)) (fun _ h9 => h9) dX5_fits_60 ?_
          refine lv_iload_n hx hb dX5_fits_63 rfl (lv_at hl 2 rfl) ?_
          refine pgAn hx hb hK htys hw 39 r (show r < pvM σ 39 by skip; exact hr0) (by decide) (by decide) (by decide) (by decide) (by decide) k (show k < 3 by omega) dX5_fits_64 ?_
          refine lv_icmp_ne (tgt := 72) hx hb dX5_fits_65 (by decide) (fun c_65_5 => ?_) (fun c_65_5 => ?_)
          · skip
            refine lv_iconst (v := 0) hx hb dX5_fits_72 (by decide) ?_
            refine lv_istore (lv' := [(4, .int 0), (3, .int 1), (0, .ref (G.2.2.1 5 r)), (1, .int (nI k)), (2, .ref (G.2.2.1 3 u))]) hx hb dX5_fits_73 hl (by decide) rfl (fun ls hl => ?_)
            refine lv_aload_n hx hb dX5_fits_75 rfl (lv_at hl 2 rfl) ?_
            refine pgL (C := RX5) (T := TX5) (N := 10) hx hb hts hown hK hw 5 5 r (show r < pvM σ 5 by skip; exact hr0) (by decide) rfl rfl (by decide +kernel) (by decide) (v := .ref (G.2.2.1 40 r)) rfl (hts (.fieldLink RX5 18 "PinnaceView$Rule" "names" "[I") (by decide +kernel)) (fun _ h9 => h9) dX5_fits_76 ?_
            refine lv_iload_n hx hb dX5_fits_79 rfl (lv_at hl 3 rfl) ?_
            refine pgAn hx hb hK htys hw 40 r (show r < pvM σ 40 by skip; exact hr0) (by decide) (by decide) (by decide) (by decide) (by decide) k (show k < 3 by omega) dX5_fits_80 ?_
            refine lv_if_eq (tgt := 97) hx hb dX5_fits_81 (by decide) (fun c_81_6 => ?_) (fun c_81_6 => ?_)
            · skip
              refine lv_iconst (v := 1) hx hb dX5_fits_97 (by decide) ?_
              refine lv_goto (tgt := 102) hx hb dX5_fits_98 (by decide) ?_
              refine lv_istore (lv' := [(5, .int 1), (4, .int 0), (3, .int 1), (0, .ref (G.2.2.1 5 r)), (1, .int (nI k)), (2, .ref (G.2.2.1 3 u))]) hx hb dX5_fits_102 hl (by decide) rfl (fun ls hl => ?_)
              refine lv_iload_n hx hb dX5_fits_104 rfl (lv_at hl 2 rfl) ?_
              refine lv_if_eq (tgt := 122) hx hb dX5_fits_105 (by decide) (fun z => absurd z (by decide)) (fun _ => ?_)
              refine lv_iload hx hb dX5_fits_108 (lv_at hl 1 rfl) ?_
              refine lv_if_eq (tgt := 122) hx hb dX5_fits_110 (by decide) (fun _ => ?_) (fun z => absurd z (by decide))
              refine lv_iconst (v := 0) hx hb dX5_fits_122 (by decide) ?_
              exact pez hx hb hr hlocks hA hw hK hS (by decide) (by have hpt := (hru r hr0).2; first | (exfalso; omega) | (refine ⟨?_, rfl⟩; unfold fitsB fitsP; simp only [decide_eq_true_eq]; first | (rw [if_pos ⟨by omega, by simp [c_1_1, c_9_2, c_14_3, c_26_4, c_65_5, c_81_6]⟩]; done) | (rw [if_neg]; intro z; first | omega | simp [c_1_1, c_9_2, c_14_3, c_26_4, c_65_5, c_81_6] at z))) dX5_fits_123
            · skip
              refine lv_aload_n hx hb dX5_fits_84 rfl (lv_at hl 2 rfl) ?_
              refine pgL (C := RX5) (T := TX5) (N := 10) hx hb hts hown hK hw 5 5 r (show r < pvM σ 5 by skip; exact hr0) (by decide) rfl rfl (by decide +kernel) (by decide) (v := .ref (G.2.2.1 40 r)) rfl (hts (.fieldLink RX5 18 "PinnaceView$Rule" "names" "[I") (by decide +kernel)) (fun _ h9 => h9) dX5_fits_85 ?_
              refine lv_iload_n hx hb dX5_fits_88 rfl (lv_at hl 3 rfl) ?_
              refine pgAn hx hb hK htys hw 40 r (show r < pvM σ 40 by skip; exact hr0) (by decide) (by decide) (by decide) (by decide) (by decide) k (show k < 3 by omega) dX5_fits_89 ?_
              refine lv_aload_n hx hb dX5_fits_90 rfl (lv_at hl 4 rfl) ?_
              refine pgI (C := RX3) (T := TX3) (N := 14) hx hb hts hown hK hw 3 10 u (show u < pvM σ 3 by skip; exact hu0) (by decide) rfl rfl (by decide +kernel) (by decide) rfl (hts (.fieldLink RX5 68 "PinnaceView$Node" "name" "I") (by decide +kernel)) (fun _ h9 => h9) dX5_fits_91 ?_
              refine lv_icmp_ne (tgt := 101) hx hb dX5_fits_94 (by decide) (fun c_94_9 => ?_) (fun c_94_9 => ?_)
              · skip
                refine lv_iconst (v := 0) hx hb dX5_fits_101 (by decide) ?_
                refine lv_istore (lv' := [(5, .int 0), (4, .int 0), (3, .int 1), (0, .ref (G.2.2.1 5 r)), (1, .int (nI k)), (2, .ref (G.2.2.1 3 u))]) hx hb dX5_fits_102 hl (by decide) rfl (fun ls hl => ?_)
                refine lv_iload_n hx hb dX5_fits_104 rfl (lv_at hl 2 rfl) ?_
                refine lv_if_eq (tgt := 122) hx hb dX5_fits_105 (by decide) (fun z => absurd z (by decide)) (fun _ => ?_)
                refine lv_iload hx hb dX5_fits_108 (lv_at hl 1 rfl) ?_
                refine lv_if_eq (tgt := 122) hx hb dX5_fits_110 (by decide) (fun _ => ?_) (fun z => absurd z (by decide))
                refine lv_iconst (v := 0) hx hb dX5_fits_122 (by decide) ?_
                exact pez hx hb hr hlocks hA hw hK hS (by decide) (by have hpt := (hru r hr0).2; first | (exfalso; omega) | (refine ⟨?_, rfl⟩; unfold fitsB fitsP; simp only [decide_eq_true_eq]; first | (rw [if_pos ⟨by omega, by simp [c_1_1, c_9_2, c_14_3, c_26_4, c_65_5, c_81_6, c_94_9]⟩]; done) | (rw [if_neg]; intro z; first | omega | simp [c_1_1, c_9_2, c_14_3, c_26_4, c_65_5, c_81_6, c_94_9] at z))) dX5_fits_123
              · skip
                refine lv_iconst (v := 1) hx hb dX5_fits_97 (by decide) ?_
                refine lv_goto (tgt := 102) hx hb dX5_fits_98 (by decide) ?_
                refine lv_istore (lv' := [(5, .int 1), (4, .int 0), (3, .int 1), (0, .ref (G.2.2.1 5 r)), (1, .int (nI k)), (2, .ref (G.2.2.1 3 u))]) hx hb dX5_fits_102 hl (by decide) rfl (fun ls hl => ?_)
                refine lv_iload_n hx hb dX5_fits_104 rfl (lv_at hl 2 rfl) ?_
                refine lv_if_eq (tgt := 122) hx hb dX5_fits_105 (by decide) (fun z => absurd z (by decide)) (fun _ => ?_)
                refine lv_iload hx hb dX5_fits_108 (lv_at hl 1 rfl) ?_
                refine lv_if_eq (tgt := 122) hx hb dX5_fits_110 (by decide) (fun _ => ?_) (fun z => absurd z (by decide))
                refine lv_iconst (v := 0) hx hb dX5_fits_122 (by decide) ?_
                exact pez hx hb hr hlocks hA hw hK hS (by decide) (by have hpt := (hru r hr0).2; first | (exfalso; omega) | (refine ⟨?_, rfl⟩; unfold fitsB fitsP; simp only [decide_eq_true_eq]; first | (rw [if_pos ⟨by omega, by simp [c_1_1, c_9_2, c_14_3, c_26_4, c_65_5, c_81_6, c_94_9]⟩]; done) | (rw [if_neg]; intro z; first | omega | simp [c_1_1, c_9_2, c_14_3, c_26_4, c_65_5, c_81_6, c_94_9] at z))) dX5_fits_123
          · skip
            refine lv_iconst (v := 1) hx hb dX5_fits_68 (by decide) ?_
            refine lv_goto (tgt := 73) hx hb dX5_fits_69 (by decide) ?_
            refine lv_istore (lv' := [(4, .int 1), (3, .int 1), (0, .ref (G.2.2.1 5 r)), (1, .int (nI k)), (2, .ref (G.2.2.1 3 u))]) hx hb dX5_fits_73 hl (by decide) rfl (fun ls hl => ?_)
            refine lv_aload_n hx hb dX5_fits_75 rfl (lv_at hl 2 rfl) ?_
            refine pgL (C := RX5) (T := TX5) (N := 10) hx hb hts hown hK hw 5 5 r (show r < pvM σ 5 by skip; exact hr0) (by decide) rfl rfl (by decide +kernel) (by decide) (v := .ref (G.2.2.1 40 r)) rfl (hts (.fieldLink RX5 18 "PinnaceView$Rule" "names" "[I") (by decide +kernel)) (fun _ h9 => h9) dX5_fits_76 ?_
            refine lv_iload_n hx hb dX5_fits_79 rfl (lv_at hl 3 rfl) ?_
            refine pgAn hx hb hK htys hw 40 r (show r < pvM σ 40 by skip; exact hr0) (by decide) (by decide) (by decide) (by decide) (by decide) k (show k < 3 by omega) dX5_fits_80 ?_
            refine lv_if_eq (tgt := 97) hx hb dX5_fits_81 (by decide) (fun c_81_14 => ?_) (fun c_81_14 => ?_)
            · skip
              refine lv_iconst (v := 1) hx hb dX5_fits_97 (by decide) ?_
              refine lv_goto (tgt := 102) hx hb dX5_fits_98 (by decide) ?_
              refine lv_istore (lv' := [(5, .int 1), (4, .int 1), (3, .int 1), (0, .ref (G.2.2.1 5 r)), (1, .int (nI k)), (2, .ref (G.2.2.1 3 u))]) hx hb dX5_fits_102 hl (by decide) rfl (fun ls hl => ?_)
              refine lv_iload_n hx hb dX5_fits_104 rfl (lv_at hl 2 rfl) ?_
              refine lv_if_eq (tgt := 122) hx hb dX5_fits_105 (by decide) (fun z => absurd z (by decide)) (fun _ => ?_)
              refine lv_iload hx hb dX5_fits_108 (lv_at hl 1 rfl) ?_
              refine lv_if_eq (tgt := 122) hx hb dX5_fits_110 (by decide) (fun z => absurd z (by decide)) (fun _ => ?_)
              refine lv_iload hx hb dX5_fits_113 (lv_at hl 0 rfl) ?_
              refine lv_if_eq (tgt := 122) hx hb dX5_fits_115 (by decide) (fun z => absurd z (by decide)) (fun _ => ?_)
              refine lv_iconst (v := 1) hx hb dX5_fits_118 (by decide) ?_
              refine lv_goto (tgt := 123) hx hb dX5_fits_119 (by decide) ?_
              exact pez hx hb hr hlocks hA hw hK hS (by decide) (by have hpt := (hru r hr0).2; first | (exfalso; omega) | (refine ⟨?_, rfl⟩; unfold fitsB fitsP; simp only [decide_eq_true_eq]; first | (rw [if_pos ⟨by omega, by simp [c_1_1, c_9_2, c_14_3, c_26_4, c_65_5, c_81_14]⟩]; done) | (rw [if_neg]; intro z; first | omega | simp [c_1_1, c_9_2, c_14_3, c_26_4, c_65_5, c_81_14] at z))) dX5_fits_123
            · skip
              refine lv_aload_n hx hb dX5_fits_84 rfl (lv_at hl 2 rfl) ?_
              refine pgL (C := RX5) (T := TX5) (N := 10) hx hb hts hown hK hw 5 5 r (show r < pvM σ 5 by skip; exact hr0) (by decide) rfl rfl (by decide +kernel) (by decide) (v := .ref (G.2.2.1 40 r)) rfl (hts (.fieldLink RX5 18 "PinnaceView$Rule" "names" "[I") (by decide +kernel)) (fun _ h9 => h9) dX5_fits_85 ?_
              refine lv_iload_n hx hb dX5_fits_88 rfl (lv_at hl 3 rfl) ?_
              refine pgAn hx hb hK htys hw 40 r (show r < pvM σ 40 by skip; exact hr0) (by decide) (by decide) (by decide) (by decide) (by decide) k (show k < 3 by omega) dX5_fits_89 ?_
              refine lv_aload_n hx hb dX5_fits_90 rfl (lv_at hl 4 rfl) ?_
              refine pgI (C := RX3) (T := TX3) (N := 14) hx hb hts hown hK hw 3 10 u (show u < pvM σ 3 by skip; exact hu0) (by decide) rfl rfl (by decide +kernel) (by decide) rfl (hts (.fieldLink RX5 68 "PinnaceView$Node" "name" "I") (by decide +kernel)) (fun _ h9 => h9) dX5_fits_91 ?_
              refine lv_icmp_ne (tgt := 101) hx hb dX5_fits_94 (by decide) (fun c_94_18 => ?_) (fun c_94_18 => ?_)
              · skip
                refine lv_iconst (v := 0) hx hb dX5_fits_101 (by decide) ?_
                refine lv_istore (lv' := [(5, .int 0), (4, .int 1), (3, .int 1), (0, .ref (G.2.2.1 5 r)), (1, .int (nI k)), (2, .ref (G.2.2.1 3 u))]) hx hb dX5_fits_102 hl (by decide) rfl (fun ls hl => ?_)
                refine lv_iload_n hx hb dX5_fits_104 rfl (lv_at hl 2 rfl) ?_
                refine lv_if_eq (tgt := 122) hx hb dX5_fits_105 (by decide) (fun z => absurd z (by decide)) (fun _ => ?_)
                refine lv_iload hx hb dX5_fits_108 (lv_at hl 1 rfl) ?_
                refine lv_if_eq (tgt := 122) hx hb dX5_fits_110 (by decide) (fun z => absurd z (by decide)) (fun _ => ?_)
                refine lv_iload hx hb dX5_fits_113 (lv_at hl 0 rfl) ?_
                refine lv_if_eq (tgt := 122) hx hb dX5_fits_115 (by decide) (fun _ => ?_) (fun z => absurd z (by decide))
                refine lv_iconst (v := 0) hx hb dX5_fits_122 (by decide) ?_
                exact pez hx hb hr hlocks hA hw hK hS (by decide) (by have hpt := (hru r hr0).2; first | (exfalso; omega) | (refine ⟨?_, rfl⟩; unfold fitsB fitsP; simp only [decide_eq_true_eq]; first | (rw [if_pos ⟨by omega, by simp [c_1_1, c_9_2, c_14_3, c_26_4, c_65_5, c_81_14, c_94_18]⟩]; done) | (rw [if_neg]; intro z; first | omega | simp [c_1_1, c_9_2, c_14_3, c_26_4, c_65_5, c_81_14, c_94_18] at z))) dX5_fits_123
              · skip
                refine lv_iconst (v := 1) hx hb dX5_fits_97 (by decide) ?_
                refine lv_goto (tgt := 102) hx hb dX5_fits_98 (by decide) ?_
                refine lv_istore (lv' := [(5, .int 1), (4, .int 1), (3, .int 1), (0, .ref (G.2.2.1 5 r)), (1, .int (nI k)), (2, .ref (G.2.2.1 3 u))]) hx hb dX5_fits_102 hl (by decide) rfl (fun ls hl => ?_)
                refine lv_iload_n hx hb dX5_fits_104 rfl (lv_at hl 2 rfl) ?_
                refine lv_if_eq (tgt := 122) hx hb dX5_fits_105 (by decide) (fun z => absurd z (by decide)) (fun _ => ?_)
                refine lv_iload hx hb dX5_fits_108 (lv_at hl 1 rfl) ?_
                refine lv_if_eq (tgt := 122) hx hb dX5_fits_110 (by decide) (fun z => absurd z (by decide)) (fun _ => ?_)
                refine lv_iload hx hb dX5_fits_113 (lv_at hl 0 rfl) ?_
                refine lv_if_eq (tgt := 122) hx hb dX5_fits_115 (by decide) (fun z => absurd z (by decide)) (fun _ => ?_)
                refine lv_iconst (v := 1) hx hb dX5_fits_118 (by decide) ?_
                refine lv_goto (tgt := 123) hx hb dX5_fits_119 (by decide) ?_
                exact pez hx hb hr hlocks hA hw hK hS (by decide) (by have hpt := (hru r hr0).2; first | (exfalso; omega) | (refine ⟨?_, rfl⟩; unfold fitsB fitsP; simp only [decide_eq_true_eq]; first | (rw [if_pos ⟨by omega, by simp [c_1_1, c_9_2, c_14_3, c_26_4, c_65_5, c_81_14, c_94_18]⟩]; done) | (rw [if_neg]; intro z; first | omega | simp [c_1_1, c_9_2, c_14_3, c_26_4, c_65_5, c_81_14, c_94_18] at z))) dX5_fits_123
        · skip
          refine lv_aload_n hx hb dX5_fits_29 rfl (lv_at hl 0 rfl) ?_
          refine pgL (C := RX5) (T := TX5) (N := 10) hx hb hts hown hK hw 5 3 r (show r < pvM σ 5 by skip; exact hr0) (by decide) rfl rfl (by decide +kernel) (by decide) (v := .ref (G.2.2.1 38 r)) rfl (hts (.fieldLink RX5 9 "PinnaceView$Rule" "tags" "[I") (by decide +kernel)) (fun _ h9 => h9) dX5_fits_30 ?_
          refine lv_iload_n hx hb dX5_fits_33 rfl (lv_at hl 1 rfl) ?_
          refine pgAn hx hb hK htys hw 38 r (show r < pvM σ 38 by skip; exact hr0) (by decide) (by decide) (by decide) (by decide) (by decide) k (show k < 3 by omega) dX5_fits_34 ?_
          refine lv_aload_n hx hb dX5_fits_35 rfl (lv_at hl 2 rfl) ?_
          refine pgI (C := RX3) (T := TX3) (N := 14) hx hb hts hown hK hw 3 2 u (show u < pvM σ 3 by skip; exact hu0) (by decide) rfl rfl (by decide +kernel) (by decide) rfl (hts (.fieldLink RX5 62 "PinnaceView$Node" "tag" "I") (by decide +kernel)) (fun _ h9 => h9) dX5_fits_36 ?_
          refine lv_icmp_ne (tgt := 46) hx hb dX5_fits_39 (by decide) (fun c_39_25 => ?_) (fun c_39_25 => ?_)
          · skip
            refine lv_iconst (v := 0) hx hb dX5_fits_46 (by decide) ?_
            refine lv_istore_n (lv' := [(3, .int 0), (0, .ref (G.2.2.1 5 r)), (1, .int (nI k)), (2, .ref (G.2.2.1 3 u))]) hx hb dX5_fits_47 rfl hl (by decide) rfl (fun ls hl => ?_)
            refine lv_aload_n hx hb dX5_fits_48 rfl (lv_at hl 3 rfl) ?_
            refine pgI (C := RX3) (T := TX3) (N := 14) hx hb hts hown hK hw 3 11 u (show u < pvM σ 3 by skip; exact hu0) (by decide) rfl rfl (by decide +kernel) (by decide) rfl (hts (.fieldLink RX5 65 "PinnaceView$Node" "classes" "I") (by decide +kernel)) (fun _ h9 => h9) dX5_fits_49 ?_
            refine lv_aload_n hx hb dX5_fits_52 rfl (lv_at hl 1 rfl) ?_
            refine pgL (C := RX5) (T := TX5) (N := 10) hx hb hts hown hK hw 5 4 r (show r < pvM σ 5 by skip; exact hr0) (by decide) rfl rfl (by decide +kernel) (by decide) (v := .ref (G.2.2.1 39 r)) rfl (hts (.fieldLink RX5 15 "PinnaceView$Rule" "classBits" "[I") (by decide +kernel)) (fun _ h9 => h9) dX5_fits_53 ?_
            refine lv_iload_n hx hb dX5_fits_56 rfl (lv_at hl 2 rfl) ?_
            refine pgAn hx hb hK htys hw 39 r (show r < pvM σ 39 by skip; exact hr0) (by decide) (by decide) (by decide) (by decide) (by decide) k (show k < 3 by omega) dX5_fits_57 ?_
            refine lv_iand hx hb dX5_fits_58 ?_
            refine lv_aload_n hx hb dX5_fits_59 rfl (lv_at hl 1 rfl) ?_
            refine pgL (C := RX5) (T := TX5) (N := 10) hx hb hts hown hK hw 5 4 r (show r < pvM σ 5 by skip; exact hr0) (by decide) rfl rfl (by decide +kernel) (by decide) (v := .ref (G.2.2.1 39 r)) rfl (hts (.fieldLink RX5 15 "PinnaceView$Rule" "classBits" "[I") (by decide +kernel)) (fun _ h9 => h9) dX5_fits_60 ?_
            refine lv_iload_n hx hb dX5_fits_63 rfl (lv_at hl 2 rfl) ?_
            refine pgAn hx hb hK htys hw 39 r (show r < pvM σ 39 by skip; exact hr0) (by decide) (by decide) (by decide) (by decide) (by decide) k (show k < 3 by omega) dX5_fits_64 ?_
            refine lv_icmp_ne (tgt := 72) hx hb dX5_fits_65 (by decide) (fun c_65_26 => ?_) (fun c_65_26 => ?_)
            · skip
              refine lv_iconst (v := 0) hx hb dX5_fits_72 (by decide) ?_
              refine lv_istore (lv' := [(4, .int 0), (3, .int 0), (0, .ref (G.2.2.1 5 r)), (1, .int (nI k)), (2, .ref (G.2.2.1 3 u))]) hx hb dX5_fits_73 hl (by decide) rfl (fun ls hl => ?_)
              refine lv_aload_n hx hb dX5_fits_75 rfl (lv_at hl 2 rfl) ?_
              refine pgL (C := RX5) (T := TX5) (N := 10) hx hb hts hown hK hw 5 5 r (show r < pvM σ 5 by skip; exact hr0) (by decide) rfl rfl (by decide +kernel) (by decide) (v := .ref (G.2.2.1 40 r)) rfl (hts (.fieldLink RX5 18 "PinnaceView$Rule" "names" "[I") (by decide +kernel)) (fun _ h9 => h9) dX5_fits_76 ?_
              refine lv_iload_n hx hb dX5_fits_79 rfl (lv_at hl 3 rfl) ?_
              refine pgAn hx hb hK htys hw 40 r (show r < pvM σ 40 by skip; exact hr0) (by decide) (by decide) (by decide) (by decide) (by decide) k (show k < 3 by omega) dX5_fits_80 ?_
              refine lv_if_eq (tgt := 97) hx hb dX5_fits_81 (by decide) (fun c_81_27 => ?_) (fun c_81_27 => ?_)
              · skip
                refine lv_iconst (v := 1) hx hb dX5_fits_97 (by decide) ?_
                refine lv_goto (tgt := 102) hx hb dX5_fits_98 (by decide) ?_
                refine lv_istore (lv' := [(5, .int 1), (4, .int 0), (3, .int 0), (0, .ref (G.2.2.1 5 r)), (1, .int (nI k)), (2, .ref (G.2.2.1 3 u))]) hx hb dX5_fits_102 hl (by decide) rfl (fun ls hl => ?_)
                refine lv_iload_n hx hb dX5_fits_104 rfl (lv_at hl 2 rfl) ?_
                refine lv_if_eq (tgt := 122) hx hb dX5_fits_105 (by decide) (fun _ => ?_) (fun z => absurd z (by decide))
                refine lv_iconst (v := 0) hx hb dX5_fits_122 (by decide) ?_
                exact pez hx hb hr hlocks hA hw hK hS (by decide) (by have hpt := (hru r hr0).2; first | (exfalso; omega) | (refine ⟨?_, rfl⟩; unfold fitsB fitsP; simp only [decide_eq_true_eq]; first | (rw [if_pos ⟨by omega, by simp [c_1_1, c_9_2, c_14_3, c_26_4, c_39_25, c_65_26, c_81_27]⟩]; done) | (rw [if_neg]; intro z; first | omega | simp [c_1_1, c_9_2, c_14_3, c_26_4, c_39_25, c_65_26, c_81_27] at z))) dX5_fits_123
              · skip
                refine lv_aload_n hx hb dX5_fits_84 rfl (lv_at hl 2 rfl) ?_
                refine pgL (C := RX5) (T := TX5) (N := 10) hx hb hts hown hK hw 5 5 r (show r < pvM σ 5 by skip; exact hr0) (by decide) rfl rfl (by decide +kernel) (by decide) (v := .ref (G.2.2.1 40 r)) rfl (hts (.fieldLink RX5 18 "PinnaceView$Rule" "names" "[I") (by decide +kernel)) (fun _ h9 => h9) dX5_fits_85 ?_
                refine lv_iload_n hx hb dX5_fits_88 rfl (lv_at hl 3 rfl) ?_
                refine pgAn hx hb hK htys hw 40 r (show r < pvM σ 40 by skip; exact hr0) (by decide) (by decide) (by decide) (by decide) (by decide) k (show k < 3 by omega) dX5_fits_89 ?_
                refine lv_aload_n hx hb dX5_fits_90 rfl (lv_at hl 4 rfl) ?_
                refine pgI (C := RX3) (T := TX3) (N := 14) hx hb hts hown hK hw 3 10 u (show u < pvM σ 3 by skip; exact hu0) (by decide) rfl rfl (by decide +kernel) (by decide) rfl (hts (.fieldLink RX5 68 "PinnaceView$Node" "name" "I") (by decide +kernel)) (fun _ h9 => h9) dX5_fits_91 ?_
                refine lv_icmp_ne (tgt := 101) hx hb dX5_fits_94 (by decide) (fun c_94_29 => ?_) (fun c_94_29 => ?_)
                · skip
                  refine lv_iconst (v := 0) hx hb dX5_fits_101 (by decide) ?_
                  refine lv_istore (lv' := [(5, .int 0), (4, .int 0), (3, .int 0), (0, .ref (G.2.2.1 5 r)), (1, .int (nI k)), (2, .ref (G.2.2.1 3 u))]) hx hb dX5_fits_102 hl (by decide) rfl (fun ls hl => ?_)
                  refine lv_iload_n hx hb dX5_fits_104 rfl (lv_at hl 2 rfl) ?_
                  refine lv_if_eq (tgt := 122) hx hb dX5_fits_105 (by decide) (fun _ => ?_) (fun z => absurd z (by decide))
                  refine lv_iconst (v := 0) hx hb dX5_fits_122 (by decide) ?_
                  exact pez hx hb hr hlocks hA hw hK hS (by decide) (by have hpt := (hru r hr0).2; first | (exfalso; omega) | (refine ⟨?_, rfl⟩; unfold fitsB fitsP; simp only [decide_eq_true_eq]; first | (rw [if_pos ⟨by omega, by simp [c_1_1, c_9_2, c_14_3, c_26_4, c_39_25, c_65_26, c_81_27, c_94_29]⟩]; done) | (rw [if_neg]; intro z; first | omega | simp [c_1_1, c_9_2, c_14_3, c_26_4, c_39_25, c_65_26, c_81_27, c_94_29] at z))) dX5_fits_123
                · skip
                  refine lv_iconst (v := 1) hx hb dX5_fits_97 (by decide) ?_
                  refine lv_goto (tgt := 102) hx hb dX5_fits_98 (by decide) ?_
                  refine lv_istore (lv' := [(5, .int 1), (4, .int 0), (3, .int 0), (0, .ref (G.2.2.1 5 r)), (1, .int (nI k)), (2, .ref (G.2.2.1 3 u))]) hx hb dX5_fits_102 hl (by decide) rfl (fun ls hl => ?_)
                  refine lv_iload_n hx hb dX5_fits_104 rfl (lv_at hl 2 rfl) ?_
                  refine lv_if_eq (tgt := 122) hx hb dX5_fits_105 (by decide) (fun _ => ?_) (fun z => absurd z (by decide))
                  refine lv_iconst (v := 0) hx hb dX5_fits_122 (by decide) ?_
                  exact pez hx hb hr hlocks hA hw hK hS (by decide) (by have hpt := (hru r hr0).2; first | (exfalso; omega) | (refine ⟨?_, rfl⟩; unfold fitsB fitsP; simp only [decide_eq_true_eq]; first | (rw [if_pos ⟨by omega, by simp [c_1_1, c_9_2, c_14_3, c_26_4, c_39_25, c_65_26, c_81_27, c_94_29]⟩]; done) | (rw [if_neg]; intro z; first | omega | simp [c_1_1, c_9_2, c_14_3, c_26_4, c_39_25, c_65_26, c_81_27, c_94_29] at z))) dX5_fits_123
            · skip
              refine lv_iconst (v := 1) hx hb dX5_fits_68 (by decide) ?_
              refine lv_goto (tgt := 73) hx hb dX5_fits_69 (by decide) ?_
              refine lv_istore (lv' := [(4, .int 1), (3, .int 0), (0, .ref (G.2.2.1 5 r)), (1, .int (nI k)), (2, .ref (G.2.2.1 3 u))]) hx hb dX5_fits_73 hl (by decide) rfl (fun ls hl => ?_)
              refine lv_aload_n hx hb dX5_fits_75 rfl (lv_at hl 2 rfl) ?_
              refine pgL (C := RX5) (T := TX5) (N := 10) hx hb hts hown hK hw 5 5 r (show r < pvM σ 5 by skip; exact hr0) (by decide) rfl rfl (by decide +kernel) (by decide) (v := .ref (G.2.2.1 40 r)) rfl (hts (.fieldLink RX5 18 "PinnaceView$Rule" "names" "[I") (by decide +kernel)) (fun _ h9 => h9) dX5_fits_76 ?_
              refine lv_iload_n hx hb dX5_fits_79 rfl (lv_at hl 3 rfl) ?_
              refine pgAn hx hb hK htys hw 40 r (show r < pvM σ 40 by skip; exact hr0) (by decide) (by decide) (by decide) (by decide) (by decide) k (show k < 3 by omega) dX5_fits_80 ?_
              refine lv_if_eq (tgt := 97) hx hb dX5_fits_81 (by decide) (fun c_81_32 => ?_) (fun c_81_32 => ?_)
              · skip
                refine lv_iconst (v := 1) hx hb dX5_fits_97 (by decide) ?_
                refine lv_goto (tgt := 102) hx hb dX5_fits_98 (by decide) ?_
                refine lv_istore (lv' := [(5, .int 1), (4, .int 1), (3, .int 0), (0, .ref (G.2.2.1 5 r)), (1, .int (nI k)), (2, .ref (G.2.2.1 3 u))]) hx hb dX5_fits_102 hl (by decide) rfl (fun ls hl => ?_)
                refine lv_iload_n hx hb dX5_fits_104 rfl (lv_at hl 2 rfl) ?_
                refine lv_if_eq (tgt := 122) hx hb dX5_fits_105 (by decide) (fun _ => ?_) (fun z => absurd z (by decide))
                refine lv_iconst (v := 0) hx hb dX5_fits_122 (by decide) ?_
                exact pez hx hb hr hlocks hA hw hK hS (by decide) (by have hpt := (hru r hr0).2; first | (exfalso; omega) | (refine ⟨?_, rfl⟩; unfold fitsB fitsP; simp only [decide_eq_true_eq]; first | (rw [if_pos ⟨by omega, by simp [c_1_1, c_9_2, c_14_3, c_26_4, c_39_25, c_65_26, c_81_32]⟩]; done) | (rw [if_neg]; intro z; first | omega | simp [c_1_1, c_9_2, c_14_3, c_26_4, c_39_25, c_65_26, c_81_32] at z))) dX5_fits_123
              · skip
                refine lv_aload_n hx hb dX5_fits_84 rfl (lv_at hl 2 rfl) ?_
                refine pgL (C := RX5) (T := TX5) (N := 10) hx hb hts hown hK hw 5 5 r (show r < pvM σ 5 by skip; exact hr0) (by decide) rfl rfl (by decide +kernel) (by decide) (v := .ref (G.2.2.1 40 r)) rfl (hts (.fieldLink RX5 18 "PinnaceView$Rule" "names" "[I") (by decide +kernel)) (fun _ h9 => h9) dX5_fits_85 ?_
                refine lv_iload_n hx hb dX5_fits_88 rfl (lv_at hl 3 rfl) ?_
                refine pgAn hx hb hK htys hw 40 r (show r < pvM σ 40 by skip; exact hr0) (by decide) (by decide) (by decide) (by decide) (by decide) k (show k < 3 by omega) dX5_fits_89 ?_
                refine lv_aload_n hx hb dX5_fits_90 rfl (lv_at hl 4 rfl) ?_
                refine pgI (C := RX3) (T := TX3) (N := 14) hx hb hts hown hK hw 3 10 u (show u < pvM σ 3 by skip; exact hu0) (by decide) rfl rfl (by decide +kernel) (by decide) rfl (hts (.fieldLink RX5 68 "PinnaceView$Node" "name" "I") (by decide +kernel)) (fun _ h9 => h9) dX5_fits_91 ?_
                refine lv_icmp_ne (tgt := 101) hx hb dX5_fits_94 (by decide) (fun c_94_34 => ?_) (fun c_94_34 => ?_)
                · skip
                  refine lv_iconst (v := 0) hx hb dX5_fits_101 (by decide) ?_
                  refine lv_istore (lv' := [(5, .int 0), (4, .int 1), (3, .int 0), (0, .ref (G.2.2.1 5 r)), (1, .int (nI k)), (2, .ref (G.2.2.1 3 u))]) hx hb dX5_fits_102 hl (by decide) rfl (fun ls hl => ?_)
                  refine lv_iload_n hx hb dX5_fits_104 rfl (lv_at hl 2 rfl) ?_
                  refine lv_if_eq (tgt := 122) hx hb dX5_fits_105 (by decide) (fun _ => ?_) (fun z => absurd z (by decide))
                  refine lv_iconst (v := 0) hx hb dX5_fits_122 (by decide) ?_
                  exact pez hx hb hr hlocks hA hw hK hS (by decide) (by have hpt := (hru r hr0).2; first | (exfalso; omega) | (refine ⟨?_, rfl⟩; unfold fitsB fitsP; simp only [decide_eq_true_eq]; first | (rw [if_pos ⟨by omega, by simp [c_1_1, c_9_2, c_14_3, c_26_4, c_39_25, c_65_26, c_81_32, c_94_34]⟩]; done) | (rw [if_neg]; intro z; first | omega | simp [c_1_1, c_9_2, c_14_3, c_26_4, c_39_25, c_65_26, c_81_32, c_94_34] at z))) dX5_fits_123
                · skip
                  refine lv_iconst (v := 1) hx hb dX5_fits_97 (by decide) ?_
                  refine lv_goto (tgt := 102) hx hb dX5_fits_98 (by decide) ?_
                  refine lv_istore (lv' := [(5, .int 1), (4, .int 1), (3, .int 0), (0, .ref (G.2.2.1 5 r)), (1, .int (nI k)), (2, .ref (G.2.2.1 3 u))]) hx hb dX5_fits_102 hl (by decide) rfl (fun ls hl => ?_)
                  refine lv_iload_n hx hb dX5_fits_104 rfl (lv_at hl 2 rfl) ?_
                  refine lv_if_eq (tgt := 122) hx hb dX5_fits_105 (by decide) (fun _ => ?_) (fun z => absurd z (by decide))
                  refine lv_iconst (v := 0) hx hb dX5_fits_122 (by decide) ?_
                  exact pez hx hb hr hlocks hA hw hK hS (by decide) (by have hpt := (hru r hr0).2; first | (exfalso; omega) | (refine ⟨?_, rfl⟩; unfold fitsB fitsP; simp only [decide_eq_true_eq]; first | (rw [if_pos ⟨by omega, by simp [c_1_1, c_9_2, c_14_3, c_26_4, c_39_25, c_65_26, c_81_32, c_94_34]⟩]; done) | (rw [if_neg]; intro z; first | omega | simp [c_1_1, c_9_2, c_14_3, c_26_4, c_39_25, c_65_26, c_81_32, c_94_34] at z))) dX5_fits_123
          · skip
            refine lv_iconst (v := 1) hx hb dX5_fits_42 (by decide) ?_
            refine lv_goto (tgt := 47) hx hb dX5_fits_43 (by decide) ?_
            refine lv_istore_n (lv' := [(3, .int 1), (0, .ref (G.2.2.1 5 r)), (1, .int (nI k)), (2, .ref (G.2.2.1 3 u))]) hx hb dX5_fits_47 rfl hl (by decide) rfl (fun ls hl => ?_)
            refine lv_aload_n hx hb dX5_fits_48 rfl (lv_at hl 3 rfl) ?_
            refine pgI (C := RX3) (T := TX3) (N := 14) hx hb hts hown hK hw 3 11 u (show u < pvM σ 3 by skip; exact hu0) (by decide) rfl rfl (by decide +kernel) (by decide) rfl (hts (.fieldLink RX5 65 "PinnaceView$Node" "classes" "I") (by decide +kernel)) (fun _ h9 => h9) dX5_fits_49 ?_
            refine lv_aload_n hx hb dX5_fits_52 rfl (lv_at hl 1 rfl) ?_
            refine pgL (C := RX5) (T := TX5) (N := 10) hx hb hts hown hK hw 5 4 r (show r < pvM σ 5 by skip; exact hr0) (by decide) rfl rfl (by decide +kernel) (by decide) (v := .ref (G.2.2.1 39 r)) rfl (hts (.fieldLink RX5 15 "PinnaceView$Rule" "classBits" "[I") (by decide +kernel)) (fun _ h9 => h9) dX5_fits_53 ?_
            refine lv_iload_n hx hb dX5_fits_56 rfl (lv_at hl 2 rfl) ?_
            refine pgAn hx hb hK htys hw 39 r (show r < pvM σ 39 by skip; exact hr0) (by decide) (by decide) (by decide) (by decide) (by decide) k (show k < 3 by omega) dX5_fits_57 ?_
            refine lv_iand hx hb dX5_fits_58 ?_
            refine lv_aload_n hx hb dX5_fits_59 rfl (lv_at hl 1 rfl) ?_
            refine pgL (C := RX5) (T := TX5) (N := 10) hx hb hts hown hK hw 5 4 r (show r < pvM σ 5 by skip; exact hr0) (by decide) rfl rfl (by decide +kernel) (by decide) (v := .ref (G.2.2.1 39 r)) rfl (hts (.fieldLink RX5 15 "PinnaceView$Rule" "classBits" "[I") (by decide +kernel)) (fun _ h9 => h9) dX5_fits_60 ?_
            refine lv_iload_n hx hb dX5_fits_63 rfl (lv_at hl 2 rfl) ?_
            refine pgAn hx hb hK htys hw 39 r (show r < pvM σ 39 by skip; exact hr0) (by decide) (by decide) (by decide) (by decide) (by decide) k (show k < 3 by omega) dX5_fits_64 ?_
            refine lv_icmp_ne (tgt := 72) hx hb dX5_fits_65 (by decide) (fun c_65_37 => ?_) (fun c_65_37 => ?_)
            · skip
              refine lv_iconst (v := 0) hx hb dX5_fits_72 (by decide) ?_
              refine lv_istore (lv' := [(4, .int 0), (3, .int 1), (0, .ref (G.2.2.1 5 r)), (1, .int (nI k)), (2, .ref (G.2.2.1 3 u))]) hx hb dX5_fits_73 hl (by decide) rfl (fun ls hl => ?_)
              refine lv_aload_n hx hb dX5_fits_75 rfl (lv_at hl 2 rfl) ?_
              refine pgL (C := RX5) (T := TX5) (N := 10) hx hb hts hown hK hw 5 5 r (show r < pvM σ 5 by skip; exact hr0) (by decide) rfl rfl (by decide +kernel) (by decide) (v := .ref (G.2.2.1 40 r)) rfl (hts (.fieldLink RX5 18 "PinnaceView$Rule" "names" "[I") (by decide +kernel)) (fun _ h9 => h9) dX5_fits_76 ?_
              refine lv_iload_n hx hb dX5_fits_79 rfl (lv_at hl 3 rfl) ?_
              refine pgAn hx hb hK htys hw 40 r (show r < pvM σ 40 by skip; exact hr0) (by decide) (by decide) (by decide) (by decide) (by decide) k (show k < 3 by omega) dX5_fits_80 ?_
              refine lv_if_eq (tgt := 97) hx hb dX5_fits_81 (by decide) (fun c_81_38 => ?_) (fun c_81_38 => ?_)
              · skip
                refine lv_iconst (v := 1) hx hb dX5_fits_97 (by decide) ?_
                refine lv_goto (tgt := 102) hx hb dX5_fits_98 (by decide) ?_
                refine lv_istore (lv' := [(5, .int 1), (4, .int 0), (3, .int 1), (0, .ref (G.2.2.1 5 r)), (1, .int (nI k)), (2, .ref (G.2.2.1 3 u))]) hx hb dX5_fits_102 hl (by decide) rfl (fun ls hl => ?_)
                refine lv_iload_n hx hb dX5_fits_104 rfl (lv_at hl 2 rfl) ?_
                refine lv_if_eq (tgt := 122) hx hb dX5_fits_105 (by decide) (fun z => absurd z (by decide)) (fun _ => ?_)
                refine lv_iload hx hb dX5_fits_108 (lv_at hl 1 rfl) ?_
                refine lv_if_eq (tgt := 122) hx hb dX5_fits_110 (by decide) (fun _ => ?_) (fun z => absurd z (by decide))
                refine lv_iconst (v := 0) hx hb dX5_fits_122 (by decide) ?_
                exact pez hx hb hr hlocks hA hw hK hS (by decide) (by have hpt := (hru r hr0).2; first | (exfalso; omega) | (refine ⟨?_, rfl⟩; unfold fitsB fitsP; simp only [decide_eq_true_eq]; first | (rw [if_pos ⟨by omega, by simp [c_1_1, c_9_2, c_14_3, c_26_4, c_39_25, c_65_37, c_81_38]⟩]; done) | (rw [if_neg]; intro z; first | omega | simp [c_1_1, c_9_2, c_14_3, c_26_4, c_39_25, c_65_37, c_81_38] at z))) dX5_fits_123
              · skip
                refine lv_aload_n hx hb dX5_fits_84 rfl (lv_at hl 2 rfl) ?_
                refine pgL (C := RX5) (T := TX5) (N := 10) hx hb hts hown hK hw 5 5 r (show r < pvM σ 5 by skip; exact hr0) (by decide) rfl rfl (by decide +kernel) (by decide) (v := .ref (G.2.2.1 40 r)) rfl (hts (.fieldLink RX5 18 "PinnaceView$Rule" "names" "[I") (by decide +kernel)) (fun _ h9 => h9) dX5_fits_85 ?_
                refine lv_iload_n hx hb dX5_fits_88 rfl (lv_at hl 3 rfl) ?_
                refine pgAn hx hb hK htys hw 40 r (show r < pvM σ 40 by skip; exact hr0) (by decide) (by decide) (by decide) (by decide) (by decide) k (show k < 3 by omega) dX5_fits_89 ?_
                refine lv_aload_n hx hb dX5_fits_90 rfl (lv_at hl 4 rfl) ?_
                refine pgI (C := RX3) (T := TX3) (N := 14) hx hb hts hown hK hw 3 10 u (show u < pvM σ 3 by skip; exact hu0) (by decide) rfl rfl (by decide +kernel) (by decide) rfl (hts (.fieldLink RX5 68 "PinnaceView$Node" "name" "I") (by decide +kernel)) (fun _ h9 => h9) dX5_fits_91 ?_
                refine lv_icmp_ne (tgt := 101) hx hb dX5_fits_94 (by decide) (fun c_94_41 => ?_) (fun c_94_41 => ?_)
                · skip
                  refine lv_iconst (v := 0) hx hb dX5_fits_101 (by decide) ?_
                  refine lv_istore (lv' := [(5, .int 0), (4, .int 0), (3, .int 1), (0, .ref (G.2.2.1 5 r)), (1, .int (nI k)), (2, .ref (G.2.2.1 3 u))]) hx hb dX5_fits_102 hl (by decide) rfl (fun ls hl => ?_)
                  refine lv_iload_n hx hb dX5_fits_104 rfl (lv_at hl 2 rfl) ?_
                  refine lv_if_eq (tgt := 122) hx hb dX5_fits_105 (by decide) (fun z => absurd z (by decide)) (fun _ => ?_)
                  refine lv_iload hx hb dX5_fits_108 (lv_at hl 1 rfl) ?_
                  refine lv_if_eq (tgt := 122) hx hb dX5_fits_110 (by decide) (fun _ => ?_) (fun z => absurd z (by decide))
                  refine lv_iconst (v := 0) hx hb dX5_fits_122 (by decide) ?_
                  exact pez hx hb hr hlocks hA hw hK hS (by decide) (by have hpt := (hru r hr0).2; first | (exfalso; omega) | (refine ⟨?_, rfl⟩; unfold fitsB fitsP; simp only [decide_eq_true_eq]; first | (rw [if_pos ⟨by omega, by simp [c_1_1, c_9_2, c_14_3, c_26_4, c_39_25, c_65_37, c_81_38, c_94_41]⟩]; done) | (rw [if_neg]; intro z; first | omega | simp [c_1_1, c_9_2, c_14_3, c_26_4, c_39_25, c_65_37, c_81_38, c_94_41] at z))) dX5_fits_123
                · skip
                  refine lv_iconst (v := 1) hx hb dX5_fits_97 (by decide) ?_
                  refine lv_goto (tgt := 102) hx hb dX5_fits_98 (by decide) ?_
                  refine lv_istore (lv' := [(5, .int 1), (4, .int 0), (3, .int 1), (0, .ref (G.2.2.1 5 r)), (1, .int (nI k)), (2, .ref (G.2.2.1 3 u))]) hx hb dX5_fits_102 hl (by decide) rfl (fun ls hl => ?_)
                  refine lv_iload_n hx hb dX5_fits_104 rfl (lv_at hl 2 rfl) ?_
                  refine lv_if_eq (tgt := 122) hx hb dX5_fits_105 (by decide) (fun z => absurd z (by decide)) (fun _ => ?_)
                  refine lv_iload hx hb dX5_fits_108 (lv_at hl 1 rfl) ?_
                  refine lv_if_eq (tgt := 122) hx hb dX5_fits_110 (by decide) (fun _ => ?_) (fun z => absurd z (by decide))
                  refine lv_iconst (v := 0) hx hb dX5_fits_122 (by decide) ?_
                  exact pez hx hb hr hlocks hA hw hK hS (by decide) (by have hpt := (hru r hr0).2; first | (exfalso; omega) | (refine ⟨?_, rfl⟩; unfold fitsB fitsP; simp only [decide_eq_true_eq]; first | (rw [if_pos ⟨by omega, by simp [c_1_1, c_9_2, c_14_3, c_26_4, c_39_25, c_65_37, c_81_38, c_94_41]⟩]; done) | (rw [if_neg]; intro z; first | omega | simp [c_1_1, c_9_2, c_14_3, c_26_4, c_39_25, c_65_37, c_81_38, c_94_41] at z))) dX5_fits_123
            · skip
              refine lv_iconst (v := 1) hx hb dX5_fits_68 (by decide) ?_
              refine lv_goto (tgt := 73) hx hb dX5_fits_69 (by decide) ?_
              refine lv_istore (lv' := [(4, .int 1), (3, .int 1), (0, .ref (G.2.2.1 5 r)), (1, .int (nI k)), (2, .ref (G.2.2.1 3 u))]) hx hb dX5_fits_73 hl (by decide) rfl (fun ls hl => ?_)
              refine lv_aload_n hx hb dX5_fits_75 rfl (lv_at hl 2 rfl) ?_
              refine pgL (C := RX5) (T := TX5) (N := 10) hx hb hts hown hK hw 5 5 r (show r < pvM σ 5 by skip; exact hr0) (by decide) rfl rfl (by decide +kernel) (by decide) (v := .ref (G.2.2.1 40 r)) rfl (hts (.fieldLink RX5 18 "PinnaceView$Rule" "names" "[I") (by decide +kernel)) (fun _ h9 => h9) dX5_fits_76 ?_
              refine lv_iload_n hx hb dX5_fits_79 rfl (lv_at hl 3 rfl) ?_
              refine pgAn hx hb hK htys hw 40 r (show r < pvM σ 40 by skip; exact hr0) (by decide) (by decide) (by decide) (by decide) (by decide) k (show k < 3 by omega) dX5_fits_80 ?_
              refine lv_if_eq (tgt := 97) hx hb dX5_fits_81 (by decide) (fun c_81_46 => ?_) (fun c_81_46 => ?_)
              · skip
                refine lv_iconst (v := 1) hx hb dX5_fits_97 (by decide) ?_
                refine lv_goto (tgt := 102) hx hb dX5_fits_98 (by decide) ?_
                refine lv_istore (lv' := [(5, .int 1), (4, .int 1), (3, .int 1), (0, .ref (G.2.2.1 5 r)), (1, .int (nI k)), (2, .ref (G.2.2.1 3 u))]) hx hb dX5_fits_102 hl (by decide) rfl (fun ls hl => ?_)
                refine lv_iload_n hx hb dX5_fits_104 rfl (lv_at hl 2 rfl) ?_
                refine lv_if_eq (tgt := 122) hx hb dX5_fits_105 (by decide) (fun z => absurd z (by decide)) (fun _ => ?_)
                refine lv_iload hx hb dX5_fits_108 (lv_at hl 1 rfl) ?_
                refine lv_if_eq (tgt := 122) hx hb dX5_fits_110 (by decide) (fun z => absurd z (by decide)) (fun _ => ?_)
                refine lv_iload hx hb dX5_fits_113 (lv_at hl 0 rfl) ?_
                refine lv_if_eq (tgt := 122) hx hb dX5_fits_115 (by decide) (fun z => absurd z (by decide)) (fun _ => ?_)
                refine lv_iconst (v := 1) hx hb dX5_fits_118 (by decide) ?_
                refine lv_goto (tgt := 123) hx hb dX5_fits_119 (by decide) ?_
                exact pez hx hb hr hlocks hA hw hK hS (by decide) (by have hpt := (hru r hr0).2; first | (exfalso; omega) | (refine ⟨?_, rfl⟩; unfold fitsB fitsP; simp only [decide_eq_true_eq]; first | (rw [if_pos ⟨by omega, by simp [c_1_1, c_9_2, c_14_3, c_26_4, c_39_25, c_65_37, c_81_46]⟩]; done) | (rw [if_neg]; intro z; first | omega | simp [c_1_1, c_9_2, c_14_3, c_26_4, c_39_25, c_65_37, c_81_46] at z))) dX5_fits_123
              · skip
                refine lv_aload_n hx hb dX5_fits_84 rfl (lv_at hl 2 rfl) ?_
                refine pgL (C := RX5) (T := TX5) (N := 10) hx hb hts hown hK hw 5 5 r (show r < pvM σ 5 by skip; exact hr0) (by decide) rfl rfl (by decide +kernel) (by decide) (v := .ref (G.2.2.1 40 r)) rfl (hts (.fieldLink RX5 18 "PinnaceView$Rule" "names" "[I") (by decide +kernel)) (fun _ h9 => h9) dX5_fits_85 ?_
                refine lv_iload_n hx hb dX5_fits_88 rfl (lv_at hl 3 rfl) ?_
                refine pgAn hx hb hK htys hw 40 r (show r < pvM σ 40 by skip; exact hr0) (by decide) (by decide) (by decide) (by decide) (by decide) k (show k < 3 by omega) dX5_fits_89 ?_
                refine lv_aload_n hx hb dX5_fits_90 rfl (lv_at hl 4 rfl) ?_
                refine pgI (C := RX3) (T := TX3) (N := 14) hx hb hts hown hK hw 3 10 u (show u < pvM σ 3 by skip; exact hu0) (by decide) rfl rfl (by decide +kernel) (by decide) rfl (hts (.fieldLink RX5 68 "PinnaceView$Node" "name" "I") (by decide +kernel)) (fun _ h9 => h9) dX5_fits_91 ?_
                refine lv_icmp_ne (tgt := 101) hx hb dX5_fits_94 (by decide) (fun c_94_50 => ?_) (fun c_94_50 => ?_)
                · skip
                  refine lv_iconst (v := 0) hx hb dX5_fits_101 (by decide) ?_
                  refine lv_istore (lv' := [(5, .int 0), (4, .int 1), (3, .int 1), (0, .ref (G.2.2.1 5 r)), (1, .int (nI k)), (2, .ref (G.2.2.1 3 u))]) hx hb dX5_fits_102 hl (by decide) rfl (fun ls hl => ?_)
                  refine lv_iload_n hx hb dX5_fits_104 rfl (lv_at hl 2 rfl) ?_
                  refine lv_if_eq (tgt := 122) hx hb dX5_fits_105 (by decide) (fun z => absurd z (by decide)) (fun _ => ?_)
                  refine lv_iload hx hb dX5_fits_108 (lv_at hl 1 rfl) ?_
                  refine lv_if_eq (tgt := 122) hx hb dX5_fits_110 (by decide) (fun z => absurd z (by decide)) (fun _ => ?_)
                  refine lv_iload hx hb dX5_fits_113 (lv_at hl 0 rfl) ?_
                  refine lv_if_eq (tgt := 122) hx hb dX5_fits_115 (by decide) (fun _ => ?_) (fun z => absurd z (by decide))
                  refine lv_iconst (v := 0) hx hb dX5_fits_122 (by decide) ?_
                  exact pez hx hb hr hlocks hA hw hK hS (by decide) (by have hpt := (hru r hr0).2; first | (exfalso; omega) | (refine ⟨?_, rfl⟩; unfold fitsB fitsP; simp only [decide_eq_true_eq]; first | (rw [if_pos ⟨by omega, by simp [c_1_1, c_9_2, c_14_3, c_26_4, c_39_25, c_65_37, c_81_46, c_94_50]⟩]; done) | (rw [if_neg]; intro z; first | omega | simp [c_1_1, c_9_2, c_14_3, c_26_4, c_39_25, c_65_37, c_81_46, c_94_50] at z))) dX5_fits_123
                · skip
                  refine lv_iconst (v := 1) hx hb dX5_fits_97 (by decide) ?_
                  refine lv_goto (tgt := 102) hx hb dX5_fits_98 (by decide) ?_
                  refine lv_istore (lv' := [(5, .int 1), (4, .int 1), (3, .int 1), (0, .ref (G.2.2.1 5 r)), (1, .int (nI k)), (2, .ref (G.2.2.1 3 u))]) hx hb dX5_fits_102 hl (by decide) rfl (fun ls hl => ?_)
                  refine lv_iload_n hx hb dX5_fits_104 rfl (lv_at hl 2 rfl) ?_
                  refine lv_if_eq (tgt := 122) hx hb dX5_fits_105 (by decide) (fun z => absurd z (by decide)) (fun _ => ?_)
                  refine lv_iload hx hb dX5_fits_108 (lv_at hl 1 rfl) ?_
                  refine lv_if_eq (tgt := 122) hx hb dX5_fits_110 (by decide) (fun z => absurd z (by decide)) (fun _ => ?_)
                  refine lv_iload hx hb dX5_fits_113 (lv_at hl 0 rfl) ?_
                  refine lv_if_eq (tgt := 122) hx hb dX5_fits_115 (by decide) (fun z => absurd z (by decide)) (fun _ => ?_)
                  refine lv_iconst (v := 1) hx hb dX5_fits_118 (by decide) ?_
                  refine lv_goto (tgt := 123) hx hb dX5_fits_119 (by decide) ?_
                  exact pez hx hb hr hlocks hA hw hK hS (by decide) (by have hpt := (hru r hr0).2; first | (exfalso; omega) | (refine ⟨?_, rfl⟩; unfold fitsB fitsP; simp only [decide_eq_true_eq]; first | (rw [if_pos ⟨by omega, by simp [c_1_1, c_9_2, c_14_3, c_26_4, c_39_25, c_65_37, c_81_46, c_94_50]⟩]; done) | (rw [if_neg]; intro z; first | omega | simp [c_1_1, c_9_2, c_14_3, c_26_4, c_39_25, c_65_37, c_81_46, c_94_50] at z))) dX5_fits_123
      · skip
        have c_14_3 : ¬ k < 3 := fun z => c_14_3 ((nI_ltI (a := k) (b := 3) (by omega) (by omega)).mpr z)
        refine lv_iconst (v := 0) hx hb dX5_fits_17 (by decide) ?_
        exact pez hx hb hr hlocks hA hw hK hS (by decide) (by have hpt := (hru r hr0).2; first | (exfalso; omega) | (refine ⟨?_, rfl⟩; unfold fitsB fitsP; simp only [decide_eq_true_eq]; first | (rw [if_pos ⟨by omega, by simp [c_1_1, c_9_2, c_14_3]⟩]; done) | (rw [if_neg]; intro z; first | omega | simp [c_1_1, c_9_2, c_14_3] at z))) dX5_fits_18
/-- whether F holds of what is q or above it: of the first alone, if it is to be close -/
def fuL (σ : PvS) (F : Nat → Bool) (cl : Bool) : Nat → Option Nat → Bool
  | 0, _ => false
  | _ + 1, none => false
  | d + 1, some j => F j || (!cl && fuL σ F cl d (σ.2.2.1 3 8 j))
/-- whether the parts up to k match an element -/
noncomputable def fuB (σ : PvS) (dp : Nat → Nat) (r : Nat) : Nat → Nat → Bool
  | 0, u => fitsB σ r 0 u
  | k + 1, u => fitsB σ r (k + 1) u && fuL σ (fuB σ dp r k) (decide (¬ σ.2.2.2.1 41 r (k + 1) = 0)) (dp u) (σ.2.2.1 3 8 u)
theorem fuB_0 (σ : PvS) (dp : Nat → Nat) (r u : Nat) : fuB σ dp r 0 u = fitsB σ r 0 u := rfl
theorem fuB_1 (σ : PvS) (dp : Nat → Nat) (r u : Nat) : fuB σ dp r 1 u = (fitsB σ r 1 u && fuL σ (fuB σ dp r 0) (decide (¬ σ.2.2.2.1 41 r 1 = 0)) (dp u) (σ.2.2.1 3 8 u)) := rfl
theorem fuB_2 (σ : PvS) (dp : Nat → Nat) (r u : Nat) : fuB σ dp r 2 u = (fitsB σ r 2 u && fuL σ (fuB σ dp r 1) (decide (¬ σ.2.2.2.1 41 r 2 = 0)) (dp u) (σ.2.2.1 3 8 u)) := rfl
theorem fuL_s (σ : PvS) (F : Nat → Bool) (cl : Bool) (d j : Nat) : fuL σ F cl (d + 1) (some j) = (F j || (!cl && fuL σ F cl d (σ.2.2.1 3 8 j))) := rfl
set_option maxHeartbeats 4000000 in
set_option maxRecDepth 100000 in
theorem c_fitsUpTo0 {l : Launch} {G : PvG} {tys : List (ClassId × FieldType)} {σ : PvS} (htys : tys = pvT G) (hru : pvRu σ) {dp : Nat → Nat} (hdp : pvDp σ dp) {r u : Nat} (hr0 : r < σ.1.2) (hu0 : u < σ.1.1) : Met l yX5_fitsUpTo wsX5_fitsUpTo ({ frames := 1, cells := 0, slots := 0, locals := 25 }) (va_Pc [.ref (G.2.2.1 5 r), .int 0, .ref (G.2.2.1 3 u)] (pvU G tys σ)) (va_Qi (fun z σ' => z = (if fuB σ dp r 0 u = true then 1 else 0) ∧ σ' = σ) (pvU G tys) (pvB G)) 0 0 (pvB G) := by
  refine Met.ofW (cc := cX5_fitsUpTo) (maxL := 4) (ret := (some .boolean)) (by decide) rfl ?_
  intro p e s m args below meth c s₁ B hml hv
  obtain ⟨rfl, hw, hK, hA⟩ := hv
  have hx := B.exec
  have hb := B.bytes
  have hr := B.returns
  have hts := atoms_spec (ws := wsX5_fitsUpTo) B.pre
  have hown : s.vm.findClass RX5 = some m.cls := findClass_of_methodNamed B.named
  have hlocks := B.notSynchronized
  have hS : va_S (pvB G) s.heap s.heap [] := va_S.rf
  have hl := lv_entry ([.ref (G.2.2.1 5 r), .int 0, .ref (G.2.2.1 3 u)]) (n := 4) (Nat.le_of_ble_eq_true rfl)
  rw [lg_entry_eq]
  generalize (lg_sl ([.ref (G.2.2.1 5 r), .int 0, .ref (G.2.2.1 3 u)]) ++ List.replicate (4 - (lg_sl ([.ref (G.2.2.1 5 r), .int 0, .ref (G.2.2.1 3 u)])).length) Slot.unset).toArray = ls at hl ⊢
  have hl : lv_has ls 4 [(0, .ref (G.2.2.1 5 r)), (1, .int 0), (2, .ref (G.2.2.1 3 u))] := hl
  refine lv_aload_n hx hb dX5_fitsUpTo_0 rfl (lv_at hl 0 rfl) ?_
  refine lv_iload_n hx hb dX5_fitsUpTo_1 rfl (lv_at hl 1 rfl) ?_
  refine lv_aload_n hx hb dX5_fitsUpTo_2 rfl (lv_at hl 2 rfl) ?_
  refine pcalli (va_runV (As := [.int 0, .ref (G.2.2.1 3 u)]) (rest := []) ⟨hx, hb, hml, hown, hts⟩ (c_fits (l := l) (G := G) (tys := tys) (σ := σ) htys hru (show r < pvM σ 5 by skip; exact hr0) (show u < pvM σ 3 by skip; exact hu0) (k := 0) (by omega)) (cwV 2 hts gX5_fitsUpTo_X5_fits rfl rfl rfl (by decide +kernel) ⟨Nat.le_of_ble_eq_true rfl, Nat.le_of_ble_eq_true rfl⟩) (pv_preV hA hS hw hK 5 r (show r < pvM σ 5 by skip; exact hr0) (by decide) rfl [.int 0, .ref (G.2.2.1 3 u)]) rfl rfl hl.1 rfl (lv_room (Nat.le_of_ble_eq_true rfl)) dX5_fitsUpTo_3 ⟨Nat.zero_le _, Nat.zero_le _⟩) hS (fun r1 σ1 H locs hp1 hw hS => ?_)
  obtain ⟨er1, eσ1⟩ := hp1
  obtain rfl := eσ1.symm
  refine lv_if_ne (tgt := 11) hx hb dX5_fitsUpTo_6 (by decide) (fun c_6_2 => ?_) (fun c_6_2 => ?_)
  · skip
    have c_6_2 : (fitsB σ r 0 u = true) := pv_nz er1 c_6_2
    refine lv_iload_n hx hb dX5_fitsUpTo_11 rfl (lv_at hl 1 rfl) ?_
    refine lv_if_ne (tgt := 17) hx hb dX5_fitsUpTo_12 (by decide) (fun z => absurd z (by decide)) (fun _ => ?_)
    refine lv_iconst (v := 1) hx hb dX5_fitsUpTo_15 (by decide) ?_
    exact pez hx hb hr hlocks hA hw hK hS (by decide) (by refine ⟨?_, rfl⟩; rw [fuB_0]; first | (rw [hk0 rfl, Bool.and_false]; rfl) | (rw [hj2, fuL_s]; simp [c_6_2]; done) | (rw [if_neg]; simp [c_6_2]; done) | (rw [if_pos]; simp [c_6_2]; done)) dX5_fitsUpTo_16
  · skip
    have c_6_2 : ¬ (fitsB σ r 0 u = true) := pv_z er1 c_6_2
    refine lv_iconst (v := 0) hx hb dX5_fitsUpTo_9 (by decide) ?_
    exact pez hx hb hr hlocks hA hw hK hS (by decide) (by refine ⟨?_, rfl⟩; rw [fuB_0]; first | (rw [hk0 rfl, Bool.and_false]; rfl) | (rw [hj2, fuL_s]; simp [c_6_2]; done) | (rw [if_neg]; simp [c_6_2]; done) | (rw [if_pos]; simp [c_6_2]; done)) dX5_fitsUpTo_10
set_option maxHeartbeats 4000000 in
set_option maxRecDepth 100000 in
theorem c_fitsUpTo1 {l : Launch} {G : PvG} {tys : List (ClassId × FieldType)} {σ : PvS} (htys : tys = pvT G) (hru : pvRu σ) {dp : Nat → Nat} (hdp : pvDp σ dp) {r u : Nat} (hr0 : r < σ.1.2) (hu0 : u < σ.1.1) : Met l yX5_fitsUpTo wsX5_fitsUpTo ({ frames := 2, cells := 0, slots := 0, locals := 48 }) (va_Pc [.ref (G.2.2.1 5 r), .int 1, .ref (G.2.2.1 3 u)] (pvU G tys σ)) (va_Qi (fun z σ' => z = (if fuB σ dp r 1 u = true then 1 else 0) ∧ σ' = σ) (pvU G tys) (pvB G)) 0 0 (pvB G) := by
  refine Met.ofW (cc := cX5_fitsUpTo) (maxL := 4) (ret := (some .boolean)) (by decide) rfl ?_
  intro p e s m args below meth c s₁ B hml hv
  obtain ⟨rfl, hw, hK, hA⟩ := hv
  have hx := B.exec
  have hb := B.bytes
  have hr := B.returns
  have hts := atoms_spec (ws := wsX5_fitsUpTo) B.pre
  have hown : s.vm.findClass RX5 = some m.cls := findClass_of_methodNamed B.named
  have hlocks := B.notSynchronized
  have hS : va_S (pvB G) s.heap s.heap [] := va_S.rf
  have hl := lv_entry ([.ref (G.2.2.1 5 r), .int 1, .ref (G.2.2.1 3 u)]) (n := 4) (Nat.le_of_ble_eq_true rfl)
  rw [lg_entry_eq]
  generalize (lg_sl ([.ref (G.2.2.1 5 r), .int 1, .ref (G.2.2.1 3 u)]) ++ List.replicate (4 - (lg_sl ([.ref (G.2.2.1 5 r), .int 1, .ref (G.2.2.1 3 u)])).length) Slot.unset).toArray = ls at hl ⊢
  have hl : lv_has ls 4 [(0, .ref (G.2.2.1 5 r)), (1, .int 1), (2, .ref (G.2.2.1 3 u))] := hl
  refine lv_aload_n hx hb dX5_fitsUpTo_0 rfl (lv_at hl 0 rfl) ?_
  refine lv_iload_n hx hb dX5_fitsUpTo_1 rfl (lv_at hl 1 rfl) ?_
  refine lv_aload_n hx hb dX5_fitsUpTo_2 rfl (lv_at hl 2 rfl) ?_
  refine pcalli (va_runV (As := [.int 1, .ref (G.2.2.1 3 u)]) (rest := []) ⟨hx, hb, hml, hown, hts⟩ (c_fits (l := l) (G := G) (tys := tys) (σ := σ) htys hru (show r < pvM σ 5 by skip; exact hr0) (show u < pvM σ 3 by skip; exact hu0) (k := 1) (by omega)) (cwV 2 hts gX5_fitsUpTo_X5_fits rfl rfl rfl (by decide +kernel) ⟨Nat.le_of_ble_eq_true rfl, Nat.le_of_ble_eq_true rfl⟩) (pv_preV hA hS hw hK 5 r (show r < pvM σ 5 by skip; exact hr0) (by decide) rfl [.int 1, .ref (G.2.2.1 3 u)]) rfl rfl hl.1 rfl (lv_room (Nat.le_of_ble_eq_true rfl)) dX5_fitsUpTo_3 ⟨Nat.zero_le _, Nat.zero_le _⟩) hS (fun r1 σ1 H locs hp1 hw hS => ?_)
  obtain ⟨er1, eσ1⟩ := hp1
  obtain rfl := eσ1.symm
  refine lv_if_ne (tgt := 11) hx hb dX5_fitsUpTo_6 (by decide) (fun c_6_2 => ?_) (fun c_6_2 => ?_)
  · skip
    have c_6_2 : (fitsB σ r 1 u = true) := pv_nz er1 c_6_2
    refine lv_iload_n hx hb dX5_fitsUpTo_11 rfl (lv_at hl 1 rfl) ?_
    refine lv_if_ne (tgt := 17) hx hb dX5_fitsUpTo_12 (by decide) (fun _ => ?_) (fun z => absurd z (by decide))
    refine lv_aload_n hx hb dX5_fitsUpTo_17 rfl (lv_at hl 2 rfl) ?_
    refine pgR (C := RX3) (T := TX3) (N := 14) hx hb hts hown hK hw 3 8 u (show u < pvM σ 3 by skip; exact hu0) (by decide) rfl rfl (by decide +kernel) (by decide) rfl (hts (.fieldLink RX5 58 "PinnaceView$Node" "parent" "LPinnaceView$Node;") (by decide +kernel)) (fun _ h9 => h9) dX5_fitsUpTo_18 (fun q18_4 => ?_) (fun jq18_4 q18_4 => ?_)
    · skip
      refine lv_astore_nN (lv' := [(3, .null), (0, .ref (G.2.2.1 5 r)), (1, .int 1), (2, .ref (G.2.2.1 3 u))]) hx hb dX5_fitsUpTo_21 rfl hl (by decide) rfl (fun ls hl => ?_)
      have loop22 : ∀ (n : Nat) (t : Nat) (q : Option Nat), t < n → (q = none → fuL σ (fuB σ dp r 0) (decide (¬ σ.2.2.2.1 41 r 1 = 0)) (dp u) (σ.2.2.1 3 8 u) = false) → (∀ j, q = some j → j < σ.1.1 ∧ t = dp j + 1 ∧ fuL σ (fuB σ dp r 0) (decide (¬ σ.2.2.2.1 41 r 1 = 0)) (dp u) (σ.2.2.1 3 8 u) = fuL σ (fuB σ dp r 0) (decide (¬ σ.2.2.2.1 41 r 1 = 0)) (dp j + 1) (some j)) → ∀ (H : Heap) (locs : List Loc), pvW G σ H → va_S (pvB G) s.heap H locs → ∀ (ls : Array Slot), lv_has ls 4 [(0, .ref (G.2.2.1 5 r)), (1, .int 1), (2, .ref (G.2.2.1 3 u)), (3, va_rf ((q).map (G.2.2.1 3)))] → W p l e (headSpec wsX5_fitsUpTo ({ frames := 2, cells := 0, slots := 0, locals := 48 } : Room)).room s m ([.ref (G.2.2.1 5 r), .int 1, .ref (G.2.2.1 3 u)] : List Value).toArray below meth c H locs 0 0 (MQ below (va_Qi (fun z σ' => z = (if fuB σ dp r 1 u = true then 1 else 0) ∧ σ' = σ) (pvU G tys) (pvB G)) ([.ref (G.2.2.1 5 r), .int 1, .ref (G.2.2.1 3 u)] : List Value).toArray s 0 0 (pvB G)) (F0 m 22 ls []) := by
        intro n
        induction n with
        | zero => intros; omega
        | succ n ih =>
          intro t q hm hk0 hk1 H locs hw hS ls hl
          rcases q with _ | j
          · skip
            have hl : lv_has ls 4 [(0, .ref (G.2.2.1 5 r)), (1, .int 1), (2, .ref (G.2.2.1 3 u)), (3, .null)] := hl
            refine lv_aload_nN hx hb dX5_fitsUpTo_22 rfl (lv_at hl 3 rfl) ?_
            refine lv_ifnullN (tgt := 58) hx hb dX5_fitsUpTo_23 (by decide) ?_
            refine lv_iconst (v := 0) hx hb dX5_fitsUpTo_58 (by decide) ?_
            exact pez hx hb hr hlocks hA hw hK hS (by decide) (by refine ⟨?_, rfl⟩; rw [fuB_1]; first | (rw [hk0 rfl, Bool.and_false]; rfl) | (rw [hj2, fuL_s]; simp [c_6_2, q18_4]; done) | (rw [if_neg]; simp [c_6_2, q18_4]; done) | (rw [if_pos]; simp [c_6_2, q18_4]; done)) dX5_fitsUpTo_59
          · skip
            have hl : lv_has ls 4 [(0, .ref (G.2.2.1 5 r)), (1, .int 1), (2, .ref (G.2.2.1 3 u)), (3, .ref (G.2.2.1 3 j))] := hl
            have hjn := (hk1 j rfl).1
            have hj1 := (hk1 j rfl).2.1
            have hj2 := (hk1 j rfl).2.2
            refine lv_aload_n hx hb dX5_fitsUpTo_22 rfl (lv_at hl 3 rfl) ?_
            refine lv_ifnull hx hb dX5_fitsUpTo_23 ?_
            refine lv_aload_n hx hb dX5_fitsUpTo_26 rfl (lv_at hl 0 rfl) ?_
            refine lv_iload_n hx hb dX5_fitsUpTo_27 rfl (lv_at hl 1 rfl) ?_
            refine lv_iconst (v := 1) hx hb dX5_fitsUpTo_28 (by decide) ?_
            refine lv_isub hx hb dX5_fitsUpTo_29 ?_
            rw [show (1 : Int32) - 1 = 0 from rfl]
            refine lv_aload_n hx hb dX5_fitsUpTo_30 rfl (lv_at hl 3 rfl) ?_
            refine pcalli (va_runS (As := [.ref (G.2.2.1 5 r), .int 0, .ref (G.2.2.1 3 j)]) (rest := []) ⟨hx, hb, hml, hown, hts⟩ (c_fitsUpTo0 (l := l) (G := G) (tys := tys) (σ := σ) htys hru hdp (show r < pvM σ 5 by skip; exact hr0) (hjn)) (va_cwS 3 hts gX5_fitsUpTo_X5_fitsUpTo rfl rfl rfl (by decide +kernel) ⟨Nat.le_of_ble_eq_true rfl, Nat.le_of_ble_eq_true rfl⟩) (pv_preS hA hS hw hK [.ref (G.2.2.1 5 r), .int 0, .ref (G.2.2.1 3 j)]) rfl rfl hl.1 rfl (lv_room (Nat.le_of_ble_eq_true rfl)) dX5_fitsUpTo_31 ⟨Nat.zero_le _, Nat.zero_le _⟩) hS (fun r5 σ5 H locs hp5 hw hS => ?_)
            obtain ⟨er5, eσ5⟩ := hp5
            obtain rfl := eσ5.symm
            refine lv_if_eq (tgt := 39) hx hb dX5_fitsUpTo_34 (by decide) (fun c_34_6 => ?_) (fun c_34_6 => ?_)
            · skip
              have c_34_6 : ¬ (fuB σ dp r 0 j = true) := pv_z er5 c_34_6
              refine lv_aload_n hx hb dX5_fitsUpTo_39 rfl (lv_at hl 0 rfl) ?_
              refine pgL (C := RX5) (T := TX5) (N := 10) hx hb hts hown hK hw 5 6 r (show r < pvM σ 5 by skip; exact hr0) (by decide) rfl rfl (by decide +kernel) (by decide) (v := .ref (G.2.2.1 41 r)) rfl (hts (.fieldLink RX5 21 "PinnaceView$Rule" "areClose" "[Z") (by decide +kernel)) (fun _ h9 => h9) dX5_fitsUpTo_40 ?_
              refine lv_iload_n hx hb dX5_fitsUpTo_43 rfl (lv_at hl 1 rfl) ?_
              refine pgZn hx hb hK htys hw r (show r < pvM σ 41 by skip; exact hr0) 1 (show 1 < 3 by omega) dX5_fitsUpTo_44 ?_
              refine lv_if_eq (tgt := 50) hx hb dX5_fitsUpTo_45 (by decide) (fun c_45_7 => ?_) (fun c_45_7 => ?_)
              · skip
                refine lv_aload_n hx hb dX5_fitsUpTo_50 rfl (lv_at hl 3 rfl) ?_
                refine pgR (C := RX3) (T := TX3) (N := 14) hx hb hts hown hK hw 3 8 j (hjn) (by decide) rfl rfl (by decide +kernel) (by decide) rfl (hts (.fieldLink RX5 58 "PinnaceView$Node" "parent" "LPinnaceView$Node;") (by decide +kernel)) (fun _ h9 => h9) dX5_fitsUpTo_51 (fun q51_8 => ?_) (fun jq51_8 q51_8 => ?_)
                · skip
                  refine lv_astore_nN (lv' := [(3, .null), (0, .ref (G.2.2.1 5 r)), (1, .int 1), (2, .ref (G.2.2.1 3 u))]) hx hb dX5_fitsUpTo_54 rfl hl (by decide) rfl (fun ls hl => ?_)
                  refine lv_goto (tgt := 22) hx hb dX5_fitsUpTo_55 (by decide) ?_
                  exact ih (dp j) none (by omega) (by intro z; first | (cases z; done) | (rw [hj2, fuL_s, (hdp j hjn).1 q51_8]; simp [fuL, c_6_2, q18_4, c_34_6, c_45_7, q51_8])) (by intro j0 hj0; first | (cases hj0; done) | (cases hj0; have h9 := (hdp j hjn).2 _ q51_8; refine ⟨h9.1, h9.2, ?_⟩; rw [hj2, fuL_s, h9.2, q51_8]; simp [c_6_2, q18_4, c_34_6, c_45_7, q51_8])) _ _ hw hS ls (lv_sub hl [1, 2, 3, 0] rfl)
                · skip
                  refine lv_astore_n (lv' := [(3, .ref (G.2.2.1 3 jq51_8)), (0, .ref (G.2.2.1 5 r)), (1, .int 1), (2, .ref (G.2.2.1 3 u))]) hx hb dX5_fitsUpTo_54 rfl hl (by decide) rfl (fun ls hl => ?_)
                  refine lv_goto (tgt := 22) hx hb dX5_fitsUpTo_55 (by decide) ?_
                  exact ih (dp j) (some jq51_8) (by omega) (by intro z; first | (cases z; done) | (rw [hj2, fuL_s, (hdp j hjn).1 q51_8]; simp [fuL, c_6_2, q18_4, c_34_6, c_45_7, q51_8])) (by intro j0 hj0; first | (cases hj0; done) | (cases hj0; have h9 := (hdp j hjn).2 _ q51_8; refine ⟨h9.1, h9.2, ?_⟩; rw [hj2, fuL_s, h9.2, q51_8]; simp [c_6_2, q18_4, c_34_6, c_45_7, q51_8])) _ _ hw hS ls (lv_sub hl [1, 2, 3, 0] rfl)
              · skip
                refine lv_iconst (v := 0) hx hb dX5_fitsUpTo_48 (by decide) ?_
                exact pez hx hb hr hlocks hA hw hK hS (by decide) (by refine ⟨?_, rfl⟩; rw [fuB_1]; first | (rw [hk0 rfl, Bool.and_false]; rfl) | (rw [hj2, fuL_s]; simp [c_6_2, q18_4, c_34_6, c_45_7]; done) | (rw [if_neg]; simp [c_6_2, q18_4, c_34_6, c_45_7]; done) | (rw [if_pos]; simp [c_6_2, q18_4, c_34_6, c_45_7]; done)) dX5_fitsUpTo_49
            · skip
              have c_34_6 : (fuB σ dp r 0 j = true) := pv_nz er5 c_34_6
              refine lv_iconst (v := 1) hx hb dX5_fitsUpTo_37 (by decide) ?_
              exact pez hx hb hr hlocks hA hw hK hS (by decide) (by refine ⟨?_, rfl⟩; rw [fuB_1]; first | (rw [hk0 rfl, Bool.and_false]; rfl) | (rw [hj2, fuL_s]; simp [c_6_2, q18_4, c_34_6]; done) | (rw [if_neg]; simp [c_6_2, q18_4, c_34_6]; done) | (rw [if_pos]; simp [c_6_2, q18_4, c_34_6]; done)) dX5_fitsUpTo_38
      exact loop22 (dp u + 1) (dp u) none (by omega) (by intro z; first | (cases z; done) | (rw [(hdp u hu0).1 q18_4]; rfl)) (by intro j0 hj0; first | (cases hj0; done) | (cases hj0; have h9 := (hdp u hu0).2 _ q18_4; exact ⟨h9.1, h9.2, by rw [h9.2, q18_4]⟩)) _ _ hw hS ls (lv_sub hl [1, 2, 3, 0] rfl)
    · skip
      refine lv_astore_n (lv' := [(3, .ref (G.2.2.1 3 jq18_4)), (0, .ref (G.2.2.1 5 r)), (1, .int 1), (2, .ref (G.2.2.1 3 u))]) hx hb dX5_fitsUpTo_21 rfl hl (by decide) rfl (fun ls hl => ?_)
      have loop22 : ∀ (n : Nat) (t : Nat) (q : Option Nat), t < n → (q = none → fuL σ (fuB σ dp r 0) (decide (¬ σ.2.2.2.1 41 r 1 = 0)) (dp u) (σ.2.2.1 3 8 u) = false) → (∀ j, q = some j → j < σ.1.1 ∧ t = dp j + 1 ∧ fuL σ (fuB σ dp r 0) (decide (¬ σ.2.2.2.1 41 r 1 = 0)) (dp u) (σ.2.2.1 3 8 u) = fuL σ (fuB σ dp r 0) (decide (¬ σ.2.2.2.1 41 r 1 = 0)) (dp j + 1) (some j)) → ∀ (H : Heap) (locs : List Loc), pvW G σ H → va_S (pvB G) s.heap H locs → ∀ (ls : Array Slot), lv_has ls 4 [(0, .ref (G.2.2.1 5 r)), (1, .int 1), (2, .ref (G.2.2.1 3 u)), (3, va_rf ((q).map (G.2.2.1 3)))] → W p l e (headSpec wsX5_fitsUpTo ({ frames := 2, cells := 0, slots := 0, locals := 48 } : Room)).room s m ([.ref (G.2.2.1 5 r), .int 1, .ref (G.2.2.1 3 u)] : List Value).toArray below meth c H locs 0 0 (MQ below (va_Qi (fun z σ' => z = (if fuB σ dp r 1 u = true then 1 else 0) ∧ σ' = σ) (pvU G tys) (pvB G)) ([.ref (G.2.2.1 5 r), .int 1, .ref (G.2.2.1 3 u)] : List Value).toArray s 0 0 (pvB G)) (F0 m 22 ls []) := by
        intro n
        induction n with
        | zero => intros; omega
        | succ n ih =>
          intro t q hm hk0 hk1 H locs hw hS ls hl
          rcases q with _ | j
          · skip
            have hl : lv_has ls 4 [(0, .ref (G.2.2.1 5 r)), (1, .int 1), (2, .ref (G.2.2.1 3 u)), (3, .null)] := hl
            refine lv_aload_nN hx hb dX5_fitsUpTo_22 rfl (lv_at hl 3 rfl) ?_
            refine lv_ifnullN (tgt := 58) hx hb dX5_fitsUpTo_23 (by decide) ?_
            refine lv_iconst (v := 0) hx hb dX5_fitsUpTo_58 (by decide) ?_
            exact pez hx hb hr hlocks hA hw hK hS (by decide) (by refine ⟨?_, rfl⟩; rw [fuB_1]; first | (rw [hk0 rfl, Bool.and_false]; rfl) | (rw [hj2, fuL_s]; simp [c_6_2, q18_4]; done) | (rw [if_neg]; simp [c_6_2, q18_4]; done) | (rw [if_pos]; simp [c_6_2, q18_4]; done)) dX5_fitsUpTo_59
          · skip
            have hl : lv_has ls 4 [(0, .ref (G.2.2.1 5 r)), (1, .int 1), (2, .ref (G.2.2.1 3 u)), (3, .ref (G.2.2.1 3 j))] := hl
            have hjn := (hk1 j rfl).1
            have hj1 := (hk1 j rfl).2.1
            have hj2 := (hk1 j rfl).2.2
            refine lv_aload_n hx hb dX5_fitsUpTo_22 rfl (lv_at hl 3 rfl) ?_
            refine lv_ifnull hx hb dX5_fitsUpTo_23 ?_
            refine lv_aload_n hx hb dX5_fitsUpTo_26 rfl (lv_at hl 0 rfl) ?_
            refine lv_iload_n hx hb dX5_fitsUpTo_27 rfl (lv_at hl 1 rfl) ?_
            refine lv_iconst (v := 1) hx hb dX5_fitsUpTo_28 (by decide) ?_
            refine lv_isub hx hb dX5_fitsUpTo_29 ?_
            rw [show (1 : Int32) - 1 = 0 from rfl]
            refine lv_aload_n hx hb dX5_fitsUpTo_30 rfl (lv_at hl 3 rfl) ?_
            refine pcalli (va_runS (As := [.ref (G.2.2.1 5 r), .int 0, .ref (G.2.2.1 3 j)]) (rest := []) ⟨hx, hb, hml, hown, hts⟩ (c_fitsUpTo0 (l := l) (G := G) (tys := tys) (σ := σ) htys hru hdp (show r < pvM σ 5 by skip; exact hr0) (hjn)) (va_cwS 3 hts gX5_fitsUpTo_X5_fitsUpTo rfl rfl rfl (by decide +kernel) ⟨Nat.le_of_ble_eq_true rfl, Nat.le_of_ble_eq_true rfl⟩) (pv_preS hA hS hw hK [.ref (G.2.2.1 5 r), .int 0, .ref (G.2.2.1 3 j)]) rfl rfl hl.1 rfl (lv_room (Nat.le_of_ble_eq_true rfl)) dX5_fitsUpTo_31 ⟨Nat.zero_le _, Nat.zero_le _⟩) hS (fun r9 σ9 H locs hp9 hw hS => ?_)
            obtain ⟨er9, eσ9⟩ := hp9
            obtain rfl := eσ9.symm
            refine lv_if_eq (tgt := 39) hx hb dX5_fitsUpTo_34 (by decide) (fun c_34_10 => ?_) (fun c_34_10 => ?_)
            · skip
              have c_34_10 : ¬ (fuB σ dp r 0 j = true) := pv_z er9 c_34_10
              refine lv_aload_n hx hb dX5_fitsUpTo_39 rfl (lv_at hl 0 rfl) ?_
              refine pgL (C := RX5) (T := TX5) (N := 10) hx hb hts hown hK hw 5 6 r (show r < pvM σ 5 by skip; exact hr0) (by decide) rfl rfl (by decide +kernel) (by decide) (v := .ref (G.2.2.1 41 r)) rfl (hts (.fieldLink RX5 21 "PinnaceView$Rule" "areClose" "[Z") (by decide +kernel)) (fun _ h9 => h9) dX5_fitsUpTo_40 ?_
              refine lv_iload_n hx hb dX5_fitsUpTo_43 rfl (lv_at hl 1 rfl) ?_
              refine pgZn hx hb hK htys hw r (show r < pvM σ 41 by skip; exact hr0) 1 (show 1 < 3 by omega) dX5_fitsUpTo_44 ?_
              refine lv_if_eq (tgt := 50) hx hb dX5_fitsUpTo_45 (by decide) (fun c_45_11 => ?_) (fun c_45_11 => ?_)
              · skip
                refine lv_aload_n hx hb dX5_fitsUpTo_50 rfl (lv_at hl 3 rfl) ?_
                refine pgR (C := RX3) (T := TX3) (N := 14) hx hb hts hown hK hw 3 8 j (hjn) (by decide) rfl rfl (by decide +kernel) (by decide) rfl (hts (.fieldLink RX5 58 "PinnaceView$Node" "parent" "LPinnaceView$Node;") (by decide +kernel)) (fun _ h9 => h9) dX5_fitsUpTo_51 (fun q51_12 => ?_) (fun jq51_12 q51_12 => ?_)
                · skip
                  refine lv_astore_nN (lv' := [(3, .null), (0, .ref (G.2.2.1 5 r)), (1, .int 1), (2, .ref (G.2.2.1 3 u))]) hx hb dX5_fitsUpTo_54 rfl hl (by decide) rfl (fun ls hl => ?_)
                  refine lv_goto (tgt := 22) hx hb dX5_fitsUpTo_55 (by decide) ?_
                  exact ih (dp j) none (by omega) (by intro z; first | (cases z; done) | (rw [hj2, fuL_s, (hdp j hjn).1 q51_12]; simp [fuL, c_6_2, q18_4, c_34_10, c_45_11, q51_12])) (by intro j0 hj0; first | (cases hj0; done) | (cases hj0; have h9 := (hdp j hjn).2 _ q51_12; refine ⟨h9.1, h9.2, ?_⟩; rw [hj2, fuL_s, h9.2, q51_12]; simp [c_6_2, q18_4, c_34_10, c_45_11, q51_12])) _ _ hw hS ls (lv_sub hl [1, 2, 3, 0] rfl)
                · skip
                  refine lv_astore_n (lv' := [(3, .ref (G.2.2.1 3 jq51_12)), (0, .ref (G.2.2.1 5 r)), (1, .int 1), (2, .ref (G.2.2.1 3 u))]) hx hb dX5_fitsUpTo_54 rfl hl (by decide) rfl (fun ls hl => ?_)
                  refine lv_goto (tgt := 22) hx hb dX5_fitsUpTo_55 (by decide) ?_
                  exact ih (dp j) (some jq51_12) (by omega) (by intro z; first | (cases z; done) | (rw [hj2, fuL_s, (hdp j hjn).1 q51_12]; simp [fuL, c_6_2, q18_4, c_34_10, c_45_11, q51_12])) (by intro j0 hj0; first | (cases hj0; done) | (cases hj0; have h9 := (hdp j hjn).2 _ q51_12; refine ⟨h9.1, h9.2, ?_⟩; rw [hj2, fuL_s, h9.2, q51_12]; simp [c_6_2, q18_4, c_34_10, c_45_11, q51_12])) _ _ hw hS ls (lv_sub hl [1, 2, 3, 0] rfl)
              · skip
                refine lv_iconst (v := 0) hx hb dX5_fitsUpTo_48 (by decide) ?_
                exact pez hx hb hr hlocks hA hw hK hS (by decide) (by refine ⟨?_, rfl⟩; rw [fuB_1]; first | (rw [hk0 rfl, Bool.and_false]; rfl) | (rw [hj2, fuL_s]; simp [c_6_2, q18_4, c_34_10, c_45_11]; done) | (rw [if_neg]; simp [c_6_2, q18_4, c_34_10, c_45_11]; done) | (rw [if_pos]; simp [c_6_2, q18_4, c_34_10, c_45_11]; done)) dX5_fitsUpTo_49
            · skip
              have c_34_10 : (fuB σ dp r 0 j = true) := pv_nz er9 c_34_10
              refine lv_iconst (v := 1) hx hb dX5_fitsUpTo_37 (by decide) ?_
              exact pez hx hb hr hlocks hA hw hK hS (by decide) (by refine ⟨?_, rfl⟩; rw [fuB_1]; first | (rw [hk0 rfl, Bool.and_false]; rfl) | (rw [hj2, fuL_s]; simp [c_6_2, q18_4, c_34_10]; done) | (rw [if_neg]; simp [c_6_2, q18_4, c_34_10]; done) | (rw [if_pos]; simp [c_6_2, q18_4, c_34_10]; done)) dX5_fitsUpTo_38
      exact loop22 (dp u + 1) (dp u) (some jq18_4) (by omega) (by intro z; first | (cases z; done) | (rw [(hdp u hu0).1 q18_4]; rfl)) (by intro j0 hj0; first | (cases hj0; done) | (cases hj0; have h9 := (hdp u hu0).2 _ q18_4; exact ⟨h9.1, h9.2, by rw [h9.2, q18_4]⟩)) _ _ hw hS ls (lv_sub hl [1, 2, 3, 0] rfl)
  · skip
    have c_6_2 : ¬ (fitsB σ r 1 u = true) := pv_z er1 c_6_2
    refine lv_iconst (v := 0) hx hb dX5_fitsUpTo_9 (by decide) ?_
    exact pez hx hb hr hlocks hA hw hK hS (by decide) (by refine ⟨?_, rfl⟩; rw [fuB_1]; first | (rw [hk0 rfl, Bool.and_false]; rfl) | (rw [hj2, fuL_s]; simp [c_6_2]; done) | (rw [if_neg]; simp [c_6_2]; done) | (rw [if_pos]; simp [c_6_2]; done)) dX5_fitsUpTo_10
set_option maxHeartbeats 4000000 in
set_option maxRecDepth 100000 in
theorem c_fitsUpTo2 {l : Launch} {G : PvG} {tys : List (ClassId × FieldType)} {σ : PvS} (htys : tys = pvT G) (hru : pvRu σ) {dp : Nat → Nat} (hdp : pvDp σ dp) {r u : Nat} (hr0 : r < σ.1.2) (hu0 : u < σ.1.1) : Met l yX5_fitsUpTo wsX5_fitsUpTo ({ frames := 3, cells := 0, slots := 0, locals := 71 }) (va_Pc [.ref (G.2.2.1 5 r), .int 2, .ref (G.2.2.1 3 u)] (pvU G tys σ)) (va_Qi (fun z σ' => z = (if fuB σ dp r 2 u = true then 1 else 0) ∧ σ' = σ) (pvU G tys) (pvB G)) 0 0 (pvB G) := by
  refine Met.ofW (cc := cX5_fitsUpTo) (maxL := 4) (ret := (some .boolean)) (by decide) rfl ?_
  intro p e s m args below meth c s₁ B hml hv
  obtain ⟨rfl, hw, hK, hA⟩ := hv
  have hx := B.exec
  have hb := B.bytes
  have hr := B.returns
  have hts := atoms_spec (ws := wsX5_fitsUpTo) B.pre
  have hown : s.vm.findClass RX5 = some m.cls := findClass_of_methodNamed B.named
  have hlocks := B.notSynchronized
  have hS : va_S (pvB G) s.heap s.heap [] := va_S.rf
  have hl := lv_entry ([.ref (G.2.2.1 5 r), .int 2, .ref (G.2.2.1 3 u)]) (n := 4) (Nat.le_of_ble_eq_true rfl)
  rw [lg_entry_eq]
  generalize (lg_sl ([.ref (G.2.2.1 5 r), .int 2, .ref (G.2.2.1 3 u)]) ++ List.replicate (4 - (lg_sl ([.ref (G.2.2.1 5 r), .int 2, .ref (G.2.2.1 3 u)])).length) Slot.unset).toArray = ls at hl ⊢
  have hl : lv_has ls 4 [(0, .ref (G.2.2.1 5 r)), (1, .int 2), (2, .ref (G.2.2.1 3 u))] := hl
  refine lv_aload_n hx hb dX5_fitsUpTo_0 rfl (lv_at hl 0 rfl) ?_
  refine lv_iload_n hx hb dX5_fitsUpTo_1 rfl (lv_at hl 1 rfl) ?_
  refine lv_aload_n hx hb dX5_fitsUpTo_2 rfl (lv_at hl 2 rfl) ?_
  refine pcalli (va_runV (As := [.int 2, .ref (G.2.2.1 3 u)]) (rest := []) ⟨hx, hb, hml, hown, hts⟩ (c_fits (l := l) (G := G) (tys := tys) (σ := σ) htys hru (show r < pvM σ 5 by skip; exact hr0) (show u < pvM σ 3 by skip; exact hu0) (k := 2) (by omega)) (cwV 2 hts gX5_fitsUpTo_X5_fits rfl rfl rfl (by decide +kernel) ⟨Nat.le_of_ble_eq_true rfl, Nat.le_of_ble_eq_true rfl⟩) (pv_preV hA hS hw hK 5 r (show r < pvM σ 5 by skip; exact hr0) (by decide) rfl [.int 2, .ref (G.2.2.1 3 u)]) rfl rfl hl.1 rfl (lv_room (Nat.le_of_ble_eq_true rfl)) dX5_fitsUpTo_3 ⟨Nat.zero_le _, Nat.zero_le _⟩) hS (fun r1 σ1 H locs hp1 hw hS => ?_)
  obtain ⟨er1, eσ1⟩ := hp1
  obtain rfl := eσ1.symm
  refine lv_if_ne (tgt := 11) hx hb dX5_fitsUpTo_6 (by decide) (fun c_6_2 => ?_) (fun c_6_2 => ?_)
  · skip
    have c_6_2 : (fitsB σ r 2 u = true) := pv_nz er1 c_6_2
    refine lv_iload_n hx hb dX5_fitsUpTo_11 rfl (lv_at hl 1 rfl) ?_
    refine lv_if_ne (tgt := 17) hx hb dX5_fitsUpTo_12 (by decide) (fun _ => ?_) (fun z => absurd z (by decide))
    refine lv_aload_n hx hb dX5_fitsUpTo_17 rfl (lv_at hl 2 rfl) ?_
    refine pgR (C := RX3) (T := TX3) (N := 14) hx hb hts hown hK hw 3 8 u (show u < pvM σ 3 by skip; exact hu0) (by decide) rfl rfl (by decide +kernel) (by decide) rfl (hts (.fieldLink RX5 58 "PinnaceView$Node" "parent" "LPinnaceView$Node;") (by decide +kernel)) (fun _ h9 => h9) dX5_fitsUpTo_18 (fun q18_4 => ?_) (fun jq18_4 q18_4 => ?_)
    · skip
      refine lv_astore_nN (lv' := [(3, .null), (0, .ref (G.2.2.1 5 r)), (1, .int 2), (2, .ref (G.2.2.1 3 u))]) hx hb dX5_fitsUpTo_21 rfl hl (by decide) rfl (fun ls hl => ?_)
      have loop22 : ∀ (n : Nat) (t : Nat) (q : Option Nat), t < n → (q = none → fuL σ (fuB σ dp r 1) (decide (¬ σ.2.2.2.1 41 r 2 = 0)) (dp u) (σ.2.2.1 3 8 u) = false) → (∀ j, q = some j → j < σ.1.1 ∧ t = dp j + 1 ∧ fuL σ (fuB σ dp r 1) (decide (¬ σ.2.2.2.1 41 r 2 = 0)) (dp u) (σ.2.2.1 3 8 u) = fuL σ (fuB σ dp r 1) (decide (¬ σ.2.2.2.1 41 r 2 = 0)) (dp j + 1) (some j)) → ∀ (H : Heap) (locs : List Loc), pvW G σ H → va_S (pvB G) s.heap H locs → ∀ (ls : Array Slot), lv_has ls 4 [(0, .ref (G.2.2.1 5 r)), (1, .int 2), (2, .ref (G.2.2.1 3 u)), (3, va_rf ((q).map (G.2.2.1 3)))] → W p l e (headSpec wsX5_fitsUpTo ({ frames := 3, cells := 0, slots := 0, locals := 71 } : Room)).room s m ([.ref (G.2.2.1 5 r), .int 2, .ref (G.2.2.1 3 u)] : List Value).toArray below meth c H locs 0 0 (MQ below (va_Qi (fun z σ' => z = (if fuB σ dp r 2 u = true then 1 else 0) ∧ σ' = σ) (pvU G tys) (pvB G)) ([.ref (G.2.2.1 5 r), .int 2, .ref (G.2.2.1 3 u)] : List Value).toArray s 0 0 (pvB G)) (F0 m 22 ls []) := by
        intro n
        induction n with
        | zero => intros; omega
        | succ n ih =>
          intro t q hm hk0 hk1 H locs hw hS ls hl
          rcases q with _ | j
          · skip
            have hl : lv_has ls 4 [(0, .ref (G.2.2.1 5 r)), (1, .int 2), (2, .ref (G.2.2.1 3 u)), (3, .null)] := hl
            refine lv_aload_nN hx hb dX5_fitsUpTo_22 rfl (lv_at hl 3 rfl) ?_
            refine lv_ifnullN (tgt := 58) hx hb dX5_fitsUpTo_23 (by decide) ?_
            refine lv_iconst (v := 0) hx hb dX5_fitsUpTo_58 (by decide) ?_
            exact pez hx hb hr hlocks hA hw hK hS (by decide) (by refine ⟨?_, rfl⟩; rw [fuB_2]; first | (rw [hk0 rfl, Bool.and_false]; rfl) | (rw [hj2, fuL_s]; simp [c_6_2, q18_4]; done) | (rw [if_neg]; simp [c_6_2, q18_4]; done) | (rw [if_pos]; simp [c_6_2, q18_4]; done)) dX5_fitsUpTo_59
          · skip
            have hl : lv_has ls 4 [(0, .ref (G.2.2.1 5 r)), (1, .int 2), (2, .ref (G.2.2.1 3 u)), (3, .ref (G.2.2.1 3 j))] := hl
            have hjn := (hk1 j rfl).1
            have hj1 := (hk1 j rfl).2.1
            have hj2 := (hk1 j rfl).2.2
            refine lv_aload_n hx hb dX5_fitsUpTo_22 rfl (lv_at hl 3 rfl) ?_
            refine lv_ifnull hx hb dX5_fitsUpTo_23 ?_
            refine lv_aload_n hx hb dX5_fitsUpTo_26 rfl (lv_at hl 0 rfl) ?_
            refine lv_iload_n hx hb dX5_fitsUpTo_27 rfl (lv_at hl 1 rfl) ?_
            refine lv_iconst (v := 1) hx hb dX5_fitsUpTo_28 (by decide) ?_
            refine lv_isub hx hb dX5_fitsUpTo_29 ?_
            rw [show (2 : Int32) - 1 = 1 from rfl]
            refine lv_aload_n hx hb dX5_fitsUpTo_30 rfl (lv_at hl 3 rfl) ?_
            refine pcalli (va_runS (As := [.ref (G.2.2.1 5 r), .int 1, .ref (G.2.2.1 3 j)]) (rest := []) ⟨hx, hb, hml, hown, hts⟩ (c_fitsUpTo1 (l := l) (G := G) (tys := tys) (σ := σ) htys hru hdp (show r < pvM σ 5 by skip; exact hr0) (hjn)) (va_cwS 3 hts gX5_fitsUpTo_X5_fitsUpTo rfl rfl rfl (by decide +kernel) ⟨Nat.le_of_ble_eq_true rfl, Nat.le_of_ble_eq_true rfl⟩) (pv_preS hA hS hw hK [.ref (G.2.2.1 5 r), .int 1, .ref (G.2.2.1 3 j)]) rfl rfl hl.1 rfl (lv_room (Nat.le_of_ble_eq_true rfl)) dX5_fitsUpTo_31 ⟨Nat.zero_le _, Nat.zero_le _⟩) hS (fun r5 σ5 H locs hp5 hw hS => ?_)
            obtain ⟨er5, eσ5⟩ := hp5
            obtain rfl := eσ5.symm
            refine lv_if_eq (tgt := 39) hx hb dX5_fitsUpTo_34 (by decide) (fun c_34_6 => ?_) (fun c_34_6 => ?_)
            · skip
              have c_34_6 : ¬ (fuB σ dp r 1 j = true) := pv_z er5 c_34_6
              refine lv_aload_n hx hb dX5_fitsUpTo_39 rfl (lv_at hl 0 rfl) ?_
              refine pgL (C := RX5) (T := TX5) (N := 10) hx hb hts hown hK hw 5 6 r (show r < pvM σ 5 by skip; exact hr0) (by decide) rfl rfl (by decide +kernel) (by decide) (v := .ref (G.2.2.1 41 r)) rfl (hts (.fieldLink RX5 21 "PinnaceView$Rule" "areClose" "[Z") (by decide +kernel)) (fun _ h9 => h9) dX5_fitsUpTo_40 ?_
              refine lv_iload_n hx hb dX5_fitsUpTo_43 rfl (lv_at hl 1 rfl) ?_
              refine pgZn hx hb hK htys hw r (show r < pvM σ 41 by skip; exact hr0) 2 (show 2 < 3 by omega) dX5_fitsUpTo_44 ?_
              refine lv_if_eq (tgt := 50) hx hb dX5_fitsUpTo_45 (by decide) (fun c_45_7 => ?_) (fun c_45_7 => ?_)
              · skip
                refine lv_aload_n hx hb dX5_fitsUpTo_50 rfl (lv_at hl 3 rfl) ?_
                refine pgR (C := RX3) (T := TX3) (N := 14) hx hb hts hown hK hw 3 8 j (hjn) (by decide) rfl rfl (by decide +kernel) (by decide) rfl (hts (.fieldLink RX5 58 "PinnaceView$Node" "parent" "LPinnaceView$Node;") (by decide +kernel)) (fun _ h9 => h9) dX5_fitsUpTo_51 (fun q51_8 => ?_) (fun jq51_8 q51_8 => ?_)
                · skip
                  refine lv_astore_nN (lv' := [(3, .null), (0, .ref (G.2.2.1 5 r)), (1, .int 2), (2, .ref (G.2.2.1 3 u))]) hx hb dX5_fitsUpTo_54 rfl hl (by decide) rfl (fun ls hl => ?_)
                  refine lv_goto (tgt := 22) hx hb dX5_fitsUpTo_55 (by decide) ?_
                  exact ih (dp j) none (by omega) (by intro z; first | (cases z; done) | (rw [hj2, fuL_s, (hdp j hjn).1 q51_8]; simp [fuL, c_6_2, q18_4, c_34_6, c_45_7, q51_8])) (by intro j0 hj0; first | (cases hj0; done) | (cases hj0; have h9 := (hdp j hjn).2 _ q51_8; refine ⟨h9.1, h9.2, ?_⟩; rw [hj2, fuL_s, h9.2, q51_8]; simp [c_6_2, q18_4, c_34_6, c_45_7, q51_8])) _ _ hw hS ls (lv_sub hl [1, 2, 3, 0] rfl)
                · skip
                  refine lv_astore_n (lv' := [(3, .ref (G.2.2.1 3 jq51_8)), (0, .ref (G.2.2.1 5 r)), (1, .int 2), (2, .ref (G.2.2.1 3 u))]) hx hb dX5_fitsUpTo_54 rfl hl (by decide) rfl (fun ls hl => ?_)
                  refine lv_goto (tgt := 22) hx hb dX5_fitsUpTo_55 (by decide) ?_
                  exact ih (dp j) (some jq51_8) (by omega) (by intro z; first | (cases z; done) | (rw [hj2, fuL_s, (hdp j hjn).1 q51_8]; simp [fuL, c_6_2, q18_4, c_34_6, c_45_7, q51_8])) (by intro j0 hj0; first | (cases hj0; done) | (cases hj0; have h9 := (hdp j hjn).2 _ q51_8; refine ⟨h9.1, h9.2, ?_⟩; rw [hj2, fuL_s, h9.2, q51_8]; simp [c_6_2, q18_4, c_34_6, c_45_7, q51_8])) _ _ hw hS ls (lv_sub hl [1, 2, 3, 0] rfl)
              · skip
                refine lv_iconst (v := 0) hx hb dX5_fitsUpTo_48 (by decide) ?_
                exact pez hx hb hr hlocks hA hw hK hS (by decide) (by refine ⟨?_, rfl⟩; rw [fuB_2]; first | (rw [hk0 rfl, Bool.and_false]; rfl) | (rw [hj2, fuL_s]; simp [c_6_2, q18_4, c_34_6, c_45_7]; done) | (rw [if_neg]; simp [c_6_2, q18_4, c_34_6, c_45_7]; done) | (rw [if_pos]; simp [c_6_2, q18_4, c_34_6, c_45_7]; done)) dX5_fitsUpTo_49
            · skip
              have c_34_6 : (fuB σ dp r 1 j = true) := pv_nz er5 c_34_6
              refine lv_iconst (v := 1) hx hb dX5_fitsUpTo_37 (by decide) ?_
              exact pez hx hb hr hlocks hA hw hK hS (by decide) (by refine ⟨?_, rfl⟩; rw [fuB_2]; first | (rw [hk0 rfl, Bool.and_false]; rfl) | (rw [hj2, fuL_s]; simp [c_6_2, q18_4, c_34_6]; done) | (rw [if_neg]; simp [c_6_2, q18_4, c_34_6]; done) | (rw [if_pos]; simp [c_6_2, q18_4, c_34_6]; done)) dX5_fitsUpTo_38
      exact loop22 (dp u + 1) (dp u) none (by omega) (by intro z; first | (cases z; done) | (rw [(hdp u hu0).1 q18_4]; rfl)) (by intro j0 hj0; first | (cases hj0; done) | (cases hj0; have h9 := (hdp u hu0).2 _ q18_4; exact ⟨h9.1, h9.2, by rw [h9.2, q18_4]⟩)) _ _ hw hS ls (lv_sub hl [1, 2, 3, 0] rfl)
    · skip
      refine lv_astore_n (lv' := [(3, .ref (G.2.2.1 3 jq18_4)), (0, .ref (G.2.2.1 5 r)), (1, .int 2), (2, .ref (G.2.2.1 3 u))]) hx hb dX5_fitsUpTo_21 rfl hl (by decide) rfl (fun ls hl => ?_)
      have loop22 : ∀ (n : Nat) (t : Nat) (q : Option Nat), t < n → (q = none → fuL σ (fuB σ dp r 1) (decide (¬ σ.2.2.2.1 41 r 2 = 0)) (dp u) (σ.2.2.1 3 8 u) = false) → (∀ j, q = some j → j < σ.1.1 ∧ t = dp j + 1 ∧ fuL σ (fuB σ dp r 1) (decide (¬ σ.2.2.2.1 41 r 2 = 0)) (dp u) (σ.2.2.1 3 8 u) = fuL σ (fuB σ dp r 1) (decide (¬ σ.2.2.2.1 41 r 2 = 0)) (dp j + 1) (some j)) → ∀ (H : Heap) (locs : List Loc), pvW G σ H → va_S (pvB G) s.heap H locs → ∀ (ls : Array Slot), lv_has ls 4 [(0, .ref (G.2.2.1 5 r)), (1, .int 2), (2, .ref (G.2.2.1 3 u)), (3, va_rf ((q).map (G.2.2.1 3)))] → W p l e (headSpec wsX5_fitsUpTo ({ frames := 3, cells := 0, slots := 0, locals := 71 } : Room)).room s m ([.ref (G.2.2.1 5 r), .int 2, .ref (G.2.2.1 3 u)] : List Value).toArray below meth c H locs 0 0 (MQ below (va_Qi (fun z σ' => z = (if fuB σ dp r 2 u = true then 1 else 0) ∧ σ' = σ) (pvU G tys) (pvB G)) ([.ref (G.2.2.1 5 r), .int 2, .ref (G.2.2.1 3 u)] : List Value).toArray s 0 0 (pvB G)) (F0 m 22 ls []) := by
        intro n
        induction n with
        | zero => intros; omega
        | succ n ih =>
          intro t q hm hk0 hk1 H locs hw hS ls hl
          rcases q with _ | j
          · skip
            have hl : lv_has ls 4 [(0, .ref (G.2.2.1 5 r)), (1, .int 2), (2, .ref (G.2.2.1 3 u)), (3, .null)] := hl
            refine lv_aload_nN hx hb dX5_fitsUpTo_22 rfl (lv_at hl 3 rfl) ?_
            refine lv_ifnullN (tgt := 58) hx hb dX5_fitsUpTo_23 (by decide) ?_
            refine lv_iconst (v := 0) hx hb dX5_fitsUpTo_58 (by decide) ?_
            exact pez hx hb hr hlocks hA hw hK hS (by decide) (by refine ⟨?_, rfl⟩; rw [fuB_2]; first | (rw [hk0 rfl, Bool.and_false]; rfl) | (rw [hj2, fuL_s]; simp [c_6_2, q18_4]; done) | (rw [if_neg]; simp [c_6_2, q18_4]; done) | (rw [if_pos]; simp [c_6_2, q18_4]; done)) dX5_fitsUpTo_59
          · skip
            have hl : lv_has ls 4 [(0, .ref (G.2.2.1 5 r)), (1, .int 2), (2, .ref (G.2.2.1 3 u)), (3, .ref (G.2.2.1 3 j))] := hl
            have hjn := (hk1 j rfl).1
            have hj1 := (hk1 j rfl).2.1
            have hj2 := (hk1 j rfl).2.2
            refine lv_aload_n hx hb dX5_fitsUpTo_22 rfl (lv_at hl 3 rfl) ?_
            refine lv_ifnull hx hb dX5_fitsUpTo_23 ?_
            refine lv_aload_n hx hb dX5_fitsUpTo_26 rfl (lv_at hl 0 rfl) ?_
            refine lv_iload_n hx hb dX5_fitsUpTo_27 rfl (lv_at hl 1 rfl) ?_
            refine lv_iconst (v := 1) hx hb dX5_fitsUpTo_28 (by decide) ?_
            refine lv_isub hx hb dX5_fitsUpTo_29 ?_
            rw [show (2 : Int32) - 1 = 1 from rfl]
            refine lv_aload_n hx hb dX5_fitsUpTo_30 rfl (lv_at hl 3 rfl) ?_
            refine pcalli (va_runS (As := [.ref (G.2.2.1 5 r), .int 1, .ref (G.2.2.1 3 j)]) (rest := []) ⟨hx, hb, hml, hown, hts⟩ (c_fitsUpTo1 (l := l) (G := G) (tys := tys) (σ := σ) htys hru hdp (show r < pvM σ 5 by skip; exact hr0) (hjn)) (va_cwS 3 hts gX5_fitsUpTo_X5_fitsUpTo rfl rfl rfl (by decide +kernel) ⟨Nat.le_of_ble_eq_true rfl, Nat.le_of_ble_eq_true rfl⟩) (pv_preS hA hS hw hK [.ref (G.2.2.1 5 r), .int 1, .ref (G.2.2.1 3 j)]) rfl rfl hl.1 rfl (lv_room (Nat.le_of_ble_eq_true rfl)) dX5_fitsUpTo_31 ⟨Nat.zero_le _, Nat.zero_le _⟩) hS (fun r9 σ9 H locs hp9 hw hS => ?_)
            obtain ⟨er9, eσ9⟩ := hp9
            obtain rfl := eσ9.symm
            refine lv_if_eq (tgt := 39) hx hb dX5_fitsUpTo_34 (by decide) (fun c_34_10 => ?_) (fun c_34_10 => ?_)
            · skip
              have c_34_10 : ¬ (fuB σ dp r 1 j = true) := pv_z er9 c_34_10
              refine lv_aload_n hx hb dX5_fitsUpTo_39 rfl (lv_at hl 0 rfl) ?_
              refine pgL (C := RX5) (T := TX5) (N := 10) hx hb hts hown hK hw 5 6 r (show r < pvM σ 5 by skip; exact hr0) (by decide) rfl rfl (by decide +kernel) (by decide) (v := .ref (G.2.2.1 41 r)) rfl (hts (.fieldLink RX5 21 "PinnaceView$Rule" "areClose" "[Z") (by decide +kernel)) (fun _ h9 => h9) dX5_fitsUpTo_40 ?_
              refine lv_iload_n hx hb dX5_fitsUpTo_43 rfl (lv_at hl 1 rfl) ?_
              refine pgZn hx hb hK htys hw r (show r < pvM σ 41 by skip; exact hr0) 2 (show 2 < 3 by omega) dX5_fitsUpTo_44 ?_
              refine lv_if_eq (tgt := 50) hx hb dX5_fitsUpTo_45 (by decide) (fun c_45_11 => ?_) (fun c_45_11 => ?_)
              · skip
                refine lv_aload_n hx hb dX5_fitsUpTo_50 rfl (lv_at hl 3 rfl) ?_
                refine pgR (C := RX3) (T := TX3) (N := 14) hx hb hts hown hK hw 3 8 j (hjn) (by decide) rfl rfl (by decide +kernel) (by decide) rfl (hts (.fieldLink RX5 58 "PinnaceView$Node" "parent" "LPinnaceView$Node;") (by decide +kernel)) (fun _ h9 => h9) dX5_fitsUpTo_51 (fun q51_12 => ?_) (fun jq51_12 q51_12 => ?_)
                · skip
                  refine lv_astore_nN (lv' := [(3, .null), (0, .ref (G.2.2.1 5 r)), (1, .int 2), (2, .ref (G.2.2.1 3 u))]) hx hb dX5_fitsUpTo_54 rfl hl (by decide) rfl (fun ls hl => ?_)
                  refine lv_goto (tgt := 22) hx hb dX5_fitsUpTo_55 (by decide) ?_
                  exact ih (dp j) none (by omega) (by intro z; first | (cases z; done) | (rw [hj2, fuL_s, (hdp j hjn).1 q51_12]; simp [fuL, c_6_2, q18_4, c_34_10, c_45_11, q51_12])) (by intro j0 hj0; first | (cases hj0; done) | (cases hj0; have h9 := (hdp j hjn).2 _ q51_12; refine ⟨h9.1, h9.2, ?_⟩; rw [hj2, fuL_s, h9.2, q51_12]; simp [c_6_2, q18_4, c_34_10, c_45_11, q51_12])) _ _ hw hS ls (lv_sub hl [1, 2, 3, 0] rfl)
                · skip
                  refine lv_astore_n (lv' := [(3, .ref (G.2.2.1 3 jq51_12)), (0, .ref (G.2.2.1 5 r)), (1, .int 2), (2, .ref (G.2.2.1 3 u))]) hx hb dX5_fitsUpTo_54 rfl hl (by decide) rfl (fun ls hl => ?_)
                  refine lv_goto (tgt := 22) hx hb dX5_fitsUpTo_55 (by decide) ?_
                  exact ih (dp j) (some jq51_12) (by omega) (by intro z; first | (cases z; done) | (rw [hj2, fuL_s, (hdp j hjn).1 q51_12]; simp [fuL, c_6_2, q18_4, c_34_10, c_45_11, q51_12])) (by intro j0 hj0; first | (cases hj0; done) | (cases hj0; have h9 := (hdp j hjn).2 _ q51_12; refine ⟨h9.1, h9.2, ?_⟩; rw [hj2, fuL_s, h9.2, q51_12]; simp [c_6_2, q18_4, c_34_10, c_45_11, q51_12])) _ _ hw hS ls (lv_sub hl [1, 2, 3, 0] rfl)
              · skip
                refine lv_iconst (v := 0) hx hb dX5_fitsUpTo_48 (by decide) ?_
                exact pez hx hb hr hlocks hA hw hK hS (by decide) (by refine ⟨?_, rfl⟩; rw [fuB_2]; first | (rw [hk0 rfl, Bool.and_false]; rfl) | (rw [hj2, fuL_s]; simp [c_6_2, q18_4, c_34_10, c_45_11]; done) | (rw [if_neg]; simp [c_6_2, q18_4, c_34_10, c_45_11]; done) | (rw [if_pos]; simp [c_6_2, q18_4, c_34_10, c_45_11]; done)) dX5_fitsUpTo_49
            · skip
              have c_34_10 : (fuB σ dp r 1 j = true) := pv_nz er9 c_34_10
              refine lv_iconst (v := 1) hx hb dX5_fitsUpTo_37 (by decide) ?_
              exact pez hx hb hr hlocks hA hw hK hS (by decide) (by refine ⟨?_, rfl⟩; rw [fuB_2]; first | (rw [hk0 rfl, Bool.and_false]; rfl) | (rw [hj2, fuL_s]; simp [c_6_2, q18_4, c_34_10]; done) | (rw [if_neg]; simp [c_6_2, q18_4, c_34_10]; done) | (rw [if_pos]; simp [c_6_2, q18_4, c_34_10]; done)) dX5_fitsUpTo_38
      exact loop22 (dp u + 1) (dp u) (some jq18_4) (by omega) (by intro z; first | (cases z; done) | (rw [(hdp u hu0).1 q18_4]; rfl)) (by intro j0 hj0; first | (cases hj0; done) | (cases hj0; have h9 := (hdp u hu0).2 _ q18_4; exact ⟨h9.1, h9.2, by rw [h9.2, q18_4]⟩)) _ _ hw hS ls (lv_sub hl [1, 2, 3, 0] rfl)
  · skip
    have c_6_2 : ¬ (fitsB σ r 2 u = true) := pv_z er1 c_6_2
    refine lv_iconst (v := 0) hx hb dX5_fitsUpTo_9 (by decide) ?_
    exact pez hx hb hr hlocks hA hw hK hS (by decide) (by refine ⟨?_, rfl⟩; rw [fuB_2]; first | (rw [hk0 rfl, Bool.and_false]; rfl) | (rw [hj2, fuL_s]; simp [c_6_2]; done) | (rw [if_neg]; simp [c_6_2]; done) | (rw [if_pos]; simp [c_6_2]; done)) dX5_fitsUpTo_10
