set_option maxHeartbeats 4000000 in
set_option maxRecDepth 100000 in
theorem c_isBox {l : Launch} {G : PvG} {tys : List (ClassId × FieldType)} {σ : PvS} {i : Nat} (hi : i < pvM σ 2) : Met l yX2_isBox wsX2_isBox ({ frames := 0, cells := 0, slots := 0, locals := 0 }) (va_Pc [.ref (G.2.2.1 2 i)] (pvU G tys σ)) (va_Qi (fun r σ' => r = (if σ.2.1 2 0 i = 3 ∨ σ.2.1 2 0 i = 4 then 1 else 0) ∧ σ' = σ) (pvU G tys) (pvB G)) 0 0 (pvB G) := by
  refine Met.ofW (cc := cX2_isBox) (maxL := 1) (ret := (some .boolean)) (by decide) rfl ?_
  intro p e s m args below meth c s₁ B hml hv
  obtain ⟨rfl, hw, hK⟩ := hv
  have hx := B.exec
  have hb := B.bytes
  have hr := B.returns
  have hts := atoms_spec (ws := wsX2_isBox) B.pre
  have hown : s.vm.findClass RX2 = some m.cls := findClass_of_methodNamed B.named
  have hlocks := B.notSynchronized
  have hS : va_S (pvB G) s.heap s.heap [] := va_S.rf
  have hl := lv_entry ([.ref (G.2.2.1 2 i)]) (n := 1) (Nat.le_of_ble_eq_true rfl)
  rw [lg_entry_eq]
  generalize (lg_sl ([.ref (G.2.2.1 2 i)]) ++ List.replicate (1 - (lg_sl ([.ref (G.2.2.1 2 i)])).length) Slot.unset).toArray = ls at hl ⊢
  have hl : lv_has ls 1 [(0, .ref (G.2.2.1 2 i))] := hl
  refine lv_aload_n hx hb dX2_isBox_0 rfl (lv_at hl 0 rfl) ?_
  refine pgI (C := RX2) (T := TX2) (N := 16) hx hb hts hown hK hw 2 0 i hi (by decide) rfl rfl (by decide +kernel) (by decide) rfl (hts (.fieldLink RX2 9 "PinnaceView$Layout" "sort" "I") (by decide +kernel)) (fun _ h9 => h9) dX2_isBox_1 ?_
  refine lv_iconst (v := 3) hx hb dX2_isBox_4 (by decide) ?_
  refine lv_icmp_eq (tgt := 16) hx hb dX2_isBox_5 (by decide) (fun c_5 => ?_) (fun c_5 => ?_)
  · refine lv_iconst (v := 1) hx hb dX2_isBox_16 (by decide) ?_
    refine lv_goto (tgt := 21) hx hb dX2_isBox_17 (by decide) ?_
    exact pez hx hb hr hlocks hw hK hS (by decide) (by simp [*]) dX2_isBox_21
  · refine lv_aload_n hx hb dX2_isBox_8 rfl (lv_at hl 0 rfl) ?_
    refine pgI (C := RX2) (T := TX2) (N := 16) hx hb hts hown hK hw 2 0 i hi (by decide) rfl rfl (by decide +kernel) (by decide) rfl (hts (.fieldLink RX2 9 "PinnaceView$Layout" "sort" "I") (by decide +kernel)) (fun _ h9 => h9) dX2_isBox_9 ?_
    refine lv_iconst (v := 4) hx hb dX2_isBox_12 (by decide) ?_
    refine lv_icmp_ne (tgt := 20) hx hb dX2_isBox_13 (by decide) (fun c_13 => ?_) (fun c_13 => ?_)
    · refine lv_iconst (v := 0) hx hb dX2_isBox_20 (by decide) ?_
      exact pez hx hb hr hlocks hw hK hS (by decide) (by simp [*]) dX2_isBox_21
    · refine lv_iconst (v := 1) hx hb dX2_isBox_16 (by decide) ?_
      refine lv_goto (tgt := 21) hx hb dX2_isBox_17 (by decide) ?_
      exact pez hx hb hr hlocks hw hK hS (by decide) (by simp [*]) dX2_isBox_21
