/-! THE LAW'S CELL -/
def f_cell (xs : Nat → Int32) (n : Nat) (k : Int32) : Int32 := if k < nI n then xs k.toNatClampNeg else 790386105 * (k + 3)
theorem cell_in {k : Int32} {n : Nat} (hn : n < 2 ^ 31) (h0 : ¬ k < 0) (h : k < nI n) : vin k n := by
  have e := nI_clamp hn
  rw [Int32.lt_iff_toInt_lt] at h h0
  have h0 : ¬ k.toInt < 0 := h0
  have e : (nI n).toInt.toNat = n := e
  rintro (q | q)
  · rw [Int32.lt_iff_toInt_lt] at q; exact h0 q
  · have q : n ≤ k.toInt.toNat := q
    omega
set_option maxHeartbeats 4000000 in
set_option maxRecDepth 100000 in
theorem c_L_cell {l : Launch} {G : PvG} {tys : List (ClassId × FieldType)} (htys : tys = pvT G) {σ : PvS} {k : Int32} (hk : ¬ k < 0) (hn : G.2.2.2.1.1 5 < 2 ^ 31) : Met l yL_cell (Cond.code yL_cell cL_cell 2 (some .int) :: WA) ({ frames := 0, cells := 0, slots := 0, locals := 0 }) (va_Pc [.ref (G.2.2.2.1.1 4), .int k] (pvU G tys σ)) (va_Qi (fun r σ1 => r = f_cell G.2.2.2.1.2 (G.2.2.2.1.1 5) k ∧ σ1 = σ) (pvU G tys) (pvB G)) 0 0 (pvB G) := by
  refine Met.ofW (cc := cL_cell) (maxL := 2) (ret := (some .int)) (by decide) rfl ?_
  intro p e s m args below meth c s₁ B hml hv
  obtain ⟨rfl, hw, hK, hA⟩ := hv
  have hx := B.exec
  have hb := B.bytes
  have hr := B.returns
  have hts0 := atoms_spec (ws := (Cond.code yL_cell cL_cell 2 (some .int) :: WA)) B.pre
  have hts : ∀ w ∈ WA, w.before _ s = true := fun w h => hts0 w (List.mem_cons_of_mem _ h)
  have hown : s.vm.findClass RL = some m.cls := findClass_of_methodNamed B.named
  have hlocks := B.notSynchronized
  have hS : va_S (pvB G) s.heap s.heap [] := va_S.rf
  have hl := lv_entry ([.ref (G.2.2.2.1.1 4), .int k]) (n := 2) (Nat.le_of_ble_eq_true rfl)
  rw [lg_entry_eq]
  generalize (lg_sl ([.ref (G.2.2.2.1.1 4), .int k]) ++ List.replicate (2 - (lg_sl ([.ref (G.2.2.2.1.1 4), .int k])).length) Slot.unset).toArray = ls at hl ⊢
  have hl : lv_has ls 2 [(0, .ref (G.2.2.2.1.1 4)), (1, .int k)] := hl
  have hX := hA.2.1.2.2.2.2.1
  have hB := hA.2.1.2.2.2.2.2
  have hlt : G.2.2.2.1.1 4 < s.heap.size := by
    obtain ⟨scr, h1, -⟩ := hX
    exact (Array.getElem?_eq_some_iff.mp h1).1
  refine lv_iload_n hx hb dL_cell_0 rfl (lv_at hl 1 rfl) ?_
  refine lv_aload_n hx hb dL_cell_1 rfl (lv_at hl 0 rfl) ?_
  refine va_slen hx hb hX hlt hB hS dL_cell_2 ?_
  refine lv_icmp_ge (tgt := 12) hx hb dL_cell_3 (by decide) (fun c1 => ?_) (fun c1 => ?_)
  · refine lv_ldc (v := 790386105) hx hb hown (hts _ wm218) dL_cell_12 ?_
    refine lv_iload_n hx hb dL_cell_14 rfl (lv_at hl 1 rfl) ?_
    refine lv_iconst (v := 3) hx hb dL_cell_15 (by decide) ?_
    refine lv_iadd hx hb dL_cell_16 ?_
    refine lv_imul hx hb dL_cell_17 ?_
    exact pei hx hb hr hlocks hA hw hK hS ⟨(if_neg (Int32.not_lt.mpr c1)).symm, rfl⟩ dL_cell_18
  · have c2 : k < nI (G.2.2.2.1.1 5) := Int32.not_le.mp c1
    refine lv_aload_n hx hb dL_cell_6 rfl (lv_at hl 0 rfl) ?_
    refine lv_iload_n hx hb dL_cell_7 rfl (lv_at hl 1 rfl) ?_
    refine va_sld hx hb hX hlt hB hS (cell_in hn hk c2) dL_cell_8 ?_
    refine lv_goto (tgt := 18) hx hb dL_cell_9 (by decide) ?_
    exact pei hx hb hr hlocks hA hw hK hS ⟨(if_pos c2).symm, rfl⟩ dL_cell_18
