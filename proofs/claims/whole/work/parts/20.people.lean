set_option maxHeartbeats 4000000 in
set_option maxRecDepth 100000 in
/-- Integer.bitCount, as it computes -/
theorem c_J6_bitCount_0f7a4 (l : Launch) (D : va_G) (cI cO : ClassId) (x : Int32) : Met l yJ6_bitCount_0f7a4 wsJ6_bitCount_0f7a4 ({ frames := 0, cells := 0, slots := 0, locals := 0 } : Room) (va_Pc [.int x] (wdR D cI cO [])) (vp_Si (fun r => r = bcE x)) 0 0 (fun _ => False) := by
  refine Met.ofW (cc := cJ6_bitCount_0f7a4) (maxL := 1) (ret := (some .int)) (by decide) rfl ?_
  intro p e s m args below meth c s₁ B hml hv
  obtain ⟨rfl, hP, hK, hNw⟩ := hv
  have hx := B.exec
  have hb := B.bytes
  have hr := B.returns
  have hts := atoms_spec (ws := wsJ6_bitCount_0f7a4) B.pre
  have hown : s.vm.findClass RJ6 = some m.cls := findClass_of_methodNamed B.named
  have hlocks := B.notSynchronized
  have hP : va_P D vwCl [] s.heap := hP
  have hl := lv_entry ([.int x]) (n := 1) (Nat.le_of_ble_eq_true rfl)
  rw [lg_entry_eq]
  generalize (lg_sl ([.int x]) ++ List.replicate (1 - (lg_sl ([.int x])).length) Slot.unset).toArray = ls at hl ⊢
  have hl : lv_has ls 1 [(0, .int x)] := hl
  refine lv_iload_n hx hb dJ6_bitCount_0f7a4_0 rfl (lv_at hl 0 rfl) ?_
  refine lv_iload_n hx hb dJ6_bitCount_0f7a4_1 rfl (lv_at hl 0 rfl) ?_
  refine lv_iconst (v := 1) hx hb dJ6_bitCount_0f7a4_2 (by decide) ?_
  refine lv_iushr hx hb dJ6_bitCount_0f7a4_3 rfl ?_
  refine lv_ldcw hx hb hown (hts (.constant RJ6 265 (1431655765)) (by decide +kernel)) dJ6_bitCount_0f7a4_4 ?_
  refine lv_iand hx hb dJ6_bitCount_0f7a4_7 ?_
  refine lv_isub hx hb dJ6_bitCount_0f7a4_8 ?_
  refine lv_istore_n (lv' := [(0, .int (x - (((x.toUInt32 >>> ((1 : Int32).toUInt32 &&& Int32.toUInt32 31)).toInt32) &&& (1431655765))))]) hx hb dJ6_bitCount_0f7a4_9 rfl hl (by decide) rfl (fun ls hl => ?_)
  refine lv_iload_n hx hb dJ6_bitCount_0f7a4_10 rfl (lv_at hl 0 rfl) ?_
  refine lv_ldcw hx hb hown (hts (.constant RJ6 266 (858993459)) (by decide +kernel)) dJ6_bitCount_0f7a4_11 ?_
  refine lv_iand hx hb dJ6_bitCount_0f7a4_14 ?_
  refine lv_iload_n hx hb dJ6_bitCount_0f7a4_15 rfl (lv_at hl 0 rfl) ?_
  refine lv_iconst (v := 2) hx hb dJ6_bitCount_0f7a4_16 (by decide) ?_
  refine lv_iushr hx hb dJ6_bitCount_0f7a4_17 rfl ?_
  refine lv_ldcw hx hb hown (hts (.constant RJ6 266 (858993459)) (by decide +kernel)) dJ6_bitCount_0f7a4_18 ?_
  refine lv_iand hx hb dJ6_bitCount_0f7a4_21 ?_
  refine lv_iadd hx hb dJ6_bitCount_0f7a4_22 ?_
  refine lv_istore_n (lv' := [(0, .int (((x - (((x.toUInt32 >>> ((1 : Int32).toUInt32 &&& Int32.toUInt32 31)).toInt32) &&& (1431655765))) &&& (858993459)) + ((((x - (((x.toUInt32 >>> ((1 : Int32).toUInt32 &&& Int32.toUInt32 31)).toInt32) &&& (1431655765))).toUInt32 >>> ((2 : Int32).toUInt32 &&& Int32.toUInt32 31)).toInt32) &&& (858993459))))]) hx hb dJ6_bitCount_0f7a4_23 rfl hl (by decide) rfl (fun ls hl => ?_)
  refine lv_iload_n hx hb dJ6_bitCount_0f7a4_24 rfl (lv_at hl 0 rfl) ?_
  refine lv_iload_n hx hb dJ6_bitCount_0f7a4_25 rfl (lv_at hl 0 rfl) ?_
  refine lv_iconst (v := 4) hx hb dJ6_bitCount_0f7a4_26 (by decide) ?_
  refine lv_iushr hx hb dJ6_bitCount_0f7a4_27 rfl ?_
  refine lv_iadd hx hb dJ6_bitCount_0f7a4_28 ?_
  refine lv_ldcw hx hb hown (hts (.constant RJ6 267 (252645135)) (by decide +kernel)) dJ6_bitCount_0f7a4_29 ?_
  refine lv_iand hx hb dJ6_bitCount_0f7a4_32 ?_
  refine lv_istore_n (lv' := [(0, .int (((((x - (((x.toUInt32 >>> ((1 : Int32).toUInt32 &&& Int32.toUInt32 31)).toInt32) &&& (1431655765))) &&& (858993459)) + ((((x - (((x.toUInt32 >>> ((1 : Int32).toUInt32 &&& Int32.toUInt32 31)).toInt32) &&& (1431655765))).toUInt32 >>> ((2 : Int32).toUInt32 &&& Int32.toUInt32 31)).toInt32) &&& (858993459))) + (((((x - (((x.toUInt32 >>> ((1 : Int32).toUInt32 &&& Int32.toUInt32 31)).toInt32) &&& (1431655765))) &&& (858993459)) + ((((x - (((x.toUInt32 >>> ((1 : Int32).toUInt32 &&& Int32.toUInt32 31)).toInt32) &&& (1431655765))).toUInt32 >>> ((2 : Int32).toUInt32 &&& Int32.toUInt32 31)).toInt32) &&& (858993459))).toUInt32 >>> ((4 : Int32).toUInt32 &&& Int32.toUInt32 31)).toInt32)) &&& (252645135)))]) hx hb dJ6_bitCount_0f7a4_33 rfl hl (by decide) rfl (fun ls hl => ?_)
  refine lv_iload_n hx hb dJ6_bitCount_0f7a4_34 rfl (lv_at hl 0 rfl) ?_
  refine lv_iload_n hx hb dJ6_bitCount_0f7a4_35 rfl (lv_at hl 0 rfl) ?_
  refine lv_bipush (v := 8) hx hb dJ6_bitCount_0f7a4_36 (by decide) ?_
  refine lv_iushr hx hb dJ6_bitCount_0f7a4_38 rfl ?_
  refine lv_iadd hx hb dJ6_bitCount_0f7a4_39 ?_
  refine lv_istore_n (lv' := [(0, .int ((((((x - (((x.toUInt32 >>> ((1 : Int32).toUInt32 &&& Int32.toUInt32 31)).toInt32) &&& (1431655765))) &&& (858993459)) + ((((x - (((x.toUInt32 >>> ((1 : Int32).toUInt32 &&& Int32.toUInt32 31)).toInt32) &&& (1431655765))).toUInt32 >>> ((2 : Int32).toUInt32 &&& Int32.toUInt32 31)).toInt32) &&& (858993459))) + (((((x - (((x.toUInt32 >>> ((1 : Int32).toUInt32 &&& Int32.toUInt32 31)).toInt32) &&& (1431655765))) &&& (858993459)) + ((((x - (((x.toUInt32 >>> ((1 : Int32).toUInt32 &&& Int32.toUInt32 31)).toInt32) &&& (1431655765))).toUInt32 >>> ((2 : Int32).toUInt32 &&& Int32.toUInt32 31)).toInt32) &&& (858993459))).toUInt32 >>> ((4 : Int32).toUInt32 &&& Int32.toUInt32 31)).toInt32)) &&& (252645135)) + (((((((x - (((x.toUInt32 >>> ((1 : Int32).toUInt32 &&& Int32.toUInt32 31)).toInt32) &&& (1431655765))) &&& (858993459)) + ((((x - (((x.toUInt32 >>> ((1 : Int32).toUInt32 &&& Int32.toUInt32 31)).toInt32) &&& (1431655765))).toUInt32 >>> ((2 : Int32).toUInt32 &&& Int32.toUInt32 31)).toInt32) &&& (858993459))) + (((((x - (((x.toUInt32 >>> ((1 : Int32).toUInt32 &&& Int32.toUInt32 31)).toInt32) &&& (1431655765))) &&& (858993459)) + ((((x - (((x.toUInt32 >>> ((1 : Int32).toUInt32 &&& Int32.toUInt32 31)).toInt32) &&& (1431655765))).toUInt32 >>> ((2 : Int32).toUInt32 &&& Int32.toUInt32 31)).toInt32) &&& (858993459))).toUInt32 >>> ((4 : Int32).toUInt32 &&& Int32.toUInt32 31)).toInt32)) &&& (252645135)).toUInt32 >>> ((8 : Int32).toUInt32 &&& Int32.toUInt32 31)).toInt32)))]) hx hb dJ6_bitCount_0f7a4_40 rfl hl (by decide) rfl (fun ls hl => ?_)
  refine lv_iload_n hx hb dJ6_bitCount_0f7a4_41 rfl (lv_at hl 0 rfl) ?_
  refine lv_iload_n hx hb dJ6_bitCount_0f7a4_42 rfl (lv_at hl 0 rfl) ?_
  refine lv_bipush (v := 16) hx hb dJ6_bitCount_0f7a4_43 (by decide) ?_
  refine lv_iushr hx hb dJ6_bitCount_0f7a4_45 rfl ?_
  refine lv_iadd hx hb dJ6_bitCount_0f7a4_46 ?_
  refine lv_istore_n (lv' := [(0, .int (((((((x - (((x.toUInt32 >>> ((1 : Int32).toUInt32 &&& Int32.toUInt32 31)).toInt32) &&& (1431655765))) &&& (858993459)) + ((((x - (((x.toUInt32 >>> ((1 : Int32).toUInt32 &&& Int32.toUInt32 31)).toInt32) &&& (1431655765))).toUInt32 >>> ((2 : Int32).toUInt32 &&& Int32.toUInt32 31)).toInt32) &&& (858993459))) + (((((x - (((x.toUInt32 >>> ((1 : Int32).toUInt32 &&& Int32.toUInt32 31)).toInt32) &&& (1431655765))) &&& (858993459)) + ((((x - (((x.toUInt32 >>> ((1 : Int32).toUInt32 &&& Int32.toUInt32 31)).toInt32) &&& (1431655765))).toUInt32 >>> ((2 : Int32).toUInt32 &&& Int32.toUInt32 31)).toInt32) &&& (858993459))).toUInt32 >>> ((4 : Int32).toUInt32 &&& Int32.toUInt32 31)).toInt32)) &&& (252645135)) + (((((((x - (((x.toUInt32 >>> ((1 : Int32).toUInt32 &&& Int32.toUInt32 31)).toInt32) &&& (1431655765))) &&& (858993459)) + ((((x - (((x.toUInt32 >>> ((1 : Int32).toUInt32 &&& Int32.toUInt32 31)).toInt32) &&& (1431655765))).toUInt32 >>> ((2 : Int32).toUInt32 &&& Int32.toUInt32 31)).toInt32) &&& (858993459))) + (((((x - (((x.toUInt32 >>> ((1 : Int32).toUInt32 &&& Int32.toUInt32 31)).toInt32) &&& (1431655765))) &&& (858993459)) + ((((x - (((x.toUInt32 >>> ((1 : Int32).toUInt32 &&& Int32.toUInt32 31)).toInt32) &&& (1431655765))).toUInt32 >>> ((2 : Int32).toUInt32 &&& Int32.toUInt32 31)).toInt32) &&& (858993459))).toUInt32 >>> ((4 : Int32).toUInt32 &&& Int32.toUInt32 31)).toInt32)) &&& (252645135)).toUInt32 >>> ((8 : Int32).toUInt32 &&& Int32.toUInt32 31)).toInt32)) + ((((((((x - (((x.toUInt32 >>> ((1 : Int32).toUInt32 &&& Int32.toUInt32 31)).toInt32) &&& (1431655765))) &&& (858993459)) + ((((x - (((x.toUInt32 >>> ((1 : Int32).toUInt32 &&& Int32.toUInt32 31)).toInt32) &&& (1431655765))).toUInt32 >>> ((2 : Int32).toUInt32 &&& Int32.toUInt32 31)).toInt32) &&& (858993459))) + (((((x - (((x.toUInt32 >>> ((1 : Int32).toUInt32 &&& Int32.toUInt32 31)).toInt32) &&& (1431655765))) &&& (858993459)) + ((((x - (((x.toUInt32 >>> ((1 : Int32).toUInt32 &&& Int32.toUInt32 31)).toInt32) &&& (1431655765))).toUInt32 >>> ((2 : Int32).toUInt32 &&& Int32.toUInt32 31)).toInt32) &&& (858993459))).toUInt32 >>> ((4 : Int32).toUInt32 &&& Int32.toUInt32 31)).toInt32)) &&& (252645135)) + (((((((x - (((x.toUInt32 >>> ((1 : Int32).toUInt32 &&& Int32.toUInt32 31)).toInt32) &&& (1431655765))) &&& (858993459)) + ((((x - (((x.toUInt32 >>> ((1 : Int32).toUInt32 &&& Int32.toUInt32 31)).toInt32) &&& (1431655765))).toUInt32 >>> ((2 : Int32).toUInt32 &&& Int32.toUInt32 31)).toInt32) &&& (858993459))) + (((((x - (((x.toUInt32 >>> ((1 : Int32).toUInt32 &&& Int32.toUInt32 31)).toInt32) &&& (1431655765))) &&& (858993459)) + ((((x - (((x.toUInt32 >>> ((1 : Int32).toUInt32 &&& Int32.toUInt32 31)).toInt32) &&& (1431655765))).toUInt32 >>> ((2 : Int32).toUInt32 &&& Int32.toUInt32 31)).toInt32) &&& (858993459))).toUInt32 >>> ((4 : Int32).toUInt32 &&& Int32.toUInt32 31)).toInt32)) &&& (252645135)).toUInt32 >>> ((8 : Int32).toUInt32 &&& Int32.toUInt32 31)).toInt32)).toUInt32 >>> ((16 : Int32).toUInt32 &&& Int32.toUInt32 31)).toInt32)))]) hx hb dJ6_bitCount_0f7a4_47 rfl hl (by decide) rfl (fun ls hl => ?_)
  refine lv_iload_n hx hb dJ6_bitCount_0f7a4_48 rfl (lv_at hl 0 rfl) ?_
  refine lv_bipush (v := 63) hx hb dJ6_bitCount_0f7a4_49 (by decide) ?_
  refine lv_iand hx hb dJ6_bitCount_0f7a4_51 ?_
  exact W.iret (v := (((((((x - (((x.toUInt32 >>> ((1 : Int32).toUInt32 &&& Int32.toUInt32 31)).toInt32) &&& (1431655765))) &&& (858993459)) + ((((x - (((x.toUInt32 >>> ((1 : Int32).toUInt32 &&& Int32.toUInt32 31)).toInt32) &&& (1431655765))).toUInt32 >>> ((2 : Int32).toUInt32 &&& Int32.toUInt32 31)).toInt32) &&& (858993459))) + (((((x - (((x.toUInt32 >>> ((1 : Int32).toUInt32 &&& Int32.toUInt32 31)).toInt32) &&& (1431655765))) &&& (858993459)) + ((((x - (((x.toUInt32 >>> ((1 : Int32).toUInt32 &&& Int32.toUInt32 31)).toInt32) &&& (1431655765))).toUInt32 >>> ((2 : Int32).toUInt32 &&& Int32.toUInt32 31)).toInt32) &&& (858993459))).toUInt32 >>> ((4 : Int32).toUInt32 &&& Int32.toUInt32 31)).toInt32)) &&& (252645135)) + (((((((x - (((x.toUInt32 >>> ((1 : Int32).toUInt32 &&& Int32.toUInt32 31)).toInt32) &&& (1431655765))) &&& (858993459)) + ((((x - (((x.toUInt32 >>> ((1 : Int32).toUInt32 &&& Int32.toUInt32 31)).toInt32) &&& (1431655765))).toUInt32 >>> ((2 : Int32).toUInt32 &&& Int32.toUInt32 31)).toInt32) &&& (858993459))) + (((((x - (((x.toUInt32 >>> ((1 : Int32).toUInt32 &&& Int32.toUInt32 31)).toInt32) &&& (1431655765))) &&& (858993459)) + ((((x - (((x.toUInt32 >>> ((1 : Int32).toUInt32 &&& Int32.toUInt32 31)).toInt32) &&& (1431655765))).toUInt32 >>> ((2 : Int32).toUInt32 &&& Int32.toUInt32 31)).toInt32) &&& (858993459))).toUInt32 >>> ((4 : Int32).toUInt32 &&& Int32.toUInt32 31)).toInt32)) &&& (252645135)).toUInt32 >>> ((8 : Int32).toUInt32 &&& Int32.toUInt32 31)).toInt32)) + ((((((((x - (((x.toUInt32 >>> ((1 : Int32).toUInt32 &&& Int32.toUInt32 31)).toInt32) &&& (1431655765))) &&& (858993459)) + ((((x - (((x.toUInt32 >>> ((1 : Int32).toUInt32 &&& Int32.toUInt32 31)).toInt32) &&& (1431655765))).toUInt32 >>> ((2 : Int32).toUInt32 &&& Int32.toUInt32 31)).toInt32) &&& (858993459))) + (((((x - (((x.toUInt32 >>> ((1 : Int32).toUInt32 &&& Int32.toUInt32 31)).toInt32) &&& (1431655765))) &&& (858993459)) + ((((x - (((x.toUInt32 >>> ((1 : Int32).toUInt32 &&& Int32.toUInt32 31)).toInt32) &&& (1431655765))).toUInt32 >>> ((2 : Int32).toUInt32 &&& Int32.toUInt32 31)).toInt32) &&& (858993459))).toUInt32 >>> ((4 : Int32).toUInt32 &&& Int32.toUInt32 31)).toInt32)) &&& (252645135)) + (((((((x - (((x.toUInt32 >>> ((1 : Int32).toUInt32 &&& Int32.toUInt32 31)).toInt32) &&& (1431655765))) &&& (858993459)) + ((((x - (((x.toUInt32 >>> ((1 : Int32).toUInt32 &&& Int32.toUInt32 31)).toInt32) &&& (1431655765))).toUInt32 >>> ((2 : Int32).toUInt32 &&& Int32.toUInt32 31)).toInt32) &&& (858993459))) + (((((x - (((x.toUInt32 >>> ((1 : Int32).toUInt32 &&& Int32.toUInt32 31)).toInt32) &&& (1431655765))) &&& (858993459)) + ((((x - (((x.toUInt32 >>> ((1 : Int32).toUInt32 &&& Int32.toUInt32 31)).toInt32) &&& (1431655765))).toUInt32 >>> ((2 : Int32).toUInt32 &&& Int32.toUInt32 31)).toInt32) &&& (858993459))).toUInt32 >>> ((4 : Int32).toUInt32 &&& Int32.toUInt32 31)).toInt32)) &&& (252645135)).toUInt32 >>> ((8 : Int32).toUInt32 &&& Int32.toUInt32 31)).toInt32)).toUInt32 >>> ((16 : Int32).toUInt32 &&& Int32.toUInt32 31)).toInt32)) &&& 63) hx hb hr (fun t ht hW => ⟨_, rfl, by rfl, ht⟩) (fun _ h => absurd h List.not_mem_nil) dJ6_bitCount_0f7a4_52

set_option maxHeartbeats 4000000 in
set_option maxRecDepth 100000 in
theorem c_J6_lowestOneBit_0f7a4 (l : Launch) (D : va_G) (cI cO : ClassId) (x : Int32) : Met l yJ6_lowestOneBit_0f7a4 wsJ6_lowestOneBit_0f7a4 ({ frames := 0, cells := 0, slots := 0, locals := 0 } : Room) (va_Pc [.int x] (wdR D cI cO [])) (vp_Si (fun r => r = x &&& -x)) 0 0 (fun _ => False) := by
  refine Met.ofW (cc := cJ6_lowestOneBit_0f7a4) (maxL := 1) (ret := (some .int)) (by decide) rfl ?_
  intro p e s m args below meth c s₁ B hml hv
  obtain ⟨rfl, hP, hK, hNw⟩ := hv
  have hx := B.exec
  have hb := B.bytes
  have hr := B.returns
  have hts := atoms_spec (ws := wsJ6_lowestOneBit_0f7a4) B.pre
  have hown : s.vm.findClass RJ6 = some m.cls := findClass_of_methodNamed B.named
  have hlocks := B.notSynchronized
  have hP : va_P D vwCl [] s.heap := hP
  have hl := lv_entry ([.int x]) (n := 1) (Nat.le_of_ble_eq_true rfl)
  rw [lg_entry_eq]
  generalize (lg_sl ([.int x]) ++ List.replicate (1 - (lg_sl ([.int x])).length) Slot.unset).toArray = ls at hl ⊢
  have hl : lv_has ls 1 [(0, .int x)] := hl
  refine lv_iload_n hx hb dJ6_lowestOneBit_0f7a4_0 rfl (lv_at hl 0 rfl) ?_
  refine lv_iload_n hx hb dJ6_lowestOneBit_0f7a4_1 rfl (lv_at hl 0 rfl) ?_
  refine lv_ineg hx hb dJ6_lowestOneBit_0f7a4_2 ?_
  refine lv_iand hx hb dJ6_lowestOneBit_0f7a4_3 ?_
  exact W.iret (v := x &&& (-x)) hx hb hr (fun t ht hW => ⟨_, rfl, by rfl, ht⟩) (fun _ h => absurd h List.not_mem_nil) dJ6_lowestOneBit_0f7a4_4

set_option maxHeartbeats 4000000 in
set_option maxRecDepth 100000 in
theorem c_X1_has (l : Launch) (D : va_G) (cI cO : ClassId) (h : Nat) (ka : Nat) (sa : Nat) (n : Nat) (pp : Int32) : Met l yX1_has wsX1_has ({ frames := 0, cells := 0, slots := 0, locals := 0 } : Room) (va_Pc [.ref h, .int pp] (wdR D cI cO [(h, .inr (1, [.ref ka, .ref sa, .int (nI n)]))])) (vp_Si (fun r => ((¬ pp < 0 ∧ ¬ nI n ≤ pp) → r = 1) ∧ (¬ (¬ pp < 0 ∧ ¬ nI n ≤ pp) → r = 0))) 0 0 (fun _ => False) := by
  refine Met.ofW (cc := cX1_has) (maxL := 2) (ret := (some .boolean)) (by decide) rfl ?_
  intro p e s m args below meth c s₁ B hml hv
  obtain ⟨rfl, hP, hK, hNw⟩ := hv
  have hx := B.exec
  have hb := B.bytes
  have hr := B.returns
  have hts := atoms_spec (ws := wsX1_has) B.pre
  have hown : s.vm.findClass RX1 = some m.cls := findClass_of_methodNamed B.named
  have hlocks := B.notSynchronized
  have f18 := hts (.fieldLink RX1 18 "StruckThrees$People" "count" "I") (by decide +kernel)
  have iX1 : ∀ w ∈ wsX10, w ∈ wsX1_has := by decide +kernel
  have hP : va_P D vwCl [(h, .inr (1, [.ref ka, .ref sa, .int (nI n)]))] s.heap := hP
  have hl := lv_entry ([.ref h, .int pp]) (n := 2) (Nat.le_of_ble_eq_true rfl)
  rw [lg_entry_eq]
  generalize (lg_sl ([.ref h, .int pp]) ++ List.replicate (2 - (lg_sl ([.ref h, .int pp])).length) Slot.unset).toArray = ls at hl ⊢
  have hl : lv_has ls 2 [(0, .ref h), (1, .int pp)] := hl
  refine lv_iload_n hx hb dX1_has_0 rfl (lv_at hl 1 rfl) ?_
  refine lv_if_lt (tgt := 16) hx hb dX1_has_1 (by decide) (fun c1 => ?_) (fun c1 => ?_)
  · -- t1
    refine lv_iconst (v := 0) hx hb dX1_has_16 (by decide) ?_
    exact W.zret (v := 0) (ty := .boolean) hx hb hr rfl (fun t ht hW => ⟨_, rfl, by exact ⟨fun h => by first | rfl | (exfalso; simp_all; done), fun h => by first | rfl | (exfalso; simp_all; done)⟩, ht⟩) (fun _ h => absurd h List.not_mem_nil) dX1_has_17
  · -- f1
    refine lv_iload_n hx hb dX1_has_4 rfl (lv_at hl 1 rfl) ?_
    refine lv_aload_n hx hb dX1_has_5 rfl (lv_at hl 0 rfl) ?_
    refine va_get (D := D) (ci := 1) (v := .int (nI n)) (C := RX1) (T := TX1) (N := 3) hx hb hts iX1 hown hK hP 0 rfl rfl 2 (by decide) f18 (fun _ h9 => h9) rfl dX1_has_6 ?_
    refine lv_icmp_ge (tgt := 16) hx hb dX1_has_9 (by decide) (fun c9 => ?_) (fun c9 => ?_)
    · -- t9
      refine lv_iconst (v := 0) hx hb dX1_has_16 (by decide) ?_
      exact W.zret (v := 0) (ty := .boolean) hx hb hr rfl (fun t ht hW => ⟨_, rfl, by exact ⟨fun h => by first | rfl | (exfalso; simp_all; done), fun h => by first | rfl | (exfalso; simp_all; done)⟩, ht⟩) (fun _ h => absurd h List.not_mem_nil) dX1_has_17
    · -- f9
      refine lv_iconst (v := 1) hx hb dX1_has_12 (by decide) ?_
      refine lv_goto (tgt := 17) hx hb dX1_has_13 (by decide) ?_
      exact W.zret (v := 1) (ty := .boolean) hx hb hr rfl (fun t ht hW => ⟨_, rfl, by exact ⟨fun h => by first | rfl | (exfalso; simp_all; done), fun h => by first | rfl | (exfalso; simp_all; done)⟩, ht⟩) (fun _ h => absurd h List.not_mem_nil) dX1_has_17

set_option maxHeartbeats 4000000 in
set_option maxRecDepth 100000 in
theorem c_X1_kindOf (l : Launch) (D : va_G) (cI cO : ClassId) (h : Nat) (ka : Nat) (sa : Nat) (n : Nat) (kd : Nat → Int32) (j : Nat) (hn : n ≤ 9) (hj : j < n) : Met l yX1_kindOf wsX1_kindOf ({ frames := 1, cells := 0, slots := 0, locals := 21 } : Room) (va_Pc [.ref h, .int (nI j)] (wdR D cI cO [(h, .inr (1, [.ref ka, .ref sa, .int (nI n)])), (ka, .inl (cI, 9, .inl kd))])) (vp_Si (fun r => r = kd j)) 0 0 (fun _ => False) := by
  refine Met.ofW (cc := cX1_kindOf) (maxL := 2) (ret := (some .int)) (by decide) rfl ?_
  intro p e s m args below meth c s₁ B hml hv
  obtain ⟨rfl, hP, hK, hNw⟩ := hv
  have hx := B.exec
  have hb := B.bytes
  have hr := B.returns
  have hts := atoms_spec (ws := wsX1_kindOf) B.pre
  have hown : s.vm.findClass RX1 = some m.cls := findClass_of_methodNamed B.named
  have hlocks := B.notSynchronized
  have f11 := hts (.fieldLink RX1 11 "StruckThrees$People" "kinds" "[I") (by decide +kernel)
  have iX1 : ∀ w ∈ wsX10, w ∈ wsX1_kindOf := by decide +kernel
  have hP : va_P D vwCl [(h, .inr (1, [.ref ka, .ref sa, .int (nI n)])), (ka, .inl (cI, 9, .inl kd))] s.heap := hP
  have hl := lv_entry ([.ref h, .int (nI j)]) (n := 2) (Nat.le_of_ble_eq_true rfl)
  rw [lg_entry_eq]
  generalize (lg_sl ([.ref h, .int (nI j)]) ++ List.replicate (2 - (lg_sl ([.ref h, .int (nI j)])).length) Slot.unset).toArray = ls at hl ⊢
  have hl : lv_has ls 2 [(0, .ref h), (1, .int (nI j))] := hl
  refine lv_aload_n hx hb dX1_kindOf_0 rfl (lv_at hl 0 rfl) ?_
  refine lv_iload_n hx hb dX1_kindOf_1 rfl (lv_at hl 1 rfl) ?_
  have hPc := hP.sub (ws' := [(h, .inr (1, [.ref ka, .ref sa, .int (nI n)]))]) [0] rfl
  refine vp_callSi (va_Run.run (va_runV (As := [.int (nI j)]) (rest := []) ⟨hx, hb, hml, hown, hts⟩ (c_X1_has l D cI cO h ka sa n (nI j)) (cwV 1 hts gX1_kindOf_X1_has rfl rfl rfl (by decide +kernel) ⟨Nat.le_of_ble_eq_true rfl, Nat.le_of_ble_eq_true rfl⟩) (preVR hPc hK hNw (va_recv hK hPc (ci := 1) (q0 := 0) rfl rfl)) rfl rfl hl.1 rfl (lv_room (Nat.le_of_ble_eq_true rfl)) dX1_kindOf_2 ⟨Nat.zero_le _, Nat.zero_le _⟩)) (fun r2 w2 => ?_)
  by_cases b2 : ¬ (nI j) < 0 ∧ ¬ nI n ≤ (nI j)
  · -- y2
    obtain rfl := w2.1 b2
    refine lv_if_eq (tgt := 17) hx hb dX1_kindOf_5 (by decide) (fun h => absurd h (by decide)) (fun _ => ?_)
    refine lv_aload_n hx hb dX1_kindOf_8 rfl (lv_at hl 0 rfl) ?_
    refine va_get (D := D) (ci := 1) (v := .ref ka) (C := RX1) (T := TX1) (N := 3) hx hb hts iX1 hown hK hP 0 rfl rfl 0 (by decide) f11 (fun _ h9 => h9) rfl dX1_kindOf_9 ?_
    refine lv_iload_n hx hb dX1_kindOf_12 rfl (lv_at hl 1 rfl) ?_
    refine va_iald hx hb hK hP 1 0 rfl rfl (vp_in_nI (by omega) (by decide)) dX1_kindOf_13 ?_
    refine tp_i (y := kd j) (by rw [nI_clamp (n := j) (by omega)]) ?_
    refine lv_goto (tgt := 19) hx hb dX1_kindOf_14 (by decide) ?_
    exact W.iret (v := kd j) hx hb hr (fun t ht hW => ⟨_, rfl, by rfl, ht⟩) (fun _ h => absurd h List.not_mem_nil) dX1_kindOf_19
  · -- n2
    obtain rfl := w2.2 b2
    exact absurd (nin_nI hj (by omega)) b2

set_option maxHeartbeats 4000000 in
set_option maxRecDepth 100000 in
theorem c_X1_sideOf (l : Launch) (D : va_G) (cI cO : ClassId) (h : Nat) (ka : Nat) (sa : Nat) (n : Nat) (sd : Nat → Int32) (pp : Int32) (hn : n ≤ 9) : Met l yX1_sideOf wsX1_sideOf ({ frames := 1, cells := 0, slots := 0, locals := 21 } : Room) (va_Pc [.ref h, .int pp] (wdR D cI cO [(h, .inr (1, [.ref ka, .ref sa, .int (nI n)])), (sa, .inl (cI, 9, .inl sd))])) (vp_Si (fun r => r = sideF n sd pp)) 0 0 (fun _ => False) := by
  refine Met.ofW (cc := cX1_sideOf) (maxL := 2) (ret := (some .int)) (by decide) rfl ?_
  intro p e s m args below meth c s₁ B hml hv
  obtain ⟨rfl, hP, hK, hNw⟩ := hv
  have hx := B.exec
  have hb := B.bytes
  have hr := B.returns
  have hts := atoms_spec (ws := wsX1_sideOf) B.pre
  have hown : s.vm.findClass RX1 = some m.cls := findClass_of_methodNamed B.named
  have hlocks := B.notSynchronized
  have f15 := hts (.fieldLink RX1 15 "StruckThrees$People" "sides" "[I") (by decide +kernel)
  have iX1 : ∀ w ∈ wsX10, w ∈ wsX1_sideOf := by decide +kernel
  have hP : va_P D vwCl [(h, .inr (1, [.ref ka, .ref sa, .int (nI n)])), (sa, .inl (cI, 9, .inl sd))] s.heap := hP
  have hl := lv_entry ([.ref h, .int pp]) (n := 2) (Nat.le_of_ble_eq_true rfl)
  rw [lg_entry_eq]
  generalize (lg_sl ([.ref h, .int pp]) ++ List.replicate (2 - (lg_sl ([.ref h, .int pp])).length) Slot.unset).toArray = ls at hl ⊢
  have hl : lv_has ls 2 [(0, .ref h), (1, .int pp)] := hl
  refine lv_aload_n hx hb dX1_sideOf_0 rfl (lv_at hl 0 rfl) ?_
  refine lv_iload_n hx hb dX1_sideOf_1 rfl (lv_at hl 1 rfl) ?_
  have hPc := hP.sub (ws' := [(h, .inr (1, [.ref ka, .ref sa, .int (nI n)]))]) [0] rfl
  refine vp_callSi (va_Run.run (va_runV (As := [.int pp]) (rest := []) ⟨hx, hb, hml, hown, hts⟩ (c_X1_has l D cI cO h ka sa n pp) (cwV 1 hts gX1_sideOf_X1_has rfl rfl rfl (by decide +kernel) ⟨Nat.le_of_ble_eq_true rfl, Nat.le_of_ble_eq_true rfl⟩) (preVR hPc hK hNw (va_recv hK hPc (ci := 1) (q0 := 0) rfl rfl)) rfl rfl hl.1 rfl (lv_room (Nat.le_of_ble_eq_true rfl)) dX1_sideOf_2 ⟨Nat.zero_le _, Nat.zero_le _⟩)) (fun r2 w2 => ?_)
  by_cases b2 : ¬ pp < 0 ∧ ¬ nI n ≤ pp
  · -- y2
    obtain rfl := w2.1 b2
    have hin := in_of b2 hn (by decide)
    refine lv_if_eq (tgt := 17) hx hb dX1_sideOf_5 (by decide) (fun h => absurd h (by decide)) (fun _ => ?_)
    refine lv_aload_n hx hb dX1_sideOf_8 rfl (lv_at hl 0 rfl) ?_
    refine va_get (D := D) (ci := 1) (v := .ref sa) (C := RX1) (T := TX1) (N := 3) hx hb hts iX1 hown hK hP 0 rfl rfl 1 (by decide) f15 (fun _ h9 => h9) rfl dX1_sideOf_9 ?_
    refine lv_iload_n hx hb dX1_sideOf_12 rfl (lv_at hl 1 rfl) ?_
    refine va_iald hx hb hK hP 1 0 rfl rfl (by assumption) dX1_sideOf_13 ?_
    refine lv_goto (tgt := 18) hx hb dX1_sideOf_14 (by decide) ?_
    exact W.iret (v := sd pp.toNatClampNeg) hx hb hr (fun t ht hW => ⟨_, rfl, by simp only [sideF, b2, and_self, not_true, not_false_eq_true, if_true, if_false], ht⟩) (fun _ h => absurd h List.not_mem_nil) dX1_sideOf_18
  · -- n2
    obtain rfl := w2.2 b2
    refine lv_if_eq (tgt := 17) hx hb dX1_sideOf_5 (by decide) (fun _ => ?_) (fun h => absurd (by decide) h)
    refine lv_iconst (v := 0) hx hb dX1_sideOf_17 (by decide) ?_
    exact W.iret (v := 0) hx hb hr (fun t ht hW => ⟨_, rfl, by simp only [sideF, b2, and_self, not_true, not_false_eq_true, if_true, if_false], ht⟩) (fun _ h => absurd h List.not_mem_nil) dX1_sideOf_18

set_option maxHeartbeats 4000000 in
set_option maxRecDepth 100000 in
theorem c_X1_ring (l : Launch) (D : va_G) (cI cO : ClassId) (k : Int32) (sd : Int32) : Met l yX1_ring wsX1_ring ({ frames := 0, cells := 0, slots := 0, locals := 0 } : Room) (va_Pc [.int k, .int sd] (wdR D cI cO [])) (vp_Si (fun r => r = ringI k sd)) 0 0 (fun _ => False) := by
  refine Met.ofW (cc := cX1_ring) (maxL := 2) (ret := (some .int)) (by decide) rfl ?_
  intro p e s m args below meth c s₁ B hml hv
  obtain ⟨rfl, hP, hK, hNw⟩ := hv
  have hx := B.exec
  have hb := B.bytes
  have hr := B.returns
  have hts := atoms_spec (ws := wsX1_ring) B.pre
  have hown : s.vm.findClass RX1 = some m.cls := findClass_of_methodNamed B.named
  have hlocks := B.notSynchronized
  have hP : va_P D vwCl [] s.heap := hP
  have hl := lv_entry ([.int k, .int sd]) (n := 2) (Nat.le_of_ble_eq_true rfl)
  rw [lg_entry_eq]
  generalize (lg_sl ([.int k, .int sd]) ++ List.replicate (2 - (lg_sl ([.int k, .int sd])).length) Slot.unset).toArray = ls at hl ⊢
  have hl : lv_has ls 2 [(0, .int k), (1, .int sd)] := hl
  refine lv_iload_n hx hb dX1_ring_0 rfl (lv_at hl 0 rfl) ?_
  by_cases k1_1 : k = 1
  · -- case 1
    refine lv_lookup (off := 27) (tgt := 28) hx hb dX1_ring_1 (by decide) (by rw [k1_1]; decide) (by decide) ?_
    refine lv_iload_n hx hb dX1_ring_28 rfl (lv_at hl 1 rfl) ?_
    refine lv_iconst (v := 2) hx hb dX1_ring_29 (by decide) ?_
    refine lv_idiv hx hb dX1_ring_30 (by decide) ?_
    exact W.iret (v := sd / 2) hx hb hr (fun t ht hW => ⟨_, rfl, by simp [ringI, *], ht⟩) (fun _ h => absurd h List.not_mem_nil) dX1_ring_31
  by_cases k1_2 : k = 2
  · -- case 2
    refine lv_lookup (off := 31) (tgt := 32) hx hb dX1_ring_1 (by decide) (by rw [k1_2]; decide) (by decide) ?_
    refine lv_iconst (v := 2) hx hb dX1_ring_32 (by decide) ?_
    refine lv_iload_n hx hb dX1_ring_33 rfl (lv_at hl 1 rfl) ?_
    refine lv_imul hx hb dX1_ring_34 ?_
    exact W.iret (v := 2 * sd) hx hb hr (fun t ht hW => ⟨_, rfl, by simp [ringI, *], ht⟩) (fun _ h => absurd h List.not_mem_nil) dX1_ring_35
  refine lv_lookup (off := 35) (tgt := 36) hx hb dX1_ring_1 (by decide) (by show Op.lookupswitch.offset [(1, 27), (2, 31)] 35 _ = _; rw [lv_osw (k := 1) k1_1 (by decide), lv_osw (k := 2) k1_2 (by decide)]; rfl) (by decide) ?_
  refine lv_iload_n hx hb dX1_ring_36 rfl (lv_at hl 1 rfl) ?_
  exact W.iret (v := sd) hx hb hr (fun t ht hW => ⟨_, rfl, by simp [ringI, *], ht⟩) (fun _ h => absurd h List.not_mem_nil) dX1_ring_37

set_option maxHeartbeats 4000000 in
set_option maxRecDepth 100000 in
theorem c_X1_ringOf (l : Launch) (D : va_G) (cI cO : ClassId) (h : Nat) (ka : Nat) (sa : Nat) (n : Nat) (kd : Nat → Int32) (sd : Nat → Int32) (j : Nat) (hn : n ≤ 9) (hj : j < n) : Met l yX1_ringOf wsX1_ringOf ({ frames := 1, cells := 0, slots := 0, locals := 21 } : Room) (va_Pc [.ref h, .int (nI j)] (wdR D cI cO [(h, .inr (1, [.ref ka, .ref sa, .int (nI n)])), (ka, .inl (cI, 9, .inl kd)), (sa, .inl (cI, 9, .inl sd))])) (vp_Si (fun r => r = ringI (kd j) (sd j))) 0 0 (fun _ => False) := by
  refine Met.ofW (cc := cX1_ringOf) (maxL := 2) (ret := (some .int)) (by decide) rfl ?_
  intro p e s m args below meth c s₁ B hml hv
  obtain ⟨rfl, hP, hK, hNw⟩ := hv
  have hx := B.exec
  have hb := B.bytes
  have hr := B.returns
  have hts := atoms_spec (ws := wsX1_ringOf) B.pre
  have hown : s.vm.findClass RX1 = some m.cls := findClass_of_methodNamed B.named
  have hlocks := B.notSynchronized
  have f11 := hts (.fieldLink RX1 11 "StruckThrees$People" "kinds" "[I") (by decide +kernel)
  have f15 := hts (.fieldLink RX1 15 "StruckThrees$People" "sides" "[I") (by decide +kernel)
  have iX1 : ∀ w ∈ wsX10, w ∈ wsX1_ringOf := by decide +kernel
  have hP : va_P D vwCl [(h, .inr (1, [.ref ka, .ref sa, .int (nI n)])), (ka, .inl (cI, 9, .inl kd)), (sa, .inl (cI, 9, .inl sd))] s.heap := hP
  have hl := lv_entry ([.ref h, .int (nI j)]) (n := 2) (Nat.le_of_ble_eq_true rfl)
  rw [lg_entry_eq]
  generalize (lg_sl ([.ref h, .int (nI j)]) ++ List.replicate (2 - (lg_sl ([.ref h, .int (nI j)])).length) Slot.unset).toArray = ls at hl ⊢
  have hl : lv_has ls 2 [(0, .ref h), (1, .int (nI j))] := hl
  refine lv_aload_n hx hb dX1_ringOf_0 rfl (lv_at hl 0 rfl) ?_
  refine lv_iload_n hx hb dX1_ringOf_1 rfl (lv_at hl 1 rfl) ?_
  have hPc := hP.sub (ws' := [(h, .inr (1, [.ref ka, .ref sa, .int (nI n)]))]) [0] rfl
  refine vp_callSi (va_Run.run (va_runV (As := [.int (nI j)]) (rest := []) ⟨hx, hb, hml, hown, hts⟩ (c_X1_has l D cI cO h ka sa n (nI j)) (cwV 1 hts gX1_ringOf_X1_has rfl rfl rfl (by decide +kernel) ⟨Nat.le_of_ble_eq_true rfl, Nat.le_of_ble_eq_true rfl⟩) (preVR hPc hK hNw (va_recv hK hPc (ci := 1) (q0 := 0) rfl rfl)) rfl rfl hl.1 rfl (lv_room (Nat.le_of_ble_eq_true rfl)) dX1_ringOf_2 ⟨Nat.zero_le _, Nat.zero_le _⟩)) (fun r2 w2 => ?_)
  by_cases b2 : ¬ (nI j) < 0 ∧ ¬ nI n ≤ (nI j)
  · -- y2
    obtain rfl := w2.1 b2
    refine lv_if_eq (tgt := 26) hx hb dX1_ringOf_5 (by decide) (fun h => absurd h (by decide)) (fun _ => ?_)
    refine lv_aload_n hx hb dX1_ringOf_8 rfl (lv_at hl 0 rfl) ?_
    refine va_get (D := D) (ci := 1) (v := .ref ka) (C := RX1) (T := TX1) (N := 3) hx hb hts iX1 hown hK hP 0 rfl rfl 0 (by decide) f11 (fun _ h9 => h9) rfl dX1_ringOf_9 ?_
    refine lv_iload_n hx hb dX1_ringOf_12 rfl (lv_at hl 1 rfl) ?_
    refine va_iald hx hb hK hP 1 0 rfl rfl (vp_in_nI (by omega) (by decide)) dX1_ringOf_13 ?_
    refine tp_i (y := kd j) (by rw [nI_clamp (n := j) (by omega)]) ?_
    refine lv_aload_n hx hb dX1_ringOf_14 rfl (lv_at hl 0 rfl) ?_
    refine va_get (D := D) (ci := 1) (v := .ref sa) (C := RX1) (T := TX1) (N := 3) hx hb hts iX1 hown hK hP 0 rfl rfl 1 (by decide) f15 (fun _ h9 => h9) rfl dX1_ringOf_15 ?_
    refine lv_iload_n hx hb dX1_ringOf_18 rfl (lv_at hl 1 rfl) ?_
    refine va_iald hx hb hK hP 2 0 rfl rfl (vp_in_nI (by omega) (by decide)) dX1_ringOf_19 ?_
    refine tp_i (y := sd j) (by rw [nI_clamp (n := j) (by omega)]) ?_
    have hPc := hP.sub (ws' := []) [] rfl
    refine vp_callSi (va_Run.run (va_runS (As := [.int (kd j), .int (sd j)]) (rest := []) ⟨hx, hb, hml, hown, hts⟩ (c_X1_ring l D cI cO (kd j) (sd j)) (va_cwS 2 hts gX1_ringOf_X1_ring rfl rfl rfl (by decide +kernel) ⟨Nat.le_of_ble_eq_true rfl, Nat.le_of_ble_eq_true rfl⟩) (preSR hPc hK hNw) rfl rfl hl.1 rfl (lv_room (Nat.le_of_ble_eq_true rfl)) dX1_ringOf_20 ⟨Nat.zero_le _, Nat.zero_le _⟩)) (fun r20 w20 => ?_)
    obtain rfl := w20
    refine lv_goto (tgt := 27) hx hb dX1_ringOf_23 (by decide) ?_
    exact W.iret (v := ringI (kd j) (sd j)) hx hb hr (fun t ht hW => ⟨_, rfl, by rfl, ht⟩) (fun _ h => absurd h List.not_mem_nil) dX1_ringOf_27
  · -- n2
    obtain rfl := w2.2 b2
    exact absurd (nin_nI hj (by omega)) b2

set_option maxHeartbeats 4000000 in
set_option maxRecDepth 100000 in
theorem c_X1_allSets (l : Launch) (D : va_G) (cI cO : ClassId) (h : Nat) (ka : Nat) (sa : Nat) (n : Nat) (hn : n ≤ 9) : Met l yX1_allSets wsX1_allSets ({ frames := 0, cells := 0, slots := 0, locals := 0 } : Room) (va_Pc [.ref h] (wdR D cI cO [(h, .inr (1, [.ref ka, .ref sa, .int (nI n)]))])) (vp_Si (fun r => r = nI (2 ^ n))) 0 0 (fun _ => False) := by
  refine Met.ofW (cc := cX1_allSets) (maxL := 1) (ret := (some .int)) (by decide) rfl ?_
  intro p e s m args below meth c s₁ B hml hv
  obtain ⟨rfl, hP, hK, hNw⟩ := hv
  have hx := B.exec
  have hb := B.bytes
  have hr := B.returns
  have hts := atoms_spec (ws := wsX1_allSets) B.pre
  have hown : s.vm.findClass RX1 = some m.cls := findClass_of_methodNamed B.named
  have hlocks := B.notSynchronized
  have f18 := hts (.fieldLink RX1 18 "StruckThrees$People" "count" "I") (by decide +kernel)
  have iX1 : ∀ w ∈ wsX10, w ∈ wsX1_allSets := by decide +kernel
  have hP : va_P D vwCl [(h, .inr (1, [.ref ka, .ref sa, .int (nI n)]))] s.heap := hP
  have hl := lv_entry ([.ref h]) (n := 1) (Nat.le_of_ble_eq_true rfl)
  rw [lg_entry_eq]
  generalize (lg_sl ([.ref h]) ++ List.replicate (1 - (lg_sl ([.ref h])).length) Slot.unset).toArray = ls at hl ⊢
  have hl : lv_has ls 1 [(0, .ref h)] := hl
  refine lv_iconst (v := 1) hx hb dX1_allSets_0 (by decide) ?_
  refine lv_aload_n hx hb dX1_allSets_1 rfl (lv_at hl 0 rfl) ?_
  refine va_get (D := D) (ci := 1) (v := .int (nI n)) (C := RX1) (T := TX1) (N := 3) hx hb hts iX1 hown hK hP 0 rfl rfl 2 (by decide) f18 (fun _ h9 => h9) rfl dX1_allSets_2 ?_
  refine lv_ishl hx hb dX1_allSets_5 ?_
  exact W.iret (v := 1 <<< ((nI n) &&& 31)) hx hb hr (fun t ht hW => ⟨_, rfl, by exact sh1 n (by omega), ht⟩) (fun _ h => absurd h List.not_mem_nil) dX1_allSets_6

set_option maxHeartbeats 4000000 in
set_option maxRecDepth 100000 in
theorem c_X1_pitchOf (l : Launch) (D : va_G) (cI cO : ClassId) (h : Nat) (ka : Nat) (sa : Nat) (n : Nat) (sd : Nat → Int32) (set : Int32) (hn : n ≤ 9) : Met l yX1_pitchOf wsX1_pitchOf ({ frames := 0, cells := 0, slots := 0, locals := 0 } : Room) (va_Pc [.ref h, .int set] (wdR D cI cO [(h, .inr (1, [.ref ka, .ref sa, .int (nI n)])), (sa, .inl (cI, 9, .inl sd))])) (vp_Si (fun r => r = sumW sd set n)) 0 0 (fun _ => False) := by
  refine Met.ofW (cc := cX1_pitchOf) (maxL := 4) (ret := (some .int)) (by decide) rfl ?_
  intro p e s m args below meth c s₁ B hml hv
  obtain ⟨rfl, hP, hK, hNw⟩ := hv
  have hx := B.exec
  have hb := B.bytes
  have hr := B.returns
  have hts := atoms_spec (ws := wsX1_pitchOf) B.pre
  have hown : s.vm.findClass RX1 = some m.cls := findClass_of_methodNamed B.named
  have hlocks := B.notSynchronized
  have f15 := hts (.fieldLink RX1 15 "StruckThrees$People" "sides" "[I") (by decide +kernel)
  have f18 := hts (.fieldLink RX1 18 "StruckThrees$People" "count" "I") (by decide +kernel)
  have iX1 : ∀ w ∈ wsX10, w ∈ wsX1_pitchOf := by decide +kernel
  have hP : va_P D vwCl [(h, .inr (1, [.ref ka, .ref sa, .int (nI n)])), (sa, .inl (cI, 9, .inl sd))] s.heap := hP
  have hl := lv_entry ([.ref h, .int set]) (n := 4) (Nat.le_of_ble_eq_true rfl)
  rw [lg_entry_eq]
  generalize (lg_sl ([.ref h, .int set]) ++ List.replicate (4 - (lg_sl ([.ref h, .int set])).length) Slot.unset).toArray = ls at hl ⊢
  have hl : lv_has ls 4 [(0, .ref h), (1, .int set)] := hl
  refine lv_iconst (v := 0) hx hb dX1_pitchOf_0 (by decide) ?_
  refine lv_istore_n (lv' := [(2, .int 0), (0, .ref h), (1, .int set)]) hx hb dX1_pitchOf_1 rfl hl (by decide) rfl (fun ls hl => ?_)
  refine lv_iconst (v := 0) hx hb dX1_pitchOf_2 (by decide) ?_
  refine lv_istore_n (lv' := [(3, .int 0), (2, .int 0), (0, .ref h), (1, .int set)]) hx hb dX1_pitchOf_3 rfl hl (by decide) rfl (fun ls hl => ?_)
  have lp4 : ∀ (fu4 : Nat) (i : Nat) (hi : i ≤ n) (hm4 : n - i < fu4) (ls : Array Slot) (hl : lv_has ls 4 [(0, .ref h), (1, .int set), (2, .int (sumW sd set i)), (3, .int (nI i))]), W p l e (headSpec wsX1_pitchOf ({ frames := 0, cells := 0, slots := 0, locals := 0 } : Room)).room s m ([.ref h, .int set]).toArray below meth c s.heap [] 0 0 (MQ below (vp_Si (fun r => r = sumW sd set n)) ([.ref h, .int set]).toArray s 0 0 (fun _ => False)) (F0 m 4 ls []) := by
    intro fu4
    induction fu4 with
    | zero =>
      intros; omega
    | succ fu4 ih4 =>
      intro i hi hm4 ls hl
      refine lv_iload_n hx hb dX1_pitchOf_4 rfl (lv_at hl 3 rfl) ?_
      refine lv_aload_n hx hb dX1_pitchOf_5 rfl (lv_at hl 0 rfl) ?_
      refine va_get (D := D) (ci := 1) (v := .int (nI n)) (C := RX1) (T := TX1) (N := 3) hx hb hts iX1 hown hK hP 0 rfl rfl 2 (by decide) f18 (fun _ h9 => h9) rfl dX1_pitchOf_6 ?_
      refine lv_icmp_ge (tgt := 35) hx hb dX1_pitchOf_9 (by decide) (fun c9 => ?_) (fun c9 => ?_)
      · -- t9
        have e9 : i = n := by have q := ge_n (by omega) (by omega) c9; omega
        rw [e9] at hl
        refine lv_iload_n hx hb dX1_pitchOf_35 rfl (lv_at hl 2 rfl) ?_
        exact W.iret (v := sumW sd set n) hx hb hr (fun t ht hW => ⟨_, rfl, by rfl, ht⟩) (fun _ h => absurd h List.not_mem_nil) dX1_pitchOf_36
      · -- f9
        have l9 : i < n := lt_n (by omega) (by omega) c9
        refine lv_iload_n hx hb dX1_pitchOf_12 rfl (lv_at hl 1 rfl) ?_
        refine lv_iconst (v := 1) hx hb dX1_pitchOf_13 (by decide) ?_
        refine lv_iload_n hx hb dX1_pitchOf_14 rfl (lv_at hl 3 rfl) ?_
        refine lv_ishl hx hb dX1_pitchOf_15 ?_
        refine lv_iand hx hb dX1_pitchOf_16 ?_
        refine lv_if_eq (tgt := 29) hx hb dX1_pitchOf_17 (by decide) (fun c17 => ?_) (fun c17 => ?_)
        · -- t17
          have cb17 : bt set i = false := (bt_and0 set (by omega)).mp c17
          refine lv_iinc (v := nI (i + 1)) (lv' := [(3, .int (nI (i + 1))), (0, .ref h), (1, .int set), (2, .int (sumW sd set i))]) hx hb dX1_pitchOf_29 hl (k := 3) rfl (nI_1 _) (by decide) rfl (fun ls hl => ?_)
          refine lv_goto (tgt := 4) hx hb dX1_pitchOf_32 (by decide) ?_
          have e4_2 : sumW sd set i = sumW sd set (i + 1) := by simp [sumW, cb17]
          have hl : lv_has ls 4 [(3, .int (nI (i + 1))), (0, .ref h), (1, .int set), (2, .int (sumW sd set (i + 1)))] := by rw [← e4_2]; exact hl
          exact ih4 (i + 1) (by omega) (by omega) _ (lv_sub hl [1, 2, 3, 0] rfl)
        · -- f17
          have cb17 : bt set i = true := by rw [← Bool.not_eq_false]; exact mt (bt_and0 set (by omega)).mpr c17
          refine lv_iload_n hx hb dX1_pitchOf_20 rfl (lv_at hl 2 rfl) ?_
          refine lv_aload_n hx hb dX1_pitchOf_21 rfl (lv_at hl 0 rfl) ?_
          refine va_get (D := D) (ci := 1) (v := .ref sa) (C := RX1) (T := TX1) (N := 3) hx hb hts iX1 hown hK hP 0 rfl rfl 1 (by decide) f15 (fun _ h9 => h9) rfl dX1_pitchOf_22 ?_
          refine lv_iload_n hx hb dX1_pitchOf_25 rfl (lv_at hl 3 rfl) ?_
          refine va_iald hx hb hK hP 1 0 rfl rfl (vp_in_nI (by omega) (by decide)) dX1_pitchOf_26 ?_
          refine tp_i (y := sd i) (by rw [nI_clamp (n := i) (by omega)]) ?_
          refine lv_iadd hx hb dX1_pitchOf_27 ?_
          refine lv_istore_n (lv' := [(2, .int ((sumW sd set i) + (sd i))), (0, .ref h), (1, .int set), (3, .int (nI i))]) hx hb dX1_pitchOf_28 rfl hl (by decide) rfl (fun ls hl => ?_)
          refine lv_iinc (v := nI (i + 1)) (lv' := [(3, .int (nI (i + 1))), (2, .int ((sumW sd set i) + (sd i))), (0, .ref h), (1, .int set)]) hx hb dX1_pitchOf_29 hl (k := 3) rfl (nI_1 _) (by decide) rfl (fun ls hl => ?_)
          refine lv_goto (tgt := 4) hx hb dX1_pitchOf_32 (by decide) ?_
          have e4_2 : (sumW sd set i) + (sd i) = sumW sd set (i + 1) := by simp [sumW, cb17]
          have hl : lv_has ls 4 [(3, .int (nI (i + 1))), (2, .int (sumW sd set (i + 1))), (0, .ref h), (1, .int set)] := by rw [← e4_2]; exact hl
          exact ih4 (i + 1) (by omega) (by omega) _ (lv_sub hl [2, 3, 1, 0] rfl)
  exact lp4 _ 0 (Nat.zero_le _) (Nat.lt_succ_self _) _ (lv_sub hl [2, 3, 1, 0] rfl)

set_option maxHeartbeats 4000000 in
set_option maxRecDepth 100000 in
theorem c_X1_ringsOf (l : Launch) (D : va_G) (cI cO : ClassId) (h : Nat) (ka : Nat) (sa : Nat) (n : Nat) (kd : Nat → Int32) (sd : Nat → Int32) (set : Int32) (hn : n ≤ 9) : Met l yX1_ringsOf wsX1_ringsOf ({ frames := 2, cells := 0, slots := 0, locals := 42 } : Room) (va_Pc [.ref h, .int set] (wdR D cI cO [(h, .inr (1, [.ref ka, .ref sa, .int (nI n)])), (ka, .inl (cI, 9, .inl kd)), (sa, .inl (cI, 9, .inl sd))])) (vp_Si (fun r => r = sumW (fun p => ringI (kd p) (sd p)) set n)) 0 0 (fun _ => False) := by
  refine Met.ofW (cc := cX1_ringsOf) (maxL := 4) (ret := (some .int)) (by decide) rfl ?_
  intro p e s m args below meth c s₁ B hml hv
  obtain ⟨rfl, hP, hK, hNw⟩ := hv
  have hx := B.exec
  have hb := B.bytes
  have hr := B.returns
  have hts := atoms_spec (ws := wsX1_ringsOf) B.pre
  have hown : s.vm.findClass RX1 = some m.cls := findClass_of_methodNamed B.named
  have hlocks := B.notSynchronized
  have f18 := hts (.fieldLink RX1 18 "StruckThrees$People" "count" "I") (by decide +kernel)
  have iX1 : ∀ w ∈ wsX10, w ∈ wsX1_ringsOf := by decide +kernel
  have hP : va_P D vwCl [(h, .inr (1, [.ref ka, .ref sa, .int (nI n)])), (ka, .inl (cI, 9, .inl kd)), (sa, .inl (cI, 9, .inl sd))] s.heap := hP
  have hl := lv_entry ([.ref h, .int set]) (n := 4) (Nat.le_of_ble_eq_true rfl)
  rw [lg_entry_eq]
  generalize (lg_sl ([.ref h, .int set]) ++ List.replicate (4 - (lg_sl ([.ref h, .int set])).length) Slot.unset).toArray = ls at hl ⊢
  have hl : lv_has ls 4 [(0, .ref h), (1, .int set)] := hl
  refine lv_iconst (v := 0) hx hb dX1_ringsOf_0 (by decide) ?_
  refine lv_istore_n (lv' := [(2, .int 0), (0, .ref h), (1, .int set)]) hx hb dX1_ringsOf_1 rfl hl (by decide) rfl (fun ls hl => ?_)
  refine lv_iconst (v := 0) hx hb dX1_ringsOf_2 (by decide) ?_
  refine lv_istore_n (lv' := [(3, .int 0), (2, .int 0), (0, .ref h), (1, .int set)]) hx hb dX1_ringsOf_3 rfl hl (by decide) rfl (fun ls hl => ?_)
  have lp4 : ∀ (fu4 : Nat) (i : Nat) (hi : i ≤ n) (hm4 : n - i < fu4) (ls : Array Slot) (hl : lv_has ls 4 [(0, .ref h), (1, .int set), (2, .int (sumW (fun p => ringI (kd p) (sd p)) set i)), (3, .int (nI i))]), W p l e (headSpec wsX1_ringsOf ({ frames := 2, cells := 0, slots := 0, locals := 42 } : Room)).room s m ([.ref h, .int set]).toArray below meth c s.heap [] 0 0 (MQ below (vp_Si (fun r => r = sumW (fun p => ringI (kd p) (sd p)) set n)) ([.ref h, .int set]).toArray s 0 0 (fun _ => False)) (F0 m 4 ls []) := by
    intro fu4
    induction fu4 with
    | zero =>
      intros; omega
    | succ fu4 ih4 =>
      intro i hi hm4 ls hl
      refine lv_iload_n hx hb dX1_ringsOf_4 rfl (lv_at hl 3 rfl) ?_
      refine lv_aload_n hx hb dX1_ringsOf_5 rfl (lv_at hl 0 rfl) ?_
      refine va_get (D := D) (ci := 1) (v := .int (nI n)) (C := RX1) (T := TX1) (N := 3) hx hb hts iX1 hown hK hP 0 rfl rfl 2 (by decide) f18 (fun _ h9 => h9) rfl dX1_ringsOf_6 ?_
      refine lv_icmp_ge (tgt := 34) hx hb dX1_ringsOf_9 (by decide) (fun c9 => ?_) (fun c9 => ?_)
      · -- t9
        have e9 : i = n := by have q := ge_n (by omega) (by omega) c9; omega
        rw [e9] at hl
        refine lv_iload_n hx hb dX1_ringsOf_34 rfl (lv_at hl 2 rfl) ?_
        exact W.iret (v := sumW (fun p => ringI (kd p) (sd p)) set n) hx hb hr (fun t ht hW => ⟨_, rfl, by rfl, ht⟩) (fun _ h => absurd h List.not_mem_nil) dX1_ringsOf_35
      · -- f9
        have l9 : i < n := lt_n (by omega) (by omega) c9
        refine lv_iload_n hx hb dX1_ringsOf_12 rfl (lv_at hl 1 rfl) ?_
        refine lv_iconst (v := 1) hx hb dX1_ringsOf_13 (by decide) ?_
        refine lv_iload_n hx hb dX1_ringsOf_14 rfl (lv_at hl 3 rfl) ?_
        refine lv_ishl hx hb dX1_ringsOf_15 ?_
        refine lv_iand hx hb dX1_ringsOf_16 ?_
        refine lv_if_eq (tgt := 28) hx hb dX1_ringsOf_17 (by decide) (fun c17 => ?_) (fun c17 => ?_)
        · -- t17
          have cb17 : bt set i = false := (bt_and0 set (by omega)).mp c17
          refine lv_iinc (v := nI (i + 1)) (lv' := [(3, .int (nI (i + 1))), (0, .ref h), (1, .int set), (2, .int (sumW (fun p => ringI (kd p) (sd p)) set i))]) hx hb dX1_ringsOf_28 hl (k := 3) rfl (nI_1 _) (by decide) rfl (fun ls hl => ?_)
          refine lv_goto (tgt := 4) hx hb dX1_ringsOf_31 (by decide) ?_
          have e4_2 : sumW (fun p => ringI (kd p) (sd p)) set i = sumW (fun p => ringI (kd p) (sd p)) set (i + 1) := by simp [sumW, cb17]
          have hl : lv_has ls 4 [(3, .int (nI (i + 1))), (0, .ref h), (1, .int set), (2, .int (sumW (fun p => ringI (kd p) (sd p)) set (i + 1)))] := by rw [← e4_2]; exact hl
          exact ih4 (i + 1) (by omega) (by omega) _ (lv_sub hl [1, 2, 3, 0] rfl)
        · -- f17
          have cb17 : bt set i = true := by rw [← Bool.not_eq_false]; exact mt (bt_and0 set (by omega)).mpr c17
          refine lv_iload_n hx hb dX1_ringsOf_20 rfl (lv_at hl 2 rfl) ?_
          refine lv_aload_n hx hb dX1_ringsOf_21 rfl (lv_at hl 0 rfl) ?_
          refine lv_iload_n hx hb dX1_ringsOf_22 rfl (lv_at hl 3 rfl) ?_
          have hPc := hP.sub (ws' := [(h, .inr (1, [.ref ka, .ref sa, .int (nI n)])), (ka, .inl (cI, 9, .inl kd)), (sa, .inl (cI, 9, .inl sd))]) [0, 1, 2] rfl
          refine vp_callSi (va_Run.run (va_runV (As := [.int (nI i)]) (rest := [.int (sumW (fun p => ringI (kd p) (sd p)) set i)]) ⟨hx, hb, hml, hown, hts⟩ (c_X1_ringOf l D cI cO h ka sa n kd sd i (by assumption) (by assumption)) (cwV 1 hts gX1_ringsOf_X1_ringOf rfl rfl rfl (by decide +kernel) ⟨Nat.le_of_ble_eq_true rfl, Nat.le_of_ble_eq_true rfl⟩) (preVR hPc hK hNw (va_recv hK hPc (ci := 1) (q0 := 0) rfl rfl)) rfl rfl hl.1 rfl (lv_room (Nat.le_of_ble_eq_true rfl)) dX1_ringsOf_23 ⟨Nat.zero_le _, Nat.zero_le _⟩)) (fun r23 w23 => ?_)
          obtain rfl := w23
          refine lv_iadd hx hb dX1_ringsOf_26 ?_
          refine lv_istore_n (lv' := [(2, .int ((sumW (fun p => ringI (kd p) (sd p)) set i) + (ringI (kd i) (sd i)))), (0, .ref h), (1, .int set), (3, .int (nI i))]) hx hb dX1_ringsOf_27 rfl hl (by decide) rfl (fun ls hl => ?_)
          refine lv_iinc (v := nI (i + 1)) (lv' := [(3, .int (nI (i + 1))), (2, .int ((sumW (fun p => ringI (kd p) (sd p)) set i) + (ringI (kd i) (sd i)))), (0, .ref h), (1, .int set)]) hx hb dX1_ringsOf_28 hl (k := 3) rfl (nI_1 _) (by decide) rfl (fun ls hl => ?_)
          refine lv_goto (tgt := 4) hx hb dX1_ringsOf_31 (by decide) ?_
          have e4_2 : (sumW (fun p => ringI (kd p) (sd p)) set i) + (ringI (kd i) (sd i)) = sumW (fun p => ringI (kd p) (sd p)) set (i + 1) := by simp [sumW, cb17]
          have hl : lv_has ls 4 [(3, .int (nI (i + 1))), (2, .int (sumW (fun p => ringI (kd p) (sd p)) set (i + 1))), (0, .ref h), (1, .int set)] := by rw [← e4_2]; exact hl
          exact ih4 (i + 1) (by omega) (by omega) _ (lv_sub hl [2, 3, 1, 0] rfl)
  exact lp4 _ 0 (Nat.zero_le _) (Nat.lt_succ_self _) _ (lv_sub hl [2, 3, 1, 0] rfl)

set_option maxHeartbeats 4000000 in
set_option maxRecDepth 100000 in
theorem c_X1_cornerOf (l : Launch) (D : va_G) (cI cO : ClassId) (h : Nat) (ka : Nat) (sa : Nat) (n : Nat) (sd : Nat → Int32) (set : Int32) (hn : n ≤ 9) (hs : ∀ j, j < n → 1 ≤ sd j) : Met l yX1_cornerOf wsX1_cornerOf ({ frames := 2, cells := 0, slots := 0, locals := 42 } : Room) (va_Pc [.ref h, .int set] (wdR D cI cO [(h, .inr (1, [.ref ka, .ref sa, .int (nI n)])), (sa, .inl (cI, 9, .inl sd))])) (vp_Si (fun r => r = cornW sd set n)) 0 0 (fun _ => False) := by
  refine Met.ofW (cc := cX1_cornerOf) (maxL := 4) (ret := (some .int)) (by decide) rfl ?_
  intro p e s m args below meth c s₁ B hml hv
  obtain ⟨rfl, hP, hK, hNw⟩ := hv
  have hx := B.exec
  have hb := B.bytes
  have hr := B.returns
  have hts := atoms_spec (ws := wsX1_cornerOf) B.pre
  have hown : s.vm.findClass RX1 = some m.cls := findClass_of_methodNamed B.named
  have hlocks := B.notSynchronized
  have f15 := hts (.fieldLink RX1 15 "StruckThrees$People" "sides" "[I") (by decide +kernel)
  have f18 := hts (.fieldLink RX1 18 "StruckThrees$People" "count" "I") (by decide +kernel)
  have iX1 : ∀ w ∈ wsX10, w ∈ wsX1_cornerOf := by decide +kernel
  have hP : va_P D vwCl [(h, .inr (1, [.ref ka, .ref sa, .int (nI n)])), (sa, .inl (cI, 9, .inl sd))] s.heap := hP
  have hl := lv_entry ([.ref h, .int set]) (n := 4) (Nat.le_of_ble_eq_true rfl)
  rw [lg_entry_eq]
  generalize (lg_sl ([.ref h, .int set]) ++ List.replicate (4 - (lg_sl ([.ref h, .int set])).length) Slot.unset).toArray = ls at hl ⊢
  have hl : lv_has ls 4 [(0, .ref h), (1, .int set)] := hl
  refine lv_bipush (v := -9) hx hb dX1_cornerOf_0 (by decide) ?_
  refine lv_istore_n (lv' := [(2, .int (-9)), (0, .ref h), (1, .int set)]) hx hb dX1_cornerOf_2 rfl hl (by decide) rfl (fun ls hl => ?_)
  refine lv_iconst (v := 0) hx hb dX1_cornerOf_3 (by decide) ?_
  refine lv_istore_n (lv' := [(3, .int 0), (2, .int (-9)), (0, .ref h), (1, .int set)]) hx hb dX1_cornerOf_4 rfl hl (by decide) rfl (fun ls hl => ?_)
  have lp5 : ∀ (fu5 : Nat) (i : Nat) (hi : i ≤ n) (hm5 : n - i < fu5) (ls : Array Slot) (hl : lv_has ls 4 [(0, .ref h), (1, .int set), (2, .int (cornW sd set i)), (3, .int (nI i))]), W p l e (headSpec wsX1_cornerOf ({ frames := 2, cells := 0, slots := 0, locals := 42 } : Room)).room s m ([.ref h, .int set]).toArray below meth c s.heap [] 0 0 (MQ below (vp_Si (fun r => r = cornW sd set n)) ([.ref h, .int set]).toArray s 0 0 (fun _ => False)) (F0 m 5 ls []) := by
    intro fu5
    induction fu5 with
    | zero =>
      intros; omega
    | succ fu5 ih5 =>
      intro i hi hm5 ls hl
      refine lv_iload_n hx hb dX1_cornerOf_5 rfl (lv_at hl 3 rfl) ?_
      refine lv_aload_n hx hb dX1_cornerOf_6 rfl (lv_at hl 0 rfl) ?_
      refine va_get (D := D) (ci := 1) (v := .int (nI n)) (C := RX1) (T := TX1) (N := 3) hx hb hts iX1 hown hK hP 0 rfl rfl 2 (by decide) f18 (fun _ h9 => h9) rfl dX1_cornerOf_7 ?_
      refine lv_icmp_ge (tgt := 43) hx hb dX1_cornerOf_10 (by decide) (fun c10 => ?_) (fun c10 => ?_)
      · -- t10
        have e10 : i = n := by have q := ge_n (by omega) (by omega) c10; omega
        rw [e10] at hl
        refine lv_iload_n hx hb dX1_cornerOf_43 rfl (lv_at hl 2 rfl) ?_
        exact W.iret (v := cornW sd set n) hx hb hr (fun t ht hW => ⟨_, rfl, by rfl, ht⟩) (fun _ h => absurd h List.not_mem_nil) dX1_cornerOf_44
      · -- f10
        have l10 : i < n := lt_n (by omega) (by omega) c10
        refine lv_iload_n hx hb dX1_cornerOf_13 rfl (lv_at hl 1 rfl) ?_
        refine lv_iconst (v := 1) hx hb dX1_cornerOf_14 (by decide) ?_
        refine lv_iload_n hx hb dX1_cornerOf_15 rfl (lv_at hl 3 rfl) ?_
        refine lv_ishl hx hb dX1_cornerOf_16 ?_
        refine lv_iand hx hb dX1_cornerOf_17 ?_
        refine lv_if_eq (tgt := 37) hx hb dX1_cornerOf_18 (by decide) (fun c18 => ?_) (fun c18 => ?_)
        · -- t18
          have cb18 : bt set i = false := (bt_and0 set (by omega)).mp c18
          refine lv_iinc (v := nI (i + 1)) (lv' := [(3, .int (nI (i + 1))), (0, .ref h), (1, .int set), (2, .int (cornW sd set i))]) hx hb dX1_cornerOf_37 hl (k := 3) rfl (nI_1 _) (by decide) rfl (fun ls hl => ?_)
          refine lv_goto (tgt := 5) hx hb dX1_cornerOf_40 (by decide) ?_
          have e5_2 : cornW sd set i = cornW sd set (i + 1) := by first | (simp [cornW, cb18]; done) | exact cornW_s hs (by omega) l10 cb18 c32 | exact cornW_k hs (by omega) l10 c32
          have hl : lv_has ls 4 [(3, .int (nI (i + 1))), (0, .ref h), (1, .int set), (2, .int (cornW sd set (i + 1)))] := by rw [← e5_2]; exact hl
          exact ih5 (i + 1) (by omega) (by omega) _ (lv_sub hl [1, 2, 3, 0] rfl)
        · -- f18
          have cb18 : bt set i = true := by rw [← Bool.not_eq_false]; exact mt (bt_and0 set (by omega)).mpr c18
          refine lv_aload_n hx hb dX1_cornerOf_21 rfl (lv_at hl 0 rfl) ?_
          refine va_get (D := D) (ci := 1) (v := .ref sa) (C := RX1) (T := TX1) (N := 3) hx hb hts iX1 hown hK hP 0 rfl rfl 1 (by decide) f15 (fun _ h9 => h9) rfl dX1_cornerOf_22 ?_
          refine lv_iload_n hx hb dX1_cornerOf_25 rfl (lv_at hl 3 rfl) ?_
          refine va_iald hx hb hK hP 1 0 rfl rfl (vp_in_nI (by omega) (by decide)) dX1_cornerOf_26 ?_
          refine tp_i (y := sd i) (by rw [nI_clamp (n := i) (by omega)]) ?_
          refine lv_aload_n hx hb dX1_cornerOf_27 rfl (lv_at hl 0 rfl) ?_
          refine lv_iload_n hx hb dX1_cornerOf_28 rfl (lv_at hl 2 rfl) ?_
          have hPc := hP.sub (ws' := [(h, .inr (1, [.ref ka, .ref sa, .int (nI n)])), (sa, .inl (cI, 9, .inl sd))]) [0, 1] rfl
          refine vp_callSi (va_Run.run (va_runV (As := [.int (cornW sd set i)]) (rest := [.int (sd i)]) ⟨hx, hb, hml, hown, hts⟩ (c_X1_sideOf l D cI cO h ka sa n sd (cornW sd set i) (by assumption)) (cwV 1 hts gX1_cornerOf_X1_sideOf rfl rfl rfl (by decide +kernel) ⟨Nat.le_of_ble_eq_true rfl, Nat.le_of_ble_eq_true rfl⟩) (preVR hPc hK hNw (va_recv hK hPc (ci := 1) (q0 := 0) rfl rfl)) rfl rfl hl.1 rfl (lv_room (Nat.le_of_ble_eq_true rfl)) dX1_cornerOf_29 ⟨Nat.zero_le _, Nat.zero_le _⟩)) (fun r29 w29 => ?_)
          obtain rfl := w29
          refine lv_icmp_lt (tgt := 37) hx hb dX1_cornerOf_32 (by decide) (fun c32 => ?_) (fun c32 => ?_)
          · -- t32
            refine lv_iinc (v := nI (i + 1)) (lv' := [(3, .int (nI (i + 1))), (0, .ref h), (1, .int set), (2, .int (cornW sd set i))]) hx hb dX1_cornerOf_37 hl (k := 3) rfl (nI_1 _) (by decide) rfl (fun ls hl => ?_)
            refine lv_goto (tgt := 5) hx hb dX1_cornerOf_40 (by decide) ?_
            have e5_2 : cornW sd set i = cornW sd set (i + 1) := by first | (simp [cornW, cb18]; done) | exact cornW_s hs (by omega) l10 cb18 c32 | exact cornW_k hs (by omega) l10 c32
            have hl : lv_has ls 4 [(3, .int (nI (i + 1))), (0, .ref h), (1, .int set), (2, .int (cornW sd set (i + 1)))] := by rw [← e5_2]; exact hl
            exact ih5 (i + 1) (by omega) (by omega) _ (lv_sub hl [1, 2, 3, 0] rfl)
          · -- f32
            refine lv_iload_n hx hb dX1_cornerOf_35 rfl (lv_at hl 3 rfl) ?_
            refine lv_istore_n (lv' := [(2, .int (nI i)), (0, .ref h), (1, .int set), (3, .int (nI i))]) hx hb dX1_cornerOf_36 rfl hl (by decide) rfl (fun ls hl => ?_)
            refine lv_iinc (v := nI (i + 1)) (lv' := [(3, .int (nI (i + 1))), (2, .int (nI i)), (0, .ref h), (1, .int set)]) hx hb dX1_cornerOf_37 hl (k := 3) rfl (nI_1 _) (by decide) rfl (fun ls hl => ?_)
            refine lv_goto (tgt := 5) hx hb dX1_cornerOf_40 (by decide) ?_
            have e5_2 : nI i = cornW sd set (i + 1) := by first | (simp [cornW, cb18]; done) | exact cornW_s hs (by omega) l10 cb18 c32 | exact cornW_k hs (by omega) l10 c32
            have hl : lv_has ls 4 [(3, .int (nI (i + 1))), (2, .int (cornW sd set (i + 1))), (0, .ref h), (1, .int set)] := by rw [← e5_2]; exact hl
            exact ih5 (i + 1) (by omega) (by omega) _ (lv_sub hl [2, 3, 1, 0] rfl)
  exact lp5 _ 0 (Nat.zero_le _) (Nat.lt_succ_self _) _ (lv_sub hl [2, 3, 1, 0] rfl)

set_option maxHeartbeats 4000000 in
set_option maxRecDepth 100000 in
theorem c_X1_shapeOf (l : Launch) (D : va_G) (cI cO : ClassId) (h : Nat) (ka : Nat) (sa : Nat) (n : Nat) (sd : Nat → Int32) (set : Int32) (hn : n ≤ 9) : Met l yX1_shapeOf wsX1_shapeOf ({ frames := 1, cells := 0, slots := 0, locals := 20 } : Room) (va_Pc [.ref h, .int set] (wdR D cI cO [(h, .inr (1, [.ref ka, .ref sa, .int (nI n)])), (sa, .inl (cI, 9, .inl sd))])) (vp_Si (fun r => r = 3 - bcE (lenW sd set n))) 0 0 (fun _ => False) := by
  refine Met.ofW (cc := cX1_shapeOf) (maxL := 4) (ret := (some .int)) (by decide) rfl ?_
  intro p e s m args below meth c s₁ B hml hv
  obtain ⟨rfl, hP, hK, hNw⟩ := hv
  have hx := B.exec
  have hb := B.bytes
  have hr := B.returns
  have hts := atoms_spec (ws := wsX1_shapeOf) B.pre
  have hown : s.vm.findClass RX1 = some m.cls := findClass_of_methodNamed B.named
  have hlocks := B.notSynchronized
  have f15 := hts (.fieldLink RX1 15 "StruckThrees$People" "sides" "[I") (by decide +kernel)
  have f18 := hts (.fieldLink RX1 18 "StruckThrees$People" "count" "I") (by decide +kernel)
  have iX1 : ∀ w ∈ wsX10, w ∈ wsX1_shapeOf := by decide +kernel
  have hP : va_P D vwCl [(h, .inr (1, [.ref ka, .ref sa, .int (nI n)])), (sa, .inl (cI, 9, .inl sd))] s.heap := hP
  have hl := lv_entry ([.ref h, .int set]) (n := 4) (Nat.le_of_ble_eq_true rfl)
  rw [lg_entry_eq]
  generalize (lg_sl ([.ref h, .int set]) ++ List.replicate (4 - (lg_sl ([.ref h, .int set])).length) Slot.unset).toArray = ls at hl ⊢
  have hl : lv_has ls 4 [(0, .ref h), (1, .int set)] := hl
  refine lv_iconst (v := 0) hx hb dX1_shapeOf_0 (by decide) ?_
  refine lv_istore_n (lv' := [(2, .int 0), (0, .ref h), (1, .int set)]) hx hb dX1_shapeOf_1 rfl hl (by decide) rfl (fun ls hl => ?_)
  refine lv_iconst (v := 0) hx hb dX1_shapeOf_2 (by decide) ?_
  refine lv_istore_n (lv' := [(3, .int 0), (2, .int 0), (0, .ref h), (1, .int set)]) hx hb dX1_shapeOf_3 rfl hl (by decide) rfl (fun ls hl => ?_)
  have lp4 : ∀ (fu4 : Nat) (i : Nat) (hi : i ≤ n) (hm4 : n - i < fu4) (ls : Array Slot) (hl : lv_has ls 4 [(0, .ref h), (1, .int set), (2, .int (lenW sd set i)), (3, .int (nI i))]), W p l e (headSpec wsX1_shapeOf ({ frames := 1, cells := 0, slots := 0, locals := 20 } : Room)).room s m ([.ref h, .int set]).toArray below meth c s.heap [] 0 0 (MQ below (vp_Si (fun r => r = 3 - bcE (lenW sd set n))) ([.ref h, .int set]).toArray s 0 0 (fun _ => False)) (F0 m 4 ls []) := by
    intro fu4
    induction fu4 with
    | zero =>
      intros; omega
    | succ fu4 ih4 =>
      intro i hi hm4 ls hl
      refine lv_iload_n hx hb dX1_shapeOf_4 rfl (lv_at hl 3 rfl) ?_
      refine lv_aload_n hx hb dX1_shapeOf_5 rfl (lv_at hl 0 rfl) ?_
      refine va_get (D := D) (ci := 1) (v := .int (nI n)) (C := RX1) (T := TX1) (N := 3) hx hb hts iX1 hown hK hP 0 rfl rfl 2 (by decide) f18 (fun _ h9 => h9) rfl dX1_shapeOf_6 ?_
      refine lv_icmp_ge (tgt := 37) hx hb dX1_shapeOf_9 (by decide) (fun c9 => ?_) (fun c9 => ?_)
      · -- t9
        have e9 : i = n := by have q := ge_n (by omega) (by omega) c9; omega
        rw [e9] at hl
        refine lv_iconst (v := 3) hx hb dX1_shapeOf_37 (by decide) ?_
        refine lv_iload_n hx hb dX1_shapeOf_38 rfl (lv_at hl 2 rfl) ?_
        have hPc := hP.sub (ws' := []) [] rfl
        refine vp_callSi (va_Run.run (va_runS (As := [.int (lenW sd set n)]) (rest := [.int 3]) ⟨hx, hb, hml, hown, hts⟩ (c_J6_bitCount_0f7a4 l D cI cO (lenW sd set n)) (va_cwS 1 hts gX1_shapeOf_J6_bitCount_0f7a4 rfl rfl rfl (by decide +kernel) ⟨Nat.le_of_ble_eq_true rfl, Nat.le_of_ble_eq_true rfl⟩) (preSR hPc hK hNw) rfl rfl hl.1 rfl (lv_room (Nat.le_of_ble_eq_true rfl)) dX1_shapeOf_39 ⟨Nat.zero_le _, Nat.zero_le _⟩)) (fun r39 w39 => ?_)
        obtain rfl := w39
        refine lv_isub hx hb dX1_shapeOf_42 ?_
        exact W.iret (v := 3 - (bcE (lenW sd set n))) hx hb hr (fun t ht hW => ⟨_, rfl, by rfl, ht⟩) (fun _ h => absurd h List.not_mem_nil) dX1_shapeOf_43
      · -- f9
        have l9 : i < n := lt_n (by omega) (by omega) c9
        refine lv_iload_n hx hb dX1_shapeOf_12 rfl (lv_at hl 1 rfl) ?_
        refine lv_iconst (v := 1) hx hb dX1_shapeOf_13 (by decide) ?_
        refine lv_iload_n hx hb dX1_shapeOf_14 rfl (lv_at hl 3 rfl) ?_
        refine lv_ishl hx hb dX1_shapeOf_15 ?_
        refine lv_iand hx hb dX1_shapeOf_16 ?_
        refine lv_if_eq (tgt := 31) hx hb dX1_shapeOf_17 (by decide) (fun c17 => ?_) (fun c17 => ?_)
        · -- t17
          have cb17 : bt set i = false := (bt_and0 set (by omega)).mp c17
          refine lv_iinc (v := nI (i + 1)) (lv' := [(3, .int (nI (i + 1))), (0, .ref h), (1, .int set), (2, .int (lenW sd set i))]) hx hb dX1_shapeOf_31 hl (k := 3) rfl (nI_1 _) (by decide) rfl (fun ls hl => ?_)
          refine lv_goto (tgt := 4) hx hb dX1_shapeOf_34 (by decide) ?_
          have e4_2 : lenW sd set i = lenW sd set (i + 1) := by simp [lenW, cb17]
          have hl : lv_has ls 4 [(3, .int (nI (i + 1))), (0, .ref h), (1, .int set), (2, .int (lenW sd set (i + 1)))] := by rw [← e4_2]; exact hl
          exact ih4 (i + 1) (by omega) (by omega) _ (lv_sub hl [1, 2, 3, 0] rfl)
        · -- f17
          have cb17 : bt set i = true := by rw [← Bool.not_eq_false]; exact mt (bt_and0 set (by omega)).mpr c17
          refine lv_iload_n hx hb dX1_shapeOf_20 rfl (lv_at hl 2 rfl) ?_
          refine lv_iconst (v := 1) hx hb dX1_shapeOf_21 (by decide) ?_
          refine lv_aload_n hx hb dX1_shapeOf_22 rfl (lv_at hl 0 rfl) ?_
          refine va_get (D := D) (ci := 1) (v := .ref sa) (C := RX1) (T := TX1) (N := 3) hx hb hts iX1 hown hK hP 0 rfl rfl 1 (by decide) f15 (fun _ h9 => h9) rfl dX1_shapeOf_23 ?_
          refine lv_iload_n hx hb dX1_shapeOf_26 rfl (lv_at hl 3 rfl) ?_
          refine va_iald hx hb hK hP 1 0 rfl rfl (vp_in_nI (by omega) (by decide)) dX1_shapeOf_27 ?_
          refine tp_i (y := sd i) (by rw [nI_clamp (n := i) (by omega)]) ?_
          refine lv_ishl hx hb dX1_shapeOf_28 ?_
          refine lv_ior hx hb dX1_shapeOf_29 ?_
          refine lv_istore_n (lv' := [(2, .int ((lenW sd set i) ||| (1 <<< ((sd i) &&& 31)))), (0, .ref h), (1, .int set), (3, .int (nI i))]) hx hb dX1_shapeOf_30 rfl hl (by decide) rfl (fun ls hl => ?_)
          refine lv_iinc (v := nI (i + 1)) (lv' := [(3, .int (nI (i + 1))), (2, .int ((lenW sd set i) ||| (1 <<< ((sd i) &&& 31)))), (0, .ref h), (1, .int set)]) hx hb dX1_shapeOf_31 hl (k := 3) rfl (nI_1 _) (by decide) rfl (fun ls hl => ?_)
          refine lv_goto (tgt := 4) hx hb dX1_shapeOf_34 (by decide) ?_
          have e4_2 : (lenW sd set i) ||| (1 <<< ((sd i) &&& 31)) = lenW sd set (i + 1) := by simp [lenW, cb17]
          have hl : lv_has ls 4 [(3, .int (nI (i + 1))), (2, .int (lenW sd set (i + 1))), (0, .ref h), (1, .int set)] := by rw [← e4_2]; exact hl
          exact ih4 (i + 1) (by omega) (by omega) _ (lv_sub hl [2, 3, 1, 0] rfl)
  exact lp4 _ 0 (Nat.zero_le _) (Nat.lt_succ_self _) _ (lv_sub hl [2, 3, 1, 0] rfl)

set_option maxHeartbeats 4000000 in
set_option maxRecDepth 100000 in
theorem c_X1_canHang (l : Launch) (D : va_G) (cI cO : ClassId) (h : Nat) (ka : Nat) (sa : Nat) (n : Nat) (sd : Nat → Int32) (set : Int32) (hn : n ≤ 9) (hs : ∀ j, j < n → 1 ≤ sd j) : Met l yX1_canHang wsX1_canHang ({ frames := 3, cells := 0, slots := 0, locals := 65 } : Room) (va_Pc [.ref h, .int set] (wdR D cI cO [(h, .inr (1, [.ref ka, .ref sa, .int (nI n)])), (sa, .inl (cI, 9, .inl sd))])) (vp_Si (fun r => ((canH n sd set = true) → r = 1) ∧ (¬ (canH n sd set = true) → r = 0))) 0 0 (fun _ => False) := by
  refine Met.ofW (cc := cX1_canHang) (maxL := 2) (ret := (some .boolean)) (by decide) rfl ?_
  intro p e s m args below meth c s₁ B hml hv
  obtain ⟨rfl, hP, hK, hNw⟩ := hv
  have hx := B.exec
  have hb := B.bytes
  have hr := B.returns
  have hts := atoms_spec (ws := wsX1_canHang) B.pre
  have hown : s.vm.findClass RX1 = some m.cls := findClass_of_methodNamed B.named
  have hlocks := B.notSynchronized
  have hP : va_P D vwCl [(h, .inr (1, [.ref ka, .ref sa, .int (nI n)])), (sa, .inl (cI, 9, .inl sd))] s.heap := hP
  have hl := lv_entry ([.ref h, .int set]) (n := 2) (Nat.le_of_ble_eq_true rfl)
  rw [lg_entry_eq]
  generalize (lg_sl ([.ref h, .int set]) ++ List.replicate (2 - (lg_sl ([.ref h, .int set])).length) Slot.unset).toArray = ls at hl ⊢
  have hl : lv_has ls 2 [(0, .ref h), (1, .int set)] := hl
  refine lv_iload_n hx hb dX1_canHang_0 rfl (lv_at hl 1 rfl) ?_
  have hPc := hP.sub (ws' := []) [] rfl
  refine vp_callSi (va_Run.run (va_runS (As := [.int set]) (rest := []) ⟨hx, hb, hml, hown, hts⟩ (c_J6_bitCount_0f7a4 l D cI cO set) (va_cwS 1 hts gX1_canHang_J6_bitCount_0f7a4 rfl rfl rfl (by decide +kernel) ⟨Nat.le_of_ble_eq_true rfl, Nat.le_of_ble_eq_true rfl⟩) (preSR hPc hK hNw) rfl rfl hl.1 rfl (lv_room (Nat.le_of_ble_eq_true rfl)) dX1_canHang_1 ⟨Nat.zero_le _, Nat.zero_le _⟩)) (fun r1 w1 => ?_)
  obtain rfl := w1
  refine lv_iconst (v := 3) hx hb dX1_canHang_4 (by decide) ?_
  refine lv_icmp_ne (tgt := 31) hx hb dX1_canHang_5 (by decide) (fun c5 => ?_) (fun c5 => ?_)
  · -- t5
    refine lv_iconst (v := 0) hx hb dX1_canHang_31 (by decide) ?_
    exact W.zret (v := 0) (ty := .boolean) hx hb hr rfl (fun t ht hW => ⟨_, rfl, by first | exact so_yes (by simp [canH, *]; done) | exact so_no (by simp [canH, *]; done), ht⟩) (fun _ h => absurd h List.not_mem_nil) dX1_canHang_32
  · -- f5
    refine lv_iconst (v := 2) hx hb dX1_canHang_8 (by decide) ?_
    refine lv_aload_n hx hb dX1_canHang_9 rfl (lv_at hl 0 rfl) ?_
    refine lv_aload_n hx hb dX1_canHang_10 rfl (lv_at hl 0 rfl) ?_
    refine lv_iload_n hx hb dX1_canHang_11 rfl (lv_at hl 1 rfl) ?_
    have hPc := hP.sub (ws' := [(h, .inr (1, [.ref ka, .ref sa, .int (nI n)])), (sa, .inl (cI, 9, .inl sd))]) [0, 1] rfl
    refine vp_callSi (va_Run.run (va_runV (As := [.int set]) (rest := [.ref h, .int 2]) ⟨hx, hb, hml, hown, hts⟩ (c_X1_cornerOf l D cI cO h ka sa n sd set (by assumption) (by assumption)) (cwV 1 hts gX1_canHang_X1_cornerOf rfl rfl rfl (by decide +kernel) ⟨Nat.le_of_ble_eq_true rfl, Nat.le_of_ble_eq_true rfl⟩) (preVR hPc hK hNw (va_recv hK hPc (ci := 1) (q0 := 0) rfl rfl)) rfl rfl hl.1 rfl (lv_room (Nat.le_of_ble_eq_true rfl)) dX1_canHang_12 ⟨Nat.zero_le _, Nat.zero_le _⟩)) (fun r12 w12 => ?_)
    obtain rfl := w12
    have hPc := hP.sub (ws' := [(h, .inr (1, [.ref ka, .ref sa, .int (nI n)])), (sa, .inl (cI, 9, .inl sd))]) [0, 1] rfl
    refine vp_callSi (va_Run.run (va_runV (As := [.int (cornW sd set n)]) (rest := [.int 2]) ⟨hx, hb, hml, hown, hts⟩ (c_X1_sideOf l D cI cO h ka sa n sd (cornW sd set n) (by assumption)) (cwV 1 hts gX1_canHang_X1_sideOf rfl rfl rfl (by decide +kernel) ⟨Nat.le_of_ble_eq_true rfl, Nat.le_of_ble_eq_true rfl⟩) (preVR hPc hK hNw (va_recv hK hPc (ci := 1) (q0 := 0) rfl rfl)) rfl rfl hl.1 rfl (lv_room (Nat.le_of_ble_eq_true rfl)) dX1_canHang_15 ⟨Nat.zero_le _, Nat.zero_le _⟩)) (fun r15 w15 => ?_)
    obtain rfl := w15
    refine lv_imul hx hb dX1_canHang_18 ?_
    refine lv_aload_n hx hb dX1_canHang_19 rfl (lv_at hl 0 rfl) ?_
    refine lv_iload_n hx hb dX1_canHang_20 rfl (lv_at hl 1 rfl) ?_
    have hPc := hP.sub (ws' := [(h, .inr (1, [.ref ka, .ref sa, .int (nI n)])), (sa, .inl (cI, 9, .inl sd))]) [0, 1] rfl
    refine vp_callSi (va_Run.run (va_runV (As := [.int set]) (rest := [.int (2 * (sideF n sd (cornW sd set n)))]) ⟨hx, hb, hml, hown, hts⟩ (c_X1_pitchOf l D cI cO h ka sa n sd set (by assumption)) (cwV 1 hts gX1_canHang_X1_pitchOf rfl rfl rfl (by decide +kernel) ⟨Nat.le_of_ble_eq_true rfl, Nat.le_of_ble_eq_true rfl⟩) (preVR hPc hK hNw (va_recv hK hPc (ci := 1) (q0 := 0) rfl rfl)) rfl rfl hl.1 rfl (lv_room (Nat.le_of_ble_eq_true rfl)) dX1_canHang_21 ⟨Nat.zero_le _, Nat.zero_le _⟩)) (fun r21 w21 => ?_)
    obtain rfl := w21
    refine lv_icmp_ge (tgt := 31) hx hb dX1_canHang_24 (by decide) (fun c24 => ?_) (fun c24 => ?_)
    · -- t24
      refine lv_iconst (v := 0) hx hb dX1_canHang_31 (by decide) ?_
      exact W.zret (v := 0) (ty := .boolean) hx hb hr rfl (fun t ht hW => ⟨_, rfl, by first | exact so_yes (by simp [canH, *]; done) | exact so_no (by simp [canH, *]; done), ht⟩) (fun _ h => absurd h List.not_mem_nil) dX1_canHang_32
    · -- f24
      refine lv_iconst (v := 1) hx hb dX1_canHang_27 (by decide) ?_
      refine lv_goto (tgt := 32) hx hb dX1_canHang_28 (by decide) ?_
      exact W.zret (v := 1) (ty := .boolean) hx hb hr rfl (fun t ht hW => ⟨_, rfl, by first | exact so_yes (by simp [canH, *]; done) | exact so_no (by simp [canH, *]; done), ht⟩) (fun _ h => absurd h List.not_mem_nil) dX1_canHang_32

set_option maxHeartbeats 4000000 in
set_option maxRecDepth 100000 in
theorem c_X1_kindBy (l : Launch) (D : va_G) (cI cO : ClassId) (x : Int32) : Met l yX1_kindBy wsX1_kindBy ({ frames := 0, cells := 0, slots := 0, locals := 0 } : Room) (va_Pc [.int x] (wdR D cI cO [])) (vp_Si (fun r => r = kindI x)) 0 0 (fun _ => False) := by
  refine Met.ofW (cc := cX1_kindBy) (maxL := 1) (ret := (some .int)) (by decide) rfl ?_
  intro p e s m args below meth c s₁ B hml hv
  obtain ⟨rfl, hP, hK, hNw⟩ := hv
  have hx := B.exec
  have hb := B.bytes
  have hr := B.returns
  have hts := atoms_spec (ws := wsX1_kindBy) B.pre
  have hown : s.vm.findClass RX1 = some m.cls := findClass_of_methodNamed B.named
  have hlocks := B.notSynchronized
  have hP : va_P D vwCl [] s.heap := hP
  have hl := lv_entry ([.int x]) (n := 1) (Nat.le_of_ble_eq_true rfl)
  rw [lg_entry_eq]
  generalize (lg_sl ([.int x]) ++ List.replicate (1 - (lg_sl ([.int x])).length) Slot.unset).toArray = ls at hl ⊢
  have hl : lv_has ls 1 [(0, .int x)] := hl
  refine lv_iload_n hx hb dX1_kindBy_0 rfl (lv_at hl 0 rfl) ?_
  by_cases k1_98 : x = 98
  · -- case 98
    refine lv_lookup (off := 39) (tgt := 40) hx hb dX1_kindBy_1 (by decide) (by rw [k1_98]; decide) (by decide) ?_
    refine lv_iconst (v := 2) hx hb dX1_kindBy_40 (by decide) ?_
    exact W.iret (v := 2) hx hb hr (fun t ht hW => ⟨_, rfl, by simp [kindI, *], ht⟩) (fun _ h => absurd h List.not_mem_nil) dX1_kindBy_41
  by_cases k1_115 : x = 115
  · -- case 115
    refine lv_lookup (off := 35) (tgt := 36) hx hb dX1_kindBy_1 (by decide) (by rw [k1_115]; decide) (by decide) ?_
    refine lv_iconst (v := 0) hx hb dX1_kindBy_36 (by decide) ?_
    exact W.iret (v := 0) hx hb hr (fun t ht hW => ⟨_, rfl, by simp [kindI, *], ht⟩) (fun _ h => absurd h List.not_mem_nil) dX1_kindBy_37
  by_cases k1_119 : x = 119
  · -- case 119
    refine lv_lookup (off := 37) (tgt := 38) hx hb dX1_kindBy_1 (by decide) (by rw [k1_119]; decide) (by decide) ?_
    refine lv_iconst (v := 1) hx hb dX1_kindBy_38 (by decide) ?_
    exact W.iret (v := 1) hx hb hr (fun t ht hW => ⟨_, rfl, by simp [kindI, *], ht⟩) (fun _ h => absurd h List.not_mem_nil) dX1_kindBy_39
  refine lv_lookup (off := 41) (tgt := 42) hx hb dX1_kindBy_1 (by decide) (by show Op.lookupswitch.offset [(98, 39), (115, 35), (119, 37)] 41 _ = _; rw [lv_osw (k := 98) k1_98 (by decide), lv_osw (k := 115) k1_115 (by decide), lv_osw (k := 119) k1_119 (by decide)]; rfl) (by decide) ?_
  refine lv_bipush (v := -9) hx hb dX1_kindBy_42 (by decide) ?_
  exact W.iret (v := -9) hx hb hr (fun t ht hW => ⟨_, rfl, by simp [kindI, *], ht⟩) (fun _ h => absurd h List.not_mem_nil) dX1_kindBy_44

set_option maxHeartbeats 4000000 in
set_option maxRecDepth 100000 in
theorem c_X1_bendTo (l : Launch) (D : va_G) (cI cO : ClassId) (h : Nat) (ka : Nat) (sa : Nat) (n : Nat) (sd : Nat → Int32) (j : Nat) (v : Int32) (sz : Nat) (hn : n ≤ 9) (hj : j < n) : Met l yX1_bendTo wsX1_bendTo ({ frames := 1, cells := 0, slots := 0, locals := 21 } : Room) (va_Pc [.ref h, .int (nI j), .int v] (wdW D cI cO [(h, .inr (1, [.ref ka, .ref sa, .int (nI n)])), (sa, .inl (cI, 9, .inl sd))] sz)) (va_Qv (S := (Nat → Int32)) (fun u => u = upd sd j v) (fun u t => va_P D vwCl [(h, .inr (1, [.ref ka, .ref sa, .int (nI n)])), (sa, .inl (cI, 9, .inl u))] t.heap ∧ va_K D vwCl (tyL cI cO) t ∧ va_D (va_A [(h, .inr (1, [.ref ka, .ref sa, .int (nI n)])), (sa, .inl (cI, 9, .inl sd))] sz) [(h, .inr (1, [.ref ka, .ref sa, .int (nI n)])), (sa, .inl (cI, 9, .inl u))]) (va_A [(h, .inr (1, [.ref ka, .ref sa, .int (nI n)])), (sa, .inl (cI, 9, .inl sd))] sz)) 0 0 (va_A [(h, .inr (1, [.ref ka, .ref sa, .int (nI n)])), (sa, .inl (cI, 9, .inl sd))] sz) := by
  refine Met.ofW (cc := cX1_bendTo) (maxL := 3) (ret := none) (by decide) rfl ?_
  intro p e s m args below meth c s₁ B hml hv
  obtain ⟨rfl, hsz, hP, hK, hNw, hD0⟩ := hv
  have hx := B.exec
  have hb := B.bytes
  have hr := B.returns
  have hts := atoms_spec (ws := wsX1_bendTo) B.pre
  have hown : s.vm.findClass RX1 = some m.cls := findClass_of_methodNamed B.named
  have hlocks := B.notSynchronized
  have f15 := hts (.fieldLink RX1 15 "StruckThrees$People" "sides" "[I") (by decide +kernel)
  have iX1 : ∀ w ∈ wsX10, w ∈ wsX1_bendTo := by decide +kernel
  subst hsz
  have hD := hD0.self (sz := s.heap.size)
  generalize hAe : va_A [(h, .inr (1, [.ref ka, .ref sa, .int (nI n)])), (sa, .inl (cI, 9, .inl sd))] s.heap.size = A at hD ⊢
  have hA : ∀ q : Nat, s.heap.size ≤ q → A q := fun q h => by rw [← hAe]; exact Or.inr h
  have hS : va_S A s.heap s.heap [] := va_S.rf
  have hP : va_P D vwCl [(h, .inr (1, [.ref ka, .ref sa, .int (nI n)])), (sa, .inl (cI, 9, .inl sd))] s.heap := hP
  have hl := lv_entry ([.ref h, .int (nI j), .int v]) (n := 3) (Nat.le_of_ble_eq_true rfl)
  rw [lg_entry_eq]
  generalize (lg_sl ([.ref h, .int (nI j), .int v]) ++ List.replicate (3 - (lg_sl ([.ref h, .int (nI j), .int v])).length) Slot.unset).toArray = ls at hl ⊢
  have hl : lv_has ls 3 [(0, .ref h), (1, .int (nI j)), (2, .int v)] := hl
  refine lv_aload_n hx hb dX1_bendTo_0 rfl (lv_at hl 0 rfl) ?_
  refine lv_iload_n hx hb dX1_bendTo_1 rfl (lv_at hl 1 rfl) ?_
  have hPc := hP.sub (ws' := [(h, .inr (1, [.ref ka, .ref sa, .int (nI n)]))]) [0] rfl
  refine vp_callSi (va_Run.run (va_runV (As := [.int (nI j)]) (rest := []) ⟨hx, hb, hml, hown, hts⟩ (c_X1_has l D cI cO h ka sa n (nI j)) (cwV 1 hts gX1_bendTo_X1_has rfl rfl rfl (by decide +kernel) ⟨Nat.le_of_ble_eq_true rfl, Nat.le_of_ble_eq_true rfl⟩) (preVR hPc hK hNw (va_recv hK hPc (ci := 1) (q0 := 0) rfl rfl)) rfl rfl hl.1 rfl (lv_room (Nat.le_of_ble_eq_true rfl)) dX1_bendTo_2 ⟨Nat.zero_le _, Nat.zero_le _⟩)) (fun r2 w2 => ?_)
  by_cases b2 : ¬ (nI j) < 0 ∧ ¬ nI n ≤ (nI j)
  · -- y2
    obtain rfl := w2.1 b2
    refine lv_if_eq (tgt := 15) hx hb dX1_bendTo_5 (by decide) (fun h => absurd h (by decide)) (fun _ => ?_)
    refine lv_aload_n hx hb dX1_bendTo_8 rfl (lv_at hl 0 rfl) ?_
    refine va_get (D := D) (ci := 1) (v := .ref sa) (C := RX1) (T := TX1) (N := 3) hx hb hts iX1 hown hK hP 0 rfl rfl 1 (by decide) f15 (fun _ h9 => h9) rfl dX1_bendTo_9 ?_
    refine lv_iload_n hx hb dX1_bendTo_12 rfl (lv_at hl 1 rfl) ?_
    refine lv_iload_n hx hb dX1_bendTo_13 rfl (lv_at hl 2 rfl) ?_
    refine va_iast hx hb hK hP hD hS 1 0 rfl rfl (vp_in_nI (by omega) (by decide)) dX1_bendTo_14 (fun H locs hP hD hS => ?_)
    rw [nI_clamp (n := j) (by omega)] at hP hD
    have hP : va_P D vwCl [(h, .inr (1, [.ref ka, .ref sa, .int (nI n)])), (sa, .inl (cI, 9, .inl (upd sd j v)))] H := hP
    have hD : va_D A [(h, .inr (1, [.ref ka, .ref sa, .int (nI n)])), (sa, .inl (cI, 9, .inl (upd sd j v)))] := hD
    exact W.vret hx hb hr (fun t ht hW => ⟨⟨(upd sd j v), rfl, by rfl, by rw [ht]; exact hP, va_K.moved hW.alike hK, hD⟩, hS.F ht⟩) hS.2.2 dX1_bendTo_15
  · -- n2
    obtain rfl := w2.2 b2
    exact absurd (nin_nI hj (by omega)) b2
