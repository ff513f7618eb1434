set_option maxHeartbeats 4000000 in
set_option maxRecDepth 100000 in
theorem c_X0_placeOf (l : Launch) (D : va_G) (cI cO : ClassId) (pp : Int32) : Met l yX0_placeOf wsX0_placeOf ({ frames := 0, cells := 0, slots := 0, locals := 0 } : Room) (va_Pc [.int pp] (wdR D cI cO [])) (vp_Si (fun r => r = (plO pp))) 0 0 (fun _ => False) := by
  refine Met.ofW (cc := cX0_placeOf) (maxL := 1) (ret := (some .int)) (by decide) rfl ?_
  intro p e s m args below meth c s₁ B hml hv
  obtain ⟨rfl, hP, hK, hNw⟩ := hv
  have hx := B.exec
  have hb := B.bytes
  have hr := B.returns
  have hts := atoms_spec (ws := wsX0_placeOf) B.pre
  have hown : s.vm.findClass RX0 = some m.cls := findClass_of_methodNamed B.named
  have hlocks := B.notSynchronized
  have hP : va_P D vwCl [] s.heap := hP
  have hl := lv_entry ([.int pp]) (n := 1) (Nat.le_of_ble_eq_true rfl)
  rw [lg_entry_eq]
  generalize (lg_sl ([.int pp]) ++ List.replicate (1 - (lg_sl ([.int pp])).length) Slot.unset).toArray = ls at hl ⊢
  have hl : lv_has ls 1 [(0, .int pp)] := hl
  refine lv_iconst (v := 4) hx hb dX0_placeOf_0 (by decide) ?_
  refine lv_bipush (v := 8) hx hb dX0_placeOf_1 (by decide) ?_
  refine lv_iload_n hx hb dX0_placeOf_3 rfl (lv_at hl 0 rfl) ?_
  refine lv_isub hx hb dX0_placeOf_4 ?_
  refine lv_imul hx hb dX0_placeOf_5 ?_
  exact W.iret (v := 4 * (8 - pp)) hx hb hr (fun t ht hW => ⟨_, rfl, by rfl, ht⟩) (fun _ h => absurd h List.not_mem_nil) dX0_placeOf_6

set_option maxHeartbeats 4000000 in
set_option maxRecDepth 100000 in
theorem c_X0_threeOf (l : Launch) (D : va_G) (cI cO : ClassId) (mo : Nat) (mk : Int32) (md : Int32) (mr : Int32) (mw : Int64) (j : Nat) : Met l yX0_threeOf wsX0_threeOf ({ frames := 1, cells := 0, slots := 0, locals := 20 } : Room) (va_Pc [.ref mo, .int (nI j)] (wdR D cI cO [(mo, .inr (0, [.int mk, .int md, .int mr, .long mw]))])) (vp_Si (fun r => r = (mrT mw j))) 0 0 (fun _ => False) := by
  refine Met.ofW (cc := cX0_threeOf) (maxL := 3) (ret := (some .int)) (by decide) rfl ?_
  intro p e s m args below meth c s₁ B hml hv
  obtain ⟨rfl, hP, hK, hNw⟩ := hv
  have hx := B.exec
  have hb := B.bytes
  have hr := B.returns
  have hts := atoms_spec (ws := wsX0_threeOf) B.pre
  have hown : s.vm.findClass RX0 = some m.cls := findClass_of_methodNamed B.named
  have hlocks := B.notSynchronized
  have f24 := hts (.fieldLink RX0 24 "StruckThrees$Most" "row" "J") (by decide +kernel)
  have iX0 : ∀ w ∈ wsX00, w ∈ wsX0_threeOf := by decide +kernel
  have hP : va_P D vwCl [(mo, .inr (0, [.int mk, .int md, .int mr, .long mw]))] s.heap := hP
  have hl := lv_entry ([.ref mo, .int (nI j)]) (n := 3) (Nat.le_of_ble_eq_true rfl)
  rw [lg_entry_eq]
  generalize (lg_sl ([.ref mo, .int (nI j)]) ++ List.replicate (3 - (lg_sl ([.ref mo, .int (nI j)])).length) Slot.unset).toArray = ls at hl ⊢
  have hl : lv_has ls 3 [(0, .ref mo), (1, .int (nI j))] := hl
  refine lv_aload_n hx hb dX0_threeOf_0 rfl (lv_at hl 0 rfl) ?_
  refine va_get (D := D) (ci := 0) (v := .long mw) (C := RX0) (T := TX0) (N := 4) hx hb hts iX0 hown hK hP 0 rfl rfl 3 (by decide) f24 (fun _ h9 => h9) rfl dX0_threeOf_1 ?_
  refine lv_iload_n hx hb dX0_threeOf_4 rfl (lv_at hl 1 rfl) ?_
  have hPc := hP.sub (ws' := []) [] rfl
  refine vp_callSi (va_Run.run (va_runS (As := [.int (nI j)]) (rest := [.long mw]) ⟨hx, hb, hml, hown, hts⟩ (c_X0_placeOf l D cI cO (nI j)) (va_cwS 1 hts gX0_threeOf_X0_placeOf rfl rfl rfl (by decide +kernel) ⟨Nat.le_of_ble_eq_true rfl, Nat.le_of_ble_eq_true rfl⟩) (preSR hPc hK hNw) rfl rfl hl.1 rfl (lv_room (Nat.le_of_ble_eq_true rfl)) dX0_threeOf_5 ⟨Nat.zero_le _, Nat.zero_le _⟩)) (fun r5 w5 => ?_)
  obtain rfl := w5
  refine lv_lshr hx hb dX0_threeOf_8 rfl ?_
  refine lv_l2i hx hb dX0_threeOf_9 rfl ?_
  refine lv_bipush (v := 15) hx hb dX0_threeOf_10 (by decide) ?_
  refine lv_iand hx hb dX0_threeOf_12 ?_
  refine lv_istore_n (lv' := [(2, .int (((mw >>> ((plO (nI j)).toInt64 &&& 63)).toInt32) &&& 15)), (0, .ref mo), (1, .int (nI j))]) hx hb dX0_threeOf_13 rfl hl (by decide) rfl (fun ls hl => ?_)
  refine lv_iload_n hx hb dX0_threeOf_14 rfl (lv_at hl 0 rfl) ?_
  refine lv_bipush (v := 9) hx hb dX0_threeOf_15 (by decide) ?_
  refine lv_icmp_ne (tgt := 25) hx hb dX0_threeOf_17 (by decide) (fun c17 => ?_) (fun c17 => ?_)
  · -- t17
    refine lv_iload_n hx hb dX0_threeOf_25 rfl (lv_at hl 0 rfl) ?_
    exact W.iret (v := ((mw >>> ((plO (nI j)).toInt64 &&& 63)).toInt32) &&& 15) hx hb hr (fun t ht hW => ⟨_, rfl, by simp [mrT, c17], ht⟩) (fun _ h => absurd h List.not_mem_nil) dX0_threeOf_26
  · -- f17
    refine lv_bipush (v := -9) hx hb dX0_threeOf_20 (by decide) ?_
    refine lv_goto (tgt := 26) hx hb dX0_threeOf_22 (by decide) ?_
    exact W.iret (v := -9) hx hb hr (fun t ht hW => ⟨_, rfl, by simp [mrT, c17], ht⟩) (fun _ h => absurd h List.not_mem_nil) dX0_threeOf_26

set_option maxHeartbeats 4000000 in
set_option maxRecDepth 100000 in
theorem c_X0_write (l : Launch) (D : va_G) (cI cO : ClassId) (li : Int64) (set : Int32) (th : Int32) : Met l yX0_write wsX0_write ({ frames := 1, cells := 0, slots := 0, locals := 20 } : Room) (va_Pc [.long li, .int set, .int th] (wdR D cI cO [])) (vp_Sl (fun r => r = (wrW li set th 9))) 0 0 (fun _ => False) := by
  refine Met.ofW (cc := cX0_write) (maxL := 7) (ret := (some .long)) (by decide) rfl ?_
  intro p e s m args below meth c s₁ B hml hv
  obtain ⟨rfl, hP, hK, hNw⟩ := hv
  have hx := B.exec
  have hb := B.bytes
  have hr := B.returns
  have hts := atoms_spec (ws := wsX0_write) B.pre
  have hown : s.vm.findClass RX0 = some m.cls := findClass_of_methodNamed B.named
  have hlocks := B.notSynchronized
  have hP : va_P D vwCl [] s.heap := hP
  have hl := lv_entry ([.long li, .int set, .int th]) (n := 7) (Nat.le_of_ble_eq_true rfl)
  rw [lg_entry_eq]
  generalize (lg_sl ([.long li, .int set, .int th]) ++ List.replicate (7 - (lg_sl ([.long li, .int set, .int th])).length) Slot.unset).toArray = ls at hl ⊢
  have hl : lv_has ls 7 [(0, .long li), (2, .int set), (3, .int th)] := hl
  refine lv_lload_n hx hb dX0_write_0 rfl (lv_at hl 0 rfl) ?_
  refine lv_lstore (lv' := [(4, .long li), (0, .long li), (2, .int set), (3, .int th)]) hx hb dX0_write_1 hl (by decide) rfl (fun ls hl => ?_)
  refine lv_iconst (v := 0) hx hb dX0_write_3 (by decide) ?_
  refine lv_istore (lv' := [(6, .int 0), (4, .long li), (0, .long li), (2, .int set), (3, .int th)]) hx hb dX0_write_4 hl (by decide) rfl (fun ls hl => ?_)
  have lp6 : ∀ (fu6 : Nat) (i : Nat) (hi : i ≤ 9) (hm6 : 9 - i < fu6) (ls : Array Slot) (hl : lv_has ls 7 [(0, .long li), (2, .int set), (3, .int th), (4, .long (wrW li set th i)), (6, .int (nI i))]), W p l e (headSpec wsX0_write ({ frames := 1, cells := 0, slots := 0, locals := 20 } : Room)).room s m ([.long li, .int set, .int th]).toArray below meth c s.heap [] 0 0 (MQ below (vp_Sl (fun r => r = (wrW li set th 9))) ([.long li, .int set, .int th]).toArray s 0 0 (fun _ => False)) (F0 m 6 ls []) := by
    intro fu6
    induction fu6 with
    | zero =>
      intros; omega
    | succ fu6 ih6 =>
      intro i hi hm6 ls hl
      refine lv_iload hx hb dX0_write_6 (lv_at hl 4 rfl) ?_
      refine lv_bipush (v := 9) hx hb dX0_write_8 (by decide) ?_
      refine lv_icmp_ge (tgt := 44) hx hb dX0_write_10 (by decide) (fun c10 => ?_) (fun c10 => ?_)
      · -- t10
        have e10 : i = 9 := by have q := ge_n (n := 9) (by omega) (by omega) c10; omega
        rw [e10] at hl
        refine lv_lload hx hb dX0_write_44 (lv_at hl 3 rfl) ?_
        exact W.lret (v := wrW li set th 9) hx hb hr (fun t ht hW => ⟨_, rfl, by rfl, ht⟩) (fun _ h => absurd h List.not_mem_nil) dX0_write_46
      · -- f10
        have l10 : i < 9 := lt_n (n := 9) (by omega) (by omega) c10
        refine lv_iload_n hx hb dX0_write_13 rfl (lv_at hl 1 rfl) ?_
        refine lv_iconst (v := 1) hx hb dX0_write_14 (by decide) ?_
        refine lv_iload hx hb dX0_write_15 (lv_at hl 4 rfl) ?_
        refine lv_ishl hx hb dX0_write_17 ?_
        refine lv_iand hx hb dX0_write_18 ?_
        refine lv_if_eq (tgt := 38) hx hb dX0_write_19 (by decide) (fun c19 => ?_) (fun c19 => ?_)
        · -- t19
          have cb19 : bt set i = false := (bt_and0 set (by omega)).mp c19
          refine lv_iinc (v := nI (i + 1)) (lv' := [(6, .int (nI (i + 1))), (0, .long li), (2, .int set), (3, .int th), (4, .long (wrW li set th i))]) hx hb dX0_write_38 hl (k := 4) rfl (nI_1 _) (by decide) rfl (fun ls hl => ?_)
          refine lv_goto (tgt := 6) hx hb dX0_write_41 (by decide) ?_
          have e6_4 : (wrW li set th i) = wrW li set th (i + 1) := by simp [wrW, cb19]
          have hl : lv_has ls 7 [(6, .int (nI (i + 1))), (0, .long li), (2, .int set), (3, .int th), (4, .long (wrW li set th (i + 1)))] := by rw [← e6_4]; exact hl
          exact ih6 (i + 1) (by omega) (by omega) _ (lv_sub hl [1, 2, 3, 4, 0] rfl)
        · -- f19
          have cb19 : bt set i = true := by rw [← Bool.not_eq_false]; exact mt (bt_and0 set (by omega)).mpr c19
          refine lv_lload hx hb dX0_write_22 (lv_at hl 3 rfl) ?_
          refine lv_bipush (v := 9) hx hb dX0_write_24 (by decide) ?_
          refine lv_iload_n hx hb dX0_write_26 rfl (lv_at hl 2 rfl) ?_
          refine lv_isub hx hb dX0_write_27 ?_
          refine lv_i2l hx hb dX0_write_28 rfl ?_
          refine lv_iload hx hb dX0_write_29 (lv_at hl 4 rfl) ?_
          have hPc := hP.sub (ws' := []) [] rfl
          refine vp_callSi (va_Run.run (va_runS (As := [.int (nI i)]) (rest := [.long ((9 - th).toInt64), .long (wrW li set th i)]) ⟨hx, hb, hml, hown, hts⟩ (c_X0_placeOf l D cI cO (nI i)) (va_cwS 1 hts gX0_write_X0_placeOf rfl rfl rfl (by decide +kernel) ⟨Nat.le_of_ble_eq_true rfl, Nat.le_of_ble_eq_true rfl⟩) (preSR hPc hK hNw) rfl rfl hl.1 rfl (lv_room (Nat.le_of_ble_eq_true rfl)) dX0_write_31 ⟨Nat.zero_le _, Nat.zero_le _⟩)) (fun r31 w31 => ?_)
          obtain rfl := w31
          refine lv_lshl hx hb dX0_write_34 rfl ?_
          refine lv_lsub hx hb dX0_write_35 ?_
          refine lv_lstore (lv' := [(4, .long ((wrW li set th i) - (((9 - th).toInt64) <<< ((plO (nI i)).toInt64 &&& 63)))), (0, .long li), (2, .int set), (3, .int th), (6, .int (nI i))]) hx hb dX0_write_36 hl (by decide) rfl (fun ls hl => ?_)
          refine lv_iinc (v := nI (i + 1)) (lv' := [(6, .int (nI (i + 1))), (4, .long ((wrW li set th i) - (((9 - th).toInt64) <<< ((plO (nI i)).toInt64 &&& 63)))), (0, .long li), (2, .int set), (3, .int th)]) hx hb dX0_write_38 hl (k := 4) rfl (nI_1 _) (by decide) rfl (fun ls hl => ?_)
          refine lv_goto (tgt := 6) hx hb dX0_write_41 (by decide) ?_
          have e6_4 : ((wrW li set th i) - (((9 - th).toInt64) <<< ((plO (nI i)).toInt64 &&& 63))) = wrW li set th (i + 1) := by simp [wrW, cb19]
          have hl : lv_has ls 7 [(6, .int (nI (i + 1))), (4, .long (wrW li set th (i + 1))), (0, .long li), (2, .int set), (3, .int th)] := by rw [← e6_4]; exact hl
          exact ih6 (i + 1) (by omega) (by omega) _ (lv_sub hl [2, 3, 4, 1, 0] rfl)
  exact lp6 _ 0 (Nat.zero_le _) (Nat.lt_succ_self _) _ (lv_sub hl [2, 3, 4, 1, 0] rfl)

set_option maxHeartbeats 4000000 in
set_option maxRecDepth 100000 in
theorem c_X0_keepIfBetter (l : Launch) (D : va_G) (cI cO : ClassId) (mo : Nat) (mk : Int32) (md : Int32) (mr : Int32) (mw : Int64) (hu : Int32) (ru : Int32) (li : Int64) (sz : Nat) : Met l yX0_keepIfBetter wsX0_keepIfBetter ({ frames := 0, cells := 0, slots := 0, locals := 0 } : Room) (va_Pc [.ref mo, .int hu, .int ru, .long li] (wdW D cI cO [(mo, .inr (0, [.int mk, .int md, .int mr, .long mw]))] sz)) (va_Qv (S := Int32 × Int32 × Int64) (fun u => u.1 = (kbZ (md, mr, mw) hu ru li).1 ∧ u.2.1 = (kbZ (md, mr, mw) hu ru li).2.1 ∧ u.2.2 = (kbZ (md, mr, mw) hu ru li).2.2) (fun u t => va_P D vwCl [(mo, .inr (0, [.int mk, .int u.1, .int u.2.1, .long u.2.2]))] t.heap ∧ va_K D vwCl (tyL cI cO) t ∧ va_D (va_A [(mo, .inr (0, [.int mk, .int md, .int mr, .long mw]))] sz) [(mo, .inr (0, [.int mk, .int u.1, .int u.2.1, .long u.2.2]))]) (va_A [(mo, .inr (0, [.int mk, .int md, .int mr, .long mw]))] sz)) 0 0 (va_A [(mo, .inr (0, [.int mk, .int md, .int mr, .long mw]))] sz) := by
  refine Met.ofW (cc := cX0_keepIfBetter) (maxL := 5) (ret := none) (by decide) rfl ?_
  intro p e s m args below meth c s₁ B hml hv
  obtain ⟨rfl, hsz, hP, hK, hNw, hD0⟩ := hv
  have hx := B.exec
  have hb := B.bytes
  have hr := B.returns
  have hts := atoms_spec (ws := wsX0_keepIfBetter) B.pre
  have hown : s.vm.findClass RX0 = some m.cls := findClass_of_methodNamed B.named
  have hlocks := B.notSynchronized
  have f15 := hts (.fieldLink RX0 15 "StruckThrees$Most" "made" "I") (by decide +kernel)
  have f19 := hts (.fieldLink RX0 19 "StruckThrees$Most" "rings" "I") (by decide +kernel)
  have f24 := hts (.fieldLink RX0 24 "StruckThrees$Most" "row" "J") (by decide +kernel)
  have iX0 : ∀ w ∈ wsX00, w ∈ wsX0_keepIfBetter := by decide +kernel
  subst hsz
  have hD := hD0.self (sz := s.heap.size)
  generalize hAe : va_A [(mo, .inr (0, [.int mk, .int md, .int mr, .long mw]))] s.heap.size = A at hD ⊢
  have hA : ∀ q : Nat, s.heap.size ≤ q → A q := fun q h => by rw [← hAe]; exact Or.inr h
  have hS : va_S A s.heap s.heap [] := va_S.rf
  have hP : va_P D vwCl [(mo, .inr (0, [.int mk, .int md, .int mr, .long mw]))] s.heap := hP
  have hl := lv_entry ([.ref mo, .int hu, .int ru, .long li]) (n := 5) (Nat.le_of_ble_eq_true rfl)
  rw [lg_entry_eq]
  generalize (lg_sl ([.ref mo, .int hu, .int ru, .long li]) ++ List.replicate (5 - (lg_sl ([.ref mo, .int hu, .int ru, .long li])).length) Slot.unset).toArray = ls at hl ⊢
  have hl : lv_has ls 5 [(0, .ref mo), (1, .int hu), (2, .int ru), (3, .long li)] := hl
  refine lv_iload_n hx hb dX0_keepIfBetter_0 rfl (lv_at hl 1 rfl) ?_
  refine lv_aload_n hx hb dX0_keepIfBetter_1 rfl (lv_at hl 0 rfl) ?_
  refine va_get (D := D) (ci := 0) (v := .int md) (C := RX0) (T := TX0) (N := 4) hx hb hts iX0 hown hK hP 0 rfl rfl 1 (by decide) f15 (fun _ h9 => h9) rfl dX0_keepIfBetter_2 ?_
  refine lv_icmp_ge (tgt := 9) hx hb dX0_keepIfBetter_5 (by decide) (fun c5 => ?_) (fun c5 => ?_)
  · -- t5
    refine lv_iload_n hx hb dX0_keepIfBetter_9 rfl (lv_at hl 1 rfl) ?_
    refine lv_aload_n hx hb dX0_keepIfBetter_10 rfl (lv_at hl 0 rfl) ?_
    refine va_get (D := D) (ci := 0) (v := .int md) (C := RX0) (T := TX0) (N := 4) hx hb hts iX0 hown hK hP 0 rfl rfl 1 (by decide) f15 (fun _ h9 => h9) rfl dX0_keepIfBetter_11 ?_
    refine lv_icmp_ne (tgt := 26) hx hb dX0_keepIfBetter_14 (by decide) (fun c14 => ?_) (fun c14 => ?_)
    · -- t14
      refine lv_iload_n hx hb dX0_keepIfBetter_26 rfl (lv_at hl 1 rfl) ?_
      refine lv_aload_n hx hb dX0_keepIfBetter_27 rfl (lv_at hl 0 rfl) ?_
      refine va_get (D := D) (ci := 0) (v := .int md) (C := RX0) (T := TX0) (N := 4) hx hb hts iX0 hown hK hP 0 rfl rfl 1 (by decide) f15 (fun _ h9 => h9) rfl dX0_keepIfBetter_28 ?_
      refine lv_icmp_ne (tgt := 52) hx hb dX0_keepIfBetter_31 (by decide) (fun c31 => ?_) (fun c31 => ?_)
      · -- t31
        refine lv_aload_n hx hb dX0_keepIfBetter_52 rfl (lv_at hl 0 rfl) ?_
        refine lv_iload_n hx hb dX0_keepIfBetter_53 rfl (lv_at hl 1 rfl) ?_
        refine va_put (D := D) (ci := 0) (v := .int hu) (ty := .int) (C := RX0) (T := TX0) (N := 4) hx hb hts iX0 tyX0 tyX0_ok nmX0 hown hK hP hD hS 0 rfl rfl 1 (by decide) f15 (fun _ h9 => h9) rfl (by decide +kernel) rfl rfl (Nat.le_of_ble_eq_true rfl) dX0_keepIfBetter_54 (fun H locs hP hD hS => ?_)
        have hP : va_P D vwCl [(mo, .inr (0, [.int mk, .int hu, .int mr, .long mw]))] H := hP
        have hD : va_D A [(mo, .inr (0, [.int mk, .int hu, .int mr, .long mw]))] := hD
        refine lv_aload_n hx hb dX0_keepIfBetter_57 rfl (lv_at hl 0 rfl) ?_
        refine lv_iload_n hx hb dX0_keepIfBetter_58 rfl (lv_at hl 2 rfl) ?_
        refine va_put (D := D) (ci := 0) (v := .int ru) (ty := .int) (C := RX0) (T := TX0) (N := 4) hx hb hts iX0 tyX0 tyX0_ok nmX0 hown hK hP hD hS 0 rfl rfl 2 (by decide) f19 (fun _ h9 => h9) rfl (by decide +kernel) rfl rfl (Nat.le_of_ble_eq_true rfl) dX0_keepIfBetter_59 (fun H locs hP hD hS => ?_)
        have hP : va_P D vwCl [(mo, .inr (0, [.int mk, .int hu, .int ru, .long mw]))] H := hP
        have hD : va_D A [(mo, .inr (0, [.int mk, .int hu, .int ru, .long mw]))] := hD
        refine lv_aload_n hx hb dX0_keepIfBetter_62 rfl (lv_at hl 0 rfl) ?_
        refine lv_lload_n hx hb dX0_keepIfBetter_63 rfl (lv_at hl 3 rfl) ?_
        refine va_put (D := D) (ci := 0) (v := .long li) (ty := .long) (C := RX0) (T := TX0) (N := 4) hx hb hts iX0 tyX0 tyX0_ok nmX0 hown hK hP hD hS 0 rfl rfl 3 (by decide) f24 (fun _ h9 => h9) rfl (by decide +kernel) rfl rfl (Nat.le_of_ble_eq_true rfl) dX0_keepIfBetter_64 (fun H locs hP hD hS => ?_)
        have hP : va_P D vwCl [(mo, .inr (0, [.int mk, .int hu, .int ru, .long li]))] H := hP
        have hD : va_D A [(mo, .inr (0, [.int mk, .int hu, .int ru, .long li]))] := hD
        exact W.vret hx hb hr (fun t ht hW => ⟨⟨(hu, ru, li), rfl, by simp [kbZ, kbB, *], by rw [ht]; exact hP, va_K.moved hW.alike hK, hD⟩, hS.F ht⟩) hS.2.2 dX0_keepIfBetter_67
      · -- f31
        exact absurd c31 c14
    · -- f14
      refine lv_iload_n hx hb dX0_keepIfBetter_17 rfl (lv_at hl 2 rfl) ?_
      refine lv_aload_n hx hb dX0_keepIfBetter_18 rfl (lv_at hl 0 rfl) ?_
      refine va_get (D := D) (ci := 0) (v := .int mr) (C := RX0) (T := TX0) (N := 4) hx hb hts iX0 hown hK hP 0 rfl rfl 2 (by decide) f19 (fun _ h9 => h9) rfl dX0_keepIfBetter_19 ?_
      refine lv_icmp_ge (tgt := 26) hx hb dX0_keepIfBetter_22 (by decide) (fun c22 => ?_) (fun c22 => ?_)
      · -- t22
        refine lv_iload_n hx hb dX0_keepIfBetter_26 rfl (lv_at hl 1 rfl) ?_
        refine lv_aload_n hx hb dX0_keepIfBetter_27 rfl (lv_at hl 0 rfl) ?_
        refine va_get (D := D) (ci := 0) (v := .int md) (C := RX0) (T := TX0) (N := 4) hx hb hts iX0 hown hK hP 0 rfl rfl 1 (by decide) f15 (fun _ h9 => h9) rfl dX0_keepIfBetter_28 ?_
        refine lv_icmp_ne (tgt := 52) hx hb dX0_keepIfBetter_31 (by decide) (fun c31 => ?_) (fun c31 => ?_)
        · -- t31
          exact absurd c14 c31
        · -- f31
          refine lv_iload_n hx hb dX0_keepIfBetter_34 rfl (lv_at hl 2 rfl) ?_
          refine lv_aload_n hx hb dX0_keepIfBetter_35 rfl (lv_at hl 0 rfl) ?_
          refine va_get (D := D) (ci := 0) (v := .int mr) (C := RX0) (T := TX0) (N := 4) hx hb hts iX0 hown hK hP 0 rfl rfl 2 (by decide) f19 (fun _ h9 => h9) rfl dX0_keepIfBetter_36 ?_
          refine lv_icmp_ne (tgt := 52) hx hb dX0_keepIfBetter_39 (by decide) (fun c39 => ?_) (fun c39 => ?_)
          · -- t39
            refine lv_aload_n hx hb dX0_keepIfBetter_52 rfl (lv_at hl 0 rfl) ?_
            refine lv_iload_n hx hb dX0_keepIfBetter_53 rfl (lv_at hl 1 rfl) ?_
            refine va_put (D := D) (ci := 0) (v := .int hu) (ty := .int) (C := RX0) (T := TX0) (N := 4) hx hb hts iX0 tyX0 tyX0_ok nmX0 hown hK hP hD hS 0 rfl rfl 1 (by decide) f15 (fun _ h9 => h9) rfl (by decide +kernel) rfl rfl (Nat.le_of_ble_eq_true rfl) dX0_keepIfBetter_54 (fun H locs hP hD hS => ?_)
            have hP : va_P D vwCl [(mo, .inr (0, [.int mk, .int hu, .int mr, .long mw]))] H := hP
            have hD : va_D A [(mo, .inr (0, [.int mk, .int hu, .int mr, .long mw]))] := hD
            refine lv_aload_n hx hb dX0_keepIfBetter_57 rfl (lv_at hl 0 rfl) ?_
            refine lv_iload_n hx hb dX0_keepIfBetter_58 rfl (lv_at hl 2 rfl) ?_
            refine va_put (D := D) (ci := 0) (v := .int ru) (ty := .int) (C := RX0) (T := TX0) (N := 4) hx hb hts iX0 tyX0 tyX0_ok nmX0 hown hK hP hD hS 0 rfl rfl 2 (by decide) f19 (fun _ h9 => h9) rfl (by decide +kernel) rfl rfl (Nat.le_of_ble_eq_true rfl) dX0_keepIfBetter_59 (fun H locs hP hD hS => ?_)
            have hP : va_P D vwCl [(mo, .inr (0, [.int mk, .int hu, .int ru, .long mw]))] H := hP
            have hD : va_D A [(mo, .inr (0, [.int mk, .int hu, .int ru, .long mw]))] := hD
            refine lv_aload_n hx hb dX0_keepIfBetter_62 rfl (lv_at hl 0 rfl) ?_
            refine lv_lload_n hx hb dX0_keepIfBetter_63 rfl (lv_at hl 3 rfl) ?_
            refine va_put (D := D) (ci := 0) (v := .long li) (ty := .long) (C := RX0) (T := TX0) (N := 4) hx hb hts iX0 tyX0 tyX0_ok nmX0 hown hK hP hD hS 0 rfl rfl 3 (by decide) f24 (fun _ h9 => h9) rfl (by decide +kernel) rfl rfl (Nat.le_of_ble_eq_true rfl) dX0_keepIfBetter_64 (fun H locs hP hD hS => ?_)
            have hP : va_P D vwCl [(mo, .inr (0, [.int mk, .int hu, .int ru, .long li]))] H := hP
            have hD : va_D A [(mo, .inr (0, [.int mk, .int hu, .int ru, .long li]))] := hD
            exact W.vret hx hb hr (fun t ht hW => ⟨⟨(hu, ru, li), rfl, by simp [kbZ, kbB, *], by rw [ht]; exact hP, va_K.moved hW.alike hK, hD⟩, hS.F ht⟩) hS.2.2 dX0_keepIfBetter_67
          · -- f39
            refine lv_lload_n hx hb dX0_keepIfBetter_42 rfl (lv_at hl 3 rfl) ?_
            refine lv_aload_n hx hb dX0_keepIfBetter_43 rfl (lv_at hl 0 rfl) ?_
            refine va_get (D := D) (ci := 0) (v := .long mw) (C := RX0) (T := TX0) (N := 4) hx hb hts iX0 hown hK hP 0 rfl rfl 3 (by decide) f24 (fun _ h9 => h9) rfl dX0_keepIfBetter_44 ?_
            refine W.lcmp hx hb dX0_keepIfBetter_47 ?_
            refine lv_if_lt (tgt := 52) hx hb dX0_keepIfBetter_48 (by decide) (fun c48 => ?_) (fun c48 => ?_)
            · -- t48
              refine lv_aload_n hx hb dX0_keepIfBetter_52 rfl (lv_at hl 0 rfl) ?_
              refine lv_iload_n hx hb dX0_keepIfBetter_53 rfl (lv_at hl 1 rfl) ?_
              refine va_put (D := D) (ci := 0) (v := .int hu) (ty := .int) (C := RX0) (T := TX0) (N := 4) hx hb hts iX0 tyX0 tyX0_ok nmX0 hown hK hP hD hS 0 rfl rfl 1 (by decide) f15 (fun _ h9 => h9) rfl (by decide +kernel) rfl rfl (Nat.le_of_ble_eq_true rfl) dX0_keepIfBetter_54 (fun H locs hP hD hS => ?_)
              have hP : va_P D vwCl [(mo, .inr (0, [.int mk, .int hu, .int mr, .long mw]))] H := hP
              have hD : va_D A [(mo, .inr (0, [.int mk, .int hu, .int mr, .long mw]))] := hD
              refine lv_aload_n hx hb dX0_keepIfBetter_57 rfl (lv_at hl 0 rfl) ?_
              refine lv_iload_n hx hb dX0_keepIfBetter_58 rfl (lv_at hl 2 rfl) ?_
              refine va_put (D := D) (ci := 0) (v := .int ru) (ty := .int) (C := RX0) (T := TX0) (N := 4) hx hb hts iX0 tyX0 tyX0_ok nmX0 hown hK hP hD hS 0 rfl rfl 2 (by decide) f19 (fun _ h9 => h9) rfl (by decide +kernel) rfl rfl (Nat.le_of_ble_eq_true rfl) dX0_keepIfBetter_59 (fun H locs hP hD hS => ?_)
              have hP : va_P D vwCl [(mo, .inr (0, [.int mk, .int hu, .int ru, .long mw]))] H := hP
              have hD : va_D A [(mo, .inr (0, [.int mk, .int hu, .int ru, .long mw]))] := hD
              refine lv_aload_n hx hb dX0_keepIfBetter_62 rfl (lv_at hl 0 rfl) ?_
              refine lv_lload_n hx hb dX0_keepIfBetter_63 rfl (lv_at hl 3 rfl) ?_
              refine va_put (D := D) (ci := 0) (v := .long li) (ty := .long) (C := RX0) (T := TX0) (N := 4) hx hb hts iX0 tyX0 tyX0_ok nmX0 hown hK hP hD hS 0 rfl rfl 3 (by decide) f24 (fun _ h9 => h9) rfl (by decide +kernel) rfl rfl (Nat.le_of_ble_eq_true rfl) dX0_keepIfBetter_64 (fun H locs hP hD hS => ?_)
              have hP : va_P D vwCl [(mo, .inr (0, [.int mk, .int hu, .int ru, .long li]))] H := hP
              have hD : va_D A [(mo, .inr (0, [.int mk, .int hu, .int ru, .long li]))] := hD
              exact W.vret hx hb hr (fun t ht hW => ⟨⟨(hu, ru, li), rfl, by simp [kbZ, kbB, *], by rw [ht]; exact hP, va_K.moved hW.alike hK, hD⟩, hS.F ht⟩) hS.2.2 dX0_keepIfBetter_67
            · -- f48
              exact W.vret hx hb hr (fun t ht hW => ⟨⟨(md, mr, mw), rfl, by simp [kbZ, kbB, *], by rw [ht]; exact hP, va_K.moved hW.alike hK, hD⟩, hS.F ht⟩) hS.2.2 dX0_keepIfBetter_51
      · -- f22
        exact W.vret hx hb hr (fun t ht hW => ⟨⟨(md, mr, mw), rfl, by simp [kbZ, kbB, *], by rw [ht]; exact hP, va_K.moved hW.alike hK, hD⟩, hS.F ht⟩) hS.2.2 dX0_keepIfBetter_25
  · -- f5
    exact W.vret hx hb hr (fun t ht hW => ⟨⟨(md, mr, mw), rfl, by simp [kbZ, kbB, *], by rw [ht]; exact hP, va_K.moved hW.alike hK, hD⟩, hS.F ht⟩) hS.2.2 dX0_keepIfBetter_8

set_option maxHeartbeats 4000000 in
set_option maxRecDepth 100000 in
theorem c_X0_place (l : Launch) (D : va_G) (cI cO : ClassId) : ∀ (d : Nat) (mo : Nat) (mk : Int32) (md : Int32) (mr : Int32) (mw : Int64) (pe : Nat) (ka : Nat) (sa : Nat) (n : Nat) (kd : Nat → Int32) (sd : Nat → Int32) (wn : Nat) (hh : Nat) (rr : Int32) (li : Int64) (sz : Nat) (hwd : wn < d) (hw2 : wn < 2 ^ n) (hn : n ≤ 9) (hs : ∀ j, j < n → 1 ≤ sd j),  Met l yX0_place wsX0_place ({ frames := d + 5, cells := 0, slots := 0, locals := 31 * d + 120 } : Room) (va_Pc [.ref mo, .ref pe, .int (nI wn), .int (nI hh), .int rr, .long li] (wdW D cI cO [(mo, .inr (0, [.int mk, .int md, .int mr, .long mw])), (pe, .inr (1, [.ref ka, .ref sa, .int (nI n)])), (ka, .inl (cI, 9, .inl kd)), (sa, .inl (cI, 9, .inl sd))] sz)) (va_Qv (S := Int32 × Int32 × Int64) (fun u => u.1 = (plc n kd sd d wn hh rr li (md, mr, mw)).1 ∧ u.2.1 = (plc n kd sd d wn hh rr li (md, mr, mw)).2.1 ∧ u.2.2 = (plc n kd sd d wn hh rr li (md, mr, mw)).2.2) (fun u t => va_P D vwCl [(mo, .inr (0, [.int mk, .int u.1, .int u.2.1, .long u.2.2])), (pe, .inr (1, [.ref ka, .ref sa, .int (nI n)])), (ka, .inl (cI, 9, .inl kd)), (sa, .inl (cI, 9, .inl sd))] t.heap ∧ va_K D vwCl (tyL cI cO) t ∧ va_D (va_A [(mo, .inr (0, [.int mk, .int md, .int mr, .long mw])), (pe, .inr (1, [.ref ka, .ref sa, .int (nI n)])), (ka, .inl (cI, 9, .inl kd)), (sa, .inl (cI, 9, .inl sd))] sz) [(mo, .inr (0, [.int mk, .int u.1, .int u.2.1, .long u.2.2])), (pe, .inr (1, [.ref ka, .ref sa, .int (nI n)])), (ka, .inl (cI, 9, .inl kd)), (sa, .inl (cI, 9, .inl sd))]) (va_A [(mo, .inr (0, [.int mk, .int md, .int mr, .long mw])), (pe, .inr (1, [.ref ka, .ref sa, .int (nI n)])), (ka, .inl (cI, 9, .inl kd)), (sa, .inl (cI, 9, .inl sd))] sz)) 0 0 (va_A [(mo, .inr (0, [.int mk, .int md, .int mr, .long mw])), (pe, .inr (1, [.ref ka, .ref sa, .int (nI n)])), (ka, .inl (cI, 9, .inl kd)), (sa, .inl (cI, 9, .inl sd))] sz) := by
  intro d
  induction d with
  | zero => intros; exfalso; omega
  | succ d ih =>
  intro mo mk md mr mw pe ka sa n kd sd wn hh rr li sz hwd hw2 hn hs
  refine Met.ofW (cc := cX0_place) (maxL := 12) (ret := none) (by decide) rfl ?_
  intro p e s m args below meth c s₁ B hml hv
  obtain ⟨rfl, hsz, hP, hK, hNw, hD0⟩ := hv
  have hx := B.exec
  have hb := B.bytes
  have hr := B.returns
  have hts := atoms_spec (ws := wsX0_place) B.pre
  have hown : s.vm.findClass RX0 = some m.cls := findClass_of_methodNamed B.named
  have hlocks := B.notSynchronized
  have f15 := hts (.fieldLink RX0 15 "StruckThrees$Most" "made" "I") (by decide +kernel)
  have f54 := hNw.f (args := ([.ref mo, .ref pe, .int (nI wn), .int (nI hh), .int rr, .long li]).toArray) ("StruckThrees$Most", 54, "StruckThrees$People", "count", "I") (by decide)
  have iX0 : ∀ w ∈ wsX00, w ∈ wsX0_place := by decide +kernel
  have iX1 : ∀ w ∈ wsX10, w ∈ wsX0_place := by decide +kernel
  subst hsz
  have hD := hD0.self (sz := s.heap.size)
  generalize hAe : va_A [(mo, .inr (0, [.int mk, .int md, .int mr, .long mw])), (pe, .inr (1, [.ref ka, .ref sa, .int (nI n)])), (ka, .inl (cI, 9, .inl kd)), (sa, .inl (cI, 9, .inl sd))] s.heap.size = A at hD ⊢
  have hA : ∀ q : Nat, s.heap.size ≤ q → A q := fun q h => by rw [← hAe]; exact Or.inr h
  have hS : va_S A s.heap s.heap [] := va_S.rf
  have hP : va_P D vwCl [(mo, .inr (0, [.int mk, .int md, .int mr, .long mw])), (pe, .inr (1, [.ref ka, .ref sa, .int (nI n)])), (ka, .inl (cI, 9, .inl kd)), (sa, .inl (cI, 9, .inl sd))] s.heap := hP
  have hl := lv_entry ([.ref mo, .ref pe, .int (nI wn), .int (nI hh), .int rr, .long li]) (n := 12) (Nat.le_of_ble_eq_true rfl)
  rw [lg_entry_eq]
  generalize (lg_sl ([.ref mo, .ref pe, .int (nI wn), .int (nI hh), .int rr, .long li]) ++ List.replicate (12 - (lg_sl ([.ref mo, .ref pe, .int (nI wn), .int (nI hh), .int rr, .long li])).length) Slot.unset).toArray = ls at hl ⊢
  have hl : lv_has ls 12 [(0, .ref mo), (1, .ref pe), (2, .int (nI wn)), (3, .int (nI hh)), (4, .int rr), (5, .long li)] := hl
  have hb2 := bnd_t hn
  have hw5 : wn < 512 := by omega
  refine lv_iload_n hx hb dX0_place_0 rfl (lv_at hl 3 rfl) ?_
  refine lv_iload_n hx hb dX0_place_1 rfl (lv_at hl 2 rfl) ?_
  have hPc := hP.sub (ws' := []) [] rfl
  refine vp_callSi (va_Run.run (va_runS (As := [.int (nI wn)]) (rest := [.int (nI hh)]) ⟨hx, hb, hml, hown, hts⟩ (c_J6_bitCount_0f7a4 l D cI cO (nI wn)) (va_cwS 1 hts gX0_place_J6_bitCount_0f7a4 rfl rfl rfl (by decide +kernel) ⟨by show 0 + 1 ≤ d + 1 + 5; omega, by show 8 + (1 + 11) + (0) ≤ 31 * (d + 1) + 120; omega⟩) (preSR hPc hK hNw) rfl rfl hl.1 rfl (lv_room (Nat.le_of_ble_eq_true rfl)) dX0_place_2 ⟨Nat.zero_le _, Nat.zero_le _⟩)) (fun r2 w2 => ?_)
  obtain rfl := w2
  refine lv_iconst (v := 3) hx hb dX0_place_5 (by decide) ?_
  refine lv_idiv hx hb dX0_place_6 (by decide) ?_
  refine lv_iadd hx hb dX0_place_7 ?_
  refine lv_aload_n hx hb dX0_place_8 rfl (lv_at hl 0 rfl) ?_
  refine va_get (D := D) (ci := 0) (v := .int md) (C := RX0) (T := TX0) (N := 4) hx hb hts iX0 hown hK hP 0 rfl rfl 1 (by decide) f15 (fun _ h9 => h9) rfl dX0_place_9 ?_
  refine lv_icmp_ge (tgt := 16) hx hb dX0_place_12 (by decide) (fun c12 => ?_) (fun c12 => ?_)
  · -- t12
    refine lv_iload_n hx hb dX0_place_16 rfl (lv_at hl 2 rfl) ?_
    refine lv_if_ne (tgt := 30) hx hb dX0_place_17 (by decide) (fun c17 => ?_) (fun c17 => ?_)
    · -- t17
      have hw0 : ¬ wn = 0 := fun q => c17 (by rw [q]; rfl)
      refine lv_iload_n hx hb dX0_place_30 rfl (lv_at hl 2 rfl) ?_
      have hPc := hP.sub (ws' := []) [] rfl
      refine vp_callSi (va_Run.run (va_runS (As := [.int (nI wn)]) (rest := []) ⟨hx, hb, hml, hown, hts⟩ (c_J6_lowestOneBit_0f7a4 l D cI cO (nI wn)) (va_cwS 1 hts gX0_place_J6_lowestOneBit_0f7a4 rfl rfl rfl (by decide +kernel) ⟨by show 0 + 1 ≤ d + 1 + 5; omega, by show 8 + (1 + 11) + (0) ≤ 31 * (d + 1) + 120; omega⟩) (preSR hPc hK hNw) rfl rfl hl.1 rfl (lv_room (Nat.le_of_ble_eq_true rfl)) dX0_place_31 ⟨Nat.zero_le _, Nat.zero_le _⟩)) (fun r31 w31 => ?_)
      obtain rfl := w31
      refine tp_i (y := nI (lowN wn)) (low_i wn hw5) ?_
      refine lv_istore (lv' := [(7, .int (nI (lowN wn))), (0, .ref mo), (1, .ref pe), (2, .int (nI wn)), (3, .int (nI hh)), (4, .int rr), (5, .long li)]) hx hb dX0_place_34 hl (by decide) rfl (fun ls hl => ?_)
      refine lv_iload_n hx hb dX0_place_36 rfl (lv_at hl 3 rfl) ?_
      refine lv_iload hx hb dX0_place_37 (lv_at hl 0 rfl) ?_
      refine lv_iconst (v := -1) hx hb dX0_place_39 (by decide) ?_
      refine lv_ixor hx hb dX0_place_40 ?_
      refine lv_iand hx hb dX0_place_41 ?_
      refine tp_i (y := nI (othN wn)) (oth_i wn hw5) ?_
      refine lv_istore (lv' := [(8, .int (nI (othN wn))), (7, .int (nI (lowN wn))), (0, .ref mo), (1, .ref pe), (2, .int (nI wn)), (3, .int (nI hh)), (4, .int rr), (5, .long li)]) hx hb dX0_place_42 hl (by decide) rfl (fun ls hl => ?_)
      refine lv_iconst (v := 0) hx hb dX0_place_44 (by decide) ?_
      refine lv_istore (lv' := [(9, .int 0), (8, .int (nI (othN wn))), (7, .int (nI (lowN wn))), (0, .ref mo), (1, .ref pe), (2, .int (nI wn)), (3, .int (nI hh)), (4, .int rr), (5, .long li)]) hx hb dX0_place_45 hl (by decide) rfl (fun ls hl => ?_)
      have lp47 : ∀ (fu47 : Nat) (b_ : Nat) (z1 : Int32) (z2 : Int32) (z3 : Int64) (hi : b_ ≤ n) (hq : lpB n kd sd (plc n kd sd d) wn hh rr li (n - b_) b_ (z1, z2, z3) = lpB n kd sd (plc n kd sd d) wn hh rr li n 0 (md, mr, mw)) (hm47 : n - b_ < fu47) (H : Heap) (locs : List Loc) (hP : va_P D vwCl [(mo, .inr (0, [.int mk, .int z1, .int z2, .long z3])), (pe, .inr (1, [.ref ka, .ref sa, .int (nI n)])), (ka, .inl (cI, 9, .inl kd)), (sa, .inl (cI, 9, .inl sd))] H) (hD : va_D A [(mo, .inr (0, [.int mk, .int z1, .int z2, .long z3])), (pe, .inr (1, [.ref ka, .ref sa, .int (nI n)])), (ka, .inl (cI, 9, .inl kd)), (sa, .inl (cI, 9, .inl sd))]) (hS : va_S A s.heap H locs) (ls : Array Slot) (hl : lv_has ls 12 [(0, .ref mo), (1, .ref pe), (2, .int (nI wn)), (3, .int (nI hh)), (4, .int rr), (5, .long li), (7, .int (nI (lowN wn))), (8, .int (nI (othN wn))), (9, .int (nI b_))]), W p l e (headSpec wsX0_place ({ frames := (d + 1) + 5, cells := 0, slots := 0, locals := 31 * (d + 1) + 120 } : Room)).room s m ([.ref mo, .ref pe, .int (nI wn), .int (nI hh), .int rr, .long li]).toArray below meth c H locs 0 0 (MQ below (va_Qv (S := Int32 × Int32 × Int64) (fun u => u.1 = (plc n kd sd (d + 1) wn hh rr li (md, mr, mw)).1 ∧ u.2.1 = (plc n kd sd (d + 1) wn hh rr li (md, mr, mw)).2.1 ∧ u.2.2 = (plc n kd sd (d + 1) wn hh rr li (md, mr, mw)).2.2) (fun u t => va_P D vwCl [(mo, .inr (0, [.int mk, .int u.1, .int u.2.1, .long u.2.2])), (pe, .inr (1, [.ref ka, .ref sa, .int (nI n)])), (ka, .inl (cI, 9, .inl kd)), (sa, .inl (cI, 9, .inl sd))] t.heap ∧ va_K D vwCl (tyL cI cO) t ∧ va_D A [(mo, .inr (0, [.int mk, .int u.1, .int u.2.1, .long u.2.2])), (pe, .inr (1, [.ref ka, .ref sa, .int (nI n)])), (ka, .inl (cI, 9, .inl kd)), (sa, .inl (cI, 9, .inl sd))]) A) ([.ref mo, .ref pe, .int (nI wn), .int (nI hh), .int rr, .long li]).toArray s 0 0 A) (F0 m 47 ls []) := by
        intro fu47
        induction fu47 with
        | zero =>
          intros; omega
        | succ fu47 ih47 =>
          intro b_ z1 z2 z3 hi hq hm47 H locs hP hD hS ls hl
          refine lv_iload hx hb dX0_place_47 (lv_at hl 8 rfl) ?_
          refine lv_aload_n hx hb dX0_place_49 rfl (lv_at hl 1 rfl) ?_
          refine va_getN (D := D) (ci := 1) (v := .int (nI n)) (C := RX1) (T := TX1) (N := 3) hx hb hts iX1 hown hK hP 1 rfl rfl 2 (by decide) f54 (fun _ h9 => h9) rfl dX0_place_50 ?_
          refine lv_icmp_ge (tgt := 160) hx hb dX0_place_53 (by decide) (fun c53 => ?_) (fun c53 => ?_)
          · -- t53
            have e53 : b_ = n := by have q := ge_n (by omega) (by omega) c53; omega
            rw [e53] at hl
            refine lv_aload_n hx hb dX0_place_160 rfl (lv_at hl 0 rfl) ?_
            refine lv_aload_n hx hb dX0_place_161 rfl (lv_at hl 1 rfl) ?_
            refine lv_iload hx hb dX0_place_162 (lv_at hl 7 rfl) ?_
            refine lv_iload_n hx hb dX0_place_164 rfl (lv_at hl 3 rfl) ?_
            refine lv_iload hx hb dX0_place_165 (lv_at hl 4 rfl) ?_
            refine lv_lload hx hb dX0_place_167 (lv_at hl 5 rfl) ?_
            have hPc := hP.sub (ws' := [(mo, .inr (0, [.int mk, .int z1, .int z2, .long z3])), (pe, .inr (1, [.ref ka, .ref sa, .int (nI n)])), (ka, .inl (cI, 9, .inl kd)), (sa, .inl (cI, 9, .inl sd))]) [0, 1, 2, 3] rfl
            have hDc := hD.sub (ws' := [(mo, .inr (0, [.int mk, .int z1, .int z2, .long z3])), (pe, .inr (1, [.ref ka, .ref sa, .int (nI n)])), (ka, .inl (cI, 9, .inl kd)), (sa, .inl (cI, 9, .inl sd))]) [0, 1, 2, 3] (by decide) rfl
            have hFc := va_free (wc := [(mo, .inr (0, [.int mk, .int z1, .int z2, .long z3])), (pe, .inr (1, [.ref ka, .ref sa, .int (nI n)])), (ka, .inl (cI, 9, .inl kd)), (sa, .inl (cI, 9, .inl sd))]) hD hS hA [0, 1, 2, 3] rfl
            refine va_callv (va_runV (As := [.ref pe, .int (nI (othN wn)), .int (nI hh), .int rr, .long li]) (rest := []) ⟨hx, hb, hml, hown, hts⟩ ((fun (_ : Launch) (_ : va_G) (_ _ : ClassId) => ih) l D cI cO mo mk z1 z2 z3 pe ka sa n kd sd (othN wn) hh rr li _ (by have q := oth_lt hw0; omega) (by have q := oth_lt hw0; omega) (by assumption) (by assumption)) (cwV 5 hts gX0_place_X0_place rfl rfl rfl (by decide +kernel) ⟨by show d + 5 + 1 ≤ d + 1 + 5; omega, by show 8 + (12 + 11) + (31 * d + 120) ≤ 31 * (d + 1) + 120; omega⟩) (preVW hPc hK hNw hDc (va_recv hK hPc (ci := 0) (q0 := 0) rfl rfl)) rfl rfl hl.1 rfl (lv_room (Nat.le_of_ble_eq_true rfl)) dX0_place_169 ⟨Nat.zero_le _, Nat.zero_le _⟩) hS (fun q _ h => hFc q h) hFc (fun u t H1 locs ht hvm w169 hB hz1 hk1 hS => ?_)
            obtain ⟨md1_169, mr1_169, mw1_169⟩ := u
            obtain ⟨hP1, hK1, hD1⟩ := hB
            rw [ht] at hP1
            try dsimp only at w169
            obtain ⟨hP, hD⟩ := va_join (wr := []) (w1 := [(mo, .inr (0, [.int mk, .int md1_169, .int mr1_169, .long mw1_169])), (pe, .inr (1, [.ref ka, .ref sa, .int (nI n)])), (ka, .inl (cI, 9, .inl kd)), (sa, .inl (cI, 9, .inl sd))]) hP hD [0, 1, 2, 3] [] rfl rfl (by decide) (by decide) hk1 hFc hP1 hD1
            generalize H1 = H at hP hS ⊢
            have hP := hP.sub (ws' := [(mo, .inr (0, [.int mk, .int md1_169, .int mr1_169, .long mw1_169])), (pe, .inr (1, [.ref ka, .ref sa, .int (nI n)])), (ka, .inl (cI, 9, .inl kd)), (sa, .inl (cI, 9, .inl sd))]) [0, 1, 2, 3] rfl
            have hD := hD.sub (ws' := [(mo, .inr (0, [.int mk, .int md1_169, .int mr1_169, .long mw1_169])), (pe, .inr (1, [.ref ka, .ref sa, .int (nI n)])), (ka, .inl (cI, 9, .inl kd)), (sa, .inl (cI, 9, .inl sd))]) [0, 1, 2, 3] (by decide) rfl
            obtain ⟨rfl, rfl, rfl⟩ := w169
            exact W.vret hx hb hr (fun t ht hW => ⟨⟨((plc n kd sd d (othN wn) hh rr li (z1, z2, z3)).1, (plc n kd sd d (othN wn) hh rr li (z1, z2, z3)).2.1, (plc n kd sd d (othN wn) hh rr li (z1, z2, z3)).2.2), rfl, by rw [plc_s, if_pos c12, if_neg hw0, ← hq, e53, Nat.sub_self]; exact ⟨rfl, rfl, rfl⟩, by rw [ht]; exact hP, va_K.moved hW.alike hK, hD⟩, hS.F ht⟩) hS.2.2 dX0_place_172
          · -- f53
            have l53 : b_ < n := lt_n (by omega) (by omega) c53
            refine lv_iload hx hb dX0_place_56 (lv_at hl 7 rfl) ?_
            refine lv_iconst (v := 1) hx hb dX0_place_58 (by decide) ?_
            refine lv_iload hx hb dX0_place_59 (lv_at hl 8 rfl) ?_
            refine lv_ishl hx hb dX0_place_61 ?_
            refine lv_iand hx hb dX0_place_62 ?_
            refine lv_if_ne (tgt := 69) hx hb dX0_place_63 (by decide) (fun c63 => ?_) (fun c63 => ?_)
            · -- t63
              have tb : (othN wn).testBit b_ = true := by rw [← Bool.not_eq_false]; exact mt (bit_z (by omega)).mpr c63
              refine lv_iload hx hb dX0_place_69 (lv_at hl 8 rfl) ?_
              refine lv_iconst (v := 1) hx hb dX0_place_71 (by decide) ?_
              refine lv_iadd hx hb dX0_place_72 ?_
              refine tp_i (y := nI (b_ + 1)) (nI_1 _) ?_
              refine lv_istore (lv' := [(10, .int (nI (b_ + 1))), (0, .ref mo), (1, .ref pe), (2, .int (nI wn)), (3, .int (nI hh)), (4, .int rr), (5, .long li), (7, .int (nI (lowN wn))), (8, .int (nI (othN wn))), (9, .int (nI b_))]) hx hb dX0_place_73 hl (by decide) rfl (fun ls hl => ?_)
              have lp75 : ∀ (fu75 : Nat) (c_ : Nat) (y1 : Int32) (y2 : Int32) (y3 : Int64) (hc : c_ ≤ n) (hq2 : lpC n kd sd (plc n kd sd d) wn hh rr li b_ (n - c_) c_ (y1, y2, y3) = lpC n kd sd (plc n kd sd d) wn hh rr li b_ (n - (b_ + 1)) (b_ + 1) (z1, z2, z3)) (hm75 : n - c_ < fu75) (H : Heap) (locs : List Loc) (hP : va_P D vwCl [(mo, .inr (0, [.int mk, .int y1, .int y2, .long y3])), (pe, .inr (1, [.ref ka, .ref sa, .int (nI n)])), (ka, .inl (cI, 9, .inl kd)), (sa, .inl (cI, 9, .inl sd))] H) (hD : va_D A [(mo, .inr (0, [.int mk, .int y1, .int y2, .long y3])), (pe, .inr (1, [.ref ka, .ref sa, .int (nI n)])), (ka, .inl (cI, 9, .inl kd)), (sa, .inl (cI, 9, .inl sd))]) (hS : va_S A s.heap H locs) (ls : Array Slot) (hl : lv_has ls 12 [(0, .ref mo), (1, .ref pe), (2, .int (nI wn)), (3, .int (nI hh)), (4, .int rr), (5, .long li), (7, .int (nI (lowN wn))), (8, .int (nI (othN wn))), (9, .int (nI b_)), (10, .int (nI c_))]), W p l e (headSpec wsX0_place ({ frames := (d + 1) + 5, cells := 0, slots := 0, locals := 31 * (d + 1) + 120 } : Room)).room s m ([.ref mo, .ref pe, .int (nI wn), .int (nI hh), .int rr, .long li]).toArray below meth c H locs 0 0 (MQ below (va_Qv (S := Int32 × Int32 × Int64) (fun u => u.1 = (plc n kd sd (d + 1) wn hh rr li (md, mr, mw)).1 ∧ u.2.1 = (plc n kd sd (d + 1) wn hh rr li (md, mr, mw)).2.1 ∧ u.2.2 = (plc n kd sd (d + 1) wn hh rr li (md, mr, mw)).2.2) (fun u t => va_P D vwCl [(mo, .inr (0, [.int mk, .int u.1, .int u.2.1, .long u.2.2])), (pe, .inr (1, [.ref ka, .ref sa, .int (nI n)])), (ka, .inl (cI, 9, .inl kd)), (sa, .inl (cI, 9, .inl sd))] t.heap ∧ va_K D vwCl (tyL cI cO) t ∧ va_D A [(mo, .inr (0, [.int mk, .int u.1, .int u.2.1, .long u.2.2])), (pe, .inr (1, [.ref ka, .ref sa, .int (nI n)])), (ka, .inl (cI, 9, .inl kd)), (sa, .inl (cI, 9, .inl sd))]) A) ([.ref mo, .ref pe, .int (nI wn), .int (nI hh), .int rr, .long li]).toArray s 0 0 A) (F0 m 75 ls []) := by
                intro fu75
                induction fu75 with
                | zero =>
                  intros; omega
                | succ fu75 ih75 =>
                  intro c_ y1 y2 y3 hc hq2 hm75 H locs hP hD hS ls hl
                  refine lv_iload hx hb dX0_place_75 (lv_at hl 9 rfl) ?_
                  refine lv_aload_n hx hb dX0_place_77 rfl (lv_at hl 1 rfl) ?_
                  refine va_getN (D := D) (ci := 1) (v := .int (nI n)) (C := RX1) (T := TX1) (N := 3) hx hb hts iX1 hown hK hP 1 rfl rfl 2 (by decide) f54 (fun _ h9 => h9) rfl dX0_place_78 ?_
                  refine lv_icmp_ge (tgt := 154) hx hb dX0_place_81 (by decide) (fun c81 => ?_) (fun c81 => ?_)
                  · -- t81
                    have e81 : c_ = n := by have q := ge_n (by omega) (by omega) c81; omega
                    rw [e81] at hl
                    refine lv_iinc (v := nI (b_ + 1)) (lv' := [(9, .int (nI (b_ + 1))), (0, .ref mo), (1, .ref pe), (2, .int (nI wn)), (3, .int (nI hh)), (4, .int rr), (5, .long li), (7, .int (nI (lowN wn))), (8, .int (nI (othN wn))), (10, .int (nI n))]) hx hb dX0_place_154 hl (k := 8) rfl (nI_1 _) (by decide) rfl (fun ls hl => ?_)
                    refine lv_goto (tgt := 47) hx hb dX0_place_157 (by decide) ?_
                    exact ih47 (b_ + 1) y1 y2 y3 (by omega) (by rw [← hq, show n - b_ = (n - (b_ + 1)) + 1 by omega, lpB_s, if_pos tb, ← hq2, e81, Nat.sub_self]; rfl) (by omega) _ _ hP hD hS _ (lv_sub hl [1, 2, 3, 4, 5, 6, 7, 8, 0] rfl)
                  · -- f81
                    have l81 : c_ < n := lt_n (by omega) (by omega) c81
                    refine lv_iload hx hb dX0_place_84 (lv_at hl 6 rfl) ?_
                    refine lv_iconst (v := 1) hx hb dX0_place_86 (by decide) ?_
                    refine lv_iload hx hb dX0_place_87 (lv_at hl 8 rfl) ?_
                    refine lv_ishl hx hb dX0_place_89 ?_
                    refine lv_ior hx hb dX0_place_90 ?_
                    refine lv_iconst (v := 1) hx hb dX0_place_91 (by decide) ?_
                    refine lv_iload hx hb dX0_place_92 (lv_at hl 9 rfl) ?_
                    refine lv_ishl hx hb dX0_place_94 ?_
                    refine lv_ior hx hb dX0_place_95 ?_
                    refine tp_i (y := nI (set3 wn b_ c_)) (set3_i (by omega) (by omega)) ?_
                    refine lv_istore (lv' := [(11, .int (nI (set3 wn b_ c_))), (0, .ref mo), (1, .ref pe), (2, .int (nI wn)), (3, .int (nI hh)), (4, .int rr), (5, .long li), (7, .int (nI (lowN wn))), (8, .int (nI (othN wn))), (9, .int (nI b_)), (10, .int (nI c_))]) hx hb dX0_place_96 hl (by decide) rfl (fun ls hl => ?_)
                    refine lv_iload hx hb dX0_place_98 (lv_at hl 8 rfl) ?_
                    refine lv_iconst (v := 1) hx hb dX0_place_100 (by decide) ?_
                    refine lv_iload hx hb dX0_place_101 (lv_at hl 10 rfl) ?_
                    refine lv_ishl hx hb dX0_place_103 ?_
                    refine lv_iand hx hb dX0_place_104 ?_
                    refine lv_if_eq (tgt := 148) hx hb dX0_place_105 (by decide) (fun c105 => ?_) (fun c105 => ?_)
                    · -- t105
                      have tc : ¬ (othN wn).testBit c_ = true := by rw [(bit_z (by omega)).mp c105]; decide
                      refine lv_iinc (v := nI (c_ + 1)) (lv' := [(10, .int (nI (c_ + 1))), (11, .int (nI (set3 wn b_ c_))), (0, .ref mo), (1, .ref pe), (2, .int (nI wn)), (3, .int (nI hh)), (4, .int rr), (5, .long li), (7, .int (nI (lowN wn))), (8, .int (nI (othN wn))), (9, .int (nI b_))]) hx hb dX0_place_148 hl (k := 10) rfl (nI_1 _) (by decide) rfl (fun ls hl => ?_)
                      refine lv_goto (tgt := 75) hx hb dX0_place_151 (by decide) ?_
                      exact ih75 (c_ + 1) y1 y2 y3 (by omega) (by rw [← hq2, show n - c_ = (n - (c_ + 1)) + 1 by omega, lpC_s]; first | (rw [if_neg (fun q => tc q.1)]; done) | (rw [if_neg (fun q => b111 q.2)]; done) | (rw [if_pos ⟨tc, b111⟩]; done)) (by omega) _ _ hP hD hS _ (lv_sub hl [2, 3, 4, 5, 6, 7, 8, 9, 10, 0] rfl)
                    · -- f105
                      have tc : (othN wn).testBit c_ = true := by rw [← Bool.not_eq_false]; exact mt (bit_z (by omega)).mpr c105
                      refine lv_aload_n hx hb dX0_place_108 rfl (lv_at hl 2 rfl) ?_
                      refine lv_iload hx hb dX0_place_109 (lv_at hl 0 rfl) ?_
                      have hPc := hP.sub (ws' := [(pe, .inr (1, [.ref ka, .ref sa, .int (nI n)])), (sa, .inl (cI, 9, .inl sd))]) [1, 3] rfl
                      refine vp_callSi (va_Run.run (va_runV (As := [.int (nI (set3 wn b_ c_))]) (rest := []) ⟨hx, hb, hml, hown, hts⟩ (c_X1_canHang l D cI cO pe ka sa n sd (nI (set3 wn b_ c_)) (by assumption) (by assumption)) (cwV 1 hts gX0_place_X1_canHang rfl rfl rfl (by decide +kernel) ⟨by show 3 + 1 ≤ d + 1 + 5; omega, by show 8 + (2 + 11) + (65) ≤ 31 * (d + 1) + 120; omega⟩) (preVR hPc hK hNw (va_recv hK hPc (ci := 1) (q0 := 0) rfl rfl)) rfl rfl hl.1 rfl (lv_room (Nat.le_of_ble_eq_true rfl)) dX0_place_111 ⟨Nat.zero_le _, Nat.zero_le _⟩)) (fun r111 w111 => ?_)
                      by_cases b111 : canH n sd (nI (set3 wn b_ c_)) = true
                      · -- y111
                        obtain rfl := w111.1 b111
                        refine lv_if_eq (tgt := 148) hx hb dX0_place_114 (by decide) (fun h => absurd h (by decide)) (fun _ => ?_)
                        refine lv_aload_n hx hb dX0_place_117 rfl (lv_at hl 1 rfl) ?_
                        refine lv_aload_n hx hb dX0_place_118 rfl (lv_at hl 2 rfl) ?_
                        refine lv_iload_n hx hb dX0_place_119 rfl (lv_at hl 3 rfl) ?_
                        refine lv_iload hx hb dX0_place_120 (lv_at hl 0 rfl) ?_
                        refine lv_iconst (v := -1) hx hb dX0_place_122 (by decide) ?_
                        refine lv_ixor hx hb dX0_place_123 ?_
                        refine lv_iand hx hb dX0_place_124 ?_
                        refine tp_i (y := nI (andn wn (set3 wn b_ c_))) (andn_i hw5 (set3_lt hw5 (by omega) (by omega))) ?_
                        refine lv_iload_n hx hb dX0_place_125 rfl (lv_at hl 4 rfl) ?_
                        refine lv_iconst (v := 1) hx hb dX0_place_126 (by decide) ?_
                        refine lv_iadd hx hb dX0_place_127 ?_
                        refine tp_i (y := nI (hh + 1)) (nI_1 _) ?_
                        refine lv_iload hx hb dX0_place_128 (lv_at hl 5 rfl) ?_
                        refine lv_aload_n hx hb dX0_place_130 rfl (lv_at hl 2 rfl) ?_
                        refine lv_iload hx hb dX0_place_131 (lv_at hl 0 rfl) ?_
                        have hPc := hP.sub (ws' := [(pe, .inr (1, [.ref ka, .ref sa, .int (nI n)])), (ka, .inl (cI, 9, .inl kd)), (sa, .inl (cI, 9, .inl sd))]) [1, 2, 3] rfl
                        refine vp_callSi (va_Run.run (va_runV (As := [.int (nI (set3 wn b_ c_))]) (rest := [.int rr, .int (nI (hh + 1)), .int (nI (andn wn (set3 wn b_ c_))), .ref pe, .ref mo]) ⟨hx, hb, hml, hown, hts⟩ (c_X1_ringsOf l D cI cO pe ka sa n kd sd (nI (set3 wn b_ c_)) (by assumption)) (cwV 1 hts gX0_place_X1_ringsOf rfl rfl rfl (by decide +kernel) ⟨by show 2 + 1 ≤ d + 1 + 5; omega, by show 8 + (4 + 11) + (42) ≤ 31 * (d + 1) + 120; omega⟩) (preVR hPc hK hNw (va_recv hK hPc (ci := 1) (q0 := 0) rfl rfl)) rfl rfl hl.1 rfl (lv_room (Nat.le_of_ble_eq_true rfl)) dX0_place_133 ⟨Nat.zero_le _, Nat.zero_le _⟩)) (fun r133 w133 => ?_)
                        obtain rfl := w133
                        refine lv_iadd hx hb dX0_place_136 ?_
                        refine lv_lload hx hb dX0_place_137 (lv_at hl 6 rfl) ?_
                        refine lv_iload hx hb dX0_place_139 (lv_at hl 0 rfl) ?_
                        refine lv_iload_n hx hb dX0_place_141 rfl (lv_at hl 4 rfl) ?_
                        have hPc := hP.sub (ws' := []) [] rfl
                        refine vp_callSl (va_Run.run (va_runS (As := [.long li, .int (nI (set3 wn b_ c_)), .int (nI hh)]) (rest := [.int (rr + (sumW (fun p => ringI (kd p) (sd p)) (nI (set3 wn b_ c_)) n)), .int (nI (hh + 1)), .int (nI (andn wn (set3 wn b_ c_))), .ref pe, .ref mo]) ⟨hx, hb, hml, hown, hts⟩ (c_X0_write l D cI cO li (nI (set3 wn b_ c_)) (nI hh)) (va_cwS 3 hts gX0_place_X0_write rfl rfl rfl (by decide +kernel) ⟨by show 1 + 1 ≤ d + 1 + 5; omega, by show 8 + (7 + 11) + (20) ≤ 31 * (d + 1) + 120; omega⟩) (preSR hPc hK hNw) rfl rfl hl.1 rfl (lv_room (Nat.le_of_ble_eq_true rfl)) dX0_place_142 ⟨Nat.zero_le _, Nat.zero_le _⟩)) (fun r142 w142 => ?_)
                        obtain rfl := w142
                        have hPc := hP.sub (ws' := [(mo, .inr (0, [.int mk, .int y1, .int y2, .long y3])), (pe, .inr (1, [.ref ka, .ref sa, .int (nI n)])), (ka, .inl (cI, 9, .inl kd)), (sa, .inl (cI, 9, .inl sd))]) [0, 1, 2, 3] rfl
                        have hDc := hD.sub (ws' := [(mo, .inr (0, [.int mk, .int y1, .int y2, .long y3])), (pe, .inr (1, [.ref ka, .ref sa, .int (nI n)])), (ka, .inl (cI, 9, .inl kd)), (sa, .inl (cI, 9, .inl sd))]) [0, 1, 2, 3] (by decide) rfl
                        have hFc := va_free (wc := [(mo, .inr (0, [.int mk, .int y1, .int y2, .long y3])), (pe, .inr (1, [.ref ka, .ref sa, .int (nI n)])), (ka, .inl (cI, 9, .inl kd)), (sa, .inl (cI, 9, .inl sd))]) hD hS hA [0, 1, 2, 3] rfl
                        refine va_callv (va_runV (As := [.ref pe, .int (nI (andn wn (set3 wn b_ c_))), .int (nI (hh + 1)), .int (rr + (sumW (fun p => ringI (kd p) (sd p)) (nI (set3 wn b_ c_)) n)), .long (wrW li (nI (set3 wn b_ c_)) (nI hh) 9)]) (rest := []) ⟨hx, hb, hml, hown, hts⟩ ((fun (_ : Launch) (_ : va_G) (_ _ : ClassId) => ih) l D cI cO mo mk y1 y2 y3 pe ka sa n kd sd (andn wn (set3 wn b_ c_)) (hh + 1) (rr + (sumW (fun p => ringI (kd p) (sd p)) (nI (set3 wn b_ c_)) n)) (wrW li (nI (set3 wn b_ c_)) (nI hh) 9) _ (by have q := andn_lt (b := b_) (c := c_) hw5 hw0; omega) (by have q := andn_lt (b := b_) (c := c_) hw5 hw0; omega) (by assumption) (by assumption)) (cwV 5 hts gX0_place_X0_place rfl rfl rfl (by decide +kernel) ⟨by show d + 5 + 1 ≤ d + 1 + 5; omega, by show 8 + (12 + 11) + (31 * d + 120) ≤ 31 * (d + 1) + 120; omega⟩) (preVW hPc hK hNw hDc (va_recv hK hPc (ci := 0) (q0 := 0) rfl rfl)) rfl rfl hl.1 rfl (lv_room (Nat.le_of_ble_eq_true rfl)) dX0_place_145 ⟨Nat.zero_le _, Nat.zero_le _⟩) hS (fun q _ h => hFc q h) hFc (fun u t H1 locs ht hvm w145 hB hz1 hk1 hS => ?_)
                        obtain ⟨md1_145, mr1_145, mw1_145⟩ := u
                        obtain ⟨hP1, hK1, hD1⟩ := hB
                        rw [ht] at hP1
                        try dsimp only at w145
                        obtain ⟨hP, hD⟩ := va_join (wr := []) (w1 := [(mo, .inr (0, [.int mk, .int md1_145, .int mr1_145, .long mw1_145])), (pe, .inr (1, [.ref ka, .ref sa, .int (nI n)])), (ka, .inl (cI, 9, .inl kd)), (sa, .inl (cI, 9, .inl sd))]) hP hD [0, 1, 2, 3] [] rfl rfl (by decide) (by decide) hk1 hFc hP1 hD1
                        generalize H1 = H at hP hS ⊢
                        have hP := hP.sub (ws' := [(mo, .inr (0, [.int mk, .int md1_145, .int mr1_145, .long mw1_145])), (pe, .inr (1, [.ref ka, .ref sa, .int (nI n)])), (ka, .inl (cI, 9, .inl kd)), (sa, .inl (cI, 9, .inl sd))]) [0, 1, 2, 3] rfl
                        have hD := hD.sub (ws' := [(mo, .inr (0, [.int mk, .int md1_145, .int mr1_145, .long mw1_145])), (pe, .inr (1, [.ref ka, .ref sa, .int (nI n)])), (ka, .inl (cI, 9, .inl kd)), (sa, .inl (cI, 9, .inl sd))]) [0, 1, 2, 3] (by decide) rfl
                        obtain ⟨rfl, rfl, rfl⟩ := w145
                        refine lv_iinc (v := nI (c_ + 1)) (lv' := [(10, .int (nI (c_ + 1))), (11, .int (nI (set3 wn b_ c_))), (0, .ref mo), (1, .ref pe), (2, .int (nI wn)), (3, .int (nI hh)), (4, .int rr), (5, .long li), (7, .int (nI (lowN wn))), (8, .int (nI (othN wn))), (9, .int (nI b_))]) hx hb dX0_place_148 hl (k := 10) rfl (nI_1 _) (by decide) rfl (fun ls hl => ?_)
                        refine lv_goto (tgt := 75) hx hb dX0_place_151 (by decide) ?_
                        exact ih75 (c_ + 1) (plc n kd sd d (andn wn (set3 wn b_ c_)) (hh + 1) (rr + (sumW (fun p => ringI (kd p) (sd p)) (nI (set3 wn b_ c_)) n)) (wrW li (nI (set3 wn b_ c_)) (nI hh) 9) (y1, y2, y3)).1 (plc n kd sd d (andn wn (set3 wn b_ c_)) (hh + 1) (rr + (sumW (fun p => ringI (kd p) (sd p)) (nI (set3 wn b_ c_)) n)) (wrW li (nI (set3 wn b_ c_)) (nI hh) 9) (y1, y2, y3)).2.1 (plc n kd sd d (andn wn (set3 wn b_ c_)) (hh + 1) (rr + (sumW (fun p => ringI (kd p) (sd p)) (nI (set3 wn b_ c_)) n)) (wrW li (nI (set3 wn b_ c_)) (nI hh) 9) (y1, y2, y3)).2.2 (by omega) (by rw [← hq2, show n - c_ = (n - (c_ + 1)) + 1 by omega, lpC_s]; first | (rw [if_neg (fun q => tc q.1)]; done) | (rw [if_neg (fun q => b111 q.2)]; done) | (rw [if_pos ⟨tc, b111⟩]; done)) (by omega) _ _ hP hD hS _ (lv_sub hl [2, 3, 4, 5, 6, 7, 8, 9, 10, 0] rfl)
                      · -- n111
                        obtain rfl := w111.2 b111
                        refine lv_if_eq (tgt := 148) hx hb dX0_place_114 (by decide) (fun _ => ?_) (fun h => absurd (by decide) h)
                        refine lv_iinc (v := nI (c_ + 1)) (lv' := [(10, .int (nI (c_ + 1))), (11, .int (nI (set3 wn b_ c_))), (0, .ref mo), (1, .ref pe), (2, .int (nI wn)), (3, .int (nI hh)), (4, .int rr), (5, .long li), (7, .int (nI (lowN wn))), (8, .int (nI (othN wn))), (9, .int (nI b_))]) hx hb dX0_place_148 hl (k := 10) rfl (nI_1 _) (by decide) rfl (fun ls hl => ?_)
                        refine lv_goto (tgt := 75) hx hb dX0_place_151 (by decide) ?_
                        exact ih75 (c_ + 1) y1 y2 y3 (by omega) (by rw [← hq2, show n - c_ = (n - (c_ + 1)) + 1 by omega, lpC_s]; first | (rw [if_neg (fun q => tc q.1)]; done) | (rw [if_neg (fun q => b111 q.2)]; done) | (rw [if_pos ⟨tc, b111⟩]; done)) (by omega) _ _ hP hD hS _ (lv_sub hl [2, 3, 4, 5, 6, 7, 8, 9, 10, 0] rfl)
              exact lp75 _ (b_ + 1) z1 z2 z3 (by omega) (rfl) (Nat.lt_succ_self _) _ _ hP hD hS _ (lv_sub hl [1, 2, 3, 4, 5, 6, 7, 8, 9, 0] rfl)
            · -- f63
              have tb : ¬ (othN wn).testBit b_ = true := by rw [(bit_z (by omega)).mp c63]; decide
              refine lv_goto (tgt := 154) hx hb dX0_place_66 (by decide) ?_
              refine lv_iinc (v := nI (b_ + 1)) (lv' := [(9, .int (nI (b_ + 1))), (0, .ref mo), (1, .ref pe), (2, .int (nI wn)), (3, .int (nI hh)), (4, .int rr), (5, .long li), (7, .int (nI (lowN wn))), (8, .int (nI (othN wn)))]) hx hb dX0_place_154 hl (k := 8) rfl (nI_1 _) (by decide) rfl (fun ls hl => ?_)
              refine lv_goto (tgt := 47) hx hb dX0_place_157 (by decide) ?_
              exact ih47 (b_ + 1) z1 z2 z3 (by omega) (by rw [← hq, show n - b_ = (n - (b_ + 1)) + 1 by omega, lpB_s, if_neg tb]) (by omega) _ _ hP hD hS _ (lv_sub hl [1, 2, 3, 4, 5, 6, 7, 8, 0] rfl)
      exact lp47 _ 0 md mr mw (Nat.zero_le _) (rfl) (Nat.lt_succ_self _) _ _ hP hD hS _ (lv_sub hl [3, 4, 5, 6, 7, 8, 2, 1, 0] rfl)
    · -- f17
      have hw0 : wn = 0 := (nI_zero (by omega)).mp c17
      refine lv_aload_n hx hb dX0_place_20 rfl (lv_at hl 0 rfl) ?_
      refine lv_iload_n hx hb dX0_place_21 rfl (lv_at hl 3 rfl) ?_
      refine lv_iload hx hb dX0_place_22 (lv_at hl 4 rfl) ?_
      refine lv_lload hx hb dX0_place_24 (lv_at hl 5 rfl) ?_
      have hPc := hP.sub (ws' := [(mo, .inr (0, [.int mk, .int md, .int mr, .long mw]))]) [0] rfl
      have hDc := hD.sub (ws' := [(mo, .inr (0, [.int mk, .int md, .int mr, .long mw]))]) [0] (by decide) rfl
      have hFc := va_free (wc := [(mo, .inr (0, [.int mk, .int md, .int mr, .long mw]))]) hD hS hA [0] rfl
      refine va_callv (va_runV (As := [.int (nI hh), .int rr, .long li]) (rest := []) ⟨hx, hb, hml, hown, hts⟩ (c_X0_keepIfBetter l D cI cO mo mk md mr mw (nI hh) rr li _) (cwV 3 hts gX0_place_X0_keepIfBetter rfl rfl rfl (by decide +kernel) ⟨by show 0 + 1 ≤ d + 1 + 5; omega, by show 8 + (5 + 11) + (0) ≤ 31 * (d + 1) + 120; omega⟩) (preVW hPc hK hNw hDc (va_recv hK hPc (ci := 0) (q0 := 0) rfl rfl)) rfl rfl hl.1 rfl (lv_room (Nat.le_of_ble_eq_true rfl)) dX0_place_26 ⟨Nat.zero_le _, Nat.zero_le _⟩) hS (fun q _ h => hFc q h) hFc (fun u t H1 locs ht hvm w26 hB hz1 hk1 hS => ?_)
      obtain ⟨md1_26, mr1_26, mw1_26⟩ := u
      obtain ⟨hP1, hK1, hD1⟩ := hB
      rw [ht] at hP1
      try dsimp only at w26
      obtain ⟨hP, hD⟩ := va_join (wr := [(pe, .inr (1, [.ref ka, .ref sa, .int (nI n)])), (ka, .inl (cI, 9, .inl kd)), (sa, .inl (cI, 9, .inl sd))]) (w1 := [(mo, .inr (0, [.int mk, .int md1_26, .int mr1_26, .long mw1_26]))]) hP hD [0] [1, 2, 3] rfl rfl (by decide) (by decide) hk1 hFc hP1 hD1
      generalize H1 = H at hP hS ⊢
      have hP := hP.sub (ws' := [(mo, .inr (0, [.int mk, .int md1_26, .int mr1_26, .long mw1_26])), (pe, .inr (1, [.ref ka, .ref sa, .int (nI n)])), (ka, .inl (cI, 9, .inl kd)), (sa, .inl (cI, 9, .inl sd))]) [3, 0, 1, 2] rfl
      have hD := hD.sub (ws' := [(mo, .inr (0, [.int mk, .int md1_26, .int mr1_26, .long mw1_26])), (pe, .inr (1, [.ref ka, .ref sa, .int (nI n)])), (ka, .inl (cI, 9, .inl kd)), (sa, .inl (cI, 9, .inl sd))]) [3, 0, 1, 2] (by decide) rfl
      obtain ⟨rfl, rfl, rfl⟩ := w26
      exact W.vret hx hb hr (fun t ht hW => ⟨⟨((kbZ (md, mr, mw) (nI hh) rr li).1, (kbZ (md, mr, mw) (nI hh) rr li).2.1, (kbZ (md, mr, mw) (nI hh) rr li).2.2), rfl, by rw [plc_s, if_pos c12, if_pos hw0]; exact ⟨rfl, rfl, rfl⟩, by rw [ht]; exact hP, va_K.moved hW.alike hK, hD⟩, hS.F ht⟩) hS.2.2 dX0_place_29
  · -- f12
    exact W.vret hx hb hr (fun t ht hW => ⟨⟨(md, mr, mw), rfl, by rw [plc_s, if_neg c12]; exact ⟨rfl, rfl, rfl⟩, by rw [ht]; exact hP, va_K.moved hW.alike hK, hD⟩, hS.F ht⟩) hS.2.2 dX0_place_15

set_option maxHeartbeats 4000000 in
set_option maxRecDepth 100000 in
theorem c_X0_find (l : Launch) (D : va_G) (cI cO : ClassId) (mo : Nat) (mk : Int32) (md : Int32) (mr : Int32) (mw : Int64) (pe : Nat) (ka : Nat) (sa : Nat) (n : Nat) (kd : Nat → Int32) (sd : Nat → Int32) (sz : Nat) (hn : n ≤ 9) (hs : ∀ j, j < n → 1 ≤ sd j) : Met l yX0_find wsX0_find ({ frames := 518, cells := 0, slots := 0, locals := 16023 } : Room) (va_Pc [.ref mo, .ref pe] (wdW D cI cO [(mo, .inr (0, [.int mk, .int md, .int mr, .long mw])), (pe, .inr (1, [.ref ka, .ref sa, .int (nI n)])), (ka, .inl (cI, 9, .inl kd)), (sa, .inl (cI, 9, .inl sd))] sz)) (va_Qv (S := Int32 × Int32 × Int32 × Int64) (fun u => u.1 = (if mk = 0 then 1 else mk) ∧ u.2.1 = (fndZ n kd sd mk (md, mr, mw)).1 ∧ u.2.2.1 = (fndZ n kd sd mk (md, mr, mw)).2.1 ∧ u.2.2.2 = (fndZ n kd sd mk (md, mr, mw)).2.2) (fun u t => va_P D vwCl [(mo, .inr (0, [.int u.1, .int u.2.1, .int u.2.2.1, .long u.2.2.2])), (pe, .inr (1, [.ref ka, .ref sa, .int (nI n)])), (ka, .inl (cI, 9, .inl kd)), (sa, .inl (cI, 9, .inl sd))] t.heap ∧ va_K D vwCl (tyL cI cO) t ∧ va_D (va_A [(mo, .inr (0, [.int mk, .int md, .int mr, .long mw])), (pe, .inr (1, [.ref ka, .ref sa, .int (nI n)])), (ka, .inl (cI, 9, .inl kd)), (sa, .inl (cI, 9, .inl sd))] sz) [(mo, .inr (0, [.int u.1, .int u.2.1, .int u.2.2.1, .long u.2.2.2])), (pe, .inr (1, [.ref ka, .ref sa, .int (nI n)])), (ka, .inl (cI, 9, .inl kd)), (sa, .inl (cI, 9, .inl sd))]) (va_A [(mo, .inr (0, [.int mk, .int md, .int mr, .long mw])), (pe, .inr (1, [.ref ka, .ref sa, .int (nI n)])), (ka, .inl (cI, 9, .inl kd)), (sa, .inl (cI, 9, .inl sd))] sz)) 0 0 (va_A [(mo, .inr (0, [.int mk, .int md, .int mr, .long mw])), (pe, .inr (1, [.ref ka, .ref sa, .int (nI n)])), (ka, .inl (cI, 9, .inl kd)), (sa, .inl (cI, 9, .inl sd))] sz) := by
  refine Met.ofW (cc := cX0_find) (maxL := 2) (ret := none) (by decide) rfl ?_
  intro p e s m args below meth c s₁ B hml hv
  obtain ⟨rfl, hsz, hP, hK, hNw, hD0⟩ := hv
  have hx := B.exec
  have hb := B.bytes
  have hr := B.returns
  have hts := atoms_spec (ws := wsX0_find) B.pre
  have hown : s.vm.findClass RX0 = some m.cls := findClass_of_methodNamed B.named
  have hlocks := B.notSynchronized
  have f9 := hts (.fieldLink RX0 9 "StruckThrees$Most" "isKnown" "Z") (by decide +kernel)
  have f15 := hts (.fieldLink RX0 15 "StruckThrees$Most" "made" "I") (by decide +kernel)
  have f19 := hts (.fieldLink RX0 19 "StruckThrees$Most" "rings" "I") (by decide +kernel)
  have f24 := hts (.fieldLink RX0 24 "StruckThrees$Most" "row" "J") (by decide +kernel)
  have iX0 : ∀ w ∈ wsX00, w ∈ wsX0_find := by decide +kernel
  subst hsz
  have hD := hD0.self (sz := s.heap.size)
  generalize hAe : va_A [(mo, .inr (0, [.int mk, .int md, .int mr, .long mw])), (pe, .inr (1, [.ref ka, .ref sa, .int (nI n)])), (ka, .inl (cI, 9, .inl kd)), (sa, .inl (cI, 9, .inl sd))] s.heap.size = A at hD ⊢
  have hA : ∀ q : Nat, s.heap.size ≤ q → A q := fun q h => by rw [← hAe]; exact Or.inr h
  have hS : va_S A s.heap s.heap [] := va_S.rf
  have hP : va_P D vwCl [(mo, .inr (0, [.int mk, .int md, .int mr, .long mw])), (pe, .inr (1, [.ref ka, .ref sa, .int (nI n)])), (ka, .inl (cI, 9, .inl kd)), (sa, .inl (cI, 9, .inl sd))] s.heap := hP
  have hl := lv_entry ([.ref mo, .ref pe]) (n := 2) (Nat.le_of_ble_eq_true rfl)
  rw [lg_entry_eq]
  generalize (lg_sl ([.ref mo, .ref pe]) ++ List.replicate (2 - (lg_sl ([.ref mo, .ref pe])).length) Slot.unset).toArray = ls at hl ⊢
  have hl : lv_has ls 2 [(0, .ref mo), (1, .ref pe)] := hl
  have hb2 := bnd_t hn
  have hp2 : 0 < 2 ^ n := Nat.pow_pos (by decide)
  refine lv_aload_n hx hb dX0_find_0 rfl (lv_at hl 0 rfl) ?_
  refine va_get (D := D) (ci := 0) (v := .int mk) (C := RX0) (T := TX0) (N := 4) hx hb hts iX0 hown hK hP 0 rfl rfl 0 (by decide) f9 (fun _ h9 => h9) rfl dX0_find_1 ?_
  refine lv_if_eq (tgt := 8) hx hb dX0_find_4 (by decide) (fun c4 => ?_) (fun c4 => ?_)
  · -- t4
    refine lv_aload_n hx hb dX0_find_8 rfl (lv_at hl 0 rfl) ?_
    refine lv_iconst (v := 0) hx hb dX0_find_9 (by decide) ?_
    refine va_put (D := D) (ci := 0) (v := .int 0) (ty := .int) (C := RX0) (T := TX0) (N := 4) hx hb hts iX0 tyX0 tyX0_ok nmX0 hown hK hP hD hS 0 rfl rfl 1 (by decide) f15 (fun _ h9 => h9) rfl (by decide +kernel) rfl rfl (Nat.le_of_ble_eq_true rfl) dX0_find_10 (fun H locs hP hD hS => ?_)
    have hP : va_P D vwCl [(mo, .inr (0, [.int mk, .int 0, .int mr, .long mw])), (pe, .inr (1, [.ref ka, .ref sa, .int (nI n)])), (ka, .inl (cI, 9, .inl kd)), (sa, .inl (cI, 9, .inl sd))] H := hP
    have hD : va_D A [(mo, .inr (0, [.int mk, .int 0, .int mr, .long mw])), (pe, .inr (1, [.ref ka, .ref sa, .int (nI n)])), (ka, .inl (cI, 9, .inl kd)), (sa, .inl (cI, 9, .inl sd))] := hD
    refine lv_aload_n hx hb dX0_find_13 rfl (lv_at hl 0 rfl) ?_
    refine lv_iconst (v := 0) hx hb dX0_find_14 (by decide) ?_
    refine va_put (D := D) (ci := 0) (v := .int 0) (ty := .int) (C := RX0) (T := TX0) (N := 4) hx hb hts iX0 tyX0 tyX0_ok nmX0 hown hK hP hD hS 0 rfl rfl 2 (by decide) f19 (fun _ h9 => h9) rfl (by decide +kernel) rfl rfl (Nat.le_of_ble_eq_true rfl) dX0_find_15 (fun H locs hP hD hS => ?_)
    have hP : va_P D vwCl [(mo, .inr (0, [.int mk, .int 0, .int 0, .long mw])), (pe, .inr (1, [.ref ka, .ref sa, .int (nI n)])), (ka, .inl (cI, 9, .inl kd)), (sa, .inl (cI, 9, .inl sd))] H := hP
    have hD : va_D A [(mo, .inr (0, [.int mk, .int 0, .int 0, .long mw])), (pe, .inr (1, [.ref ka, .ref sa, .int (nI n)])), (ka, .inl (cI, 9, .inl kd)), (sa, .inl (cI, 9, .inl sd))] := hD
    refine lv_aload_n hx hb dX0_find_18 rfl (lv_at hl 0 rfl) ?_
    refine lv_ldc2 hx hb hown (hts (.constantLong RX0 22 (41231686041)) (by decide +kernel)) dX0_find_19 ?_
    refine va_put (D := D) (ci := 0) (v := .long (41231686041)) (ty := .long) (C := RX0) (T := TX0) (N := 4) hx hb hts iX0 tyX0 tyX0_ok nmX0 hown hK hP hD hS 0 rfl rfl 3 (by decide) f24 (fun _ h9 => h9) rfl (by decide +kernel) rfl rfl (Nat.le_of_ble_eq_true rfl) dX0_find_22 (fun H locs hP hD hS => ?_)
    have hP : va_P D vwCl [(mo, .inr (0, [.int mk, .int 0, .int 0, .long (41231686041)])), (pe, .inr (1, [.ref ka, .ref sa, .int (nI n)])), (ka, .inl (cI, 9, .inl kd)), (sa, .inl (cI, 9, .inl sd))] H := hP
    have hD : va_D A [(mo, .inr (0, [.int mk, .int 0, .int 0, .long (41231686041)])), (pe, .inr (1, [.ref ka, .ref sa, .int (nI n)])), (ka, .inl (cI, 9, .inl kd)), (sa, .inl (cI, 9, .inl sd))] := hD
    refine lv_aload_n hx hb dX0_find_25 rfl (lv_at hl 0 rfl) ?_
    refine lv_aload_n hx hb dX0_find_26 rfl (lv_at hl 1 rfl) ?_
    refine lv_aload_n hx hb dX0_find_27 rfl (lv_at hl 1 rfl) ?_
    have hPc := hP.sub (ws' := [(pe, .inr (1, [.ref ka, .ref sa, .int (nI n)]))]) [1] rfl
    refine vp_callSi (va_Run.run (va_runV (As := []) (rest := [.ref pe, .ref mo]) ⟨hx, hb, hml, hown, hts⟩ (c_X1_allSets l D cI cO pe ka sa n (by assumption)) (cwV 0 hts gX0_find_X1_allSets rfl rfl rfl (by decide +kernel) ⟨Nat.le_of_ble_eq_true rfl, Nat.le_of_ble_eq_true rfl⟩) (preVR hPc hK hNw (va_recv hK hPc (ci := 1) (q0 := 0) rfl rfl)) rfl rfl hl.1 rfl (lv_room (Nat.le_of_ble_eq_true rfl)) dX0_find_28 ⟨Nat.zero_le _, Nat.zero_le _⟩)) (fun r28 w28 => ?_)
    obtain rfl := w28
    refine lv_iconst (v := 1) hx hb dX0_find_31 (by decide) ?_
    refine lv_isub hx hb dX0_find_32 ?_
    refine tp_i (y := nI (2 ^ n - 1)) (pk_sub (b := 1) hp2) ?_
    refine lv_iconst (v := 0) hx hb dX0_find_33 (by decide) ?_
    refine tp_i (y := nI 0) (rfl) ?_
    refine lv_iconst (v := 0) hx hb dX0_find_34 (by decide) ?_
    refine lv_ldc2 hx hb hown (hts (.constantLong RX0 22 (41231686041)) (by decide +kernel)) dX0_find_35 ?_
    have hPc := hP.sub (ws' := [(mo, .inr (0, [.int mk, .int 0, .int 0, .long (41231686041)])), (pe, .inr (1, [.ref ka, .ref sa, .int (nI n)])), (ka, .inl (cI, 9, .inl kd)), (sa, .inl (cI, 9, .inl sd))]) [0, 1, 2, 3] rfl
    have hDc := hD.sub (ws' := [(mo, .inr (0, [.int mk, .int 0, .int 0, .long (41231686041)])), (pe, .inr (1, [.ref ka, .ref sa, .int (nI n)])), (ka, .inl (cI, 9, .inl kd)), (sa, .inl (cI, 9, .inl sd))]) [0, 1, 2, 3] (by decide) rfl
    have hFc := va_free (wc := [(mo, .inr (0, [.int mk, .int 0, .int 0, .long (41231686041)])), (pe, .inr (1, [.ref ka, .ref sa, .int (nI n)])), (ka, .inl (cI, 9, .inl kd)), (sa, .inl (cI, 9, .inl sd))]) hD hS hA [0, 1, 2, 3] rfl
    refine va_callv (va_runV (As := [.ref pe, .int (nI (2 ^ n - 1)), .int (nI 0), .int 0, .long (41231686041)]) (rest := []) ⟨hx, hb, hml, hown, hts⟩ (c_X0_place l D cI cO 512 mo mk 0 0 (41231686041) pe ka sa n kd sd (2 ^ n - 1) 0 0 (41231686041) _ (by omega) (by omega) (by assumption) (by assumption)) (cwV 5 hts gX0_find_X0_place rfl rfl rfl (by decide +kernel) ⟨Nat.le_of_ble_eq_true rfl, Nat.le_of_ble_eq_true rfl⟩) (preVW hPc hK hNw hDc (va_recv hK hPc (ci := 0) (q0 := 0) rfl rfl)) rfl rfl hl.1 rfl (lv_room (Nat.le_of_ble_eq_true rfl)) dX0_find_38 ⟨Nat.zero_le _, Nat.zero_le _⟩) hS (fun q _ h => hFc q h) hFc (fun u t H1 locs ht hvm w38 hB hz1 hk1 hS => ?_)
    obtain ⟨md1_38, mr1_38, mw1_38⟩ := u
    obtain ⟨hP1, hK1, hD1⟩ := hB
    rw [ht] at hP1
    try dsimp only at w38
    obtain ⟨hP, hD⟩ := va_join (wr := []) (w1 := [(mo, .inr (0, [.int mk, .int md1_38, .int mr1_38, .long mw1_38])), (pe, .inr (1, [.ref ka, .ref sa, .int (nI n)])), (ka, .inl (cI, 9, .inl kd)), (sa, .inl (cI, 9, .inl sd))]) hP hD [0, 1, 2, 3] [] rfl rfl (by decide) (by decide) hk1 hFc hP1 hD1
    generalize H1 = H at hP hS ⊢
    have hP := hP.sub (ws' := [(mo, .inr (0, [.int mk, .int md1_38, .int mr1_38, .long mw1_38])), (pe, .inr (1, [.ref ka, .ref sa, .int (nI n)])), (ka, .inl (cI, 9, .inl kd)), (sa, .inl (cI, 9, .inl sd))]) [0, 1, 2, 3] rfl
    have hD := hD.sub (ws' := [(mo, .inr (0, [.int mk, .int md1_38, .int mr1_38, .long mw1_38])), (pe, .inr (1, [.ref ka, .ref sa, .int (nI n)])), (ka, .inl (cI, 9, .inl kd)), (sa, .inl (cI, 9, .inl sd))]) [0, 1, 2, 3] (by decide) rfl
    obtain ⟨rfl, rfl, rfl⟩ := w38
    refine lv_aload_n hx hb dX0_find_41 rfl (lv_at hl 0 rfl) ?_
    refine lv_iconst (v := 1) hx hb dX0_find_42 (by decide) ?_
    refine va_put (D := D) (ci := 0) (v := .int 1) (ty := .boolean) (C := RX0) (T := TX0) (N := 4) hx hb hts iX0 tyX0 tyX0_ok nmX0 hown hK hP hD hS 0 rfl rfl 0 (by decide) f9 (fun _ h9 => h9) rfl (by decide +kernel) rfl rfl (Nat.le_of_ble_eq_true rfl) dX0_find_43 (fun H locs hP hD hS => ?_)
    have hP : va_P D vwCl [(mo, .inr (0, [.int 1, .int (plc n kd sd 512 (2 ^ n - 1) 0 0 (41231686041) (0, 0, (41231686041))).1, .int (plc n kd sd 512 (2 ^ n - 1) 0 0 (41231686041) (0, 0, (41231686041))).2.1, .long (plc n kd sd 512 (2 ^ n - 1) 0 0 (41231686041) (0, 0, (41231686041))).2.2])), (pe, .inr (1, [.ref ka, .ref sa, .int (nI n)])), (ka, .inl (cI, 9, .inl kd)), (sa, .inl (cI, 9, .inl sd))] H := hP
    have hD : va_D A [(mo, .inr (0, [.int 1, .int (plc n kd sd 512 (2 ^ n - 1) 0 0 (41231686041) (0, 0, (41231686041))).1, .int (plc n kd sd 512 (2 ^ n - 1) 0 0 (41231686041) (0, 0, (41231686041))).2.1, .long (plc n kd sd 512 (2 ^ n - 1) 0 0 (41231686041) (0, 0, (41231686041))).2.2])), (pe, .inr (1, [.ref ka, .ref sa, .int (nI n)])), (ka, .inl (cI, 9, .inl kd)), (sa, .inl (cI, 9, .inl sd))] := hD
    exact W.vret hx hb hr (fun t ht hW => ⟨⟨(1, (plc n kd sd 512 (2 ^ n - 1) 0 0 (41231686041) (0, 0, (41231686041))).1, (plc n kd sd 512 (2 ^ n - 1) 0 0 (41231686041) (0, 0, (41231686041))).2.1, (plc n kd sd 512 (2 ^ n - 1) 0 0 (41231686041) (0, 0, (41231686041))).2.2), rfl, by simp [fndZ, c4], by rw [ht]; exact hP, va_K.moved hW.alike hK, hD⟩, hS.F ht⟩) hS.2.2 dX0_find_46
  · -- f4
    exact W.vret hx hb hr (fun t ht hW => ⟨⟨(mk, md, mr, mw), rfl, by simp [fndZ, c4], by rw [ht]; exact hP, va_K.moved hW.alike hK, hD⟩, hS.F ht⟩) hS.2.2 dX0_find_7

set_option maxHeartbeats 4000000 in
set_option maxRecDepth 100000 in
theorem c_X6_most (l : Launch) (D : va_G) (cI cO : ClassId) (h : Nat) (aS : Nat) (pe : Nat) (tq : Nat) (se : Nat) (mo : Nat) (re : Nat) (bar : Int32) (tr : Int32) (fa : Int32) (ka : Nat) (sa : Nat) (n : Nat) (kd : Nat → Int32) (sd : Nat → Int32) (mk : Int32) (md : Int32) (mr : Int32) (mw : Int64) (kk : Int32) (sz : Nat) (hn : n ≤ 9) (hs : ∀ j, j < n → 1 ≤ sd j) : Met l yX6_most wsX6_most ({ frames := 519, cells := 0, slots := 0, locals := 16044 } : Room) (va_Pc [.ref h, .int kk] (wdW D cI cO [(h, .inr (6, [.ref aS, .ref pe, .ref tq, .ref se, .ref mo, .ref re, .int bar, .int tr, .int fa])), (pe, .inr (1, [.ref ka, .ref sa, .int (nI n)])), (ka, .inl (cI, 9, .inl kd)), (sa, .inl (cI, 9, .inl sd)), (mo, .inr (0, [.int mk, .int md, .int mr, .long mw]))] sz)) (va_Qi (S := Int32 × Int32 × Int32 × Int64) (fun r u => r = (if kk < -2 then -2 else if kk < 9 then (if nI n = 0 then -3 else if kk = -2 then (fndZ n kd sd mk (md, mr, mw)).1 else if kk = -1 then (fndZ n kd sd mk (md, mr, mw)).2.1 else mrT (fndZ n kd sd mk (md, mr, mw)).2.2 kk.toNatClampNeg) else -2) ∧ u.1 = (if kk < -2 then mk else if kk < 9 then (if nI n = 0 then mk else (if mk = 0 then 1 else mk)) else mk) ∧ u.2.1 = (if kk < -2 then md else if kk < 9 then (if nI n = 0 then md else (fndZ n kd sd mk (md, mr, mw)).1) else md) ∧ u.2.2.1 = (if kk < -2 then mr else if kk < 9 then (if nI n = 0 then mr else (fndZ n kd sd mk (md, mr, mw)).2.1) else mr) ∧ u.2.2.2 = (if kk < -2 then mw else if kk < 9 then (if nI n = 0 then mw else (fndZ n kd sd mk (md, mr, mw)).2.2) else mw)) (fun u t => va_P D vwCl [(h, .inr (6, [.ref aS, .ref pe, .ref tq, .ref se, .ref mo, .ref re, .int bar, .int tr, .int fa])), (pe, .inr (1, [.ref ka, .ref sa, .int (nI n)])), (ka, .inl (cI, 9, .inl kd)), (sa, .inl (cI, 9, .inl sd)), (mo, .inr (0, [.int u.1, .int u.2.1, .int u.2.2.1, .long u.2.2.2]))] t.heap ∧ va_K D vwCl (tyL cI cO) t ∧ va_D (va_A [(h, .inr (6, [.ref aS, .ref pe, .ref tq, .ref se, .ref mo, .ref re, .int bar, .int tr, .int fa])), (pe, .inr (1, [.ref ka, .ref sa, .int (nI n)])), (ka, .inl (cI, 9, .inl kd)), (sa, .inl (cI, 9, .inl sd)), (mo, .inr (0, [.int mk, .int md, .int mr, .long mw]))] sz) [(h, .inr (6, [.ref aS, .ref pe, .ref tq, .ref se, .ref mo, .ref re, .int bar, .int tr, .int fa])), (pe, .inr (1, [.ref ka, .ref sa, .int (nI n)])), (ka, .inl (cI, 9, .inl kd)), (sa, .inl (cI, 9, .inl sd)), (mo, .inr (0, [.int u.1, .int u.2.1, .int u.2.2.1, .long u.2.2.2]))]) (va_A [(h, .inr (6, [.ref aS, .ref pe, .ref tq, .ref se, .ref mo, .ref re, .int bar, .int tr, .int fa])), (pe, .inr (1, [.ref ka, .ref sa, .int (nI n)])), (ka, .inl (cI, 9, .inl kd)), (sa, .inl (cI, 9, .inl sd)), (mo, .inr (0, [.int mk, .int md, .int mr, .long mw]))] sz)) 0 0 (va_A [(h, .inr (6, [.ref aS, .ref pe, .ref tq, .ref se, .ref mo, .ref re, .int bar, .int tr, .int fa])), (pe, .inr (1, [.ref ka, .ref sa, .int (nI n)])), (ka, .inl (cI, 9, .inl kd)), (sa, .inl (cI, 9, .inl sd)), (mo, .inr (0, [.int mk, .int md, .int mr, .long mw]))] sz) := by
  refine Met.ofW (cc := cX6_most) (maxL := 2) (ret := (some .int)) (by decide) rfl ?_
  intro p e s m args below meth c s₁ B hml hv
  obtain ⟨rfl, hsz, hP, hK, hNw, hD0⟩ := hv
  have hx := B.exec
  have hb := B.bytes
  have hr := B.returns
  have hts := atoms_spec (ws := wsX6_most) B.pre
  have hown : s.vm.findClass RX6 = some m.cls := findClass_of_methodNamed B.named
  have hlocks := B.notSynchronized
  have f21 := hts (.fieldLink RX6 21 "StruckThrees" "people" "LStruckThrees$People;") (by decide +kernel)
  have f42 := hts (.fieldLink RX6 42 "StruckThrees" "most" "LStruckThrees$Most;") (by decide +kernel)
  have f94 := hNw.f (args := ([.ref h, .int kk]).toArray) ("StruckThrees", 94, "StruckThrees$People", "count", "I") (by decide)
  have f185 := hNw.f (args := ([.ref h, .int kk]).toArray) ("StruckThrees", 185, "StruckThrees$Most", "made", "I") (by decide)
  have f188 := hNw.f (args := ([.ref h, .int kk]).toArray) ("StruckThrees", 188, "StruckThrees$Most", "rings", "I") (by decide)
  have iX0 : ∀ w ∈ wsX00, w ∈ wsX6_most := by decide +kernel
  have iX1 : ∀ w ∈ wsX10, w ∈ wsX6_most := by decide +kernel
  have iX6 : ∀ w ∈ wsX60, w ∈ wsX6_most := by decide +kernel
  subst hsz
  have hD := hD0.self (sz := s.heap.size)
  generalize hAe : va_A [(h, .inr (6, [.ref aS, .ref pe, .ref tq, .ref se, .ref mo, .ref re, .int bar, .int tr, .int fa])), (pe, .inr (1, [.ref ka, .ref sa, .int (nI n)])), (ka, .inl (cI, 9, .inl kd)), (sa, .inl (cI, 9, .inl sd)), (mo, .inr (0, [.int mk, .int md, .int mr, .long mw]))] s.heap.size = A at hD ⊢
  have hA : ∀ q : Nat, s.heap.size ≤ q → A q := fun q h => by rw [← hAe]; exact Or.inr h
  have hS : va_S A s.heap s.heap [] := va_S.rf
  have hP : va_P D vwCl [(h, .inr (6, [.ref aS, .ref pe, .ref tq, .ref se, .ref mo, .ref re, .int bar, .int tr, .int fa])), (pe, .inr (1, [.ref ka, .ref sa, .int (nI n)])), (ka, .inl (cI, 9, .inl kd)), (sa, .inl (cI, 9, .inl sd)), (mo, .inr (0, [.int mk, .int md, .int mr, .long mw]))] s.heap := hP
  have hl := lv_entry ([.ref h, .int kk]) (n := 2) (Nat.le_of_ble_eq_true rfl)
  rw [lg_entry_eq]
  generalize (lg_sl ([.ref h, .int kk]) ++ List.replicate (2 - (lg_sl ([.ref h, .int kk])).length) Slot.unset).toArray = ls at hl ⊢
  have hl : lv_has ls 2 [(0, .ref h), (1, .int kk)] := hl
  refine lv_iload_n hx hb dX6_most_0 rfl (lv_at hl 1 rfl) ?_
  refine lv_bipush (v := -2) hx hb dX6_most_1 (by decide) ?_
  refine lv_icmp_lt (tgt := 12) hx hb dX6_most_3 (by decide) (fun c3 => ?_) (fun c3 => ?_)
  · -- t3
    refine lv_bipush (v := -2) hx hb dX6_most_12 (by decide) ?_
    exact W.iret (v := -2) hx hb hr (fun t ht hW => ⟨⟨_, (mk, md, mr, mw), rfl, by simp [*], by rw [ht]; exact hP, va_K.moved hW.alike hK, hD⟩, hS.F ht⟩) hS.2.2 dX6_most_14
  · -- f3
    refine lv_iload_n hx hb dX6_most_6 rfl (lv_at hl 1 rfl) ?_
    refine lv_bipush (v := 9) hx hb dX6_most_7 (by decide) ?_
    refine lv_icmp_lt (tgt := 15) hx hb dX6_most_9 (by decide) (fun c9 => ?_) (fun c9 => ?_)
    · -- t9
      refine lv_aload_n hx hb dX6_most_15 rfl (lv_at hl 0 rfl) ?_
      refine va_get (D := D) (ci := 6) (v := .ref pe) (C := RX6) (T := TX6) (N := 9) hx hb hts iX6 hown hK hP 0 rfl rfl 1 (by decide) f21 (fun _ h9 => h9) rfl dX6_most_16 ?_
      refine va_getN (D := D) (ci := 1) (v := .int (nI n)) (C := RX1) (T := TX1) (N := 3) hx hb hts iX1 hown hK hP 1 rfl rfl 2 (by decide) f94 (fun _ h9 => h9) rfl dX6_most_19 ?_
      refine lv_if_ne (tgt := 28) hx hb dX6_most_22 (by decide) (fun c22 => ?_) (fun c22 => ?_)
      · -- t22
        refine lv_aload_n hx hb dX6_most_28 rfl (lv_at hl 0 rfl) ?_
        refine va_get (D := D) (ci := 6) (v := .ref mo) (C := RX6) (T := TX6) (N := 9) hx hb hts iX6 hown hK hP 0 rfl rfl 4 (by decide) f42 (fun _ h9 => h9) rfl dX6_most_29 ?_
        refine lv_aload_n hx hb dX6_most_32 rfl (lv_at hl 0 rfl) ?_
        refine va_get (D := D) (ci := 6) (v := .ref pe) (C := RX6) (T := TX6) (N := 9) hx hb hts iX6 hown hK hP 0 rfl rfl 1 (by decide) f21 (fun _ h9 => h9) rfl dX6_most_33 ?_
        have hPc := hP.sub (ws' := [(mo, .inr (0, [.int mk, .int md, .int mr, .long mw])), (pe, .inr (1, [.ref ka, .ref sa, .int (nI n)])), (ka, .inl (cI, 9, .inl kd)), (sa, .inl (cI, 9, .inl sd))]) [4, 1, 2, 3] rfl
        have hDc := hD.sub (ws' := [(mo, .inr (0, [.int mk, .int md, .int mr, .long mw])), (pe, .inr (1, [.ref ka, .ref sa, .int (nI n)])), (ka, .inl (cI, 9, .inl kd)), (sa, .inl (cI, 9, .inl sd))]) [4, 1, 2, 3] (by decide) rfl
        have hFc := va_free (wc := [(mo, .inr (0, [.int mk, .int md, .int mr, .long mw])), (pe, .inr (1, [.ref ka, .ref sa, .int (nI n)])), (ka, .inl (cI, 9, .inl kd)), (sa, .inl (cI, 9, .inl sd))]) hD hS hA [4, 1, 2, 3] rfl
        refine va_callv (va_runV (As := [.ref pe]) (rest := []) ⟨hx, hb, hml, hown, hts⟩ (c_X0_find l D cI cO mo mk md mr mw pe ka sa n kd sd _ (by assumption) (by assumption)) (cwV 1 hts gX6_most_X0_find rfl rfl rfl (by decide +kernel) ⟨Nat.le_of_ble_eq_true rfl, Nat.le_of_ble_eq_true rfl⟩) (preVW hPc hK hNw hDc (va_recv hK hPc (ci := 0) (q0 := 0) rfl rfl)) rfl rfl hl.1 rfl (lv_room (Nat.le_of_ble_eq_true rfl)) dX6_most_36 ⟨Nat.zero_le _, Nat.zero_le _⟩) hS (fun q _ h => hFc q h) hFc (fun u t H1 locs ht hvm w36 hB hz1 hk1 hS => ?_)
        obtain ⟨mk1_36, md1_36, mr1_36, mw1_36⟩ := u
        obtain ⟨hP1, hK1, hD1⟩ := hB
        rw [ht] at hP1
        try dsimp only at w36
        obtain ⟨hP, hD⟩ := va_join (wr := [(h, .inr (6, [.ref aS, .ref pe, .ref tq, .ref se, .ref mo, .ref re, .int bar, .int tr, .int fa]))]) (w1 := [(mo, .inr (0, [.int mk1_36, .int md1_36, .int mr1_36, .long mw1_36])), (pe, .inr (1, [.ref ka, .ref sa, .int (nI n)])), (ka, .inl (cI, 9, .inl kd)), (sa, .inl (cI, 9, .inl sd))]) hP hD [4, 1, 2, 3] [0] rfl rfl (by decide) (by decide) hk1 hFc hP1 hD1
        generalize H1 = H at hP hS ⊢
        have hP := hP.sub (ws' := [(h, .inr (6, [.ref aS, .ref pe, .ref tq, .ref se, .ref mo, .ref re, .int bar, .int tr, .int fa])), (pe, .inr (1, [.ref ka, .ref sa, .int (nI n)])), (ka, .inl (cI, 9, .inl kd)), (sa, .inl (cI, 9, .inl sd)), (mo, .inr (0, [.int mk1_36, .int md1_36, .int mr1_36, .long mw1_36]))]) [0, 2, 3, 4, 1] rfl
        have hD := hD.sub (ws' := [(h, .inr (6, [.ref aS, .ref pe, .ref tq, .ref se, .ref mo, .ref re, .int bar, .int tr, .int fa])), (pe, .inr (1, [.ref ka, .ref sa, .int (nI n)])), (ka, .inl (cI, 9, .inl kd)), (sa, .inl (cI, 9, .inl sd)), (mo, .inr (0, [.int mk1_36, .int md1_36, .int mr1_36, .long mw1_36]))]) [0, 2, 3, 4, 1] (by decide) rfl
        obtain ⟨rfl, rfl, rfl, rfl⟩ := w36
        refine lv_iload_n hx hb dX6_most_39 rfl (lv_at hl 1 rfl) ?_
        refine lv_bipush (v := -2) hx hb dX6_most_40 (by decide) ?_
        refine lv_icmp_ne (tgt := 53) hx hb dX6_most_42 (by decide) (fun c42 => ?_) (fun c42 => ?_)
        · -- t42
          refine lv_iload_n hx hb dX6_most_53 rfl (lv_at hl 1 rfl) ?_
          refine lv_iconst (v := -1) hx hb dX6_most_54 (by decide) ?_
          refine lv_icmp_ne (tgt := 66) hx hb dX6_most_55 (by decide) (fun c55 => ?_) (fun c55 => ?_)
          · -- t55
            refine lv_aload_n hx hb dX6_most_66 rfl (lv_at hl 0 rfl) ?_
            refine va_get (D := D) (ci := 6) (v := .ref mo) (C := RX6) (T := TX6) (N := 9) hx hb hts iX6 hown hK hP 0 rfl rfl 4 (by decide) f42 (fun _ h9 => h9) rfl dX6_most_67 ?_
            obtain ⟨j, hj, ej⟩ : ∃ j, j < 9 ∧ kk = nI j := kk_j c3 c9 c42 c55
            refine lv_iload_n hx hb dX6_most_70 rfl (lv_at hl 1 rfl) ?_
            refine tp_i (y := nI j) (ej) ?_
            have hPc := hP.sub (ws' := [(mo, .inr (0, [.int (if mk = 0 then 1 else mk), .int (fndZ n kd sd mk (md, mr, mw)).1, .int (fndZ n kd sd mk (md, mr, mw)).2.1, .long (fndZ n kd sd mk (md, mr, mw)).2.2]))]) [4] rfl
            refine vp_callSi (va_Run.run (va_runV (As := [.int (nI j)]) (rest := []) ⟨hx, hb, hml, hown, hts⟩ (c_X0_threeOf l D cI cO mo (if mk = 0 then 1 else mk) (fndZ n kd sd mk (md, mr, mw)).1 (fndZ n kd sd mk (md, mr, mw)).2.1 (fndZ n kd sd mk (md, mr, mw)).2.2 j) (cwV 1 hts gX6_most_X0_threeOf rfl rfl rfl (by decide +kernel) ⟨Nat.le_of_ble_eq_true rfl, Nat.le_of_ble_eq_true rfl⟩) (preVR hPc hK hNw (va_recv hK hPc (ci := 0) (q0 := 0) rfl rfl)) rfl rfl hl.1 rfl (lv_room (Nat.le_of_ble_eq_true rfl)) dX6_most_71 ⟨Nat.zero_le _, Nat.zero_le _⟩)) (fun r71 w71 => ?_)
            obtain rfl := w71
            exact W.iret (v := mrT (fndZ n kd sd mk (md, mr, mw)).2.2 j) hx hb hr (fun t ht hW => ⟨⟨_, ((if mk = 0 then 1 else mk), (fndZ n kd sd mk (md, mr, mw)).1, (fndZ n kd sd mk (md, mr, mw)).2.1, (fndZ n kd sd mk (md, mr, mw)).2.2), rfl, by simp [c3, c9, c22, c42, c55]; rw [ej, nI_clamp (by omega)], by rw [ht]; exact hP, va_K.moved hW.alike hK, hD⟩, hS.F ht⟩) hS.2.2 dX6_most_74
          · -- f55
            refine lv_aload_n hx hb dX6_most_58 rfl (lv_at hl 0 rfl) ?_
            refine va_get (D := D) (ci := 6) (v := .ref mo) (C := RX6) (T := TX6) (N := 9) hx hb hts iX6 hown hK hP 0 rfl rfl 4 (by decide) f42 (fun _ h9 => h9) rfl dX6_most_59 ?_
            refine va_getN (D := D) (ci := 0) (v := .int (fndZ n kd sd mk (md, mr, mw)).2.1) (C := RX0) (T := TX0) (N := 4) hx hb hts iX0 hown hK hP 4 rfl rfl 2 (by decide) f188 (fun _ h9 => h9) rfl dX6_most_62 ?_
            exact W.iret (v := (fndZ n kd sd mk (md, mr, mw)).2.1) hx hb hr (fun t ht hW => ⟨⟨_, ((if mk = 0 then 1 else mk), (fndZ n kd sd mk (md, mr, mw)).1, (fndZ n kd sd mk (md, mr, mw)).2.1, (fndZ n kd sd mk (md, mr, mw)).2.2), rfl, by simp [*], by rw [ht]; exact hP, va_K.moved hW.alike hK, hD⟩, hS.F ht⟩) hS.2.2 dX6_most_65
        · -- f42
          refine lv_aload_n hx hb dX6_most_45 rfl (lv_at hl 0 rfl) ?_
          refine va_get (D := D) (ci := 6) (v := .ref mo) (C := RX6) (T := TX6) (N := 9) hx hb hts iX6 hown hK hP 0 rfl rfl 4 (by decide) f42 (fun _ h9 => h9) rfl dX6_most_46 ?_
          refine va_getN (D := D) (ci := 0) (v := .int (fndZ n kd sd mk (md, mr, mw)).1) (C := RX0) (T := TX0) (N := 4) hx hb hts iX0 hown hK hP 4 rfl rfl 1 (by decide) f185 (fun _ h9 => h9) rfl dX6_most_49 ?_
          exact W.iret (v := (fndZ n kd sd mk (md, mr, mw)).1) hx hb hr (fun t ht hW => ⟨⟨_, ((if mk = 0 then 1 else mk), (fndZ n kd sd mk (md, mr, mw)).1, (fndZ n kd sd mk (md, mr, mw)).2.1, (fndZ n kd sd mk (md, mr, mw)).2.2), rfl, by simp [*], by rw [ht]; exact hP, va_K.moved hW.alike hK, hD⟩, hS.F ht⟩) hS.2.2 dX6_most_52
      · -- f22
        refine lv_bipush (v := -3) hx hb dX6_most_25 (by decide) ?_
        exact W.iret (v := -3) hx hb hr (fun t ht hW => ⟨⟨_, (mk, md, mr, mw), rfl, by simp [*], by rw [ht]; exact hP, va_K.moved hW.alike hK, hD⟩, hS.F ht⟩) hS.2.2 dX6_most_27
    · -- f9
      refine lv_bipush (v := -2) hx hb dX6_most_12 (by decide) ?_
      exact W.iret (v := -2) hx hb hr (fun t ht hW => ⟨⟨_, (mk, md, mr, mw), rfl, by simp [*], by rw [ht]; exact hP, va_K.moved hW.alike hK, hD⟩, hS.F ht⟩) hS.2.2 dX6_most_14
