set_option maxHeartbeats 4000000 in
set_option maxRecDepth 100000 in
theorem c_X0_forget (l : Launch) (D : va_G) (cI cO : ClassId) (mo : Nat) (mk : Int32) (md : Int32) (mr : Int32) (mw : Int64) (sz : Nat) : Met l yX0_forget wsX0_forget ({ frames := 0, cells := 0, slots := 0, locals := 0 } : Room) (va_Pc [.ref mo] (wdW D cI cO [(mo, .inr (0, [.int mk, .int md, .int mr, .long mw]))] sz)) (va_Qv (S := Unit) (fun u => True) (fun u t => va_P D vwCl [(mo, .inr (0, [.int 0, .int md, .int mr, .long mw]))] t.heap ∧ va_K D vwCl (tyL cI cO) t ∧ va_D (va_A [(mo, .inr (0, [.int mk, .int md, .int mr, .long mw]))] sz) [(mo, .inr (0, [.int 0, .int md, .int mr, .long mw]))]) (va_A [(mo, .inr (0, [.int mk, .int md, .int mr, .long mw]))] sz)) 0 0 (va_A [(mo, .inr (0, [.int mk, .int md, .int mr, .long mw]))] sz) := by
  refine Met.ofW (cc := cX0_forget) (maxL := 1) (ret := none) (by decide) rfl ?_
  intro p e s m args below meth c s₁ B hml hv
  obtain ⟨rfl, hsz, hP, hK, hNw, hD0⟩ := hv
  have hx := B.exec
  have hb := B.bytes
  have hr := B.returns
  have hts := atoms_spec (ws := wsX0_forget) B.pre
  have hown : s.vm.findClass RX0 = some m.cls := findClass_of_methodNamed B.named
  have hlocks := B.notSynchronized
  have f9 := hts (.fieldLink RX0 9 "StruckThrees$Most" "isKnown" "Z") (by decide +kernel)
  have iX0 : ∀ w ∈ wsX00, w ∈ wsX0_forget := by decide +kernel
  subst hsz
  have hD := hD0.self (sz := s.heap.size)
  generalize hAe : va_A [(mo, .inr (0, [.int mk, .int md, .int mr, .long mw]))] s.heap.size = A at hD ⊢
  have hA : ∀ q : Nat, s.heap.size ≤ q → A q := fun q h => by rw [← hAe]; exact Or.inr h
  have hS : va_S A s.heap s.heap [] := va_S.rf
  have hP : va_P D vwCl [(mo, .inr (0, [.int mk, .int md, .int mr, .long mw]))] s.heap := hP
  have hl := lv_entry ([.ref mo]) (n := 1) (Nat.le_of_ble_eq_true rfl)
  rw [lg_entry_eq]
  generalize (lg_sl ([.ref mo]) ++ List.replicate (1 - (lg_sl ([.ref mo])).length) Slot.unset).toArray = ls at hl ⊢
  have hl : lv_has ls 1 [(0, .ref mo)] := hl
  refine lv_aload_n hx hb dX0_forget_0 rfl (lv_at hl 0 rfl) ?_
  refine lv_iconst (v := 0) hx hb dX0_forget_1 (by decide) ?_
  refine va_put (D := D) (ci := 0) (v := .int 0) (ty := .boolean) (C := RX0) (T := TX0) (N := 4) hx hb hts iX0 tyX0 tyX0_ok nmX0 hown hK hP hD hS 0 rfl rfl 0 (by decide) f9 (fun _ h9 => h9) rfl (by decide +kernel) rfl rfl (Nat.le_of_ble_eq_true rfl) dX0_forget_2 (fun H locs hP hD hS => ?_)
  have hP : va_P D vwCl [(mo, .inr (0, [.int 0, .int md, .int mr, .long mw]))] H := hP
  have hD : va_D A [(mo, .inr (0, [.int 0, .int md, .int mr, .long mw]))] := hD
  exact W.vret hx hb hr (fun t ht hW => ⟨⟨(), rfl, by trivial, by rw [ht]; exact hP, va_K.moved hW.alike hK, hD⟩, hS.F ht⟩) hS.2.2 dX0_forget_5

set_option maxHeartbeats 4000000 in
set_option maxRecDepth 100000 in
theorem c_X6_sheetAt (l : Launch) (D : va_G) (cI cO : ClassId) (h : Nat) (aS : Nat) (pe : Nat) (tq : Nat) (se : Nat) (mo : Nat) (re : Nat) (bar : Int32) (tr : Int32) (fa : Int32) (g : Nat → Option Nat) (kq : Int32) : Met l yX6_sheetAt wsX6_sheetAt ({ frames := 0, cells := 0, slots := 0, locals := 0 } : Room) (va_Pc [.ref h, .int kq] (wdR D cI cO [(h, .inr (6, [.ref aS, .ref pe, .ref tq, .ref se, .ref mo, .ref re, .int bar, .int tr, .int fa])), (aS, .inl (cO, 4, .inr (.inr (.inr (.inr g)))))])) (va_Sq (fun r => r = (shI g kq))) 0 0 (fun _ => False) := by
  refine Met.ofW (cc := cX6_sheetAt) (maxL := 2) (ret := (some (.object "StruckThrees$Sheet"))) (by decide) rfl ?_
  intro p e s m args below meth c s₁ B hml hv
  obtain ⟨rfl, hP, hK, hNw⟩ := hv
  have hx := B.exec
  have hb := B.bytes
  have hr := B.returns
  have hts := atoms_spec (ws := wsX6_sheetAt) B.pre
  have hown : s.vm.findClass RX6 = some m.cls := findClass_of_methodNamed B.named
  have hlocks := B.notSynchronized
  have f12 := hts (.fieldLink RX6 12 "StruckThrees" "sheets" "[LStruckThrees$Sheet;") (by decide +kernel)
  have iX6 : ∀ w ∈ wsX60, w ∈ wsX6_sheetAt := by decide +kernel
  have hP : va_P D vwCl [(h, .inr (6, [.ref aS, .ref pe, .ref tq, .ref se, .ref mo, .ref re, .int bar, .int tr, .int fa])), (aS, .inl (cO, 4, .inr (.inr (.inr (.inr g)))))] s.heap := hP
  have hl := lv_entry ([.ref h, .int kq]) (n := 2) (Nat.le_of_ble_eq_true rfl)
  rw [lg_entry_eq]
  generalize (lg_sl ([.ref h, .int kq]) ++ List.replicate (2 - (lg_sl ([.ref h, .int kq])).length) Slot.unset).toArray = ls at hl ⊢
  have hl : lv_has ls 2 [(0, .ref h), (1, .int kq)] := hl
  refine lv_iload_n hx hb dX6_sheetAt_0 rfl (lv_at hl 1 rfl) ?_
  refine lv_if_lt (tgt := 13) hx hb dX6_sheetAt_1 (by decide) (fun c1 => ?_) (fun c1 => ?_)
  · -- t1
    refine lv_null hx hb dX6_sheetAt_13 ?_
    refine lv_goto (tgt := 23) hx hb dX6_sheetAt_14 (by decide) ?_
    exact W.aret (v := va_rf (none)) hx hb hr (Or.inl ⟨_, rfl⟩) (va_rf_or _) (fun t ht hW => ⟨none, rfl, by simp [shI, *], ht⟩) (fun _ h => absurd h List.not_mem_nil) dX6_sheetAt_23
  · -- f1
    refine lv_iload_n hx hb dX6_sheetAt_4 rfl (lv_at hl 1 rfl) ?_
    refine lv_aload_n hx hb dX6_sheetAt_5 rfl (lv_at hl 0 rfl) ?_
    refine va_get (D := D) (ci := 6) (v := .ref aS) (C := RX6) (T := TX6) (N := 9) hx hb hts iX6 hown hK hP 0 rfl rfl 0 (by decide) f12 (fun _ h9 => h9) rfl dX6_sheetAt_6 ?_
    refine va_alen hx hb hK hP 1 1 rfl rfl (v := 4) rfl dX6_sheetAt_9 ?_
    refine lv_icmp_lt (tgt := 17) hx hb dX6_sheetAt_10 (by decide) (fun c10 => ?_) (fun c10 => ?_)
    · -- t10
      refine lv_aload_n hx hb dX6_sheetAt_17 rfl (lv_at hl 0 rfl) ?_
      refine va_get (D := D) (ci := 6) (v := .ref aS) (C := RX6) (T := TX6) (N := 9) hx hb hts iX6 hown hK hP 0 rfl rfl 0 (by decide) f12 (fun _ h9 => h9) rfl dX6_sheetAt_18 ?_
      refine lv_iload_n hx hb dX6_sheetAt_21 rfl (lv_at hl 1 rfl) ?_
      refine va_aldq hx hb hK hP 1 1 (C := "StruckThrees$Sheet") rfl rfl (in4 c1 c10) dX6_sheetAt_22 ?_
      exact W.aret (v := va_rf (g kq.toNatClampNeg)) hx hb hr (Or.inl ⟨_, rfl⟩) (va_rf_or _) (fun t ht hW => ⟨g kq.toNatClampNeg, rfl, by simp [shI, *], ht⟩) (fun _ h => absurd h List.not_mem_nil) dX6_sheetAt_23
    · -- f10
      refine lv_null hx hb dX6_sheetAt_13 ?_
      refine lv_goto (tgt := 23) hx hb dX6_sheetAt_14 (by decide) ?_
      exact W.aret (v := va_rf (none)) hx hb hr (Or.inl ⟨_, rfl⟩) (va_rf_or _) (fun t ht hW => ⟨none, rfl, by simp [shI, *], ht⟩) (fun _ h => absurd h List.not_mem_nil) dX6_sheetAt_23

set_option maxHeartbeats 4000000 in
set_option maxRecDepth 100000 in
theorem c_X6_isLane (l : Launch) (D : va_G) (cI cO : ClassId) (x : Int32) : Met l yX6_isLane wsX6_isLane ({ frames := 0, cells := 0, slots := 0, locals := 0 } : Room) (va_Pc [.int x] (wdR D cI cO [])) (vp_Si (fun r => ((lstT x 0 2 = true) → r = 1) ∧ (¬ (lstT x 0 2 = true) → r = 0))) 0 0 (fun _ => False) := by
  refine Met.ofW (cc := cX6_isLane) (maxL := 1) (ret := (some .boolean)) (by decide) rfl ?_
  intro p e s m args below meth c s₁ B hml hv
  obtain ⟨rfl, hP, hK, hNw⟩ := hv
  have hx := B.exec
  have hb := B.bytes
  have hr := B.returns
  have hts := atoms_spec (ws := wsX6_isLane) B.pre
  have hown : s.vm.findClass RX6 = some m.cls := findClass_of_methodNamed B.named
  have hlocks := B.notSynchronized
  have hP : va_P D vwCl [] s.heap := hP
  have hl := lv_entry ([.int x]) (n := 1) (Nat.le_of_ble_eq_true rfl)
  rw [lg_entry_eq]
  generalize (lg_sl ([.int x]) ++ List.replicate (1 - (lg_sl ([.int x])).length) Slot.unset).toArray = ls at hl ⊢
  have hl : lv_has ls 1 [(0, .int x)] := hl
  refine lv_iload_n hx hb dX6_isLane_0 rfl (lv_at hl 0 rfl) ?_
  refine lv_if_lt (tgt := 13) hx hb dX6_isLane_1 (by decide) (fun c1 => ?_) (fun c1 => ?_)
  · -- t1
    refine lv_iconst (v := 0) hx hb dX6_isLane_13 (by decide) ?_
    exact W.zret (v := 0) (ty := .boolean) hx hb hr rfl (fun t ht hW => ⟨_, rfl, by first | exact so_yes (by simp [lstT, *]; done) | exact so_no (by simp [lstT, *]; done), ht⟩) (fun _ h => absurd h List.not_mem_nil) dX6_isLane_14
  · -- f1
    refine lv_iload_n hx hb dX6_isLane_4 rfl (lv_at hl 0 rfl) ?_
    refine lv_iconst (v := 2) hx hb dX6_isLane_5 (by decide) ?_
    refine lv_icmp_gt (tgt := 13) hx hb dX6_isLane_6 (by decide) (fun c6 => ?_) (fun c6 => ?_)
    · -- t6
      refine lv_iconst (v := 0) hx hb dX6_isLane_13 (by decide) ?_
      exact W.zret (v := 0) (ty := .boolean) hx hb hr rfl (fun t ht hW => ⟨_, rfl, by first | exact so_yes (by simp [lstT, *]; done) | exact so_no (by simp [lstT, *]; done), ht⟩) (fun _ h => absurd h List.not_mem_nil) dX6_isLane_14
    · -- f6
      refine lv_iconst (v := 1) hx hb dX6_isLane_9 (by decide) ?_
      refine lv_goto (tgt := 14) hx hb dX6_isLane_10 (by decide) ?_
      exact W.zret (v := 1) (ty := .boolean) hx hb hr rfl (fun t ht hW => ⟨_, rfl, by first | exact so_yes (by simp [lstT, *]; done) | exact so_no (by simp [lstT, *]; done), ht⟩) (fun _ h => absurd h List.not_mem_nil) dX6_isLane_14

set_option maxHeartbeats 4000000 in
set_option maxRecDepth 100000 in
theorem c_X6_cameTo (l : Launch) (D : va_G) (cI cO : ClassId) (h : Nat) (aS : Nat) (pe : Nat) (tq : Nat) (se : Nat) (mo : Nat) (re : Nat) (bar : Int32) (tr : Int32) (fa : Int32) (mt : Int32) (sz : Nat) : Met l yX6_cameTo wsX6_cameTo ({ frames := 0, cells := 0, slots := 0, locals := 0 } : Room) (va_Pc [.ref h, .int mt] (wdW D cI cO [(h, .inr (6, [.ref aS, .ref pe, .ref tq, .ref se, .ref mo, .ref re, .int bar, .int tr, .int fa]))] sz)) (va_Qi (S := Unit) (fun r u => r = (-10 - mt)) (fun u t => va_P D vwCl [(h, .inr (6, [.ref aS, .ref pe, .ref tq, .ref se, .ref mo, .ref re, .int bar, .int tr, .int mt]))] t.heap ∧ va_K D vwCl (tyL cI cO) t ∧ va_D (va_A [(h, .inr (6, [.ref aS, .ref pe, .ref tq, .ref se, .ref mo, .ref re, .int bar, .int tr, .int fa]))] sz) [(h, .inr (6, [.ref aS, .ref pe, .ref tq, .ref se, .ref mo, .ref re, .int bar, .int tr, .int mt]))]) (va_A [(h, .inr (6, [.ref aS, .ref pe, .ref tq, .ref se, .ref mo, .ref re, .int bar, .int tr, .int fa]))] sz)) 0 0 (va_A [(h, .inr (6, [.ref aS, .ref pe, .ref tq, .ref se, .ref mo, .ref re, .int bar, .int tr, .int fa]))] sz) := by
  refine Met.ofW (cc := cX6_cameTo) (maxL := 2) (ret := (some .int)) (by decide) rfl ?_
  intro p e s m args below meth c s₁ B hml hv
  obtain ⟨rfl, hsz, hP, hK, hNw, hD0⟩ := hv
  have hx := B.exec
  have hb := B.bytes
  have hr := B.returns
  have hts := atoms_spec (ws := wsX6_cameTo) B.pre
  have hown : s.vm.findClass RX6 = some m.cls := findClass_of_methodNamed B.named
  have hlocks := B.notSynchronized
  have f53 := hts (.fieldLink RX6 53 "StruckThrees" "fault" "I") (by decide +kernel)
  have iX6 : ∀ w ∈ wsX60, w ∈ wsX6_cameTo := by decide +kernel
  subst hsz
  have hD := hD0.self (sz := s.heap.size)
  generalize hAe : va_A [(h, .inr (6, [.ref aS, .ref pe, .ref tq, .ref se, .ref mo, .ref re, .int bar, .int tr, .int fa]))] s.heap.size = A at hD ⊢
  have hA : ∀ q : Nat, s.heap.size ≤ q → A q := fun q h => by rw [← hAe]; exact Or.inr h
  have hS : va_S A s.heap s.heap [] := va_S.rf
  have hP : va_P D vwCl [(h, .inr (6, [.ref aS, .ref pe, .ref tq, .ref se, .ref mo, .ref re, .int bar, .int tr, .int fa]))] s.heap := hP
  have hl := lv_entry ([.ref h, .int mt]) (n := 2) (Nat.le_of_ble_eq_true rfl)
  rw [lg_entry_eq]
  generalize (lg_sl ([.ref h, .int mt]) ++ List.replicate (2 - (lg_sl ([.ref h, .int mt])).length) Slot.unset).toArray = ls at hl ⊢
  have hl : lv_has ls 2 [(0, .ref h), (1, .int mt)] := hl
  refine lv_aload_n hx hb dX6_cameTo_0 rfl (lv_at hl 0 rfl) ?_
  refine lv_iload_n hx hb dX6_cameTo_1 rfl (lv_at hl 1 rfl) ?_
  refine va_put (D := D) (ci := 6) (v := .int mt) (ty := .int) (C := RX6) (T := TX6) (N := 9) hx hb hts iX6 tyX6 tyX6_ok nmX6 hown hK hP hD hS 0 rfl rfl 8 (by decide) f53 (fun _ h9 => h9) rfl (by decide +kernel) rfl rfl (Nat.le_of_ble_eq_true rfl) dX6_cameTo_2 (fun H locs hP hD hS => ?_)
  have hP : va_P D vwCl [(h, .inr (6, [.ref aS, .ref pe, .ref tq, .ref se, .ref mo, .ref re, .int bar, .int tr, .int mt]))] H := hP
  have hD : va_D A [(h, .inr (6, [.ref aS, .ref pe, .ref tq, .ref se, .ref mo, .ref re, .int bar, .int tr, .int mt]))] := hD
  refine lv_bipush (v := -10) hx hb dX6_cameTo_5 (by decide) ?_
  refine lv_iload_n hx hb dX6_cameTo_7 rfl (lv_at hl 1 rfl) ?_
  refine lv_isub hx hb dX6_cameTo_8 ?_
  exact W.iret (v := (-10) - mt) hx hb hr (fun t ht hW => ⟨⟨_, (), rfl, by rfl, by rw [ht]; exact hP, va_K.moved hW.alike hK, hD⟩, hS.F ht⟩) hS.2.2 dX6_cameTo_9

set_option maxHeartbeats 4000000 in
set_option maxRecDepth 100000 in
theorem c_X6_mark (l : Launch) (D : va_G) (cI cO : ClassId) (h : Nat) (aS : Nat) (pe : Nat) (tq : Nat) (se : Nat) (mo : Nat) (re : Nat) (bar : Int32) (tr : Int32) (fa : Int32) (b : Int32) (sz : Nat) : Met l yX6_mark wsX6_mark ({ frames := 0, cells := 0, slots := 0, locals := 0 } : Room) (va_Pc [.ref h, .int b] (wdW D cI cO [(h, .inr (6, [.ref aS, .ref pe, .ref tq, .ref se, .ref mo, .ref re, .int bar, .int tr, .int fa]))] sz)) (va_Qv (S := Int32) (fun u => u = (31 * tr + b)) (fun u t => va_P D vwCl [(h, .inr (6, [.ref aS, .ref pe, .ref tq, .ref se, .ref mo, .ref re, .int bar, .int u, .int fa]))] t.heap ∧ va_K D vwCl (tyL cI cO) t ∧ va_D (va_A [(h, .inr (6, [.ref aS, .ref pe, .ref tq, .ref se, .ref mo, .ref re, .int bar, .int tr, .int fa]))] sz) [(h, .inr (6, [.ref aS, .ref pe, .ref tq, .ref se, .ref mo, .ref re, .int bar, .int u, .int fa]))]) (va_A [(h, .inr (6, [.ref aS, .ref pe, .ref tq, .ref se, .ref mo, .ref re, .int bar, .int tr, .int fa]))] sz)) 0 0 (va_A [(h, .inr (6, [.ref aS, .ref pe, .ref tq, .ref se, .ref mo, .ref re, .int bar, .int tr, .int fa]))] sz) := by
  refine Met.ofW (cc := cX6_mark) (maxL := 2) (ret := none) (by decide) rfl ?_
  intro p e s m args below meth c s₁ B hml hv
  obtain ⟨rfl, hsz, hP, hK, hNw, hD0⟩ := hv
  have hx := B.exec
  have hb := B.bytes
  have hr := B.returns
  have hts := atoms_spec (ws := wsX6_mark) B.pre
  have hown : s.vm.findClass RX6 = some m.cls := findClass_of_methodNamed B.named
  have hlocks := B.notSynchronized
  have f267 := hts (.fieldLink RX6 267 "StruckThrees" "trace" "I") (by decide +kernel)
  have iX6 : ∀ w ∈ wsX60, w ∈ wsX6_mark := by decide +kernel
  subst hsz
  have hD := hD0.self (sz := s.heap.size)
  generalize hAe : va_A [(h, .inr (6, [.ref aS, .ref pe, .ref tq, .ref se, .ref mo, .ref re, .int bar, .int tr, .int fa]))] s.heap.size = A at hD ⊢
  have hA : ∀ q : Nat, s.heap.size ≤ q → A q := fun q h => by rw [← hAe]; exact Or.inr h
  have hS : va_S A s.heap s.heap [] := va_S.rf
  have hP : va_P D vwCl [(h, .inr (6, [.ref aS, .ref pe, .ref tq, .ref se, .ref mo, .ref re, .int bar, .int tr, .int fa]))] s.heap := hP
  have hl := lv_entry ([.ref h, .int b]) (n := 2) (Nat.le_of_ble_eq_true rfl)
  rw [lg_entry_eq]
  generalize (lg_sl ([.ref h, .int b]) ++ List.replicate (2 - (lg_sl ([.ref h, .int b])).length) Slot.unset).toArray = ls at hl ⊢
  have hl : lv_has ls 2 [(0, .ref h), (1, .int b)] := hl
  refine lv_aload_n hx hb dX6_mark_0 rfl (lv_at hl 0 rfl) ?_
  refine lv_bipush (v := 31) hx hb dX6_mark_1 (by decide) ?_
  refine lv_aload_n hx hb dX6_mark_3 rfl (lv_at hl 0 rfl) ?_
  refine va_get (D := D) (ci := 6) (v := .int tr) (C := RX6) (T := TX6) (N := 9) hx hb hts iX6 hown hK hP 0 rfl rfl 7 (by decide) f267 (fun _ h9 => h9) rfl dX6_mark_4 ?_
  refine lv_imul hx hb dX6_mark_7 ?_
  refine lv_iload_n hx hb dX6_mark_8 rfl (lv_at hl 1 rfl) ?_
  refine lv_iadd hx hb dX6_mark_9 ?_
  refine va_put (D := D) (ci := 6) (v := .int ((31 * tr) + b)) (ty := .int) (C := RX6) (T := TX6) (N := 9) hx hb hts iX6 tyX6 tyX6_ok nmX6 hown hK hP hD hS 0 rfl rfl 7 (by decide) f267 (fun _ h9 => h9) rfl (by decide +kernel) rfl rfl (Nat.le_of_ble_eq_true rfl) dX6_mark_10 (fun H locs hP hD hS => ?_)
  have hP : va_P D vwCl [(h, .inr (6, [.ref aS, .ref pe, .ref tq, .ref se, .ref mo, .ref re, .int bar, .int ((31 * tr) + b), .int fa]))] H := hP
  have hD : va_D A [(h, .inr (6, [.ref aS, .ref pe, .ref tq, .ref se, .ref mo, .ref re, .int bar, .int ((31 * tr) + b), .int fa]))] := hD
  exact W.vret hx hb hr (fun t ht hW => ⟨⟨((31 * tr) + b), rfl, by rfl, by rw [ht]; exact hP, va_K.moved hW.alike hK, hD⟩, hS.F ht⟩) hS.2.2 dX6_mark_13

set_option maxHeartbeats 4000000 in
set_option maxRecDepth 100000 in
theorem c_X6_joyOf (l : Launch) (D : va_G) (cI cO : ClassId) (h : Nat) (aS : Nat) (pe : Nat) (tq : Nat) (se : Nat) (mo : Nat) (re : Nat) (bar : Int32) (tr : Int32) (fa : Int32) (ka : Nat) (sa : Nat) (n : Nat) (kd : Nat → Int32) (sd : Nat → Int32) (xa : Nat) (la : Nat) (tn : Nat) (ts : Nat → Int32) (j : Nat) (hn : n ≤ 9) (ht3 : tn ≤ 3) (hj : j < n) : Met l yX6_joyOf wsX6_joyOf ({ frames := 3, cells := 0, slots := 0, locals := 65 } : Room) (va_Pc [.ref h, .int (nI j)] (wdR D cI cO [(h, .inr (6, [.ref aS, .ref pe, .ref tq, .ref se, .ref mo, .ref re, .int bar, .int tr, .int fa])), (pe, .inr (1, [.ref ka, .ref sa, .int (nI n)])), (ka, .inl (cI, 9, .inl kd)), (sa, .inl (cI, 9, .inl sd)), (tq, .inr (5, [.ref xa, .ref la, .int (nI tn)])), (xa, .inl (cI, 3, .inl ts))])) (vp_Si (fun r => r = (joyI n kd sd tn ts j))) 0 0 (fun _ => False) := by
  refine Met.ofW (cc := cX6_joyOf) (maxL := 3) (ret := (some .int)) (by decide) rfl ?_
  intro p e s m args below meth c s₁ B hml hv
  obtain ⟨rfl, hP, hK, hNw⟩ := hv
  have hx := B.exec
  have hb := B.bytes
  have hr := B.returns
  have hts := atoms_spec (ws := wsX6_joyOf) B.pre
  have hown : s.vm.findClass RX6 = some m.cls := findClass_of_methodNamed B.named
  have hlocks := B.notSynchronized
  have f21 := hts (.fieldLink RX6 21 "StruckThrees" "people" "LStruckThrees$People;") (by decide +kernel)
  have f28 := hts (.fieldLink RX6 28 "StruckThrees" "threes" "LStruckThrees$Threes;") (by decide +kernel)
  have iX6 : ∀ w ∈ wsX60, w ∈ wsX6_joyOf := by decide +kernel
  have hP : va_P D vwCl [(h, .inr (6, [.ref aS, .ref pe, .ref tq, .ref se, .ref mo, .ref re, .int bar, .int tr, .int fa])), (pe, .inr (1, [.ref ka, .ref sa, .int (nI n)])), (ka, .inl (cI, 9, .inl kd)), (sa, .inl (cI, 9, .inl sd)), (tq, .inr (5, [.ref xa, .ref la, .int (nI tn)])), (xa, .inl (cI, 3, .inl ts))] s.heap := hP
  have hl := lv_entry ([.ref h, .int (nI j)]) (n := 3) (Nat.le_of_ble_eq_true rfl)
  rw [lg_entry_eq]
  generalize (lg_sl ([.ref h, .int (nI j)]) ++ List.replicate (3 - (lg_sl ([.ref h, .int (nI j)])).length) Slot.unset).toArray = ls at hl ⊢
  have hl : lv_has ls 3 [(0, .ref h), (1, .int (nI j))] := hl
  refine lv_aload_n hx hb dX6_joyOf_0 rfl (lv_at hl 0 rfl) ?_
  refine va_get (D := D) (ci := 6) (v := .ref tq) (C := RX6) (T := TX6) (N := 9) hx hb hts iX6 hown hK hP 0 rfl rfl 2 (by decide) f28 (fun _ h9 => h9) rfl dX6_joyOf_1 ?_
  refine lv_iload_n hx hb dX6_joyOf_4 rfl (lv_at hl 1 rfl) ?_
  have hPc := hP.sub (ws' := [(tq, .inr (5, [.ref xa, .ref la, .int (nI tn)])), (xa, .inl (cI, 3, .inl ts))]) [4, 5] rfl
  refine vp_callSi (va_Run.run (va_runV (As := [.int (nI j)]) (rest := []) ⟨hx, hb, hml, hown, hts⟩ (c_X5_threeOf l D cI cO tq xa la tn ts j (by assumption) (by omega)) (cwV 1 hts gX6_joyOf_X5_threeOf rfl rfl rfl (by decide +kernel) ⟨Nat.le_of_ble_eq_true rfl, Nat.le_of_ble_eq_true rfl⟩) (preVR hPc hK hNw (va_recv hK hPc (ci := 5) (q0 := 0) rfl rfl)) rfl rfl hl.1 rfl (lv_room (Nat.le_of_ble_eq_true rfl)) dX6_joyOf_5 ⟨Nat.zero_le _, Nat.zero_le _⟩)) (fun r5 w5 => ?_)
  obtain rfl := w5
  refine lv_istore_n (lv' := [(2, .int (thrW ts j tn 0)), (0, .ref h), (1, .int (nI j))]) hx hb dX6_joyOf_8 rfl hl (by decide) rfl (fun ls hl => ?_)
  refine lv_iload_n hx hb dX6_joyOf_9 rfl (lv_at hl 0 rfl) ?_
  refine lv_bipush (v := -9) hx hb dX6_joyOf_10 (by decide) ?_
  refine lv_icmp_ne (tgt := 19) hx hb dX6_joyOf_12 (by decide) (fun c12 => ?_) (fun c12 => ?_)
  · -- t12
    obtain ⟨t0, ht0, et0⟩ := thrW_in c12
    refine lv_aload_n hx hb dX6_joyOf_19 rfl (lv_at hl 1 rfl) ?_
    refine va_get (D := D) (ci := 6) (v := .ref pe) (C := RX6) (T := TX6) (N := 9) hx hb hts iX6 hown hK hP 0 rfl rfl 1 (by decide) f21 (fun _ h9 => h9) rfl dX6_joyOf_20 ?_
    refine lv_aload_n hx hb dX6_joyOf_23 rfl (lv_at hl 1 rfl) ?_
    refine va_get (D := D) (ci := 6) (v := .ref tq) (C := RX6) (T := TX6) (N := 9) hx hb hts iX6 hown hK hP 0 rfl rfl 2 (by decide) f28 (fun _ h9 => h9) rfl dX6_joyOf_24 ?_
    refine lv_iload_n hx hb dX6_joyOf_27 rfl (lv_at hl 0 rfl) ?_
    refine tp_i (y := nI t0) (et0) ?_
    have hPc := hP.sub (ws' := [(tq, .inr (5, [.ref xa, .ref la, .int (nI tn)])), (xa, .inl (cI, 3, .inl ts))]) [4, 5] rfl
    refine vp_callSi (va_Run.run (va_runV (As := [.int (nI t0)]) (rest := [.ref pe]) ⟨hx, hb, hml, hown, hts⟩ (c_X5_setOf l D cI cO tq xa la tn ts t0 (by assumption) (ht0)) (cwV 1 hts gX6_joyOf_X5_setOf rfl rfl rfl (by decide +kernel) ⟨Nat.le_of_ble_eq_true rfl, Nat.le_of_ble_eq_true rfl⟩) (preVR hPc hK hNw (va_recv hK hPc (ci := 5) (q0 := 0) rfl rfl)) rfl rfl hl.1 rfl (lv_room (Nat.le_of_ble_eq_true rfl)) dX6_joyOf_28 ⟨Nat.zero_le _, Nat.zero_le _⟩)) (fun r28 w28 => ?_)
    obtain rfl := w28
    have hPc := hP.sub (ws' := [(pe, .inr (1, [.ref ka, .ref sa, .int (nI n)])), (ka, .inl (cI, 9, .inl kd)), (sa, .inl (cI, 9, .inl sd))]) [1, 2, 3] rfl
    refine vp_callSi (va_Run.run (va_runV (As := [.int (ts t0)]) (rest := []) ⟨hx, hb, hml, hown, hts⟩ (c_X1_ringsOf l D cI cO pe ka sa n kd sd (ts t0) (by assumption)) (cwV 1 hts gX6_joyOf_X1_ringsOf rfl rfl rfl (by decide +kernel) ⟨Nat.le_of_ble_eq_true rfl, Nat.le_of_ble_eq_true rfl⟩) (preVR hPc hK hNw (va_recv hK hPc (ci := 1) (q0 := 0) rfl rfl)) rfl rfl hl.1 rfl (lv_room (Nat.le_of_ble_eq_true rfl)) dX6_joyOf_31 ⟨Nat.zero_le _, Nat.zero_le _⟩)) (fun r31 w31 => ?_)
    obtain rfl := w31
    exact W.iret (v := sumW (fun p => ringI (kd p) (sd p)) (ts t0) n) hx hb hr (fun t ht hW => ⟨_, rfl, by first | (simp [joyI, c12]; done) | (unfold joyI; rw [if_neg c12, et0, nI_clamp (by omega)]), ht⟩) (fun _ h => absurd h List.not_mem_nil) dX6_joyOf_34
  · -- f12
    refine lv_iconst (v := 0) hx hb dX6_joyOf_15 (by decide) ?_
    refine lv_goto (tgt := 34) hx hb dX6_joyOf_16 (by decide) ?_
    exact W.iret (v := 0) hx hb hr (fun t ht hW => ⟨_, rfl, by first | (simp [joyI, c12]; done) | (unfold joyI; rw [if_neg c12, et0, nI_clamp (by omega)]), ht⟩) (fun _ h => absurd h List.not_mem_nil) dX6_joyOf_34

set_option maxHeartbeats 4000000 in
set_option maxRecDepth 100000 in
theorem c_X6_greatestJoy (l : Launch) (D : va_G) (cI cO : ClassId) (h : Nat) (aS : Nat) (pe : Nat) (tq : Nat) (se : Nat) (mo : Nat) (re : Nat) (bar : Int32) (tr : Int32) (fa : Int32) (ka : Nat) (sa : Nat) (n : Nat) (kd : Nat → Int32) (sd : Nat → Int32) (xa : Nat) (la : Nat) (tn : Nat) (ts : Nat → Int32) (set : Int32) (hn : n ≤ 9) (ht3 : tn ≤ 3) : Met l yX6_greatestJoy wsX6_greatestJoy ({ frames := 4, cells := 0, slots := 0, locals := 87 } : Room) (va_Pc [.ref h, .int set] (wdR D cI cO [(h, .inr (6, [.ref aS, .ref pe, .ref tq, .ref se, .ref mo, .ref re, .int bar, .int tr, .int fa])), (pe, .inr (1, [.ref ka, .ref sa, .int (nI n)])), (ka, .inl (cI, 9, .inl kd)), (sa, .inl (cI, 9, .inl sd)), (tq, .inr (5, [.ref xa, .ref la, .int (nI tn)])), (xa, .inl (cI, 3, .inl ts))])) (vp_Si (fun r => r = (gjW n kd sd tn ts set n))) 0 0 (fun _ => False) := by
  refine Met.ofW (cc := cX6_greatestJoy) (maxL := 4) (ret := (some .int)) (by decide) rfl ?_
  intro p e s m args below meth c s₁ B hml hv
  obtain ⟨rfl, hP, hK, hNw⟩ := hv
  have hx := B.exec
  have hb := B.bytes
  have hr := B.returns
  have hts := atoms_spec (ws := wsX6_greatestJoy) B.pre
  have hown : s.vm.findClass RX6 = some m.cls := findClass_of_methodNamed B.named
  have hlocks := B.notSynchronized
  have f21 := hts (.fieldLink RX6 21 "StruckThrees" "people" "LStruckThrees$People;") (by decide +kernel)
  have f94 := hNw.f (args := ([.ref h, .int set]).toArray) ("StruckThrees", 94, "StruckThrees$People", "count", "I") (by decide)
  have iX1 : ∀ w ∈ wsX10, w ∈ wsX6_greatestJoy := by decide +kernel
  have iX6 : ∀ w ∈ wsX60, w ∈ wsX6_greatestJoy := by decide +kernel
  have hP : va_P D vwCl [(h, .inr (6, [.ref aS, .ref pe, .ref tq, .ref se, .ref mo, .ref re, .int bar, .int tr, .int fa])), (pe, .inr (1, [.ref ka, .ref sa, .int (nI n)])), (ka, .inl (cI, 9, .inl kd)), (sa, .inl (cI, 9, .inl sd)), (tq, .inr (5, [.ref xa, .ref la, .int (nI tn)])), (xa, .inl (cI, 3, .inl ts))] s.heap := hP
  have hl := lv_entry ([.ref h, .int set]) (n := 4) (Nat.le_of_ble_eq_true rfl)
  rw [lg_entry_eq]
  generalize (lg_sl ([.ref h, .int set]) ++ List.replicate (4 - (lg_sl ([.ref h, .int set])).length) Slot.unset).toArray = ls at hl ⊢
  have hl : lv_has ls 4 [(0, .ref h), (1, .int set)] := hl
  refine lv_iconst (v := 0) hx hb dX6_greatestJoy_0 (by decide) ?_
  refine lv_istore_n (lv' := [(2, .int 0), (0, .ref h), (1, .int set)]) hx hb dX6_greatestJoy_1 rfl hl (by decide) rfl (fun ls hl => ?_)
  refine lv_iconst (v := 0) hx hb dX6_greatestJoy_2 (by decide) ?_
  refine lv_istore_n (lv' := [(3, .int 0), (2, .int 0), (0, .ref h), (1, .int set)]) hx hb dX6_greatestJoy_3 rfl hl (by decide) rfl (fun ls hl => ?_)
  have lp4 : ∀ (fu4 : Nat) (i : Nat) (hi : i ≤ n) (hm4 : n - i < fu4) (ls : Array Slot) (hl : lv_has ls 4 [(0, .ref h), (1, .int set), (2, .int (gjW n kd sd tn ts set i)), (3, .int (nI i))]), W p l e (headSpec wsX6_greatestJoy ({ frames := 4, cells := 0, slots := 0, locals := 87 } : Room)).room s m ([.ref h, .int set]).toArray below meth c s.heap [] 0 0 (MQ below (vp_Si (fun r => r = (gjW n kd sd tn ts set n))) ([.ref h, .int set]).toArray s 0 0 (fun _ => False)) (F0 m 4 ls []) := by
    intro fu4
    induction fu4 with
    | zero =>
      intros; omega
    | succ fu4 ih4 =>
      intro i hi hm4 ls hl
      refine lv_iload_n hx hb dX6_greatestJoy_4 rfl (lv_at hl 3 rfl) ?_
      refine lv_aload_n hx hb dX6_greatestJoy_5 rfl (lv_at hl 0 rfl) ?_
      refine va_get (D := D) (ci := 6) (v := .ref pe) (C := RX6) (T := TX6) (N := 9) hx hb hts iX6 hown hK hP 0 rfl rfl 1 (by decide) f21 (fun _ h9 => h9) rfl dX6_greatestJoy_6 ?_
      refine va_getN (D := D) (ci := 1) (v := .int (nI n)) (C := RX1) (T := TX1) (N := 3) hx hb hts iX1 hown hK hP 1 rfl rfl 2 (by decide) f94 (fun _ h9 => h9) rfl dX6_greatestJoy_9 ?_
      refine lv_icmp_ge (tgt := 39) hx hb dX6_greatestJoy_12 (by decide) (fun c12 => ?_) (fun c12 => ?_)
      · -- t12
        have e12 : i = n := by have q := ge_n (by omega) (by omega) c12; omega
        rw [e12] at hl
        refine lv_iload_n hx hb dX6_greatestJoy_39 rfl (lv_at hl 2 rfl) ?_
        exact W.iret (v := gjW n kd sd tn ts set n) hx hb hr (fun t ht hW => ⟨_, rfl, by rfl, ht⟩) (fun _ h => absurd h List.not_mem_nil) dX6_greatestJoy_40
      · -- f12
        have l12 : i < n := lt_n (by omega) (by omega) c12
        refine lv_iload_n hx hb dX6_greatestJoy_15 rfl (lv_at hl 1 rfl) ?_
        refine lv_iconst (v := 1) hx hb dX6_greatestJoy_16 (by decide) ?_
        refine lv_iload_n hx hb dX6_greatestJoy_17 rfl (lv_at hl 3 rfl) ?_
        refine lv_ishl hx hb dX6_greatestJoy_18 ?_
        refine lv_iand hx hb dX6_greatestJoy_19 ?_
        refine lv_if_eq (tgt := 33) hx hb dX6_greatestJoy_20 (by decide) (fun c20 => ?_) (fun c20 => ?_)
        · -- t20
          have cb20 : bt set i = false := (bt_and0 set (by omega)).mp c20
          refine lv_iinc (v := nI (i + 1)) (lv' := [(3, .int (nI (i + 1))), (0, .ref h), (1, .int set), (2, .int (gjW n kd sd tn ts set i))]) hx hb dX6_greatestJoy_33 hl (k := 3) rfl (nI_1 _) (by decide) rfl (fun ls hl => ?_)
          refine lv_goto (tgt := 4) hx hb dX6_greatestJoy_36 (by decide) ?_
          have e4_2 : (gjW n kd sd tn ts set i) = gjW n kd sd tn ts set (i + 1) := by simp [gjW, cb20]
          have hl : lv_has ls 4 [(3, .int (nI (i + 1))), (0, .ref h), (1, .int set), (2, .int (gjW n kd sd tn ts set (i + 1)))] := by rw [← e4_2]; exact hl
          exact ih4 (i + 1) (by omega) (by omega) _ (lv_sub hl [1, 2, 3, 0] rfl)
        · -- f20
          have cb20 : bt set i = true := by rw [← Bool.not_eq_false]; exact mt (bt_and0 set (by omega)).mpr c20
          refine lv_iload_n hx hb dX6_greatestJoy_23 rfl (lv_at hl 2 rfl) ?_
          refine lv_aload_n hx hb dX6_greatestJoy_24 rfl (lv_at hl 0 rfl) ?_
          refine lv_iload_n hx hb dX6_greatestJoy_25 rfl (lv_at hl 3 rfl) ?_
          have hPc := hP.sub (ws' := [(h, .inr (6, [.ref aS, .ref pe, .ref tq, .ref se, .ref mo, .ref re, .int bar, .int tr, .int fa])), (pe, .inr (1, [.ref ka, .ref sa, .int (nI n)])), (ka, .inl (cI, 9, .inl kd)), (sa, .inl (cI, 9, .inl sd)), (tq, .inr (5, [.ref xa, .ref la, .int (nI tn)])), (xa, .inl (cI, 3, .inl ts))]) [0, 1, 2, 3, 4, 5] rfl
          refine vp_callSi (va_Run.run (va_runV (As := [.int (nI i)]) (rest := [.int (gjW n kd sd tn ts set i)]) ⟨hx, hb, hml, hown, hts⟩ (c_X6_joyOf l D cI cO h aS pe tq se mo re bar tr fa ka sa n kd sd xa la tn ts i (by assumption) (by assumption) (by assumption)) (cwV 1 hts gX6_greatestJoy_X6_joyOf rfl rfl rfl (by decide +kernel) ⟨Nat.le_of_ble_eq_true rfl, Nat.le_of_ble_eq_true rfl⟩) (preVR hPc hK hNw (va_recv hK hPc (ci := 6) (q0 := 0) rfl rfl)) rfl rfl hl.1 rfl (lv_room (Nat.le_of_ble_eq_true rfl)) dX6_greatestJoy_26 ⟨Nat.zero_le _, Nat.zero_le _⟩)) (fun r26 w26 => ?_)
          obtain rfl := w26
          refine va_mmax hx hb (hml.trans hl.1.symm) hown (hts (.methodLink RX6 199 Lib.Math.max.name) (by decide +kernel)) (hts (.static Lib.Math.max.name) (by decide +kernel)) (hts (.initialized "java/lang/Math") (by decide +kernel)) (hts (.code Lib.Math.max.name Lib.Math.max.code 2 (some .int)) (by decide +kernel)) (Nat.le_of_ble_eq_true rfl) (Nat.le_of_ble_eq_true rfl) (Nat.zero_le _) (Nat.zero_le _) dX6_greatestJoy_29 ?_
          refine lv_istore_n (lv' := [(2, .int (if (gjW n kd sd tn ts set i) < (joyI n kd sd tn ts i) then (joyI n kd sd tn ts i) else (gjW n kd sd tn ts set i))), (0, .ref h), (1, .int set), (3, .int (nI i))]) hx hb dX6_greatestJoy_32 rfl hl (by decide) rfl (fun ls hl => ?_)
          refine lv_iinc (v := nI (i + 1)) (lv' := [(3, .int (nI (i + 1))), (2, .int (if (gjW n kd sd tn ts set i) < (joyI n kd sd tn ts i) then (joyI n kd sd tn ts i) else (gjW n kd sd tn ts set i))), (0, .ref h), (1, .int set)]) hx hb dX6_greatestJoy_33 hl (k := 3) rfl (nI_1 _) (by decide) rfl (fun ls hl => ?_)
          refine lv_goto (tgt := 4) hx hb dX6_greatestJoy_36 (by decide) ?_
          have e4_2 : (if (gjW n kd sd tn ts set i) < (joyI n kd sd tn ts i) then (joyI n kd sd tn ts i) else (gjW n kd sd tn ts set i)) = gjW n kd sd tn ts set (i + 1) := by simp [gjW, cb20]
          have hl : lv_has ls 4 [(3, .int (nI (i + 1))), (2, .int (gjW n kd sd tn ts set (i + 1))), (0, .ref h), (1, .int set)] := by rw [← e4_2]; exact hl
          exact ih4 (i + 1) (by omega) (by omega) _ (lv_sub hl [2, 3, 1, 0] rfl)
  exact lp4 _ 0 (Nat.zero_le _) (Nat.lt_succ_self _) _ (lv_sub hl [2, 3, 1, 0] rfl)

set_option maxHeartbeats 4000000 in
set_option maxRecDepth 100000 in
theorem c_X6_steelTells (l : Launch) (D : va_G) (cI cO : ClassId) (h : Nat) (aS : Nat) (pe : Nat) (tq : Nat) (se : Nat) (mo : Nat) (re : Nat) (bar : Int32) (tr : Int32) (fa : Int32) (ka : Nat) (sa : Nat) (n : Nat) (kd : Nat → Int32) (sd : Nat → Int32) (j : Nat) (sz : Nat) (hn : n ≤ 9) (hj : j < n) : Met l yX6_steelTells wsX6_steelTells ({ frames := 2, cells := 0, slots := 0, locals := 42 } : Room) (va_Pc [.ref h, .int (nI j)] (wdW D cI cO [(h, .inr (6, [.ref aS, .ref pe, .ref tq, .ref se, .ref mo, .ref re, .int bar, .int tr, .int fa])), (pe, .inr (1, [.ref ka, .ref sa, .int (nI n)])), (ka, .inl (cI, 9, .inl kd)), (sa, .inl (cI, 9, .inl sd))] sz)) (va_Qi (S := Int32) (fun r u => r = (sd j) ∧ u = (31 * tr + 1)) (fun u t => va_P D vwCl [(h, .inr (6, [.ref aS, .ref pe, .ref tq, .ref se, .ref mo, .ref re, .int bar, .int u, .int fa])), (pe, .inr (1, [.ref ka, .ref sa, .int (nI n)])), (ka, .inl (cI, 9, .inl kd)), (sa, .inl (cI, 9, .inl sd))] t.heap ∧ va_K D vwCl (tyL cI cO) t ∧ va_D (va_A [(h, .inr (6, [.ref aS, .ref pe, .ref tq, .ref se, .ref mo, .ref re, .int bar, .int tr, .int fa])), (pe, .inr (1, [.ref ka, .ref sa, .int (nI n)])), (ka, .inl (cI, 9, .inl kd)), (sa, .inl (cI, 9, .inl sd))] sz) [(h, .inr (6, [.ref aS, .ref pe, .ref tq, .ref se, .ref mo, .ref re, .int bar, .int u, .int fa])), (pe, .inr (1, [.ref ka, .ref sa, .int (nI n)])), (ka, .inl (cI, 9, .inl kd)), (sa, .inl (cI, 9, .inl sd))]) (va_A [(h, .inr (6, [.ref aS, .ref pe, .ref tq, .ref se, .ref mo, .ref re, .int bar, .int tr, .int fa])), (pe, .inr (1, [.ref ka, .ref sa, .int (nI n)])), (ka, .inl (cI, 9, .inl kd)), (sa, .inl (cI, 9, .inl sd))] sz)) 0 0 (va_A [(h, .inr (6, [.ref aS, .ref pe, .ref tq, .ref se, .ref mo, .ref re, .int bar, .int tr, .int fa])), (pe, .inr (1, [.ref ka, .ref sa, .int (nI n)])), (ka, .inl (cI, 9, .inl kd)), (sa, .inl (cI, 9, .inl sd))] sz) := by
  refine Met.ofW (cc := cX6_steelTells) (maxL := 2) (ret := (some .int)) (by decide) rfl ?_
  intro p e s m args below meth c s₁ B hml hv
  obtain ⟨rfl, hsz, hP, hK, hNw, hD0⟩ := hv
  have hx := B.exec
  have hb := B.bytes
  have hr := B.returns
  have hts := atoms_spec (ws := wsX6_steelTells) B.pre
  have hown : s.vm.findClass RX6 = some m.cls := findClass_of_methodNamed B.named
  have hlocks := B.notSynchronized
  have f21 := hts (.fieldLink RX6 21 "StruckThrees" "people" "LStruckThrees$People;") (by decide +kernel)
  have iX6 : ∀ w ∈ wsX60, w ∈ wsX6_steelTells := by decide +kernel
  subst hsz
  have hD := hD0.self (sz := s.heap.size)
  generalize hAe : va_A [(h, .inr (6, [.ref aS, .ref pe, .ref tq, .ref se, .ref mo, .ref re, .int bar, .int tr, .int fa])), (pe, .inr (1, [.ref ka, .ref sa, .int (nI n)])), (ka, .inl (cI, 9, .inl kd)), (sa, .inl (cI, 9, .inl sd))] s.heap.size = A at hD ⊢
  have hA : ∀ q : Nat, s.heap.size ≤ q → A q := fun q h => by rw [← hAe]; exact Or.inr h
  have hS : va_S A s.heap s.heap [] := va_S.rf
  have hP : va_P D vwCl [(h, .inr (6, [.ref aS, .ref pe, .ref tq, .ref se, .ref mo, .ref re, .int bar, .int tr, .int fa])), (pe, .inr (1, [.ref ka, .ref sa, .int (nI n)])), (ka, .inl (cI, 9, .inl kd)), (sa, .inl (cI, 9, .inl sd))] s.heap := hP
  have hl := lv_entry ([.ref h, .int (nI j)]) (n := 2) (Nat.le_of_ble_eq_true rfl)
  rw [lg_entry_eq]
  generalize (lg_sl ([.ref h, .int (nI j)]) ++ List.replicate (2 - (lg_sl ([.ref h, .int (nI j)])).length) Slot.unset).toArray = ls at hl ⊢
  have hl : lv_has ls 2 [(0, .ref h), (1, .int (nI j))] := hl
  refine lv_aload_n hx hb dX6_steelTells_0 rfl (lv_at hl 0 rfl) ?_
  refine lv_iconst (v := 1) hx hb dX6_steelTells_1 (by decide) ?_
  have hPc := hP.sub (ws' := [(h, .inr (6, [.ref aS, .ref pe, .ref tq, .ref se, .ref mo, .ref re, .int bar, .int tr, .int fa]))]) [0] rfl
  have hDc := hD.sub (ws' := [(h, .inr (6, [.ref aS, .ref pe, .ref tq, .ref se, .ref mo, .ref re, .int bar, .int tr, .int fa]))]) [0] (by decide) rfl
  have hFc := va_free (wc := [(h, .inr (6, [.ref aS, .ref pe, .ref tq, .ref se, .ref mo, .ref re, .int bar, .int tr, .int fa]))]) hD hS hA [0] rfl
  refine va_callv (va_runV (As := [.int 1]) (rest := []) ⟨hx, hb, hml, hown, hts⟩ (c_X6_mark l D cI cO h aS pe tq se mo re bar tr fa 1 _) (cwV 1 hts gX6_steelTells_X6_mark rfl rfl rfl (by decide +kernel) ⟨Nat.le_of_ble_eq_true rfl, Nat.le_of_ble_eq_true rfl⟩) (preVW hPc hK hNw hDc (va_recv hK hPc (ci := 6) (q0 := 0) rfl rfl)) rfl rfl hl.1 rfl (lv_room (Nat.le_of_ble_eq_true rfl)) dX6_steelTells_2 ⟨Nat.zero_le _, Nat.zero_le _⟩) hS (fun q _ h => hFc q h) hFc (fun u t H1 locs ht hvm w2 hB hz1 hk1 hS => ?_)
  obtain ⟨tr1_2, rfl⟩ : ∃ z, z = u := ⟨_, rfl⟩
  obtain ⟨hP1, hK1, hD1⟩ := hB
  rw [ht] at hP1
  try dsimp only at w2
  obtain ⟨hP, hD⟩ := va_join (wr := [(pe, .inr (1, [.ref ka, .ref sa, .int (nI n)])), (ka, .inl (cI, 9, .inl kd)), (sa, .inl (cI, 9, .inl sd))]) (w1 := [(h, .inr (6, [.ref aS, .ref pe, .ref tq, .ref se, .ref mo, .ref re, .int bar, .int tr1_2, .int fa]))]) hP hD [0] [1, 2, 3] rfl rfl (by decide) (by decide) hk1 hFc hP1 hD1
  generalize H1 = H at hP hS ⊢
  have hP := hP.sub (ws' := [(h, .inr (6, [.ref aS, .ref pe, .ref tq, .ref se, .ref mo, .ref re, .int bar, .int tr1_2, .int fa])), (pe, .inr (1, [.ref ka, .ref sa, .int (nI n)])), (ka, .inl (cI, 9, .inl kd)), (sa, .inl (cI, 9, .inl sd))]) [3, 0, 1, 2] rfl
  have hD := hD.sub (ws' := [(h, .inr (6, [.ref aS, .ref pe, .ref tq, .ref se, .ref mo, .ref re, .int bar, .int tr1_2, .int fa])), (pe, .inr (1, [.ref ka, .ref sa, .int (nI n)])), (ka, .inl (cI, 9, .inl kd)), (sa, .inl (cI, 9, .inl sd))]) [3, 0, 1, 2] (by decide) rfl
  obtain rfl := w2
  refine lv_aload_n hx hb dX6_steelTells_5 rfl (lv_at hl 0 rfl) ?_
  refine va_get (D := D) (ci := 6) (v := .ref pe) (C := RX6) (T := TX6) (N := 9) hx hb hts iX6 hown hK hP 0 rfl rfl 1 (by decide) f21 (fun _ h9 => h9) rfl dX6_steelTells_6 ?_
  refine lv_iload_n hx hb dX6_steelTells_9 rfl (lv_at hl 1 rfl) ?_
  have hPc := hP.sub (ws' := [(pe, .inr (1, [.ref ka, .ref sa, .int (nI n)])), (sa, .inl (cI, 9, .inl sd))]) [1, 3] rfl
  refine vp_callSi (va_Run.run (va_runV (As := [.int (nI j)]) (rest := []) ⟨hx, hb, hml, hown, hts⟩ (c_X1_sideOf l D cI cO pe ka sa n sd (nI j) (by assumption)) (cwV 1 hts gX6_steelTells_X1_sideOf rfl rfl rfl (by decide +kernel) ⟨Nat.le_of_ble_eq_true rfl, Nat.le_of_ble_eq_true rfl⟩) (preVR hPc hK hNw (va_recv hK hPc (ci := 1) (q0 := 0) rfl rfl)) rfl rfl hl.1 rfl (lv_room (Nat.le_of_ble_eq_true rfl)) dX6_steelTells_10 ⟨Nat.zero_le _, Nat.zero_le _⟩)) (fun r10 w10 => ?_)
  obtain rfl := w10
  exact W.iret (v := sideF n sd (nI j)) hx hb hr (fun t ht hW => ⟨⟨_, (31 * tr + 1), rfl, by exact ⟨sideF_in hj (by omega), rfl⟩, by rw [ht]; exact hP, va_K.moved hW.alike hK, hD⟩, hS.F ht⟩) hS.2.2 dX6_steelTells_13

set_option maxHeartbeats 4000000 in
set_option maxRecDepth 100000 in
theorem c_X6_woolTells (l : Launch) (D : va_G) (cI cO : ClassId) (h : Nat) (aS : Nat) (pe : Nat) (tq : Nat) (se : Nat) (mo : Nat) (re : Nat) (bar : Int32) (tr : Int32) (fa : Int32) (ka : Nat) (sa : Nat) (n : Nat) (kd : Nat → Int32) (sd : Nat → Int32) (j : Nat) (sz : Nat) (hn : n ≤ 9) (hj : j < n) : Met l yX6_woolTells wsX6_woolTells ({ frames := 3, cells := 0, slots := 0, locals := 63 } : Room) (va_Pc [.ref h, .int (nI j)] (wdW D cI cO [(h, .inr (6, [.ref aS, .ref pe, .ref tq, .ref se, .ref mo, .ref re, .int bar, .int tr, .int fa])), (pe, .inr (1, [.ref ka, .ref sa, .int (nI n)])), (ka, .inl (cI, 9, .inl kd)), (sa, .inl (cI, 9, .inl sd))] sz)) (va_Qi (S := Int32) (fun r u => r = (sd j + 100) ∧ u = (31 * (31 * tr + 2) + 1)) (fun u t => va_P D vwCl [(h, .inr (6, [.ref aS, .ref pe, .ref tq, .ref se, .ref mo, .ref re, .int bar, .int u, .int fa])), (pe, .inr (1, [.ref ka, .ref sa, .int (nI n)])), (ka, .inl (cI, 9, .inl kd)), (sa, .inl (cI, 9, .inl sd))] t.heap ∧ va_K D vwCl (tyL cI cO) t ∧ va_D (va_A [(h, .inr (6, [.ref aS, .ref pe, .ref tq, .ref se, .ref mo, .ref re, .int bar, .int tr, .int fa])), (pe, .inr (1, [.ref ka, .ref sa, .int (nI n)])), (ka, .inl (cI, 9, .inl kd)), (sa, .inl (cI, 9, .inl sd))] sz) [(h, .inr (6, [.ref aS, .ref pe, .ref tq, .ref se, .ref mo, .ref re, .int bar, .int u, .int fa])), (pe, .inr (1, [.ref ka, .ref sa, .int (nI n)])), (ka, .inl (cI, 9, .inl kd)), (sa, .inl (cI, 9, .inl sd))]) (va_A [(h, .inr (6, [.ref aS, .ref pe, .ref tq, .ref se, .ref mo, .ref re, .int bar, .int tr, .int fa])), (pe, .inr (1, [.ref ka, .ref sa, .int (nI n)])), (ka, .inl (cI, 9, .inl kd)), (sa, .inl (cI, 9, .inl sd))] sz)) 0 0 (va_A [(h, .inr (6, [.ref aS, .ref pe, .ref tq, .ref se, .ref mo, .ref re, .int bar, .int tr, .int fa])), (pe, .inr (1, [.ref ka, .ref sa, .int (nI n)])), (ka, .inl (cI, 9, .inl kd)), (sa, .inl (cI, 9, .inl sd))] sz) := by
  refine Met.ofW (cc := cX6_woolTells) (maxL := 2) (ret := (some .int)) (by decide) rfl ?_
  intro p e s m args below meth c s₁ B hml hv
  obtain ⟨rfl, hsz, hP, hK, hNw, hD0⟩ := hv
  have hx := B.exec
  have hb := B.bytes
  have hr := B.returns
  have hts := atoms_spec (ws := wsX6_woolTells) B.pre
  have hown : s.vm.findClass RX6 = some m.cls := findClass_of_methodNamed B.named
  have hlocks := B.notSynchronized
  subst hsz
  have hD := hD0.self (sz := s.heap.size)
  generalize hAe : va_A [(h, .inr (6, [.ref aS, .ref pe, .ref tq, .ref se, .ref mo, .ref re, .int bar, .int tr, .int fa])), (pe, .inr (1, [.ref ka, .ref sa, .int (nI n)])), (ka, .inl (cI, 9, .inl kd)), (sa, .inl (cI, 9, .inl sd))] s.heap.size = A at hD ⊢
  have hA : ∀ q : Nat, s.heap.size ≤ q → A q := fun q h => by rw [← hAe]; exact Or.inr h
  have hS : va_S A s.heap s.heap [] := va_S.rf
  have hP : va_P D vwCl [(h, .inr (6, [.ref aS, .ref pe, .ref tq, .ref se, .ref mo, .ref re, .int bar, .int tr, .int fa])), (pe, .inr (1, [.ref ka, .ref sa, .int (nI n)])), (ka, .inl (cI, 9, .inl kd)), (sa, .inl (cI, 9, .inl sd))] s.heap := hP
  have hl := lv_entry ([.ref h, .int (nI j)]) (n := 2) (Nat.le_of_ble_eq_true rfl)
  rw [lg_entry_eq]
  generalize (lg_sl ([.ref h, .int (nI j)]) ++ List.replicate (2 - (lg_sl ([.ref h, .int (nI j)])).length) Slot.unset).toArray = ls at hl ⊢
  have hl : lv_has ls 2 [(0, .ref h), (1, .int (nI j))] := hl
  refine lv_aload_n hx hb dX6_woolTells_0 rfl (lv_at hl 0 rfl) ?_
  refine lv_iconst (v := 2) hx hb dX6_woolTells_1 (by decide) ?_
  have hPc := hP.sub (ws' := [(h, .inr (6, [.ref aS, .ref pe, .ref tq, .ref se, .ref mo, .ref re, .int bar, .int tr, .int fa]))]) [0] rfl
  have hDc := hD.sub (ws' := [(h, .inr (6, [.ref aS, .ref pe, .ref tq, .ref se, .ref mo, .ref re, .int bar, .int tr, .int fa]))]) [0] (by decide) rfl
  have hFc := va_free (wc := [(h, .inr (6, [.ref aS, .ref pe, .ref tq, .ref se, .ref mo, .ref re, .int bar, .int tr, .int fa]))]) hD hS hA [0] rfl
  refine va_callv (va_runV (As := [.int 2]) (rest := []) ⟨hx, hb, hml, hown, hts⟩ (c_X6_mark l D cI cO h aS pe tq se mo re bar tr fa 2 _) (cwV 1 hts gX6_woolTells_X6_mark rfl rfl rfl (by decide +kernel) ⟨Nat.le_of_ble_eq_true rfl, Nat.le_of_ble_eq_true rfl⟩) (preVW hPc hK hNw hDc (va_recv hK hPc (ci := 6) (q0 := 0) rfl rfl)) rfl rfl hl.1 rfl (lv_room (Nat.le_of_ble_eq_true rfl)) dX6_woolTells_2 ⟨Nat.zero_le _, Nat.zero_le _⟩) hS (fun q _ h => hFc q h) hFc (fun u t H1 locs ht hvm w2 hB hz1 hk1 hS => ?_)
  obtain ⟨tr1_2, rfl⟩ : ∃ z, z = u := ⟨_, rfl⟩
  obtain ⟨hP1, hK1, hD1⟩ := hB
  rw [ht] at hP1
  try dsimp only at w2
  obtain ⟨hP, hD⟩ := va_join (wr := [(pe, .inr (1, [.ref ka, .ref sa, .int (nI n)])), (ka, .inl (cI, 9, .inl kd)), (sa, .inl (cI, 9, .inl sd))]) (w1 := [(h, .inr (6, [.ref aS, .ref pe, .ref tq, .ref se, .ref mo, .ref re, .int bar, .int tr1_2, .int fa]))]) hP hD [0] [1, 2, 3] rfl rfl (by decide) (by decide) hk1 hFc hP1 hD1
  generalize H1 = H at hP hS ⊢
  have hP := hP.sub (ws' := [(h, .inr (6, [.ref aS, .ref pe, .ref tq, .ref se, .ref mo, .ref re, .int bar, .int tr1_2, .int fa])), (pe, .inr (1, [.ref ka, .ref sa, .int (nI n)])), (ka, .inl (cI, 9, .inl kd)), (sa, .inl (cI, 9, .inl sd))]) [3, 0, 1, 2] rfl
  have hD := hD.sub (ws' := [(h, .inr (6, [.ref aS, .ref pe, .ref tq, .ref se, .ref mo, .ref re, .int bar, .int tr1_2, .int fa])), (pe, .inr (1, [.ref ka, .ref sa, .int (nI n)])), (ka, .inl (cI, 9, .inl kd)), (sa, .inl (cI, 9, .inl sd))]) [3, 0, 1, 2] (by decide) rfl
  obtain rfl := w2
  refine lv_aload_n hx hb dX6_woolTells_5 rfl (lv_at hl 0 rfl) ?_
  refine lv_iload_n hx hb dX6_woolTells_6 rfl (lv_at hl 1 rfl) ?_
  have hPc := hP.sub (ws' := [(h, .inr (6, [.ref aS, .ref pe, .ref tq, .ref se, .ref mo, .ref re, .int bar, .int (31 * tr + 2), .int fa])), (pe, .inr (1, [.ref ka, .ref sa, .int (nI n)])), (ka, .inl (cI, 9, .inl kd)), (sa, .inl (cI, 9, .inl sd))]) [0, 1, 2, 3] rfl
  have hDc := hD.sub (ws' := [(h, .inr (6, [.ref aS, .ref pe, .ref tq, .ref se, .ref mo, .ref re, .int bar, .int (31 * tr + 2), .int fa])), (pe, .inr (1, [.ref ka, .ref sa, .int (nI n)])), (ka, .inl (cI, 9, .inl kd)), (sa, .inl (cI, 9, .inl sd))]) [0, 1, 2, 3] (by decide) rfl
  have hFc := va_free (wc := [(h, .inr (6, [.ref aS, .ref pe, .ref tq, .ref se, .ref mo, .ref re, .int bar, .int (31 * tr + 2), .int fa])), (pe, .inr (1, [.ref ka, .ref sa, .int (nI n)])), (ka, .inl (cI, 9, .inl kd)), (sa, .inl (cI, 9, .inl sd))]) hD hS hA [0, 1, 2, 3] rfl
  refine va_calli (va_runV (As := [.int (nI j)]) (rest := []) ⟨hx, hb, hml, hown, hts⟩ (c_X6_steelTells l D cI cO h aS pe tq se mo re bar (31 * tr + 2) fa ka sa n kd sd j _ (by assumption) (by assumption)) (cwV 1 hts gX6_woolTells_X6_steelTells rfl rfl rfl (by decide +kernel) ⟨Nat.le_of_ble_eq_true rfl, Nat.le_of_ble_eq_true rfl⟩) (preVW hPc hK hNw hDc (va_recv hK hPc (ci := 6) (q0 := 0) rfl rfl)) rfl rfl hl.1 rfl (lv_room (Nat.le_of_ble_eq_true rfl)) dX6_woolTells_7 ⟨Nat.zero_le _, Nat.zero_le _⟩) hS (fun q _ h => hFc q h) hFc (fun r7 u t H1 locs ht hvm w7 hB hz1 hk1 hS => ?_)
  obtain ⟨tr1_7, rfl⟩ : ∃ z, z = u := ⟨_, rfl⟩
  obtain ⟨hP1, hK1, hD1⟩ := hB
  rw [ht] at hP1
  try dsimp only at w7
  obtain ⟨hP, hD⟩ := va_join (wr := []) (w1 := [(h, .inr (6, [.ref aS, .ref pe, .ref tq, .ref se, .ref mo, .ref re, .int bar, .int tr1_7, .int fa])), (pe, .inr (1, [.ref ka, .ref sa, .int (nI n)])), (ka, .inl (cI, 9, .inl kd)), (sa, .inl (cI, 9, .inl sd))]) hP hD [0, 1, 2, 3] [] rfl rfl (by decide) (by decide) hk1 hFc hP1 hD1
  generalize H1 = H at hP hS ⊢
  have hP := hP.sub (ws' := [(h, .inr (6, [.ref aS, .ref pe, .ref tq, .ref se, .ref mo, .ref re, .int bar, .int tr1_7, .int fa])), (pe, .inr (1, [.ref ka, .ref sa, .int (nI n)])), (ka, .inl (cI, 9, .inl kd)), (sa, .inl (cI, 9, .inl sd))]) [0, 1, 2, 3] rfl
  have hD := hD.sub (ws' := [(h, .inr (6, [.ref aS, .ref pe, .ref tq, .ref se, .ref mo, .ref re, .int bar, .int tr1_7, .int fa])), (pe, .inr (1, [.ref ka, .ref sa, .int (nI n)])), (ka, .inl (cI, 9, .inl kd)), (sa, .inl (cI, 9, .inl sd))]) [0, 1, 2, 3] (by decide) rfl
  obtain ⟨rfl, rfl⟩ := w7
  refine lv_bipush (v := 100) hx hb dX6_woolTells_10 (by decide) ?_
  refine lv_iadd hx hb dX6_woolTells_12 ?_
  exact W.iret (v := (sd j) + 100) hx hb hr (fun t ht hW => ⟨⟨_, (31 * (31 * tr + 2) + 1), rfl, by exact ⟨rfl, rfl⟩, by rw [ht]; exact hP, va_K.moved hW.alike hK, hD⟩, hS.F ht⟩) hS.2.2 dX6_woolTells_13

set_option maxHeartbeats 4000000 in
set_option maxRecDepth 100000 in
theorem c_X6_beaterTells (l : Launch) (D : va_G) (cI cO : ClassId) (h : Nat) (aS : Nat) (pe : Nat) (tq : Nat) (se : Nat) (mo : Nat) (re : Nat) (bar : Int32) (tr : Int32) (fa : Int32) (ka : Nat) (sa : Nat) (n : Nat) (kd : Nat → Int32) (sd : Nat → Int32) (j : Nat) (sz : Nat) (hn : n ≤ 9) (hj : j < n) : Met l yX6_beaterTells wsX6_beaterTells ({ frames := 4, cells := 0, slots := 0, locals := 84 } : Room) (va_Pc [.ref h, .int (nI j)] (wdW D cI cO [(h, .inr (6, [.ref aS, .ref pe, .ref tq, .ref se, .ref mo, .ref re, .int bar, .int tr, .int fa])), (pe, .inr (1, [.ref ka, .ref sa, .int (nI n)])), (ka, .inl (cI, 9, .inl kd)), (sa, .inl (cI, 9, .inl sd))] sz)) (va_Qi (S := Int32) (fun r u => r = (sd j + 100 + sd j) ∧ u = (31 * (31 * (31 * (31 * tr + 3) + 2) + 1) + 1)) (fun u t => va_P D vwCl [(h, .inr (6, [.ref aS, .ref pe, .ref tq, .ref se, .ref mo, .ref re, .int bar, .int u, .int fa])), (pe, .inr (1, [.ref ka, .ref sa, .int (nI n)])), (ka, .inl (cI, 9, .inl kd)), (sa, .inl (cI, 9, .inl sd))] t.heap ∧ va_K D vwCl (tyL cI cO) t ∧ va_D (va_A [(h, .inr (6, [.ref aS, .ref pe, .ref tq, .ref se, .ref mo, .ref re, .int bar, .int tr, .int fa])), (pe, .inr (1, [.ref ka, .ref sa, .int (nI n)])), (ka, .inl (cI, 9, .inl kd)), (sa, .inl (cI, 9, .inl sd))] sz) [(h, .inr (6, [.ref aS, .ref pe, .ref tq, .ref se, .ref mo, .ref re, .int bar, .int u, .int fa])), (pe, .inr (1, [.ref ka, .ref sa, .int (nI n)])), (ka, .inl (cI, 9, .inl kd)), (sa, .inl (cI, 9, .inl sd))]) (va_A [(h, .inr (6, [.ref aS, .ref pe, .ref tq, .ref se, .ref mo, .ref re, .int bar, .int tr, .int fa])), (pe, .inr (1, [.ref ka, .ref sa, .int (nI n)])), (ka, .inl (cI, 9, .inl kd)), (sa, .inl (cI, 9, .inl sd))] sz)) 0 0 (va_A [(h, .inr (6, [.ref aS, .ref pe, .ref tq, .ref se, .ref mo, .ref re, .int bar, .int tr, .int fa])), (pe, .inr (1, [.ref ka, .ref sa, .int (nI n)])), (ka, .inl (cI, 9, .inl kd)), (sa, .inl (cI, 9, .inl sd))] sz) := by
  refine Met.ofW (cc := cX6_beaterTells) (maxL := 2) (ret := (some .int)) (by decide) rfl ?_
  intro p e s m args below meth c s₁ B hml hv
  obtain ⟨rfl, hsz, hP, hK, hNw, hD0⟩ := hv
  have hx := B.exec
  have hb := B.bytes
  have hr := B.returns
  have hts := atoms_spec (ws := wsX6_beaterTells) B.pre
  have hown : s.vm.findClass RX6 = some m.cls := findClass_of_methodNamed B.named
  have hlocks := B.notSynchronized
  subst hsz
  have hD := hD0.self (sz := s.heap.size)
  generalize hAe : va_A [(h, .inr (6, [.ref aS, .ref pe, .ref tq, .ref se, .ref mo, .ref re, .int bar, .int tr, .int fa])), (pe, .inr (1, [.ref ka, .ref sa, .int (nI n)])), (ka, .inl (cI, 9, .inl kd)), (sa, .inl (cI, 9, .inl sd))] s.heap.size = A at hD ⊢
  have hA : ∀ q : Nat, s.heap.size ≤ q → A q := fun q h => by rw [← hAe]; exact Or.inr h
  have hS : va_S A s.heap s.heap [] := va_S.rf
  have hP : va_P D vwCl [(h, .inr (6, [.ref aS, .ref pe, .ref tq, .ref se, .ref mo, .ref re, .int bar, .int tr, .int fa])), (pe, .inr (1, [.ref ka, .ref sa, .int (nI n)])), (ka, .inl (cI, 9, .inl kd)), (sa, .inl (cI, 9, .inl sd))] s.heap := hP
  have hl := lv_entry ([.ref h, .int (nI j)]) (n := 2) (Nat.le_of_ble_eq_true rfl)
  rw [lg_entry_eq]
  generalize (lg_sl ([.ref h, .int (nI j)]) ++ List.replicate (2 - (lg_sl ([.ref h, .int (nI j)])).length) Slot.unset).toArray = ls at hl ⊢
  have hl : lv_has ls 2 [(0, .ref h), (1, .int (nI j))] := hl
  refine lv_aload_n hx hb dX6_beaterTells_0 rfl (lv_at hl 0 rfl) ?_
  refine lv_iconst (v := 3) hx hb dX6_beaterTells_1 (by decide) ?_
  have hPc := hP.sub (ws' := [(h, .inr (6, [.ref aS, .ref pe, .ref tq, .ref se, .ref mo, .ref re, .int bar, .int tr, .int fa]))]) [0] rfl
  have hDc := hD.sub (ws' := [(h, .inr (6, [.ref aS, .ref pe, .ref tq, .ref se, .ref mo, .ref re, .int bar, .int tr, .int fa]))]) [0] (by decide) rfl
  have hFc := va_free (wc := [(h, .inr (6, [.ref aS, .ref pe, .ref tq, .ref se, .ref mo, .ref re, .int bar, .int tr, .int fa]))]) hD hS hA [0] rfl
  refine va_callv (va_runV (As := [.int 3]) (rest := []) ⟨hx, hb, hml, hown, hts⟩ (c_X6_mark l D cI cO h aS pe tq se mo re bar tr fa 3 _) (cwV 1 hts gX6_beaterTells_X6_mark rfl rfl rfl (by decide +kernel) ⟨Nat.le_of_ble_eq_true rfl, Nat.le_of_ble_eq_true rfl⟩) (preVW hPc hK hNw hDc (va_recv hK hPc (ci := 6) (q0 := 0) rfl rfl)) rfl rfl hl.1 rfl (lv_room (Nat.le_of_ble_eq_true rfl)) dX6_beaterTells_2 ⟨Nat.zero_le _, Nat.zero_le _⟩) hS (fun q _ h => hFc q h) hFc (fun u t H1 locs ht hvm w2 hB hz1 hk1 hS => ?_)
  obtain ⟨tr1_2, rfl⟩ : ∃ z, z = u := ⟨_, rfl⟩
  obtain ⟨hP1, hK1, hD1⟩ := hB
  rw [ht] at hP1
  try dsimp only at w2
  obtain ⟨hP, hD⟩ := va_join (wr := [(pe, .inr (1, [.ref ka, .ref sa, .int (nI n)])), (ka, .inl (cI, 9, .inl kd)), (sa, .inl (cI, 9, .inl sd))]) (w1 := [(h, .inr (6, [.ref aS, .ref pe, .ref tq, .ref se, .ref mo, .ref re, .int bar, .int tr1_2, .int fa]))]) hP hD [0] [1, 2, 3] rfl rfl (by decide) (by decide) hk1 hFc hP1 hD1
  generalize H1 = H at hP hS ⊢
  have hP := hP.sub (ws' := [(h, .inr (6, [.ref aS, .ref pe, .ref tq, .ref se, .ref mo, .ref re, .int bar, .int tr1_2, .int fa])), (pe, .inr (1, [.ref ka, .ref sa, .int (nI n)])), (ka, .inl (cI, 9, .inl kd)), (sa, .inl (cI, 9, .inl sd))]) [3, 0, 1, 2] rfl
  have hD := hD.sub (ws' := [(h, .inr (6, [.ref aS, .ref pe, .ref tq, .ref se, .ref mo, .ref re, .int bar, .int tr1_2, .int fa])), (pe, .inr (1, [.ref ka, .ref sa, .int (nI n)])), (ka, .inl (cI, 9, .inl kd)), (sa, .inl (cI, 9, .inl sd))]) [3, 0, 1, 2] (by decide) rfl
  obtain rfl := w2
  refine lv_aload_n hx hb dX6_beaterTells_5 rfl (lv_at hl 0 rfl) ?_
  refine lv_iload_n hx hb dX6_beaterTells_6 rfl (lv_at hl 1 rfl) ?_
  have hPc := hP.sub (ws' := [(h, .inr (6, [.ref aS, .ref pe, .ref tq, .ref se, .ref mo, .ref re, .int bar, .int (31 * tr + 3), .int fa])), (pe, .inr (1, [.ref ka, .ref sa, .int (nI n)])), (ka, .inl (cI, 9, .inl kd)), (sa, .inl (cI, 9, .inl sd))]) [0, 1, 2, 3] rfl
  have hDc := hD.sub (ws' := [(h, .inr (6, [.ref aS, .ref pe, .ref tq, .ref se, .ref mo, .ref re, .int bar, .int (31 * tr + 3), .int fa])), (pe, .inr (1, [.ref ka, .ref sa, .int (nI n)])), (ka, .inl (cI, 9, .inl kd)), (sa, .inl (cI, 9, .inl sd))]) [0, 1, 2, 3] (by decide) rfl
  have hFc := va_free (wc := [(h, .inr (6, [.ref aS, .ref pe, .ref tq, .ref se, .ref mo, .ref re, .int bar, .int (31 * tr + 3), .int fa])), (pe, .inr (1, [.ref ka, .ref sa, .int (nI n)])), (ka, .inl (cI, 9, .inl kd)), (sa, .inl (cI, 9, .inl sd))]) hD hS hA [0, 1, 2, 3] rfl
  refine va_calli (va_runV (As := [.int (nI j)]) (rest := []) ⟨hx, hb, hml, hown, hts⟩ (c_X6_woolTells l D cI cO h aS pe tq se mo re bar (31 * tr + 3) fa ka sa n kd sd j _ (by assumption) (by assumption)) (cwV 1 hts gX6_beaterTells_X6_woolTells rfl rfl rfl (by decide +kernel) ⟨Nat.le_of_ble_eq_true rfl, Nat.le_of_ble_eq_true rfl⟩) (preVW hPc hK hNw hDc (va_recv hK hPc (ci := 6) (q0 := 0) rfl rfl)) rfl rfl hl.1 rfl (lv_room (Nat.le_of_ble_eq_true rfl)) dX6_beaterTells_7 ⟨Nat.zero_le _, Nat.zero_le _⟩) hS (fun q _ h => hFc q h) hFc (fun r7 u t H1 locs ht hvm w7 hB hz1 hk1 hS => ?_)
  obtain ⟨tr1_7, rfl⟩ : ∃ z, z = u := ⟨_, rfl⟩
  obtain ⟨hP1, hK1, hD1⟩ := hB
  rw [ht] at hP1
  try dsimp only at w7
  obtain ⟨hP, hD⟩ := va_join (wr := []) (w1 := [(h, .inr (6, [.ref aS, .ref pe, .ref tq, .ref se, .ref mo, .ref re, .int bar, .int tr1_7, .int fa])), (pe, .inr (1, [.ref ka, .ref sa, .int (nI n)])), (ka, .inl (cI, 9, .inl kd)), (sa, .inl (cI, 9, .inl sd))]) hP hD [0, 1, 2, 3] [] rfl rfl (by decide) (by decide) hk1 hFc hP1 hD1
  generalize H1 = H at hP hS ⊢
  have hP := hP.sub (ws' := [(h, .inr (6, [.ref aS, .ref pe, .ref tq, .ref se, .ref mo, .ref re, .int bar, .int tr1_7, .int fa])), (pe, .inr (1, [.ref ka, .ref sa, .int (nI n)])), (ka, .inl (cI, 9, .inl kd)), (sa, .inl (cI, 9, .inl sd))]) [0, 1, 2, 3] rfl
  have hD := hD.sub (ws' := [(h, .inr (6, [.ref aS, .ref pe, .ref tq, .ref se, .ref mo, .ref re, .int bar, .int tr1_7, .int fa])), (pe, .inr (1, [.ref ka, .ref sa, .int (nI n)])), (ka, .inl (cI, 9, .inl kd)), (sa, .inl (cI, 9, .inl sd))]) [0, 1, 2, 3] (by decide) rfl
  obtain ⟨rfl, rfl⟩ := w7
  refine lv_aload_n hx hb dX6_beaterTells_10 rfl (lv_at hl 0 rfl) ?_
  refine lv_iload_n hx hb dX6_beaterTells_11 rfl (lv_at hl 1 rfl) ?_
  have hPc := hP.sub (ws' := [(h, .inr (6, [.ref aS, .ref pe, .ref tq, .ref se, .ref mo, .ref re, .int bar, .int (31 * (31 * (31 * tr + 3) + 2) + 1), .int fa])), (pe, .inr (1, [.ref ka, .ref sa, .int (nI n)])), (ka, .inl (cI, 9, .inl kd)), (sa, .inl (cI, 9, .inl sd))]) [0, 1, 2, 3] rfl
  have hDc := hD.sub (ws' := [(h, .inr (6, [.ref aS, .ref pe, .ref tq, .ref se, .ref mo, .ref re, .int bar, .int (31 * (31 * (31 * tr + 3) + 2) + 1), .int fa])), (pe, .inr (1, [.ref ka, .ref sa, .int (nI n)])), (ka, .inl (cI, 9, .inl kd)), (sa, .inl (cI, 9, .inl sd))]) [0, 1, 2, 3] (by decide) rfl
  have hFc := va_free (wc := [(h, .inr (6, [.ref aS, .ref pe, .ref tq, .ref se, .ref mo, .ref re, .int bar, .int (31 * (31 * (31 * tr + 3) + 2) + 1), .int fa])), (pe, .inr (1, [.ref ka, .ref sa, .int (nI n)])), (ka, .inl (cI, 9, .inl kd)), (sa, .inl (cI, 9, .inl sd))]) hD hS hA [0, 1, 2, 3] rfl
  refine va_calli (va_runV (As := [.int (nI j)]) (rest := [.int (sd j + 100)]) ⟨hx, hb, hml, hown, hts⟩ (c_X6_steelTells l D cI cO h aS pe tq se mo re bar (31 * (31 * (31 * tr + 3) + 2) + 1) fa ka sa n kd sd j _ (by assumption) (by assumption)) (cwV 1 hts gX6_beaterTells_X6_steelTells rfl rfl rfl (by decide +kernel) ⟨Nat.le_of_ble_eq_true rfl, Nat.le_of_ble_eq_true rfl⟩) (preVW hPc hK hNw hDc (va_recv hK hPc (ci := 6) (q0 := 0) rfl rfl)) rfl rfl hl.1 rfl (lv_room (Nat.le_of_ble_eq_true rfl)) dX6_beaterTells_12 ⟨Nat.zero_le _, Nat.zero_le _⟩) hS (fun q _ h => hFc q h) hFc (fun r12 u t H1 locs ht hvm w12 hB hz1 hk1 hS => ?_)
  obtain ⟨tr1_12, rfl⟩ : ∃ z, z = u := ⟨_, rfl⟩
  obtain ⟨hP1, hK1, hD1⟩ := hB
  rw [ht] at hP1
  try dsimp only at w12
  obtain ⟨hP, hD⟩ := va_join (wr := []) (w1 := [(h, .inr (6, [.ref aS, .ref pe, .ref tq, .ref se, .ref mo, .ref re, .int bar, .int tr1_12, .int fa])), (pe, .inr (1, [.ref ka, .ref sa, .int (nI n)])), (ka, .inl (cI, 9, .inl kd)), (sa, .inl (cI, 9, .inl sd))]) hP hD [0, 1, 2, 3] [] rfl rfl (by decide) (by decide) hk1 hFc hP1 hD1
  generalize H1 = H at hP hS ⊢
  have hP := hP.sub (ws' := [(h, .inr (6, [.ref aS, .ref pe, .ref tq, .ref se, .ref mo, .ref re, .int bar, .int tr1_12, .int fa])), (pe, .inr (1, [.ref ka, .ref sa, .int (nI n)])), (ka, .inl (cI, 9, .inl kd)), (sa, .inl (cI, 9, .inl sd))]) [0, 1, 2, 3] rfl
  have hD := hD.sub (ws' := [(h, .inr (6, [.ref aS, .ref pe, .ref tq, .ref se, .ref mo, .ref re, .int bar, .int tr1_12, .int fa])), (pe, .inr (1, [.ref ka, .ref sa, .int (nI n)])), (ka, .inl (cI, 9, .inl kd)), (sa, .inl (cI, 9, .inl sd))]) [0, 1, 2, 3] (by decide) rfl
  obtain ⟨rfl, rfl⟩ := w12
  refine lv_iadd hx hb dX6_beaterTells_15 ?_
  exact W.iret (v := (sd j + 100) + (sd j)) hx hb hr (fun t ht hW => ⟨⟨_, (31 * (31 * (31 * (31 * tr + 3) + 2) + 1) + 1), rfl, by exact ⟨rfl, rfl⟩, by rw [ht]; exact hP, va_K.moved hW.alike hK, hD⟩, hS.F ht⟩) hS.2.2 dX6_beaterTells_16

set_option maxHeartbeats 4000000 in
set_option maxRecDepth 100000 in
theorem c_X6_tell (l : Launch) (D : va_G) (cI cO : ClassId) (h : Nat) (aS : Nat) (pe : Nat) (tq : Nat) (se : Nat) (mo : Nat) (re : Nat) (bar : Int32) (tr : Int32) (fa : Int32) (ka : Nat) (sa : Nat) (n : Nat) (kd : Nat → Int32) (sd : Nat → Int32) (pp : Int32) (sz : Nat) (hn : n ≤ 9) : Met l yX6_tell wsX6_tell ({ frames := 5, cells := 0, slots := 0, locals := 105 } : Room) (va_Pc [.ref h, .int pp] (wdW D cI cO [(h, .inr (6, [.ref aS, .ref pe, .ref tq, .ref se, .ref mo, .ref re, .int bar, .int tr, .int fa])), (pe, .inr (1, [.ref ka, .ref sa, .int (nI n)])), (ka, .inl (cI, 9, .inl kd)), (sa, .inl (cI, 9, .inl sd))] sz)) (va_Qi (S := Int32) (fun r u => r = (onQ n pp (fun j => if kd j = 1 then sd j + 100 else if kd j = 2 then sd j + 100 + sd j else sd j) (-1)) ∧ u = (onQ n pp (fun j => if kd j = 1 then 31 * (31 * tr + 2) + 1 else if kd j = 2 then 31 * (31 * (31 * (31 * tr + 3) + 2) + 1) + 1 else 31 * tr + 1) tr)) (fun u t => va_P D vwCl [(h, .inr (6, [.ref aS, .ref pe, .ref tq, .ref se, .ref mo, .ref re, .int bar, .int u, .int fa])), (pe, .inr (1, [.ref ka, .ref sa, .int (nI n)])), (ka, .inl (cI, 9, .inl kd)), (sa, .inl (cI, 9, .inl sd))] t.heap ∧ va_K D vwCl (tyL cI cO) t ∧ va_D (va_A [(h, .inr (6, [.ref aS, .ref pe, .ref tq, .ref se, .ref mo, .ref re, .int bar, .int tr, .int fa])), (pe, .inr (1, [.ref ka, .ref sa, .int (nI n)])), (ka, .inl (cI, 9, .inl kd)), (sa, .inl (cI, 9, .inl sd))] sz) [(h, .inr (6, [.ref aS, .ref pe, .ref tq, .ref se, .ref mo, .ref re, .int bar, .int u, .int fa])), (pe, .inr (1, [.ref ka, .ref sa, .int (nI n)])), (ka, .inl (cI, 9, .inl kd)), (sa, .inl (cI, 9, .inl sd))]) (va_A [(h, .inr (6, [.ref aS, .ref pe, .ref tq, .ref se, .ref mo, .ref re, .int bar, .int tr, .int fa])), (pe, .inr (1, [.ref ka, .ref sa, .int (nI n)])), (ka, .inl (cI, 9, .inl kd)), (sa, .inl (cI, 9, .inl sd))] sz)) 0 0 (va_A [(h, .inr (6, [.ref aS, .ref pe, .ref tq, .ref se, .ref mo, .ref re, .int bar, .int tr, .int fa])), (pe, .inr (1, [.ref ka, .ref sa, .int (nI n)])), (ka, .inl (cI, 9, .inl kd)), (sa, .inl (cI, 9, .inl sd))] sz) := by
  refine Met.ofW (cc := cX6_tell) (maxL := 2) (ret := (some .int)) (by decide) rfl ?_
  intro p e s m args below meth c s₁ B hml hv
  obtain ⟨rfl, hsz, hP, hK, hNw, hD0⟩ := hv
  have hx := B.exec
  have hb := B.bytes
  have hr := B.returns
  have hts := atoms_spec (ws := wsX6_tell) B.pre
  have hown : s.vm.findClass RX6 = some m.cls := findClass_of_methodNamed B.named
  have hlocks := B.notSynchronized
  have f21 := hts (.fieldLink RX6 21 "StruckThrees" "people" "LStruckThrees$People;") (by decide +kernel)
  have iX6 : ∀ w ∈ wsX60, w ∈ wsX6_tell := by decide +kernel
  subst hsz
  have hD := hD0.self (sz := s.heap.size)
  generalize hAe : va_A [(h, .inr (6, [.ref aS, .ref pe, .ref tq, .ref se, .ref mo, .ref re, .int bar, .int tr, .int fa])), (pe, .inr (1, [.ref ka, .ref sa, .int (nI n)])), (ka, .inl (cI, 9, .inl kd)), (sa, .inl (cI, 9, .inl sd))] s.heap.size = A at hD ⊢
  have hA : ∀ q : Nat, s.heap.size ≤ q → A q := fun q h => by rw [← hAe]; exact Or.inr h
  have hS : va_S A s.heap s.heap [] := va_S.rf
  have hP : va_P D vwCl [(h, .inr (6, [.ref aS, .ref pe, .ref tq, .ref se, .ref mo, .ref re, .int bar, .int tr, .int fa])), (pe, .inr (1, [.ref ka, .ref sa, .int (nI n)])), (ka, .inl (cI, 9, .inl kd)), (sa, .inl (cI, 9, .inl sd))] s.heap := hP
  have hl := lv_entry ([.ref h, .int pp]) (n := 2) (Nat.le_of_ble_eq_true rfl)
  rw [lg_entry_eq]
  generalize (lg_sl ([.ref h, .int pp]) ++ List.replicate (2 - (lg_sl ([.ref h, .int pp])).length) Slot.unset).toArray = ls at hl ⊢
  have hl : lv_has ls 2 [(0, .ref h), (1, .int pp)] := hl
  refine lv_aload_n hx hb dX6_tell_0 rfl (lv_at hl 0 rfl) ?_
  refine va_get (D := D) (ci := 6) (v := .ref pe) (C := RX6) (T := TX6) (N := 9) hx hb hts iX6 hown hK hP 0 rfl rfl 1 (by decide) f21 (fun _ h9 => h9) rfl dX6_tell_1 ?_
  refine lv_iload_n hx hb dX6_tell_4 rfl (lv_at hl 1 rfl) ?_
  have hPc := hP.sub (ws' := [(pe, .inr (1, [.ref ka, .ref sa, .int (nI n)]))]) [1] rfl
  refine vp_callSi (va_Run.run (va_runV (As := [.int pp]) (rest := []) ⟨hx, hb, hml, hown, hts⟩ (c_X1_has l D cI cO pe ka sa n pp) (cwV 1 hts gX6_tell_X1_has rfl rfl rfl (by decide +kernel) ⟨Nat.le_of_ble_eq_true rfl, Nat.le_of_ble_eq_true rfl⟩) (preVR hPc hK hNw (va_recv hK hPc (ci := 1) (q0 := 0) rfl rfl)) rfl rfl hl.1 rfl (lv_room (Nat.le_of_ble_eq_true rfl)) dX6_tell_5 ⟨Nat.zero_le _, Nat.zero_le _⟩)) (fun r5 w5 => ?_)
  by_cases b5 : ¬ pp < 0 ∧ ¬ nI n ≤ pp
  · -- y5
    obtain rfl := w5.1 b5
    obtain ⟨j, hj, rfl⟩ := in_nat b5 (show n < 2 ^ 31 by omega)
    refine lv_if_ne (tgt := 13) hx hb dX6_tell_8 (by decide) (fun _ => ?_) (fun h => absurd h (by decide))
    refine lv_aload_n hx hb dX6_tell_13 rfl (lv_at hl 0 rfl) ?_
    refine va_get (D := D) (ci := 6) (v := .ref pe) (C := RX6) (T := TX6) (N := 9) hx hb hts iX6 hown hK hP 0 rfl rfl 1 (by decide) f21 (fun _ h9 => h9) rfl dX6_tell_14 ?_
    refine lv_iload_n hx hb dX6_tell_17 rfl (lv_at hl 1 rfl) ?_
    have hPc := hP.sub (ws' := [(pe, .inr (1, [.ref ka, .ref sa, .int (nI n)])), (ka, .inl (cI, 9, .inl kd))]) [1, 2] rfl
    refine vp_callSi (va_Run.run (va_runV (As := [.int (nI j)]) (rest := []) ⟨hx, hb, hml, hown, hts⟩ (c_X1_kindOf l D cI cO pe ka sa n kd j (by assumption) (by assumption)) (cwV 1 hts gX6_tell_X1_kindOf rfl rfl rfl (by decide +kernel) ⟨Nat.le_of_ble_eq_true rfl, Nat.le_of_ble_eq_true rfl⟩) (preVR hPc hK hNw (va_recv hK hPc (ci := 1) (q0 := 0) rfl rfl)) rfl rfl hl.1 rfl (lv_room (Nat.le_of_ble_eq_true rfl)) dX6_tell_18 ⟨Nat.zero_le _, Nat.zero_le _⟩)) (fun r18 w18 => ?_)
    obtain rfl := w18
    by_cases k21_1 : kd j = 1
    · -- case 1
      refine lv_lookup (off := 33) (tgt := 54) hx hb dX6_tell_21 (by decide) (by rw [k21_1]; decide) (by decide) ?_
      refine lv_aload_n hx hb dX6_tell_54 rfl (lv_at hl 0 rfl) ?_
      refine lv_iload_n hx hb dX6_tell_55 rfl (lv_at hl 1 rfl) ?_
      have hPc := hP.sub (ws' := [(h, .inr (6, [.ref aS, .ref pe, .ref tq, .ref se, .ref mo, .ref re, .int bar, .int tr, .int fa])), (pe, .inr (1, [.ref ka, .ref sa, .int (nI n)])), (ka, .inl (cI, 9, .inl kd)), (sa, .inl (cI, 9, .inl sd))]) [0, 1, 2, 3] rfl
      have hDc := hD.sub (ws' := [(h, .inr (6, [.ref aS, .ref pe, .ref tq, .ref se, .ref mo, .ref re, .int bar, .int tr, .int fa])), (pe, .inr (1, [.ref ka, .ref sa, .int (nI n)])), (ka, .inl (cI, 9, .inl kd)), (sa, .inl (cI, 9, .inl sd))]) [0, 1, 2, 3] (by decide) rfl
      have hFc := va_free (wc := [(h, .inr (6, [.ref aS, .ref pe, .ref tq, .ref se, .ref mo, .ref re, .int bar, .int tr, .int fa])), (pe, .inr (1, [.ref ka, .ref sa, .int (nI n)])), (ka, .inl (cI, 9, .inl kd)), (sa, .inl (cI, 9, .inl sd))]) hD hS hA [0, 1, 2, 3] rfl
      refine va_calli (va_runV (As := [.int (nI j)]) (rest := []) ⟨hx, hb, hml, hown, hts⟩ (c_X6_woolTells l D cI cO h aS pe tq se mo re bar tr fa ka sa n kd sd j _ (by assumption) (by assumption)) (cwV 1 hts gX6_tell_X6_woolTells rfl rfl rfl (by decide +kernel) ⟨Nat.le_of_ble_eq_true rfl, Nat.le_of_ble_eq_true rfl⟩) (preVW hPc hK hNw hDc (va_recv hK hPc (ci := 6) (q0 := 0) rfl rfl)) rfl rfl hl.1 rfl (lv_room (Nat.le_of_ble_eq_true rfl)) dX6_tell_56 ⟨Nat.zero_le _, Nat.zero_le _⟩) hS (fun q _ h => hFc q h) hFc (fun r56 u t H1 locs ht hvm w56 hB hz1 hk1 hS => ?_)
      obtain ⟨tr1_56, rfl⟩ : ∃ z, z = u := ⟨_, rfl⟩
      obtain ⟨hP1, hK1, hD1⟩ := hB
      rw [ht] at hP1
      try dsimp only at w56
      obtain ⟨hP, hD⟩ := va_join (wr := []) (w1 := [(h, .inr (6, [.ref aS, .ref pe, .ref tq, .ref se, .ref mo, .ref re, .int bar, .int tr1_56, .int fa])), (pe, .inr (1, [.ref ka, .ref sa, .int (nI n)])), (ka, .inl (cI, 9, .inl kd)), (sa, .inl (cI, 9, .inl sd))]) hP hD [0, 1, 2, 3] [] rfl rfl (by decide) (by decide) hk1 hFc hP1 hD1
      generalize H1 = H at hP hS ⊢
      have hP := hP.sub (ws' := [(h, .inr (6, [.ref aS, .ref pe, .ref tq, .ref se, .ref mo, .ref re, .int bar, .int tr1_56, .int fa])), (pe, .inr (1, [.ref ka, .ref sa, .int (nI n)])), (ka, .inl (cI, 9, .inl kd)), (sa, .inl (cI, 9, .inl sd))]) [0, 1, 2, 3] rfl
      have hD := hD.sub (ws' := [(h, .inr (6, [.ref aS, .ref pe, .ref tq, .ref se, .ref mo, .ref re, .int bar, .int tr1_56, .int fa])), (pe, .inr (1, [.ref ka, .ref sa, .int (nI n)])), (ka, .inl (cI, 9, .inl kd)), (sa, .inl (cI, 9, .inl sd))]) [0, 1, 2, 3] (by decide) rfl
      obtain ⟨rfl, rfl⟩ := w56
      exact W.iret (v := sd j + 100) hx hb hr (fun t ht hW => ⟨⟨_, (31 * (31 * tr + 2) + 1), rfl, by first | (simp [onQ_out b5]; done) | (simp [onQ_in hj (show n < 2 ^ 31 by omega), *]; done), by rw [ht]; exact hP, va_K.moved hW.alike hK, hD⟩, hS.F ht⟩) hS.2.2 dX6_tell_59
    by_cases k21_2 : kd j = 2
    · -- case 2
      refine lv_lookup (off := 27) (tgt := 48) hx hb dX6_tell_21 (by decide) (by rw [k21_2]; decide) (by decide) ?_
      refine lv_aload_n hx hb dX6_tell_48 rfl (lv_at hl 0 rfl) ?_
      refine lv_iload_n hx hb dX6_tell_49 rfl (lv_at hl 1 rfl) ?_
      have hPc := hP.sub (ws' := [(h, .inr (6, [.ref aS, .ref pe, .ref tq, .ref se, .ref mo, .ref re, .int bar, .int tr, .int fa])), (pe, .inr (1, [.ref ka, .ref sa, .int (nI n)])), (ka, .inl (cI, 9, .inl kd)), (sa, .inl (cI, 9, .inl sd))]) [0, 1, 2, 3] rfl
      have hDc := hD.sub (ws' := [(h, .inr (6, [.ref aS, .ref pe, .ref tq, .ref se, .ref mo, .ref re, .int bar, .int tr, .int fa])), (pe, .inr (1, [.ref ka, .ref sa, .int (nI n)])), (ka, .inl (cI, 9, .inl kd)), (sa, .inl (cI, 9, .inl sd))]) [0, 1, 2, 3] (by decide) rfl
      have hFc := va_free (wc := [(h, .inr (6, [.ref aS, .ref pe, .ref tq, .ref se, .ref mo, .ref re, .int bar, .int tr, .int fa])), (pe, .inr (1, [.ref ka, .ref sa, .int (nI n)])), (ka, .inl (cI, 9, .inl kd)), (sa, .inl (cI, 9, .inl sd))]) hD hS hA [0, 1, 2, 3] rfl
      refine va_calli (va_runV (As := [.int (nI j)]) (rest := []) ⟨hx, hb, hml, hown, hts⟩ (c_X6_beaterTells l D cI cO h aS pe tq se mo re bar tr fa ka sa n kd sd j _ (by assumption) (by assumption)) (cwV 1 hts gX6_tell_X6_beaterTells rfl rfl rfl (by decide +kernel) ⟨Nat.le_of_ble_eq_true rfl, Nat.le_of_ble_eq_true rfl⟩) (preVW hPc hK hNw hDc (va_recv hK hPc (ci := 6) (q0 := 0) rfl rfl)) rfl rfl hl.1 rfl (lv_room (Nat.le_of_ble_eq_true rfl)) dX6_tell_50 ⟨Nat.zero_le _, Nat.zero_le _⟩) hS (fun q _ h => hFc q h) hFc (fun r50 u t H1 locs ht hvm w50 hB hz1 hk1 hS => ?_)
      obtain ⟨tr1_50, rfl⟩ : ∃ z, z = u := ⟨_, rfl⟩
      obtain ⟨hP1, hK1, hD1⟩ := hB
      rw [ht] at hP1
      try dsimp only at w50
      obtain ⟨hP, hD⟩ := va_join (wr := []) (w1 := [(h, .inr (6, [.ref aS, .ref pe, .ref tq, .ref se, .ref mo, .ref re, .int bar, .int tr1_50, .int fa])), (pe, .inr (1, [.ref ka, .ref sa, .int (nI n)])), (ka, .inl (cI, 9, .inl kd)), (sa, .inl (cI, 9, .inl sd))]) hP hD [0, 1, 2, 3] [] rfl rfl (by decide) (by decide) hk1 hFc hP1 hD1
      generalize H1 = H at hP hS ⊢
      have hP := hP.sub (ws' := [(h, .inr (6, [.ref aS, .ref pe, .ref tq, .ref se, .ref mo, .ref re, .int bar, .int tr1_50, .int fa])), (pe, .inr (1, [.ref ka, .ref sa, .int (nI n)])), (ka, .inl (cI, 9, .inl kd)), (sa, .inl (cI, 9, .inl sd))]) [0, 1, 2, 3] rfl
      have hD := hD.sub (ws' := [(h, .inr (6, [.ref aS, .ref pe, .ref tq, .ref se, .ref mo, .ref re, .int bar, .int tr1_50, .int fa])), (pe, .inr (1, [.ref ka, .ref sa, .int (nI n)])), (ka, .inl (cI, 9, .inl kd)), (sa, .inl (cI, 9, .inl sd))]) [0, 1, 2, 3] (by decide) rfl
      obtain ⟨rfl, rfl⟩ := w50
      exact W.iret (v := sd j + 100 + sd j) hx hb hr (fun t ht hW => ⟨⟨_, (31 * (31 * (31 * (31 * tr + 3) + 2) + 1) + 1), rfl, by first | (simp [onQ_out b5]; done) | (simp [onQ_in hj (show n < 2 ^ 31 by omega), *]; done), by rw [ht]; exact hP, va_K.moved hW.alike hK, hD⟩, hS.F ht⟩) hS.2.2 dX6_tell_53
    refine lv_lookup (off := 39) (tgt := 60) hx hb dX6_tell_21 (by decide) (by show Op.lookupswitch.offset [(1, 33), (2, 27)] 39 _ = _; rw [lv_osw (k := 1) k21_1 (by decide), lv_osw (k := 2) k21_2 (by decide)]; rfl) (by decide) ?_
    refine lv_aload_n hx hb dX6_tell_60 rfl (lv_at hl 0 rfl) ?_
    refine lv_iload_n hx hb dX6_tell_61 rfl (lv_at hl 1 rfl) ?_
    have hPc := hP.sub (ws' := [(h, .inr (6, [.ref aS, .ref pe, .ref tq, .ref se, .ref mo, .ref re, .int bar, .int tr, .int fa])), (pe, .inr (1, [.ref ka, .ref sa, .int (nI n)])), (ka, .inl (cI, 9, .inl kd)), (sa, .inl (cI, 9, .inl sd))]) [0, 1, 2, 3] rfl
    have hDc := hD.sub (ws' := [(h, .inr (6, [.ref aS, .ref pe, .ref tq, .ref se, .ref mo, .ref re, .int bar, .int tr, .int fa])), (pe, .inr (1, [.ref ka, .ref sa, .int (nI n)])), (ka, .inl (cI, 9, .inl kd)), (sa, .inl (cI, 9, .inl sd))]) [0, 1, 2, 3] (by decide) rfl
    have hFc := va_free (wc := [(h, .inr (6, [.ref aS, .ref pe, .ref tq, .ref se, .ref mo, .ref re, .int bar, .int tr, .int fa])), (pe, .inr (1, [.ref ka, .ref sa, .int (nI n)])), (ka, .inl (cI, 9, .inl kd)), (sa, .inl (cI, 9, .inl sd))]) hD hS hA [0, 1, 2, 3] rfl
    refine va_calli (va_runV (As := [.int (nI j)]) (rest := []) ⟨hx, hb, hml, hown, hts⟩ (c_X6_steelTells l D cI cO h aS pe tq se mo re bar tr fa ka sa n kd sd j _ (by assumption) (by assumption)) (cwV 1 hts gX6_tell_X6_steelTells rfl rfl rfl (by decide +kernel) ⟨Nat.le_of_ble_eq_true rfl, Nat.le_of_ble_eq_true rfl⟩) (preVW hPc hK hNw hDc (va_recv hK hPc (ci := 6) (q0 := 0) rfl rfl)) rfl rfl hl.1 rfl (lv_room (Nat.le_of_ble_eq_true rfl)) dX6_tell_62 ⟨Nat.zero_le _, Nat.zero_le _⟩) hS (fun q _ h => hFc q h) hFc (fun r62 u t H1 locs ht hvm w62 hB hz1 hk1 hS => ?_)
    obtain ⟨tr1_62, rfl⟩ : ∃ z, z = u := ⟨_, rfl⟩
    obtain ⟨hP1, hK1, hD1⟩ := hB
    rw [ht] at hP1
    try dsimp only at w62
    obtain ⟨hP, hD⟩ := va_join (wr := []) (w1 := [(h, .inr (6, [.ref aS, .ref pe, .ref tq, .ref se, .ref mo, .ref re, .int bar, .int tr1_62, .int fa])), (pe, .inr (1, [.ref ka, .ref sa, .int (nI n)])), (ka, .inl (cI, 9, .inl kd)), (sa, .inl (cI, 9, .inl sd))]) hP hD [0, 1, 2, 3] [] rfl rfl (by decide) (by decide) hk1 hFc hP1 hD1
    generalize H1 = H at hP hS ⊢
    have hP := hP.sub (ws' := [(h, .inr (6, [.ref aS, .ref pe, .ref tq, .ref se, .ref mo, .ref re, .int bar, .int tr1_62, .int fa])), (pe, .inr (1, [.ref ka, .ref sa, .int (nI n)])), (ka, .inl (cI, 9, .inl kd)), (sa, .inl (cI, 9, .inl sd))]) [0, 1, 2, 3] rfl
    have hD := hD.sub (ws' := [(h, .inr (6, [.ref aS, .ref pe, .ref tq, .ref se, .ref mo, .ref re, .int bar, .int tr1_62, .int fa])), (pe, .inr (1, [.ref ka, .ref sa, .int (nI n)])), (ka, .inl (cI, 9, .inl kd)), (sa, .inl (cI, 9, .inl sd))]) [0, 1, 2, 3] (by decide) rfl
    obtain ⟨rfl, rfl⟩ := w62
    exact W.iret (v := sd j) hx hb hr (fun t ht hW => ⟨⟨_, (31 * tr + 1), rfl, by first | (simp [onQ_out b5]; done) | (simp [onQ_in hj (show n < 2 ^ 31 by omega), *]; done), by rw [ht]; exact hP, va_K.moved hW.alike hK, hD⟩, hS.F ht⟩) hS.2.2 dX6_tell_65
  · -- n5
    obtain rfl := w5.2 b5
    refine lv_if_ne (tgt := 13) hx hb dX6_tell_8 (by decide) (fun h => absurd (by decide) h) (fun _ => ?_)
    refine lv_iconst (v := -1) hx hb dX6_tell_11 (by decide) ?_
    exact W.iret (v := -1) hx hb hr (fun t ht hW => ⟨⟨_, tr, rfl, by first | (simp [onQ_out b5]; done) | (simp [onQ_in hj (show n < 2 ^ 31 by omega), *]; done), by rw [ht]; exact hP, va_K.moved hW.alike hK, hD⟩, hS.F ht⟩) hS.2.2 dX6_tell_12

set_option maxHeartbeats 4000000 in
set_option maxRecDepth 100000 in
theorem c_X6_count (l : Launch) (D : va_G) (cI cO : ClassId) (h : Nat) (aS : Nat) (pe : Nat) (tq : Nat) (se : Nat) (mo : Nat) (re : Nat) (bar : Int32) (tr : Int32) (fa : Int32) (ka : Nat) (sa : Nat) (n : Nat) (kd : Nat → Int32) (sd : Nat → Int32) (pp : Int32) (sz : Nat) (hn : n ≤ 9) : Met l yX6_count wsX6_count ({ frames := 2, cells := 0, slots := 0, locals := 42 } : Room) (va_Pc [.ref h, .int pp] (wdW D cI cO [(h, .inr (6, [.ref aS, .ref pe, .ref tq, .ref se, .ref mo, .ref re, .int bar, .int tr, .int fa])), (pe, .inr (1, [.ref ka, .ref sa, .int (nI n)])), (ka, .inl (cI, 9, .inl kd)), (sa, .inl (cI, 9, .inl sd))] sz)) (va_Qi (S := Int32) (fun r u => r = (onQ n pp (fun j => if kd j = 2 then 30 else nI j) (-1)) ∧ u = (onQ n pp (fun j => if kd j = 2 then 31 * tr + 5 else 31 * tr + 4) tr)) (fun u t => va_P D vwCl [(h, .inr (6, [.ref aS, .ref pe, .ref tq, .ref se, .ref mo, .ref re, .int bar, .int u, .int fa])), (pe, .inr (1, [.ref ka, .ref sa, .int (nI n)])), (ka, .inl (cI, 9, .inl kd)), (sa, .inl (cI, 9, .inl sd))] t.heap ∧ va_K D vwCl (tyL cI cO) t ∧ va_D (va_A [(h, .inr (6, [.ref aS, .ref pe, .ref tq, .ref se, .ref mo, .ref re, .int bar, .int tr, .int fa])), (pe, .inr (1, [.ref ka, .ref sa, .int (nI n)])), (ka, .inl (cI, 9, .inl kd)), (sa, .inl (cI, 9, .inl sd))] sz) [(h, .inr (6, [.ref aS, .ref pe, .ref tq, .ref se, .ref mo, .ref re, .int bar, .int u, .int fa])), (pe, .inr (1, [.ref ka, .ref sa, .int (nI n)])), (ka, .inl (cI, 9, .inl kd)), (sa, .inl (cI, 9, .inl sd))]) (va_A [(h, .inr (6, [.ref aS, .ref pe, .ref tq, .ref se, .ref mo, .ref re, .int bar, .int tr, .int fa])), (pe, .inr (1, [.ref ka, .ref sa, .int (nI n)])), (ka, .inl (cI, 9, .inl kd)), (sa, .inl (cI, 9, .inl sd))] sz)) 0 0 (va_A [(h, .inr (6, [.ref aS, .ref pe, .ref tq, .ref se, .ref mo, .ref re, .int bar, .int tr, .int fa])), (pe, .inr (1, [.ref ka, .ref sa, .int (nI n)])), (ka, .inl (cI, 9, .inl kd)), (sa, .inl (cI, 9, .inl sd))] sz) := by
  refine Met.ofW (cc := cX6_count) (maxL := 2) (ret := (some .int)) (by decide) rfl ?_
  intro p e s m args below meth c s₁ B hml hv
  obtain ⟨rfl, hsz, hP, hK, hNw, hD0⟩ := hv
  have hx := B.exec
  have hb := B.bytes
  have hr := B.returns
  have hts := atoms_spec (ws := wsX6_count) B.pre
  have hown : s.vm.findClass RX6 = some m.cls := findClass_of_methodNamed B.named
  have hlocks := B.notSynchronized
  have f21 := hts (.fieldLink RX6 21 "StruckThrees" "people" "LStruckThrees$People;") (by decide +kernel)
  have iX6 : ∀ w ∈ wsX60, w ∈ wsX6_count := by decide +kernel
  subst hsz
  have hD := hD0.self (sz := s.heap.size)
  generalize hAe : va_A [(h, .inr (6, [.ref aS, .ref pe, .ref tq, .ref se, .ref mo, .ref re, .int bar, .int tr, .int fa])), (pe, .inr (1, [.ref ka, .ref sa, .int (nI n)])), (ka, .inl (cI, 9, .inl kd)), (sa, .inl (cI, 9, .inl sd))] s.heap.size = A at hD ⊢
  have hA : ∀ q : Nat, s.heap.size ≤ q → A q := fun q h => by rw [← hAe]; exact Or.inr h
  have hS : va_S A s.heap s.heap [] := va_S.rf
  have hP : va_P D vwCl [(h, .inr (6, [.ref aS, .ref pe, .ref tq, .ref se, .ref mo, .ref re, .int bar, .int tr, .int fa])), (pe, .inr (1, [.ref ka, .ref sa, .int (nI n)])), (ka, .inl (cI, 9, .inl kd)), (sa, .inl (cI, 9, .inl sd))] s.heap := hP
  have hl := lv_entry ([.ref h, .int pp]) (n := 2) (Nat.le_of_ble_eq_true rfl)
  rw [lg_entry_eq]
  generalize (lg_sl ([.ref h, .int pp]) ++ List.replicate (2 - (lg_sl ([.ref h, .int pp])).length) Slot.unset).toArray = ls at hl ⊢
  have hl : lv_has ls 2 [(0, .ref h), (1, .int pp)] := hl
  refine lv_aload_n hx hb dX6_count_0 rfl (lv_at hl 0 rfl) ?_
  refine va_get (D := D) (ci := 6) (v := .ref pe) (C := RX6) (T := TX6) (N := 9) hx hb hts iX6 hown hK hP 0 rfl rfl 1 (by decide) f21 (fun _ h9 => h9) rfl dX6_count_1 ?_
  refine lv_iload_n hx hb dX6_count_4 rfl (lv_at hl 1 rfl) ?_
  have hPc := hP.sub (ws' := [(pe, .inr (1, [.ref ka, .ref sa, .int (nI n)]))]) [1] rfl
  refine vp_callSi (va_Run.run (va_runV (As := [.int pp]) (rest := []) ⟨hx, hb, hml, hown, hts⟩ (c_X1_has l D cI cO pe ka sa n pp) (cwV 1 hts gX6_count_X1_has rfl rfl rfl (by decide +kernel) ⟨Nat.le_of_ble_eq_true rfl, Nat.le_of_ble_eq_true rfl⟩) (preVR hPc hK hNw (va_recv hK hPc (ci := 1) (q0 := 0) rfl rfl)) rfl rfl hl.1 rfl (lv_room (Nat.le_of_ble_eq_true rfl)) dX6_count_5 ⟨Nat.zero_le _, Nat.zero_le _⟩)) (fun r5 w5 => ?_)
  by_cases b5 : ¬ pp < 0 ∧ ¬ nI n ≤ pp
  · -- y5
    obtain rfl := w5.1 b5
    obtain ⟨j, hj, rfl⟩ := in_nat b5 (show n < 2 ^ 31 by omega)
    refine lv_if_ne (tgt := 13) hx hb dX6_count_8 (by decide) (fun _ => ?_) (fun h => absurd h (by decide))
    refine lv_aload_n hx hb dX6_count_13 rfl (lv_at hl 0 rfl) ?_
    refine va_get (D := D) (ci := 6) (v := .ref pe) (C := RX6) (T := TX6) (N := 9) hx hb hts iX6 hown hK hP 0 rfl rfl 1 (by decide) f21 (fun _ h9 => h9) rfl dX6_count_14 ?_
    refine lv_iload_n hx hb dX6_count_17 rfl (lv_at hl 1 rfl) ?_
    have hPc := hP.sub (ws' := [(pe, .inr (1, [.ref ka, .ref sa, .int (nI n)])), (ka, .inl (cI, 9, .inl kd))]) [1, 2] rfl
    refine vp_callSi (va_Run.run (va_runV (As := [.int (nI j)]) (rest := []) ⟨hx, hb, hml, hown, hts⟩ (c_X1_kindOf l D cI cO pe ka sa n kd j (by assumption) (by assumption)) (cwV 1 hts gX6_count_X1_kindOf rfl rfl rfl (by decide +kernel) ⟨Nat.le_of_ble_eq_true rfl, Nat.le_of_ble_eq_true rfl⟩) (preVR hPc hK hNw (va_recv hK hPc (ci := 1) (q0 := 0) rfl rfl)) rfl rfl hl.1 rfl (lv_room (Nat.le_of_ble_eq_true rfl)) dX6_count_18 ⟨Nat.zero_le _, Nat.zero_le _⟩)) (fun r18 w18 => ?_)
    obtain rfl := w18
    refine lv_iconst (v := 2) hx hb dX6_count_21 (by decide) ?_
    refine lv_icmp_ne (tgt := 33) hx hb dX6_count_22 (by decide) (fun c22 => ?_) (fun c22 => ?_)
    · -- t22
      refine lv_aload_n hx hb dX6_count_33 rfl (lv_at hl 0 rfl) ?_
      refine lv_iconst (v := 4) hx hb dX6_count_34 (by decide) ?_
      have hPc := hP.sub (ws' := [(h, .inr (6, [.ref aS, .ref pe, .ref tq, .ref se, .ref mo, .ref re, .int bar, .int tr, .int fa]))]) [0] rfl
      have hDc := hD.sub (ws' := [(h, .inr (6, [.ref aS, .ref pe, .ref tq, .ref se, .ref mo, .ref re, .int bar, .int tr, .int fa]))]) [0] (by decide) rfl
      have hFc := va_free (wc := [(h, .inr (6, [.ref aS, .ref pe, .ref tq, .ref se, .ref mo, .ref re, .int bar, .int tr, .int fa]))]) hD hS hA [0] rfl
      refine va_callv (va_runV (As := [.int 4]) (rest := []) ⟨hx, hb, hml, hown, hts⟩ (c_X6_mark l D cI cO h aS pe tq se mo re bar tr fa 4 _) (cwV 1 hts gX6_count_X6_mark rfl rfl rfl (by decide +kernel) ⟨Nat.le_of_ble_eq_true rfl, Nat.le_of_ble_eq_true rfl⟩) (preVW hPc hK hNw hDc (va_recv hK hPc (ci := 6) (q0 := 0) rfl rfl)) rfl rfl hl.1 rfl (lv_room (Nat.le_of_ble_eq_true rfl)) dX6_count_35 ⟨Nat.zero_le _, Nat.zero_le _⟩) hS (fun q _ h => hFc q h) hFc (fun u t H1 locs ht hvm w35 hB hz1 hk1 hS => ?_)
      obtain ⟨tr1_35, rfl⟩ : ∃ z, z = u := ⟨_, rfl⟩
      obtain ⟨hP1, hK1, hD1⟩ := hB
      rw [ht] at hP1
      try dsimp only at w35
      obtain ⟨hP, hD⟩ := va_join (wr := [(pe, .inr (1, [.ref ka, .ref sa, .int (nI n)])), (ka, .inl (cI, 9, .inl kd)), (sa, .inl (cI, 9, .inl sd))]) (w1 := [(h, .inr (6, [.ref aS, .ref pe, .ref tq, .ref se, .ref mo, .ref re, .int bar, .int tr1_35, .int fa]))]) hP hD [0] [1, 2, 3] rfl rfl (by decide) (by decide) hk1 hFc hP1 hD1
      generalize H1 = H at hP hS ⊢
      have hP := hP.sub (ws' := [(h, .inr (6, [.ref aS, .ref pe, .ref tq, .ref se, .ref mo, .ref re, .int bar, .int tr1_35, .int fa])), (pe, .inr (1, [.ref ka, .ref sa, .int (nI n)])), (ka, .inl (cI, 9, .inl kd)), (sa, .inl (cI, 9, .inl sd))]) [3, 0, 1, 2] rfl
      have hD := hD.sub (ws' := [(h, .inr (6, [.ref aS, .ref pe, .ref tq, .ref se, .ref mo, .ref re, .int bar, .int tr1_35, .int fa])), (pe, .inr (1, [.ref ka, .ref sa, .int (nI n)])), (ka, .inl (cI, 9, .inl kd)), (sa, .inl (cI, 9, .inl sd))]) [3, 0, 1, 2] (by decide) rfl
      obtain rfl := w35
      refine lv_iload_n hx hb dX6_count_38 rfl (lv_at hl 1 rfl) ?_
      exact W.iret (v := (nI j)) hx hb hr (fun t ht hW => ⟨⟨_, (31 * tr + 4), rfl, by first | (simp [onQ_out b5]; done) | (simp [onQ_in hj (show n < 2 ^ 31 by omega), *]; done), by rw [ht]; exact hP, va_K.moved hW.alike hK, hD⟩, hS.F ht⟩) hS.2.2 dX6_count_39
    · -- f22
      refine lv_aload_n hx hb dX6_count_25 rfl (lv_at hl 0 rfl) ?_
      refine lv_iconst (v := 5) hx hb dX6_count_26 (by decide) ?_
      have hPc := hP.sub (ws' := [(h, .inr (6, [.ref aS, .ref pe, .ref tq, .ref se, .ref mo, .ref re, .int bar, .int tr, .int fa]))]) [0] rfl
      have hDc := hD.sub (ws' := [(h, .inr (6, [.ref aS, .ref pe, .ref tq, .ref se, .ref mo, .ref re, .int bar, .int tr, .int fa]))]) [0] (by decide) rfl
      have hFc := va_free (wc := [(h, .inr (6, [.ref aS, .ref pe, .ref tq, .ref se, .ref mo, .ref re, .int bar, .int tr, .int fa]))]) hD hS hA [0] rfl
      refine va_callv (va_runV (As := [.int 5]) (rest := []) ⟨hx, hb, hml, hown, hts⟩ (c_X6_mark l D cI cO h aS pe tq se mo re bar tr fa 5 _) (cwV 1 hts gX6_count_X6_mark rfl rfl rfl (by decide +kernel) ⟨Nat.le_of_ble_eq_true rfl, Nat.le_of_ble_eq_true rfl⟩) (preVW hPc hK hNw hDc (va_recv hK hPc (ci := 6) (q0 := 0) rfl rfl)) rfl rfl hl.1 rfl (lv_room (Nat.le_of_ble_eq_true rfl)) dX6_count_27 ⟨Nat.zero_le _, Nat.zero_le _⟩) hS (fun q _ h => hFc q h) hFc (fun u t H1 locs ht hvm w27 hB hz1 hk1 hS => ?_)
      obtain ⟨tr1_27, rfl⟩ : ∃ z, z = u := ⟨_, rfl⟩
      obtain ⟨hP1, hK1, hD1⟩ := hB
      rw [ht] at hP1
      try dsimp only at w27
      obtain ⟨hP, hD⟩ := va_join (wr := [(pe, .inr (1, [.ref ka, .ref sa, .int (nI n)])), (ka, .inl (cI, 9, .inl kd)), (sa, .inl (cI, 9, .inl sd))]) (w1 := [(h, .inr (6, [.ref aS, .ref pe, .ref tq, .ref se, .ref mo, .ref re, .int bar, .int tr1_27, .int fa]))]) hP hD [0] [1, 2, 3] rfl rfl (by decide) (by decide) hk1 hFc hP1 hD1
      generalize H1 = H at hP hS ⊢
      have hP := hP.sub (ws' := [(h, .inr (6, [.ref aS, .ref pe, .ref tq, .ref se, .ref mo, .ref re, .int bar, .int tr1_27, .int fa])), (pe, .inr (1, [.ref ka, .ref sa, .int (nI n)])), (ka, .inl (cI, 9, .inl kd)), (sa, .inl (cI, 9, .inl sd))]) [3, 0, 1, 2] rfl
      have hD := hD.sub (ws' := [(h, .inr (6, [.ref aS, .ref pe, .ref tq, .ref se, .ref mo, .ref re, .int bar, .int tr1_27, .int fa])), (pe, .inr (1, [.ref ka, .ref sa, .int (nI n)])), (ka, .inl (cI, 9, .inl kd)), (sa, .inl (cI, 9, .inl sd))]) [3, 0, 1, 2] (by decide) rfl
      obtain rfl := w27
      refine lv_bipush (v := 30) hx hb dX6_count_30 (by decide) ?_
      exact W.iret (v := 30) hx hb hr (fun t ht hW => ⟨⟨_, (31 * tr + 5), rfl, by first | (simp [onQ_out b5]; done) | (simp [onQ_in hj (show n < 2 ^ 31 by omega), *]; done), by rw [ht]; exact hP, va_K.moved hW.alike hK, hD⟩, hS.F ht⟩) hS.2.2 dX6_count_32
  · -- n5
    obtain rfl := w5.2 b5
    refine lv_if_ne (tgt := 13) hx hb dX6_count_8 (by decide) (fun h => absurd (by decide) h) (fun _ => ?_)
    refine lv_iconst (v := -1) hx hb dX6_count_11 (by decide) ?_
    exact W.iret (v := -1) hx hb hr (fun t ht hW => ⟨⟨_, tr, rfl, by first | (simp [onQ_out b5]; done) | (simp [onQ_in hj (show n < 2 ^ 31 by omega), *]; done), by rw [ht]; exact hP, va_K.moved hW.alike hK, hD⟩, hS.F ht⟩) hS.2.2 dX6_count_12

set_option maxHeartbeats 4000000 in
set_option maxRecDepth 100000 in
theorem c_X6_as (l : Launch) (D : va_G) (cI cO : ClassId) (h : Nat) (aS : Nat) (pe : Nat) (tq : Nat) (se : Nat) (mo : Nat) (re : Nat) (bar : Int32) (tr : Int32) (fa : Int32) (ka : Nat) (sa : Nat) (n : Nat) (kd : Nat → Int32) (sd : Nat → Int32) (pp : Int32) (kq : Int32) (sz : Nat) (hn : n ≤ 9) : Met l yX6_as wsX6_as ({ frames := 2, cells := 0, slots := 0, locals := 42 } : Room) (va_Pc [.ref h, .int pp, .int kq] (wdW D cI cO [(h, .inr (6, [.ref aS, .ref pe, .ref tq, .ref se, .ref mo, .ref re, .int bar, .int tr, .int fa])), (pe, .inr (1, [.ref ka, .ref sa, .int (nI n)])), (ka, .inl (cI, 9, .inl kd)), (sa, .inl (cI, 9, .inl sd))] sz)) (va_Qi (S := Int32) (fun r u => r = (onQ n pp (fun j => if kq < 0 then -2 else if kq ≤ 2 then (if kq ≤ kd j then 1 else -12) else -2) (-1)) ∧ u = (onQ n pp (fun j => if kq < 0 then 0 else if kq ≤ 2 then (if kq ≤ kd j then 0 else 2) else 0) 0)) (fun u t => va_P D vwCl [(h, .inr (6, [.ref aS, .ref pe, .ref tq, .ref se, .ref mo, .ref re, .int bar, .int tr, .int u])), (pe, .inr (1, [.ref ka, .ref sa, .int (nI n)])), (ka, .inl (cI, 9, .inl kd)), (sa, .inl (cI, 9, .inl sd))] t.heap ∧ va_K D vwCl (tyL cI cO) t ∧ va_D (va_A [(h, .inr (6, [.ref aS, .ref pe, .ref tq, .ref se, .ref mo, .ref re, .int bar, .int tr, .int fa])), (pe, .inr (1, [.ref ka, .ref sa, .int (nI n)])), (ka, .inl (cI, 9, .inl kd)), (sa, .inl (cI, 9, .inl sd))] sz) [(h, .inr (6, [.ref aS, .ref pe, .ref tq, .ref se, .ref mo, .ref re, .int bar, .int tr, .int u])), (pe, .inr (1, [.ref ka, .ref sa, .int (nI n)])), (ka, .inl (cI, 9, .inl kd)), (sa, .inl (cI, 9, .inl sd))]) (va_A [(h, .inr (6, [.ref aS, .ref pe, .ref tq, .ref se, .ref mo, .ref re, .int bar, .int tr, .int fa])), (pe, .inr (1, [.ref ka, .ref sa, .int (nI n)])), (ka, .inl (cI, 9, .inl kd)), (sa, .inl (cI, 9, .inl sd))] sz)) 0 0 (va_A [(h, .inr (6, [.ref aS, .ref pe, .ref tq, .ref se, .ref mo, .ref re, .int bar, .int tr, .int fa])), (pe, .inr (1, [.ref ka, .ref sa, .int (nI n)])), (ka, .inl (cI, 9, .inl kd)), (sa, .inl (cI, 9, .inl sd))] sz) := by
  refine Met.ofW (cc := cX6_as) (maxL := 3) (ret := (some .int)) (by decide) rfl ?_
  intro p e s m args below meth c s₁ B hml hv
  obtain ⟨rfl, hsz, hP, hK, hNw, hD0⟩ := hv
  have hx := B.exec
  have hb := B.bytes
  have hr := B.returns
  have hts := atoms_spec (ws := wsX6_as) B.pre
  have hown : s.vm.findClass RX6 = some m.cls := findClass_of_methodNamed B.named
  have hlocks := B.notSynchronized
  have f21 := hts (.fieldLink RX6 21 "StruckThrees" "people" "LStruckThrees$People;") (by decide +kernel)
  have f53 := hts (.fieldLink RX6 53 "StruckThrees" "fault" "I") (by decide +kernel)
  have iX6 : ∀ w ∈ wsX60, w ∈ wsX6_as := by decide +kernel
  subst hsz
  have hD := hD0.self (sz := s.heap.size)
  generalize hAe : va_A [(h, .inr (6, [.ref aS, .ref pe, .ref tq, .ref se, .ref mo, .ref re, .int bar, .int tr, .int fa])), (pe, .inr (1, [.ref ka, .ref sa, .int (nI n)])), (ka, .inl (cI, 9, .inl kd)), (sa, .inl (cI, 9, .inl sd))] s.heap.size = A at hD ⊢
  have hA : ∀ q : Nat, s.heap.size ≤ q → A q := fun q h => by rw [← hAe]; exact Or.inr h
  have hS : va_S A s.heap s.heap [] := va_S.rf
  have hP : va_P D vwCl [(h, .inr (6, [.ref aS, .ref pe, .ref tq, .ref se, .ref mo, .ref re, .int bar, .int tr, .int fa])), (pe, .inr (1, [.ref ka, .ref sa, .int (nI n)])), (ka, .inl (cI, 9, .inl kd)), (sa, .inl (cI, 9, .inl sd))] s.heap := hP
  have hl := lv_entry ([.ref h, .int pp, .int kq]) (n := 3) (Nat.le_of_ble_eq_true rfl)
  rw [lg_entry_eq]
  generalize (lg_sl ([.ref h, .int pp, .int kq]) ++ List.replicate (3 - (lg_sl ([.ref h, .int pp, .int kq])).length) Slot.unset).toArray = ls at hl ⊢
  have hl : lv_has ls 3 [(0, .ref h), (1, .int pp), (2, .int kq)] := hl
  refine lv_aload_n hx hb dX6_as_0 rfl (lv_at hl 0 rfl) ?_
  refine lv_iconst (v := 0) hx hb dX6_as_1 (by decide) ?_
  refine va_put (D := D) (ci := 6) (v := .int 0) (ty := .int) (C := RX6) (T := TX6) (N := 9) hx hb hts iX6 tyX6 tyX6_ok nmX6 hown hK hP hD hS 0 rfl rfl 8 (by decide) f53 (fun _ h9 => h9) rfl (by decide +kernel) rfl rfl (Nat.le_of_ble_eq_true rfl) dX6_as_2 (fun H locs hP hD hS => ?_)
  have hP : va_P D vwCl [(h, .inr (6, [.ref aS, .ref pe, .ref tq, .ref se, .ref mo, .ref re, .int bar, .int tr, .int 0])), (pe, .inr (1, [.ref ka, .ref sa, .int (nI n)])), (ka, .inl (cI, 9, .inl kd)), (sa, .inl (cI, 9, .inl sd))] H := hP
  have hD : va_D A [(h, .inr (6, [.ref aS, .ref pe, .ref tq, .ref se, .ref mo, .ref re, .int bar, .int tr, .int 0])), (pe, .inr (1, [.ref ka, .ref sa, .int (nI n)])), (ka, .inl (cI, 9, .inl kd)), (sa, .inl (cI, 9, .inl sd))] := hD
  refine lv_aload_n hx hb dX6_as_5 rfl (lv_at hl 0 rfl) ?_
  refine va_get (D := D) (ci := 6) (v := .ref pe) (C := RX6) (T := TX6) (N := 9) hx hb hts iX6 hown hK hP 0 rfl rfl 1 (by decide) f21 (fun _ h9 => h9) rfl dX6_as_6 ?_
  refine lv_iload_n hx hb dX6_as_9 rfl (lv_at hl 1 rfl) ?_
  have hPc := hP.sub (ws' := [(pe, .inr (1, [.ref ka, .ref sa, .int (nI n)]))]) [1] rfl
  refine vp_callSi (va_Run.run (va_runV (As := [.int pp]) (rest := []) ⟨hx, hb, hml, hown, hts⟩ (c_X1_has l D cI cO pe ka sa n pp) (cwV 1 hts gX6_as_X1_has rfl rfl rfl (by decide +kernel) ⟨Nat.le_of_ble_eq_true rfl, Nat.le_of_ble_eq_true rfl⟩) (preVR hPc hK hNw (va_recv hK hPc (ci := 1) (q0 := 0) rfl rfl)) rfl rfl hl.1 rfl (lv_room (Nat.le_of_ble_eq_true rfl)) dX6_as_10 ⟨Nat.zero_le _, Nat.zero_le _⟩)) (fun r10 w10 => ?_)
  by_cases b10 : ¬ pp < 0 ∧ ¬ nI n ≤ pp
  · -- y10
    obtain rfl := w10.1 b10
    obtain ⟨j, hj, rfl⟩ := in_nat b10 (show n < 2 ^ 31 by omega)
    refine lv_if_ne (tgt := 18) hx hb dX6_as_13 (by decide) (fun _ => ?_) (fun h => absurd h (by decide))
    refine lv_iload_n hx hb dX6_as_18 rfl (lv_at hl 2 rfl) ?_
    refine lv_if_lt (tgt := 27) hx hb dX6_as_19 (by decide) (fun c19 => ?_) (fun c19 => ?_)
    · -- t19
      refine lv_bipush (v := -2) hx hb dX6_as_27 (by decide) ?_
      exact W.iret (v := -2) hx hb hr (fun t ht hW => ⟨⟨_, 0, rfl, by first | (simp [onQ_out b10]; done) | (simp [onQ_in hj (show n < 2 ^ 31 by omega), *]; done), by rw [ht]; exact hP, va_K.moved hW.alike hK, hD⟩, hS.F ht⟩) hS.2.2 dX6_as_29
    · -- f19
      refine lv_iload_n hx hb dX6_as_22 rfl (lv_at hl 2 rfl) ?_
      refine lv_iconst (v := 2) hx hb dX6_as_23 (by decide) ?_
      refine lv_icmp_le (tgt := 30) hx hb dX6_as_24 (by decide) (fun c24 => ?_) (fun c24 => ?_)
      · -- t24
        refine lv_aload_n hx hb dX6_as_30 rfl (lv_at hl 0 rfl) ?_
        refine va_get (D := D) (ci := 6) (v := .ref pe) (C := RX6) (T := TX6) (N := 9) hx hb hts iX6 hown hK hP 0 rfl rfl 1 (by decide) f21 (fun _ h9 => h9) rfl dX6_as_31 ?_
        refine lv_iload_n hx hb dX6_as_34 rfl (lv_at hl 1 rfl) ?_
        have hPc := hP.sub (ws' := [(pe, .inr (1, [.ref ka, .ref sa, .int (nI n)])), (ka, .inl (cI, 9, .inl kd))]) [1, 2] rfl
        refine vp_callSi (va_Run.run (va_runV (As := [.int (nI j)]) (rest := []) ⟨hx, hb, hml, hown, hts⟩ (c_X1_kindOf l D cI cO pe ka sa n kd j (by assumption) (by assumption)) (cwV 1 hts gX6_as_X1_kindOf rfl rfl rfl (by decide +kernel) ⟨Nat.le_of_ble_eq_true rfl, Nat.le_of_ble_eq_true rfl⟩) (preVR hPc hK hNw (va_recv hK hPc (ci := 1) (q0 := 0) rfl rfl)) rfl rfl hl.1 rfl (lv_room (Nat.le_of_ble_eq_true rfl)) dX6_as_35 ⟨Nat.zero_le _, Nat.zero_le _⟩)) (fun r35 w35 => ?_)
        obtain rfl := w35
        refine lv_iload_n hx hb dX6_as_38 rfl (lv_at hl 2 rfl) ?_
        refine lv_icmp_ge (tgt := 48) hx hb dX6_as_39 (by decide) (fun c39 => ?_) (fun c39 => ?_)
        · -- t39
          refine lv_iconst (v := 1) hx hb dX6_as_48 (by decide) ?_
          exact W.iret (v := 1) hx hb hr (fun t ht hW => ⟨⟨_, 0, rfl, by first | (simp [onQ_out b10]; done) | (simp [onQ_in hj (show n < 2 ^ 31 by omega), *]; done), by rw [ht]; exact hP, va_K.moved hW.alike hK, hD⟩, hS.F ht⟩) hS.2.2 dX6_as_49
        · -- f39
          refine lv_aload_n hx hb dX6_as_42 rfl (lv_at hl 0 rfl) ?_
          refine lv_iconst (v := 2) hx hb dX6_as_43 (by decide) ?_
          have hPc := hP.sub (ws' := [(h, .inr (6, [.ref aS, .ref pe, .ref tq, .ref se, .ref mo, .ref re, .int bar, .int tr, .int 0]))]) [0] rfl
          have hDc := hD.sub (ws' := [(h, .inr (6, [.ref aS, .ref pe, .ref tq, .ref se, .ref mo, .ref re, .int bar, .int tr, .int 0]))]) [0] (by decide) rfl
          have hFc := va_free (wc := [(h, .inr (6, [.ref aS, .ref pe, .ref tq, .ref se, .ref mo, .ref re, .int bar, .int tr, .int 0]))]) hD hS hA [0] rfl
          refine va_calli (va_runV (As := [.int 2]) (rest := []) ⟨hx, hb, hml, hown, hts⟩ (c_X6_cameTo l D cI cO h aS pe tq se mo re bar tr 0 2 _) (cwV 1 hts gX6_as_X6_cameTo rfl rfl rfl (by decide +kernel) ⟨Nat.le_of_ble_eq_true rfl, Nat.le_of_ble_eq_true rfl⟩) (preVW hPc hK hNw hDc (va_recv hK hPc (ci := 6) (q0 := 0) rfl rfl)) rfl rfl hl.1 rfl (lv_room (Nat.le_of_ble_eq_true rfl)) dX6_as_44 ⟨Nat.zero_le _, Nat.zero_le _⟩) hS (fun q _ h => hFc q h) hFc (fun r44 u t H1 locs ht hvm w44 hB hz1 hk1 hS => ?_)
          obtain ⟨hP1, hK1, hD1⟩ := hB
          rw [ht] at hP1
          try dsimp only at w44
          obtain ⟨hP, hD⟩ := va_join (wr := [(pe, .inr (1, [.ref ka, .ref sa, .int (nI n)])), (ka, .inl (cI, 9, .inl kd)), (sa, .inl (cI, 9, .inl sd))]) (w1 := [(h, .inr (6, [.ref aS, .ref pe, .ref tq, .ref se, .ref mo, .ref re, .int bar, .int tr, .int 2]))]) hP hD [0] [1, 2, 3] rfl rfl (by decide) (by decide) hk1 hFc hP1 hD1
          generalize H1 = H at hP hS ⊢
          have hP := hP.sub (ws' := [(h, .inr (6, [.ref aS, .ref pe, .ref tq, .ref se, .ref mo, .ref re, .int bar, .int tr, .int 2])), (pe, .inr (1, [.ref ka, .ref sa, .int (nI n)])), (ka, .inl (cI, 9, .inl kd)), (sa, .inl (cI, 9, .inl sd))]) [3, 0, 1, 2] rfl
          have hD := hD.sub (ws' := [(h, .inr (6, [.ref aS, .ref pe, .ref tq, .ref se, .ref mo, .ref re, .int bar, .int tr, .int 2])), (pe, .inr (1, [.ref ka, .ref sa, .int (nI n)])), (ka, .inl (cI, 9, .inl kd)), (sa, .inl (cI, 9, .inl sd))]) [3, 0, 1, 2] (by decide) rfl
          obtain rfl := w44
          exact W.iret (v := -10 - 2) hx hb hr (fun t ht hW => ⟨⟨_, 2, rfl, by first | (simp [onQ_out b10]; done) | (simp [onQ_in hj (show n < 2 ^ 31 by omega), *]; done), by rw [ht]; exact hP, va_K.moved hW.alike hK, hD⟩, hS.F ht⟩) hS.2.2 dX6_as_47
      · -- f24
        refine lv_bipush (v := -2) hx hb dX6_as_27 (by decide) ?_
        exact W.iret (v := -2) hx hb hr (fun t ht hW => ⟨⟨_, 0, rfl, by first | (simp [onQ_out b10]; done) | (simp [onQ_in hj (show n < 2 ^ 31 by omega), *]; done), by rw [ht]; exact hP, va_K.moved hW.alike hK, hD⟩, hS.F ht⟩) hS.2.2 dX6_as_29
  · -- n10
    obtain rfl := w10.2 b10
    refine lv_if_ne (tgt := 18) hx hb dX6_as_13 (by decide) (fun h => absurd (by decide) h) (fun _ => ?_)
    refine lv_iconst (v := -1) hx hb dX6_as_16 (by decide) ?_
    exact W.iret (v := -1) hx hb hr (fun t ht hW => ⟨⟨_, 0, rfl, by first | (simp [onQ_out b10]; done) | (simp [onQ_in hj (show n < 2 ^ 31 by omega), *]; done), by rw [ht]; exact hP, va_K.moved hW.alike hK, hD⟩, hS.F ht⟩) hS.2.2 dX6_as_17

set_option maxHeartbeats 4000000 in
set_option maxRecDepth 100000 in
theorem c_X6_trace (l : Launch) (D : va_G) (cI cO : ClassId) (h : Nat) (aS : Nat) (pe : Nat) (tq : Nat) (se : Nat) (mo : Nat) (re : Nat) (bar : Int32) (tr : Int32) (fa : Int32) : Met l yX6_trace wsX6_trace ({ frames := 0, cells := 0, slots := 0, locals := 0 } : Room) (va_Pc [.ref h] (wdR D cI cO [(h, .inr (6, [.ref aS, .ref pe, .ref tq, .ref se, .ref mo, .ref re, .int bar, .int tr, .int fa]))])) (vp_Si (fun r => r = tr)) 0 0 (fun _ => False) := by
  refine Met.ofW (cc := cX6_trace) (maxL := 1) (ret := (some .int)) (by decide) rfl ?_
  intro p e s m args below meth c s₁ B hml hv
  obtain ⟨rfl, hP, hK, hNw⟩ := hv
  have hx := B.exec
  have hb := B.bytes
  have hr := B.returns
  have hts := atoms_spec (ws := wsX6_trace) B.pre
  have hown : s.vm.findClass RX6 = some m.cls := findClass_of_methodNamed B.named
  have hlocks := B.notSynchronized
  have f267 := hts (.fieldLink RX6 267 "StruckThrees" "trace" "I") (by decide +kernel)
  have iX6 : ∀ w ∈ wsX60, w ∈ wsX6_trace := by decide +kernel
  have hP : va_P D vwCl [(h, .inr (6, [.ref aS, .ref pe, .ref tq, .ref se, .ref mo, .ref re, .int bar, .int tr, .int fa]))] s.heap := hP
  have hl := lv_entry ([.ref h]) (n := 1) (Nat.le_of_ble_eq_true rfl)
  rw [lg_entry_eq]
  generalize (lg_sl ([.ref h]) ++ List.replicate (1 - (lg_sl ([.ref h])).length) Slot.unset).toArray = ls at hl ⊢
  have hl : lv_has ls 1 [(0, .ref h)] := hl
  refine lv_aload_n hx hb dX6_trace_0 rfl (lv_at hl 0 rfl) ?_
  refine va_get (D := D) (ci := 6) (v := .int tr) (C := RX6) (T := TX6) (N := 9) hx hb hts iX6 hown hK hP 0 rfl rfl 7 (by decide) f267 (fun _ h9 => h9) rfl dX6_trace_1 ?_
  exact W.iret (v := tr) hx hb hr (fun t ht hW => ⟨_, rfl, by rfl, ht⟩) (fun _ h => absurd h List.not_mem_nil) dX6_trace_4

set_option maxHeartbeats 4000000 in
set_option maxRecDepth 100000 in
theorem c_X6_fault (l : Launch) (D : va_G) (cI cO : ClassId) (h : Nat) (aS : Nat) (pe : Nat) (tq : Nat) (se : Nat) (mo : Nat) (re : Nat) (bar : Int32) (tr : Int32) (fa : Int32) : Met l yX6_fault wsX6_fault ({ frames := 0, cells := 0, slots := 0, locals := 0 } : Room) (va_Pc [.ref h] (wdR D cI cO [(h, .inr (6, [.ref aS, .ref pe, .ref tq, .ref se, .ref mo, .ref re, .int bar, .int tr, .int fa]))])) (vp_Si (fun r => r = fa)) 0 0 (fun _ => False) := by
  refine Met.ofW (cc := cX6_fault) (maxL := 1) (ret := (some .int)) (by decide) rfl ?_
  intro p e s m args below meth c s₁ B hml hv
  obtain ⟨rfl, hP, hK, hNw⟩ := hv
  have hx := B.exec
  have hb := B.bytes
  have hr := B.returns
  have hts := atoms_spec (ws := wsX6_fault) B.pre
  have hown : s.vm.findClass RX6 = some m.cls := findClass_of_methodNamed B.named
  have hlocks := B.notSynchronized
  have f53 := hts (.fieldLink RX6 53 "StruckThrees" "fault" "I") (by decide +kernel)
  have iX6 : ∀ w ∈ wsX60, w ∈ wsX6_fault := by decide +kernel
  have hP : va_P D vwCl [(h, .inr (6, [.ref aS, .ref pe, .ref tq, .ref se, .ref mo, .ref re, .int bar, .int tr, .int fa]))] s.heap := hP
  have hl := lv_entry ([.ref h]) (n := 1) (Nat.le_of_ble_eq_true rfl)
  rw [lg_entry_eq]
  generalize (lg_sl ([.ref h]) ++ List.replicate (1 - (lg_sl ([.ref h])).length) Slot.unset).toArray = ls at hl ⊢
  have hl : lv_has ls 1 [(0, .ref h)] := hl
  refine lv_aload_n hx hb dX6_fault_0 rfl (lv_at hl 0 rfl) ?_
  refine va_get (D := D) (ci := 6) (v := .int fa) (C := RX6) (T := TX6) (N := 9) hx hb hts iX6 hown hK hP 0 rfl rfl 8 (by decide) f53 (fun _ h9 => h9) rfl dX6_fault_1 ?_
  exact W.iret (v := fa) hx hb hr (fun t ht hW => ⟨_, rfl, by rfl, ht⟩) (fun _ h => absurd h List.not_mem_nil) dX6_fault_4

set_option maxHeartbeats 4000000 in
set_option maxRecDepth 100000 in
theorem c_X6_many (l : Launch) (D : va_G) (cI cO : ClassId) (h : Nat) (aS : Nat) (pe : Nat) (tq : Nat) (se : Nat) (mo : Nat) (re : Nat) (bar : Int32) (tr : Int32) (fa : Int32) (ka : Nat) (sa : Nat) (n : Nat) (xa : Nat) (la : Nat) (tn : Nat) (ts : Nat → Int32) (tl : Nat → Int32) (wa : Nat) (ha : Nat) (rn : Nat) (x : Int32) (ht3 : tn ≤ 3) : Met l yX6_many wsX6_many ({ frames := 1, cells := 0, slots := 0, locals := 22 } : Room) (va_Pc [.ref h, .int x] (wdR D cI cO [(h, .inr (6, [.ref aS, .ref pe, .ref tq, .ref se, .ref mo, .ref re, .int bar, .int tr, .int fa])), (pe, .inr (1, [.ref ka, .ref sa, .int (nI n)])), (tq, .inr (5, [.ref xa, .ref la, .int (nI tn)])), (la, .inl (cI, 3, .inl tl)), (re, .inr (2, [.ref wa, .ref ha, .int (nI rn)]))])) (vp_Si (fun r => r = (if x = 0 then nI n else if x = 1 then nI tn else if x = 2 then bar else if x = 3 then cntW tl tn else if x = 4 then nI rn else -2))) 0 0 (fun _ => False) := by
  refine Met.ofW (cc := cX6_many) (maxL := 2) (ret := (some .int)) (by decide) rfl ?_
  intro p e s m args below meth c s₁ B hml hv
  obtain ⟨rfl, hP, hK, hNw⟩ := hv
  have hx := B.exec
  have hb := B.bytes
  have hr := B.returns
  have hts := atoms_spec (ws := wsX6_many) B.pre
  have hown : s.vm.findClass RX6 = some m.cls := findClass_of_methodNamed B.named
  have hlocks := B.notSynchronized
  have f21 := hts (.fieldLink RX6 21 "StruckThrees" "people" "LStruckThrees$People;") (by decide +kernel)
  have f28 := hts (.fieldLink RX6 28 "StruckThrees" "threes" "LStruckThrees$Threes;") (by decide +kernel)
  have f49 := hts (.fieldLink RX6 49 "StruckThrees" "readings" "LStruckThrees$Readings;") (by decide +kernel)
  have f91 := hts (.fieldLink RX6 91 "StruckThrees" "bar" "I") (by decide +kernel)
  have f94 := hNw.f (args := ([.ref h, .int x]).toArray) ("StruckThrees", 94, "StruckThrees$People", "count", "I") (by decide)
  have f195 := hNw.f (args := ([.ref h, .int x]).toArray) ("StruckThrees", 195, "StruckThrees$Threes", "count", "I") (by decide)
  have f208 := hNw.f (args := ([.ref h, .int x]).toArray) ("StruckThrees", 208, "StruckThrees$Readings", "count", "I") (by decide)
  have iX1 : ∀ w ∈ wsX10, w ∈ wsX6_many := by decide +kernel
  have iX2 : ∀ w ∈ wsX20, w ∈ wsX6_many := by decide +kernel
  have iX5 : ∀ w ∈ wsX50, w ∈ wsX6_many := by decide +kernel
  have iX6 : ∀ w ∈ wsX60, w ∈ wsX6_many := by decide +kernel
  have hP : va_P D vwCl [(h, .inr (6, [.ref aS, .ref pe, .ref tq, .ref se, .ref mo, .ref re, .int bar, .int tr, .int fa])), (pe, .inr (1, [.ref ka, .ref sa, .int (nI n)])), (tq, .inr (5, [.ref xa, .ref la, .int (nI tn)])), (la, .inl (cI, 3, .inl tl)), (re, .inr (2, [.ref wa, .ref ha, .int (nI rn)]))] s.heap := hP
  have hl := lv_entry ([.ref h, .int x]) (n := 2) (Nat.le_of_ble_eq_true rfl)
  rw [lg_entry_eq]
  generalize (lg_sl ([.ref h, .int x]) ++ List.replicate (2 - (lg_sl ([.ref h, .int x])).length) Slot.unset).toArray = ls at hl ⊢
  have hl : lv_has ls 2 [(0, .ref h), (1, .int x)] := hl
  refine lv_iload_n hx hb dX6_many_0 rfl (lv_at hl 1 rfl) ?_
  by_cases k1_0 : x = 0
  · -- case 0
    refine lv_tableIn (off := 35) (tgt := 36) hx hb dX6_many_1 (by rw [k1_0]; decide) (by rw [k1_0]; decide) (by rw [k1_0]; decide) (by decide) ?_
    refine lv_aload_n hx hb dX6_many_36 rfl (lv_at hl 0 rfl) ?_
    refine va_get (D := D) (ci := 6) (v := .ref pe) (C := RX6) (T := TX6) (N := 9) hx hb hts iX6 hown hK hP 0 rfl rfl 1 (by decide) f21 (fun _ h9 => h9) rfl dX6_many_37 ?_
    refine va_getN (D := D) (ci := 1) (v := .int (nI n)) (C := RX1) (T := TX1) (N := 3) hx hb hts iX1 hown hK hP 1 rfl rfl 2 (by decide) f94 (fun _ h9 => h9) rfl dX6_many_40 ?_
    exact W.iret (v := nI n) hx hb hr (fun t ht hW => ⟨_, rfl, by simp [*], ht⟩) (fun _ h => absurd h List.not_mem_nil) dX6_many_43
  by_cases k1_1 : x = 1
  · -- case 1
    refine lv_tableIn (off := 43) (tgt := 44) hx hb dX6_many_1 (by rw [k1_1]; decide) (by rw [k1_1]; decide) (by rw [k1_1]; decide) (by decide) ?_
    refine lv_aload_n hx hb dX6_many_44 rfl (lv_at hl 0 rfl) ?_
    refine va_get (D := D) (ci := 6) (v := .ref tq) (C := RX6) (T := TX6) (N := 9) hx hb hts iX6 hown hK hP 0 rfl rfl 2 (by decide) f28 (fun _ h9 => h9) rfl dX6_many_45 ?_
    refine va_getN (D := D) (ci := 5) (v := .int (nI tn)) (C := RX5) (T := TX5) (N := 3) hx hb hts iX5 hown hK hP 2 rfl rfl 2 (by decide) f195 (fun _ h9 => h9) rfl dX6_many_48 ?_
    exact W.iret (v := nI tn) hx hb hr (fun t ht hW => ⟨_, rfl, by simp [*], ht⟩) (fun _ h => absurd h List.not_mem_nil) dX6_many_51
  by_cases k1_2 : x = 2
  · -- case 2
    refine lv_tableIn (off := 51) (tgt := 52) hx hb dX6_many_1 (by rw [k1_2]; decide) (by rw [k1_2]; decide) (by rw [k1_2]; decide) (by decide) ?_
    refine lv_aload_n hx hb dX6_many_52 rfl (lv_at hl 0 rfl) ?_
    refine va_get (D := D) (ci := 6) (v := .int bar) (C := RX6) (T := TX6) (N := 9) hx hb hts iX6 hown hK hP 0 rfl rfl 6 (by decide) f91 (fun _ h9 => h9) rfl dX6_many_53 ?_
    exact W.iret (v := bar) hx hb hr (fun t ht hW => ⟨_, rfl, by simp [*], ht⟩) (fun _ h => absurd h List.not_mem_nil) dX6_many_56
  by_cases k1_3 : x = 3
  · -- case 3
    refine lv_tableIn (off := 56) (tgt := 57) hx hb dX6_many_1 (by rw [k1_3]; decide) (by rw [k1_3]; decide) (by rw [k1_3]; decide) (by decide) ?_
    refine lv_aload_n hx hb dX6_many_57 rfl (lv_at hl 0 rfl) ?_
    refine va_get (D := D) (ci := 6) (v := .ref tq) (C := RX6) (T := TX6) (N := 9) hx hb hts iX6 hown hK hP 0 rfl rfl 2 (by decide) f28 (fun _ h9 => h9) rfl dX6_many_58 ?_
    have hPc := hP.sub (ws' := [(tq, .inr (5, [.ref xa, .ref la, .int (nI tn)])), (la, .inl (cI, 3, .inl tl))]) [2, 3] rfl
    refine vp_callSi (va_Run.run (va_runV (As := []) (rest := []) ⟨hx, hb, hml, hown, hts⟩ (c_X5_ringing l D cI cO tq xa la tn tl (by assumption)) (cwV 0 hts gX6_many_X5_ringing rfl rfl rfl (by decide +kernel) ⟨Nat.le_of_ble_eq_true rfl, Nat.le_of_ble_eq_true rfl⟩) (preVR hPc hK hNw (va_recv hK hPc (ci := 5) (q0 := 0) rfl rfl)) rfl rfl hl.1 rfl (lv_room (Nat.le_of_ble_eq_true rfl)) dX6_many_61 ⟨Nat.zero_le _, Nat.zero_le _⟩)) (fun r61 w61 => ?_)
    obtain rfl := w61
    exact W.iret (v := cntW tl tn) hx hb hr (fun t ht hW => ⟨_, rfl, by simp [*], ht⟩) (fun _ h => absurd h List.not_mem_nil) dX6_many_64
  by_cases k1_4 : x = 4
  · -- case 4
    refine lv_tableIn (off := 64) (tgt := 65) hx hb dX6_many_1 (by rw [k1_4]; decide) (by rw [k1_4]; decide) (by rw [k1_4]; decide) (by decide) ?_
    refine lv_aload_n hx hb dX6_many_65 rfl (lv_at hl 0 rfl) ?_
    refine va_get (D := D) (ci := 6) (v := .ref re) (C := RX6) (T := TX6) (N := 9) hx hb hts iX6 hown hK hP 0 rfl rfl 5 (by decide) f49 (fun _ h9 => h9) rfl dX6_many_66 ?_
    refine va_getN (D := D) (ci := 2) (v := .int (nI rn)) (C := RX2) (T := TX2) (N := 3) hx hb hts iX2 hown hK hP 4 rfl rfl 2 (by decide) f208 (fun _ h9 => h9) rfl dX6_many_69 ?_
    exact W.iret (v := nI rn) hx hb hr (fun t ht hW => ⟨_, rfl, by simp [*], ht⟩) (fun _ h => absurd h List.not_mem_nil) dX6_many_72
  have t1_0 := lv_neT (k := 0) (a := 0) k1_0 (by decide)
  have t1_1 := lv_neT (k := 1) (a := 1) k1_1 (by decide)
  have t1_2 := lv_neT (k := 2) (a := 2) k1_2 (by decide)
  have t1_3 := lv_neT (k := 3) (a := 3) k1_3 (by decide)
  have t1_4 := lv_neT (k := 4) (a := 4) k1_4 (by decide)
  refine lv_tableOut (tgt := 73) hx hb dX6_many_1 (by omega) (by decide) ?_
  refine lv_bipush (v := -2) hx hb dX6_many_73 (by decide) ?_
  exact W.iret (v := -2) hx hb hr (fun t ht hW => ⟨_, rfl, by simp [*], ht⟩) (fun _ h => absurd h List.not_mem_nil) dX6_many_75

set_option maxHeartbeats 4000000 in
set_option maxRecDepth 100000 in
theorem c_X6_ofPerson (l : Launch) (D : va_G) (cI cO : ClassId) (h : Nat) (aS : Nat) (pe : Nat) (tq : Nat) (se : Nat) (mo : Nat) (re : Nat) (bar : Int32) (tr : Int32) (fa : Int32) (ka : Nat) (sa : Nat) (n : Nat) (kd : Nat → Int32) (sd : Nat → Int32) (xa : Nat) (la : Nat) (tn : Nat) (ts : Nat → Int32) (pp : Int32) (x : Int32) (hn : n ≤ 9) (ht3 : tn ≤ 3) : Met l yX6_ofPerson wsX6_ofPerson ({ frames := 4, cells := 0, slots := 0, locals := 87 } : Room) (va_Pc [.ref h, .int pp, .int x] (wdR D cI cO [(h, .inr (6, [.ref aS, .ref pe, .ref tq, .ref se, .ref mo, .ref re, .int bar, .int tr, .int fa])), (pe, .inr (1, [.ref ka, .ref sa, .int (nI n)])), (ka, .inl (cI, 9, .inl kd)), (sa, .inl (cI, 9, .inl sd)), (tq, .inr (5, [.ref xa, .ref la, .int (nI tn)])), (xa, .inl (cI, 3, .inl ts))])) (vp_Si (fun r => r = (onQ n pp (fun j => if x = 0 then kd j else if x = 1 then sd j else if x = 2 then ringI (kd j) (sd j) else if x = 3 then thrW ts j tn 0 else if x = 4 then joyI n kd sd tn ts j else -2) (-1)))) 0 0 (fun _ => False) := by
  refine Met.ofW (cc := cX6_ofPerson) (maxL := 3) (ret := (some .int)) (by decide) rfl ?_
  intro p e s m args below meth c s₁ B hml hv
  obtain ⟨rfl, hP, hK, hNw⟩ := hv
  have hx := B.exec
  have hb := B.bytes
  have hr := B.returns
  have hts := atoms_spec (ws := wsX6_ofPerson) B.pre
  have hown : s.vm.findClass RX6 = some m.cls := findClass_of_methodNamed B.named
  have hlocks := B.notSynchronized
  have f21 := hts (.fieldLink RX6 21 "StruckThrees" "people" "LStruckThrees$People;") (by decide +kernel)
  have f28 := hts (.fieldLink RX6 28 "StruckThrees" "threes" "LStruckThrees$Threes;") (by decide +kernel)
  have iX6 : ∀ w ∈ wsX60, w ∈ wsX6_ofPerson := by decide +kernel
  have hP : va_P D vwCl [(h, .inr (6, [.ref aS, .ref pe, .ref tq, .ref se, .ref mo, .ref re, .int bar, .int tr, .int fa])), (pe, .inr (1, [.ref ka, .ref sa, .int (nI n)])), (ka, .inl (cI, 9, .inl kd)), (sa, .inl (cI, 9, .inl sd)), (tq, .inr (5, [.ref xa, .ref la, .int (nI tn)])), (xa, .inl (cI, 3, .inl ts))] s.heap := hP
  have hl := lv_entry ([.ref h, .int pp, .int x]) (n := 3) (Nat.le_of_ble_eq_true rfl)
  rw [lg_entry_eq]
  generalize (lg_sl ([.ref h, .int pp, .int x]) ++ List.replicate (3 - (lg_sl ([.ref h, .int pp, .int x])).length) Slot.unset).toArray = ls at hl ⊢
  have hl : lv_has ls 3 [(0, .ref h), (1, .int pp), (2, .int x)] := hl
  refine lv_aload_n hx hb dX6_ofPerson_0 rfl (lv_at hl 0 rfl) ?_
  refine va_get (D := D) (ci := 6) (v := .ref pe) (C := RX6) (T := TX6) (N := 9) hx hb hts iX6 hown hK hP 0 rfl rfl 1 (by decide) f21 (fun _ h9 => h9) rfl dX6_ofPerson_1 ?_
  refine lv_iload_n hx hb dX6_ofPerson_4 rfl (lv_at hl 1 rfl) ?_
  have hPc := hP.sub (ws' := [(pe, .inr (1, [.ref ka, .ref sa, .int (nI n)]))]) [1] rfl
  refine vp_callSi (va_Run.run (va_runV (As := [.int pp]) (rest := []) ⟨hx, hb, hml, hown, hts⟩ (c_X1_has l D cI cO pe ka sa n pp) (cwV 1 hts gX6_ofPerson_X1_has rfl rfl rfl (by decide +kernel) ⟨Nat.le_of_ble_eq_true rfl, Nat.le_of_ble_eq_true rfl⟩) (preVR hPc hK hNw (va_recv hK hPc (ci := 1) (q0 := 0) rfl rfl)) rfl rfl hl.1 rfl (lv_room (Nat.le_of_ble_eq_true rfl)) dX6_ofPerson_5 ⟨Nat.zero_le _, Nat.zero_le _⟩)) (fun r5 w5 => ?_)
  by_cases b5 : ¬ pp < 0 ∧ ¬ nI n ≤ pp
  · -- y5
    obtain rfl := w5.1 b5
    obtain ⟨j, hj, rfl⟩ := in_nat b5 (show n < 2 ^ 31 by omega)
    refine lv_if_ne (tgt := 13) hx hb dX6_ofPerson_8 (by decide) (fun _ => ?_) (fun h => absurd h (by decide))
    refine lv_iload_n hx hb dX6_ofPerson_13 rfl (lv_at hl 2 rfl) ?_
    by_cases k14_0 : x = 0
    · -- case 0
      refine lv_tableIn (off := 34) (tgt := 48) hx hb dX6_ofPerson_14 (by rw [k14_0]; decide) (by rw [k14_0]; decide) (by rw [k14_0]; decide) (by decide) ?_
      refine lv_aload_n hx hb dX6_ofPerson_48 rfl (lv_at hl 0 rfl) ?_
      refine va_get (D := D) (ci := 6) (v := .ref pe) (C := RX6) (T := TX6) (N := 9) hx hb hts iX6 hown hK hP 0 rfl rfl 1 (by decide) f21 (fun _ h9 => h9) rfl dX6_ofPerson_49 ?_
      refine lv_iload_n hx hb dX6_ofPerson_52 rfl (lv_at hl 1 rfl) ?_
      have hPc := hP.sub (ws' := [(pe, .inr (1, [.ref ka, .ref sa, .int (nI n)])), (ka, .inl (cI, 9, .inl kd))]) [1, 2] rfl
      refine vp_callSi (va_Run.run (va_runV (As := [.int (nI j)]) (rest := []) ⟨hx, hb, hml, hown, hts⟩ (c_X1_kindOf l D cI cO pe ka sa n kd j (by assumption) (by assumption)) (cwV 1 hts gX6_ofPerson_X1_kindOf rfl rfl rfl (by decide +kernel) ⟨Nat.le_of_ble_eq_true rfl, Nat.le_of_ble_eq_true rfl⟩) (preVR hPc hK hNw (va_recv hK hPc (ci := 1) (q0 := 0) rfl rfl)) rfl rfl hl.1 rfl (lv_room (Nat.le_of_ble_eq_true rfl)) dX6_ofPerson_53 ⟨Nat.zero_le _, Nat.zero_le _⟩)) (fun r53 w53 => ?_)
      obtain rfl := w53
      exact W.iret (v := kd j) hx hb hr (fun t ht hW => ⟨_, rfl, by first | (simp [onQ_out b5]; done) | (simp [onQ_in hj (show n < 2 ^ 31 by omega), *]; done), ht⟩) (fun _ h => absurd h List.not_mem_nil) dX6_ofPerson_56
    by_cases k14_1 : x = 1
    · -- case 1
      refine lv_tableIn (off := 43) (tgt := 57) hx hb dX6_ofPerson_14 (by rw [k14_1]; decide) (by rw [k14_1]; decide) (by rw [k14_1]; decide) (by decide) ?_
      refine lv_aload_n hx hb dX6_ofPerson_57 rfl (lv_at hl 0 rfl) ?_
      refine va_get (D := D) (ci := 6) (v := .ref pe) (C := RX6) (T := TX6) (N := 9) hx hb hts iX6 hown hK hP 0 rfl rfl 1 (by decide) f21 (fun _ h9 => h9) rfl dX6_ofPerson_58 ?_
      refine lv_iload_n hx hb dX6_ofPerson_61 rfl (lv_at hl 1 rfl) ?_
      have hPc := hP.sub (ws' := [(pe, .inr (1, [.ref ka, .ref sa, .int (nI n)])), (sa, .inl (cI, 9, .inl sd))]) [1, 3] rfl
      refine vp_callSi (va_Run.run (va_runV (As := [.int (nI j)]) (rest := []) ⟨hx, hb, hml, hown, hts⟩ (c_X1_sideOf l D cI cO pe ka sa n sd (nI j) (by assumption)) (cwV 1 hts gX6_ofPerson_X1_sideOf rfl rfl rfl (by decide +kernel) ⟨Nat.le_of_ble_eq_true rfl, Nat.le_of_ble_eq_true rfl⟩) (preVR hPc hK hNw (va_recv hK hPc (ci := 1) (q0 := 0) rfl rfl)) rfl rfl hl.1 rfl (lv_room (Nat.le_of_ble_eq_true rfl)) dX6_ofPerson_62 ⟨Nat.zero_le _, Nat.zero_le _⟩)) (fun r62 w62 => ?_)
      obtain rfl := w62
      refine tp_i (y := sd j) (sideF_in hj (by omega)) ?_
      exact W.iret (v := sd j) hx hb hr (fun t ht hW => ⟨_, rfl, by first | (simp [onQ_out b5]; done) | (simp [onQ_in hj (show n < 2 ^ 31 by omega), *]; done), ht⟩) (fun _ h => absurd h List.not_mem_nil) dX6_ofPerson_65
    by_cases k14_2 : x = 2
    · -- case 2
      refine lv_tableIn (off := 52) (tgt := 66) hx hb dX6_ofPerson_14 (by rw [k14_2]; decide) (by rw [k14_2]; decide) (by rw [k14_2]; decide) (by decide) ?_
      refine lv_aload_n hx hb dX6_ofPerson_66 rfl (lv_at hl 0 rfl) ?_
      refine va_get (D := D) (ci := 6) (v := .ref pe) (C := RX6) (T := TX6) (N := 9) hx hb hts iX6 hown hK hP 0 rfl rfl 1 (by decide) f21 (fun _ h9 => h9) rfl dX6_ofPerson_67 ?_
      refine lv_iload_n hx hb dX6_ofPerson_70 rfl (lv_at hl 1 rfl) ?_
      have hPc := hP.sub (ws' := [(pe, .inr (1, [.ref ka, .ref sa, .int (nI n)])), (ka, .inl (cI, 9, .inl kd)), (sa, .inl (cI, 9, .inl sd))]) [1, 2, 3] rfl
      refine vp_callSi (va_Run.run (va_runV (As := [.int (nI j)]) (rest := []) ⟨hx, hb, hml, hown, hts⟩ (c_X1_ringOf l D cI cO pe ka sa n kd sd j (by assumption) (by assumption)) (cwV 1 hts gX6_ofPerson_X1_ringOf rfl rfl rfl (by decide +kernel) ⟨Nat.le_of_ble_eq_true rfl, Nat.le_of_ble_eq_true rfl⟩) (preVR hPc hK hNw (va_recv hK hPc (ci := 1) (q0 := 0) rfl rfl)) rfl rfl hl.1 rfl (lv_room (Nat.le_of_ble_eq_true rfl)) dX6_ofPerson_71 ⟨Nat.zero_le _, Nat.zero_le _⟩)) (fun r71 w71 => ?_)
      obtain rfl := w71
      exact W.iret (v := ringI (kd j) (sd j)) hx hb hr (fun t ht hW => ⟨_, rfl, by first | (simp [onQ_out b5]; done) | (simp [onQ_in hj (show n < 2 ^ 31 by omega), *]; done), ht⟩) (fun _ h => absurd h List.not_mem_nil) dX6_ofPerson_74
    by_cases k14_3 : x = 3
    · -- case 3
      refine lv_tableIn (off := 61) (tgt := 75) hx hb dX6_ofPerson_14 (by rw [k14_3]; decide) (by rw [k14_3]; decide) (by rw [k14_3]; decide) (by decide) ?_
      refine lv_aload_n hx hb dX6_ofPerson_75 rfl (lv_at hl 0 rfl) ?_
      refine va_get (D := D) (ci := 6) (v := .ref tq) (C := RX6) (T := TX6) (N := 9) hx hb hts iX6 hown hK hP 0 rfl rfl 2 (by decide) f28 (fun _ h9 => h9) rfl dX6_ofPerson_76 ?_
      refine lv_iload_n hx hb dX6_ofPerson_79 rfl (lv_at hl 1 rfl) ?_
      have hPc := hP.sub (ws' := [(tq, .inr (5, [.ref xa, .ref la, .int (nI tn)])), (xa, .inl (cI, 3, .inl ts))]) [4, 5] rfl
      refine vp_callSi (va_Run.run (va_runV (As := [.int (nI j)]) (rest := []) ⟨hx, hb, hml, hown, hts⟩ (c_X5_threeOf l D cI cO tq xa la tn ts j (by assumption) (by omega)) (cwV 1 hts gX6_ofPerson_X5_threeOf rfl rfl rfl (by decide +kernel) ⟨Nat.le_of_ble_eq_true rfl, Nat.le_of_ble_eq_true rfl⟩) (preVR hPc hK hNw (va_recv hK hPc (ci := 5) (q0 := 0) rfl rfl)) rfl rfl hl.1 rfl (lv_room (Nat.le_of_ble_eq_true rfl)) dX6_ofPerson_80 ⟨Nat.zero_le _, Nat.zero_le _⟩)) (fun r80 w80 => ?_)
      obtain rfl := w80
      exact W.iret (v := thrW ts j tn 0) hx hb hr (fun t ht hW => ⟨_, rfl, by first | (simp [onQ_out b5]; done) | (simp [onQ_in hj (show n < 2 ^ 31 by omega), *]; done), ht⟩) (fun _ h => absurd h List.not_mem_nil) dX6_ofPerson_83
    by_cases k14_4 : x = 4
    · -- case 4
      refine lv_tableIn (off := 70) (tgt := 84) hx hb dX6_ofPerson_14 (by rw [k14_4]; decide) (by rw [k14_4]; decide) (by rw [k14_4]; decide) (by decide) ?_
      refine lv_aload_n hx hb dX6_ofPerson_84 rfl (lv_at hl 0 rfl) ?_
      refine lv_iload_n hx hb dX6_ofPerson_85 rfl (lv_at hl 1 rfl) ?_
      have hPc := hP.sub (ws' := [(h, .inr (6, [.ref aS, .ref pe, .ref tq, .ref se, .ref mo, .ref re, .int bar, .int tr, .int fa])), (pe, .inr (1, [.ref ka, .ref sa, .int (nI n)])), (ka, .inl (cI, 9, .inl kd)), (sa, .inl (cI, 9, .inl sd)), (tq, .inr (5, [.ref xa, .ref la, .int (nI tn)])), (xa, .inl (cI, 3, .inl ts))]) [0, 1, 2, 3, 4, 5] rfl
      refine vp_callSi (va_Run.run (va_runV (As := [.int (nI j)]) (rest := []) ⟨hx, hb, hml, hown, hts⟩ (c_X6_joyOf l D cI cO h aS pe tq se mo re bar tr fa ka sa n kd sd xa la tn ts j (by assumption) (by assumption) (by assumption)) (cwV 1 hts gX6_ofPerson_X6_joyOf rfl rfl rfl (by decide +kernel) ⟨Nat.le_of_ble_eq_true rfl, Nat.le_of_ble_eq_true rfl⟩) (preVR hPc hK hNw (va_recv hK hPc (ci := 6) (q0 := 0) rfl rfl)) rfl rfl hl.1 rfl (lv_room (Nat.le_of_ble_eq_true rfl)) dX6_ofPerson_86 ⟨Nat.zero_le _, Nat.zero_le _⟩)) (fun r86 w86 => ?_)
      obtain rfl := w86
      exact W.iret (v := joyI n kd sd tn ts j) hx hb hr (fun t ht hW => ⟨_, rfl, by first | (simp [onQ_out b5]; done) | (simp [onQ_in hj (show n < 2 ^ 31 by omega), *]; done), ht⟩) (fun _ h => absurd h List.not_mem_nil) dX6_ofPerson_89
    have t14_0 := lv_neT (k := 0) (a := 0) k14_0 (by decide)
    have t14_1 := lv_neT (k := 1) (a := 1) k14_1 (by decide)
    have t14_2 := lv_neT (k := 2) (a := 2) k14_2 (by decide)
    have t14_3 := lv_neT (k := 3) (a := 3) k14_3 (by decide)
    have t14_4 := lv_neT (k := 4) (a := 4) k14_4 (by decide)
    refine lv_tableOut (tgt := 90) hx hb dX6_ofPerson_14 (by omega) (by decide) ?_
    refine lv_bipush (v := -2) hx hb dX6_ofPerson_90 (by decide) ?_
    exact W.iret (v := -2) hx hb hr (fun t ht hW => ⟨_, rfl, by first | (simp [onQ_out b5]; done) | (simp [onQ_in hj (show n < 2 ^ 31 by omega), *]; done), ht⟩) (fun _ h => absurd h List.not_mem_nil) dX6_ofPerson_92
  · -- n5
    obtain rfl := w5.2 b5
    refine lv_if_ne (tgt := 13) hx hb dX6_ofPerson_8 (by decide) (fun h => absurd (by decide) h) (fun _ => ?_)
    refine lv_iconst (v := -1) hx hb dX6_ofPerson_11 (by decide) ?_
    exact W.iret (v := -1) hx hb hr (fun t ht hW => ⟨_, rfl, by first | (simp [onQ_out b5]; done) | (simp [onQ_in hj (show n < 2 ^ 31 by omega), *]; done), ht⟩) (fun _ h => absurd h List.not_mem_nil) dX6_ofPerson_12

set_option maxHeartbeats 4000000 in
set_option maxRecDepth 100000 in
theorem c_X6_bend (l : Launch) (D : va_G) (cI cO : ClassId) (h : Nat) (aS : Nat) (pe : Nat) (tq : Nat) (se : Nat) (mo : Nat) (re : Nat) (bar : Int32) (tr : Int32) (fa : Int32) (ka : Nat) (sa : Nat) (n : Nat) (kd : Nat → Int32) (sd : Nat → Int32) (xa : Nat) (la : Nat) (tn : Nat) (ts : Nat → Int32) (mk : Int32) (md : Int32) (mr : Int32) (mw : Int64) (pp : Int32) (v : Int32) (sz : Nat) (hn : n ≤ 9) (ht3 : tn ≤ 3) : Met l yX6_bend wsX6_bend ({ frames := 2, cells := 0, slots := 0, locals := 43 } : Room) (va_Pc [.ref h, .int pp, .int v] (wdW D cI cO [(h, .inr (6, [.ref aS, .ref pe, .ref tq, .ref se, .ref mo, .ref re, .int bar, .int tr, .int fa])), (pe, .inr (1, [.ref ka, .ref sa, .int (nI n)])), (ka, .inl (cI, 9, .inl kd)), (sa, .inl (cI, 9, .inl sd)), (tq, .inr (5, [.ref xa, .ref la, .int (nI tn)])), (xa, .inl (cI, 3, .inl ts)), (mo, .inr (0, [.int mk, .int md, .int mr, .long mw]))] sz)) (va_Qi (S := (Nat → Int32) × Int32) (fun r u => r = (onQ n pp (fun j => if v < 1 then -2 else if v ≤ 9 then (if thrW ts j tn 0 = -9 then sd j else -3) else -2) (-1)) ∧ u.1 = (onQ n pp (fun j => if v < 1 then sd else if v ≤ 9 then (if thrW ts j tn 0 = -9 then upd sd j v else sd) else sd) sd) ∧ u.2 = (onQ n pp (fun j => if v < 1 then mk else if v ≤ 9 then (if thrW ts j tn 0 = -9 then 0 else mk) else mk) mk)) (fun u t => va_P D vwCl [(h, .inr (6, [.ref aS, .ref pe, .ref tq, .ref se, .ref mo, .ref re, .int bar, .int tr, .int fa])), (pe, .inr (1, [.ref ka, .ref sa, .int (nI n)])), (ka, .inl (cI, 9, .inl kd)), (sa, .inl (cI, 9, .inl u.1)), (tq, .inr (5, [.ref xa, .ref la, .int (nI tn)])), (xa, .inl (cI, 3, .inl ts)), (mo, .inr (0, [.int u.2, .int md, .int mr, .long mw]))] t.heap ∧ va_K D vwCl (tyL cI cO) t ∧ va_D (va_A [(h, .inr (6, [.ref aS, .ref pe, .ref tq, .ref se, .ref mo, .ref re, .int bar, .int tr, .int fa])), (pe, .inr (1, [.ref ka, .ref sa, .int (nI n)])), (ka, .inl (cI, 9, .inl kd)), (sa, .inl (cI, 9, .inl sd)), (tq, .inr (5, [.ref xa, .ref la, .int (nI tn)])), (xa, .inl (cI, 3, .inl ts)), (mo, .inr (0, [.int mk, .int md, .int mr, .long mw]))] sz) [(h, .inr (6, [.ref aS, .ref pe, .ref tq, .ref se, .ref mo, .ref re, .int bar, .int tr, .int fa])), (pe, .inr (1, [.ref ka, .ref sa, .int (nI n)])), (ka, .inl (cI, 9, .inl kd)), (sa, .inl (cI, 9, .inl u.1)), (tq, .inr (5, [.ref xa, .ref la, .int (nI tn)])), (xa, .inl (cI, 3, .inl ts)), (mo, .inr (0, [.int u.2, .int md, .int mr, .long mw]))]) (va_A [(h, .inr (6, [.ref aS, .ref pe, .ref tq, .ref se, .ref mo, .ref re, .int bar, .int tr, .int fa])), (pe, .inr (1, [.ref ka, .ref sa, .int (nI n)])), (ka, .inl (cI, 9, .inl kd)), (sa, .inl (cI, 9, .inl sd)), (tq, .inr (5, [.ref xa, .ref la, .int (nI tn)])), (xa, .inl (cI, 3, .inl ts)), (mo, .inr (0, [.int mk, .int md, .int mr, .long mw]))] sz)) 0 0 (va_A [(h, .inr (6, [.ref aS, .ref pe, .ref tq, .ref se, .ref mo, .ref re, .int bar, .int tr, .int fa])), (pe, .inr (1, [.ref ka, .ref sa, .int (nI n)])), (ka, .inl (cI, 9, .inl kd)), (sa, .inl (cI, 9, .inl sd)), (tq, .inr (5, [.ref xa, .ref la, .int (nI tn)])), (xa, .inl (cI, 3, .inl ts)), (mo, .inr (0, [.int mk, .int md, .int mr, .long mw]))] sz) := by
  refine Met.ofW (cc := cX6_bend) (maxL := 4) (ret := (some .int)) (by decide) rfl ?_
  intro p e s m args below meth c s₁ B hml hv
  obtain ⟨rfl, hsz, hP, hK, hNw, hD0⟩ := hv
  have hx := B.exec
  have hb := B.bytes
  have hr := B.returns
  have hts := atoms_spec (ws := wsX6_bend) B.pre
  have hown : s.vm.findClass RX6 = some m.cls := findClass_of_methodNamed B.named
  have hlocks := B.notSynchronized
  have f21 := hts (.fieldLink RX6 21 "StruckThrees" "people" "LStruckThrees$People;") (by decide +kernel)
  have f28 := hts (.fieldLink RX6 28 "StruckThrees" "threes" "LStruckThrees$Threes;") (by decide +kernel)
  have f42 := hts (.fieldLink RX6 42 "StruckThrees" "most" "LStruckThrees$Most;") (by decide +kernel)
  have iX6 : ∀ w ∈ wsX60, w ∈ wsX6_bend := by decide +kernel
  subst hsz
  have hD := hD0.self (sz := s.heap.size)
  generalize hAe : va_A [(h, .inr (6, [.ref aS, .ref pe, .ref tq, .ref se, .ref mo, .ref re, .int bar, .int tr, .int fa])), (pe, .inr (1, [.ref ka, .ref sa, .int (nI n)])), (ka, .inl (cI, 9, .inl kd)), (sa, .inl (cI, 9, .inl sd)), (tq, .inr (5, [.ref xa, .ref la, .int (nI tn)])), (xa, .inl (cI, 3, .inl ts)), (mo, .inr (0, [.int mk, .int md, .int mr, .long mw]))] s.heap.size = A at hD ⊢
  have hA : ∀ q : Nat, s.heap.size ≤ q → A q := fun q h => by rw [← hAe]; exact Or.inr h
  have hS : va_S A s.heap s.heap [] := va_S.rf
  have hP : va_P D vwCl [(h, .inr (6, [.ref aS, .ref pe, .ref tq, .ref se, .ref mo, .ref re, .int bar, .int tr, .int fa])), (pe, .inr (1, [.ref ka, .ref sa, .int (nI n)])), (ka, .inl (cI, 9, .inl kd)), (sa, .inl (cI, 9, .inl sd)), (tq, .inr (5, [.ref xa, .ref la, .int (nI tn)])), (xa, .inl (cI, 3, .inl ts)), (mo, .inr (0, [.int mk, .int md, .int mr, .long mw]))] s.heap := hP
  have hl := lv_entry ([.ref h, .int pp, .int v]) (n := 4) (Nat.le_of_ble_eq_true rfl)
  rw [lg_entry_eq]
  generalize (lg_sl ([.ref h, .int pp, .int v]) ++ List.replicate (4 - (lg_sl ([.ref h, .int pp, .int v])).length) Slot.unset).toArray = ls at hl ⊢
  have hl : lv_has ls 4 [(0, .ref h), (1, .int pp), (2, .int v)] := hl
  refine lv_aload_n hx hb dX6_bend_0 rfl (lv_at hl 0 rfl) ?_
  refine va_get (D := D) (ci := 6) (v := .ref pe) (C := RX6) (T := TX6) (N := 9) hx hb hts iX6 hown hK hP 0 rfl rfl 1 (by decide) f21 (fun _ h9 => h9) rfl dX6_bend_1 ?_
  refine lv_iload_n hx hb dX6_bend_4 rfl (lv_at hl 1 rfl) ?_
  have hPc := hP.sub (ws' := [(pe, .inr (1, [.ref ka, .ref sa, .int (nI n)]))]) [1] rfl
  refine vp_callSi (va_Run.run (va_runV (As := [.int pp]) (rest := []) ⟨hx, hb, hml, hown, hts⟩ (c_X1_has l D cI cO pe ka sa n pp) (cwV 1 hts gX6_bend_X1_has rfl rfl rfl (by decide +kernel) ⟨Nat.le_of_ble_eq_true rfl, Nat.le_of_ble_eq_true rfl⟩) (preVR hPc hK hNw (va_recv hK hPc (ci := 1) (q0 := 0) rfl rfl)) rfl rfl hl.1 rfl (lv_room (Nat.le_of_ble_eq_true rfl)) dX6_bend_5 ⟨Nat.zero_le _, Nat.zero_le _⟩)) (fun r5 w5 => ?_)
  by_cases b5 : ¬ pp < 0 ∧ ¬ nI n ≤ pp
  · -- y5
    obtain rfl := w5.1 b5
    obtain ⟨j, hj, rfl⟩ := in_nat b5 (show n < 2 ^ 31 by omega)
    refine lv_if_ne (tgt := 13) hx hb dX6_bend_8 (by decide) (fun _ => ?_) (fun h => absurd h (by decide))
    refine lv_iload_n hx hb dX6_bend_13 rfl (lv_at hl 2 rfl) ?_
    refine lv_iconst (v := 1) hx hb dX6_bend_14 (by decide) ?_
    refine lv_icmp_lt (tgt := 24) hx hb dX6_bend_15 (by decide) (fun c15 => ?_) (fun c15 => ?_)
    · -- t15
      refine lv_bipush (v := -2) hx hb dX6_bend_24 (by decide) ?_
      exact W.iret (v := -2) hx hb hr (fun t ht hW => ⟨⟨_, (sd, mk), rfl, by first | (simp [onQ_out b5]; done) | (simp [onQ_in hj (show n < 2 ^ 31 by omega), *]; done), by rw [ht]; exact hP, va_K.moved hW.alike hK, hD⟩, hS.F ht⟩) hS.2.2 dX6_bend_26
    · -- f15
      refine lv_iload_n hx hb dX6_bend_18 rfl (lv_at hl 2 rfl) ?_
      refine lv_bipush (v := 9) hx hb dX6_bend_19 (by decide) ?_
      refine lv_icmp_le (tgt := 27) hx hb dX6_bend_21 (by decide) (fun c21 => ?_) (fun c21 => ?_)
      · -- t21
        refine lv_aload_n hx hb dX6_bend_27 rfl (lv_at hl 0 rfl) ?_
        refine va_get (D := D) (ci := 6) (v := .ref tq) (C := RX6) (T := TX6) (N := 9) hx hb hts iX6 hown hK hP 0 rfl rfl 2 (by decide) f28 (fun _ h9 => h9) rfl dX6_bend_28 ?_
        refine lv_iload_n hx hb dX6_bend_31 rfl (lv_at hl 1 rfl) ?_
        have hPc := hP.sub (ws' := [(tq, .inr (5, [.ref xa, .ref la, .int (nI tn)])), (xa, .inl (cI, 3, .inl ts))]) [4, 5] rfl
        refine vp_callSi (va_Run.run (va_runV (As := [.int (nI j)]) (rest := []) ⟨hx, hb, hml, hown, hts⟩ (c_X5_threeOf l D cI cO tq xa la tn ts j (by assumption) (by omega)) (cwV 1 hts gX6_bend_X5_threeOf rfl rfl rfl (by decide +kernel) ⟨Nat.le_of_ble_eq_true rfl, Nat.le_of_ble_eq_true rfl⟩) (preVR hPc hK hNw (va_recv hK hPc (ci := 5) (q0 := 0) rfl rfl)) rfl rfl hl.1 rfl (lv_room (Nat.le_of_ble_eq_true rfl)) dX6_bend_32 ⟨Nat.zero_le _, Nat.zero_le _⟩)) (fun r32 w32 => ?_)
        obtain rfl := w32
        refine lv_bipush (v := -9) hx hb dX6_bend_35 (by decide) ?_
        refine lv_icmp_eq (tgt := 43) hx hb dX6_bend_37 (by decide) (fun c37 => ?_) (fun c37 => ?_)
        · -- t37
          refine lv_aload_n hx hb dX6_bend_43 rfl (lv_at hl 0 rfl) ?_
          refine va_get (D := D) (ci := 6) (v := .ref pe) (C := RX6) (T := TX6) (N := 9) hx hb hts iX6 hown hK hP 0 rfl rfl 1 (by decide) f21 (fun _ h9 => h9) rfl dX6_bend_44 ?_
          refine lv_iload_n hx hb dX6_bend_47 rfl (lv_at hl 1 rfl) ?_
          have hPc := hP.sub (ws' := [(pe, .inr (1, [.ref ka, .ref sa, .int (nI n)])), (sa, .inl (cI, 9, .inl sd))]) [1, 3] rfl
          refine vp_callSi (va_Run.run (va_runV (As := [.int (nI j)]) (rest := []) ⟨hx, hb, hml, hown, hts⟩ (c_X1_sideOf l D cI cO pe ka sa n sd (nI j) (by assumption)) (cwV 1 hts gX6_bend_X1_sideOf rfl rfl rfl (by decide +kernel) ⟨Nat.le_of_ble_eq_true rfl, Nat.le_of_ble_eq_true rfl⟩) (preVR hPc hK hNw (va_recv hK hPc (ci := 1) (q0 := 0) rfl rfl)) rfl rfl hl.1 rfl (lv_room (Nat.le_of_ble_eq_true rfl)) dX6_bend_48 ⟨Nat.zero_le _, Nat.zero_le _⟩)) (fun r48 w48 => ?_)
          obtain rfl := w48
          refine tp_i (y := sd j) (sideF_in hj (by omega)) ?_
          refine lv_istore_n (lv' := [(3, .int (sd j)), (0, .ref h), (1, .int (nI j)), (2, .int v)]) hx hb dX6_bend_51 rfl hl (by decide) rfl (fun ls hl => ?_)
          refine lv_aload_n hx hb dX6_bend_52 rfl (lv_at hl 1 rfl) ?_
          refine va_get (D := D) (ci := 6) (v := .ref pe) (C := RX6) (T := TX6) (N := 9) hx hb hts iX6 hown hK hP 0 rfl rfl 1 (by decide) f21 (fun _ h9 => h9) rfl dX6_bend_53 ?_
          refine lv_iload_n hx hb dX6_bend_56 rfl (lv_at hl 2 rfl) ?_
          refine lv_iload_n hx hb dX6_bend_57 rfl (lv_at hl 3 rfl) ?_
          have hPc := hP.sub (ws' := [(pe, .inr (1, [.ref ka, .ref sa, .int (nI n)])), (sa, .inl (cI, 9, .inl sd))]) [1, 3] rfl
          have hDc := hD.sub (ws' := [(pe, .inr (1, [.ref ka, .ref sa, .int (nI n)])), (sa, .inl (cI, 9, .inl sd))]) [1, 3] (by decide) rfl
          have hFc := va_free (wc := [(pe, .inr (1, [.ref ka, .ref sa, .int (nI n)])), (sa, .inl (cI, 9, .inl sd))]) hD hS hA [1, 3] rfl
          refine va_callv (va_runV (As := [.int (nI j), .int v]) (rest := []) ⟨hx, hb, hml, hown, hts⟩ (c_X1_bendTo l D cI cO pe ka sa n sd j v _ (by assumption) (by assumption)) (cwV 2 hts gX6_bend_X1_bendTo rfl rfl rfl (by decide +kernel) ⟨Nat.le_of_ble_eq_true rfl, Nat.le_of_ble_eq_true rfl⟩) (preVW hPc hK hNw hDc (va_recv hK hPc (ci := 1) (q0 := 0) rfl rfl)) rfl rfl hl.1 rfl (lv_room (Nat.le_of_ble_eq_true rfl)) dX6_bend_58 ⟨Nat.zero_le _, Nat.zero_le _⟩) hS (fun q _ h => hFc q h) hFc (fun u t H1 locs ht hvm w58 hB hz1 hk1 hS => ?_)
          obtain ⟨sd1_58, rfl⟩ : ∃ z, z = u := ⟨_, rfl⟩
          obtain ⟨hP1, hK1, hD1⟩ := hB
          rw [ht] at hP1
          try dsimp only at w58
          obtain ⟨hP, hD⟩ := va_join (wr := [(h, .inr (6, [.ref aS, .ref pe, .ref tq, .ref se, .ref mo, .ref re, .int bar, .int tr, .int fa])), (ka, .inl (cI, 9, .inl kd)), (tq, .inr (5, [.ref xa, .ref la, .int (nI tn)])), (xa, .inl (cI, 3, .inl ts)), (mo, .inr (0, [.int mk, .int md, .int mr, .long mw]))]) (w1 := [(pe, .inr (1, [.ref ka, .ref sa, .int (nI n)])), (sa, .inl (cI, 9, .inl sd1_58))]) hP hD [1, 3] [0, 2, 4, 5, 6] rfl rfl (by decide) (by decide) hk1 hFc hP1 hD1
          generalize H1 = H at hP hS ⊢
          have hP := hP.sub (ws' := [(h, .inr (6, [.ref aS, .ref pe, .ref tq, .ref se, .ref mo, .ref re, .int bar, .int tr, .int fa])), (pe, .inr (1, [.ref ka, .ref sa, .int (nI n)])), (ka, .inl (cI, 9, .inl kd)), (sa, .inl (cI, 9, .inl sd1_58)), (tq, .inr (5, [.ref xa, .ref la, .int (nI tn)])), (xa, .inl (cI, 3, .inl ts)), (mo, .inr (0, [.int mk, .int md, .int mr, .long mw]))]) [0, 5, 1, 6, 2, 3, 4] rfl
          have hD := hD.sub (ws' := [(h, .inr (6, [.ref aS, .ref pe, .ref tq, .ref se, .ref mo, .ref re, .int bar, .int tr, .int fa])), (pe, .inr (1, [.ref ka, .ref sa, .int (nI n)])), (ka, .inl (cI, 9, .inl kd)), (sa, .inl (cI, 9, .inl sd1_58)), (tq, .inr (5, [.ref xa, .ref la, .int (nI tn)])), (xa, .inl (cI, 3, .inl ts)), (mo, .inr (0, [.int mk, .int md, .int mr, .long mw]))]) [0, 5, 1, 6, 2, 3, 4] (by decide) rfl
          obtain rfl := w58
          refine lv_aload_n hx hb dX6_bend_61 rfl (lv_at hl 1 rfl) ?_
          refine va_get (D := D) (ci := 6) (v := .ref mo) (C := RX6) (T := TX6) (N := 9) hx hb hts iX6 hown hK hP 0 rfl rfl 4 (by decide) f42 (fun _ h9 => h9) rfl dX6_bend_62 ?_
          have hPc := hP.sub (ws' := [(mo, .inr (0, [.int mk, .int md, .int mr, .long mw]))]) [6] rfl
          have hDc := hD.sub (ws' := [(mo, .inr (0, [.int mk, .int md, .int mr, .long mw]))]) [6] (by decide) rfl
          have hFc := va_free (wc := [(mo, .inr (0, [.int mk, .int md, .int mr, .long mw]))]) hD hS hA [6] rfl
          refine va_callv (va_runV (As := []) (rest := []) ⟨hx, hb, hml, hown, hts⟩ (c_X0_forget l D cI cO mo mk md mr mw _) (cwV 0 hts gX6_bend_X0_forget rfl rfl rfl (by decide +kernel) ⟨Nat.le_of_ble_eq_true rfl, Nat.le_of_ble_eq_true rfl⟩) (preVW hPc hK hNw hDc (va_recv hK hPc (ci := 0) (q0 := 0) rfl rfl)) rfl rfl hl.1 rfl (lv_room (Nat.le_of_ble_eq_true rfl)) dX6_bend_65 ⟨Nat.zero_le _, Nat.zero_le _⟩) hS (fun q _ h => hFc q h) hFc (fun u t H1 locs ht hvm w65 hB hz1 hk1 hS => ?_)
          obtain ⟨hP1, hK1, hD1⟩ := hB
          rw [ht] at hP1
          try dsimp only at w65
          obtain ⟨hP, hD⟩ := va_join (wr := [(h, .inr (6, [.ref aS, .ref pe, .ref tq, .ref se, .ref mo, .ref re, .int bar, .int tr, .int fa])), (pe, .inr (1, [.ref ka, .ref sa, .int (nI n)])), (ka, .inl (cI, 9, .inl kd)), (sa, .inl (cI, 9, .inl (upd sd j v))), (tq, .inr (5, [.ref xa, .ref la, .int (nI tn)])), (xa, .inl (cI, 3, .inl ts))]) (w1 := [(mo, .inr (0, [.int 0, .int md, .int mr, .long mw]))]) hP hD [6] [0, 1, 2, 3, 4, 5] rfl rfl (by decide) (by decide) hk1 hFc hP1 hD1
          generalize H1 = H at hP hS ⊢
          have hP := hP.sub (ws' := [(h, .inr (6, [.ref aS, .ref pe, .ref tq, .ref se, .ref mo, .ref re, .int bar, .int tr, .int fa])), (pe, .inr (1, [.ref ka, .ref sa, .int (nI n)])), (ka, .inl (cI, 9, .inl kd)), (sa, .inl (cI, 9, .inl (upd sd j v))), (tq, .inr (5, [.ref xa, .ref la, .int (nI tn)])), (xa, .inl (cI, 3, .inl ts)), (mo, .inr (0, [.int 0, .int md, .int mr, .long mw]))]) [0, 1, 2, 3, 4, 5, 6] rfl
          have hD := hD.sub (ws' := [(h, .inr (6, [.ref aS, .ref pe, .ref tq, .ref se, .ref mo, .ref re, .int bar, .int tr, .int fa])), (pe, .inr (1, [.ref ka, .ref sa, .int (nI n)])), (ka, .inl (cI, 9, .inl kd)), (sa, .inl (cI, 9, .inl (upd sd j v))), (tq, .inr (5, [.ref xa, .ref la, .int (nI tn)])), (xa, .inl (cI, 3, .inl ts)), (mo, .inr (0, [.int 0, .int md, .int mr, .long mw]))]) [0, 1, 2, 3, 4, 5, 6] (by decide) rfl
          refine lv_iload_n hx hb dX6_bend_68 rfl (lv_at hl 0 rfl) ?_
          exact W.iret (v := sd j) hx hb hr (fun t ht hW => ⟨⟨_, ((upd sd j v), 0), rfl, by first | (simp [onQ_out b5]; done) | (simp [onQ_in hj (show n < 2 ^ 31 by omega), *]; done), by rw [ht]; exact hP, va_K.moved hW.alike hK, hD⟩, hS.F ht⟩) hS.2.2 dX6_bend_69
        · -- f37
          refine lv_bipush (v := -3) hx hb dX6_bend_40 (by decide) ?_
          exact W.iret (v := -3) hx hb hr (fun t ht hW => ⟨⟨_, (sd, mk), rfl, by first | (simp [onQ_out b5]; done) | (simp [onQ_in hj (show n < 2 ^ 31 by omega), *]; done), by rw [ht]; exact hP, va_K.moved hW.alike hK, hD⟩, hS.F ht⟩) hS.2.2 dX6_bend_42
      · -- f21
        refine lv_bipush (v := -2) hx hb dX6_bend_24 (by decide) ?_
        exact W.iret (v := -2) hx hb hr (fun t ht hW => ⟨⟨_, (sd, mk), rfl, by first | (simp [onQ_out b5]; done) | (simp [onQ_in hj (show n < 2 ^ 31 by omega), *]; done), by rw [ht]; exact hP, va_K.moved hW.alike hK, hD⟩, hS.F ht⟩) hS.2.2 dX6_bend_26
  · -- n5
    obtain rfl := w5.2 b5
    refine lv_if_ne (tgt := 13) hx hb dX6_bend_8 (by decide) (fun h => absurd (by decide) h) (fun _ => ?_)
    refine lv_iconst (v := -1) hx hb dX6_bend_11 (by decide) ?_
    exact W.iret (v := -1) hx hb hr (fun t ht hW => ⟨⟨_, (sd, mk), rfl, by first | (simp [onQ_out b5]; done) | (simp [onQ_in hj (show n < 2 ^ 31 by omega), *]; done), by rw [ht]; exact hP, va_K.moved hW.alike hK, hD⟩, hS.F ht⟩) hS.2.2 dX6_bend_12

set_option maxHeartbeats 4000000 in
set_option maxRecDepth 100000 in
theorem c_X6_hang (l : Launch) (D : va_G) (cI cO : ClassId) (h : Nat) (aS : Nat) (pe : Nat) (tq : Nat) (se : Nat) (mo : Nat) (re : Nat) (bar : Int32) (tr : Int32) (fa : Int32) (ka : Nat) (sa : Nat) (n : Nat) (kd : Nat → Int32) (sd : Nat → Int32) (xa : Nat) (la : Nat) (tn : Nat) (ts : Nat → Int32) (tl : Nat → Int32) (a : Int32) (b : Int32) (cc : Int32) (sz : Nat) (hn : n ≤ 9) (hs : ∀ j, j < n → 1 ≤ sd j) (ht3 : hgC n sd tn ts a b cc = 2 → tn < 3) (htn : tn ≤ 3) : Met l yX6_hang wsX6_hang ({ frames := 4, cells := 0, slots := 0, locals := 86 } : Room) (va_Pc [.ref h, .int a, .int b, .int cc] (wdW D cI cO [(h, .inr (6, [.ref aS, .ref pe, .ref tq, .ref se, .ref mo, .ref re, .int bar, .int tr, .int fa])), (pe, .inr (1, [.ref ka, .ref sa, .int (nI n)])), (ka, .inl (cI, 9, .inl kd)), (sa, .inl (cI, 9, .inl sd)), (tq, .inr (5, [.ref xa, .ref la, .int (nI tn)])), (xa, .inl (cI, 3, .inl ts)), (la, .inl (cI, 3, .inl tl))] sz)) (va_Qi (S := Nat × (Nat → Int32) × (Nat → Int32)) (fun r u => r = (hgR tn (hgC n sd tn ts a b cc)) ∧ u.1 = (in2 (hgC n sd tn ts a b cc) (tn + 1) tn) ∧ u.2.1 = (in2 (hgC n sd tn ts a b cc) (upd ts tn (bit3 a b cc)) ts) ∧ u.2.2 = (in2 (hgC n sd tn ts a b cc) (upd tl tn 0) tl)) (fun u t => va_P D vwCl [(h, .inr (6, [.ref aS, .ref pe, .ref tq, .ref se, .ref mo, .ref re, .int bar, .int tr, .int fa])), (pe, .inr (1, [.ref ka, .ref sa, .int (nI n)])), (ka, .inl (cI, 9, .inl kd)), (sa, .inl (cI, 9, .inl sd)), (tq, .inr (5, [.ref xa, .ref la, .int (nI u.1)])), (xa, .inl (cI, 3, .inl u.2.1)), (la, .inl (cI, 3, .inl u.2.2))] t.heap ∧ va_K D vwCl (tyL cI cO) t ∧ va_D (va_A [(h, .inr (6, [.ref aS, .ref pe, .ref tq, .ref se, .ref mo, .ref re, .int bar, .int tr, .int fa])), (pe, .inr (1, [.ref ka, .ref sa, .int (nI n)])), (ka, .inl (cI, 9, .inl kd)), (sa, .inl (cI, 9, .inl sd)), (tq, .inr (5, [.ref xa, .ref la, .int (nI tn)])), (xa, .inl (cI, 3, .inl ts)), (la, .inl (cI, 3, .inl tl))] sz) [(h, .inr (6, [.ref aS, .ref pe, .ref tq, .ref se, .ref mo, .ref re, .int bar, .int tr, .int fa])), (pe, .inr (1, [.ref ka, .ref sa, .int (nI n)])), (ka, .inl (cI, 9, .inl kd)), (sa, .inl (cI, 9, .inl sd)), (tq, .inr (5, [.ref xa, .ref la, .int (nI u.1)])), (xa, .inl (cI, 3, .inl u.2.1)), (la, .inl (cI, 3, .inl u.2.2))]) (va_A [(h, .inr (6, [.ref aS, .ref pe, .ref tq, .ref se, .ref mo, .ref re, .int bar, .int tr, .int fa])), (pe, .inr (1, [.ref ka, .ref sa, .int (nI n)])), (ka, .inl (cI, 9, .inl kd)), (sa, .inl (cI, 9, .inl sd)), (tq, .inr (5, [.ref xa, .ref la, .int (nI tn)])), (xa, .inl (cI, 3, .inl ts)), (la, .inl (cI, 3, .inl tl))] sz)) 0 0 (va_A [(h, .inr (6, [.ref aS, .ref pe, .ref tq, .ref se, .ref mo, .ref re, .int bar, .int tr, .int fa])), (pe, .inr (1, [.ref ka, .ref sa, .int (nI n)])), (ka, .inl (cI, 9, .inl kd)), (sa, .inl (cI, 9, .inl sd)), (tq, .inr (5, [.ref xa, .ref la, .int (nI tn)])), (xa, .inl (cI, 3, .inl ts)), (la, .inl (cI, 3, .inl tl))] sz) := by
  refine Met.ofW (cc := cX6_hang) (maxL := 5) (ret := (some .int)) (by decide) rfl ?_
  intro p e s m args below meth c s₁ B hml hv
  obtain ⟨rfl, hsz, hP, hK, hNw, hD0⟩ := hv
  have hx := B.exec
  have hb := B.bytes
  have hr := B.returns
  have hts := atoms_spec (ws := wsX6_hang) B.pre
  have hown : s.vm.findClass RX6 = some m.cls := findClass_of_methodNamed B.named
  have hlocks := B.notSynchronized
  have f21 := hts (.fieldLink RX6 21 "StruckThrees" "people" "LStruckThrees$People;") (by decide +kernel)
  have f28 := hts (.fieldLink RX6 28 "StruckThrees" "threes" "LStruckThrees$Threes;") (by decide +kernel)
  have iX6 : ∀ w ∈ wsX60, w ∈ wsX6_hang := by decide +kernel
  subst hsz
  have hD := hD0.self (sz := s.heap.size)
  generalize hAe : va_A [(h, .inr (6, [.ref aS, .ref pe, .ref tq, .ref se, .ref mo, .ref re, .int bar, .int tr, .int fa])), (pe, .inr (1, [.ref ka, .ref sa, .int (nI n)])), (ka, .inl (cI, 9, .inl kd)), (sa, .inl (cI, 9, .inl sd)), (tq, .inr (5, [.ref xa, .ref la, .int (nI tn)])), (xa, .inl (cI, 3, .inl ts)), (la, .inl (cI, 3, .inl tl))] s.heap.size = A at hD ⊢
  have hA : ∀ q : Nat, s.heap.size ≤ q → A q := fun q h => by rw [← hAe]; exact Or.inr h
  have hS : va_S A s.heap s.heap [] := va_S.rf
  have hP : va_P D vwCl [(h, .inr (6, [.ref aS, .ref pe, .ref tq, .ref se, .ref mo, .ref re, .int bar, .int tr, .int fa])), (pe, .inr (1, [.ref ka, .ref sa, .int (nI n)])), (ka, .inl (cI, 9, .inl kd)), (sa, .inl (cI, 9, .inl sd)), (tq, .inr (5, [.ref xa, .ref la, .int (nI tn)])), (xa, .inl (cI, 3, .inl ts)), (la, .inl (cI, 3, .inl tl))] s.heap := hP
  have hl := lv_entry ([.ref h, .int a, .int b, .int cc]) (n := 5) (Nat.le_of_ble_eq_true rfl)
  rw [lg_entry_eq]
  generalize (lg_sl ([.ref h, .int a, .int b, .int cc]) ++ List.replicate (5 - (lg_sl ([.ref h, .int a, .int b, .int cc])).length) Slot.unset).toArray = ls at hl ⊢
  have hl : lv_has ls 5 [(0, .ref h), (1, .int a), (2, .int b), (3, .int cc)] := hl
  refine lv_aload_n hx hb dX6_hang_0 rfl (lv_at hl 0 rfl) ?_
  refine va_get (D := D) (ci := 6) (v := .ref pe) (C := RX6) (T := TX6) (N := 9) hx hb hts iX6 hown hK hP 0 rfl rfl 1 (by decide) f21 (fun _ h9 => h9) rfl dX6_hang_1 ?_
  refine lv_iload_n hx hb dX6_hang_4 rfl (lv_at hl 1 rfl) ?_
  have hPc := hP.sub (ws' := [(pe, .inr (1, [.ref ka, .ref sa, .int (nI n)]))]) [1] rfl
  refine vp_callSi (va_Run.run (va_runV (As := [.int a]) (rest := []) ⟨hx, hb, hml, hown, hts⟩ (c_X1_has l D cI cO pe ka sa n a) (cwV 1 hts gX6_hang_X1_has rfl rfl rfl (by decide +kernel) ⟨Nat.le_of_ble_eq_true rfl, Nat.le_of_ble_eq_true rfl⟩) (preVR hPc hK hNw (va_recv hK hPc (ci := 1) (q0 := 0) rfl rfl)) rfl rfl hl.1 rfl (lv_room (Nat.le_of_ble_eq_true rfl)) dX6_hang_5 ⟨Nat.zero_le _, Nat.zero_le _⟩)) (fun r5 w5 => ?_)
  by_cases b5 : ¬ a < 0 ∧ ¬ nI n ≤ a
  · -- y5
    obtain rfl := w5.1 b5
    obtain ⟨ja, hja, eja⟩ := in_nat b5 (show n < 2 ^ 31 by omega)
    have qja : isP n a = true := decide_eq_true b5
    refine lv_if_eq (tgt := 33) hx hb dX6_hang_8 (by decide) (fun h => absurd h (by decide)) (fun _ => ?_)
    refine lv_aload_n hx hb dX6_hang_11 rfl (lv_at hl 0 rfl) ?_
    refine va_get (D := D) (ci := 6) (v := .ref pe) (C := RX6) (T := TX6) (N := 9) hx hb hts iX6 hown hK hP 0 rfl rfl 1 (by decide) f21 (fun _ h9 => h9) rfl dX6_hang_12 ?_
    refine lv_iload_n hx hb dX6_hang_15 rfl (lv_at hl 2 rfl) ?_
    have hPc := hP.sub (ws' := [(pe, .inr (1, [.ref ka, .ref sa, .int (nI n)]))]) [1] rfl
    refine vp_callSi (va_Run.run (va_runV (As := [.int b]) (rest := []) ⟨hx, hb, hml, hown, hts⟩ (c_X1_has l D cI cO pe ka sa n b) (cwV 1 hts gX6_hang_X1_has rfl rfl rfl (by decide +kernel) ⟨Nat.le_of_ble_eq_true rfl, Nat.le_of_ble_eq_true rfl⟩) (preVR hPc hK hNw (va_recv hK hPc (ci := 1) (q0 := 0) rfl rfl)) rfl rfl hl.1 rfl (lv_room (Nat.le_of_ble_eq_true rfl)) dX6_hang_16 ⟨Nat.zero_le _, Nat.zero_le _⟩)) (fun r16 w16 => ?_)
    by_cases b16 : ¬ b < 0 ∧ ¬ nI n ≤ b
    · -- y16
      obtain rfl := w16.1 b16
      obtain ⟨jb, hjb, ejb⟩ := in_nat b16 (show n < 2 ^ 31 by omega)
      have qjb : isP n b = true := decide_eq_true b16
      refine lv_if_eq (tgt := 33) hx hb dX6_hang_19 (by decide) (fun h => absurd h (by decide)) (fun _ => ?_)
      refine lv_aload_n hx hb dX6_hang_22 rfl (lv_at hl 0 rfl) ?_
      refine va_get (D := D) (ci := 6) (v := .ref pe) (C := RX6) (T := TX6) (N := 9) hx hb hts iX6 hown hK hP 0 rfl rfl 1 (by decide) f21 (fun _ h9 => h9) rfl dX6_hang_23 ?_
      refine lv_iload_n hx hb dX6_hang_26 rfl (lv_at hl 3 rfl) ?_
      have hPc := hP.sub (ws' := [(pe, .inr (1, [.ref ka, .ref sa, .int (nI n)]))]) [1] rfl
      refine vp_callSi (va_Run.run (va_runV (As := [.int cc]) (rest := []) ⟨hx, hb, hml, hown, hts⟩ (c_X1_has l D cI cO pe ka sa n cc) (cwV 1 hts gX6_hang_X1_has rfl rfl rfl (by decide +kernel) ⟨Nat.le_of_ble_eq_true rfl, Nat.le_of_ble_eq_true rfl⟩) (preVR hPc hK hNw (va_recv hK hPc (ci := 1) (q0 := 0) rfl rfl)) rfl rfl hl.1 rfl (lv_room (Nat.le_of_ble_eq_true rfl)) dX6_hang_27 ⟨Nat.zero_le _, Nat.zero_le _⟩)) (fun r27 w27 => ?_)
      by_cases b27 : ¬ cc < 0 ∧ ¬ nI n ≤ cc
      · -- y27
        obtain rfl := w27.1 b27
        obtain ⟨jc, hjc, ejc⟩ := in_nat b27 (show n < 2 ^ 31 by omega)
        have qjc : isP n cc = true := decide_eq_true b27
        refine lv_if_ne (tgt := 35) hx hb dX6_hang_30 (by decide) (fun _ => ?_) (fun h => absurd h (by decide))
        refine lv_iload_n hx hb dX6_hang_35 rfl (lv_at hl 1 rfl) ?_
        refine lv_iload_n hx hb dX6_hang_36 rfl (lv_at hl 2 rfl) ?_
        refine lv_icmp_eq (tgt := 50) hx hb dX6_hang_37 (by decide) (fun c37 => ?_) (fun c37 => ?_)
        · -- t37
          have hk0 : hgC n sd tn ts a b cc = 0 := by unfold hgC; rw [if_neg (fun h => h.2.2.2.1 c37)]
          refine lv_iconst (v := -1) hx hb dX6_hang_50 (by decide) ?_
          exact W.iret (v := -1) hx hb hr (fun t ht hW => ⟨⟨_, (tn, ts, tl), rfl, by first | (rw [hk2]; exact ⟨rfl, rfl, rfl, rfl⟩) | (rw [hk1]; exact ⟨rfl, rfl, rfl, rfl⟩) | (rw [hk0]; exact ⟨rfl, rfl, rfl, rfl⟩) | (rw [show hgC n sd tn ts a b cc = 0 from by unfold hgC; rw [if_neg (fun h => by first | exact absurd h.2.2.1 (by rw [qjc]; decide) | exact absurd h.2.1 (by rw [qjb]; decide) | exact absurd h.1 (by rw [qja]; decide))]]; exact ⟨rfl, rfl, rfl, rfl⟩), by rw [ht]; exact hP, va_K.moved hW.alike hK, hD⟩, hS.F ht⟩) hS.2.2 dX6_hang_51
        · -- f37
          refine lv_iload_n hx hb dX6_hang_40 rfl (lv_at hl 1 rfl) ?_
          refine lv_iload_n hx hb dX6_hang_41 rfl (lv_at hl 3 rfl) ?_
          refine lv_icmp_eq (tgt := 50) hx hb dX6_hang_42 (by decide) (fun c42 => ?_) (fun c42 => ?_)
          · -- t42
            have hk0 : hgC n sd tn ts a b cc = 0 := by unfold hgC; rw [if_neg (fun h => h.2.2.2.2.1 c42)]
            refine lv_iconst (v := -1) hx hb dX6_hang_50 (by decide) ?_
            exact W.iret (v := -1) hx hb hr (fun t ht hW => ⟨⟨_, (tn, ts, tl), rfl, by first | (rw [hk2]; exact ⟨rfl, rfl, rfl, rfl⟩) | (rw [hk1]; exact ⟨rfl, rfl, rfl, rfl⟩) | (rw [hk0]; exact ⟨rfl, rfl, rfl, rfl⟩) | (rw [show hgC n sd tn ts a b cc = 0 from by unfold hgC; rw [if_neg (fun h => by first | exact absurd h.2.2.1 (by rw [qjc]; decide) | exact absurd h.2.1 (by rw [qjb]; decide) | exact absurd h.1 (by rw [qja]; decide))]]; exact ⟨rfl, rfl, rfl, rfl⟩), by rw [ht]; exact hP, va_K.moved hW.alike hK, hD⟩, hS.F ht⟩) hS.2.2 dX6_hang_51
          · -- f42
            refine lv_iload_n hx hb dX6_hang_45 rfl (lv_at hl 2 rfl) ?_
            refine lv_iload_n hx hb dX6_hang_46 rfl (lv_at hl 3 rfl) ?_
            refine lv_icmp_ne (tgt := 52) hx hb dX6_hang_47 (by decide) (fun c47 => ?_) (fun c47 => ?_)
            · -- t47
              refine lv_iconst (v := 1) hx hb dX6_hang_52 (by decide) ?_
              refine lv_iload_n hx hb dX6_hang_53 rfl (lv_at hl 1 rfl) ?_
              refine lv_ishl hx hb dX6_hang_54 ?_
              refine lv_iconst (v := 1) hx hb dX6_hang_55 (by decide) ?_
              refine lv_iload_n hx hb dX6_hang_56 rfl (lv_at hl 2 rfl) ?_
              refine lv_ishl hx hb dX6_hang_57 ?_
              refine lv_ior hx hb dX6_hang_58 ?_
              refine lv_iconst (v := 1) hx hb dX6_hang_59 (by decide) ?_
              refine lv_iload_n hx hb dX6_hang_60 rfl (lv_at hl 3 rfl) ?_
              refine lv_ishl hx hb dX6_hang_61 ?_
              refine lv_ior hx hb dX6_hang_62 ?_
              refine lv_istore (lv' := [(4, .int (((1 <<< (a &&& 31)) ||| (1 <<< (b &&& 31))) ||| (1 <<< (cc &&& 31)))), (0, .ref h), (1, .int a), (2, .int b), (3, .int cc)]) hx hb dX6_hang_63 hl (by decide) rfl (fun ls hl => ?_)
              refine lv_aload_n hx hb dX6_hang_65 rfl (lv_at hl 1 rfl) ?_
              refine va_get (D := D) (ci := 6) (v := .ref tq) (C := RX6) (T := TX6) (N := 9) hx hb hts iX6 hown hK hP 0 rfl rfl 2 (by decide) f28 (fun _ h9 => h9) rfl dX6_hang_66 ?_
              have hPc := hP.sub (ws' := [(tq, .inr (5, [.ref xa, .ref la, .int (nI tn)])), (xa, .inl (cI, 3, .inl ts))]) [4, 5] rfl
              refine vp_callSi (va_Run.run (va_runV (As := []) (rest := []) ⟨hx, hb, hml, hown, hts⟩ (c_X5_allHung l D cI cO tq xa la tn ts (by assumption)) (cwV 0 hts gX6_hang_X5_allHung rfl rfl rfl (by decide +kernel) ⟨Nat.le_of_ble_eq_true rfl, Nat.le_of_ble_eq_true rfl⟩) (preVR hPc hK hNw (va_recv hK hPc (ci := 5) (q0 := 0) rfl rfl)) rfl rfl hl.1 rfl (lv_room (Nat.le_of_ble_eq_true rfl)) dX6_hang_69 ⟨Nat.zero_le _, Nat.zero_le _⟩)) (fun r69 w69 => ?_)
              obtain rfl := w69
              refine lv_iload hx hb dX6_hang_72 (lv_at hl 0 rfl) ?_
              refine lv_iand hx hb dX6_hang_74 ?_
              refine lv_if_ne (tgt := 90) hx hb dX6_hang_75 (by decide) (fun c75 => ?_) (fun c75 => ?_)
              · -- t75
                have hk1 : hgC n sd tn ts a b cc = 1 := by unfold hgC; rw [if_pos ⟨qja, qjb, qjc, c37, c42, c47⟩, if_neg (fun h => c75 h.1)]
                refine lv_bipush (v := -3) hx hb dX6_hang_90 (by decide) ?_
                exact W.iret (v := -3) hx hb hr (fun t ht hW => ⟨⟨_, (tn, ts, tl), rfl, by first | (rw [hk2]; exact ⟨rfl, rfl, rfl, rfl⟩) | (rw [hk1]; exact ⟨rfl, rfl, rfl, rfl⟩) | (rw [hk0]; exact ⟨rfl, rfl, rfl, rfl⟩) | (rw [show hgC n sd tn ts a b cc = 0 from by unfold hgC; rw [if_neg (fun h => by first | exact absurd h.2.2.1 (by rw [qjc]; decide) | exact absurd h.2.1 (by rw [qjb]; decide) | exact absurd h.1 (by rw [qja]; decide))]]; exact ⟨rfl, rfl, rfl, rfl⟩), by rw [ht]; exact hP, va_K.moved hW.alike hK, hD⟩, hS.F ht⟩) hS.2.2 dX6_hang_92
              · -- f75
                refine lv_aload_n hx hb dX6_hang_78 rfl (lv_at hl 1 rfl) ?_
                refine va_get (D := D) (ci := 6) (v := .ref pe) (C := RX6) (T := TX6) (N := 9) hx hb hts iX6 hown hK hP 0 rfl rfl 1 (by decide) f21 (fun _ h9 => h9) rfl dX6_hang_79 ?_
                refine lv_iload hx hb dX6_hang_82 (lv_at hl 0 rfl) ?_
                have hPc := hP.sub (ws' := [(pe, .inr (1, [.ref ka, .ref sa, .int (nI n)])), (sa, .inl (cI, 9, .inl sd))]) [1, 3] rfl
                refine vp_callSi (va_Run.run (va_runV (As := [.int (((1 <<< (a &&& 31)) ||| (1 <<< (b &&& 31))) ||| (1 <<< (cc &&& 31)))]) (rest := []) ⟨hx, hb, hml, hown, hts⟩ (c_X1_canHang l D cI cO pe ka sa n sd (((1 <<< (a &&& 31)) ||| (1 <<< (b &&& 31))) ||| (1 <<< (cc &&& 31))) (by assumption) (by assumption)) (cwV 1 hts gX6_hang_X1_canHang rfl rfl rfl (by decide +kernel) ⟨Nat.le_of_ble_eq_true rfl, Nat.le_of_ble_eq_true rfl⟩) (preVR hPc hK hNw (va_recv hK hPc (ci := 1) (q0 := 0) rfl rfl)) rfl rfl hl.1 rfl (lv_room (Nat.le_of_ble_eq_true rfl)) dX6_hang_84 ⟨Nat.zero_le _, Nat.zero_le _⟩)) (fun r84 w84 => ?_)
                by_cases b84 : canH n sd (((1 <<< (a &&& 31)) ||| (1 <<< (b &&& 31))) ||| (1 <<< (cc &&& 31))) = true
                · -- y84
                  obtain rfl := w84.1 b84
                  have hk2 : hgC n sd tn ts a b cc = 2 := by unfold hgC; rw [if_pos ⟨qja, qjb, qjc, c37, c42, c47⟩, if_pos ⟨c75, b84⟩]
                  have hj3 := ht3 hk2
                  refine lv_if_ne (tgt := 93) hx hb dX6_hang_87 (by decide) (fun _ => ?_) (fun h => absurd h (by decide))
                  refine lv_aload_n hx hb dX6_hang_93 rfl (lv_at hl 1 rfl) ?_
                  refine va_get (D := D) (ci := 6) (v := .ref tq) (C := RX6) (T := TX6) (N := 9) hx hb hts iX6 hown hK hP 0 rfl rfl 2 (by decide) f28 (fun _ h9 => h9) rfl dX6_hang_94 ?_
                  refine lv_iload hx hb dX6_hang_97 (lv_at hl 0 rfl) ?_
                  have hPc := hP.sub (ws' := [(tq, .inr (5, [.ref xa, .ref la, .int (nI tn)])), (xa, .inl (cI, 3, .inl ts)), (la, .inl (cI, 3, .inl tl))]) [4, 5, 6] rfl
                  have hDc := hD.sub (ws' := [(tq, .inr (5, [.ref xa, .ref la, .int (nI tn)])), (xa, .inl (cI, 3, .inl ts)), (la, .inl (cI, 3, .inl tl))]) [4, 5, 6] (by decide) rfl
                  have hFc := va_free (wc := [(tq, .inr (5, [.ref xa, .ref la, .int (nI tn)])), (xa, .inl (cI, 3, .inl ts)), (la, .inl (cI, 3, .inl tl))]) hD hS hA [4, 5, 6] rfl
                  refine va_calli (va_runV (As := [.int (((1 <<< (a &&& 31)) ||| (1 <<< (b &&& 31))) ||| (1 <<< (cc &&& 31)))]) (rest := []) ⟨hx, hb, hml, hown, hts⟩ (c_X5_add l D cI cO tq xa la tn ts tl (((1 <<< (a &&& 31)) ||| (1 <<< (b &&& 31))) ||| (1 <<< (cc &&& 31))) _ (hj3)) (cwV 1 hts gX6_hang_X5_add rfl rfl rfl (by decide +kernel) ⟨Nat.le_of_ble_eq_true rfl, Nat.le_of_ble_eq_true rfl⟩) (preVW hPc hK hNw hDc (va_recv hK hPc (ci := 5) (q0 := 0) rfl rfl)) rfl rfl hl.1 rfl (lv_room (Nat.le_of_ble_eq_true rfl)) dX6_hang_99 ⟨Nat.zero_le _, Nat.zero_le _⟩) hS (fun q _ h => hFc q h) hFc (fun r99 u t H1 locs ht hvm w99 hB hz1 hk1 hS => ?_)
                  obtain ⟨ts1_99, tl1_99⟩ := u
                  obtain ⟨hP1, hK1, hD1⟩ := hB
                  rw [ht] at hP1
                  try dsimp only at w99
                  obtain ⟨hP, hD⟩ := va_join (wr := [(h, .inr (6, [.ref aS, .ref pe, .ref tq, .ref se, .ref mo, .ref re, .int bar, .int tr, .int fa])), (pe, .inr (1, [.ref ka, .ref sa, .int (nI n)])), (ka, .inl (cI, 9, .inl kd)), (sa, .inl (cI, 9, .inl sd))]) (w1 := [(tq, .inr (5, [.ref xa, .ref la, .int (nI (tn + 1))])), (xa, .inl (cI, 3, .inl ts1_99)), (la, .inl (cI, 3, .inl tl1_99))]) hP hD [4, 5, 6] [0, 1, 2, 3] rfl rfl (by decide) (by decide) hk1 hFc hP1 hD1
                  generalize H1 = H at hP hS ⊢
                  have hP := hP.sub (ws' := [(h, .inr (6, [.ref aS, .ref pe, .ref tq, .ref se, .ref mo, .ref re, .int bar, .int tr, .int fa])), (pe, .inr (1, [.ref ka, .ref sa, .int (nI n)])), (ka, .inl (cI, 9, .inl kd)), (sa, .inl (cI, 9, .inl sd)), (tq, .inr (5, [.ref xa, .ref la, .int (nI (tn + 1))])), (xa, .inl (cI, 3, .inl ts1_99)), (la, .inl (cI, 3, .inl tl1_99))]) [0, 1, 2, 3, 4, 5, 6] rfl
                  have hD := hD.sub (ws' := [(h, .inr (6, [.ref aS, .ref pe, .ref tq, .ref se, .ref mo, .ref re, .int bar, .int tr, .int fa])), (pe, .inr (1, [.ref ka, .ref sa, .int (nI n)])), (ka, .inl (cI, 9, .inl kd)), (sa, .inl (cI, 9, .inl sd)), (tq, .inr (5, [.ref xa, .ref la, .int (nI (tn + 1))])), (xa, .inl (cI, 3, .inl ts1_99)), (la, .inl (cI, 3, .inl tl1_99))]) [0, 1, 2, 3, 4, 5, 6] (by decide) rfl
                  obtain ⟨rfl, rfl, rfl⟩ := w99
                  exact W.iret (v := nI tn) hx hb hr (fun t ht hW => ⟨⟨_, ((tn + 1), (upd ts tn (((1 <<< (a &&& 31)) ||| (1 <<< (b &&& 31))) ||| (1 <<< (cc &&& 31)))), (upd tl tn 0)), rfl, by first | (rw [hk2]; exact ⟨rfl, rfl, rfl, rfl⟩) | (rw [hk1]; exact ⟨rfl, rfl, rfl, rfl⟩) | (rw [hk0]; exact ⟨rfl, rfl, rfl, rfl⟩) | (rw [show hgC n sd tn ts a b cc = 0 from by unfold hgC; rw [if_neg (fun h => by first | exact absurd h.2.2.1 (by rw [qjc]; decide) | exact absurd h.2.1 (by rw [qjb]; decide) | exact absurd h.1 (by rw [qja]; decide))]]; exact ⟨rfl, rfl, rfl, rfl⟩), by rw [ht]; exact hP, va_K.moved hW.alike hK, hD⟩, hS.F ht⟩) hS.2.2 dX6_hang_102
                · -- n84
                  obtain rfl := w84.2 b84
                  have hk1 : hgC n sd tn ts a b cc = 1 := by unfold hgC; rw [if_pos ⟨qja, qjb, qjc, c37, c42, c47⟩, if_neg (fun h => b84 h.2)]
                  refine lv_if_ne (tgt := 93) hx hb dX6_hang_87 (by decide) (fun h => absurd (by decide) h) (fun _ => ?_)
                  refine lv_bipush (v := -3) hx hb dX6_hang_90 (by decide) ?_
                  exact W.iret (v := -3) hx hb hr (fun t ht hW => ⟨⟨_, (tn, ts, tl), rfl, by first | (rw [hk2]; exact ⟨rfl, rfl, rfl, rfl⟩) | (rw [hk1]; exact ⟨rfl, rfl, rfl, rfl⟩) | (rw [hk0]; exact ⟨rfl, rfl, rfl, rfl⟩) | (rw [show hgC n sd tn ts a b cc = 0 from by unfold hgC; rw [if_neg (fun h => by first | exact absurd h.2.2.1 (by rw [qjc]; decide) | exact absurd h.2.1 (by rw [qjb]; decide) | exact absurd h.1 (by rw [qja]; decide))]]; exact ⟨rfl, rfl, rfl, rfl⟩), by rw [ht]; exact hP, va_K.moved hW.alike hK, hD⟩, hS.F ht⟩) hS.2.2 dX6_hang_92
            · -- f47
              have hk0 : hgC n sd tn ts a b cc = 0 := by unfold hgC; rw [if_neg (fun h => h.2.2.2.2.2 c47)]
              refine lv_iconst (v := -1) hx hb dX6_hang_50 (by decide) ?_
              exact W.iret (v := -1) hx hb hr (fun t ht hW => ⟨⟨_, (tn, ts, tl), rfl, by first | (rw [hk2]; exact ⟨rfl, rfl, rfl, rfl⟩) | (rw [hk1]; exact ⟨rfl, rfl, rfl, rfl⟩) | (rw [hk0]; exact ⟨rfl, rfl, rfl, rfl⟩) | (rw [show hgC n sd tn ts a b cc = 0 from by unfold hgC; rw [if_neg (fun h => by first | exact absurd h.2.2.1 (by rw [qjc]; decide) | exact absurd h.2.1 (by rw [qjb]; decide) | exact absurd h.1 (by rw [qja]; decide))]]; exact ⟨rfl, rfl, rfl, rfl⟩), by rw [ht]; exact hP, va_K.moved hW.alike hK, hD⟩, hS.F ht⟩) hS.2.2 dX6_hang_51
      · -- n27
        obtain rfl := w27.2 b27
        have qjc : isP n cc = false := decide_eq_false b27
        refine lv_if_ne (tgt := 35) hx hb dX6_hang_30 (by decide) (fun h => absurd (by decide) h) (fun _ => ?_)
        refine lv_iconst (v := -1) hx hb dX6_hang_33 (by decide) ?_
        exact W.iret (v := -1) hx hb hr (fun t ht hW => ⟨⟨_, (tn, ts, tl), rfl, by first | (rw [hk2]; exact ⟨rfl, rfl, rfl, rfl⟩) | (rw [hk1]; exact ⟨rfl, rfl, rfl, rfl⟩) | (rw [hk0]; exact ⟨rfl, rfl, rfl, rfl⟩) | (rw [show hgC n sd tn ts a b cc = 0 from by unfold hgC; rw [if_neg (fun h => by first | exact absurd h.2.2.1 (by rw [qjc]; decide) | exact absurd h.2.1 (by rw [qjb]; decide) | exact absurd h.1 (by rw [qja]; decide))]]; exact ⟨rfl, rfl, rfl, rfl⟩), by rw [ht]; exact hP, va_K.moved hW.alike hK, hD⟩, hS.F ht⟩) hS.2.2 dX6_hang_34
    · -- n16
      obtain rfl := w16.2 b16
      have qjb : isP n b = false := decide_eq_false b16
      refine lv_if_eq (tgt := 33) hx hb dX6_hang_19 (by decide) (fun _ => ?_) (fun h => absurd (by decide) h)
      refine lv_iconst (v := -1) hx hb dX6_hang_33 (by decide) ?_
      exact W.iret (v := -1) hx hb hr (fun t ht hW => ⟨⟨_, (tn, ts, tl), rfl, by first | (rw [hk2]; exact ⟨rfl, rfl, rfl, rfl⟩) | (rw [hk1]; exact ⟨rfl, rfl, rfl, rfl⟩) | (rw [hk0]; exact ⟨rfl, rfl, rfl, rfl⟩) | (rw [show hgC n sd tn ts a b cc = 0 from by unfold hgC; rw [if_neg (fun h => by first | exact absurd h.2.2.1 (by rw [qjc]; decide) | exact absurd h.2.1 (by rw [qjb]; decide) | exact absurd h.1 (by rw [qja]; decide))]]; exact ⟨rfl, rfl, rfl, rfl⟩), by rw [ht]; exact hP, va_K.moved hW.alike hK, hD⟩, hS.F ht⟩) hS.2.2 dX6_hang_34
  · -- n5
    obtain rfl := w5.2 b5
    have qja : isP n a = false := decide_eq_false b5
    refine lv_if_eq (tgt := 33) hx hb dX6_hang_8 (by decide) (fun _ => ?_) (fun h => absurd (by decide) h)
    refine lv_iconst (v := -1) hx hb dX6_hang_33 (by decide) ?_
    exact W.iret (v := -1) hx hb hr (fun t ht hW => ⟨⟨_, (tn, ts, tl), rfl, by first | (rw [hk2]; exact ⟨rfl, rfl, rfl, rfl⟩) | (rw [hk1]; exact ⟨rfl, rfl, rfl, rfl⟩) | (rw [hk0]; exact ⟨rfl, rfl, rfl, rfl⟩) | (rw [show hgC n sd tn ts a b cc = 0 from by unfold hgC; rw [if_neg (fun h => by first | exact absurd h.2.2.1 (by rw [qjc]; decide) | exact absurd h.2.1 (by rw [qjb]; decide) | exact absurd h.1 (by rw [qja]; decide))]]; exact ⟨rfl, rfl, rfl, rfl⟩), by rw [ht]; exact hP, va_K.moved hW.alike hK, hD⟩, hS.F ht⟩) hS.2.2 dX6_hang_34

set_option maxHeartbeats 4000000 in
set_option maxRecDepth 100000 in
theorem c_X6_ofThree (l : Launch) (D : va_G) (cI cO : ClassId) (h : Nat) (aS : Nat) (pe : Nat) (tq : Nat) (se : Nat) (mo : Nat) (re : Nat) (bar : Int32) (tr : Int32) (fa : Int32) (ka : Nat) (sa : Nat) (n : Nat) (kd : Nat → Int32) (sd : Nat → Int32) (xa : Nat) (la : Nat) (tn : Nat) (ts : Nat → Int32) (tl : Nat → Int32) (pp : Int32) (x : Int32) (hn : n ≤ 9) (ht3 : tn ≤ 3) (hs : ∀ j, j < n → 1 ≤ sd j) : Met l yX6_ofThree wsX6_ofThree ({ frames := 3, cells := 0, slots := 0, locals := 65 } : Room) (va_Pc [.ref h, .int pp, .int x] (wdR D cI cO [(h, .inr (6, [.ref aS, .ref pe, .ref tq, .ref se, .ref mo, .ref re, .int bar, .int tr, .int fa])), (pe, .inr (1, [.ref ka, .ref sa, .int (nI n)])), (ka, .inl (cI, 9, .inl kd)), (sa, .inl (cI, 9, .inl sd)), (tq, .inr (5, [.ref xa, .ref la, .int (nI tn)])), (xa, .inl (cI, 3, .inl ts)), (la, .inl (cI, 3, .inl tl))])) (vp_Si (fun r => r = (onQ tn pp (fun j => if x = 0 then ts j else if x = 1 then sumW sd (ts j) n else if x = 2 then sumW (rgF kd sd) (ts j) n else if x = 3 then 3 - bcE (lenW sd (ts j) n) else if x = 4 then cornW sd (ts j) n else if x = 5 then tl j else -2) (-1)))) 0 0 (fun _ => False) := by
  refine Met.ofW (cc := cX6_ofThree) (maxL := 4) (ret := (some .int)) (by decide) rfl ?_
  intro p e s m args below meth c s₁ B hml hv
  obtain ⟨rfl, hP, hK, hNw⟩ := hv
  have hx := B.exec
  have hb := B.bytes
  have hr := B.returns
  have hts := atoms_spec (ws := wsX6_ofThree) B.pre
  have hown : s.vm.findClass RX6 = some m.cls := findClass_of_methodNamed B.named
  have hlocks := B.notSynchronized
  have f21 := hts (.fieldLink RX6 21 "StruckThrees" "people" "LStruckThrees$People;") (by decide +kernel)
  have f28 := hts (.fieldLink RX6 28 "StruckThrees" "threes" "LStruckThrees$Threes;") (by decide +kernel)
  have iX6 : ∀ w ∈ wsX60, w ∈ wsX6_ofThree := by decide +kernel
  have hP : va_P D vwCl [(h, .inr (6, [.ref aS, .ref pe, .ref tq, .ref se, .ref mo, .ref re, .int bar, .int tr, .int fa])), (pe, .inr (1, [.ref ka, .ref sa, .int (nI n)])), (ka, .inl (cI, 9, .inl kd)), (sa, .inl (cI, 9, .inl sd)), (tq, .inr (5, [.ref xa, .ref la, .int (nI tn)])), (xa, .inl (cI, 3, .inl ts)), (la, .inl (cI, 3, .inl tl))] s.heap := hP
  have hl := lv_entry ([.ref h, .int pp, .int x]) (n := 4) (Nat.le_of_ble_eq_true rfl)
  rw [lg_entry_eq]
  generalize (lg_sl ([.ref h, .int pp, .int x]) ++ List.replicate (4 - (lg_sl ([.ref h, .int pp, .int x])).length) Slot.unset).toArray = ls at hl ⊢
  have hl : lv_has ls 4 [(0, .ref h), (1, .int pp), (2, .int x)] := hl
  refine lv_aload_n hx hb dX6_ofThree_0 rfl (lv_at hl 0 rfl) ?_
  refine va_get (D := D) (ci := 6) (v := .ref tq) (C := RX6) (T := TX6) (N := 9) hx hb hts iX6 hown hK hP 0 rfl rfl 2 (by decide) f28 (fun _ h9 => h9) rfl dX6_ofThree_1 ?_
  refine lv_iload_n hx hb dX6_ofThree_4 rfl (lv_at hl 1 rfl) ?_
  have hPc := hP.sub (ws' := [(tq, .inr (5, [.ref xa, .ref la, .int (nI tn)]))]) [4] rfl
  refine vp_callSi (va_Run.run (va_runV (As := [.int pp]) (rest := []) ⟨hx, hb, hml, hown, hts⟩ (c_X5_has l D cI cO tq xa la tn pp) (cwV 1 hts gX6_ofThree_X5_has rfl rfl rfl (by decide +kernel) ⟨Nat.le_of_ble_eq_true rfl, Nat.le_of_ble_eq_true rfl⟩) (preVR hPc hK hNw (va_recv hK hPc (ci := 5) (q0 := 0) rfl rfl)) rfl rfl hl.1 rfl (lv_room (Nat.le_of_ble_eq_true rfl)) dX6_ofThree_5 ⟨Nat.zero_le _, Nat.zero_le _⟩)) (fun r5 w5 => ?_)
  by_cases b5 : ¬ pp < 0 ∧ ¬ nI tn ≤ pp
  · -- y5
    obtain rfl := w5.1 b5
    obtain ⟨j, hj, rfl⟩ := in_nat b5 (show tn < 2 ^ 31 by omega)
    refine lv_if_ne (tgt := 13) hx hb dX6_ofThree_8 (by decide) (fun _ => ?_) (fun h => absurd h (by decide))
    refine lv_aload_n hx hb dX6_ofThree_13 rfl (lv_at hl 0 rfl) ?_
    refine va_get (D := D) (ci := 6) (v := .ref tq) (C := RX6) (T := TX6) (N := 9) hx hb hts iX6 hown hK hP 0 rfl rfl 2 (by decide) f28 (fun _ h9 => h9) rfl dX6_ofThree_14 ?_
    refine lv_iload_n hx hb dX6_ofThree_17 rfl (lv_at hl 1 rfl) ?_
    have hPc := hP.sub (ws' := [(tq, .inr (5, [.ref xa, .ref la, .int (nI tn)])), (xa, .inl (cI, 3, .inl ts))]) [4, 5] rfl
    refine vp_callSi (va_Run.run (va_runV (As := [.int (nI j)]) (rest := []) ⟨hx, hb, hml, hown, hts⟩ (c_X5_setOf l D cI cO tq xa la tn ts j (by assumption) (by assumption)) (cwV 1 hts gX6_ofThree_X5_setOf rfl rfl rfl (by decide +kernel) ⟨Nat.le_of_ble_eq_true rfl, Nat.le_of_ble_eq_true rfl⟩) (preVR hPc hK hNw (va_recv hK hPc (ci := 5) (q0 := 0) rfl rfl)) rfl rfl hl.1 rfl (lv_room (Nat.le_of_ble_eq_true rfl)) dX6_ofThree_18 ⟨Nat.zero_le _, Nat.zero_le _⟩)) (fun r18 w18 => ?_)
    obtain rfl := w18
    refine lv_istore_n (lv' := [(3, .int (ts j)), (0, .ref h), (1, .int (nI j)), (2, .int x)]) hx hb dX6_ofThree_21 rfl hl (by decide) rfl (fun ls hl => ?_)
    refine lv_iload_n hx hb dX6_ofThree_22 rfl (lv_at hl 3 rfl) ?_
    by_cases k23_0 : x = 0
    · -- case 0
      refine lv_tableIn (off := 37) (tgt := 60) hx hb dX6_ofThree_23 (by rw [k23_0]; decide) (by rw [k23_0]; decide) (by rw [k23_0]; decide) (by decide) ?_
      refine lv_iload_n hx hb dX6_ofThree_60 rfl (lv_at hl 0 rfl) ?_
      exact W.iret (v := ts j) hx hb hr (fun t ht hW => ⟨_, rfl, by first | (simp [onQ_out b5]; done) | (simp [onQ_in hj (show tn < 2 ^ 31 by omega), *]; done), ht⟩) (fun _ h => absurd h List.not_mem_nil) dX6_ofThree_61
    by_cases k23_1 : x = 1
    · -- case 1
      refine lv_tableIn (off := 39) (tgt := 62) hx hb dX6_ofThree_23 (by rw [k23_1]; decide) (by rw [k23_1]; decide) (by rw [k23_1]; decide) (by decide) ?_
      refine lv_aload_n hx hb dX6_ofThree_62 rfl (lv_at hl 1 rfl) ?_
      refine va_get (D := D) (ci := 6) (v := .ref pe) (C := RX6) (T := TX6) (N := 9) hx hb hts iX6 hown hK hP 0 rfl rfl 1 (by decide) f21 (fun _ h9 => h9) rfl dX6_ofThree_63 ?_
      refine lv_iload_n hx hb dX6_ofThree_66 rfl (lv_at hl 0 rfl) ?_
      have hPc := hP.sub (ws' := [(pe, .inr (1, [.ref ka, .ref sa, .int (nI n)])), (sa, .inl (cI, 9, .inl sd))]) [1, 3] rfl
      refine vp_callSi (va_Run.run (va_runV (As := [.int (ts j)]) (rest := []) ⟨hx, hb, hml, hown, hts⟩ (c_X1_pitchOf l D cI cO pe ka sa n sd (ts j) (by assumption)) (cwV 1 hts gX6_ofThree_X1_pitchOf rfl rfl rfl (by decide +kernel) ⟨Nat.le_of_ble_eq_true rfl, Nat.le_of_ble_eq_true rfl⟩) (preVR hPc hK hNw (va_recv hK hPc (ci := 1) (q0 := 0) rfl rfl)) rfl rfl hl.1 rfl (lv_room (Nat.le_of_ble_eq_true rfl)) dX6_ofThree_67 ⟨Nat.zero_le _, Nat.zero_le _⟩)) (fun r67 w67 => ?_)
      obtain rfl := w67
      exact W.iret (v := sumW sd (ts j) n) hx hb hr (fun t ht hW => ⟨_, rfl, by first | (simp [onQ_out b5]; done) | (simp [onQ_in hj (show tn < 2 ^ 31 by omega), *]; done), ht⟩) (fun _ h => absurd h List.not_mem_nil) dX6_ofThree_70
    by_cases k23_2 : x = 2
    · -- case 2
      refine lv_tableIn (off := 48) (tgt := 71) hx hb dX6_ofThree_23 (by rw [k23_2]; decide) (by rw [k23_2]; decide) (by rw [k23_2]; decide) (by decide) ?_
      refine lv_aload_n hx hb dX6_ofThree_71 rfl (lv_at hl 1 rfl) ?_
      refine va_get (D := D) (ci := 6) (v := .ref pe) (C := RX6) (T := TX6) (N := 9) hx hb hts iX6 hown hK hP 0 rfl rfl 1 (by decide) f21 (fun _ h9 => h9) rfl dX6_ofThree_72 ?_
      refine lv_iload_n hx hb dX6_ofThree_75 rfl (lv_at hl 0 rfl) ?_
      have hPc := hP.sub (ws' := [(pe, .inr (1, [.ref ka, .ref sa, .int (nI n)])), (ka, .inl (cI, 9, .inl kd)), (sa, .inl (cI, 9, .inl sd))]) [1, 2, 3] rfl
      refine vp_callSi (va_Run.run (va_runV (As := [.int (ts j)]) (rest := []) ⟨hx, hb, hml, hown, hts⟩ (c_X1_ringsOf l D cI cO pe ka sa n kd sd (ts j) (by assumption)) (cwV 1 hts gX6_ofThree_X1_ringsOf rfl rfl rfl (by decide +kernel) ⟨Nat.le_of_ble_eq_true rfl, Nat.le_of_ble_eq_true rfl⟩) (preVR hPc hK hNw (va_recv hK hPc (ci := 1) (q0 := 0) rfl rfl)) rfl rfl hl.1 rfl (lv_room (Nat.le_of_ble_eq_true rfl)) dX6_ofThree_76 ⟨Nat.zero_le _, Nat.zero_le _⟩)) (fun r76 w76 => ?_)
      obtain rfl := w76
      exact W.iret (v := sumW (fun p => ringI (kd p) (sd p)) (ts j) n) hx hb hr (fun t ht hW => ⟨_, rfl, by first | (simp [onQ_out b5]; done) | (simp [onQ_in hj (show tn < 2 ^ 31 by omega), *]; done), ht⟩) (fun _ h => absurd h List.not_mem_nil) dX6_ofThree_79
    by_cases k23_3 : x = 3
    · -- case 3
      refine lv_tableIn (off := 57) (tgt := 80) hx hb dX6_ofThree_23 (by rw [k23_3]; decide) (by rw [k23_3]; decide) (by rw [k23_3]; decide) (by decide) ?_
      refine lv_aload_n hx hb dX6_ofThree_80 rfl (lv_at hl 1 rfl) ?_
      refine va_get (D := D) (ci := 6) (v := .ref pe) (C := RX6) (T := TX6) (N := 9) hx hb hts iX6 hown hK hP 0 rfl rfl 1 (by decide) f21 (fun _ h9 => h9) rfl dX6_ofThree_81 ?_
      refine lv_iload_n hx hb dX6_ofThree_84 rfl (lv_at hl 0 rfl) ?_
      have hPc := hP.sub (ws' := [(pe, .inr (1, [.ref ka, .ref sa, .int (nI n)])), (sa, .inl (cI, 9, .inl sd))]) [1, 3] rfl
      refine vp_callSi (va_Run.run (va_runV (As := [.int (ts j)]) (rest := []) ⟨hx, hb, hml, hown, hts⟩ (c_X1_shapeOf l D cI cO pe ka sa n sd (ts j) (by assumption)) (cwV 1 hts gX6_ofThree_X1_shapeOf rfl rfl rfl (by decide +kernel) ⟨Nat.le_of_ble_eq_true rfl, Nat.le_of_ble_eq_true rfl⟩) (preVR hPc hK hNw (va_recv hK hPc (ci := 1) (q0 := 0) rfl rfl)) rfl rfl hl.1 rfl (lv_room (Nat.le_of_ble_eq_true rfl)) dX6_ofThree_85 ⟨Nat.zero_le _, Nat.zero_le _⟩)) (fun r85 w85 => ?_)
      obtain rfl := w85
      exact W.iret (v := 3 - bcE (lenW sd (ts j) n)) hx hb hr (fun t ht hW => ⟨_, rfl, by first | (simp [onQ_out b5]; done) | (simp [onQ_in hj (show tn < 2 ^ 31 by omega), *]; done), ht⟩) (fun _ h => absurd h List.not_mem_nil) dX6_ofThree_88
    by_cases k23_4 : x = 4
    · -- case 4
      refine lv_tableIn (off := 66) (tgt := 89) hx hb dX6_ofThree_23 (by rw [k23_4]; decide) (by rw [k23_4]; decide) (by rw [k23_4]; decide) (by decide) ?_
      refine lv_aload_n hx hb dX6_ofThree_89 rfl (lv_at hl 1 rfl) ?_
      refine va_get (D := D) (ci := 6) (v := .ref pe) (C := RX6) (T := TX6) (N := 9) hx hb hts iX6 hown hK hP 0 rfl rfl 1 (by decide) f21 (fun _ h9 => h9) rfl dX6_ofThree_90 ?_
      refine lv_iload_n hx hb dX6_ofThree_93 rfl (lv_at hl 0 rfl) ?_
      have hPc := hP.sub (ws' := [(pe, .inr (1, [.ref ka, .ref sa, .int (nI n)])), (sa, .inl (cI, 9, .inl sd))]) [1, 3] rfl
      refine vp_callSi (va_Run.run (va_runV (As := [.int (ts j)]) (rest := []) ⟨hx, hb, hml, hown, hts⟩ (c_X1_cornerOf l D cI cO pe ka sa n sd (ts j) (by assumption) (by assumption)) (cwV 1 hts gX6_ofThree_X1_cornerOf rfl rfl rfl (by decide +kernel) ⟨Nat.le_of_ble_eq_true rfl, Nat.le_of_ble_eq_true rfl⟩) (preVR hPc hK hNw (va_recv hK hPc (ci := 1) (q0 := 0) rfl rfl)) rfl rfl hl.1 rfl (lv_room (Nat.le_of_ble_eq_true rfl)) dX6_ofThree_94 ⟨Nat.zero_le _, Nat.zero_le _⟩)) (fun r94 w94 => ?_)
      obtain rfl := w94
      exact W.iret (v := cornW sd (ts j) n) hx hb hr (fun t ht hW => ⟨_, rfl, by first | (simp [onQ_out b5]; done) | (simp [onQ_in hj (show tn < 2 ^ 31 by omega), *]; done), ht⟩) (fun _ h => absurd h List.not_mem_nil) dX6_ofThree_97
    by_cases k23_5 : x = 5
    · -- case 5
      refine lv_tableIn (off := 75) (tgt := 98) hx hb dX6_ofThree_23 (by rw [k23_5]; decide) (by rw [k23_5]; decide) (by rw [k23_5]; decide) (by decide) ?_
      refine lv_aload_n hx hb dX6_ofThree_98 rfl (lv_at hl 1 rfl) ?_
      refine va_get (D := D) (ci := 6) (v := .ref tq) (C := RX6) (T := TX6) (N := 9) hx hb hts iX6 hown hK hP 0 rfl rfl 2 (by decide) f28 (fun _ h9 => h9) rfl dX6_ofThree_99 ?_
      refine lv_iload_n hx hb dX6_ofThree_102 rfl (lv_at hl 2 rfl) ?_
      have hPc := hP.sub (ws' := [(tq, .inr (5, [.ref xa, .ref la, .int (nI tn)])), (la, .inl (cI, 3, .inl tl))]) [4, 6] rfl
      refine vp_callSi (va_Run.run (va_runV (As := [.int (nI j)]) (rest := []) ⟨hx, hb, hml, hown, hts⟩ (c_X5_leftOf l D cI cO tq xa la tn tl j (by assumption) (by assumption)) (cwV 1 hts gX6_ofThree_X5_leftOf rfl rfl rfl (by decide +kernel) ⟨Nat.le_of_ble_eq_true rfl, Nat.le_of_ble_eq_true rfl⟩) (preVR hPc hK hNw (va_recv hK hPc (ci := 5) (q0 := 0) rfl rfl)) rfl rfl hl.1 rfl (lv_room (Nat.le_of_ble_eq_true rfl)) dX6_ofThree_103 ⟨Nat.zero_le _, Nat.zero_le _⟩)) (fun r103 w103 => ?_)
      obtain rfl := w103
      exact W.iret (v := tl j) hx hb hr (fun t ht hW => ⟨_, rfl, by first | (simp [onQ_out b5]; done) | (simp [onQ_in hj (show tn < 2 ^ 31 by omega), *]; done), ht⟩) (fun _ h => absurd h List.not_mem_nil) dX6_ofThree_106
    have t23_0 := lv_neT (k := 0) (a := 0) k23_0 (by decide)
    have t23_1 := lv_neT (k := 1) (a := 1) k23_1 (by decide)
    have t23_2 := lv_neT (k := 2) (a := 2) k23_2 (by decide)
    have t23_3 := lv_neT (k := 3) (a := 3) k23_3 (by decide)
    have t23_4 := lv_neT (k := 4) (a := 4) k23_4 (by decide)
    have t23_5 := lv_neT (k := 5) (a := 5) k23_5 (by decide)
    refine lv_tableOut (tgt := 107) hx hb dX6_ofThree_23 (by omega) (by decide) ?_
    refine lv_bipush (v := -2) hx hb dX6_ofThree_107 (by decide) ?_
    exact W.iret (v := -2) hx hb hr (fun t ht hW => ⟨_, rfl, by first | (simp [onQ_out b5]; done) | (simp [onQ_in hj (show tn < 2 ^ 31 by omega), *]; done), ht⟩) (fun _ h => absurd h List.not_mem_nil) dX6_ofThree_109
  · -- n5
    obtain rfl := w5.2 b5
    refine lv_if_ne (tgt := 13) hx hb dX6_ofThree_8 (by decide) (fun h => absurd (by decide) h) (fun _ => ?_)
    refine lv_iconst (v := -1) hx hb dX6_ofThree_11 (by decide) ?_
    exact W.iret (v := -1) hx hb hr (fun t ht hW => ⟨_, rfl, by first | (simp [onQ_out b5]; done) | (simp [onQ_in hj (show tn < 2 ^ 31 by omega), *]; done), ht⟩) (fun _ h => absurd h List.not_mem_nil) dX6_ofThree_12

set_option maxHeartbeats 4000000 in
set_option maxRecDepth 100000 in
theorem c_X6_strike (l : Launch) (D : va_G) (cI cO : ClassId) (h : Nat) (aS : Nat) (pe : Nat) (tq : Nat) (se : Nat) (mo : Nat) (re : Nat) (bar : Int32) (tr : Int32) (fa : Int32) (ka : Nat) (sa : Nat) (n : Nat) (kd : Nat → Int32) (sd : Nat → Int32) (xa : Nat) (la : Nat) (tn : Nat) (ts : Nat → Int32) (tl : Nat → Int32) (pp : Int32) (sz : Nat) (hn : n ≤ 9) (ht3 : tn ≤ 3) : Met l yX6_strike wsX6_strike ({ frames := 3, cells := 0, slots := 0, locals := 65 } : Room) (va_Pc [.ref h, .int pp] (wdW D cI cO [(h, .inr (6, [.ref aS, .ref pe, .ref tq, .ref se, .ref mo, .ref re, .int bar, .int tr, .int fa])), (pe, .inr (1, [.ref ka, .ref sa, .int (nI n)])), (ka, .inl (cI, 9, .inl kd)), (sa, .inl (cI, 9, .inl sd)), (tq, .inr (5, [.ref xa, .ref la, .int (nI tn)])), (xa, .inl (cI, 3, .inl ts)), (la, .inl (cI, 3, .inl tl))] sz)) (va_Qi (S := (Nat → Int32)) (fun r u => r = (onQ tn pp (fun j => if tl j ≤ 0 then sumW (rgF kd sd) (ts j) n else -3) (-1)) ∧ u = (onQ tn pp (fun j => if tl j ≤ 0 then upd tl j (sumW (rgF kd sd) (ts j) n) else tl) tl)) (fun u t => va_P D vwCl [(h, .inr (6, [.ref aS, .ref pe, .ref tq, .ref se, .ref mo, .ref re, .int bar, .int tr, .int fa])), (pe, .inr (1, [.ref ka, .ref sa, .int (nI n)])), (ka, .inl (cI, 9, .inl kd)), (sa, .inl (cI, 9, .inl sd)), (tq, .inr (5, [.ref xa, .ref la, .int (nI tn)])), (xa, .inl (cI, 3, .inl ts)), (la, .inl (cI, 3, .inl u))] t.heap ∧ va_K D vwCl (tyL cI cO) t ∧ va_D (va_A [(h, .inr (6, [.ref aS, .ref pe, .ref tq, .ref se, .ref mo, .ref re, .int bar, .int tr, .int fa])), (pe, .inr (1, [.ref ka, .ref sa, .int (nI n)])), (ka, .inl (cI, 9, .inl kd)), (sa, .inl (cI, 9, .inl sd)), (tq, .inr (5, [.ref xa, .ref la, .int (nI tn)])), (xa, .inl (cI, 3, .inl ts)), (la, .inl (cI, 3, .inl tl))] sz) [(h, .inr (6, [.ref aS, .ref pe, .ref tq, .ref se, .ref mo, .ref re, .int bar, .int tr, .int fa])), (pe, .inr (1, [.ref ka, .ref sa, .int (nI n)])), (ka, .inl (cI, 9, .inl kd)), (sa, .inl (cI, 9, .inl sd)), (tq, .inr (5, [.ref xa, .ref la, .int (nI tn)])), (xa, .inl (cI, 3, .inl ts)), (la, .inl (cI, 3, .inl u))]) (va_A [(h, .inr (6, [.ref aS, .ref pe, .ref tq, .ref se, .ref mo, .ref re, .int bar, .int tr, .int fa])), (pe, .inr (1, [.ref ka, .ref sa, .int (nI n)])), (ka, .inl (cI, 9, .inl kd)), (sa, .inl (cI, 9, .inl sd)), (tq, .inr (5, [.ref xa, .ref la, .int (nI tn)])), (xa, .inl (cI, 3, .inl ts)), (la, .inl (cI, 3, .inl tl))] sz)) 0 0 (va_A [(h, .inr (6, [.ref aS, .ref pe, .ref tq, .ref se, .ref mo, .ref re, .int bar, .int tr, .int fa])), (pe, .inr (1, [.ref ka, .ref sa, .int (nI n)])), (ka, .inl (cI, 9, .inl kd)), (sa, .inl (cI, 9, .inl sd)), (tq, .inr (5, [.ref xa, .ref la, .int (nI tn)])), (xa, .inl (cI, 3, .inl ts)), (la, .inl (cI, 3, .inl tl))] sz) := by
  refine Met.ofW (cc := cX6_strike) (maxL := 3) (ret := (some .int)) (by decide) rfl ?_
  intro p e s m args below meth c s₁ B hml hv
  obtain ⟨rfl, hsz, hP, hK, hNw, hD0⟩ := hv
  have hx := B.exec
  have hb := B.bytes
  have hr := B.returns
  have hts := atoms_spec (ws := wsX6_strike) B.pre
  have hown : s.vm.findClass RX6 = some m.cls := findClass_of_methodNamed B.named
  have hlocks := B.notSynchronized
  have f21 := hts (.fieldLink RX6 21 "StruckThrees" "people" "LStruckThrees$People;") (by decide +kernel)
  have f28 := hts (.fieldLink RX6 28 "StruckThrees" "threes" "LStruckThrees$Threes;") (by decide +kernel)
  have iX6 : ∀ w ∈ wsX60, w ∈ wsX6_strike := by decide +kernel
  subst hsz
  have hD := hD0.self (sz := s.heap.size)
  generalize hAe : va_A [(h, .inr (6, [.ref aS, .ref pe, .ref tq, .ref se, .ref mo, .ref re, .int bar, .int tr, .int fa])), (pe, .inr (1, [.ref ka, .ref sa, .int (nI n)])), (ka, .inl (cI, 9, .inl kd)), (sa, .inl (cI, 9, .inl sd)), (tq, .inr (5, [.ref xa, .ref la, .int (nI tn)])), (xa, .inl (cI, 3, .inl ts)), (la, .inl (cI, 3, .inl tl))] s.heap.size = A at hD ⊢
  have hA : ∀ q : Nat, s.heap.size ≤ q → A q := fun q h => by rw [← hAe]; exact Or.inr h
  have hS : va_S A s.heap s.heap [] := va_S.rf
  have hP : va_P D vwCl [(h, .inr (6, [.ref aS, .ref pe, .ref tq, .ref se, .ref mo, .ref re, .int bar, .int tr, .int fa])), (pe, .inr (1, [.ref ka, .ref sa, .int (nI n)])), (ka, .inl (cI, 9, .inl kd)), (sa, .inl (cI, 9, .inl sd)), (tq, .inr (5, [.ref xa, .ref la, .int (nI tn)])), (xa, .inl (cI, 3, .inl ts)), (la, .inl (cI, 3, .inl tl))] s.heap := hP
  have hl := lv_entry ([.ref h, .int pp]) (n := 3) (Nat.le_of_ble_eq_true rfl)
  rw [lg_entry_eq]
  generalize (lg_sl ([.ref h, .int pp]) ++ List.replicate (3 - (lg_sl ([.ref h, .int pp])).length) Slot.unset).toArray = ls at hl ⊢
  have hl : lv_has ls 3 [(0, .ref h), (1, .int pp)] := hl
  refine lv_aload_n hx hb dX6_strike_0 rfl (lv_at hl 0 rfl) ?_
  refine va_get (D := D) (ci := 6) (v := .ref tq) (C := RX6) (T := TX6) (N := 9) hx hb hts iX6 hown hK hP 0 rfl rfl 2 (by decide) f28 (fun _ h9 => h9) rfl dX6_strike_1 ?_
  refine lv_iload_n hx hb dX6_strike_4 rfl (lv_at hl 1 rfl) ?_
  have hPc := hP.sub (ws' := [(tq, .inr (5, [.ref xa, .ref la, .int (nI tn)]))]) [4] rfl
  refine vp_callSi (va_Run.run (va_runV (As := [.int pp]) (rest := []) ⟨hx, hb, hml, hown, hts⟩ (c_X5_has l D cI cO tq xa la tn pp) (cwV 1 hts gX6_strike_X5_has rfl rfl rfl (by decide +kernel) ⟨Nat.le_of_ble_eq_true rfl, Nat.le_of_ble_eq_true rfl⟩) (preVR hPc hK hNw (va_recv hK hPc (ci := 5) (q0 := 0) rfl rfl)) rfl rfl hl.1 rfl (lv_room (Nat.le_of_ble_eq_true rfl)) dX6_strike_5 ⟨Nat.zero_le _, Nat.zero_le _⟩)) (fun r5 w5 => ?_)
  by_cases b5 : ¬ pp < 0 ∧ ¬ nI tn ≤ pp
  · -- y5
    obtain rfl := w5.1 b5
    obtain ⟨j, hj, rfl⟩ := in_nat b5 (show tn < 2 ^ 31 by omega)
    refine lv_if_ne (tgt := 13) hx hb dX6_strike_8 (by decide) (fun _ => ?_) (fun h => absurd h (by decide))
    refine lv_aload_n hx hb dX6_strike_13 rfl (lv_at hl 0 rfl) ?_
    refine va_get (D := D) (ci := 6) (v := .ref tq) (C := RX6) (T := TX6) (N := 9) hx hb hts iX6 hown hK hP 0 rfl rfl 2 (by decide) f28 (fun _ h9 => h9) rfl dX6_strike_14 ?_
    refine lv_iload_n hx hb dX6_strike_17 rfl (lv_at hl 1 rfl) ?_
    have hPc := hP.sub (ws' := [(tq, .inr (5, [.ref xa, .ref la, .int (nI tn)])), (la, .inl (cI, 3, .inl tl))]) [4, 6] rfl
    refine vp_callSi (va_Run.run (va_runV (As := [.int (nI j)]) (rest := []) ⟨hx, hb, hml, hown, hts⟩ (c_X5_leftOf l D cI cO tq xa la tn tl j (by assumption) (by assumption)) (cwV 1 hts gX6_strike_X5_leftOf rfl rfl rfl (by decide +kernel) ⟨Nat.le_of_ble_eq_true rfl, Nat.le_of_ble_eq_true rfl⟩) (preVR hPc hK hNw (va_recv hK hPc (ci := 5) (q0 := 0) rfl rfl)) rfl rfl hl.1 rfl (lv_room (Nat.le_of_ble_eq_true rfl)) dX6_strike_18 ⟨Nat.zero_le _, Nat.zero_le _⟩)) (fun r18 w18 => ?_)
    obtain rfl := w18
    refine lv_if_le (tgt := 27) hx hb dX6_strike_21 (by decide) (fun c21 => ?_) (fun c21 => ?_)
    · -- t21
      refine lv_aload_n hx hb dX6_strike_27 rfl (lv_at hl 0 rfl) ?_
      refine va_get (D := D) (ci := 6) (v := .ref pe) (C := RX6) (T := TX6) (N := 9) hx hb hts iX6 hown hK hP 0 rfl rfl 1 (by decide) f21 (fun _ h9 => h9) rfl dX6_strike_28 ?_
      refine lv_aload_n hx hb dX6_strike_31 rfl (lv_at hl 0 rfl) ?_
      refine va_get (D := D) (ci := 6) (v := .ref tq) (C := RX6) (T := TX6) (N := 9) hx hb hts iX6 hown hK hP 0 rfl rfl 2 (by decide) f28 (fun _ h9 => h9) rfl dX6_strike_32 ?_
      refine lv_iload_n hx hb dX6_strike_35 rfl (lv_at hl 1 rfl) ?_
      have hPc := hP.sub (ws' := [(tq, .inr (5, [.ref xa, .ref la, .int (nI tn)])), (xa, .inl (cI, 3, .inl ts))]) [4, 5] rfl
      refine vp_callSi (va_Run.run (va_runV (As := [.int (nI j)]) (rest := [.ref pe]) ⟨hx, hb, hml, hown, hts⟩ (c_X5_setOf l D cI cO tq xa la tn ts j (by assumption) (by assumption)) (cwV 1 hts gX6_strike_X5_setOf rfl rfl rfl (by decide +kernel) ⟨Nat.le_of_ble_eq_true rfl, Nat.le_of_ble_eq_true rfl⟩) (preVR hPc hK hNw (va_recv hK hPc (ci := 5) (q0 := 0) rfl rfl)) rfl rfl hl.1 rfl (lv_room (Nat.le_of_ble_eq_true rfl)) dX6_strike_36 ⟨Nat.zero_le _, Nat.zero_le _⟩)) (fun r36 w36 => ?_)
      obtain rfl := w36
      have hPc := hP.sub (ws' := [(pe, .inr (1, [.ref ka, .ref sa, .int (nI n)])), (ka, .inl (cI, 9, .inl kd)), (sa, .inl (cI, 9, .inl sd))]) [1, 2, 3] rfl
      refine vp_callSi (va_Run.run (va_runV (As := [.int (ts j)]) (rest := []) ⟨hx, hb, hml, hown, hts⟩ (c_X1_ringsOf l D cI cO pe ka sa n kd sd (ts j) (by assumption)) (cwV 1 hts gX6_strike_X1_ringsOf rfl rfl rfl (by decide +kernel) ⟨Nat.le_of_ble_eq_true rfl, Nat.le_of_ble_eq_true rfl⟩) (preVR hPc hK hNw (va_recv hK hPc (ci := 1) (q0 := 0) rfl rfl)) rfl rfl hl.1 rfl (lv_room (Nat.le_of_ble_eq_true rfl)) dX6_strike_39 ⟨Nat.zero_le _, Nat.zero_le _⟩)) (fun r39 w39 => ?_)
      obtain rfl := w39
      refine lv_istore_n (lv' := [(2, .int (sumW (fun p => ringI (kd p) (sd p)) (ts j) n)), (0, .ref h), (1, .int (nI j))]) hx hb dX6_strike_42 rfl hl (by decide) rfl (fun ls hl => ?_)
      refine lv_aload_n hx hb dX6_strike_43 rfl (lv_at hl 1 rfl) ?_
      refine va_get (D := D) (ci := 6) (v := .ref tq) (C := RX6) (T := TX6) (N := 9) hx hb hts iX6 hown hK hP 0 rfl rfl 2 (by decide) f28 (fun _ h9 => h9) rfl dX6_strike_44 ?_
      refine lv_iload_n hx hb dX6_strike_47 rfl (lv_at hl 2 rfl) ?_
      refine lv_iload_n hx hb dX6_strike_48 rfl (lv_at hl 0 rfl) ?_
      have hPc := hP.sub (ws' := [(tq, .inr (5, [.ref xa, .ref la, .int (nI tn)])), (la, .inl (cI, 3, .inl tl))]) [4, 6] rfl
      have hDc := hD.sub (ws' := [(tq, .inr (5, [.ref xa, .ref la, .int (nI tn)])), (la, .inl (cI, 3, .inl tl))]) [4, 6] (by decide) rfl
      have hFc := va_free (wc := [(tq, .inr (5, [.ref xa, .ref la, .int (nI tn)])), (la, .inl (cI, 3, .inl tl))]) hD hS hA [4, 6] rfl
      refine va_callv (va_runV (As := [.int (nI j), .int (sumW (fun p => ringI (kd p) (sd p)) (ts j) n)]) (rest := []) ⟨hx, hb, hml, hown, hts⟩ (c_X5_ringFor l D cI cO tq xa la tn tl j (sumW (fun p => ringI (kd p) (sd p)) (ts j) n) _ (by assumption) (by assumption)) (cwV 2 hts gX6_strike_X5_ringFor rfl rfl rfl (by decide +kernel) ⟨Nat.le_of_ble_eq_true rfl, Nat.le_of_ble_eq_true rfl⟩) (preVW hPc hK hNw hDc (va_recv hK hPc (ci := 5) (q0 := 0) rfl rfl)) rfl rfl hl.1 rfl (lv_room (Nat.le_of_ble_eq_true rfl)) dX6_strike_49 ⟨Nat.zero_le _, Nat.zero_le _⟩) hS (fun q _ h => hFc q h) hFc (fun u t H1 locs ht hvm w49 hB hz1 hk1 hS => ?_)
      obtain ⟨tl1_49, rfl⟩ : ∃ z, z = u := ⟨_, rfl⟩
      obtain ⟨hP1, hK1, hD1⟩ := hB
      rw [ht] at hP1
      try dsimp only at w49
      obtain ⟨hP, hD⟩ := va_join (wr := [(h, .inr (6, [.ref aS, .ref pe, .ref tq, .ref se, .ref mo, .ref re, .int bar, .int tr, .int fa])), (pe, .inr (1, [.ref ka, .ref sa, .int (nI n)])), (ka, .inl (cI, 9, .inl kd)), (sa, .inl (cI, 9, .inl sd)), (xa, .inl (cI, 3, .inl ts))]) (w1 := [(tq, .inr (5, [.ref xa, .ref la, .int (nI tn)])), (la, .inl (cI, 3, .inl tl1_49))]) hP hD [4, 6] [0, 1, 2, 3, 5] rfl rfl (by decide) (by decide) hk1 hFc hP1 hD1
      generalize H1 = H at hP hS ⊢
      have hP := hP.sub (ws' := [(h, .inr (6, [.ref aS, .ref pe, .ref tq, .ref se, .ref mo, .ref re, .int bar, .int tr, .int fa])), (pe, .inr (1, [.ref ka, .ref sa, .int (nI n)])), (ka, .inl (cI, 9, .inl kd)), (sa, .inl (cI, 9, .inl sd)), (tq, .inr (5, [.ref xa, .ref la, .int (nI tn)])), (xa, .inl (cI, 3, .inl ts)), (la, .inl (cI, 3, .inl tl1_49))]) [0, 1, 2, 3, 5, 4, 6] rfl
      have hD := hD.sub (ws' := [(h, .inr (6, [.ref aS, .ref pe, .ref tq, .ref se, .ref mo, .ref re, .int bar, .int tr, .int fa])), (pe, .inr (1, [.ref ka, .ref sa, .int (nI n)])), (ka, .inl (cI, 9, .inl kd)), (sa, .inl (cI, 9, .inl sd)), (tq, .inr (5, [.ref xa, .ref la, .int (nI tn)])), (xa, .inl (cI, 3, .inl ts)), (la, .inl (cI, 3, .inl tl1_49))]) [0, 1, 2, 3, 5, 4, 6] (by decide) rfl
      obtain rfl := w49
      refine lv_iload_n hx hb dX6_strike_52 rfl (lv_at hl 0 rfl) ?_
      exact W.iret (v := sumW (fun p => ringI (kd p) (sd p)) (ts j) n) hx hb hr (fun t ht hW => ⟨⟨_, (upd tl j (sumW (fun p => ringI (kd p) (sd p)) (ts j) n)), rfl, by first | (simp [onQ_out b5]; done) | (simp [onQ_in hj (show tn < 2 ^ 31 by omega), *]; done), by rw [ht]; exact hP, va_K.moved hW.alike hK, hD⟩, hS.F ht⟩) hS.2.2 dX6_strike_53
    · -- f21
      refine lv_bipush (v := -3) hx hb dX6_strike_24 (by decide) ?_
      exact W.iret (v := -3) hx hb hr (fun t ht hW => ⟨⟨_, tl, rfl, by first | (simp [onQ_out b5]; done) | (simp [onQ_in hj (show tn < 2 ^ 31 by omega), *]; done), by rw [ht]; exact hP, va_K.moved hW.alike hK, hD⟩, hS.F ht⟩) hS.2.2 dX6_strike_26
  · -- n5
    obtain rfl := w5.2 b5
    refine lv_if_ne (tgt := 13) hx hb dX6_strike_8 (by decide) (fun h => absurd (by decide) h) (fun _ => ?_)
    refine lv_iconst (v := -1) hx hb dX6_strike_11 (by decide) ?_
    exact W.iret (v := -1) hx hb hr (fun t ht hW => ⟨⟨_, tl, rfl, by first | (simp [onQ_out b5]; done) | (simp [onQ_in hj (show tn < 2 ^ 31 by omega), *]; done), by rw [ht]; exact hP, va_K.moved hW.alike hK, hD⟩, hS.F ht⟩) hS.2.2 dX6_strike_12

set_option maxHeartbeats 4000000 in
set_option maxRecDepth 100000 in
theorem c_X6_touch (l : Launch) (D : va_G) (cI cO : ClassId) (h : Nat) (aS : Nat) (pe : Nat) (tq : Nat) (se : Nat) (mo : Nat) (re : Nat) (bar : Int32) (tr : Int32) (fa : Int32) (xa : Nat) (la : Nat) (tn : Nat) (ts : Nat → Int32) (tl : Nat → Int32) (pp : Int32) (sz : Nat) (ht3 : tn ≤ 3) : Met l yX6_touch wsX6_touch ({ frames := 2, cells := 0, slots := 0, locals := 43 } : Room) (va_Pc [.ref h, .int pp] (wdW D cI cO [(h, .inr (6, [.ref aS, .ref pe, .ref tq, .ref se, .ref mo, .ref re, .int bar, .int tr, .int fa])), (tq, .inr (5, [.ref xa, .ref la, .int (nI tn)])), (la, .inl (cI, 3, .inl tl))] sz)) (va_Qi (S := (Nat → Int32)) (fun r u => r = (onQ tn pp (fun j => if tl j = 0 then -3 else tl j) (-1)) ∧ u = (onQ tn pp (fun j => if tl j = 0 then tl else upd tl j 0) tl)) (fun u t => va_P D vwCl [(h, .inr (6, [.ref aS, .ref pe, .ref tq, .ref se, .ref mo, .ref re, .int bar, .int tr, .int fa])), (tq, .inr (5, [.ref xa, .ref la, .int (nI tn)])), (la, .inl (cI, 3, .inl u))] t.heap ∧ va_K D vwCl (tyL cI cO) t ∧ va_D (va_A [(h, .inr (6, [.ref aS, .ref pe, .ref tq, .ref se, .ref mo, .ref re, .int bar, .int tr, .int fa])), (tq, .inr (5, [.ref xa, .ref la, .int (nI tn)])), (la, .inl (cI, 3, .inl tl))] sz) [(h, .inr (6, [.ref aS, .ref pe, .ref tq, .ref se, .ref mo, .ref re, .int bar, .int tr, .int fa])), (tq, .inr (5, [.ref xa, .ref la, .int (nI tn)])), (la, .inl (cI, 3, .inl u))]) (va_A [(h, .inr (6, [.ref aS, .ref pe, .ref tq, .ref se, .ref mo, .ref re, .int bar, .int tr, .int fa])), (tq, .inr (5, [.ref xa, .ref la, .int (nI tn)])), (la, .inl (cI, 3, .inl tl))] sz)) 0 0 (va_A [(h, .inr (6, [.ref aS, .ref pe, .ref tq, .ref se, .ref mo, .ref re, .int bar, .int tr, .int fa])), (tq, .inr (5, [.ref xa, .ref la, .int (nI tn)])), (la, .inl (cI, 3, .inl tl))] sz) := by
  refine Met.ofW (cc := cX6_touch) (maxL := 3) (ret := (some .int)) (by decide) rfl ?_
  intro p e s m args below meth c s₁ B hml hv
  obtain ⟨rfl, hsz, hP, hK, hNw, hD0⟩ := hv
  have hx := B.exec
  have hb := B.bytes
  have hr := B.returns
  have hts := atoms_spec (ws := wsX6_touch) B.pre
  have hown : s.vm.findClass RX6 = some m.cls := findClass_of_methodNamed B.named
  have hlocks := B.notSynchronized
  have f28 := hts (.fieldLink RX6 28 "StruckThrees" "threes" "LStruckThrees$Threes;") (by decide +kernel)
  have iX6 : ∀ w ∈ wsX60, w ∈ wsX6_touch := by decide +kernel
  subst hsz
  have hD := hD0.self (sz := s.heap.size)
  generalize hAe : va_A [(h, .inr (6, [.ref aS, .ref pe, .ref tq, .ref se, .ref mo, .ref re, .int bar, .int tr, .int fa])), (tq, .inr (5, [.ref xa, .ref la, .int (nI tn)])), (la, .inl (cI, 3, .inl tl))] s.heap.size = A at hD ⊢
  have hA : ∀ q : Nat, s.heap.size ≤ q → A q := fun q h => by rw [← hAe]; exact Or.inr h
  have hS : va_S A s.heap s.heap [] := va_S.rf
  have hP : va_P D vwCl [(h, .inr (6, [.ref aS, .ref pe, .ref tq, .ref se, .ref mo, .ref re, .int bar, .int tr, .int fa])), (tq, .inr (5, [.ref xa, .ref la, .int (nI tn)])), (la, .inl (cI, 3, .inl tl))] s.heap := hP
  have hl := lv_entry ([.ref h, .int pp]) (n := 3) (Nat.le_of_ble_eq_true rfl)
  rw [lg_entry_eq]
  generalize (lg_sl ([.ref h, .int pp]) ++ List.replicate (3 - (lg_sl ([.ref h, .int pp])).length) Slot.unset).toArray = ls at hl ⊢
  have hl : lv_has ls 3 [(0, .ref h), (1, .int pp)] := hl
  refine lv_aload_n hx hb dX6_touch_0 rfl (lv_at hl 0 rfl) ?_
  refine va_get (D := D) (ci := 6) (v := .ref tq) (C := RX6) (T := TX6) (N := 9) hx hb hts iX6 hown hK hP 0 rfl rfl 2 (by decide) f28 (fun _ h9 => h9) rfl dX6_touch_1 ?_
  refine lv_iload_n hx hb dX6_touch_4 rfl (lv_at hl 1 rfl) ?_
  have hPc := hP.sub (ws' := [(tq, .inr (5, [.ref xa, .ref la, .int (nI tn)]))]) [1] rfl
  refine vp_callSi (va_Run.run (va_runV (As := [.int pp]) (rest := []) ⟨hx, hb, hml, hown, hts⟩ (c_X5_has l D cI cO tq xa la tn pp) (cwV 1 hts gX6_touch_X5_has rfl rfl rfl (by decide +kernel) ⟨Nat.le_of_ble_eq_true rfl, Nat.le_of_ble_eq_true rfl⟩) (preVR hPc hK hNw (va_recv hK hPc (ci := 5) (q0 := 0) rfl rfl)) rfl rfl hl.1 rfl (lv_room (Nat.le_of_ble_eq_true rfl)) dX6_touch_5 ⟨Nat.zero_le _, Nat.zero_le _⟩)) (fun r5 w5 => ?_)
  by_cases b5 : ¬ pp < 0 ∧ ¬ nI tn ≤ pp
  · -- y5
    obtain rfl := w5.1 b5
    obtain ⟨j, hj, rfl⟩ := in_nat b5 (show tn < 2 ^ 31 by omega)
    refine lv_if_ne (tgt := 13) hx hb dX6_touch_8 (by decide) (fun _ => ?_) (fun h => absurd h (by decide))
    refine lv_aload_n hx hb dX6_touch_13 rfl (lv_at hl 0 rfl) ?_
    refine va_get (D := D) (ci := 6) (v := .ref tq) (C := RX6) (T := TX6) (N := 9) hx hb hts iX6 hown hK hP 0 rfl rfl 2 (by decide) f28 (fun _ h9 => h9) rfl dX6_touch_14 ?_
    refine lv_iload_n hx hb dX6_touch_17 rfl (lv_at hl 1 rfl) ?_
    have hPc := hP.sub (ws' := [(tq, .inr (5, [.ref xa, .ref la, .int (nI tn)])), (la, .inl (cI, 3, .inl tl))]) [1, 2] rfl
    refine vp_callSi (va_Run.run (va_runV (As := [.int (nI j)]) (rest := []) ⟨hx, hb, hml, hown, hts⟩ (c_X5_leftOf l D cI cO tq xa la tn tl j (by assumption) (by assumption)) (cwV 1 hts gX6_touch_X5_leftOf rfl rfl rfl (by decide +kernel) ⟨Nat.le_of_ble_eq_true rfl, Nat.le_of_ble_eq_true rfl⟩) (preVR hPc hK hNw (va_recv hK hPc (ci := 5) (q0 := 0) rfl rfl)) rfl rfl hl.1 rfl (lv_room (Nat.le_of_ble_eq_true rfl)) dX6_touch_18 ⟨Nat.zero_le _, Nat.zero_le _⟩)) (fun r18 w18 => ?_)
    obtain rfl := w18
    refine lv_istore_n (lv' := [(2, .int (tl j)), (0, .ref h), (1, .int (nI j))]) hx hb dX6_touch_21 rfl hl (by decide) rfl (fun ls hl => ?_)
    refine lv_iload_n hx hb dX6_touch_22 rfl (lv_at hl 0 rfl) ?_
    refine lv_if_ne (tgt := 29) hx hb dX6_touch_23 (by decide) (fun c23 => ?_) (fun c23 => ?_)
    · -- t23
      refine lv_aload_n hx hb dX6_touch_29 rfl (lv_at hl 1 rfl) ?_
      refine va_get (D := D) (ci := 6) (v := .ref tq) (C := RX6) (T := TX6) (N := 9) hx hb hts iX6 hown hK hP 0 rfl rfl 2 (by decide) f28 (fun _ h9 => h9) rfl dX6_touch_30 ?_
      refine lv_iload_n hx hb dX6_touch_33 rfl (lv_at hl 2 rfl) ?_
      refine lv_iconst (v := 0) hx hb dX6_touch_34 (by decide) ?_
      have hPc := hP.sub (ws' := [(tq, .inr (5, [.ref xa, .ref la, .int (nI tn)])), (la, .inl (cI, 3, .inl tl))]) [1, 2] rfl
      have hDc := hD.sub (ws' := [(tq, .inr (5, [.ref xa, .ref la, .int (nI tn)])), (la, .inl (cI, 3, .inl tl))]) [1, 2] (by decide) rfl
      have hFc := va_free (wc := [(tq, .inr (5, [.ref xa, .ref la, .int (nI tn)])), (la, .inl (cI, 3, .inl tl))]) hD hS hA [1, 2] rfl
      refine va_callv (va_runV (As := [.int (nI j), .int 0]) (rest := []) ⟨hx, hb, hml, hown, hts⟩ (c_X5_ringFor l D cI cO tq xa la tn tl j 0 _ (by assumption) (by assumption)) (cwV 2 hts gX6_touch_X5_ringFor rfl rfl rfl (by decide +kernel) ⟨Nat.le_of_ble_eq_true rfl, Nat.le_of_ble_eq_true rfl⟩) (preVW hPc hK hNw hDc (va_recv hK hPc (ci := 5) (q0 := 0) rfl rfl)) rfl rfl hl.1 rfl (lv_room (Nat.le_of_ble_eq_true rfl)) dX6_touch_35 ⟨Nat.zero_le _, Nat.zero_le _⟩) hS (fun q _ h => hFc q h) hFc (fun u t H1 locs ht hvm w35 hB hz1 hk1 hS => ?_)
      obtain ⟨tl1_35, rfl⟩ : ∃ z, z = u := ⟨_, rfl⟩
      obtain ⟨hP1, hK1, hD1⟩ := hB
      rw [ht] at hP1
      try dsimp only at w35
      obtain ⟨hP, hD⟩ := va_join (wr := [(h, .inr (6, [.ref aS, .ref pe, .ref tq, .ref se, .ref mo, .ref re, .int bar, .int tr, .int fa]))]) (w1 := [(tq, .inr (5, [.ref xa, .ref la, .int (nI tn)])), (la, .inl (cI, 3, .inl tl1_35))]) hP hD [1, 2] [0] rfl rfl (by decide) (by decide) hk1 hFc hP1 hD1
      generalize H1 = H at hP hS ⊢
      have hP := hP.sub (ws' := [(h, .inr (6, [.ref aS, .ref pe, .ref tq, .ref se, .ref mo, .ref re, .int bar, .int tr, .int fa])), (tq, .inr (5, [.ref xa, .ref la, .int (nI tn)])), (la, .inl (cI, 3, .inl tl1_35))]) [0, 1, 2] rfl
      have hD := hD.sub (ws' := [(h, .inr (6, [.ref aS, .ref pe, .ref tq, .ref se, .ref mo, .ref re, .int bar, .int tr, .int fa])), (tq, .inr (5, [.ref xa, .ref la, .int (nI tn)])), (la, .inl (cI, 3, .inl tl1_35))]) [0, 1, 2] (by decide) rfl
      obtain rfl := w35
      refine lv_iload_n hx hb dX6_touch_38 rfl (lv_at hl 0 rfl) ?_
      exact W.iret (v := tl j) hx hb hr (fun t ht hW => ⟨⟨_, (upd tl j 0), rfl, by first | (simp [onQ_out b5]; done) | (simp [onQ_in hj (show tn < 2 ^ 31 by omega), *]; done), by rw [ht]; exact hP, va_K.moved hW.alike hK, hD⟩, hS.F ht⟩) hS.2.2 dX6_touch_39
    · -- f23
      refine lv_bipush (v := -3) hx hb dX6_touch_26 (by decide) ?_
      exact W.iret (v := -3) hx hb hr (fun t ht hW => ⟨⟨_, tl, rfl, by first | (simp [onQ_out b5]; done) | (simp [onQ_in hj (show tn < 2 ^ 31 by omega), *]; done), by rw [ht]; exact hP, va_K.moved hW.alike hK, hD⟩, hS.F ht⟩) hS.2.2 dX6_touch_28
  · -- n5
    obtain rfl := w5.2 b5
    refine lv_if_ne (tgt := 13) hx hb dX6_touch_8 (by decide) (fun h => absurd (by decide) h) (fun _ => ?_)
    refine lv_iconst (v := -1) hx hb dX6_touch_11 (by decide) ?_
    exact W.iret (v := -1) hx hb hr (fun t ht hW => ⟨⟨_, tl, rfl, by first | (simp [onQ_out b5]; done) | (simp [onQ_in hj (show tn < 2 ^ 31 by omega), *]; done), by rw [ht]; exact hP, va_K.moved hW.alike hK, hD⟩, hS.F ht⟩) hS.2.2 dX6_touch_12

set_option maxHeartbeats 4000000 in
set_option maxRecDepth 100000 in
theorem c_X6_bars (l : Launch) (D : va_G) (cI cO : ClassId) (h : Nat) (aS : Nat) (pe : Nat) (tq : Nat) (se : Nat) (mo : Nat) (re : Nat) (bar : Int32) (tr : Int32) (fa : Int32) (ka : Nat) (sa : Nat) (n : Nat) (xa : Nat) (la : Nat) (tn : Nat) (tl : Nat → Int32) (v : Int32) (sz : Nat) (hn : n ≤ 9) (ht3 : tn ≤ 3) : Met l yX6_bars wsX6_bars ({ frames := 2, cells := 0, slots := 0, locals := 43 } : Room) (va_Pc [.ref h, .int v] (wdW D cI cO [(h, .inr (6, [.ref aS, .ref pe, .ref tq, .ref se, .ref mo, .ref re, .int bar, .int tr, .int fa])), (pe, .inr (1, [.ref ka, .ref sa, .int (nI n)])), (tq, .inr (5, [.ref xa, .ref la, .int (nI tn)])), (la, .inl (cI, 3, .inl tl))] sz)) (va_Qi (S := Int32 × (Nat → Int32)) (fun r u => r = (if v < 1 then -2 else if v ≤ 99 then (if nI n = 0 then -3 else cntW (goF tl v tn) tn) else -2) ∧ u.1 = (if v < 1 then bar else if v ≤ 99 then (if nI n = 0 then bar else bar + v) else bar) ∧ u.2 = (if v < 1 then tl else if v ≤ 99 then (if nI n = 0 then tl else goF tl v tn) else tl)) (fun u t => va_P D vwCl [(h, .inr (6, [.ref aS, .ref pe, .ref tq, .ref se, .ref mo, .ref re, .int u.1, .int tr, .int fa])), (pe, .inr (1, [.ref ka, .ref sa, .int (nI n)])), (tq, .inr (5, [.ref xa, .ref la, .int (nI tn)])), (la, .inl (cI, 3, .inl u.2))] t.heap ∧ va_K D vwCl (tyL cI cO) t ∧ va_D (va_A [(h, .inr (6, [.ref aS, .ref pe, .ref tq, .ref se, .ref mo, .ref re, .int bar, .int tr, .int fa])), (pe, .inr (1, [.ref ka, .ref sa, .int (nI n)])), (tq, .inr (5, [.ref xa, .ref la, .int (nI tn)])), (la, .inl (cI, 3, .inl tl))] sz) [(h, .inr (6, [.ref aS, .ref pe, .ref tq, .ref se, .ref mo, .ref re, .int u.1, .int tr, .int fa])), (pe, .inr (1, [.ref ka, .ref sa, .int (nI n)])), (tq, .inr (5, [.ref xa, .ref la, .int (nI tn)])), (la, .inl (cI, 3, .inl u.2))]) (va_A [(h, .inr (6, [.ref aS, .ref pe, .ref tq, .ref se, .ref mo, .ref re, .int bar, .int tr, .int fa])), (pe, .inr (1, [.ref ka, .ref sa, .int (nI n)])), (tq, .inr (5, [.ref xa, .ref la, .int (nI tn)])), (la, .inl (cI, 3, .inl tl))] sz)) 0 0 (va_A [(h, .inr (6, [.ref aS, .ref pe, .ref tq, .ref se, .ref mo, .ref re, .int bar, .int tr, .int fa])), (pe, .inr (1, [.ref ka, .ref sa, .int (nI n)])), (tq, .inr (5, [.ref xa, .ref la, .int (nI tn)])), (la, .inl (cI, 3, .inl tl))] sz) := by
  refine Met.ofW (cc := cX6_bars) (maxL := 2) (ret := (some .int)) (by decide) rfl ?_
  intro p e s m args below meth c s₁ B hml hv
  obtain ⟨rfl, hsz, hP, hK, hNw, hD0⟩ := hv
  have hx := B.exec
  have hb := B.bytes
  have hr := B.returns
  have hts := atoms_spec (ws := wsX6_bars) B.pre
  have hown : s.vm.findClass RX6 = some m.cls := findClass_of_methodNamed B.named
  have hlocks := B.notSynchronized
  have f21 := hts (.fieldLink RX6 21 "StruckThrees" "people" "LStruckThrees$People;") (by decide +kernel)
  have f28 := hts (.fieldLink RX6 28 "StruckThrees" "threes" "LStruckThrees$Threes;") (by decide +kernel)
  have f91 := hts (.fieldLink RX6 91 "StruckThrees" "bar" "I") (by decide +kernel)
  have f94 := hNw.f (args := ([.ref h, .int v]).toArray) ("StruckThrees", 94, "StruckThrees$People", "count", "I") (by decide)
  have iX1 : ∀ w ∈ wsX10, w ∈ wsX6_bars := by decide +kernel
  have iX6 : ∀ w ∈ wsX60, w ∈ wsX6_bars := by decide +kernel
  subst hsz
  have hD := hD0.self (sz := s.heap.size)
  generalize hAe : va_A [(h, .inr (6, [.ref aS, .ref pe, .ref tq, .ref se, .ref mo, .ref re, .int bar, .int tr, .int fa])), (pe, .inr (1, [.ref ka, .ref sa, .int (nI n)])), (tq, .inr (5, [.ref xa, .ref la, .int (nI tn)])), (la, .inl (cI, 3, .inl tl))] s.heap.size = A at hD ⊢
  have hA : ∀ q : Nat, s.heap.size ≤ q → A q := fun q h => by rw [← hAe]; exact Or.inr h
  have hS : va_S A s.heap s.heap [] := va_S.rf
  have hP : va_P D vwCl [(h, .inr (6, [.ref aS, .ref pe, .ref tq, .ref se, .ref mo, .ref re, .int bar, .int tr, .int fa])), (pe, .inr (1, [.ref ka, .ref sa, .int (nI n)])), (tq, .inr (5, [.ref xa, .ref la, .int (nI tn)])), (la, .inl (cI, 3, .inl tl))] s.heap := hP
  have hl := lv_entry ([.ref h, .int v]) (n := 2) (Nat.le_of_ble_eq_true rfl)
  rw [lg_entry_eq]
  generalize (lg_sl ([.ref h, .int v]) ++ List.replicate (2 - (lg_sl ([.ref h, .int v])).length) Slot.unset).toArray = ls at hl ⊢
  have hl : lv_has ls 2 [(0, .ref h), (1, .int v)] := hl
  refine lv_iload_n hx hb dX6_bars_0 rfl (lv_at hl 1 rfl) ?_
  refine lv_iconst (v := 1) hx hb dX6_bars_1 (by decide) ?_
  refine lv_icmp_lt (tgt := 11) hx hb dX6_bars_2 (by decide) (fun c2 => ?_) (fun c2 => ?_)
  · -- t2
    refine lv_bipush (v := -2) hx hb dX6_bars_11 (by decide) ?_
    exact W.iret (v := -2) hx hb hr (fun t ht hW => ⟨⟨_, (bar, tl), rfl, by simp [*], by rw [ht]; exact hP, va_K.moved hW.alike hK, hD⟩, hS.F ht⟩) hS.2.2 dX6_bars_13
  · -- f2
    refine lv_iload_n hx hb dX6_bars_5 rfl (lv_at hl 1 rfl) ?_
    refine lv_bipush (v := 99) hx hb dX6_bars_6 (by decide) ?_
    refine lv_icmp_le (tgt := 14) hx hb dX6_bars_8 (by decide) (fun c8 => ?_) (fun c8 => ?_)
    · -- t8
      refine lv_aload_n hx hb dX6_bars_14 rfl (lv_at hl 0 rfl) ?_
      refine va_get (D := D) (ci := 6) (v := .ref pe) (C := RX6) (T := TX6) (N := 9) hx hb hts iX6 hown hK hP 0 rfl rfl 1 (by decide) f21 (fun _ h9 => h9) rfl dX6_bars_15 ?_
      refine va_getN (D := D) (ci := 1) (v := .int (nI n)) (C := RX1) (T := TX1) (N := 3) hx hb hts iX1 hown hK hP 1 rfl rfl 2 (by decide) f94 (fun _ h9 => h9) rfl dX6_bars_18 ?_
      refine lv_if_ne (tgt := 27) hx hb dX6_bars_21 (by decide) (fun c21 => ?_) (fun c21 => ?_)
      · -- t21
        refine lv_aload_n hx hb dX6_bars_27 rfl (lv_at hl 0 rfl) ?_
        refine va_get (D := D) (ci := 6) (v := .ref tq) (C := RX6) (T := TX6) (N := 9) hx hb hts iX6 hown hK hP 0 rfl rfl 2 (by decide) f28 (fun _ h9 => h9) rfl dX6_bars_28 ?_
        refine lv_iload_n hx hb dX6_bars_31 rfl (lv_at hl 1 rfl) ?_
        have hPc := hP.sub (ws' := [(tq, .inr (5, [.ref xa, .ref la, .int (nI tn)])), (la, .inl (cI, 3, .inl tl))]) [2, 3] rfl
        have hDc := hD.sub (ws' := [(tq, .inr (5, [.ref xa, .ref la, .int (nI tn)])), (la, .inl (cI, 3, .inl tl))]) [2, 3] (by decide) rfl
        have hFc := va_free (wc := [(tq, .inr (5, [.ref xa, .ref la, .int (nI tn)])), (la, .inl (cI, 3, .inl tl))]) hD hS hA [2, 3] rfl
        refine va_callv (va_runV (As := [.int v]) (rest := []) ⟨hx, hb, hml, hown, hts⟩ (c_X5_goBy l D cI cO tq xa la tn tl v _ (by assumption)) (cwV 1 hts gX6_bars_X5_goBy rfl rfl rfl (by decide +kernel) ⟨Nat.le_of_ble_eq_true rfl, Nat.le_of_ble_eq_true rfl⟩) (preVW hPc hK hNw hDc (va_recv hK hPc (ci := 5) (q0 := 0) rfl rfl)) rfl rfl hl.1 rfl (lv_room (Nat.le_of_ble_eq_true rfl)) dX6_bars_32 ⟨Nat.zero_le _, Nat.zero_le _⟩) hS (fun q _ h => hFc q h) hFc (fun u t H1 locs ht hvm w32 hB hz1 hk1 hS => ?_)
        obtain ⟨tl1_32, rfl⟩ : ∃ z, z = u := ⟨_, rfl⟩
        obtain ⟨hP1, hK1, hD1⟩ := hB
        rw [ht] at hP1
        try dsimp only at w32
        obtain ⟨hP, hD⟩ := va_join (wr := [(h, .inr (6, [.ref aS, .ref pe, .ref tq, .ref se, .ref mo, .ref re, .int bar, .int tr, .int fa])), (pe, .inr (1, [.ref ka, .ref sa, .int (nI n)]))]) (w1 := [(tq, .inr (5, [.ref xa, .ref la, .int (nI tn)])), (la, .inl (cI, 3, .inl tl1_32))]) hP hD [2, 3] [0, 1] rfl rfl (by decide) (by decide) hk1 hFc hP1 hD1
        generalize H1 = H at hP hS ⊢
        have hP := hP.sub (ws' := [(h, .inr (6, [.ref aS, .ref pe, .ref tq, .ref se, .ref mo, .ref re, .int bar, .int tr, .int fa])), (pe, .inr (1, [.ref ka, .ref sa, .int (nI n)])), (tq, .inr (5, [.ref xa, .ref la, .int (nI tn)])), (la, .inl (cI, 3, .inl tl1_32))]) [0, 1, 2, 3] rfl
        have hD := hD.sub (ws' := [(h, .inr (6, [.ref aS, .ref pe, .ref tq, .ref se, .ref mo, .ref re, .int bar, .int tr, .int fa])), (pe, .inr (1, [.ref ka, .ref sa, .int (nI n)])), (tq, .inr (5, [.ref xa, .ref la, .int (nI tn)])), (la, .inl (cI, 3, .inl tl1_32))]) [0, 1, 2, 3] (by decide) rfl
        obtain rfl := w32
        refine lv_aload_n hx hb dX6_bars_35 rfl (lv_at hl 0 rfl) ?_
        refine lv_dup hx hb dX6_bars_36 rfl ?_
        refine va_get (D := D) (ci := 6) (v := .int bar) (C := RX6) (T := TX6) (N := 9) hx hb hts iX6 hown hK hP 0 rfl rfl 6 (by decide) f91 (fun _ h9 => h9) rfl dX6_bars_37 ?_
        refine lv_iload_n hx hb dX6_bars_40 rfl (lv_at hl 1 rfl) ?_
        refine lv_iadd hx hb dX6_bars_41 ?_
        refine va_put (D := D) (ci := 6) (v := .int (bar + v)) (ty := .int) (C := RX6) (T := TX6) (N := 9) hx hb hts iX6 tyX6 tyX6_ok nmX6 hown hK hP hD hS 0 rfl rfl 6 (by decide) f91 (fun _ h9 => h9) rfl (by decide +kernel) rfl rfl (Nat.le_of_ble_eq_true rfl) dX6_bars_42 (fun H locs hP hD hS => ?_)
        have hP : va_P D vwCl [(h, .inr (6, [.ref aS, .ref pe, .ref tq, .ref se, .ref mo, .ref re, .int (bar + v), .int tr, .int fa])), (pe, .inr (1, [.ref ka, .ref sa, .int (nI n)])), (tq, .inr (5, [.ref xa, .ref la, .int (nI tn)])), (la, .inl (cI, 3, .inl (goF tl v tn)))] H := hP
        have hD : va_D A [(h, .inr (6, [.ref aS, .ref pe, .ref tq, .ref se, .ref mo, .ref re, .int (bar + v), .int tr, .int fa])), (pe, .inr (1, [.ref ka, .ref sa, .int (nI n)])), (tq, .inr (5, [.ref xa, .ref la, .int (nI tn)])), (la, .inl (cI, 3, .inl (goF tl v tn)))] := hD
        refine lv_aload_n hx hb dX6_bars_45 rfl (lv_at hl 0 rfl) ?_
        refine va_get (D := D) (ci := 6) (v := .ref tq) (C := RX6) (T := TX6) (N := 9) hx hb hts iX6 hown hK hP 0 rfl rfl 2 (by decide) f28 (fun _ h9 => h9) rfl dX6_bars_46 ?_
        have hPc := hP.sub (ws' := [(tq, .inr (5, [.ref xa, .ref la, .int (nI tn)])), (la, .inl (cI, 3, .inl (goF tl v tn)))]) [2, 3] rfl
        refine vp_callSi (va_Run.run (va_runV (As := []) (rest := []) ⟨hx, hb, hml, hown, hts⟩ (c_X5_ringing l D cI cO tq xa la tn (goF tl v tn) (by assumption)) (cwV 0 hts gX6_bars_X5_ringing rfl rfl rfl (by decide +kernel) ⟨Nat.le_of_ble_eq_true rfl, Nat.le_of_ble_eq_true rfl⟩) (preVR hPc hK hNw (va_recv hK hPc (ci := 5) (q0 := 0) rfl rfl)) rfl rfl hl.1 rfl (lv_room (Nat.le_of_ble_eq_true rfl)) dX6_bars_49 ⟨Nat.zero_le _, Nat.zero_le _⟩)) (fun r49 w49 => ?_)
        obtain rfl := w49
        exact W.iret (v := cntW (goF tl v tn) tn) hx hb hr (fun t ht hW => ⟨⟨_, (bar + v, (goF tl v tn)), rfl, by simp [*], by rw [ht]; exact hP, va_K.moved hW.alike hK, hD⟩, hS.F ht⟩) hS.2.2 dX6_bars_52
      · -- f21
        refine lv_bipush (v := -3) hx hb dX6_bars_24 (by decide) ?_
        exact W.iret (v := -3) hx hb hr (fun t ht hW => ⟨⟨_, (bar, tl), rfl, by simp [*], by rw [ht]; exact hP, va_K.moved hW.alike hK, hD⟩, hS.F ht⟩) hS.2.2 dX6_bars_26
    · -- f8
      refine lv_bipush (v := -2) hx hb dX6_bars_11 (by decide) ?_
      exact W.iret (v := -2) hx hb hr (fun t ht hW => ⟨⟨_, (bar, tl), rfl, by simp [*], by rw [ht]; exact hP, va_K.moved hW.alike hK, hD⟩, hS.F ht⟩) hS.2.2 dX6_bars_13

set_option maxHeartbeats 4000000 in
set_option maxRecDepth 100000 in
theorem c_X6_leave (l : Launch) (D : va_G) (cI cO : ClassId) (h : Nat) (aS : Nat) (pe : Nat) (tq : Nat) (se : Nat) (mo : Nat) (re : Nat) (bar : Int32) (tr : Int32) (fa : Int32) (ka : Nat) (sa : Nat) (n : Nat) (kd : Nat → Int32) (sd : Nat → Int32) (xa : Nat) (la : Nat) (tn : Nat) (ts : Nat → Int32) (tl : Nat → Int32) (pp : Int32) (sz : Nat) (hn : n ≤ 9) (hs : ∀ j, j < n → 1 ≤ sd j) (ht3 : tn ≤ 3) : Met l yX6_leave wsX6_leave ({ frames := 3, cells := 0, slots := 0, locals := 65 } : Room) (va_Pc [.ref h, .int pp] (wdW D cI cO [(h, .inr (6, [.ref aS, .ref pe, .ref tq, .ref se, .ref mo, .ref re, .int bar, .int tr, .int fa])), (pe, .inr (1, [.ref ka, .ref sa, .int (nI n)])), (ka, .inl (cI, 9, .inl kd)), (sa, .inl (cI, 9, .inl sd)), (tq, .inr (5, [.ref xa, .ref la, .int (nI tn)])), (xa, .inl (cI, 3, .inl ts)), (la, .inl (cI, 3, .inl tl))] sz)) (va_Qi (S := Nat × (Nat → Int32) × (Nat → Int32)) (fun r u => r = (onQ tn pp (fun j => cornW sd (ts j) n) (-1)) ∧ u.1 = (onQ tn pp (fun _ => tn - 1) tn) ∧ u.2.1 = (onQ tn pp (fun j => shF ts j tn) ts) ∧ u.2.2 = (onQ tn pp (fun j => shF tl j tn) tl)) (fun u t => va_P D vwCl [(h, .inr (6, [.ref aS, .ref pe, .ref tq, .ref se, .ref mo, .ref re, .int bar, .int tr, .int fa])), (pe, .inr (1, [.ref ka, .ref sa, .int (nI n)])), (ka, .inl (cI, 9, .inl kd)), (sa, .inl (cI, 9, .inl sd)), (tq, .inr (5, [.ref xa, .ref la, .int (nI u.1)])), (xa, .inl (cI, 3, .inl u.2.1)), (la, .inl (cI, 3, .inl u.2.2))] t.heap ∧ va_K D vwCl (tyL cI cO) t ∧ va_D (va_A [(h, .inr (6, [.ref aS, .ref pe, .ref tq, .ref se, .ref mo, .ref re, .int bar, .int tr, .int fa])), (pe, .inr (1, [.ref ka, .ref sa, .int (nI n)])), (ka, .inl (cI, 9, .inl kd)), (sa, .inl (cI, 9, .inl sd)), (tq, .inr (5, [.ref xa, .ref la, .int (nI tn)])), (xa, .inl (cI, 3, .inl ts)), (la, .inl (cI, 3, .inl tl))] sz) [(h, .inr (6, [.ref aS, .ref pe, .ref tq, .ref se, .ref mo, .ref re, .int bar, .int tr, .int fa])), (pe, .inr (1, [.ref ka, .ref sa, .int (nI n)])), (ka, .inl (cI, 9, .inl kd)), (sa, .inl (cI, 9, .inl sd)), (tq, .inr (5, [.ref xa, .ref la, .int (nI u.1)])), (xa, .inl (cI, 3, .inl u.2.1)), (la, .inl (cI, 3, .inl u.2.2))]) (va_A [(h, .inr (6, [.ref aS, .ref pe, .ref tq, .ref se, .ref mo, .ref re, .int bar, .int tr, .int fa])), (pe, .inr (1, [.ref ka, .ref sa, .int (nI n)])), (ka, .inl (cI, 9, .inl kd)), (sa, .inl (cI, 9, .inl sd)), (tq, .inr (5, [.ref xa, .ref la, .int (nI tn)])), (xa, .inl (cI, 3, .inl ts)), (la, .inl (cI, 3, .inl tl))] sz)) 0 0 (va_A [(h, .inr (6, [.ref aS, .ref pe, .ref tq, .ref se, .ref mo, .ref re, .int bar, .int tr, .int fa])), (pe, .inr (1, [.ref ka, .ref sa, .int (nI n)])), (ka, .inl (cI, 9, .inl kd)), (sa, .inl (cI, 9, .inl sd)), (tq, .inr (5, [.ref xa, .ref la, .int (nI tn)])), (xa, .inl (cI, 3, .inl ts)), (la, .inl (cI, 3, .inl tl))] sz) := by
  refine Met.ofW (cc := cX6_leave) (maxL := 3) (ret := (some .int)) (by decide) rfl ?_
  intro p e s m args below meth c s₁ B hml hv
  obtain ⟨rfl, hsz, hP, hK, hNw, hD0⟩ := hv
  have hx := B.exec
  have hb := B.bytes
  have hr := B.returns
  have hts := atoms_spec (ws := wsX6_leave) B.pre
  have hown : s.vm.findClass RX6 = some m.cls := findClass_of_methodNamed B.named
  have hlocks := B.notSynchronized
  have f21 := hts (.fieldLink RX6 21 "StruckThrees" "people" "LStruckThrees$People;") (by decide +kernel)
  have f28 := hts (.fieldLink RX6 28 "StruckThrees" "threes" "LStruckThrees$Threes;") (by decide +kernel)
  have iX6 : ∀ w ∈ wsX60, w ∈ wsX6_leave := by decide +kernel
  subst hsz
  have hD := hD0.self (sz := s.heap.size)
  generalize hAe : va_A [(h, .inr (6, [.ref aS, .ref pe, .ref tq, .ref se, .ref mo, .ref re, .int bar, .int tr, .int fa])), (pe, .inr (1, [.ref ka, .ref sa, .int (nI n)])), (ka, .inl (cI, 9, .inl kd)), (sa, .inl (cI, 9, .inl sd)), (tq, .inr (5, [.ref xa, .ref la, .int (nI tn)])), (xa, .inl (cI, 3, .inl ts)), (la, .inl (cI, 3, .inl tl))] s.heap.size = A at hD ⊢
  have hA : ∀ q : Nat, s.heap.size ≤ q → A q := fun q h => by rw [← hAe]; exact Or.inr h
  have hS : va_S A s.heap s.heap [] := va_S.rf
  have hP : va_P D vwCl [(h, .inr (6, [.ref aS, .ref pe, .ref tq, .ref se, .ref mo, .ref re, .int bar, .int tr, .int fa])), (pe, .inr (1, [.ref ka, .ref sa, .int (nI n)])), (ka, .inl (cI, 9, .inl kd)), (sa, .inl (cI, 9, .inl sd)), (tq, .inr (5, [.ref xa, .ref la, .int (nI tn)])), (xa, .inl (cI, 3, .inl ts)), (la, .inl (cI, 3, .inl tl))] s.heap := hP
  have hl := lv_entry ([.ref h, .int pp]) (n := 3) (Nat.le_of_ble_eq_true rfl)
  rw [lg_entry_eq]
  generalize (lg_sl ([.ref h, .int pp]) ++ List.replicate (3 - (lg_sl ([.ref h, .int pp])).length) Slot.unset).toArray = ls at hl ⊢
  have hl : lv_has ls 3 [(0, .ref h), (1, .int pp)] := hl
  refine lv_aload_n hx hb dX6_leave_0 rfl (lv_at hl 0 rfl) ?_
  refine va_get (D := D) (ci := 6) (v := .ref tq) (C := RX6) (T := TX6) (N := 9) hx hb hts iX6 hown hK hP 0 rfl rfl 2 (by decide) f28 (fun _ h9 => h9) rfl dX6_leave_1 ?_
  refine lv_iload_n hx hb dX6_leave_4 rfl (lv_at hl 1 rfl) ?_
  have hPc := hP.sub (ws' := [(tq, .inr (5, [.ref xa, .ref la, .int (nI tn)]))]) [4] rfl
  refine vp_callSi (va_Run.run (va_runV (As := [.int pp]) (rest := []) ⟨hx, hb, hml, hown, hts⟩ (c_X5_has l D cI cO tq xa la tn pp) (cwV 1 hts gX6_leave_X5_has rfl rfl rfl (by decide +kernel) ⟨Nat.le_of_ble_eq_true rfl, Nat.le_of_ble_eq_true rfl⟩) (preVR hPc hK hNw (va_recv hK hPc (ci := 5) (q0 := 0) rfl rfl)) rfl rfl hl.1 rfl (lv_room (Nat.le_of_ble_eq_true rfl)) dX6_leave_5 ⟨Nat.zero_le _, Nat.zero_le _⟩)) (fun r5 w5 => ?_)
  by_cases b5 : ¬ pp < 0 ∧ ¬ nI tn ≤ pp
  · -- y5
    obtain rfl := w5.1 b5
    obtain ⟨j, hj, rfl⟩ := in_nat b5 (show tn < 2 ^ 31 by omega)
    refine lv_if_ne (tgt := 13) hx hb dX6_leave_8 (by decide) (fun _ => ?_) (fun h => absurd h (by decide))
    refine lv_aload_n hx hb dX6_leave_13 rfl (lv_at hl 0 rfl) ?_
    refine va_get (D := D) (ci := 6) (v := .ref pe) (C := RX6) (T := TX6) (N := 9) hx hb hts iX6 hown hK hP 0 rfl rfl 1 (by decide) f21 (fun _ h9 => h9) rfl dX6_leave_14 ?_
    refine lv_aload_n hx hb dX6_leave_17 rfl (lv_at hl 0 rfl) ?_
    refine va_get (D := D) (ci := 6) (v := .ref tq) (C := RX6) (T := TX6) (N := 9) hx hb hts iX6 hown hK hP 0 rfl rfl 2 (by decide) f28 (fun _ h9 => h9) rfl dX6_leave_18 ?_
    refine lv_iload_n hx hb dX6_leave_21 rfl (lv_at hl 1 rfl) ?_
    have hPc := hP.sub (ws' := [(tq, .inr (5, [.ref xa, .ref la, .int (nI tn)])), (xa, .inl (cI, 3, .inl ts))]) [4, 5] rfl
    refine vp_callSi (va_Run.run (va_runV (As := [.int (nI j)]) (rest := [.ref pe]) ⟨hx, hb, hml, hown, hts⟩ (c_X5_setOf l D cI cO tq xa la tn ts j (by assumption) (by assumption)) (cwV 1 hts gX6_leave_X5_setOf rfl rfl rfl (by decide +kernel) ⟨Nat.le_of_ble_eq_true rfl, Nat.le_of_ble_eq_true rfl⟩) (preVR hPc hK hNw (va_recv hK hPc (ci := 5) (q0 := 0) rfl rfl)) rfl rfl hl.1 rfl (lv_room (Nat.le_of_ble_eq_true rfl)) dX6_leave_22 ⟨Nat.zero_le _, Nat.zero_le _⟩)) (fun r22 w22 => ?_)
    obtain rfl := w22
    have hPc := hP.sub (ws' := [(pe, .inr (1, [.ref ka, .ref sa, .int (nI n)])), (sa, .inl (cI, 9, .inl sd))]) [1, 3] rfl
    refine vp_callSi (va_Run.run (va_runV (As := [.int (ts j)]) (rest := []) ⟨hx, hb, hml, hown, hts⟩ (c_X1_cornerOf l D cI cO pe ka sa n sd (ts j) (by assumption) (by assumption)) (cwV 1 hts gX6_leave_X1_cornerOf rfl rfl rfl (by decide +kernel) ⟨Nat.le_of_ble_eq_true rfl, Nat.le_of_ble_eq_true rfl⟩) (preVR hPc hK hNw (va_recv hK hPc (ci := 1) (q0 := 0) rfl rfl)) rfl rfl hl.1 rfl (lv_room (Nat.le_of_ble_eq_true rfl)) dX6_leave_25 ⟨Nat.zero_le _, Nat.zero_le _⟩)) (fun r25 w25 => ?_)
    obtain rfl := w25
    refine lv_istore_n (lv' := [(2, .int (cornW sd (ts j) n)), (0, .ref h), (1, .int (nI j))]) hx hb dX6_leave_28 rfl hl (by decide) rfl (fun ls hl => ?_)
    refine lv_aload_n hx hb dX6_leave_29 rfl (lv_at hl 1 rfl) ?_
    refine va_get (D := D) (ci := 6) (v := .ref tq) (C := RX6) (T := TX6) (N := 9) hx hb hts iX6 hown hK hP 0 rfl rfl 2 (by decide) f28 (fun _ h9 => h9) rfl dX6_leave_30 ?_
    refine lv_iload_n hx hb dX6_leave_33 rfl (lv_at hl 2 rfl) ?_
    have hPc := hP.sub (ws' := [(tq, .inr (5, [.ref xa, .ref la, .int (nI tn)])), (xa, .inl (cI, 3, .inl ts)), (la, .inl (cI, 3, .inl tl))]) [4, 5, 6] rfl
    have hDc := hD.sub (ws' := [(tq, .inr (5, [.ref xa, .ref la, .int (nI tn)])), (xa, .inl (cI, 3, .inl ts)), (la, .inl (cI, 3, .inl tl))]) [4, 5, 6] (by decide) rfl
    have hFc := va_free (wc := [(tq, .inr (5, [.ref xa, .ref la, .int (nI tn)])), (xa, .inl (cI, 3, .inl ts)), (la, .inl (cI, 3, .inl tl))]) hD hS hA [4, 5, 6] rfl
    refine va_callv (va_runV (As := [.int (nI j)]) (rest := []) ⟨hx, hb, hml, hown, hts⟩ (c_X5_drop l D cI cO tq xa la tn ts tl j _ (by assumption) (by assumption)) (cwV 1 hts gX6_leave_X5_drop rfl rfl rfl (by decide +kernel) ⟨Nat.le_of_ble_eq_true rfl, Nat.le_of_ble_eq_true rfl⟩) (preVW hPc hK hNw hDc (va_recv hK hPc (ci := 5) (q0 := 0) rfl rfl)) rfl rfl hl.1 rfl (lv_room (Nat.le_of_ble_eq_true rfl)) dX6_leave_34 ⟨Nat.zero_le _, Nat.zero_le _⟩) hS (fun q _ h => hFc q h) hFc (fun u t H1 locs ht hvm w34 hB hz1 hk1 hS => ?_)
    obtain ⟨ts1_34, tl1_34⟩ := u
    obtain ⟨hP1, hK1, hD1⟩ := hB
    rw [ht] at hP1
    try dsimp only at w34
    obtain ⟨hP, hD⟩ := va_join (wr := [(h, .inr (6, [.ref aS, .ref pe, .ref tq, .ref se, .ref mo, .ref re, .int bar, .int tr, .int fa])), (pe, .inr (1, [.ref ka, .ref sa, .int (nI n)])), (ka, .inl (cI, 9, .inl kd)), (sa, .inl (cI, 9, .inl sd))]) (w1 := [(tq, .inr (5, [.ref xa, .ref la, .int (nI (tn - 1))])), (xa, .inl (cI, 3, .inl ts1_34)), (la, .inl (cI, 3, .inl tl1_34))]) hP hD [4, 5, 6] [0, 1, 2, 3] rfl rfl (by decide) (by decide) hk1 hFc hP1 hD1
    generalize H1 = H at hP hS ⊢
    have hP := hP.sub (ws' := [(h, .inr (6, [.ref aS, .ref pe, .ref tq, .ref se, .ref mo, .ref re, .int bar, .int tr, .int fa])), (pe, .inr (1, [.ref ka, .ref sa, .int (nI n)])), (ka, .inl (cI, 9, .inl kd)), (sa, .inl (cI, 9, .inl sd)), (tq, .inr (5, [.ref xa, .ref la, .int (nI (tn - 1))])), (xa, .inl (cI, 3, .inl ts1_34)), (la, .inl (cI, 3, .inl tl1_34))]) [0, 1, 2, 3, 4, 5, 6] rfl
    have hD := hD.sub (ws' := [(h, .inr (6, [.ref aS, .ref pe, .ref tq, .ref se, .ref mo, .ref re, .int bar, .int tr, .int fa])), (pe, .inr (1, [.ref ka, .ref sa, .int (nI n)])), (ka, .inl (cI, 9, .inl kd)), (sa, .inl (cI, 9, .inl sd)), (tq, .inr (5, [.ref xa, .ref la, .int (nI (tn - 1))])), (xa, .inl (cI, 3, .inl ts1_34)), (la, .inl (cI, 3, .inl tl1_34))]) [0, 1, 2, 3, 4, 5, 6] (by decide) rfl
    obtain ⟨rfl, rfl⟩ := w34
    refine lv_iload_n hx hb dX6_leave_37 rfl (lv_at hl 0 rfl) ?_
    exact W.iret (v := cornW sd (ts j) n) hx hb hr (fun t ht hW => ⟨⟨_, ((tn - 1), (shF ts j tn), (shF tl j tn)), rfl, by first | (simp [onQ_out b5]; done) | (simp [onQ_in hj (show tn < 2 ^ 31 by omega), *]; done), by rw [ht]; exact hP, va_K.moved hW.alike hK, hD⟩, hS.F ht⟩) hS.2.2 dX6_leave_38
  · -- n5
    obtain rfl := w5.2 b5
    refine lv_if_ne (tgt := 13) hx hb dX6_leave_8 (by decide) (fun h => absurd (by decide) h) (fun _ => ?_)
    refine lv_iconst (v := -1) hx hb dX6_leave_11 (by decide) ?_
    exact W.iret (v := -1) hx hb hr (fun t ht hW => ⟨⟨_, (tn, ts, tl), rfl, by first | (simp [onQ_out b5]; done) | (simp [onQ_in hj (show tn < 2 ^ 31 by omega), *]; done), by rw [ht]; exact hP, va_K.moved hW.alike hK, hD⟩, hS.F ht⟩) hS.2.2 dX6_leave_12
