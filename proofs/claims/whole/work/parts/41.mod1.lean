set_option maxHeartbeats 4000000 in
set_option maxRecDepth 100000 in
theorem c_X7_within (l : Launch) (D : va_G) (cI cO : ClassId) (v : Int32) (a : Int32) (b : Int32) : Met l yX7_within wsX7_within ({ frames := 0, cells := 0, slots := 0, locals := 0 } : Room) (va_Pc [.int v, .int a, .int b] (wdR D cI cO [])) (vp_Si (fun r => ((lstT v a b = true) → r = 1) ∧ (¬ (lstT v a b = true) → r = 0))) 0 0 (fun _ => False) := by
  refine Met.ofW (cc := cX7_within) (maxL := 3) (ret := (some .boolean)) (by decide) rfl ?_
  intro p e s m args below meth c s₁ B hml hv
  obtain ⟨rfl, hP, hK, hNw⟩ := hv
  have hx := B.exec
  have hb := B.bytes
  have hr := B.returns
  have hts := atoms_spec (ws := wsX7_within) B.pre
  have hown : s.vm.findClass RX7 = some m.cls := findClass_of_methodNamed B.named
  have hlocks := B.notSynchronized
  have hP : va_P D vwCl [] s.heap := hP
  have hl := lv_entry ([.int v, .int a, .int b]) (n := 3) (Nat.le_of_ble_eq_true rfl)
  rw [lg_entry_eq]
  generalize (lg_sl ([.int v, .int a, .int b]) ++ List.replicate (3 - (lg_sl ([.int v, .int a, .int b])).length) Slot.unset).toArray = ls at hl ⊢
  have hl : lv_has ls 3 [(0, .int v), (1, .int a), (2, .int b)] := hl
  refine lv_iload_n hx hb dX7_within_0 rfl (lv_at hl 0 rfl) ?_
  refine lv_iload_n hx hb dX7_within_1 rfl (lv_at hl 1 rfl) ?_
  refine lv_icmp_lt (tgt := 14) hx hb dX7_within_2 (by decide) (fun c2 => ?_) (fun c2 => ?_)
  · -- t2
    refine lv_iconst (v := 0) hx hb dX7_within_14 (by decide) ?_
    exact W.zret (v := 0) (ty := .boolean) hx hb hr rfl (fun t ht hW => ⟨_, rfl, by first | exact so_yes (by simp [lstT, *]; done) | exact so_no (by simp [lstT, *]; done), ht⟩) (fun _ h => absurd h List.not_mem_nil) dX7_within_15
  · -- f2
    refine lv_iload_n hx hb dX7_within_5 rfl (lv_at hl 0 rfl) ?_
    refine lv_iload_n hx hb dX7_within_6 rfl (lv_at hl 2 rfl) ?_
    refine lv_icmp_gt (tgt := 14) hx hb dX7_within_7 (by decide) (fun c7 => ?_) (fun c7 => ?_)
    · -- t7
      refine lv_iconst (v := 0) hx hb dX7_within_14 (by decide) ?_
      exact W.zret (v := 0) (ty := .boolean) hx hb hr rfl (fun t ht hW => ⟨_, rfl, by first | exact so_yes (by simp [lstT, *]; done) | exact so_no (by simp [lstT, *]; done), ht⟩) (fun _ h => absurd h List.not_mem_nil) dX7_within_15
    · -- f7
      refine lv_iconst (v := 1) hx hb dX7_within_10 (by decide) ?_
      refine lv_goto (tgt := 15) hx hb dX7_within_11 (by decide) ?_
      exact W.zret (v := 1) (ty := .boolean) hx hb hr rfl (fun t ht hW => ⟨_, rfl, by first | exact so_yes (by simp [lstT, *]; done) | exact so_no (by simp [lstT, *]; done), ht⟩) (fun _ h => absurd h List.not_mem_nil) dX7_within_15

set_option maxHeartbeats 4000000 in
set_option maxRecDepth 100000 in
theorem c_X7_isSheet (l : Launch) (D : va_G) (cI cO : ClassId) (v : Int32) : Met l yX7_isSheet wsX7_isSheet ({ frames := 1, cells := 0, slots := 0, locals := 22 } : Room) (va_Pc [.int v] (wdR D cI cO [])) (vp_Si (fun r => ((¬ v < 0 ∧ v < 4) → r = 1) ∧ (¬ (¬ v < 0 ∧ v < 4) → r = 0))) 0 0 (fun _ => False) := by
  refine Met.ofW (cc := cX7_isSheet) (maxL := 1) (ret := (some .boolean)) (by decide) rfl ?_
  intro p e s m args below meth c s₁ B hml hv
  obtain ⟨rfl, hP, hK, hNw⟩ := hv
  have hx := B.exec
  have hb := B.bytes
  have hr := B.returns
  have hts := atoms_spec (ws := wsX7_isSheet) B.pre
  have hown : s.vm.findClass RX7 = some m.cls := findClass_of_methodNamed B.named
  have hlocks := B.notSynchronized
  have hP : va_P D vwCl [] s.heap := hP
  have hl := lv_entry ([.int v]) (n := 1) (Nat.le_of_ble_eq_true rfl)
  rw [lg_entry_eq]
  generalize (lg_sl ([.int v]) ++ List.replicate (1 - (lg_sl ([.int v])).length) Slot.unset).toArray = ls at hl ⊢
  have hl : lv_has ls 1 [(0, .int v)] := hl
  refine lv_iload_n hx hb dX7_isSheet_0 rfl (lv_at hl 0 rfl) ?_
  refine lv_iconst (v := 0) hx hb dX7_isSheet_1 (by decide) ?_
  refine lv_iconst (v := 3) hx hb dX7_isSheet_2 (by decide) ?_
  have hPc := hP.sub (ws' := []) [] rfl
  refine vp_callSi (va_Run.run (va_runS (As := [.int v, .int 0, .int 3]) (rest := []) ⟨hx, hb, hml, hown, hts⟩ (c_X7_within l D cI cO v 0 3) (va_cwS 3 hts gX7_isSheet_X7_within rfl rfl rfl (by decide +kernel) ⟨Nat.le_of_ble_eq_true rfl, Nat.le_of_ble_eq_true rfl⟩) (preSR hPc hK hNw) rfl rfl hl.1 rfl (lv_room (Nat.le_of_ble_eq_true rfl)) dX7_isSheet_3 ⟨Nat.zero_le _, Nat.zero_le _⟩)) (fun r3 w3 => ?_)
  by_cases b3 : lstT v 0 3 = true
  · -- y3
    obtain rfl := w3.1 b3
    exact W.zret (v := 1) (ty := .boolean) hx hb hr rfl (fun t ht hW => ⟨_, rfl, by first | exact ⟨fun _ => rfl, fun q => absurd (lst03.mp b3) q⟩ | exact ⟨fun q => absurd (lst03.mpr q) b3, fun _ => rfl⟩, ht⟩) (fun _ h => absurd h List.not_mem_nil) dX7_isSheet_6
  · -- n3
    obtain rfl := w3.2 b3
    exact W.zret (v := 0) (ty := .boolean) hx hb hr rfl (fun t ht hW => ⟨_, rfl, by first | exact ⟨fun _ => rfl, fun q => absurd (lst03.mp b3) q⟩ | exact ⟨fun q => absurd (lst03.mpr q) b3, fun _ => rfl⟩, ht⟩) (fun _ h => absurd h List.not_mem_nil) dX7_isSheet_6

set_option maxHeartbeats 4000000 in
set_option maxRecDepth 100000 in
theorem c_X7_isSort (l : Launch) (D : va_G) (cI cO : ClassId) (v : Int32) : Met l yX7_isSort wsX7_isSort ({ frames := 1, cells := 0, slots := 0, locals := 22 } : Room) (va_Pc [.int v] (wdR D cI cO [])) (vp_Si (fun r => ((lstT v 0 2 = true) → r = 1) ∧ (¬ (lstT v 0 2 = true) → r = 0))) 0 0 (fun _ => False) := by
  refine Met.ofW (cc := cX7_isSort) (maxL := 1) (ret := (some .boolean)) (by decide) rfl ?_
  intro p e s m args below meth c s₁ B hml hv
  obtain ⟨rfl, hP, hK, hNw⟩ := hv
  have hx := B.exec
  have hb := B.bytes
  have hr := B.returns
  have hts := atoms_spec (ws := wsX7_isSort) B.pre
  have hown : s.vm.findClass RX7 = some m.cls := findClass_of_methodNamed B.named
  have hlocks := B.notSynchronized
  have hP : va_P D vwCl [] s.heap := hP
  have hl := lv_entry ([.int v]) (n := 1) (Nat.le_of_ble_eq_true rfl)
  rw [lg_entry_eq]
  generalize (lg_sl ([.int v]) ++ List.replicate (1 - (lg_sl ([.int v])).length) Slot.unset).toArray = ls at hl ⊢
  have hl : lv_has ls 1 [(0, .int v)] := hl
  refine lv_iload_n hx hb dX7_isSort_0 rfl (lv_at hl 0 rfl) ?_
  refine lv_iconst (v := 0) hx hb dX7_isSort_1 (by decide) ?_
  refine lv_iconst (v := 2) hx hb dX7_isSort_2 (by decide) ?_
  have hPc := hP.sub (ws' := []) [] rfl
  refine vp_callSi (va_Run.run (va_runS (As := [.int v, .int 0, .int 2]) (rest := []) ⟨hx, hb, hml, hown, hts⟩ (c_X7_within l D cI cO v 0 2) (va_cwS 3 hts gX7_isSort_X7_within rfl rfl rfl (by decide +kernel) ⟨Nat.le_of_ble_eq_true rfl, Nat.le_of_ble_eq_true rfl⟩) (preSR hPc hK hNw) rfl rfl hl.1 rfl (lv_room (Nat.le_of_ble_eq_true rfl)) dX7_isSort_3 ⟨Nat.zero_le _, Nat.zero_le _⟩)) (fun r3 w3 => ?_)
  by_cases b3 : lstT v 0 2 = true
  · -- y3
    obtain rfl := w3.1 b3
    exact W.zret (v := 1) (ty := .boolean) hx hb hr rfl (fun t ht hW => ⟨_, rfl, by first | exact ⟨fun _ => rfl, fun q => absurd b3 q⟩ | exact ⟨fun q => absurd q b3, fun _ => rfl⟩, ht⟩) (fun _ h => absurd h List.not_mem_nil) dX7_isSort_6
  · -- n3
    obtain rfl := w3.2 b3
    exact W.zret (v := 0) (ty := .boolean) hx hb hr rfl (fun t ht hW => ⟨_, rfl, by first | exact ⟨fun _ => rfl, fun q => absurd b3 q⟩ | exact ⟨fun q => absurd q b3, fun _ => rfl⟩, ht⟩) (fun _ h => absurd h List.not_mem_nil) dX7_isSort_6

set_option maxHeartbeats 4000000 in
set_option maxRecDepth 100000 in
theorem c_X7_fails (l : Launch) (D : va_G) (cI cO : ClassId) (x : Nat) (fa : Int32) (tr : Int32) (so : Nat) (sl : Nat) (ce : Nat) (n : Nat) (bar : Int32) (tn : Nat) (ki : Nat) (si : Nat) (th : Nat) (ri : Nat) (at_ : Int32) (rp : Int32) (rk : Nat) (rs : Nat) (kt : Nat) (kr : Nat) (kn : Int32) (rg : Int32) (ab : Nat) (am : Int32) (bh : Nat) (bm : Int32) (br : Int32) (rn : Nat) (wa : Nat) (ra : Nat) (mt : Int32) (sz : Nat) : Met l yX7_fails wsX7_fails ({ frames := 0, cells := 0, slots := 0, locals := 0 } : Room) (va_Pc [.ref x, .int mt] (wdW D cI cO [(x, .inr (7, [.int fa, .int tr, .ref so, .ref sl, .ref ce, .int (nI n), .int bar, .int (nI tn), .ref ki, .ref si, .ref th, .ref ri, .int at_, .int rp, .ref rk, .ref rs, .ref kt, .ref kr, .int kn, .int rg, .ref ab, .int am, .ref bh, .int bm, .int br, .int (nI rn), .ref wa, .ref ra]))] sz)) (va_Qi (S := Unit) (fun r u => r = (-10 - mt)) (fun u t => va_P D vwCl [(x, .inr (7, [.int mt, .int tr, .ref so, .ref sl, .ref ce, .int (nI n), .int bar, .int (nI tn), .ref ki, .ref si, .ref th, .ref ri, .int at_, .int rp, .ref rk, .ref rs, .ref kt, .ref kr, .int kn, .int rg, .ref ab, .int am, .ref bh, .int bm, .int br, .int (nI rn), .ref wa, .ref ra]))] t.heap ∧ va_K D vwCl (tyL cI cO) t ∧ va_D (va_A [(x, .inr (7, [.int fa, .int tr, .ref so, .ref sl, .ref ce, .int (nI n), .int bar, .int (nI tn), .ref ki, .ref si, .ref th, .ref ri, .int at_, .int rp, .ref rk, .ref rs, .ref kt, .ref kr, .int kn, .int rg, .ref ab, .int am, .ref bh, .int bm, .int br, .int (nI rn), .ref wa, .ref ra]))] sz) [(x, .inr (7, [.int mt, .int tr, .ref so, .ref sl, .ref ce, .int (nI n), .int bar, .int (nI tn), .ref ki, .ref si, .ref th, .ref ri, .int at_, .int rp, .ref rk, .ref rs, .ref kt, .ref kr, .int kn, .int rg, .ref ab, .int am, .ref bh, .int bm, .int br, .int (nI rn), .ref wa, .ref ra]))]) (va_A [(x, .inr (7, [.int fa, .int tr, .ref so, .ref sl, .ref ce, .int (nI n), .int bar, .int (nI tn), .ref ki, .ref si, .ref th, .ref ri, .int at_, .int rp, .ref rk, .ref rs, .ref kt, .ref kr, .int kn, .int rg, .ref ab, .int am, .ref bh, .int bm, .int br, .int (nI rn), .ref wa, .ref ra]))] sz)) 0 0 (va_A [(x, .inr (7, [.int fa, .int tr, .ref so, .ref sl, .ref ce, .int (nI n), .int bar, .int (nI tn), .ref ki, .ref si, .ref th, .ref ri, .int at_, .int rp, .ref rk, .ref rs, .ref kt, .ref kr, .int kn, .int rg, .ref ab, .int am, .ref bh, .int bm, .int br, .int (nI rn), .ref wa, .ref ra]))] sz) := by
  refine Met.ofW (cc := cX7_fails) (maxL := 2) (ret := (some .int)) (by decide) rfl ?_
  intro p e s m args below meth c s₁ B hml hv
  obtain ⟨rfl, hsz, hP, hK, hNw, hD0⟩ := hv
  have hx := B.exec
  have hb := B.bytes
  have hr := B.returns
  have hts := atoms_spec (ws := wsX7_fails) B.pre
  have hown : s.vm.findClass RX7 = some m.cls := findClass_of_methodNamed B.named
  have hlocks := B.notSynchronized
  have f55 := hts (.fieldLink RX7 55 "StruckThreesModel" "fault" "I") (by decide +kernel)
  have iX7 : ∀ w ∈ wsX70, w ∈ wsX7_fails := by decide +kernel
  subst hsz
  have hD := hD0.self (sz := s.heap.size)
  generalize hAe : va_A [(x, .inr (7, [.int fa, .int tr, .ref so, .ref sl, .ref ce, .int (nI n), .int bar, .int (nI tn), .ref ki, .ref si, .ref th, .ref ri, .int at_, .int rp, .ref rk, .ref rs, .ref kt, .ref kr, .int kn, .int rg, .ref ab, .int am, .ref bh, .int bm, .int br, .int (nI rn), .ref wa, .ref ra]))] s.heap.size = A at hD ⊢
  have hA : ∀ q : Nat, s.heap.size ≤ q → A q := fun q h => by rw [← hAe]; exact Or.inr h
  have hS : va_S A s.heap s.heap [] := va_S.rf
  have hP : va_P D vwCl [(x, .inr (7, [.int fa, .int tr, .ref so, .ref sl, .ref ce, .int (nI n), .int bar, .int (nI tn), .ref ki, .ref si, .ref th, .ref ri, .int at_, .int rp, .ref rk, .ref rs, .ref kt, .ref kr, .int kn, .int rg, .ref ab, .int am, .ref bh, .int bm, .int br, .int (nI rn), .ref wa, .ref ra]))] s.heap := hP
  have hl := lv_entry ([.ref x, .int mt]) (n := 2) (Nat.le_of_ble_eq_true rfl)
  rw [lg_entry_eq]
  generalize (lg_sl ([.ref x, .int mt]) ++ List.replicate (2 - (lg_sl ([.ref x, .int mt])).length) Slot.unset).toArray = ls at hl ⊢
  have hl : lv_has ls 2 [(0, .ref x), (1, .int mt)] := hl
  refine lv_aload_n hx hb dX7_fails_0 rfl (lv_at hl 0 rfl) ?_
  refine lv_iload_n hx hb dX7_fails_1 rfl (lv_at hl 1 rfl) ?_
  refine va_put (D := D) (ci := 7) (v := .int mt) (ty := .int) (C := RX7) (T := TX7) (N := 28) hx hb hts iX7 tyX7 tyX7_ok nmX7 hown hK hP hD hS 0 rfl rfl 0 (by decide) f55 (fun _ h9 => h9) rfl (by decide +kernel) rfl rfl (Nat.le_of_ble_eq_true rfl) dX7_fails_2 (fun H locs hP hD hS => ?_)
  have hP : va_P D vwCl [(x, .inr (7, [.int mt, .int tr, .ref so, .ref sl, .ref ce, .int (nI n), .int bar, .int (nI tn), .ref ki, .ref si, .ref th, .ref ri, .int at_, .int rp, .ref rk, .ref rs, .ref kt, .ref kr, .int kn, .int rg, .ref ab, .int am, .ref bh, .int bm, .int br, .int (nI rn), .ref wa, .ref ra]))] H := hP
  have hD : va_D A [(x, .inr (7, [.int mt, .int tr, .ref so, .ref sl, .ref ce, .int (nI n), .int bar, .int (nI tn), .ref ki, .ref si, .ref th, .ref ri, .int at_, .int rp, .ref rk, .ref rs, .ref kt, .ref kr, .int kn, .int rg, .ref ab, .int am, .ref bh, .int bm, .int br, .int (nI rn), .ref wa, .ref ra]))] := hD
  refine lv_bipush (v := -10) hx hb dX7_fails_5 (by decide) ?_
  refine lv_iload_n hx hb dX7_fails_7 rfl (lv_at hl 1 rfl) ?_
  refine lv_isub hx hb dX7_fails_8 ?_
  exact W.iret (v := (-10) - mt) hx hb hr (fun t ht hW => ⟨⟨_, (), rfl, by rfl, by rw [ht]; exact hP, va_K.moved hW.alike hK, hD⟩, hS.F ht⟩) hS.2.2 dX7_fails_9

set_option maxHeartbeats 4000000 in
set_option maxRecDepth 100000 in
theorem c_X7_lost (l : Launch) (D : va_G) (cI cO : ClassId) (x : Nat) (fa : Int32) (tr : Int32) (so : Nat) (sl : Nat) (ce : Nat) (n : Nat) (bar : Int32) (tn : Nat) (ki : Nat) (si : Nat) (th : Nat) (ri : Nat) (at_ : Int32) (rp : Int32) (rk : Nat) (rs : Nat) (kt : Nat) (kr : Nat) (kn : Int32) (rg : Int32) (ab : Nat) (am : Int32) (bh : Nat) (bm : Int32) (br : Int32) (rn : Nat) (wa : Nat) (ra : Nat) (mt : Int32) (sz : Nat) : Met l yX7_lost wsX7_lost ({ frames := 0, cells := 0, slots := 0, locals := 0 } : Room) (va_Pc [.ref x, .int mt] (wdW D cI cO [(x, .inr (7, [.int fa, .int tr, .ref so, .ref sl, .ref ce, .int (nI n), .int bar, .int (nI tn), .ref ki, .ref si, .ref th, .ref ri, .int at_, .int rp, .ref rk, .ref rs, .ref kt, .ref kr, .int kn, .int rg, .ref ab, .int am, .ref bh, .int bm, .int br, .int (nI rn), .ref wa, .ref ra]))] sz)) (va_Ql (S := Unit) (fun r u => r = (-9223372036854775808 : Int64)) (fun u t => va_P D vwCl [(x, .inr (7, [.int mt, .int tr, .ref so, .ref sl, .ref ce, .int (nI n), .int bar, .int (nI tn), .ref ki, .ref si, .ref th, .ref ri, .int at_, .int rp, .ref rk, .ref rs, .ref kt, .ref kr, .int kn, .int rg, .ref ab, .int am, .ref bh, .int bm, .int br, .int (nI rn), .ref wa, .ref ra]))] t.heap ∧ va_K D vwCl (tyL cI cO) t ∧ va_D (va_A [(x, .inr (7, [.int fa, .int tr, .ref so, .ref sl, .ref ce, .int (nI n), .int bar, .int (nI tn), .ref ki, .ref si, .ref th, .ref ri, .int at_, .int rp, .ref rk, .ref rs, .ref kt, .ref kr, .int kn, .int rg, .ref ab, .int am, .ref bh, .int bm, .int br, .int (nI rn), .ref wa, .ref ra]))] sz) [(x, .inr (7, [.int mt, .int tr, .ref so, .ref sl, .ref ce, .int (nI n), .int bar, .int (nI tn), .ref ki, .ref si, .ref th, .ref ri, .int at_, .int rp, .ref rk, .ref rs, .ref kt, .ref kr, .int kn, .int rg, .ref ab, .int am, .ref bh, .int bm, .int br, .int (nI rn), .ref wa, .ref ra]))]) (va_A [(x, .inr (7, [.int fa, .int tr, .ref so, .ref sl, .ref ce, .int (nI n), .int bar, .int (nI tn), .ref ki, .ref si, .ref th, .ref ri, .int at_, .int rp, .ref rk, .ref rs, .ref kt, .ref kr, .int kn, .int rg, .ref ab, .int am, .ref bh, .int bm, .int br, .int (nI rn), .ref wa, .ref ra]))] sz)) 0 0 (va_A [(x, .inr (7, [.int fa, .int tr, .ref so, .ref sl, .ref ce, .int (nI n), .int bar, .int (nI tn), .ref ki, .ref si, .ref th, .ref ri, .int at_, .int rp, .ref rk, .ref rs, .ref kt, .ref kr, .int kn, .int rg, .ref ab, .int am, .ref bh, .int bm, .int br, .int (nI rn), .ref wa, .ref ra]))] sz) := by
  refine Met.ofW (cc := cX7_lost) (maxL := 2) (ret := (some .long)) (by decide) rfl ?_
  intro p e s m args below meth c s₁ B hml hv
  obtain ⟨rfl, hsz, hP, hK, hNw, hD0⟩ := hv
  have hx := B.exec
  have hb := B.bytes
  have hr := B.returns
  have hts := atoms_spec (ws := wsX7_lost) B.pre
  have hown : s.vm.findClass RX7 = some m.cls := findClass_of_methodNamed B.named
  have hlocks := B.notSynchronized
  have f55 := hts (.fieldLink RX7 55 "StruckThreesModel" "fault" "I") (by decide +kernel)
  have iX7 : ∀ w ∈ wsX70, w ∈ wsX7_lost := by decide +kernel
  subst hsz
  have hD := hD0.self (sz := s.heap.size)
  generalize hAe : va_A [(x, .inr (7, [.int fa, .int tr, .ref so, .ref sl, .ref ce, .int (nI n), .int bar, .int (nI tn), .ref ki, .ref si, .ref th, .ref ri, .int at_, .int rp, .ref rk, .ref rs, .ref kt, .ref kr, .int kn, .int rg, .ref ab, .int am, .ref bh, .int bm, .int br, .int (nI rn), .ref wa, .ref ra]))] s.heap.size = A at hD ⊢
  have hA : ∀ q : Nat, s.heap.size ≤ q → A q := fun q h => by rw [← hAe]; exact Or.inr h
  have hS : va_S A s.heap s.heap [] := va_S.rf
  have hP : va_P D vwCl [(x, .inr (7, [.int fa, .int tr, .ref so, .ref sl, .ref ce, .int (nI n), .int bar, .int (nI tn), .ref ki, .ref si, .ref th, .ref ri, .int at_, .int rp, .ref rk, .ref rs, .ref kt, .ref kr, .int kn, .int rg, .ref ab, .int am, .ref bh, .int bm, .int br, .int (nI rn), .ref wa, .ref ra]))] s.heap := hP
  have hl := lv_entry ([.ref x, .int mt]) (n := 2) (Nat.le_of_ble_eq_true rfl)
  rw [lg_entry_eq]
  generalize (lg_sl ([.ref x, .int mt]) ++ List.replicate (2 - (lg_sl ([.ref x, .int mt])).length) Slot.unset).toArray = ls at hl ⊢
  have hl : lv_has ls 2 [(0, .ref x), (1, .int mt)] := hl
  refine lv_aload_n hx hb dX7_lost_0 rfl (lv_at hl 0 rfl) ?_
  refine lv_iload_n hx hb dX7_lost_1 rfl (lv_at hl 1 rfl) ?_
  refine va_put (D := D) (ci := 7) (v := .int mt) (ty := .int) (C := RX7) (T := TX7) (N := 28) hx hb hts iX7 tyX7 tyX7_ok nmX7 hown hK hP hD hS 0 rfl rfl 0 (by decide) f55 (fun _ h9 => h9) rfl (by decide +kernel) rfl rfl (Nat.le_of_ble_eq_true rfl) dX7_lost_2 (fun H locs hP hD hS => ?_)
  have hP : va_P D vwCl [(x, .inr (7, [.int mt, .int tr, .ref so, .ref sl, .ref ce, .int (nI n), .int bar, .int (nI tn), .ref ki, .ref si, .ref th, .ref ri, .int at_, .int rp, .ref rk, .ref rs, .ref kt, .ref kr, .int kn, .int rg, .ref ab, .int am, .ref bh, .int bm, .int br, .int (nI rn), .ref wa, .ref ra]))] H := hP
  have hD : va_D A [(x, .inr (7, [.int mt, .int tr, .ref so, .ref sl, .ref ce, .int (nI n), .int bar, .int (nI tn), .ref ki, .ref si, .ref th, .ref ri, .int at_, .int rp, .ref rk, .ref rs, .ref kt, .ref kr, .int kn, .int rg, .ref ab, .int am, .ref bh, .int bm, .int br, .int (nI rn), .ref wa, .ref ra]))] := hD
  refine lv_ldc2 hx hb hown (hts (.constantLong RX7 59 (-9223372036854775808)) (by decide +kernel)) dX7_lost_5 ?_
  exact W.lret (v := (-9223372036854775808)) hx hb hr (fun t ht hW => ⟨⟨_, (), rfl, by rfl, by rw [ht]; exact hP, va_K.moved hW.alike hK, hD⟩, hS.F ht⟩) hS.2.2 dX7_lost_8

set_option maxHeartbeats 4000000 in
set_option maxRecDepth 100000 in
theorem c_X7_against (l : Launch) (D : va_G) (cI cO : ClassId) (x : Nat) (fa : Int32) (tr : Int32) (so : Nat) (sl : Nat) (ce : Nat) (n : Nat) (bar : Int32) (tn : Nat) (ki : Nat) (si : Nat) (th : Nat) (ri : Nat) (at_ : Int32) (rp : Int32) (rk : Nat) (rs : Nat) (kt : Nat) (kr : Nat) (kn : Int32) (rg : Int32) (ab : Nat) (am : Int32) (bh : Nat) (bm : Int32) (br : Int32) (rn : Nat) (wa : Nat) (ra : Nat) (sv : Nat → Int32) (lv : Nat → Int32) (q : Nat) (w : Int32) (i : Int32) (v : Int32) (hq4 : q < 4) : Met l yX7_against wsX7_against ({ frames := 0, cells := 0, slots := 0, locals := 0 } : Room) (va_Pc [.ref x, .int (nI q), .int w, .int i, .int v] (wdR D cI cO [(x, .inr (7, [.int fa, .int tr, .ref so, .ref sl, .ref ce, .int (nI n), .int bar, .int (nI tn), .ref ki, .ref si, .ref th, .ref ri, .int at_, .int rp, .ref rk, .ref rs, .ref kt, .ref kr, .int kn, .int rg, .ref ab, .int am, .ref bh, .int bm, .int br, .int (nI rn), .ref wa, .ref ra])), (so, .inl (cI, 4, .inl sv)), (sl, .inl (cI, 4, .inl lv))])) (vp_Si (fun r => r = (agI (sv q) (lv q) w i v))) 0 0 (fun _ => False) := by
  refine Met.ofW (cc := cX7_against) (maxL := 5) (ret := (some .int)) (by decide) rfl ?_
  intro p e s m args below meth c s₁ B hml hv
  obtain ⟨rfl, hP, hK, hNw⟩ := hv
  have hx := B.exec
  have hb := B.bytes
  have hr := B.returns
  have hts := atoms_spec (ws := wsX7_against) B.pre
  have hown : s.vm.findClass RX7 = some m.cls := findClass_of_methodNamed B.named
  have hlocks := B.notSynchronized
  have f9 := hts (.fieldLink RX7 9 "StruckThreesModel" "sorts" "[I") (by decide +kernel)
  have f13 := hts (.fieldLink RX7 13 "StruckThreesModel" "sheetLong" "[I") (by decide +kernel)
  have iX7 : ∀ w ∈ wsX70, w ∈ wsX7_against := by decide +kernel
  have hP : va_P D vwCl [(x, .inr (7, [.int fa, .int tr, .ref so, .ref sl, .ref ce, .int (nI n), .int bar, .int (nI tn), .ref ki, .ref si, .ref th, .ref ri, .int at_, .int rp, .ref rk, .ref rs, .ref kt, .ref kr, .int kn, .int rg, .ref ab, .int am, .ref bh, .int bm, .int br, .int (nI rn), .ref wa, .ref ra])), (so, .inl (cI, 4, .inl sv)), (sl, .inl (cI, 4, .inl lv))] s.heap := hP
  have hl := lv_entry ([.ref x, .int (nI q), .int w, .int i, .int v]) (n := 5) (Nat.le_of_ble_eq_true rfl)
  rw [lg_entry_eq]
  generalize (lg_sl ([.ref x, .int (nI q), .int w, .int i, .int v]) ++ List.replicate (5 - (lg_sl ([.ref x, .int (nI q), .int w, .int i, .int v])).length) Slot.unset).toArray = ls at hl ⊢
  have hl : lv_has ls 5 [(0, .ref x), (1, .int (nI q)), (2, .int w), (3, .int i), (4, .int v)] := hl
  refine lv_aload_n hx hb dX7_against_0 rfl (lv_at hl 0 rfl) ?_
  refine va_get (D := D) (ci := 7) (v := .ref so) (C := RX7) (T := TX7) (N := 28) hx hb hts iX7 hown hK hP 0 rfl rfl 2 (by decide) f9 (fun _ h9 => h9) rfl dX7_against_1 ?_
  refine lv_iload_n hx hb dX7_against_4 rfl (lv_at hl 1 rfl) ?_
  refine va_iald hx hb hK hP 1 0 rfl rfl (vp_in_nI (by omega) (by decide)) dX7_against_5 ?_
  refine tp_i (y := sv q) (by rw [nI_clamp (n := q) (by omega)]) ?_
  refine lv_bipush (v := -9) hx hb dX7_against_6 (by decide) ?_
  refine lv_icmp_eq (tgt := 23) hx hb dX7_against_8 (by decide) (fun c8 => ?_) (fun c8 => ?_)
  · -- t8
    refine lv_aload_n hx hb dX7_against_23 rfl (lv_at hl 0 rfl) ?_
    refine va_get (D := D) (ci := 7) (v := .ref so) (C := RX7) (T := TX7) (N := 28) hx hb hts iX7 hown hK hP 0 rfl rfl 2 (by decide) f9 (fun _ h9 => h9) rfl dX7_against_24 ?_
    refine lv_iload_n hx hb dX7_against_27 rfl (lv_at hl 1 rfl) ?_
    refine va_iald hx hb hK hP 1 0 rfl rfl (vp_in_nI (by omega) (by decide)) dX7_against_28 ?_
    refine tp_i (y := sv q) (by rw [nI_clamp (n := q) (by omega)]) ?_
    refine lv_bipush (v := -9) hx hb dX7_against_29 (by decide) ?_
    refine lv_icmp_ne (tgt := 36) hx hb dX7_against_31 (by decide) (fun c31 => ?_) (fun c31 => ?_)
    · -- t31
      exact absurd c8 c31
    · -- f31
      refine lv_iconst (v := 1) hx hb dX7_against_34 (by decide) ?_
      exact W.iret (v := 1) hx hb hr (fun t ht hW => ⟨_, rfl, by simp [agI, *], ht⟩) (fun _ h => absurd h List.not_mem_nil) dX7_against_35
  · -- f8
    refine lv_aload_n hx hb dX7_against_11 rfl (lv_at hl 0 rfl) ?_
    refine va_get (D := D) (ci := 7) (v := .ref so) (C := RX7) (T := TX7) (N := 28) hx hb hts iX7 hown hK hP 0 rfl rfl 2 (by decide) f9 (fun _ h9 => h9) rfl dX7_against_12 ?_
    refine lv_iload_n hx hb dX7_against_15 rfl (lv_at hl 1 rfl) ?_
    refine va_iald hx hb hK hP 1 0 rfl rfl (vp_in_nI (by omega) (by decide)) dX7_against_16 ?_
    refine tp_i (y := sv q) (by rw [nI_clamp (n := q) (by omega)]) ?_
    refine lv_iload_n hx hb dX7_against_17 rfl (lv_at hl 2 rfl) ?_
    refine lv_icmp_eq (tgt := 23) hx hb dX7_against_18 (by decide) (fun c18 => ?_) (fun c18 => ?_)
    · -- t18
      have c19 : ¬ w = -9 := fun z => c8 (c18.trans z)
      refine lv_aload_n hx hb dX7_against_23 rfl (lv_at hl 0 rfl) ?_
      refine va_get (D := D) (ci := 7) (v := .ref so) (C := RX7) (T := TX7) (N := 28) hx hb hts iX7 hown hK hP 0 rfl rfl 2 (by decide) f9 (fun _ h9 => h9) rfl dX7_against_24 ?_
      refine lv_iload_n hx hb dX7_against_27 rfl (lv_at hl 1 rfl) ?_
      refine va_iald hx hb hK hP 1 0 rfl rfl (vp_in_nI (by omega) (by decide)) dX7_against_28 ?_
      refine tp_i (y := sv q) (by rw [nI_clamp (n := q) (by omega)]) ?_
      refine lv_bipush (v := -9) hx hb dX7_against_29 (by decide) ?_
      refine lv_icmp_ne (tgt := 36) hx hb dX7_against_31 (by decide) (fun c31 => ?_) (fun c31 => ?_)
      · -- t31
        refine lv_iload hx hb dX7_against_36 (lv_at hl 4 rfl) ?_
        refine lv_if_ge (tgt := 43) hx hb dX7_against_38 (by decide) (fun c38 => ?_) (fun c38 => ?_)
        · -- t38
          refine lv_iload_n hx hb dX7_against_43 rfl (lv_at hl 3 rfl) ?_
          refine lv_if_lt (tgt := 70) hx hb dX7_against_44 (by decide) (fun c44 => ?_) (fun c44 => ?_)
          · -- t44
            refine lv_iconst (v := 3) hx hb dX7_against_70 (by decide) ?_
            refine lv_goto (tgt := 75) hx hb dX7_against_71 (by decide) ?_
            exact W.iret (v := 3) hx hb hr (fun t ht hW => ⟨_, rfl, by simp [agI, *], ht⟩) (fun _ h => absurd h List.not_mem_nil) dX7_against_75
          · -- f44
            refine lv_iload_n hx hb dX7_against_47 rfl (lv_at hl 3 rfl) ?_
            refine lv_aload_n hx hb dX7_against_48 rfl (lv_at hl 0 rfl) ?_
            refine va_get (D := D) (ci := 7) (v := .ref sl) (C := RX7) (T := TX7) (N := 28) hx hb hts iX7 hown hK hP 0 rfl rfl 3 (by decide) f13 (fun _ h9 => h9) rfl dX7_against_49 ?_
            refine lv_iload_n hx hb dX7_against_52 rfl (lv_at hl 1 rfl) ?_
            refine va_iald hx hb hK hP 2 0 rfl rfl (vp_in_nI (by omega) (by decide)) dX7_against_53 ?_
            refine tp_i (y := lv q) (by rw [nI_clamp (n := q) (by omega)]) ?_
            refine lv_icmp_gt (tgt := 70) hx hb dX7_against_54 (by decide) (fun c54 => ?_) (fun c54 => ?_)
            · -- t54
              refine lv_iconst (v := 3) hx hb dX7_against_70 (by decide) ?_
              refine lv_goto (tgt := 75) hx hb dX7_against_71 (by decide) ?_
              exact W.iret (v := 3) hx hb hr (fun t ht hW => ⟨_, rfl, by simp [agI, *], ht⟩) (fun _ h => absurd h List.not_mem_nil) dX7_against_75
            · -- f54
              refine lv_iload hx hb dX7_against_57 (lv_at hl 4 rfl) ?_
              refine lv_aload_n hx hb dX7_against_59 rfl (lv_at hl 0 rfl) ?_
              refine va_get (D := D) (ci := 7) (v := .ref sl) (C := RX7) (T := TX7) (N := 28) hx hb hts iX7 hown hK hP 0 rfl rfl 3 (by decide) f13 (fun _ h9 => h9) rfl dX7_against_60 ?_
              refine lv_iload_n hx hb dX7_against_63 rfl (lv_at hl 1 rfl) ?_
              refine va_iald hx hb hK hP 2 0 rfl rfl (vp_in_nI (by omega) (by decide)) dX7_against_64 ?_
              refine tp_i (y := lv q) (by rw [nI_clamp (n := q) (by omega)]) ?_
              refine lv_iload_n hx hb dX7_against_65 rfl (lv_at hl 3 rfl) ?_
              refine lv_isub hx hb dX7_against_66 ?_
              refine lv_icmp_le (tgt := 74) hx hb dX7_against_67 (by decide) (fun c67 => ?_) (fun c67 => ?_)
              · -- t67
                refine lv_iconst (v := 0) hx hb dX7_against_74 (by decide) ?_
                exact W.iret (v := 0) hx hb hr (fun t ht hW => ⟨_, rfl, by simp [agI, *], ht⟩) (fun _ h => absurd h List.not_mem_nil) dX7_against_75
              · -- f67
                refine lv_iconst (v := 3) hx hb dX7_against_70 (by decide) ?_
                refine lv_goto (tgt := 75) hx hb dX7_against_71 (by decide) ?_
                exact W.iret (v := 3) hx hb hr (fun t ht hW => ⟨_, rfl, by simp [agI, *], ht⟩) (fun _ h => absurd h List.not_mem_nil) dX7_against_75
        · -- f38
          refine lv_iconst (v := 4) hx hb dX7_against_41 (by decide) ?_
          exact W.iret (v := 4) hx hb hr (fun t ht hW => ⟨_, rfl, by simp [agI, *], ht⟩) (fun _ h => absurd h List.not_mem_nil) dX7_against_42
      · -- f31
        exact absurd c31 c8
    · -- f18
      refine lv_iconst (v := 2) hx hb dX7_against_21 (by decide) ?_
      exact W.iret (v := 2) hx hb hr (fun t ht hW => ⟨_, rfl, by simp [agI, *], ht⟩) (fun _ h => absurd h List.not_mem_nil) dX7_against_22

set_option maxHeartbeats 4000000 in
set_option maxRecDepth 100000 in
theorem c_X7_isPerson (l : Launch) (D : va_G) (cI cO : ClassId) (x : Nat) (fa : Int32) (tr : Int32) (so : Nat) (sl : Nat) (ce : Nat) (n : Nat) (bar : Int32) (tn : Nat) (ki : Nat) (si : Nat) (th : Nat) (ri : Nat) (at_ : Int32) (rp : Int32) (rk : Nat) (rs : Nat) (kt : Nat) (kr : Nat) (kn : Int32) (rg : Int32) (ab : Nat) (am : Int32) (bh : Nat) (bm : Int32) (br : Int32) (rn : Nat) (wa : Nat) (ra : Nat) (pp : Int32) : Met l yX7_isPerson wsX7_isPerson ({ frames := 0, cells := 0, slots := 0, locals := 0 } : Room) (va_Pc [.ref x, .int pp] (wdR D cI cO [(x, .inr (7, [.int fa, .int tr, .ref so, .ref sl, .ref ce, .int (nI n), .int bar, .int (nI tn), .ref ki, .ref si, .ref th, .ref ri, .int at_, .int rp, .ref rk, .ref rs, .ref kt, .ref kr, .int kn, .int rg, .ref ab, .int am, .ref bh, .int bm, .int br, .int (nI rn), .ref wa, .ref ra]))])) (vp_Si (fun r => ((¬ pp < 0 ∧ ¬ nI n ≤ pp) → r = 1) ∧ (¬ (¬ pp < 0 ∧ ¬ nI n ≤ pp) → r = 0))) 0 0 (fun _ => False) := by
  refine Met.ofW (cc := cX7_isPerson) (maxL := 2) (ret := (some .boolean)) (by decide) rfl ?_
  intro p e s m args below meth c s₁ B hml hv
  obtain ⟨rfl, hP, hK, hNw⟩ := hv
  have hx := B.exec
  have hb := B.bytes
  have hr := B.returns
  have hts := atoms_spec (ws := wsX7_isPerson) B.pre
  have hown : s.vm.findClass RX7 = some m.cls := findClass_of_methodNamed B.named
  have hlocks := B.notSynchronized
  have f65 := hts (.fieldLink RX7 65 "StruckThreesModel" "people" "I") (by decide +kernel)
  have iX7 : ∀ w ∈ wsX70, w ∈ wsX7_isPerson := by decide +kernel
  have hP : va_P D vwCl [(x, .inr (7, [.int fa, .int tr, .ref so, .ref sl, .ref ce, .int (nI n), .int bar, .int (nI tn), .ref ki, .ref si, .ref th, .ref ri, .int at_, .int rp, .ref rk, .ref rs, .ref kt, .ref kr, .int kn, .int rg, .ref ab, .int am, .ref bh, .int bm, .int br, .int (nI rn), .ref wa, .ref ra]))] s.heap := hP
  have hl := lv_entry ([.ref x, .int pp]) (n := 2) (Nat.le_of_ble_eq_true rfl)
  rw [lg_entry_eq]
  generalize (lg_sl ([.ref x, .int pp]) ++ List.replicate (2 - (lg_sl ([.ref x, .int pp])).length) Slot.unset).toArray = ls at hl ⊢
  have hl : lv_has ls 2 [(0, .ref x), (1, .int pp)] := hl
  refine lv_iload_n hx hb dX7_isPerson_0 rfl (lv_at hl 1 rfl) ?_
  refine lv_if_lt (tgt := 16) hx hb dX7_isPerson_1 (by decide) (fun c1 => ?_) (fun c1 => ?_)
  · -- t1
    refine lv_iconst (v := 0) hx hb dX7_isPerson_16 (by decide) ?_
    exact W.zret (v := 0) (ty := .boolean) hx hb hr rfl (fun t ht hW => ⟨_, rfl, by exact ⟨fun h => by first | rfl | (exfalso; simp_all; done), fun h => by first | rfl | (exfalso; simp_all; done)⟩, ht⟩) (fun _ h => absurd h List.not_mem_nil) dX7_isPerson_17
  · -- f1
    refine lv_iload_n hx hb dX7_isPerson_4 rfl (lv_at hl 1 rfl) ?_
    refine lv_aload_n hx hb dX7_isPerson_5 rfl (lv_at hl 0 rfl) ?_
    refine va_get (D := D) (ci := 7) (v := .int (nI n)) (C := RX7) (T := TX7) (N := 28) hx hb hts iX7 hown hK hP 0 rfl rfl 5 (by decide) f65 (fun _ h9 => h9) rfl dX7_isPerson_6 ?_
    refine lv_icmp_ge (tgt := 16) hx hb dX7_isPerson_9 (by decide) (fun c9 => ?_) (fun c9 => ?_)
    · -- t9
      refine lv_iconst (v := 0) hx hb dX7_isPerson_16 (by decide) ?_
      exact W.zret (v := 0) (ty := .boolean) hx hb hr rfl (fun t ht hW => ⟨_, rfl, by exact ⟨fun h => by first | rfl | (exfalso; simp_all; done), fun h => by first | rfl | (exfalso; simp_all; done)⟩, ht⟩) (fun _ h => absurd h List.not_mem_nil) dX7_isPerson_17
    · -- f9
      refine lv_iconst (v := 1) hx hb dX7_isPerson_12 (by decide) ?_
      refine lv_goto (tgt := 17) hx hb dX7_isPerson_13 (by decide) ?_
      exact W.zret (v := 1) (ty := .boolean) hx hb hr rfl (fun t ht hW => ⟨_, rfl, by exact ⟨fun h => by first | rfl | (exfalso; simp_all; done), fun h => by first | rfl | (exfalso; simp_all; done)⟩, ht⟩) (fun _ h => absurd h List.not_mem_nil) dX7_isPerson_17

set_option maxHeartbeats 4000000 in
set_option maxRecDepth 100000 in
theorem c_X7_isThree (l : Launch) (D : va_G) (cI cO : ClassId) (x : Nat) (fa : Int32) (tr : Int32) (so : Nat) (sl : Nat) (ce : Nat) (n : Nat) (bar : Int32) (tn : Nat) (ki : Nat) (si : Nat) (th : Nat) (ri : Nat) (at_ : Int32) (rp : Int32) (rk : Nat) (rs : Nat) (kt : Nat) (kr : Nat) (kn : Int32) (rg : Int32) (ab : Nat) (am : Int32) (bh : Nat) (bm : Int32) (br : Int32) (rn : Nat) (wa : Nat) (ra : Nat) (pp : Int32) : Met l yX7_isThree wsX7_isThree ({ frames := 0, cells := 0, slots := 0, locals := 0 } : Room) (va_Pc [.ref x, .int pp] (wdR D cI cO [(x, .inr (7, [.int fa, .int tr, .ref so, .ref sl, .ref ce, .int (nI n), .int bar, .int (nI tn), .ref ki, .ref si, .ref th, .ref ri, .int at_, .int rp, .ref rk, .ref rs, .ref kt, .ref kr, .int kn, .int rg, .ref ab, .int am, .ref bh, .int bm, .int br, .int (nI rn), .ref wa, .ref ra]))])) (vp_Si (fun r => ((¬ pp < 0 ∧ ¬ nI tn ≤ pp) → r = 1) ∧ (¬ (¬ pp < 0 ∧ ¬ nI tn ≤ pp) → r = 0))) 0 0 (fun _ => False) := by
  refine Met.ofW (cc := cX7_isThree) (maxL := 2) (ret := (some .boolean)) (by decide) rfl ?_
  intro p e s m args below meth c s₁ B hml hv
  obtain ⟨rfl, hP, hK, hNw⟩ := hv
  have hx := B.exec
  have hb := B.bytes
  have hr := B.returns
  have hts := atoms_spec (ws := wsX7_isThree) B.pre
  have hown : s.vm.findClass RX7 = some m.cls := findClass_of_methodNamed B.named
  have hlocks := B.notSynchronized
  have f68 := hts (.fieldLink RX7 68 "StruckThreesModel" "threes" "I") (by decide +kernel)
  have iX7 : ∀ w ∈ wsX70, w ∈ wsX7_isThree := by decide +kernel
  have hP : va_P D vwCl [(x, .inr (7, [.int fa, .int tr, .ref so, .ref sl, .ref ce, .int (nI n), .int bar, .int (nI tn), .ref ki, .ref si, .ref th, .ref ri, .int at_, .int rp, .ref rk, .ref rs, .ref kt, .ref kr, .int kn, .int rg, .ref ab, .int am, .ref bh, .int bm, .int br, .int (nI rn), .ref wa, .ref ra]))] s.heap := hP
  have hl := lv_entry ([.ref x, .int pp]) (n := 2) (Nat.le_of_ble_eq_true rfl)
  rw [lg_entry_eq]
  generalize (lg_sl ([.ref x, .int pp]) ++ List.replicate (2 - (lg_sl ([.ref x, .int pp])).length) Slot.unset).toArray = ls at hl ⊢
  have hl : lv_has ls 2 [(0, .ref x), (1, .int pp)] := hl
  refine lv_iload_n hx hb dX7_isThree_0 rfl (lv_at hl 1 rfl) ?_
  refine lv_if_lt (tgt := 16) hx hb dX7_isThree_1 (by decide) (fun c1 => ?_) (fun c1 => ?_)
  · -- t1
    refine lv_iconst (v := 0) hx hb dX7_isThree_16 (by decide) ?_
    exact W.zret (v := 0) (ty := .boolean) hx hb hr rfl (fun t ht hW => ⟨_, rfl, by exact ⟨fun h => by first | rfl | (exfalso; simp_all; done), fun h => by first | rfl | (exfalso; simp_all; done)⟩, ht⟩) (fun _ h => absurd h List.not_mem_nil) dX7_isThree_17
  · -- f1
    refine lv_iload_n hx hb dX7_isThree_4 rfl (lv_at hl 1 rfl) ?_
    refine lv_aload_n hx hb dX7_isThree_5 rfl (lv_at hl 0 rfl) ?_
    refine va_get (D := D) (ci := 7) (v := .int (nI tn)) (C := RX7) (T := TX7) (N := 28) hx hb hts iX7 hown hK hP 0 rfl rfl 7 (by decide) f68 (fun _ h9 => h9) rfl dX7_isThree_6 ?_
    refine lv_icmp_ge (tgt := 16) hx hb dX7_isThree_9 (by decide) (fun c9 => ?_) (fun c9 => ?_)
    · -- t9
      refine lv_iconst (v := 0) hx hb dX7_isThree_16 (by decide) ?_
      exact W.zret (v := 0) (ty := .boolean) hx hb hr rfl (fun t ht hW => ⟨_, rfl, by exact ⟨fun h => by first | rfl | (exfalso; simp_all; done), fun h => by first | rfl | (exfalso; simp_all; done)⟩, ht⟩) (fun _ h => absurd h List.not_mem_nil) dX7_isThree_17
    · -- f9
      refine lv_iconst (v := 1) hx hb dX7_isThree_12 (by decide) ?_
      refine lv_goto (tgt := 17) hx hb dX7_isThree_13 (by decide) ?_
      exact W.zret (v := 1) (ty := .boolean) hx hb hr rfl (fun t ht hW => ⟨_, rfl, by exact ⟨fun h => by first | rfl | (exfalso; simp_all; done), fun h => by first | rfl | (exfalso; simp_all; done)⟩, ht⟩) (fun _ h => absurd h List.not_mem_nil) dX7_isThree_17

set_option maxHeartbeats 4000000 in
set_option maxRecDepth 100000 in
theorem c_X7_isOf (l : Launch) (D : va_G) (cI cO : ClassId) (set : Int32) (j : Nat) (hj : j < 32) : Met l yX7_isOf wsX7_isOf ({ frames := 0, cells := 0, slots := 0, locals := 0 } : Room) (va_Pc [.int set, .int (nI j)] (wdR D cI cO [])) (vp_Si (fun r => ((bt set j = true) → r = 1) ∧ (¬ (bt set j = true) → r = 0))) 0 0 (fun _ => False) := by
  refine Met.ofW (cc := cX7_isOf) (maxL := 2) (ret := (some .boolean)) (by decide) rfl ?_
  intro p e s m args below meth c s₁ B hml hv
  obtain ⟨rfl, hP, hK, hNw⟩ := hv
  have hx := B.exec
  have hb := B.bytes
  have hr := B.returns
  have hts := atoms_spec (ws := wsX7_isOf) B.pre
  have hown : s.vm.findClass RX7 = some m.cls := findClass_of_methodNamed B.named
  have hlocks := B.notSynchronized
  have hP : va_P D vwCl [] s.heap := hP
  have hl := lv_entry ([.int set, .int (nI j)]) (n := 2) (Nat.le_of_ble_eq_true rfl)
  rw [lg_entry_eq]
  generalize (lg_sl ([.int set, .int (nI j)]) ++ List.replicate (2 - (lg_sl ([.int set, .int (nI j)])).length) Slot.unset).toArray = ls at hl ⊢
  have hl : lv_has ls 2 [(0, .int set), (1, .int (nI j))] := hl
  refine lv_iload_n hx hb dX7_isOf_0 rfl (lv_at hl 0 rfl) ?_
  refine lv_iload_n hx hb dX7_isOf_1 rfl (lv_at hl 1 rfl) ?_
  refine lv_ishr hx hb dX7_isOf_2 ?_
  refine lv_iconst (v := 1) hx hb dX7_isOf_3 (by decide) ?_
  refine lv_iand hx hb dX7_isOf_4 ?_
  refine lv_iconst (v := 1) hx hb dX7_isOf_5 (by decide) ?_
  refine lv_icmp_ne (tgt := 13) hx hb dX7_isOf_6 (by decide) (fun c6 => ?_) (fun c6 => ?_)
  · -- t6
    refine lv_iconst (v := 0) hx hb dX7_isOf_13 (by decide) ?_
    exact W.zret (v := 0) (ty := .boolean) hx hb hr rfl (fun t ht hW => ⟨_, rfl, by first | exact ⟨fun _ => rfl, fun q => absurd ((bt_shr1 set hj).mp c6) q⟩ | exact ⟨fun q => absurd ((bt_shr1 set hj).mpr q) c6, fun _ => rfl⟩, ht⟩) (fun _ h => absurd h List.not_mem_nil) dX7_isOf_14
  · -- f6
    refine lv_iconst (v := 1) hx hb dX7_isOf_9 (by decide) ?_
    refine lv_goto (tgt := 14) hx hb dX7_isOf_10 (by decide) ?_
    exact W.zret (v := 1) (ty := .boolean) hx hb hr rfl (fun t ht hW => ⟨_, rfl, by first | exact ⟨fun _ => rfl, fun q => absurd ((bt_shr1 set hj).mp c6) q⟩ | exact ⟨fun q => absurd ((bt_shr1 set hj).mpr q) c6, fun _ => rfl⟩, ht⟩) (fun _ h => absurd h List.not_mem_nil) dX7_isOf_14

set_option maxHeartbeats 4000000 in
set_option maxRecDepth 100000 in
theorem c_X7_size (l : Launch) (D : va_G) (cI cO : ClassId) (k : Nat) (hk5 : k < 512) : Met l yX7_size wsX7_size ({ frames := 0, cells := 0, slots := 0, locals := 0 } : Room) (va_Pc [.int (nI k)] (wdR D cI cO [])) (vp_Si (fun r => r = (bcE (nI k)))) 0 0 (fun _ => False) := by
  refine Met.ofW (cc := cX7_size) (maxL := 3) (ret := (some .int)) (by decide) rfl ?_
  intro p e s m args below meth c s₁ B hml hv
  obtain ⟨rfl, hP, hK, hNw⟩ := hv
  have hx := B.exec
  have hb := B.bytes
  have hr := B.returns
  have hts := atoms_spec (ws := wsX7_size) B.pre
  have hown : s.vm.findClass RX7 = some m.cls := findClass_of_methodNamed B.named
  have hlocks := B.notSynchronized
  have hP : va_P D vwCl [] s.heap := hP
  have hl := lv_entry ([.int (nI k)]) (n := 3) (Nat.le_of_ble_eq_true rfl)
  rw [lg_entry_eq]
  generalize (lg_sl ([.int (nI k)]) ++ List.replicate (3 - (lg_sl ([.int (nI k)])).length) Slot.unset).toArray = ls at hl ⊢
  have hl : lv_has ls 3 [(0, .int (nI k))] := hl
  refine lv_iconst (v := 0) hx hb dX7_size_0 (by decide) ?_
  refine lv_istore_n (lv' := [(1, .int 0), (0, .int (nI k))]) hx hb dX7_size_1 rfl hl (by decide) rfl (fun ls hl => ?_)
  refine lv_iload_n hx hb dX7_size_2 rfl (lv_at hl 1 rfl) ?_
  refine lv_istore_n (lv' := [(2, .int (nI k)), (1, .int 0), (0, .int (nI k))]) hx hb dX7_size_3 rfl hl (by decide) rfl (fun ls hl => ?_)
  have lp4 : ∀ (fu4 : Nat) (l_ : Nat) (ac : Int32) (hl5 : l_ < 512) (hq : ac + bcE (nI l_) = bcE (nI k)) (hm4 : l_ < fu4) (ls : Array Slot) (hl : lv_has ls 3 [(0, .int (nI k)), (1, .int ac), (2, .int (nI l_))]), W p l e (headSpec wsX7_size ({ frames := 0, cells := 0, slots := 0, locals := 0 } : Room)).room s m ([.int (nI k)]).toArray below meth c s.heap [] 0 0 (MQ below (vp_Si (fun r => r = (bcE (nI k)))) ([.int (nI k)]).toArray s 0 0 (fun _ => False)) (F0 m 4 ls []) := by
    intro fu4
    induction fu4 with
    | zero =>
      intros; omega
    | succ fu4 ih4 =>
      intro l_ ac hl5 hq hm4 ls hl
      refine lv_iload_n hx hb dX7_size_4 rfl (lv_at hl 2 rfl) ?_
      refine lv_if_le (tgt := 21) hx hb dX7_size_5 (by decide) (fun c5 => ?_) (fun c5 => ?_)
      · -- t5
        have z5 : l_ = 0 := by rcases Nat.eq_zero_or_pos l_ with q | q; exact q; exact absurd c5 (nI_nle q (by omega))
        refine lv_iload_n hx hb dX7_size_21 rfl (lv_at hl 1 rfl) ?_
        exact W.iret (v := ac) hx hb hr (fun t ht hW => ⟨_, rfl, by rw [← hq, z5]; exact (Int32.add_zero ac).symm, ht⟩) (fun _ h => absurd h List.not_mem_nil) dX7_size_22
      · -- f5
        refine lv_iload_n hx hb dX7_size_8 rfl (lv_at hl 1 rfl) ?_
        refine lv_iload_n hx hb dX7_size_9 rfl (lv_at hl 2 rfl) ?_
        refine lv_iconst (v := 1) hx hb dX7_size_10 (by decide) ?_
        refine lv_iand hx hb dX7_size_11 ?_
        refine lv_iadd hx hb dX7_size_12 ?_
        refine lv_istore_n (lv' := [(1, .int (ac + ((nI l_) &&& 1))), (0, .int (nI k)), (2, .int (nI l_))]) hx hb dX7_size_13 rfl hl (by decide) rfl (fun ls hl => ?_)
        refine lv_iload_n hx hb dX7_size_14 rfl (lv_at hl 2 rfl) ?_
        refine lv_iconst (v := 1) hx hb dX7_size_15 (by decide) ?_
        refine lv_ishr hx hb dX7_size_16 ?_
        refine tp_i (y := nI (l_ / 2)) (hf2 (by omega)) ?_
        refine lv_istore_n (lv' := [(2, .int (nI (l_ / 2))), (1, .int (ac + ((nI l_) &&& 1))), (0, .int (nI k))]) hx hb dX7_size_17 rfl hl (by decide) rfl (fun ls hl => ?_)
        refine lv_goto (tgt := 4) hx hb dX7_size_18 (by decide) ?_
        exact ih4 (l_ / 2) (ac + ((nI l_) &&& 1)) (by omega) (by rw [← hq, bc_s l_ hl5, Int32.add_assoc]) (by have q : 0 < l_ := Nat.pos_of_ne_zero (fun q => c5 (by rw [q]; decide)); omega) _ (lv_sub hl [2, 1, 0] rfl)
  exact lp4 _ k 0 (hk5) (Int32.zero_add _) (Nat.lt_succ_self _) _ (lv_sub hl [2, 1, 0] rfl)

set_option maxHeartbeats 4000000 in
set_option maxRecDepth 100000 in
theorem c_X7_ringOf (l : Launch) (D : va_G) (cI cO : ClassId) (x : Nat) (fa : Int32) (tr : Int32) (so : Nat) (sl : Nat) (ce : Nat) (n : Nat) (bar : Int32) (tn : Nat) (ki : Nat) (si : Nat) (th : Nat) (ri : Nat) (at_ : Int32) (rp : Int32) (rk : Nat) (rs : Nat) (kt : Nat) (kr : Nat) (kn : Int32) (rg : Int32) (ab : Nat) (am : Int32) (bh : Nat) (bm : Int32) (br : Int32) (rn : Nat) (wa : Nat) (ra : Nat) (kd : Nat → Int32) (sd : Nat → Int32) (j : Nat) (hj : j < 9) (hkj : kd j = 0 ∨ kd j = 1 ∨ kd j = 2) : Met l yX7_ringOf wsX7_ringOf ({ frames := 0, cells := 0, slots := 0, locals := 0 } : Room) (va_Pc [.ref x, .int (nI j)] (wdR D cI cO [(x, .inr (7, [.int fa, .int tr, .ref so, .ref sl, .ref ce, .int (nI n), .int bar, .int (nI tn), .ref ki, .ref si, .ref th, .ref ri, .int at_, .int rp, .ref rk, .ref rs, .ref kt, .ref kr, .int kn, .int rg, .ref ab, .int am, .ref bh, .int bm, .int br, .int (nI rn), .ref wa, .ref ra])), (ki, .inl (cI, 9, .inl kd)), (si, .inl (cI, 9, .inl sd))])) (vp_Si (fun r => r = (ringI (kd j) (sd j)))) 0 0 (fun _ => False) := by
  refine Met.ofW (cc := cX7_ringOf) (maxL := 2) (ret := (some .int)) (by decide) rfl ?_
  intro p e s m args below meth c s₁ B hml hv
  obtain ⟨rfl, hP, hK, hNw⟩ := hv
  have hx := B.exec
  have hb := B.bytes
  have hr := B.returns
  have hts := atoms_spec (ws := wsX7_ringOf) B.pre
  have hown : s.vm.findClass RX7 = some m.cls := findClass_of_methodNamed B.named
  have hlocks := B.notSynchronized
  have f19 := hts (.fieldLink RX7 19 "StruckThreesModel" "kind" "[I") (by decide +kernel)
  have f22 := hts (.fieldLink RX7 22 "StruckThreesModel" "side" "[I") (by decide +kernel)
  have iX7 : ∀ w ∈ wsX70, w ∈ wsX7_ringOf := by decide +kernel
  have hP : va_P D vwCl [(x, .inr (7, [.int fa, .int tr, .ref so, .ref sl, .ref ce, .int (nI n), .int bar, .int (nI tn), .ref ki, .ref si, .ref th, .ref ri, .int at_, .int rp, .ref rk, .ref rs, .ref kt, .ref kr, .int kn, .int rg, .ref ab, .int am, .ref bh, .int bm, .int br, .int (nI rn), .ref wa, .ref ra])), (ki, .inl (cI, 9, .inl kd)), (si, .inl (cI, 9, .inl sd))] s.heap := hP
  have hl := lv_entry ([.ref x, .int (nI j)]) (n := 2) (Nat.le_of_ble_eq_true rfl)
  rw [lg_entry_eq]
  generalize (lg_sl ([.ref x, .int (nI j)]) ++ List.replicate (2 - (lg_sl ([.ref x, .int (nI j)])).length) Slot.unset).toArray = ls at hl ⊢
  have hl : lv_has ls 2 [(0, .ref x), (1, .int (nI j))] := hl
  refine lv_aload_n hx hb dX7_ringOf_0 rfl (lv_at hl 0 rfl) ?_
  refine va_get (D := D) (ci := 7) (v := .ref ki) (C := RX7) (T := TX7) (N := 28) hx hb hts iX7 hown hK hP 0 rfl rfl 8 (by decide) f19 (fun _ h9 => h9) rfl dX7_ringOf_1 ?_
  refine lv_iload_n hx hb dX7_ringOf_4 rfl (lv_at hl 1 rfl) ?_
  refine va_iald hx hb hK hP 1 0 rfl rfl (vp_in_nI (by omega) (by decide)) dX7_ringOf_5 ?_
  refine tp_i (y := kd j) (by rw [nI_clamp (n := j) (by omega)]) ?_
  refine lv_if_ne (tgt := 18) hx hb dX7_ringOf_6 (by decide) (fun c6 => ?_) (fun c6 => ?_)
  · -- t6
    refine lv_aload_n hx hb dX7_ringOf_18 rfl (lv_at hl 0 rfl) ?_
    refine va_get (D := D) (ci := 7) (v := .ref ki) (C := RX7) (T := TX7) (N := 28) hx hb hts iX7 hown hK hP 0 rfl rfl 8 (by decide) f19 (fun _ h9 => h9) rfl dX7_ringOf_19 ?_
    refine lv_iload_n hx hb dX7_ringOf_22 rfl (lv_at hl 1 rfl) ?_
    refine va_iald hx hb hK hP 1 0 rfl rfl (vp_in_nI (by omega) (by decide)) dX7_ringOf_23 ?_
    refine tp_i (y := kd j) (by rw [nI_clamp (n := j) (by omega)]) ?_
    refine lv_iconst (v := 1) hx hb dX7_ringOf_24 (by decide) ?_
    refine lv_icmp_ne (tgt := 39) hx hb dX7_ringOf_25 (by decide) (fun c25 => ?_) (fun c25 => ?_)
    · -- t25
      refine lv_iconst (v := 2) hx hb dX7_ringOf_39 (by decide) ?_
      refine lv_aload_n hx hb dX7_ringOf_40 rfl (lv_at hl 0 rfl) ?_
      refine va_get (D := D) (ci := 7) (v := .ref si) (C := RX7) (T := TX7) (N := 28) hx hb hts iX7 hown hK hP 0 rfl rfl 9 (by decide) f22 (fun _ h9 => h9) rfl dX7_ringOf_41 ?_
      refine lv_iload_n hx hb dX7_ringOf_44 rfl (lv_at hl 1 rfl) ?_
      refine va_iald hx hb hK hP 2 0 rfl rfl (vp_in_nI (by omega) (by decide)) dX7_ringOf_45 ?_
      refine tp_i (y := sd j) (by rw [nI_clamp (n := j) (by omega)]) ?_
      refine lv_imul hx hb dX7_ringOf_46 ?_
      exact W.iret (v := 2 * (sd j)) hx hb hr (fun t ht hW => ⟨_, rfl, by first | (simp [ringI, *]; done) | (rw [(hkj.resolve_left c6).resolve_left c25]; rfl), ht⟩) (fun _ h => absurd h List.not_mem_nil) dX7_ringOf_47
    · -- f25
      refine lv_aload_n hx hb dX7_ringOf_28 rfl (lv_at hl 0 rfl) ?_
      refine va_get (D := D) (ci := 7) (v := .ref si) (C := RX7) (T := TX7) (N := 28) hx hb hts iX7 hown hK hP 0 rfl rfl 9 (by decide) f22 (fun _ h9 => h9) rfl dX7_ringOf_29 ?_
      refine lv_iload_n hx hb dX7_ringOf_32 rfl (lv_at hl 1 rfl) ?_
      refine va_iald hx hb hK hP 2 0 rfl rfl (vp_in_nI (by omega) (by decide)) dX7_ringOf_33 ?_
      refine tp_i (y := sd j) (by rw [nI_clamp (n := j) (by omega)]) ?_
      refine lv_iconst (v := 2) hx hb dX7_ringOf_34 (by decide) ?_
      refine lv_idiv hx hb dX7_ringOf_35 (by decide) ?_
      refine lv_goto (tgt := 47) hx hb dX7_ringOf_36 (by decide) ?_
      exact W.iret (v := (sd j) / 2) hx hb hr (fun t ht hW => ⟨_, rfl, by first | (simp [ringI, *]; done) | (rw [(hkj.resolve_left c6).resolve_left c25]; rfl), ht⟩) (fun _ h => absurd h List.not_mem_nil) dX7_ringOf_47
  · -- f6
    refine lv_aload_n hx hb dX7_ringOf_9 rfl (lv_at hl 0 rfl) ?_
    refine va_get (D := D) (ci := 7) (v := .ref si) (C := RX7) (T := TX7) (N := 28) hx hb hts iX7 hown hK hP 0 rfl rfl 9 (by decide) f22 (fun _ h9 => h9) rfl dX7_ringOf_10 ?_
    refine lv_iload_n hx hb dX7_ringOf_13 rfl (lv_at hl 1 rfl) ?_
    refine va_iald hx hb hK hP 2 0 rfl rfl (vp_in_nI (by omega) (by decide)) dX7_ringOf_14 ?_
    refine tp_i (y := sd j) (by rw [nI_clamp (n := j) (by omega)]) ?_
    refine lv_goto (tgt := 47) hx hb dX7_ringOf_15 (by decide) ?_
    exact W.iret (v := sd j) hx hb hr (fun t ht hW => ⟨_, rfl, by first | (simp [ringI, *]; done) | (rw [(hkj.resolve_left c6).resolve_left c25]; rfl), ht⟩) (fun _ h => absurd h List.not_mem_nil) dX7_ringOf_47

set_option maxHeartbeats 4000000 in
set_option maxRecDepth 100000 in
theorem c_X7_pitchOf (l : Launch) (D : va_G) (cI cO : ClassId) (x : Nat) (fa : Int32) (tr : Int32) (so : Nat) (sl : Nat) (ce : Nat) (n : Nat) (bar : Int32) (tn : Nat) (ki : Nat) (si : Nat) (th : Nat) (ri : Nat) (at_ : Int32) (rp : Int32) (rk : Nat) (rs : Nat) (kt : Nat) (kr : Nat) (kn : Int32) (rg : Int32) (ab : Nat) (am : Int32) (bh : Nat) (bm : Int32) (br : Int32) (rn : Nat) (wa : Nat) (ra : Nat) (sd : Nat → Int32) (set : Int32) (hn : n ≤ 9) : Met l yX7_pitchOf wsX7_pitchOf ({ frames := 1, cells := 0, slots := 0, locals := 21 } : Room) (va_Pc [.ref x, .int set] (wdR D cI cO [(x, .inr (7, [.int fa, .int tr, .ref so, .ref sl, .ref ce, .int (nI n), .int bar, .int (nI tn), .ref ki, .ref si, .ref th, .ref ri, .int at_, .int rp, .ref rk, .ref rs, .ref kt, .ref kr, .int kn, .int rg, .ref ab, .int am, .ref bh, .int bm, .int br, .int (nI rn), .ref wa, .ref ra])), (si, .inl (cI, 9, .inl sd))])) (vp_Si (fun r => r = (sumW sd set n))) 0 0 (fun _ => False) := by
  refine Met.ofW (cc := cX7_pitchOf) (maxL := 4) (ret := (some .int)) (by decide) rfl ?_
  intro p e s m args below meth c s₁ B hml hv
  obtain ⟨rfl, hP, hK, hNw⟩ := hv
  have hx := B.exec
  have hb := B.bytes
  have hr := B.returns
  have hts := atoms_spec (ws := wsX7_pitchOf) B.pre
  have hown : s.vm.findClass RX7 = some m.cls := findClass_of_methodNamed B.named
  have hlocks := B.notSynchronized
  have f22 := hts (.fieldLink RX7 22 "StruckThreesModel" "side" "[I") (by decide +kernel)
  have f65 := hts (.fieldLink RX7 65 "StruckThreesModel" "people" "I") (by decide +kernel)
  have iX7 : ∀ w ∈ wsX70, w ∈ wsX7_pitchOf := by decide +kernel
  have hP : va_P D vwCl [(x, .inr (7, [.int fa, .int tr, .ref so, .ref sl, .ref ce, .int (nI n), .int bar, .int (nI tn), .ref ki, .ref si, .ref th, .ref ri, .int at_, .int rp, .ref rk, .ref rs, .ref kt, .ref kr, .int kn, .int rg, .ref ab, .int am, .ref bh, .int bm, .int br, .int (nI rn), .ref wa, .ref ra])), (si, .inl (cI, 9, .inl sd))] s.heap := hP
  have hl := lv_entry ([.ref x, .int set]) (n := 4) (Nat.le_of_ble_eq_true rfl)
  rw [lg_entry_eq]
  generalize (lg_sl ([.ref x, .int set]) ++ List.replicate (4 - (lg_sl ([.ref x, .int set])).length) Slot.unset).toArray = ls at hl ⊢
  have hl : lv_has ls 4 [(0, .ref x), (1, .int set)] := hl
  refine lv_iconst (v := 0) hx hb dX7_pitchOf_0 (by decide) ?_
  refine lv_istore_n (lv' := [(2, .int 0), (0, .ref x), (1, .int set)]) hx hb dX7_pitchOf_1 rfl hl (by decide) rfl (fun ls hl => ?_)
  refine lv_iconst (v := 0) hx hb dX7_pitchOf_2 (by decide) ?_
  refine lv_istore_n (lv' := [(3, .int 0), (2, .int 0), (0, .ref x), (1, .int set)]) hx hb dX7_pitchOf_3 rfl hl (by decide) rfl (fun ls hl => ?_)
  have lp4 : ∀ (fu4 : Nat) (i : Nat) (hi : i ≤ n) (hm4 : n - i < fu4) (ls : Array Slot) (hl : lv_has ls 4 [(0, .ref x), (1, .int set), (2, .int (sumW sd set i)), (3, .int (nI i))]), W p l e (headSpec wsX7_pitchOf ({ frames := 1, cells := 0, slots := 0, locals := 21 } : Room)).room s m ([.ref x, .int set]).toArray below meth c s.heap [] 0 0 (MQ below (vp_Si (fun r => r = (sumW sd set n))) ([.ref x, .int set]).toArray s 0 0 (fun _ => False)) (F0 m 4 ls []) := by
    intro fu4
    induction fu4 with
    | zero =>
      intros; omega
    | succ fu4 ih4 =>
      intro i hi hm4 ls hl
      refine lv_iload_n hx hb dX7_pitchOf_4 rfl (lv_at hl 3 rfl) ?_
      refine lv_aload_n hx hb dX7_pitchOf_5 rfl (lv_at hl 0 rfl) ?_
      refine va_get (D := D) (ci := 7) (v := .int (nI n)) (C := RX7) (T := TX7) (N := 28) hx hb hts iX7 hown hK hP 0 rfl rfl 5 (by decide) f65 (fun _ h9 => h9) rfl dX7_pitchOf_6 ?_
      refine lv_icmp_ge (tgt := 39) hx hb dX7_pitchOf_9 (by decide) (fun c9 => ?_) (fun c9 => ?_)
      · -- t9
        have e9 : i = n := by have q := ge_n (by omega) (by omega) c9; omega
        rw [e9] at hl
        refine lv_iload_n hx hb dX7_pitchOf_39 rfl (lv_at hl 2 rfl) ?_
        exact W.iret (v := sumW sd set n) hx hb hr (fun t ht hW => ⟨_, rfl, by rfl, ht⟩) (fun _ h => absurd h List.not_mem_nil) dX7_pitchOf_40
      · -- f9
        have l9 : i < n := lt_n (by omega) (by omega) c9
        refine lv_iload_n hx hb dX7_pitchOf_12 rfl (lv_at hl 2 rfl) ?_
        refine lv_iload_n hx hb dX7_pitchOf_13 rfl (lv_at hl 1 rfl) ?_
        refine lv_iload_n hx hb dX7_pitchOf_14 rfl (lv_at hl 3 rfl) ?_
        have hPc := hP.sub (ws' := []) [] rfl
        refine vp_callSi (va_Run.run (va_runS (As := [.int set, .int (nI i)]) (rest := [.int (sumW sd set i)]) ⟨hx, hb, hml, hown, hts⟩ (c_X7_isOf l D cI cO set i (by omega)) (va_cwS 2 hts gX7_pitchOf_X7_isOf rfl rfl rfl (by decide +kernel) ⟨Nat.le_of_ble_eq_true rfl, Nat.le_of_ble_eq_true rfl⟩) (preSR hPc hK hNw) rfl rfl hl.1 rfl (lv_room (Nat.le_of_ble_eq_true rfl)) dX7_pitchOf_15 ⟨Nat.zero_le _, Nat.zero_le _⟩)) (fun r15 w15 => ?_)
        by_cases b15 : bt set i = true
        · -- y15
          obtain rfl := w15.1 b15
          refine lv_if_eq (tgt := 30) hx hb dX7_pitchOf_18 (by decide) (fun h => absurd h (by decide)) (fun _ => ?_)
          refine lv_aload_n hx hb dX7_pitchOf_21 rfl (lv_at hl 0 rfl) ?_
          refine va_get (D := D) (ci := 7) (v := .ref si) (C := RX7) (T := TX7) (N := 28) hx hb hts iX7 hown hK hP 0 rfl rfl 9 (by decide) f22 (fun _ h9 => h9) rfl dX7_pitchOf_22 ?_
          refine lv_iload_n hx hb dX7_pitchOf_25 rfl (lv_at hl 3 rfl) ?_
          refine va_iald hx hb hK hP 1 0 rfl rfl (vp_in_nI (by omega) (by decide)) dX7_pitchOf_26 ?_
          refine tp_i (y := sd i) (by rw [nI_clamp (n := i) (by omega)]) ?_
          refine lv_goto (tgt := 31) hx hb dX7_pitchOf_27 (by decide) ?_
          refine lv_iadd hx hb dX7_pitchOf_31 ?_
          refine lv_istore_n (lv' := [(2, .int ((sumW sd set i) + (sd i))), (0, .ref x), (1, .int set), (3, .int (nI i))]) hx hb dX7_pitchOf_32 rfl hl (by decide) rfl (fun ls hl => ?_)
          refine lv_iinc (v := nI (i + 1)) (lv' := [(3, .int (nI (i + 1))), (2, .int ((sumW sd set i) + (sd i))), (0, .ref x), (1, .int set)]) hx hb dX7_pitchOf_33 hl (k := 3) rfl (nI_1 _) (by decide) rfl (fun ls hl => ?_)
          refine lv_goto (tgt := 4) hx hb dX7_pitchOf_36 (by decide) ?_
          have e4_2 : ((sumW sd set i) + (sd i)) = sumW sd set (i + 1) := by simp [sumW, b15]
          have hl : lv_has ls 4 [(3, .int (nI (i + 1))), (2, .int (sumW sd set (i + 1))), (0, .ref x), (1, .int set)] := by rw [← e4_2]; exact hl
          exact ih4 (i + 1) (by omega) (by omega) _ (lv_sub hl [2, 3, 1, 0] rfl)
        · -- n15
          obtain rfl := w15.2 b15
          refine lv_if_eq (tgt := 30) hx hb dX7_pitchOf_18 (by decide) (fun _ => ?_) (fun h => absurd (by decide) h)
          refine lv_iconst (v := 0) hx hb dX7_pitchOf_30 (by decide) ?_
          refine lv_iadd hx hb dX7_pitchOf_31 ?_
          refine lv_istore_n (lv' := [(2, .int ((sumW sd set i) + 0)), (0, .ref x), (1, .int set), (3, .int (nI i))]) hx hb dX7_pitchOf_32 rfl hl (by decide) rfl (fun ls hl => ?_)
          refine lv_iinc (v := nI (i + 1)) (lv' := [(3, .int (nI (i + 1))), (2, .int ((sumW sd set i) + 0)), (0, .ref x), (1, .int set)]) hx hb dX7_pitchOf_33 hl (k := 3) rfl (nI_1 _) (by decide) rfl (fun ls hl => ?_)
          refine lv_goto (tgt := 4) hx hb dX7_pitchOf_36 (by decide) ?_
          have e4_2 : ((sumW sd set i) + 0) = sumW sd set (i + 1) := by simp [sumW, b15]
          have hl : lv_has ls 4 [(3, .int (nI (i + 1))), (2, .int (sumW sd set (i + 1))), (0, .ref x), (1, .int set)] := by rw [← e4_2]; exact hl
          exact ih4 (i + 1) (by omega) (by omega) _ (lv_sub hl [2, 3, 1, 0] rfl)
  exact lp4 _ 0 (Nat.zero_le _) (Nat.lt_succ_self _) _ (lv_sub hl [2, 3, 1, 0] rfl)

set_option maxHeartbeats 4000000 in
set_option maxRecDepth 100000 in
theorem c_X7_ringsOf (l : Launch) (D : va_G) (cI cO : ClassId) (x : Nat) (fa : Int32) (tr : Int32) (so : Nat) (sl : Nat) (ce : Nat) (n : Nat) (bar : Int32) (tn : Nat) (ki : Nat) (si : Nat) (th : Nat) (ri : Nat) (at_ : Int32) (rp : Int32) (rk : Nat) (rs : Nat) (kt : Nat) (kr : Nat) (kn : Int32) (rg : Int32) (ab : Nat) (am : Int32) (bh : Nat) (bm : Int32) (br : Int32) (rn : Nat) (wa : Nat) (ra : Nat) (kd : Nat → Int32) (sd : Nat → Int32) (set : Int32) (hn : n ≤ 9) (hk3 : ∀ j, j < n → kd j = 0 ∨ kd j = 1 ∨ kd j = 2) : Met l yX7_ringsOf wsX7_ringsOf ({ frames := 1, cells := 0, slots := 0, locals := 21 } : Room) (va_Pc [.ref x, .int set] (wdR D cI cO [(x, .inr (7, [.int fa, .int tr, .ref so, .ref sl, .ref ce, .int (nI n), .int bar, .int (nI tn), .ref ki, .ref si, .ref th, .ref ri, .int at_, .int rp, .ref rk, .ref rs, .ref kt, .ref kr, .int kn, .int rg, .ref ab, .int am, .ref bh, .int bm, .int br, .int (nI rn), .ref wa, .ref ra])), (ki, .inl (cI, 9, .inl kd)), (si, .inl (cI, 9, .inl sd))])) (vp_Si (fun r => r = (sumW (rgF kd sd) set n))) 0 0 (fun _ => False) := by
  refine Met.ofW (cc := cX7_ringsOf) (maxL := 4) (ret := (some .int)) (by decide) rfl ?_
  intro p e s m args below meth c s₁ B hml hv
  obtain ⟨rfl, hP, hK, hNw⟩ := hv
  have hx := B.exec
  have hb := B.bytes
  have hr := B.returns
  have hts := atoms_spec (ws := wsX7_ringsOf) B.pre
  have hown : s.vm.findClass RX7 = some m.cls := findClass_of_methodNamed B.named
  have hlocks := B.notSynchronized
  have f65 := hts (.fieldLink RX7 65 "StruckThreesModel" "people" "I") (by decide +kernel)
  have iX7 : ∀ w ∈ wsX70, w ∈ wsX7_ringsOf := by decide +kernel
  have hP : va_P D vwCl [(x, .inr (7, [.int fa, .int tr, .ref so, .ref sl, .ref ce, .int (nI n), .int bar, .int (nI tn), .ref ki, .ref si, .ref th, .ref ri, .int at_, .int rp, .ref rk, .ref rs, .ref kt, .ref kr, .int kn, .int rg, .ref ab, .int am, .ref bh, .int bm, .int br, .int (nI rn), .ref wa, .ref ra])), (ki, .inl (cI, 9, .inl kd)), (si, .inl (cI, 9, .inl sd))] s.heap := hP
  have hl := lv_entry ([.ref x, .int set]) (n := 4) (Nat.le_of_ble_eq_true rfl)
  rw [lg_entry_eq]
  generalize (lg_sl ([.ref x, .int set]) ++ List.replicate (4 - (lg_sl ([.ref x, .int set])).length) Slot.unset).toArray = ls at hl ⊢
  have hl : lv_has ls 4 [(0, .ref x), (1, .int set)] := hl
  refine lv_iconst (v := 0) hx hb dX7_ringsOf_0 (by decide) ?_
  refine lv_istore_n (lv' := [(2, .int 0), (0, .ref x), (1, .int set)]) hx hb dX7_ringsOf_1 rfl hl (by decide) rfl (fun ls hl => ?_)
  refine lv_iconst (v := 0) hx hb dX7_ringsOf_2 (by decide) ?_
  refine lv_istore_n (lv' := [(3, .int 0), (2, .int 0), (0, .ref x), (1, .int set)]) hx hb dX7_ringsOf_3 rfl hl (by decide) rfl (fun ls hl => ?_)
  have lp4 : ∀ (fu4 : Nat) (i : Nat) (hi : i ≤ n) (hm4 : n - i < fu4) (ls : Array Slot) (hl : lv_has ls 4 [(0, .ref x), (1, .int set), (2, .int (sumW (rgF kd sd) set i)), (3, .int (nI i))]), W p l e (headSpec wsX7_ringsOf ({ frames := 1, cells := 0, slots := 0, locals := 21 } : Room)).room s m ([.ref x, .int set]).toArray below meth c s.heap [] 0 0 (MQ below (vp_Si (fun r => r = (sumW (rgF kd sd) set n))) ([.ref x, .int set]).toArray s 0 0 (fun _ => False)) (F0 m 4 ls []) := by
    intro fu4
    induction fu4 with
    | zero =>
      intros; omega
    | succ fu4 ih4 =>
      intro i hi hm4 ls hl
      refine lv_iload_n hx hb dX7_ringsOf_4 rfl (lv_at hl 3 rfl) ?_
      refine lv_aload_n hx hb dX7_ringsOf_5 rfl (lv_at hl 0 rfl) ?_
      refine va_get (D := D) (ci := 7) (v := .int (nI n)) (C := RX7) (T := TX7) (N := 28) hx hb hts iX7 hown hK hP 0 rfl rfl 5 (by decide) f65 (fun _ h9 => h9) rfl dX7_ringsOf_6 ?_
      refine lv_icmp_ge (tgt := 38) hx hb dX7_ringsOf_9 (by decide) (fun c9 => ?_) (fun c9 => ?_)
      · -- t9
        have e9 : i = n := by have q := ge_n (by omega) (by omega) c9; omega
        rw [e9] at hl
        refine lv_iload_n hx hb dX7_ringsOf_38 rfl (lv_at hl 2 rfl) ?_
        exact W.iret (v := sumW (rgF kd sd) set n) hx hb hr (fun t ht hW => ⟨_, rfl, by rfl, ht⟩) (fun _ h => absurd h List.not_mem_nil) dX7_ringsOf_39
      · -- f9
        have l9 : i < n := lt_n (by omega) (by omega) c9
        refine lv_iload_n hx hb dX7_ringsOf_12 rfl (lv_at hl 2 rfl) ?_
        refine lv_iload_n hx hb dX7_ringsOf_13 rfl (lv_at hl 1 rfl) ?_
        refine lv_iload_n hx hb dX7_ringsOf_14 rfl (lv_at hl 3 rfl) ?_
        have hPc := hP.sub (ws' := []) [] rfl
        refine vp_callSi (va_Run.run (va_runS (As := [.int set, .int (nI i)]) (rest := [.int (sumW (rgF kd sd) set i)]) ⟨hx, hb, hml, hown, hts⟩ (c_X7_isOf l D cI cO set i (by omega)) (va_cwS 2 hts gX7_ringsOf_X7_isOf rfl rfl rfl (by decide +kernel) ⟨Nat.le_of_ble_eq_true rfl, Nat.le_of_ble_eq_true rfl⟩) (preSR hPc hK hNw) rfl rfl hl.1 rfl (lv_room (Nat.le_of_ble_eq_true rfl)) dX7_ringsOf_15 ⟨Nat.zero_le _, Nat.zero_le _⟩)) (fun r15 w15 => ?_)
        by_cases b15 : bt set i = true
        · -- y15
          obtain rfl := w15.1 b15
          refine lv_if_eq (tgt := 29) hx hb dX7_ringsOf_18 (by decide) (fun h => absurd h (by decide)) (fun _ => ?_)
          refine lv_aload_n hx hb dX7_ringsOf_21 rfl (lv_at hl 0 rfl) ?_
          refine lv_iload_n hx hb dX7_ringsOf_22 rfl (lv_at hl 3 rfl) ?_
          have hPc := hP.sub (ws' := [(x, .inr (7, [.int fa, .int tr, .ref so, .ref sl, .ref ce, .int (nI n), .int bar, .int (nI tn), .ref ki, .ref si, .ref th, .ref ri, .int at_, .int rp, .ref rk, .ref rs, .ref kt, .ref kr, .int kn, .int rg, .ref ab, .int am, .ref bh, .int bm, .int br, .int (nI rn), .ref wa, .ref ra])), (ki, .inl (cI, 9, .inl kd)), (si, .inl (cI, 9, .inl sd))]) [0, 1, 2] rfl
          refine vp_callSi (va_Run.run (va_runV (As := [.int (nI i)]) (rest := [.int (sumW (rgF kd sd) set i)]) ⟨hx, hb, hml, hown, hts⟩ (c_X7_ringOf l D cI cO x fa tr so sl ce n bar tn ki si th ri at_ rp rk rs kt kr kn rg ab am bh bm br rn wa ra kd sd i (by omega) (hk3 i l9)) (cwV 1 hts gX7_ringsOf_X7_ringOf rfl rfl rfl (by decide +kernel) ⟨Nat.le_of_ble_eq_true rfl, Nat.le_of_ble_eq_true rfl⟩) (preVR hPc hK hNw (va_recv hK hPc (ci := 7) (q0 := 0) rfl rfl)) rfl rfl hl.1 rfl (lv_room (Nat.le_of_ble_eq_true rfl)) dX7_ringsOf_23 ⟨Nat.zero_le _, Nat.zero_le _⟩)) (fun r23 w23 => ?_)
          obtain rfl := w23
          refine lv_goto (tgt := 30) hx hb dX7_ringsOf_26 (by decide) ?_
          refine lv_iadd hx hb dX7_ringsOf_30 ?_
          refine lv_istore_n (lv' := [(2, .int ((sumW (rgF kd sd) set i) + (ringI (kd i) (sd i)))), (0, .ref x), (1, .int set), (3, .int (nI i))]) hx hb dX7_ringsOf_31 rfl hl (by decide) rfl (fun ls hl => ?_)
          refine lv_iinc (v := nI (i + 1)) (lv' := [(3, .int (nI (i + 1))), (2, .int ((sumW (rgF kd sd) set i) + (ringI (kd i) (sd i)))), (0, .ref x), (1, .int set)]) hx hb dX7_ringsOf_32 hl (k := 3) rfl (nI_1 _) (by decide) rfl (fun ls hl => ?_)
          refine lv_goto (tgt := 4) hx hb dX7_ringsOf_35 (by decide) ?_
          have e4_2 : ((sumW (rgF kd sd) set i) + (ringI (kd i) (sd i))) = sumW (rgF kd sd) set (i + 1) := by simp [sumW, b15]
          have hl : lv_has ls 4 [(3, .int (nI (i + 1))), (2, .int (sumW (rgF kd sd) set (i + 1))), (0, .ref x), (1, .int set)] := by rw [← e4_2]; exact hl
          exact ih4 (i + 1) (by omega) (by omega) _ (lv_sub hl [2, 3, 1, 0] rfl)
        · -- n15
          obtain rfl := w15.2 b15
          refine lv_if_eq (tgt := 29) hx hb dX7_ringsOf_18 (by decide) (fun _ => ?_) (fun h => absurd (by decide) h)
          refine lv_iconst (v := 0) hx hb dX7_ringsOf_29 (by decide) ?_
          refine lv_iadd hx hb dX7_ringsOf_30 ?_
          refine lv_istore_n (lv' := [(2, .int ((sumW (rgF kd sd) set i) + 0)), (0, .ref x), (1, .int set), (3, .int (nI i))]) hx hb dX7_ringsOf_31 rfl hl (by decide) rfl (fun ls hl => ?_)
          refine lv_iinc (v := nI (i + 1)) (lv' := [(3, .int (nI (i + 1))), (2, .int ((sumW (rgF kd sd) set i) + 0)), (0, .ref x), (1, .int set)]) hx hb dX7_ringsOf_32 hl (k := 3) rfl (nI_1 _) (by decide) rfl (fun ls hl => ?_)
          refine lv_goto (tgt := 4) hx hb dX7_ringsOf_35 (by decide) ?_
          have e4_2 : ((sumW (rgF kd sd) set i) + 0) = sumW (rgF kd sd) set (i + 1) := by simp [sumW, b15]
          have hl : lv_has ls 4 [(3, .int (nI (i + 1))), (2, .int (sumW (rgF kd sd) set (i + 1))), (0, .ref x), (1, .int set)] := by rw [← e4_2]; exact hl
          exact ih4 (i + 1) (by omega) (by omega) _ (lv_sub hl [2, 3, 1, 0] rfl)
  exact lp4 _ 0 (Nat.zero_le _) (Nat.lt_succ_self _) _ (lv_sub hl [2, 3, 1, 0] rfl)

set_option maxHeartbeats 4000000 in
set_option maxRecDepth 100000 in
theorem c_X7_cornerOf (l : Launch) (D : va_G) (cI cO : ClassId) (x : Nat) (fa : Int32) (tr : Int32) (so : Nat) (sl : Nat) (ce : Nat) (n : Nat) (bar : Int32) (tn : Nat) (ki : Nat) (si : Nat) (th : Nat) (ri : Nat) (at_ : Int32) (rp : Int32) (rk : Nat) (rs : Nat) (kt : Nat) (kr : Nat) (kn : Int32) (rg : Int32) (ab : Nat) (am : Int32) (bh : Nat) (bm : Int32) (br : Int32) (rn : Nat) (wa : Nat) (ra : Nat) (sd : Nat → Int32) (set : Int32) (hn : n ≤ 9) : Met l yX7_cornerOf wsX7_cornerOf ({ frames := 1, cells := 0, slots := 0, locals := 21 } : Room) (va_Pc [.ref x, .int set] (wdR D cI cO [(x, .inr (7, [.int fa, .int tr, .ref so, .ref sl, .ref ce, .int (nI n), .int bar, .int (nI tn), .ref ki, .ref si, .ref th, .ref ri, .int at_, .int rp, .ref rk, .ref rs, .ref kt, .ref kr, .int kn, .int rg, .ref ab, .int am, .ref bh, .int bm, .int br, .int (nI rn), .ref wa, .ref ra])), (si, .inl (cI, 9, .inl sd))])) (vp_Si (fun r => r = (cornW sd set n))) 0 0 (fun _ => False) := by
  refine Met.ofW (cc := cX7_cornerOf) (maxL := 4) (ret := (some .int)) (by decide) rfl ?_
  intro p e s m args below meth c s₁ B hml hv
  obtain ⟨rfl, hP, hK, hNw⟩ := hv
  have hx := B.exec
  have hb := B.bytes
  have hr := B.returns
  have hts := atoms_spec (ws := wsX7_cornerOf) B.pre
  have hown : s.vm.findClass RX7 = some m.cls := findClass_of_methodNamed B.named
  have hlocks := B.notSynchronized
  have f22 := hts (.fieldLink RX7 22 "StruckThreesModel" "side" "[I") (by decide +kernel)
  have f65 := hts (.fieldLink RX7 65 "StruckThreesModel" "people" "I") (by decide +kernel)
  have iX7 : ∀ w ∈ wsX70, w ∈ wsX7_cornerOf := by decide +kernel
  have hP : va_P D vwCl [(x, .inr (7, [.int fa, .int tr, .ref so, .ref sl, .ref ce, .int (nI n), .int bar, .int (nI tn), .ref ki, .ref si, .ref th, .ref ri, .int at_, .int rp, .ref rk, .ref rs, .ref kt, .ref kr, .int kn, .int rg, .ref ab, .int am, .ref bh, .int bm, .int br, .int (nI rn), .ref wa, .ref ra])), (si, .inl (cI, 9, .inl sd))] s.heap := hP
  have hl := lv_entry ([.ref x, .int set]) (n := 4) (Nat.le_of_ble_eq_true rfl)
  rw [lg_entry_eq]
  generalize (lg_sl ([.ref x, .int set]) ++ List.replicate (4 - (lg_sl ([.ref x, .int set])).length) Slot.unset).toArray = ls at hl ⊢
  have hl : lv_has ls 4 [(0, .ref x), (1, .int set)] := hl
  refine lv_bipush (v := -9) hx hb dX7_cornerOf_0 (by decide) ?_
  refine lv_istore_n (lv' := [(2, .int (-9)), (0, .ref x), (1, .int set)]) hx hb dX7_cornerOf_2 rfl hl (by decide) rfl (fun ls hl => ?_)
  refine lv_iconst (v := 0) hx hb dX7_cornerOf_3 (by decide) ?_
  refine lv_istore_n (lv' := [(3, .int 0), (2, .int (-9)), (0, .ref x), (1, .int set)]) hx hb dX7_cornerOf_4 rfl hl (by decide) rfl (fun ls hl => ?_)
  have lp5 : ∀ (fu5 : Nat) (i : Nat) (hi : i ≤ n) (hm5 : n - i < fu5) (ls : Array Slot) (hl : lv_has ls 4 [(0, .ref x), (1, .int set), (2, .int (cornW sd set i)), (3, .int (nI i))]), W p l e (headSpec wsX7_cornerOf ({ frames := 1, cells := 0, slots := 0, locals := 21 } : Room)).room s m ([.ref x, .int set]).toArray below meth c s.heap [] 0 0 (MQ below (vp_Si (fun r => r = (cornW sd set n))) ([.ref x, .int set]).toArray s 0 0 (fun _ => False)) (F0 m 5 ls []) := by
    intro fu5
    induction fu5 with
    | zero =>
      intros; omega
    | succ fu5 ih5 =>
      intro i hi hm5 ls hl
      refine lv_iload_n hx hb dX7_cornerOf_5 rfl (lv_at hl 3 rfl) ?_
      refine lv_aload_n hx hb dX7_cornerOf_6 rfl (lv_at hl 0 rfl) ?_
      refine va_get (D := D) (ci := 7) (v := .int (nI n)) (C := RX7) (T := TX7) (N := 28) hx hb hts iX7 hown hK hP 0 rfl rfl 5 (by decide) f65 (fun _ h9 => h9) rfl dX7_cornerOf_7 ?_
      refine lv_icmp_ge (tgt := 54) hx hb dX7_cornerOf_10 (by decide) (fun c10 => ?_) (fun c10 => ?_)
      · -- t10
        have e10 : i = n := by have q := ge_n (by omega) (by omega) c10; omega
        rw [e10] at hl
        refine lv_iload_n hx hb dX7_cornerOf_54 rfl (lv_at hl 2 rfl) ?_
        exact W.iret (v := cornW sd set n) hx hb hr (fun t ht hW => ⟨_, rfl, by rfl, ht⟩) (fun _ h => absurd h List.not_mem_nil) dX7_cornerOf_55
      · -- f10
        have l10 : i < n := lt_n (by omega) (by omega) c10
        refine lv_iload_n hx hb dX7_cornerOf_13 rfl (lv_at hl 1 rfl) ?_
        refine lv_iload_n hx hb dX7_cornerOf_14 rfl (lv_at hl 3 rfl) ?_
        have hPc := hP.sub (ws' := []) [] rfl
        refine vp_callSi (va_Run.run (va_runS (As := [.int set, .int (nI i)]) (rest := []) ⟨hx, hb, hml, hown, hts⟩ (c_X7_isOf l D cI cO set i (by omega)) (va_cwS 2 hts gX7_cornerOf_X7_isOf rfl rfl rfl (by decide +kernel) ⟨Nat.le_of_ble_eq_true rfl, Nat.le_of_ble_eq_true rfl⟩) (preSR hPc hK hNw) rfl rfl hl.1 rfl (lv_room (Nat.le_of_ble_eq_true rfl)) dX7_cornerOf_15 ⟨Nat.zero_le _, Nat.zero_le _⟩)) (fun r15 w15 => ?_)
        by_cases b15 : bt set i = true
        · -- y15
          obtain rfl := w15.1 b15
          refine lv_if_eq (tgt := 46) hx hb dX7_cornerOf_18 (by decide) (fun h => absurd h (by decide)) (fun _ => ?_)
          refine lv_iload_n hx hb dX7_cornerOf_21 rfl (lv_at hl 2 rfl) ?_
          refine lv_bipush (v := -9) hx hb dX7_cornerOf_22 (by decide) ?_
          refine lv_icmp_eq (tgt := 42) hx hb dX7_cornerOf_24 (by decide) (fun c24 => ?_) (fun c24 => ?_)
          · -- t24
            refine lv_iload_n hx hb dX7_cornerOf_42 rfl (lv_at hl 3 rfl) ?_
            refine lv_goto (tgt := 47) hx hb dX7_cornerOf_43 (by decide) ?_
            refine lv_istore_n (lv' := [(2, .int (nI i)), (0, .ref x), (1, .int set), (3, .int (nI i))]) hx hb dX7_cornerOf_47 rfl hl (by decide) rfl (fun ls hl => ?_)
            refine lv_iinc (v := nI (i + 1)) (lv' := [(3, .int (nI (i + 1))), (2, .int (nI i)), (0, .ref x), (1, .int set)]) hx hb dX7_cornerOf_48 hl (k := 3) rfl (nI_1 _) (by decide) rfl (fun ls hl => ?_)
            refine lv_goto (tgt := 5) hx hb dX7_cornerOf_51 (by decide) ?_
            have e5_2 : (nI i) = cornW sd set (i + 1) := by rw [cornW]; first | (rw [if_pos ⟨b15, Or.inl c24⟩]; done) | (rw [if_pos ⟨b15, Or.inr (by rw [et0, nI_clamp (n := t0) (by omega)]; exact nlt_le c39)⟩]; done) | (rw [if_neg (fun q => b15 q.1)]; done) | (rw [if_neg (fun q => q.2.elim c24 (fun z => by rw [et0, nI_clamp (n := t0) (by omega)] at z; exact le_nlt z c39))]; done)
            have hl : lv_has ls 4 [(3, .int (nI (i + 1))), (2, .int (cornW sd set (i + 1))), (0, .ref x), (1, .int set)] := by rw [← e5_2]; exact hl
            exact ih5 (i + 1) (by omega) (by omega) _ (lv_sub hl [2, 3, 1, 0] rfl)
          · -- f24
            obtain ⟨t0, ht0, et0⟩ := (cornW_or sd set i).resolve_left c24
            refine lv_aload_n hx hb dX7_cornerOf_27 rfl (lv_at hl 0 rfl) ?_
            refine va_get (D := D) (ci := 7) (v := .ref si) (C := RX7) (T := TX7) (N := 28) hx hb hts iX7 hown hK hP 0 rfl rfl 9 (by decide) f22 (fun _ h9 => h9) rfl dX7_cornerOf_28 ?_
            refine lv_iload_n hx hb dX7_cornerOf_31 rfl (lv_at hl 3 rfl) ?_
            refine va_iald hx hb hK hP 1 0 rfl rfl (vp_in_nI (by omega) (by decide)) dX7_cornerOf_32 ?_
            refine tp_i (y := sd i) (by rw [nI_clamp (n := i) (by omega)]) ?_
            refine lv_aload_n hx hb dX7_cornerOf_33 rfl (lv_at hl 0 rfl) ?_
            refine va_get (D := D) (ci := 7) (v := .ref si) (C := RX7) (T := TX7) (N := 28) hx hb hts iX7 hown hK hP 0 rfl rfl 9 (by decide) f22 (fun _ h9 => h9) rfl dX7_cornerOf_34 ?_
            refine lv_iload_n hx hb dX7_cornerOf_37 rfl (lv_at hl 2 rfl) ?_
            refine tp_i (y := nI t0) (et0) ?_
            refine va_iald hx hb hK hP 1 0 rfl rfl (vp_in_nI (by omega) (by decide)) dX7_cornerOf_38 ?_
            refine tp_i (y := sd t0) (by rw [nI_clamp (n := t0) (by omega)]) ?_
            refine lv_icmp_lt (tgt := 46) hx hb dX7_cornerOf_39 (by decide) (fun c39 => ?_) (fun c39 => ?_)
            · -- t39
              refine lv_iload_n hx hb dX7_cornerOf_46 rfl (lv_at hl 2 rfl) ?_
              refine lv_istore_n (lv' := [(2, .int (cornW sd set i)), (0, .ref x), (1, .int set), (3, .int (nI i))]) hx hb dX7_cornerOf_47 rfl hl (by decide) rfl (fun ls hl => ?_)
              refine lv_iinc (v := nI (i + 1)) (lv' := [(3, .int (nI (i + 1))), (2, .int (cornW sd set i)), (0, .ref x), (1, .int set)]) hx hb dX7_cornerOf_48 hl (k := 3) rfl (nI_1 _) (by decide) rfl (fun ls hl => ?_)
              refine lv_goto (tgt := 5) hx hb dX7_cornerOf_51 (by decide) ?_
              have e5_2 : (cornW sd set i) = cornW sd set (i + 1) := by rw [cornW]; first | (rw [if_pos ⟨b15, Or.inl c24⟩]; done) | (rw [if_pos ⟨b15, Or.inr (by rw [et0, nI_clamp (n := t0) (by omega)]; exact nlt_le c39)⟩]; done) | (rw [if_neg (fun q => b15 q.1)]; done) | (rw [if_neg (fun q => q.2.elim c24 (fun z => by rw [et0, nI_clamp (n := t0) (by omega)] at z; exact le_nlt z c39))]; done)
              have hl : lv_has ls 4 [(3, .int (nI (i + 1))), (2, .int (cornW sd set (i + 1))), (0, .ref x), (1, .int set)] := by rw [← e5_2]; exact hl
              exact ih5 (i + 1) (by omega) (by omega) _ (lv_sub hl [2, 3, 1, 0] rfl)
            · -- f39
              refine lv_iload_n hx hb dX7_cornerOf_42 rfl (lv_at hl 3 rfl) ?_
              refine lv_goto (tgt := 47) hx hb dX7_cornerOf_43 (by decide) ?_
              refine lv_istore_n (lv' := [(2, .int (nI i)), (0, .ref x), (1, .int set), (3, .int (nI i))]) hx hb dX7_cornerOf_47 rfl hl (by decide) rfl (fun ls hl => ?_)
              refine lv_iinc (v := nI (i + 1)) (lv' := [(3, .int (nI (i + 1))), (2, .int (nI i)), (0, .ref x), (1, .int set)]) hx hb dX7_cornerOf_48 hl (k := 3) rfl (nI_1 _) (by decide) rfl (fun ls hl => ?_)
              refine lv_goto (tgt := 5) hx hb dX7_cornerOf_51 (by decide) ?_
              have e5_2 : (nI i) = cornW sd set (i + 1) := by rw [cornW]; first | (rw [if_pos ⟨b15, Or.inl c24⟩]; done) | (rw [if_pos ⟨b15, Or.inr (by rw [et0, nI_clamp (n := t0) (by omega)]; exact nlt_le c39)⟩]; done) | (rw [if_neg (fun q => b15 q.1)]; done) | (rw [if_neg (fun q => q.2.elim c24 (fun z => by rw [et0, nI_clamp (n := t0) (by omega)] at z; exact le_nlt z c39))]; done)
              have hl : lv_has ls 4 [(3, .int (nI (i + 1))), (2, .int (cornW sd set (i + 1))), (0, .ref x), (1, .int set)] := by rw [← e5_2]; exact hl
              exact ih5 (i + 1) (by omega) (by omega) _ (lv_sub hl [2, 3, 1, 0] rfl)
        · -- n15
          obtain rfl := w15.2 b15
          refine lv_if_eq (tgt := 46) hx hb dX7_cornerOf_18 (by decide) (fun _ => ?_) (fun h => absurd (by decide) h)
          refine lv_iload_n hx hb dX7_cornerOf_46 rfl (lv_at hl 2 rfl) ?_
          refine lv_istore_n (lv' := [(2, .int (cornW sd set i)), (0, .ref x), (1, .int set), (3, .int (nI i))]) hx hb dX7_cornerOf_47 rfl hl (by decide) rfl (fun ls hl => ?_)
          refine lv_iinc (v := nI (i + 1)) (lv' := [(3, .int (nI (i + 1))), (2, .int (cornW sd set i)), (0, .ref x), (1, .int set)]) hx hb dX7_cornerOf_48 hl (k := 3) rfl (nI_1 _) (by decide) rfl (fun ls hl => ?_)
          refine lv_goto (tgt := 5) hx hb dX7_cornerOf_51 (by decide) ?_
          have e5_2 : (cornW sd set i) = cornW sd set (i + 1) := by rw [cornW]; first | (rw [if_pos ⟨b15, Or.inl c24⟩]; done) | (rw [if_pos ⟨b15, Or.inr (by rw [et0, nI_clamp (n := t0) (by omega)]; exact nlt_le c39)⟩]; done) | (rw [if_neg (fun q => b15 q.1)]; done) | (rw [if_neg (fun q => q.2.elim c24 (fun z => by rw [et0, nI_clamp (n := t0) (by omega)] at z; exact le_nlt z c39))]; done)
          have hl : lv_has ls 4 [(3, .int (nI (i + 1))), (2, .int (cornW sd set (i + 1))), (0, .ref x), (1, .int set)] := by rw [← e5_2]; exact hl
          exact ih5 (i + 1) (by omega) (by omega) _ (lv_sub hl [2, 3, 1, 0] rfl)
  exact lp5 _ 0 (Nat.zero_le _) (Nat.lt_succ_self _) _ (lv_sub hl [2, 3, 1, 0] rfl)

set_option maxHeartbeats 4000000 in
set_option maxRecDepth 100000 in
theorem c_X7_canHang (l : Launch) (D : va_G) (cI cO : ClassId) (x : Nat) (fa : Int32) (tr : Int32) (so : Nat) (sl : Nat) (ce : Nat) (n : Nat) (bar : Int32) (tn : Nat) (ki : Nat) (si : Nat) (th : Nat) (ri : Nat) (at_ : Int32) (rp : Int32) (rk : Nat) (rs : Nat) (kt : Nat) (kr : Nat) (kn : Int32) (rg : Int32) (ab : Nat) (am : Int32) (bh : Nat) (bm : Int32) (br : Int32) (rn : Nat) (wa : Nat) (ra : Nat) (sd : Nat → Int32) (k : Nat) (hn : n ≤ 9) (hk2n : k < 2 ^ n) : Met l yX7_canHang wsX7_canHang ({ frames := 2, cells := 0, slots := 0, locals := 44 } : Room) (va_Pc [.ref x, .int (nI k)] (wdR D cI cO [(x, .inr (7, [.int fa, .int tr, .ref so, .ref sl, .ref ce, .int (nI n), .int bar, .int (nI tn), .ref ki, .ref si, .ref th, .ref ri, .int at_, .int rp, .ref rk, .ref rs, .ref kt, .ref kr, .int kn, .int rg, .ref ab, .int am, .ref bh, .int bm, .int br, .int (nI rn), .ref wa, .ref ra])), (si, .inl (cI, 9, .inl sd))])) (vp_Si (fun r => ((canH n sd (nI k) = true) → r = 1) ∧ (¬ (canH n sd (nI k) = true) → r = 0))) 0 0 (fun _ => False) := by
  refine Met.ofW (cc := cX7_canHang) (maxL := 2) (ret := (some .boolean)) (by decide) rfl ?_
  intro p e s m args below meth c s₁ B hml hv
  obtain ⟨rfl, hP, hK, hNw⟩ := hv
  have hx := B.exec
  have hb := B.bytes
  have hr := B.returns
  have hts := atoms_spec (ws := wsX7_canHang) B.pre
  have hown : s.vm.findClass RX7 = some m.cls := findClass_of_methodNamed B.named
  have hlocks := B.notSynchronized
  have f22 := hts (.fieldLink RX7 22 "StruckThreesModel" "side" "[I") (by decide +kernel)
  have iX7 : ∀ w ∈ wsX70, w ∈ wsX7_canHang := by decide +kernel
  have hP : va_P D vwCl [(x, .inr (7, [.int fa, .int tr, .ref so, .ref sl, .ref ce, .int (nI n), .int bar, .int (nI tn), .ref ki, .ref si, .ref th, .ref ri, .int at_, .int rp, .ref rk, .ref rs, .ref kt, .ref kr, .int kn, .int rg, .ref ab, .int am, .ref bh, .int bm, .int br, .int (nI rn), .ref wa, .ref ra])), (si, .inl (cI, 9, .inl sd))] s.heap := hP
  have hl := lv_entry ([.ref x, .int (nI k)]) (n := 2) (Nat.le_of_ble_eq_true rfl)
  rw [lg_entry_eq]
  generalize (lg_sl ([.ref x, .int (nI k)]) ++ List.replicate (2 - (lg_sl ([.ref x, .int (nI k)])).length) Slot.unset).toArray = ls at hl ⊢
  have hl : lv_has ls 2 [(0, .ref x), (1, .int (nI k))] := hl
  have hb2 := bnd_t hn
  refine lv_iload_n hx hb dX7_canHang_0 rfl (lv_at hl 1 rfl) ?_
  have hPc := hP.sub (ws' := []) [] rfl
  refine vp_callSi (va_Run.run (va_runS (As := [.int (nI k)]) (rest := []) ⟨hx, hb, hml, hown, hts⟩ (c_X7_size l D cI cO k (by omega)) (va_cwS 1 hts gX7_canHang_X7_size rfl rfl rfl (by decide +kernel) ⟨Nat.le_of_ble_eq_true rfl, Nat.le_of_ble_eq_true rfl⟩) (preSR hPc hK hNw) rfl rfl hl.1 rfl (lv_room (Nat.le_of_ble_eq_true rfl)) dX7_canHang_1 ⟨Nat.zero_le _, Nat.zero_le _⟩)) (fun r1 w1 => ?_)
  obtain rfl := w1
  refine lv_iconst (v := 3) hx hb dX7_canHang_4 (by decide) ?_
  refine lv_icmp_ne (tgt := 32) hx hb dX7_canHang_5 (by decide) (fun c5 => ?_) (fun c5 => ?_)
  · -- t5
    have hz : canH n sd (nI k) = false := decide_eq_false (fun q => c5 q.1)
    refine lv_iconst (v := 0) hx hb dX7_canHang_32 (by decide) ?_
    exact W.zret (v := 0) (ty := .boolean) hx hb hr rfl (fun t ht hW => ⟨_, rfl, by first | exact so_yes hz | exact so_no hz, ht⟩) (fun _ h => absurd h List.not_mem_nil) dX7_canHang_33
  · -- f5
    obtain ⟨t0, ht0, et0⟩ := corn_in (sd := sd) hn hk2n c5
    refine lv_iconst (v := 2) hx hb dX7_canHang_8 (by decide) ?_
    refine lv_aload_n hx hb dX7_canHang_9 rfl (lv_at hl 0 rfl) ?_
    refine va_get (D := D) (ci := 7) (v := .ref si) (C := RX7) (T := TX7) (N := 28) hx hb hts iX7 hown hK hP 0 rfl rfl 9 (by decide) f22 (fun _ h9 => h9) rfl dX7_canHang_10 ?_
    refine lv_aload_n hx hb dX7_canHang_13 rfl (lv_at hl 0 rfl) ?_
    refine lv_iload_n hx hb dX7_canHang_14 rfl (lv_at hl 1 rfl) ?_
    have hPc := hP.sub (ws' := [(x, .inr (7, [.int fa, .int tr, .ref so, .ref sl, .ref ce, .int (nI n), .int bar, .int (nI tn), .ref ki, .ref si, .ref th, .ref ri, .int at_, .int rp, .ref rk, .ref rs, .ref kt, .ref kr, .int kn, .int rg, .ref ab, .int am, .ref bh, .int bm, .int br, .int (nI rn), .ref wa, .ref ra])), (si, .inl (cI, 9, .inl sd))]) [0, 1] rfl
    refine vp_callSi (va_Run.run (va_runV (As := [.int (nI k)]) (rest := [.ref si, .int 2]) ⟨hx, hb, hml, hown, hts⟩ (c_X7_cornerOf l D cI cO x fa tr so sl ce n bar tn ki si th ri at_ rp rk rs kt kr kn rg ab am bh bm br rn wa ra sd (nI k) (by assumption)) (cwV 1 hts gX7_canHang_X7_cornerOf rfl rfl rfl (by decide +kernel) ⟨Nat.le_of_ble_eq_true rfl, Nat.le_of_ble_eq_true rfl⟩) (preVR hPc hK hNw (va_recv hK hPc (ci := 7) (q0 := 0) rfl rfl)) rfl rfl hl.1 rfl (lv_room (Nat.le_of_ble_eq_true rfl)) dX7_canHang_15 ⟨Nat.zero_le _, Nat.zero_le _⟩)) (fun r15 w15 => ?_)
    obtain rfl := w15
    refine tp_i (y := nI t0) (et0) ?_
    refine va_iald hx hb hK hP 1 0 rfl rfl (vp_in_nI (by omega) (by decide)) dX7_canHang_18 ?_
    refine tp_i (y := sd t0) (by rw [nI_clamp (n := t0) (by omega)]) ?_
    refine lv_imul hx hb dX7_canHang_19 ?_
    refine lv_aload_n hx hb dX7_canHang_20 rfl (lv_at hl 0 rfl) ?_
    refine lv_iload_n hx hb dX7_canHang_21 rfl (lv_at hl 1 rfl) ?_
    have hPc := hP.sub (ws' := [(x, .inr (7, [.int fa, .int tr, .ref so, .ref sl, .ref ce, .int (nI n), .int bar, .int (nI tn), .ref ki, .ref si, .ref th, .ref ri, .int at_, .int rp, .ref rk, .ref rs, .ref kt, .ref kr, .int kn, .int rg, .ref ab, .int am, .ref bh, .int bm, .int br, .int (nI rn), .ref wa, .ref ra])), (si, .inl (cI, 9, .inl sd))]) [0, 1] rfl
    refine vp_callSi (va_Run.run (va_runV (As := [.int (nI k)]) (rest := [.int (2 * (sd t0))]) ⟨hx, hb, hml, hown, hts⟩ (c_X7_pitchOf l D cI cO x fa tr so sl ce n bar tn ki si th ri at_ rp rk rs kt kr kn rg ab am bh bm br rn wa ra sd (nI k) (by assumption)) (cwV 1 hts gX7_canHang_X7_pitchOf rfl rfl rfl (by decide +kernel) ⟨Nat.le_of_ble_eq_true rfl, Nat.le_of_ble_eq_true rfl⟩) (preVR hPc hK hNw (va_recv hK hPc (ci := 7) (q0 := 0) rfl rfl)) rfl rfl hl.1 rfl (lv_room (Nat.le_of_ble_eq_true rfl)) dX7_canHang_22 ⟨Nat.zero_le _, Nat.zero_le _⟩)) (fun r22 w22 => ?_)
    obtain rfl := w22
    refine lv_icmp_ge (tgt := 32) hx hb dX7_canHang_25 (by decide) (fun c25 => ?_) (fun c25 => ?_)
    · -- t25
      have hz : canH n sd (nI k) = false := by unfold canH; rw [et0, sideF_in ht0 (by omega)]; exact decide_eq_false (fun q => q.2 c25)
      refine lv_iconst (v := 0) hx hb dX7_canHang_32 (by decide) ?_
      exact W.zret (v := 0) (ty := .boolean) hx hb hr rfl (fun t ht hW => ⟨_, rfl, by first | exact so_yes hz | exact so_no hz, ht⟩) (fun _ h => absurd h List.not_mem_nil) dX7_canHang_33
    · -- f25
      have hz : canH n sd (nI k) = true := by unfold canH; rw [et0, sideF_in ht0 (by omega)]; exact decide_eq_true ⟨c5, c25⟩
      refine lv_iconst (v := 1) hx hb dX7_canHang_28 (by decide) ?_
      refine lv_goto (tgt := 33) hx hb dX7_canHang_29 (by decide) ?_
      exact W.zret (v := 1) (ty := .boolean) hx hb hr rfl (fun t ht hW => ⟨_, rfl, by first | exact so_yes hz | exact so_no hz, ht⟩) (fun _ h => absurd h List.not_mem_nil) dX7_canHang_33

set_option maxHeartbeats 4000000 in
set_option maxRecDepth 100000 in
theorem c_X7_shapeOf (l : Launch) (D : va_G) (cI cO : ClassId) (x : Nat) (fa : Int32) (tr : Int32) (so : Nat) (sl : Nat) (ce : Nat) (n : Nat) (bar : Int32) (tn : Nat) (ki : Nat) (si : Nat) (th : Nat) (ri : Nat) (at_ : Int32) (rp : Int32) (rk : Nat) (rs : Nat) (kt : Nat) (kr : Nat) (kn : Int32) (rg : Int32) (ab : Nat) (am : Int32) (bh : Nat) (bm : Int32) (br : Int32) (rn : Nat) (wa : Nat) (ra : Nat) (sd : Nat → Int32) (set : Int32) (hn : n ≤ 9) : Met l yX7_shapeOf wsX7_shapeOf ({ frames := 1, cells := 0, slots := 0, locals := 21 } : Room) (va_Pc [.ref x, .int set] (wdR D cI cO [(x, .inr (7, [.int fa, .int tr, .ref so, .ref sl, .ref ce, .int (nI n), .int bar, .int (nI tn), .ref ki, .ref si, .ref th, .ref ri, .int at_, .int rp, .ref rk, .ref rs, .ref kt, .ref kr, .int kn, .int rg, .ref ab, .int am, .ref bh, .int bm, .int br, .int (nI rn), .ref wa, .ref ra])), (si, .inl (cI, 9, .inl sd))])) (vp_Si (fun r => r = (shpI sd set n))) 0 0 (fun _ => False) := by
  refine Met.ofW (cc := cX7_shapeOf) (maxL := 5) (ret := (some .int)) (by decide) rfl ?_
  intro p e s m args below meth c s₁ B hml hv
  obtain ⟨rfl, hP, hK, hNw⟩ := hv
  have hx := B.exec
  have hb := B.bytes
  have hr := B.returns
  have hts := atoms_spec (ws := wsX7_shapeOf) B.pre
  have hown : s.vm.findClass RX7 = some m.cls := findClass_of_methodNamed B.named
  have hlocks := B.notSynchronized
  have f22 := hts (.fieldLink RX7 22 "StruckThreesModel" "side" "[I") (by decide +kernel)
  have f65 := hts (.fieldLink RX7 65 "StruckThreesModel" "people" "I") (by decide +kernel)
  have iX7 : ∀ w ∈ wsX70, w ∈ wsX7_shapeOf := by decide +kernel
  have hP : va_P D vwCl [(x, .inr (7, [.int fa, .int tr, .ref so, .ref sl, .ref ce, .int (nI n), .int bar, .int (nI tn), .ref ki, .ref si, .ref th, .ref ri, .int at_, .int rp, .ref rk, .ref rs, .ref kt, .ref kr, .int kn, .int rg, .ref ab, .int am, .ref bh, .int bm, .int br, .int (nI rn), .ref wa, .ref ra])), (si, .inl (cI, 9, .inl sd))] s.heap := hP
  have hl := lv_entry ([.ref x, .int set]) (n := 5) (Nat.le_of_ble_eq_true rfl)
  rw [lg_entry_eq]
  generalize (lg_sl ([.ref x, .int set]) ++ List.replicate (5 - (lg_sl ([.ref x, .int set])).length) Slot.unset).toArray = ls at hl ⊢
  have hl : lv_has ls 5 [(0, .ref x), (1, .int set)] := hl
  refine lv_iconst (v := 0) hx hb dX7_shapeOf_0 (by decide) ?_
  refine lv_istore_n (lv' := [(2, .int 0), (0, .ref x), (1, .int set)]) hx hb dX7_shapeOf_1 rfl hl (by decide) rfl (fun ls hl => ?_)
  refine lv_iconst (v := 0) hx hb dX7_shapeOf_2 (by decide) ?_
  refine lv_istore_n (lv' := [(3, .int 0), (2, .int 0), (0, .ref x), (1, .int set)]) hx hb dX7_shapeOf_3 rfl hl (by decide) rfl (fun ls hl => ?_)
  have lp4 : ∀ (fu4 : Nat) (i : Nat) (hi : i ≤ n) (hm4 : n - i < fu4) (ls : Array Slot) (hl : lv_has ls 5 [(0, .ref x), (1, .int set), (2, .int (alkW sd set i)), (3, .int (nI i))]), W p l e (headSpec wsX7_shapeOf ({ frames := 1, cells := 0, slots := 0, locals := 21 } : Room)).room s m ([.ref x, .int set]).toArray below meth c s.heap [] 0 0 (MQ below (vp_Si (fun r => r = (shpI sd set n))) ([.ref x, .int set]).toArray s 0 0 (fun _ => False)) (F0 m 4 ls []) := by
    intro fu4
    induction fu4 with
    | zero =>
      intros; omega
    | succ fu4 ih4 =>
      intro i hi hm4 ls hl
      refine lv_iload_n hx hb dX7_shapeOf_4 rfl (lv_at hl 3 rfl) ?_
      refine lv_aload_n hx hb dX7_shapeOf_5 rfl (lv_at hl 0 rfl) ?_
      refine va_get (D := D) (ci := 7) (v := .int (nI n)) (C := RX7) (T := TX7) (N := 28) hx hb hts iX7 hown hK hP 0 rfl rfl 5 (by decide) f65 (fun _ h9 => h9) rfl dX7_shapeOf_6 ?_
      refine lv_icmp_ge (tgt := 74) hx hb dX7_shapeOf_9 (by decide) (fun c9 => ?_) (fun c9 => ?_)
      · -- t9
        have e9 : i = n := by have q := ge_n (by omega) (by omega) c9; omega
        rw [e9] at hl
        refine lv_iload_n hx hb dX7_shapeOf_74 rfl (lv_at hl 2 rfl) ?_
        refine lv_iconst (v := 3) hx hb dX7_shapeOf_75 (by decide) ?_
        refine lv_icmp_ne (tgt := 83) hx hb dX7_shapeOf_76 (by decide) (fun c76 => ?_) (fun c76 => ?_)
        · -- t76
          refine lv_iload_n hx hb dX7_shapeOf_83 rfl (lv_at hl 2 rfl) ?_
          exact W.iret (v := alkW sd set n) hx hb hr (fun t ht hW => ⟨_, rfl, by simp [shpI, c76], ht⟩) (fun _ h => absurd h List.not_mem_nil) dX7_shapeOf_84
        · -- f76
          refine lv_iconst (v := 2) hx hb dX7_shapeOf_79 (by decide) ?_
          refine lv_goto (tgt := 84) hx hb dX7_shapeOf_80 (by decide) ?_
          exact W.iret (v := 2) hx hb hr (fun t ht hW => ⟨_, rfl, by simp [shpI, c76], ht⟩) (fun _ h => absurd h List.not_mem_nil) dX7_shapeOf_84
      · -- f9
        have l9 : i < n := lt_n (by omega) (by omega) c9
        refine lv_iconst (v := 0) hx hb dX7_shapeOf_12 (by decide) ?_
        refine lv_istore (lv' := [(4, .int 0), (0, .ref x), (1, .int set), (2, .int (alkW sd set i)), (3, .int (nI i))]) hx hb dX7_shapeOf_13 hl (by decide) rfl (fun ls hl => ?_)
        have lp15 : ∀ (fu15 : Nat) (q : Nat) (hq : q ≤ i) (hm15 : i - q < fu15) (ls : Array Slot) (hl : lv_has ls 5 [(0, .ref x), (1, .int set), (2, .int (alkI sd set i (alkW sd set i) q)), (3, .int (nI i)), (4, .int (nI q))]), W p l e (headSpec wsX7_shapeOf ({ frames := 1, cells := 0, slots := 0, locals := 21 } : Room)).room s m ([.ref x, .int set]).toArray below meth c s.heap [] 0 0 (MQ below (vp_Si (fun r => r = (shpI sd set n))) ([.ref x, .int set]).toArray s 0 0 (fun _ => False)) (F0 m 15 ls []) := by
          intro fu15
          induction fu15 with
          | zero =>
            intros; omega
          | succ fu15 ih15 =>
            intro q hq hm15 ls hl
            refine lv_iload hx hb dX7_shapeOf_15 (lv_at hl 4 rfl) ?_
            refine lv_iload_n hx hb dX7_shapeOf_17 rfl (lv_at hl 3 rfl) ?_
            refine lv_icmp_ge (tgt := 68) hx hb dX7_shapeOf_18 (by decide) (fun c18 => ?_) (fun c18 => ?_)
            · -- t18
              have e18 : q = i := by have q := ge_n (by omega) (by omega) c18; omega
              rw [e18] at hl
              refine lv_iinc (v := nI (i + 1)) (lv' := [(3, .int (nI (i + 1))), (0, .ref x), (1, .int set), (2, .int (alkI sd set i (alkW sd set i) i)), (4, .int (nI i))]) hx hb dX7_shapeOf_68 hl (k := 3) rfl (nI_1 _) (by decide) rfl (fun ls hl => ?_)
              refine lv_goto (tgt := 4) hx hb dX7_shapeOf_71 (by decide) ?_
              have e4_2 : (alkI sd set i (alkW sd set i) i) = alkW sd set (i + 1) := by rfl
              have hl : lv_has ls 5 [(3, .int (nI (i + 1))), (0, .ref x), (1, .int set), (2, .int (alkW sd set (i + 1))), (4, .int (nI i))] := by rw [← e4_2]; exact hl
              exact ih4 (i + 1) (by omega) (by omega) _ (lv_sub hl [1, 2, 3, 0] rfl)
            · -- f18
              have l18 : q < i := lt_n (by omega) (by omega) c18
              refine lv_iload_n hx hb dX7_shapeOf_21 rfl (lv_at hl 2 rfl) ?_
              refine lv_iload_n hx hb dX7_shapeOf_22 rfl (lv_at hl 1 rfl) ?_
              refine lv_iload_n hx hb dX7_shapeOf_23 rfl (lv_at hl 3 rfl) ?_
              have hPc := hP.sub (ws' := []) [] rfl
              refine vp_callSi (va_Run.run (va_runS (As := [.int set, .int (nI i)]) (rest := [.int (alkI sd set i (alkW sd set i) q)]) ⟨hx, hb, hml, hown, hts⟩ (c_X7_isOf l D cI cO set i (by omega)) (va_cwS 2 hts gX7_shapeOf_X7_isOf rfl rfl rfl (by decide +kernel) ⟨Nat.le_of_ble_eq_true rfl, Nat.le_of_ble_eq_true rfl⟩) (preSR hPc hK hNw) rfl rfl hl.1 rfl (lv_room (Nat.le_of_ble_eq_true rfl)) dX7_shapeOf_24 ⟨Nat.zero_le _, Nat.zero_le _⟩)) (fun r24 w24 => ?_)
              by_cases b24 : bt set i = true
              · -- y24
                obtain rfl := w24.1 b24
                refine lv_if_eq (tgt := 59) hx hb dX7_shapeOf_27 (by decide) (fun h => absurd h (by decide)) (fun _ => ?_)
                refine lv_iload_n hx hb dX7_shapeOf_30 rfl (lv_at hl 1 rfl) ?_
                refine lv_iload hx hb dX7_shapeOf_31 (lv_at hl 4 rfl) ?_
                have hPc := hP.sub (ws' := []) [] rfl
                refine vp_callSi (va_Run.run (va_runS (As := [.int set, .int (nI q)]) (rest := [.int (alkI sd set i (alkW sd set i) q)]) ⟨hx, hb, hml, hown, hts⟩ (c_X7_isOf l D cI cO set q (by omega)) (va_cwS 2 hts gX7_shapeOf_X7_isOf rfl rfl rfl (by decide +kernel) ⟨Nat.le_of_ble_eq_true rfl, Nat.le_of_ble_eq_true rfl⟩) (preSR hPc hK hNw) rfl rfl hl.1 rfl (lv_room (Nat.le_of_ble_eq_true rfl)) dX7_shapeOf_33 ⟨Nat.zero_le _, Nat.zero_le _⟩)) (fun r33 w33 => ?_)
                by_cases b33 : bt set q = true
                · -- y33
                  obtain rfl := w33.1 b33
                  refine lv_if_eq (tgt := 59) hx hb dX7_shapeOf_36 (by decide) (fun h => absurd h (by decide)) (fun _ => ?_)
                  refine lv_aload_n hx hb dX7_shapeOf_39 rfl (lv_at hl 0 rfl) ?_
                  refine va_get (D := D) (ci := 7) (v := .ref si) (C := RX7) (T := TX7) (N := 28) hx hb hts iX7 hown hK hP 0 rfl rfl 9 (by decide) f22 (fun _ h9 => h9) rfl dX7_shapeOf_40 ?_
                  refine lv_iload_n hx hb dX7_shapeOf_43 rfl (lv_at hl 3 rfl) ?_
                  refine va_iald hx hb hK hP 1 0 rfl rfl (vp_in_nI (by omega) (by decide)) dX7_shapeOf_44 ?_
                  refine tp_i (y := sd i) (by rw [nI_clamp (n := i) (by omega)]) ?_
                  refine lv_aload_n hx hb dX7_shapeOf_45 rfl (lv_at hl 0 rfl) ?_
                  refine va_get (D := D) (ci := 7) (v := .ref si) (C := RX7) (T := TX7) (N := 28) hx hb hts iX7 hown hK hP 0 rfl rfl 9 (by decide) f22 (fun _ h9 => h9) rfl dX7_shapeOf_46 ?_
                  refine lv_iload hx hb dX7_shapeOf_49 (lv_at hl 4 rfl) ?_
                  refine va_iald hx hb hK hP 1 0 rfl rfl (vp_in_nI (by omega) (by decide)) dX7_shapeOf_51 ?_
                  refine tp_i (y := sd q) (by rw [nI_clamp (n := q) (by omega)]) ?_
                  refine lv_icmp_ne (tgt := 59) hx hb dX7_shapeOf_52 (by decide) (fun c52 => ?_) (fun c52 => ?_)
                  · -- t52
                    refine lv_iconst (v := 0) hx hb dX7_shapeOf_59 (by decide) ?_
                    refine lv_iadd hx hb dX7_shapeOf_60 ?_
                    refine lv_istore_n (lv' := [(2, .int ((alkI sd set i (alkW sd set i) q) + 0)), (0, .ref x), (1, .int set), (3, .int (nI i)), (4, .int (nI q))]) hx hb dX7_shapeOf_61 rfl hl (by decide) rfl (fun ls hl => ?_)
                    refine lv_iinc (v := nI (q + 1)) (lv' := [(4, .int (nI (q + 1))), (2, .int ((alkI sd set i (alkW sd set i) q) + 0)), (0, .ref x), (1, .int set), (3, .int (nI i))]) hx hb dX7_shapeOf_62 hl (k := 4) rfl (nI_1 _) (by decide) rfl (fun ls hl => ?_)
                    refine lv_goto (tgt := 15) hx hb dX7_shapeOf_65 (by decide) ?_
                    have e15_2 : ((alkI sd set i (alkW sd set i) q) + 0) = alkI sd set i (alkW sd set i) (q + 1) := by rw [alkI]; first | (rw [if_pos ⟨b24, b33, c52⟩]; done) | (rw [if_neg (fun z => c52 z.2.2)]; exact Int32.add_zero _) | (rw [if_neg (fun z => b33 z.2.1)]; exact Int32.add_zero _) | (rw [if_neg (fun z => b24 z.1)]; exact Int32.add_zero _)
                    have hl : lv_has ls 5 [(4, .int (nI (q + 1))), (2, .int (alkI sd set i (alkW sd set i) (q + 1))), (0, .ref x), (1, .int set), (3, .int (nI i))] := by rw [← e15_2]; exact hl
                    exact ih15 (q + 1) (by omega) (by omega) _ (lv_sub hl [2, 3, 1, 4, 0] rfl)
                  · -- f52
                    refine lv_iconst (v := 1) hx hb dX7_shapeOf_55 (by decide) ?_
                    refine lv_goto (tgt := 60) hx hb dX7_shapeOf_56 (by decide) ?_
                    refine lv_iadd hx hb dX7_shapeOf_60 ?_
                    refine lv_istore_n (lv' := [(2, .int ((alkI sd set i (alkW sd set i) q) + 1)), (0, .ref x), (1, .int set), (3, .int (nI i)), (4, .int (nI q))]) hx hb dX7_shapeOf_61 rfl hl (by decide) rfl (fun ls hl => ?_)
                    refine lv_iinc (v := nI (q + 1)) (lv' := [(4, .int (nI (q + 1))), (2, .int ((alkI sd set i (alkW sd set i) q) + 1)), (0, .ref x), (1, .int set), (3, .int (nI i))]) hx hb dX7_shapeOf_62 hl (k := 4) rfl (nI_1 _) (by decide) rfl (fun ls hl => ?_)
                    refine lv_goto (tgt := 15) hx hb dX7_shapeOf_65 (by decide) ?_
                    have e15_2 : ((alkI sd set i (alkW sd set i) q) + 1) = alkI sd set i (alkW sd set i) (q + 1) := by rw [alkI]; first | (rw [if_pos ⟨b24, b33, c52⟩]; done) | (rw [if_neg (fun z => c52 z.2.2)]; exact Int32.add_zero _) | (rw [if_neg (fun z => b33 z.2.1)]; exact Int32.add_zero _) | (rw [if_neg (fun z => b24 z.1)]; exact Int32.add_zero _)
                    have hl : lv_has ls 5 [(4, .int (nI (q + 1))), (2, .int (alkI sd set i (alkW sd set i) (q + 1))), (0, .ref x), (1, .int set), (3, .int (nI i))] := by rw [← e15_2]; exact hl
                    exact ih15 (q + 1) (by omega) (by omega) _ (lv_sub hl [2, 3, 1, 4, 0] rfl)
                · -- n33
                  obtain rfl := w33.2 b33
                  refine lv_if_eq (tgt := 59) hx hb dX7_shapeOf_36 (by decide) (fun _ => ?_) (fun h => absurd (by decide) h)
                  refine lv_iconst (v := 0) hx hb dX7_shapeOf_59 (by decide) ?_
                  refine lv_iadd hx hb dX7_shapeOf_60 ?_
                  refine lv_istore_n (lv' := [(2, .int ((alkI sd set i (alkW sd set i) q) + 0)), (0, .ref x), (1, .int set), (3, .int (nI i)), (4, .int (nI q))]) hx hb dX7_shapeOf_61 rfl hl (by decide) rfl (fun ls hl => ?_)
                  refine lv_iinc (v := nI (q + 1)) (lv' := [(4, .int (nI (q + 1))), (2, .int ((alkI sd set i (alkW sd set i) q) + 0)), (0, .ref x), (1, .int set), (3, .int (nI i))]) hx hb dX7_shapeOf_62 hl (k := 4) rfl (nI_1 _) (by decide) rfl (fun ls hl => ?_)
                  refine lv_goto (tgt := 15) hx hb dX7_shapeOf_65 (by decide) ?_
                  have e15_2 : ((alkI sd set i (alkW sd set i) q) + 0) = alkI sd set i (alkW sd set i) (q + 1) := by rw [alkI]; first | (rw [if_pos ⟨b24, b33, c52⟩]; done) | (rw [if_neg (fun z => c52 z.2.2)]; exact Int32.add_zero _) | (rw [if_neg (fun z => b33 z.2.1)]; exact Int32.add_zero _) | (rw [if_neg (fun z => b24 z.1)]; exact Int32.add_zero _)
                  have hl : lv_has ls 5 [(4, .int (nI (q + 1))), (2, .int (alkI sd set i (alkW sd set i) (q + 1))), (0, .ref x), (1, .int set), (3, .int (nI i))] := by rw [← e15_2]; exact hl
                  exact ih15 (q + 1) (by omega) (by omega) _ (lv_sub hl [2, 3, 1, 4, 0] rfl)
              · -- n24
                obtain rfl := w24.2 b24
                refine lv_if_eq (tgt := 59) hx hb dX7_shapeOf_27 (by decide) (fun _ => ?_) (fun h => absurd (by decide) h)
                refine lv_iconst (v := 0) hx hb dX7_shapeOf_59 (by decide) ?_
                refine lv_iadd hx hb dX7_shapeOf_60 ?_
                refine lv_istore_n (lv' := [(2, .int ((alkI sd set i (alkW sd set i) q) + 0)), (0, .ref x), (1, .int set), (3, .int (nI i)), (4, .int (nI q))]) hx hb dX7_shapeOf_61 rfl hl (by decide) rfl (fun ls hl => ?_)
                refine lv_iinc (v := nI (q + 1)) (lv' := [(4, .int (nI (q + 1))), (2, .int ((alkI sd set i (alkW sd set i) q) + 0)), (0, .ref x), (1, .int set), (3, .int (nI i))]) hx hb dX7_shapeOf_62 hl (k := 4) rfl (nI_1 _) (by decide) rfl (fun ls hl => ?_)
                refine lv_goto (tgt := 15) hx hb dX7_shapeOf_65 (by decide) ?_
                have e15_2 : ((alkI sd set i (alkW sd set i) q) + 0) = alkI sd set i (alkW sd set i) (q + 1) := by rw [alkI]; first | (rw [if_pos ⟨b24, b33, c52⟩]; done) | (rw [if_neg (fun z => c52 z.2.2)]; exact Int32.add_zero _) | (rw [if_neg (fun z => b33 z.2.1)]; exact Int32.add_zero _) | (rw [if_neg (fun z => b24 z.1)]; exact Int32.add_zero _)
                have hl : lv_has ls 5 [(4, .int (nI (q + 1))), (2, .int (alkI sd set i (alkW sd set i) (q + 1))), (0, .ref x), (1, .int set), (3, .int (nI i))] := by rw [← e15_2]; exact hl
                exact ih15 (q + 1) (by omega) (by omega) _ (lv_sub hl [2, 3, 1, 4, 0] rfl)
        exact lp15 _ 0 (Nat.zero_le _) (Nat.lt_succ_self _) _ (lv_sub hl [1, 2, 3, 4, 0] rfl)
  exact lp4 _ 0 (Nat.zero_le _) (Nat.lt_succ_self _) _ (lv_sub hl [2, 3, 1, 0] rfl)

set_option maxHeartbeats 4000000 in
set_option maxRecDepth 100000 in
theorem c_X7_threeOf (l : Launch) (D : va_G) (cI cO : ClassId) (x : Nat) (fa : Int32) (tr : Int32) (so : Nat) (sl : Nat) (ce : Nat) (n : Nat) (bar : Int32) (tn : Nat) (ki : Nat) (si : Nat) (th : Nat) (ri : Nat) (at_ : Int32) (rp : Int32) (rk : Nat) (rs : Nat) (kt : Nat) (kr : Nat) (kn : Int32) (rg : Int32) (ab : Nat) (am : Int32) (bh : Nat) (bm : Int32) (br : Int32) (rn : Nat) (wa : Nat) (ra : Nat) (ts : Nat → Int32) (j : Nat) (ht3 : tn ≤ 3) (hj : j < 32) : Met l yX7_threeOf wsX7_threeOf ({ frames := 1, cells := 0, slots := 0, locals := 21 } : Room) (va_Pc [.ref x, .int (nI j)] (wdR D cI cO [(x, .inr (7, [.int fa, .int tr, .ref so, .ref sl, .ref ce, .int (nI n), .int bar, .int (nI tn), .ref ki, .ref si, .ref th, .ref ri, .int at_, .int rp, .ref rk, .ref rs, .ref kt, .ref kr, .int kn, .int rg, .ref ab, .int am, .ref bh, .int bm, .int br, .int (nI rn), .ref wa, .ref ra])), (th, .inl (cI, 3, .inl ts))])) (vp_Si (fun r => r = (thrW ts j tn 0))) 0 0 (fun _ => False) := by
  refine Met.ofW (cc := cX7_threeOf) (maxL := 3) (ret := (some .int)) (by decide) rfl ?_
  intro p e s m args below meth c s₁ B hml hv
  obtain ⟨rfl, hP, hK, hNw⟩ := hv
  have hx := B.exec
  have hb := B.bytes
  have hr := B.returns
  have hts := atoms_spec (ws := wsX7_threeOf) B.pre
  have hown : s.vm.findClass RX7 = some m.cls := findClass_of_methodNamed B.named
  have hlocks := B.notSynchronized
  have f25 := hts (.fieldLink RX7 25 "StruckThreesModel" "three" "[I") (by decide +kernel)
  have f68 := hts (.fieldLink RX7 68 "StruckThreesModel" "threes" "I") (by decide +kernel)
  have iX7 : ∀ w ∈ wsX70, w ∈ wsX7_threeOf := by decide +kernel
  have hP : va_P D vwCl [(x, .inr (7, [.int fa, .int tr, .ref so, .ref sl, .ref ce, .int (nI n), .int bar, .int (nI tn), .ref ki, .ref si, .ref th, .ref ri, .int at_, .int rp, .ref rk, .ref rs, .ref kt, .ref kr, .int kn, .int rg, .ref ab, .int am, .ref bh, .int bm, .int br, .int (nI rn), .ref wa, .ref ra])), (th, .inl (cI, 3, .inl ts))] s.heap := hP
  have hl := lv_entry ([.ref x, .int (nI j)]) (n := 3) (Nat.le_of_ble_eq_true rfl)
  rw [lg_entry_eq]
  generalize (lg_sl ([.ref x, .int (nI j)]) ++ List.replicate (3 - (lg_sl ([.ref x, .int (nI j)])).length) Slot.unset).toArray = ls at hl ⊢
  have hl : lv_has ls 3 [(0, .ref x), (1, .int (nI j))] := hl
  refine lv_iconst (v := 0) hx hb dX7_threeOf_0 (by decide) ?_
  refine lv_istore_n (lv' := [(2, .int 0), (0, .ref x), (1, .int (nI j))]) hx hb dX7_threeOf_1 rfl hl (by decide) rfl (fun ls hl => ?_)
  have lp2 : ∀ (fu2 : Nat) (i : Nat) (hi : i ≤ tn) (hq : thrW ts j (tn - i) i = thrW ts j tn 0) (hm2 : tn - i < fu2) (ls : Array Slot) (hl : lv_has ls 3 [(0, .ref x), (1, .int (nI j)), (2, .int (nI i))]), W p l e (headSpec wsX7_threeOf ({ frames := 1, cells := 0, slots := 0, locals := 21 } : Room)).room s m ([.ref x, .int (nI j)]).toArray below meth c s.heap [] 0 0 (MQ below (vp_Si (fun r => r = (thrW ts j tn 0))) ([.ref x, .int (nI j)]).toArray s 0 0 (fun _ => False)) (F0 m 2 ls []) := by
    intro fu2
    induction fu2 with
    | zero =>
      intros; omega
    | succ fu2 ih2 =>
      intro i hi hq hm2 ls hl
      refine lv_iload_n hx hb dX7_threeOf_2 rfl (lv_at hl 2 rfl) ?_
      refine lv_aload_n hx hb dX7_threeOf_3 rfl (lv_at hl 0 rfl) ?_
      refine va_get (D := D) (ci := 7) (v := .int (nI tn)) (C := RX7) (T := TX7) (N := 28) hx hb hts iX7 hown hK hP 0 rfl rfl 7 (by decide) f68 (fun _ h9 => h9) rfl dX7_threeOf_4 ?_
      refine lv_icmp_ge (tgt := 31) hx hb dX7_threeOf_7 (by decide) (fun c7 => ?_) (fun c7 => ?_)
      · -- t7
        have e7 : i = tn := by have q := ge_n (by omega) (by omega) c7; omega
        rw [e7] at hl
        refine lv_bipush (v := -9) hx hb dX7_threeOf_31 (by decide) ?_
        exact W.iret (v := -9) hx hb hr (fun t ht hW => ⟨_, rfl, by rw [← hq, e7, Nat.sub_self]; rfl, ht⟩) (fun _ h => absurd h List.not_mem_nil) dX7_threeOf_33
      · -- f7
        have l7 : i < tn := lt_n (by omega) (by omega) c7
        refine lv_aload_n hx hb dX7_threeOf_10 rfl (lv_at hl 0 rfl) ?_
        refine va_get (D := D) (ci := 7) (v := .ref th) (C := RX7) (T := TX7) (N := 28) hx hb hts iX7 hown hK hP 0 rfl rfl 10 (by decide) f25 (fun _ h9 => h9) rfl dX7_threeOf_11 ?_
        refine lv_iload_n hx hb dX7_threeOf_14 rfl (lv_at hl 2 rfl) ?_
        refine va_iald hx hb hK hP 1 0 rfl rfl (vp_in_nI (by omega) (by decide)) dX7_threeOf_15 ?_
        refine tp_i (y := ts i) (by rw [nI_clamp (n := i) (by omega)]) ?_
        refine lv_iload_n hx hb dX7_threeOf_16 rfl (lv_at hl 1 rfl) ?_
        have hPc := hP.sub (ws' := []) [] rfl
        refine vp_callSi (va_Run.run (va_runS (As := [.int (ts i), .int (nI j)]) (rest := []) ⟨hx, hb, hml, hown, hts⟩ (c_X7_isOf l D cI cO (ts i) j (by omega)) (va_cwS 2 hts gX7_threeOf_X7_isOf rfl rfl rfl (by decide +kernel) ⟨Nat.le_of_ble_eq_true rfl, Nat.le_of_ble_eq_true rfl⟩) (preSR hPc hK hNw) rfl rfl hl.1 rfl (lv_room (Nat.le_of_ble_eq_true rfl)) dX7_threeOf_17 ⟨Nat.zero_le _, Nat.zero_le _⟩)) (fun r17 w17 => ?_)
        by_cases b17 : bt (ts i) j = true
        · -- y17
          obtain rfl := w17.1 b17
          refine lv_if_eq (tgt := 25) hx hb dX7_threeOf_20 (by decide) (fun h => absurd h (by decide)) (fun _ => ?_)
          refine lv_iload_n hx hb dX7_threeOf_23 rfl (lv_at hl 2 rfl) ?_
          exact W.iret (v := nI i) hx hb hr (fun t ht hW => ⟨_, rfl, by rw [← hq, show tn - i = (tn - (i + 1)) + 1 by omega]; simp [thrW, b17], ht⟩) (fun _ h => absurd h List.not_mem_nil) dX7_threeOf_24
        · -- n17
          obtain rfl := w17.2 b17
          refine lv_if_eq (tgt := 25) hx hb dX7_threeOf_20 (by decide) (fun _ => ?_) (fun h => absurd (by decide) h)
          refine lv_iinc (v := nI (i + 1)) (lv' := [(2, .int (nI (i + 1))), (0, .ref x), (1, .int (nI j))]) hx hb dX7_threeOf_25 hl (k := 2) rfl (nI_1 _) (by decide) rfl (fun ls hl => ?_)
          refine lv_goto (tgt := 2) hx hb dX7_threeOf_28 (by decide) ?_
          exact ih2 (i + 1) (by omega) (by rw [← hq, show tn - i = (tn - (i + 1)) + 1 by omega]; simp [thrW, b17]) (by omega) _ (lv_sub hl [1, 2, 0] rfl)
  exact lp2 _ 0 (Nat.zero_le _) (rfl) (Nat.lt_succ_self _) _ (lv_sub hl [1, 2, 0] rfl)

set_option maxHeartbeats 4000000 in
set_option maxRecDepth 100000 in
theorem c_X7_joyOf (l : Launch) (D : va_G) (cI cO : ClassId) (x : Nat) (fa : Int32) (tr : Int32) (so : Nat) (sl : Nat) (ce : Nat) (n : Nat) (bar : Int32) (tn : Nat) (ki : Nat) (si : Nat) (th : Nat) (ri : Nat) (at_ : Int32) (rp : Int32) (rk : Nat) (rs : Nat) (kt : Nat) (kr : Nat) (kn : Int32) (rg : Int32) (ab : Nat) (am : Int32) (bh : Nat) (bm : Int32) (br : Int32) (rn : Nat) (wa : Nat) (ra : Nat) (kd : Nat → Int32) (sd : Nat → Int32) (ts : Nat → Int32) (j : Nat) (hn : n ≤ 9) (hk3 : ∀ j, j < n → kd j = 0 ∨ kd j = 1 ∨ kd j = 2) (ht3 : tn ≤ 3) (hj : j < n) : Met l yX7_joyOf wsX7_joyOf ({ frames := 2, cells := 0, slots := 0, locals := 44 } : Room) (va_Pc [.ref x, .int (nI j)] (wdR D cI cO [(x, .inr (7, [.int fa, .int tr, .ref so, .ref sl, .ref ce, .int (nI n), .int bar, .int (nI tn), .ref ki, .ref si, .ref th, .ref ri, .int at_, .int rp, .ref rk, .ref rs, .ref kt, .ref kr, .int kn, .int rg, .ref ab, .int am, .ref bh, .int bm, .int br, .int (nI rn), .ref wa, .ref ra])), (ki, .inl (cI, 9, .inl kd)), (si, .inl (cI, 9, .inl sd)), (th, .inl (cI, 3, .inl ts))])) (vp_Si (fun r => r = (joyI n kd sd tn ts j))) 0 0 (fun _ => False) := by
  refine Met.ofW (cc := cX7_joyOf) (maxL := 3) (ret := (some .int)) (by decide) rfl ?_
  intro p e s m args below meth c s₁ B hml hv
  obtain ⟨rfl, hP, hK, hNw⟩ := hv
  have hx := B.exec
  have hb := B.bytes
  have hr := B.returns
  have hts := atoms_spec (ws := wsX7_joyOf) B.pre
  have hown : s.vm.findClass RX7 = some m.cls := findClass_of_methodNamed B.named
  have hlocks := B.notSynchronized
  have f25 := hts (.fieldLink RX7 25 "StruckThreesModel" "three" "[I") (by decide +kernel)
  have iX7 : ∀ w ∈ wsX70, w ∈ wsX7_joyOf := by decide +kernel
  have hP : va_P D vwCl [(x, .inr (7, [.int fa, .int tr, .ref so, .ref sl, .ref ce, .int (nI n), .int bar, .int (nI tn), .ref ki, .ref si, .ref th, .ref ri, .int at_, .int rp, .ref rk, .ref rs, .ref kt, .ref kr, .int kn, .int rg, .ref ab, .int am, .ref bh, .int bm, .int br, .int (nI rn), .ref wa, .ref ra])), (ki, .inl (cI, 9, .inl kd)), (si, .inl (cI, 9, .inl sd)), (th, .inl (cI, 3, .inl ts))] s.heap := hP
  have hl := lv_entry ([.ref x, .int (nI j)]) (n := 3) (Nat.le_of_ble_eq_true rfl)
  rw [lg_entry_eq]
  generalize (lg_sl ([.ref x, .int (nI j)]) ++ List.replicate (3 - (lg_sl ([.ref x, .int (nI j)])).length) Slot.unset).toArray = ls at hl ⊢
  have hl : lv_has ls 3 [(0, .ref x), (1, .int (nI j))] := hl
  refine lv_aload_n hx hb dX7_joyOf_0 rfl (lv_at hl 0 rfl) ?_
  refine lv_iload_n hx hb dX7_joyOf_1 rfl (lv_at hl 1 rfl) ?_
  have hPc := hP.sub (ws' := [(x, .inr (7, [.int fa, .int tr, .ref so, .ref sl, .ref ce, .int (nI n), .int bar, .int (nI tn), .ref ki, .ref si, .ref th, .ref ri, .int at_, .int rp, .ref rk, .ref rs, .ref kt, .ref kr, .int kn, .int rg, .ref ab, .int am, .ref bh, .int bm, .int br, .int (nI rn), .ref wa, .ref ra])), (th, .inl (cI, 3, .inl ts))]) [0, 3] rfl
  refine vp_callSi (va_Run.run (va_runV (As := [.int (nI j)]) (rest := []) ⟨hx, hb, hml, hown, hts⟩ (c_X7_threeOf l D cI cO x fa tr so sl ce n bar tn ki si th ri at_ rp rk rs kt kr kn rg ab am bh bm br rn wa ra ts j (by assumption) (by omega)) (cwV 1 hts gX7_joyOf_X7_threeOf rfl rfl rfl (by decide +kernel) ⟨Nat.le_of_ble_eq_true rfl, Nat.le_of_ble_eq_true rfl⟩) (preVR hPc hK hNw (va_recv hK hPc (ci := 7) (q0 := 0) rfl rfl)) rfl rfl hl.1 rfl (lv_room (Nat.le_of_ble_eq_true rfl)) dX7_joyOf_2 ⟨Nat.zero_le _, Nat.zero_le _⟩)) (fun r2 w2 => ?_)
  obtain rfl := w2
  refine lv_istore_n (lv' := [(2, .int (thrW ts j tn 0)), (0, .ref x), (1, .int (nI j))]) hx hb dX7_joyOf_5 rfl hl (by decide) rfl (fun ls hl => ?_)
  refine lv_iload_n hx hb dX7_joyOf_6 rfl (lv_at hl 0 rfl) ?_
  refine lv_bipush (v := -9) hx hb dX7_joyOf_7 (by decide) ?_
  refine lv_icmp_ne (tgt := 16) hx hb dX7_joyOf_9 (by decide) (fun c9 => ?_) (fun c9 => ?_)
  · -- t9
    obtain ⟨t0, ht0, et0⟩ := thrW_in c9
    refine lv_aload_n hx hb dX7_joyOf_16 rfl (lv_at hl 1 rfl) ?_
    refine lv_aload_n hx hb dX7_joyOf_17 rfl (lv_at hl 1 rfl) ?_
    refine va_get (D := D) (ci := 7) (v := .ref th) (C := RX7) (T := TX7) (N := 28) hx hb hts iX7 hown hK hP 0 rfl rfl 10 (by decide) f25 (fun _ h9 => h9) rfl dX7_joyOf_18 ?_
    refine lv_iload_n hx hb dX7_joyOf_21 rfl (lv_at hl 0 rfl) ?_
    refine tp_i (y := nI t0) (et0) ?_
    refine va_iald hx hb hK hP 3 0 rfl rfl (vp_in_nI (by omega) (by decide)) dX7_joyOf_22 ?_
    refine tp_i (y := ts t0) (by rw [nI_clamp (n := t0) (by omega)]) ?_
    have hPc := hP.sub (ws' := [(x, .inr (7, [.int fa, .int tr, .ref so, .ref sl, .ref ce, .int (nI n), .int bar, .int (nI tn), .ref ki, .ref si, .ref th, .ref ri, .int at_, .int rp, .ref rk, .ref rs, .ref kt, .ref kr, .int kn, .int rg, .ref ab, .int am, .ref bh, .int bm, .int br, .int (nI rn), .ref wa, .ref ra])), (ki, .inl (cI, 9, .inl kd)), (si, .inl (cI, 9, .inl sd))]) [0, 1, 2] rfl
    refine vp_callSi (va_Run.run (va_runV (As := [.int (ts t0)]) (rest := []) ⟨hx, hb, hml, hown, hts⟩ (c_X7_ringsOf l D cI cO x fa tr so sl ce n bar tn ki si th ri at_ rp rk rs kt kr kn rg ab am bh bm br rn wa ra kd sd (ts t0) (by assumption) (by assumption)) (cwV 1 hts gX7_joyOf_X7_ringsOf rfl rfl rfl (by decide +kernel) ⟨Nat.le_of_ble_eq_true rfl, Nat.le_of_ble_eq_true rfl⟩) (preVR hPc hK hNw (va_recv hK hPc (ci := 7) (q0 := 0) rfl rfl)) rfl rfl hl.1 rfl (lv_room (Nat.le_of_ble_eq_true rfl)) dX7_joyOf_23 ⟨Nat.zero_le _, Nat.zero_le _⟩)) (fun r23 w23 => ?_)
    obtain rfl := w23
    exact W.iret (v := sumW (rgF kd sd) (ts t0) n) hx hb hr (fun t ht hW => ⟨_, rfl, by first | (simp [joyI, c9]; done) | (unfold joyI; rw [if_neg c9, et0, nI_clamp (by omega)]), ht⟩) (fun _ h => absurd h List.not_mem_nil) dX7_joyOf_26
  · -- f9
    refine lv_iconst (v := 0) hx hb dX7_joyOf_12 (by decide) ?_
    refine lv_goto (tgt := 26) hx hb dX7_joyOf_13 (by decide) ?_
    exact W.iret (v := 0) hx hb hr (fun t ht hW => ⟨_, rfl, by first | (simp [joyI, c9]; done) | (unfold joyI; rw [if_neg c9, et0, nI_clamp (by omega)]), ht⟩) (fun _ h => absurd h List.not_mem_nil) dX7_joyOf_26
