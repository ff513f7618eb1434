set_option maxHeartbeats 4000000 in
set_option maxRecDepth 100000 in
theorem c_X7_findAble (l : Launch) (D : va_G) (cI cO : ClassId) (x : Nat) (fa : Int32) (tr : Int32) (so : Nat) (sl : Nat) (ce : Nat) (n : Nat) (bar : Int32) (tn : Nat) (ki : Nat) (si : Nat) (th : Nat) (ri : Nat) (at_ : Int32) (rp : Int32) (rk : Nat) (rs : Nat) (kt : Nat) (kr : Nat) (kn : Int32) (rg : Int32) (ab : Nat) (am : Int32) (bh : Nat) (bm : Int32) (br : Int32) (rn : Nat) (wa : Nat) (ra : Nat) (sd : Nat → Int32) (av : Nat → Int32) (sz : Nat) (hn : n ≤ 9) : Met l yX7_findAble wsX7_findAble ({ frames := 3, cells := 0, slots := 0, locals := 65 } : Room) (va_Pc [.ref x] (wdW D cI cO [(x, .inr (7, [.int fa, .int tr, .ref so, .ref sl, .ref ce, .int (nI n), .int bar, .int (nI tn), .ref ki, .ref si, .ref th, .ref ri, .int at_, .int rp, .ref rk, .ref rs, .ref kt, .ref kr, .int kn, .int rg, .ref ab, .int am, .ref bh, .int bm, .int br, .int (nI rn), .ref wa, .ref ra])), (si, .inl (cI, 9, .inl sd)), (ab, .inl (cI, 84, .inl av))] sz)) (va_Qv (S := Nat × (Nat → Int32)) (fun u => u.1 = (ablW n sd av (2 ^ n)).2 ∧ u.2 = (ablW n sd av (2 ^ n)).1) (fun u t => va_P D vwCl [(x, .inr (7, [.int fa, .int tr, .ref so, .ref sl, .ref ce, .int (nI n), .int bar, .int (nI tn), .ref ki, .ref si, .ref th, .ref ri, .int at_, .int rp, .ref rk, .ref rs, .ref kt, .ref kr, .int kn, .int rg, .ref ab, .int (nI u.1), .ref bh, .int bm, .int br, .int (nI rn), .ref wa, .ref ra])), (si, .inl (cI, 9, .inl sd)), (ab, .inl (cI, 84, .inl u.2))] t.heap ∧ va_K D vwCl (tyL cI cO) t ∧ va_D (va_A [(x, .inr (7, [.int fa, .int tr, .ref so, .ref sl, .ref ce, .int (nI n), .int bar, .int (nI tn), .ref ki, .ref si, .ref th, .ref ri, .int at_, .int rp, .ref rk, .ref rs, .ref kt, .ref kr, .int kn, .int rg, .ref ab, .int am, .ref bh, .int bm, .int br, .int (nI rn), .ref wa, .ref ra])), (si, .inl (cI, 9, .inl sd)), (ab, .inl (cI, 84, .inl av))] sz) [(x, .inr (7, [.int fa, .int tr, .ref so, .ref sl, .ref ce, .int (nI n), .int bar, .int (nI tn), .ref ki, .ref si, .ref th, .ref ri, .int at_, .int rp, .ref rk, .ref rs, .ref kt, .ref kr, .int kn, .int rg, .ref ab, .int (nI u.1), .ref bh, .int bm, .int br, .int (nI rn), .ref wa, .ref ra])), (si, .inl (cI, 9, .inl sd)), (ab, .inl (cI, 84, .inl u.2))]) (va_A [(x, .inr (7, [.int fa, .int tr, .ref so, .ref sl, .ref ce, .int (nI n), .int bar, .int (nI tn), .ref ki, .ref si, .ref th, .ref ri, .int at_, .int rp, .ref rk, .ref rs, .ref kt, .ref kr, .int kn, .int rg, .ref ab, .int am, .ref bh, .int bm, .int br, .int (nI rn), .ref wa, .ref ra])), (si, .inl (cI, 9, .inl sd)), (ab, .inl (cI, 84, .inl av))] sz)) 0 0 (va_A [(x, .inr (7, [.int fa, .int tr, .ref so, .ref sl, .ref ce, .int (nI n), .int bar, .int (nI tn), .ref ki, .ref si, .ref th, .ref ri, .int at_, .int rp, .ref rk, .ref rs, .ref kt, .ref kr, .int kn, .int rg, .ref ab, .int am, .ref bh, .int bm, .int br, .int (nI rn), .ref wa, .ref ra])), (si, .inl (cI, 9, .inl sd)), (ab, .inl (cI, 84, .inl av))] sz) := by
  refine Met.ofW (cc := cX7_findAble) (maxL := 2) (ret := none) (by decide) rfl ?_
  intro p e s m args below meth c s₁ B hml hv
  obtain ⟨rfl, hsz, hP, hK, hNw, hD0⟩ := hv
  have hx := B.exec
  have hb := B.bytes
  have hr := B.returns
  have hts := atoms_spec (ws := wsX7_findAble) B.pre
  have hown : s.vm.findClass RX7 = some m.cls := findClass_of_methodNamed B.named
  have hlocks := B.notSynchronized
  have f43 := hts (.fieldLink RX7 43 "StruckThreesModel" "able" "[I") (by decide +kernel)
  have f65 := hts (.fieldLink RX7 65 "StruckThreesModel" "people" "I") (by decide +kernel)
  have f177 := hts (.fieldLink RX7 177 "StruckThreesModel" "ableMany" "I") (by decide +kernel)
  have iX7 : ∀ w ∈ wsX70, w ∈ wsX7_findAble := by decide +kernel
  subst hsz
  have hD := hD0.self (sz := s.heap.size)
  generalize hAe : va_A [(x, .inr (7, [.int fa, .int tr, .ref so, .ref sl, .ref ce, .int (nI n), .int bar, .int (nI tn), .ref ki, .ref si, .ref th, .ref ri, .int at_, .int rp, .ref rk, .ref rs, .ref kt, .ref kr, .int kn, .int rg, .ref ab, .int am, .ref bh, .int bm, .int br, .int (nI rn), .ref wa, .ref ra])), (si, .inl (cI, 9, .inl sd)), (ab, .inl (cI, 84, .inl av))] s.heap.size = A at hD ⊢
  have hA : ∀ q : Nat, s.heap.size ≤ q → A q := fun q h => by rw [← hAe]; exact Or.inr h
  have hS : va_S A s.heap s.heap [] := va_S.rf
  have hP : va_P D vwCl [(x, .inr (7, [.int fa, .int tr, .ref so, .ref sl, .ref ce, .int (nI n), .int bar, .int (nI tn), .ref ki, .ref si, .ref th, .ref ri, .int at_, .int rp, .ref rk, .ref rs, .ref kt, .ref kr, .int kn, .int rg, .ref ab, .int am, .ref bh, .int bm, .int br, .int (nI rn), .ref wa, .ref ra])), (si, .inl (cI, 9, .inl sd)), (ab, .inl (cI, 84, .inl av))] s.heap := hP
  have hl := lv_entry ([.ref x]) (n := 2) (Nat.le_of_ble_eq_true rfl)
  rw [lg_entry_eq]
  generalize (lg_sl ([.ref x]) ++ List.replicate (2 - (lg_sl ([.ref x])).length) Slot.unset).toArray = ls at hl ⊢
  have hl : lv_has ls 2 [(0, .ref x)] := hl
  have hb2 := bnd_t hn
  have hs2 := sh1 n (by omega)
  refine lv_aload_n hx hb dX7_findAble_0 rfl (lv_at hl 0 rfl) ?_
  refine lv_iconst (v := 0) hx hb dX7_findAble_1 (by decide) ?_
  refine va_put (D := D) (ci := 7) (v := .int 0) (ty := .int) (C := RX7) (T := TX7) (N := 28) hx hb hts iX7 tyX7 tyX7_ok nmX7 hown hK hP hD hS 0 rfl rfl 21 (by decide) f177 (fun _ h9 => h9) rfl (by decide +kernel) rfl rfl (Nat.le_of_ble_eq_true rfl) dX7_findAble_2 (fun H locs hP hD hS => ?_)
  have hP : va_P D vwCl [(x, .inr (7, [.int fa, .int tr, .ref so, .ref sl, .ref ce, .int (nI n), .int bar, .int (nI tn), .ref ki, .ref si, .ref th, .ref ri, .int at_, .int rp, .ref rk, .ref rs, .ref kt, .ref kr, .int kn, .int rg, .ref ab, .int 0, .ref bh, .int bm, .int br, .int (nI rn), .ref wa, .ref ra])), (si, .inl (cI, 9, .inl sd)), (ab, .inl (cI, 84, .inl av))] H := hP
  have hD : va_D A [(x, .inr (7, [.int fa, .int tr, .ref so, .ref sl, .ref ce, .int (nI n), .int bar, .int (nI tn), .ref ki, .ref si, .ref th, .ref ri, .int at_, .int rp, .ref rk, .ref rs, .ref kt, .ref kr, .int kn, .int rg, .ref ab, .int 0, .ref bh, .int bm, .int br, .int (nI rn), .ref wa, .ref ra])), (si, .inl (cI, 9, .inl sd)), (ab, .inl (cI, 84, .inl av))] := hD
  have hP : va_P D vwCl [(x, .inr (7, [.int fa, .int tr, .ref so, .ref sl, .ref ce, .int (nI n), .int bar, .int (nI tn), .ref ki, .ref si, .ref th, .ref ri, .int at_, .int rp, .ref rk, .ref rs, .ref kt, .ref kr, .int kn, .int rg, .ref ab, .int (nI 0), .ref bh, .int bm, .int br, .int (nI rn), .ref wa, .ref ra])), (si, .inl (cI, 9, .inl sd)), (ab, .inl (cI, 84, .inl av))] H := by exact hP
  have hD : va_D A [(x, .inr (7, [.int fa, .int tr, .ref so, .ref sl, .ref ce, .int (nI n), .int bar, .int (nI tn), .ref ki, .ref si, .ref th, .ref ri, .int at_, .int rp, .ref rk, .ref rs, .ref kt, .ref kr, .int kn, .int rg, .ref ab, .int (nI 0), .ref bh, .int bm, .int br, .int (nI rn), .ref wa, .ref ra])), (si, .inl (cI, 9, .inl sd)), (ab, .inl (cI, 84, .inl av))] := by exact hD
  refine lv_iconst (v := 0) hx hb dX7_findAble_5 (by decide) ?_
  refine lv_istore_n (lv' := [(1, .int 0), (0, .ref x)]) hx hb dX7_findAble_6 rfl hl (by decide) rfl (fun ls hl => ?_)
  have lp7 : ∀ (fu7 : Nat) (i : Nat) (hi : i ≤ 2 ^ n) (hm7 : 2 ^ n - i < fu7) (H : Heap) (locs : List Loc) (hP : va_P D vwCl [(x, .inr (7, [.int fa, .int tr, .ref so, .ref sl, .ref ce, .int (nI n), .int bar, .int (nI tn), .ref ki, .ref si, .ref th, .ref ri, .int at_, .int rp, .ref rk, .ref rs, .ref kt, .ref kr, .int kn, .int rg, .ref ab, .int (nI (ablW n sd av i).2), .ref bh, .int bm, .int br, .int (nI rn), .ref wa, .ref ra])), (si, .inl (cI, 9, .inl sd)), (ab, .inl (cI, 84, .inl (ablW n sd av i).1))] H) (hD : va_D A [(x, .inr (7, [.int fa, .int tr, .ref so, .ref sl, .ref ce, .int (nI n), .int bar, .int (nI tn), .ref ki, .ref si, .ref th, .ref ri, .int at_, .int rp, .ref rk, .ref rs, .ref kt, .ref kr, .int kn, .int rg, .ref ab, .int (nI (ablW n sd av i).2), .ref bh, .int bm, .int br, .int (nI rn), .ref wa, .ref ra])), (si, .inl (cI, 9, .inl sd)), (ab, .inl (cI, 84, .inl (ablW n sd av i).1))]) (hS : va_S A s.heap H locs) (ls : Array Slot) (hl : lv_has ls 2 [(0, .ref x), (1, .int (nI i))]), W p l e (headSpec wsX7_findAble ({ frames := 3, cells := 0, slots := 0, locals := 65 } : Room)).room s m ([.ref x]).toArray below meth c H locs 0 0 (MQ below (va_Qv (S := Nat × (Nat → Int32)) (fun u => u.1 = (ablW n sd av (2 ^ n)).2 ∧ u.2 = (ablW n sd av (2 ^ n)).1) (fun u t => va_P D vwCl [(x, .inr (7, [.int fa, .int tr, .ref so, .ref sl, .ref ce, .int (nI n), .int bar, .int (nI tn), .ref ki, .ref si, .ref th, .ref ri, .int at_, .int rp, .ref rk, .ref rs, .ref kt, .ref kr, .int kn, .int rg, .ref ab, .int (nI u.1), .ref bh, .int bm, .int br, .int (nI rn), .ref wa, .ref ra])), (si, .inl (cI, 9, .inl sd)), (ab, .inl (cI, 84, .inl u.2))] t.heap ∧ va_K D vwCl (tyL cI cO) t ∧ va_D A [(x, .inr (7, [.int fa, .int tr, .ref so, .ref sl, .ref ce, .int (nI n), .int bar, .int (nI tn), .ref ki, .ref si, .ref th, .ref ri, .int at_, .int rp, .ref rk, .ref rs, .ref kt, .ref kr, .int kn, .int rg, .ref ab, .int (nI u.1), .ref bh, .int bm, .int br, .int (nI rn), .ref wa, .ref ra])), (si, .inl (cI, 9, .inl sd)), (ab, .inl (cI, 84, .inl u.2))]) A) ([.ref x]).toArray s 0 0 A) (F0 m 7 ls []) := by
    intro fu7
    induction fu7 with
    | zero =>
      intros; omega
    | succ fu7 ih7 =>
      intro i hi hm7 H locs hP hD hS ls hl
      refine lv_iload_n hx hb dX7_findAble_7 rfl (lv_at hl 1 rfl) ?_
      refine lv_iconst (v := 1) hx hb dX7_findAble_8 (by decide) ?_
      refine lv_aload_n hx hb dX7_findAble_9 rfl (lv_at hl 0 rfl) ?_
      refine va_get (D := D) (ci := 7) (v := .int (nI n)) (C := RX7) (T := TX7) (N := 28) hx hb hts iX7 hown hK hP 0 rfl rfl 5 (by decide) f65 (fun _ h9 => h9) rfl dX7_findAble_10 ?_
      refine lv_ishl hx hb dX7_findAble_13 ?_
      refine tp_i (y := nI (2 ^ n)) (hs2) ?_
      refine lv_icmp_ge (tgt := 51) hx hb dX7_findAble_14 (by decide) (fun c14 => ?_) (fun c14 => ?_)
      · -- t14
        have e14 : i = 2 ^ n := by have q := ge_n (by omega) (by omega) c14; omega
        rw [e14] at hl
        rw [e14] at hP hD
        exact W.vret hx hb hr (fun t ht hW => ⟨⟨((ablW n sd av (2 ^ n)).2, (ablW n sd av (2 ^ n)).1), rfl, by exact ⟨rfl, rfl⟩, by rw [ht]; exact hP, va_K.moved hW.alike hK, hD⟩, hS.F ht⟩) hS.2.2 dX7_findAble_51
      · -- f14
        have l14 : i < 2 ^ n := lt_n (by omega) (by omega) c14
        refine lv_aload_n hx hb dX7_findAble_17 rfl (lv_at hl 0 rfl) ?_
        refine lv_iload_n hx hb dX7_findAble_18 rfl (lv_at hl 1 rfl) ?_
        have hPc := hP.sub (ws' := [(x, .inr (7, [.int fa, .int tr, .ref so, .ref sl, .ref ce, .int (nI n), .int bar, .int (nI tn), .ref ki, .ref si, .ref th, .ref ri, .int at_, .int rp, .ref rk, .ref rs, .ref kt, .ref kr, .int kn, .int rg, .ref ab, .int (nI (ablW n sd av i).2), .ref bh, .int bm, .int br, .int (nI rn), .ref wa, .ref ra])), (si, .inl (cI, 9, .inl sd))]) [0, 1] rfl
        refine vp_callSi (va_Run.run (va_runV (As := [.int (nI i)]) (rest := []) ⟨hx, hb, hml, hown, hts⟩ (c_X7_canHang l D cI cO x fa tr so sl ce n bar tn ki si th ri at_ rp rk rs kt kr kn rg ab (nI (ablW n sd av i).2) bh bm br rn wa ra sd i (by assumption) (by omega)) (cwV 1 hts gX7_findAble_X7_canHang rfl rfl rfl (by decide +kernel) ⟨Nat.le_of_ble_eq_true rfl, Nat.le_of_ble_eq_true rfl⟩) (preVR hPc hK hNw (va_recv hK hPc (ci := 7) (q0 := 0) rfl rfl)) rfl rfl hl.1 rfl (lv_room (Nat.le_of_ble_eq_true rfl)) dX7_findAble_19 ⟨Nat.zero_le _, Nat.zero_le _⟩)) (fun r19 w19 => ?_)
        by_cases b19 : canH n sd (nI i) = true
        · -- y19
          obtain rfl := w19.1 b19
          have h84 := abl_84 (av := av) (show i < 512 by omega) b19
          refine lv_if_eq (tgt := 45) hx hb dX7_findAble_22 (by decide) (fun h => absurd h (by decide)) (fun _ => ?_)
          refine lv_aload_n hx hb dX7_findAble_25 rfl (lv_at hl 0 rfl) ?_
          refine va_get (D := D) (ci := 7) (v := .ref ab) (C := RX7) (T := TX7) (N := 28) hx hb hts iX7 hown hK hP 0 rfl rfl 20 (by decide) f43 (fun _ h9 => h9) rfl dX7_findAble_26 ?_
          refine lv_aload_n hx hb dX7_findAble_29 rfl (lv_at hl 0 rfl) ?_
          refine va_get (D := D) (ci := 7) (v := .int (nI (ablW n sd av i).2)) (C := RX7) (T := TX7) (N := 28) hx hb hts iX7 hown hK hP 0 rfl rfl 21 (by decide) f177 (fun _ h9 => h9) rfl dX7_findAble_30 ?_
          refine lv_iload_n hx hb dX7_findAble_33 rfl (lv_at hl 1 rfl) ?_
          refine va_iast hx hb hK hP hD hS 2 0 rfl rfl (vp_in_nI (by omega) (by decide)) dX7_findAble_34 (fun H locs hP hD hS => ?_)
          rw [nI_clamp (n := (ablW n sd av i).2) (by omega)] at hP hD
          have hP : va_P D vwCl [(x, .inr (7, [.int fa, .int tr, .ref so, .ref sl, .ref ce, .int (nI n), .int bar, .int (nI tn), .ref ki, .ref si, .ref th, .ref ri, .int at_, .int rp, .ref rk, .ref rs, .ref kt, .ref kr, .int kn, .int rg, .ref ab, .int (nI (ablW n sd av i).2), .ref bh, .int bm, .int br, .int (nI rn), .ref wa, .ref ra])), (si, .inl (cI, 9, .inl sd)), (ab, .inl (cI, 84, .inl (upd (ablW n sd av i).1 (ablW n sd av i).2 (nI i))))] H := hP
          have hD : va_D A [(x, .inr (7, [.int fa, .int tr, .ref so, .ref sl, .ref ce, .int (nI n), .int bar, .int (nI tn), .ref ki, .ref si, .ref th, .ref ri, .int at_, .int rp, .ref rk, .ref rs, .ref kt, .ref kr, .int kn, .int rg, .ref ab, .int (nI (ablW n sd av i).2), .ref bh, .int bm, .int br, .int (nI rn), .ref wa, .ref ra])), (si, .inl (cI, 9, .inl sd)), (ab, .inl (cI, 84, .inl (upd (ablW n sd av i).1 (ablW n sd av i).2 (nI i))))] := hD
          refine lv_aload_n hx hb dX7_findAble_35 rfl (lv_at hl 0 rfl) ?_
          refine lv_dup hx hb dX7_findAble_36 rfl ?_
          refine va_get (D := D) (ci := 7) (v := .int (nI (ablW n sd av i).2)) (C := RX7) (T := TX7) (N := 28) hx hb hts iX7 hown hK hP 0 rfl rfl 21 (by decide) f177 (fun _ h9 => h9) rfl dX7_findAble_37 ?_
          refine lv_iconst (v := 1) hx hb dX7_findAble_40 (by decide) ?_
          refine lv_iadd hx hb dX7_findAble_41 ?_
          refine tp_i (y := nI ((ablW n sd av i).2 + 1)) (nI_1 _) ?_
          refine va_put (D := D) (ci := 7) (v := .int (nI ((ablW n sd av i).2 + 1))) (ty := .int) (C := RX7) (T := TX7) (N := 28) hx hb hts iX7 tyX7 tyX7_ok nmX7 hown hK hP hD hS 0 rfl rfl 21 (by decide) f177 (fun _ h9 => h9) rfl (by decide +kernel) rfl rfl (Nat.le_of_ble_eq_true rfl) dX7_findAble_42 (fun H locs hP hD hS => ?_)
          have hP : va_P D vwCl [(x, .inr (7, [.int fa, .int tr, .ref so, .ref sl, .ref ce, .int (nI n), .int bar, .int (nI tn), .ref ki, .ref si, .ref th, .ref ri, .int at_, .int rp, .ref rk, .ref rs, .ref kt, .ref kr, .int kn, .int rg, .ref ab, .int (nI ((ablW n sd av i).2 + 1)), .ref bh, .int bm, .int br, .int (nI rn), .ref wa, .ref ra])), (si, .inl (cI, 9, .inl sd)), (ab, .inl (cI, 84, .inl (upd (ablW n sd av i).1 (ablW n sd av i).2 (nI i))))] H := hP
          have hD : va_D A [(x, .inr (7, [.int fa, .int tr, .ref so, .ref sl, .ref ce, .int (nI n), .int bar, .int (nI tn), .ref ki, .ref si, .ref th, .ref ri, .int at_, .int rp, .ref rk, .ref rs, .ref kt, .ref kr, .int kn, .int rg, .ref ab, .int (nI ((ablW n sd av i).2 + 1)), .ref bh, .int bm, .int br, .int (nI rn), .ref wa, .ref ra])), (si, .inl (cI, 9, .inl sd)), (ab, .inl (cI, 84, .inl (upd (ablW n sd av i).1 (ablW n sd av i).2 (nI i))))] := hD
          refine lv_iinc (v := nI (i + 1)) (lv' := [(1, .int (nI (i + 1))), (0, .ref x)]) hx hb dX7_findAble_45 hl (k := 1) rfl (nI_1 _) (by decide) rfl (fun ls hl => ?_)
          refine lv_goto (tgt := 7) hx hb dX7_findAble_48 (by decide) ?_
          have ew7_0_0 : (nI ((ablW n sd av i).2 + 1)) = nI (ablW n sd av (i + 1)).2 := by rw [ablW_s]; first | rw [if_pos b19] | rw [if_neg b19]
          have hP : va_P D vwCl [(x, .inr (7, [.int fa, .int tr, .ref so, .ref sl, .ref ce, .int (nI n), .int bar, .int (nI tn), .ref ki, .ref si, .ref th, .ref ri, .int at_, .int rp, .ref rk, .ref rs, .ref kt, .ref kr, .int kn, .int rg, .ref ab, .int (nI (ablW n sd av (i + 1)).2), .ref bh, .int bm, .int br, .int (nI rn), .ref wa, .ref ra])), (si, .inl (cI, 9, .inl sd)), (ab, .inl (cI, 84, .inl (upd (ablW n sd av i).1 (ablW n sd av i).2 (nI i))))] H := by rw [← ew7_0_0]; exact hP
          have hD : va_D A [(x, .inr (7, [.int fa, .int tr, .ref so, .ref sl, .ref ce, .int (nI n), .int bar, .int (nI tn), .ref ki, .ref si, .ref th, .ref ri, .int at_, .int rp, .ref rk, .ref rs, .ref kt, .ref kr, .int kn, .int rg, .ref ab, .int (nI (ablW n sd av (i + 1)).2), .ref bh, .int bm, .int br, .int (nI rn), .ref wa, .ref ra])), (si, .inl (cI, 9, .inl sd)), (ab, .inl (cI, 84, .inl (upd (ablW n sd av i).1 (ablW n sd av i).2 (nI i))))] := by rw [← ew7_0_0]; exact hD
          have ew7_2_0 : (upd (ablW n sd av i).1 (ablW n sd av i).2 (nI i)) = (ablW n sd av (i + 1)).1 := by rw [ablW_s]; first | rw [if_pos b19] | rw [if_neg b19]
          have hP : va_P D vwCl [(x, .inr (7, [.int fa, .int tr, .ref so, .ref sl, .ref ce, .int (nI n), .int bar, .int (nI tn), .ref ki, .ref si, .ref th, .ref ri, .int at_, .int rp, .ref rk, .ref rs, .ref kt, .ref kr, .int kn, .int rg, .ref ab, .int (nI (ablW n sd av (i + 1)).2), .ref bh, .int bm, .int br, .int (nI rn), .ref wa, .ref ra])), (si, .inl (cI, 9, .inl sd)), (ab, .inl (cI, 84, .inl (ablW n sd av (i + 1)).1))] H := by rw [← ew7_2_0]; exact hP
          have hD : va_D A [(x, .inr (7, [.int fa, .int tr, .ref so, .ref sl, .ref ce, .int (nI n), .int bar, .int (nI tn), .ref ki, .ref si, .ref th, .ref ri, .int at_, .int rp, .ref rk, .ref rs, .ref kt, .ref kr, .int kn, .int rg, .ref ab, .int (nI (ablW n sd av (i + 1)).2), .ref bh, .int bm, .int br, .int (nI rn), .ref wa, .ref ra])), (si, .inl (cI, 9, .inl sd)), (ab, .inl (cI, 84, .inl (ablW n sd av (i + 1)).1))] := by rw [← ew7_2_0]; exact hD
          exact ih7 (i + 1) (by omega) (by omega) _ _ hP hD hS _ (lv_sub hl [1, 0] rfl)
        · -- n19
          obtain rfl := w19.2 b19
          refine lv_if_eq (tgt := 45) hx hb dX7_findAble_22 (by decide) (fun _ => ?_) (fun h => absurd (by decide) h)
          refine lv_iinc (v := nI (i + 1)) (lv' := [(1, .int (nI (i + 1))), (0, .ref x)]) hx hb dX7_findAble_45 hl (k := 1) rfl (nI_1 _) (by decide) rfl (fun ls hl => ?_)
          refine lv_goto (tgt := 7) hx hb dX7_findAble_48 (by decide) ?_
          have ew7_0_0 : (nI (ablW n sd av i).2) = nI (ablW n sd av (i + 1)).2 := by rw [ablW_s]; first | rw [if_pos b19] | rw [if_neg b19]
          have hP : va_P D vwCl [(x, .inr (7, [.int fa, .int tr, .ref so, .ref sl, .ref ce, .int (nI n), .int bar, .int (nI tn), .ref ki, .ref si, .ref th, .ref ri, .int at_, .int rp, .ref rk, .ref rs, .ref kt, .ref kr, .int kn, .int rg, .ref ab, .int (nI (ablW n sd av (i + 1)).2), .ref bh, .int bm, .int br, .int (nI rn), .ref wa, .ref ra])), (si, .inl (cI, 9, .inl sd)), (ab, .inl (cI, 84, .inl (ablW n sd av i).1))] H := by rw [← ew7_0_0]; exact hP
          have hD : va_D A [(x, .inr (7, [.int fa, .int tr, .ref so, .ref sl, .ref ce, .int (nI n), .int bar, .int (nI tn), .ref ki, .ref si, .ref th, .ref ri, .int at_, .int rp, .ref rk, .ref rs, .ref kt, .ref kr, .int kn, .int rg, .ref ab, .int (nI (ablW n sd av (i + 1)).2), .ref bh, .int bm, .int br, .int (nI rn), .ref wa, .ref ra])), (si, .inl (cI, 9, .inl sd)), (ab, .inl (cI, 84, .inl (ablW n sd av i).1))] := by rw [← ew7_0_0]; exact hD
          have ew7_2_0 : (ablW n sd av i).1 = (ablW n sd av (i + 1)).1 := by rw [ablW_s]; first | rw [if_pos b19] | rw [if_neg b19]
          have hP : va_P D vwCl [(x, .inr (7, [.int fa, .int tr, .ref so, .ref sl, .ref ce, .int (nI n), .int bar, .int (nI tn), .ref ki, .ref si, .ref th, .ref ri, .int at_, .int rp, .ref rk, .ref rs, .ref kt, .ref kr, .int kn, .int rg, .ref ab, .int (nI (ablW n sd av (i + 1)).2), .ref bh, .int bm, .int br, .int (nI rn), .ref wa, .ref ra])), (si, .inl (cI, 9, .inl sd)), (ab, .inl (cI, 84, .inl (ablW n sd av (i + 1)).1))] H := by rw [← ew7_2_0]; exact hP
          have hD : va_D A [(x, .inr (7, [.int fa, .int tr, .ref so, .ref sl, .ref ce, .int (nI n), .int bar, .int (nI tn), .ref ki, .ref si, .ref th, .ref ri, .int at_, .int rp, .ref rk, .ref rs, .ref kt, .ref kr, .int kn, .int rg, .ref ab, .int (nI (ablW n sd av (i + 1)).2), .ref bh, .int bm, .int br, .int (nI rn), .ref wa, .ref ra])), (si, .inl (cI, 9, .inl sd)), (ab, .inl (cI, 84, .inl (ablW n sd av (i + 1)).1))] := by rw [← ew7_2_0]; exact hD
          exact ih7 (i + 1) (by omega) (by omega) _ _ hP hD hS _ (lv_sub hl [1, 0] rfl)
  exact lp7 _ 0 (Nat.zero_le _) (Nat.lt_succ_self _) _ _ hP hD hS _ (lv_sub hl [1, 0] rfl)

set_option maxHeartbeats 4000000 in
set_option maxRecDepth 100000 in
theorem c_X7_leastOf (l : Launch) (D : va_G) (cI cO : ClassId) (k : Nat) (hk5 : k < 512) (hk0 : ¬ k = 0) : Met l yX7_leastOf wsX7_leastOf ({ frames := 1, cells := 0, slots := 0, locals := 21 } : Room) (va_Pc [.int (nI k)] (wdR D cI cO [])) (vp_Si (fun r => r = (nI (lowI k)))) 0 0 (fun _ => False) := by
  refine Met.ofW (cc := cX7_leastOf) (maxL := 2) (ret := (some .int)) (by decide) rfl ?_
  intro p e s m args below meth c s₁ B hml hv
  obtain ⟨rfl, hP, hK, hNw⟩ := hv
  have hx := B.exec
  have hb := B.bytes
  have hr := B.returns
  have hts := atoms_spec (ws := wsX7_leastOf) B.pre
  have hown : s.vm.findClass RX7 = some m.cls := findClass_of_methodNamed B.named
  have hlocks := B.notSynchronized
  have hP : va_P D vwCl [] s.heap := hP
  have hl := lv_entry ([.int (nI k)]) (n := 2) (Nat.le_of_ble_eq_true rfl)
  rw [lg_entry_eq]
  generalize (lg_sl ([.int (nI k)]) ++ List.replicate (2 - (lg_sl ([.int (nI k)])).length) Slot.unset).toArray = ls at hl ⊢
  have hl : lv_has ls 2 [(0, .int (nI k))] := hl
  refine lv_iconst (v := 0) hx hb dX7_leastOf_0 (by decide) ?_
  refine lv_istore_n (lv' := [(1, .int 0), (0, .int (nI k))]) hx hb dX7_leastOf_1 rfl hl (by decide) rfl (fun ls hl => ?_)
  have lp2 : ∀ (fu2 : Nat) (p_ : Nat) (hp : p_ < 9) (hno : ∀ j, j < p_ → k.testBit j = false) (hq : lwS k (10 - p_) p_ = lwS k 10 0) (hm2 : 9 - p_ < fu2) (ls : Array Slot) (hl : lv_has ls 2 [(0, .int (nI k)), (1, .int (nI p_))]), W p l e (headSpec wsX7_leastOf ({ frames := 1, cells := 0, slots := 0, locals := 21 } : Room)).room s m ([.int (nI k)]).toArray below meth c s.heap [] 0 0 (MQ below (vp_Si (fun r => r = (nI (lowI k)))) ([.int (nI k)]).toArray s 0 0 (fun _ => False)) (F0 m 2 ls []) := by
    intro fu2
    induction fu2 with
    | zero =>
      intros; omega
    | succ fu2 ih2 =>
      intro p_ hp hno hq hm2 ls hl
      refine lv_iload_n hx hb dX7_leastOf_2 rfl (lv_at hl 0 rfl) ?_
      refine lv_iload_n hx hb dX7_leastOf_3 rfl (lv_at hl 1 rfl) ?_
      have hPc := hP.sub (ws' := []) [] rfl
      refine vp_callSi (va_Run.run (va_runS (As := [.int (nI k), .int (nI p_)]) (rest := []) ⟨hx, hb, hml, hown, hts⟩ (c_X7_isOf l D cI cO (nI k) p_ (by omega)) (va_cwS 2 hts gX7_leastOf_X7_isOf rfl rfl rfl (by decide +kernel) ⟨Nat.le_of_ble_eq_true rfl, Nat.le_of_ble_eq_true rfl⟩) (preSR hPc hK hNw) rfl rfl hl.1 rfl (lv_room (Nat.le_of_ble_eq_true rfl)) dX7_leastOf_4 ⟨Nat.zero_le _, Nat.zero_le _⟩)) (fun r4 w4 => ?_)
      by_cases b4 : bt (nI k) p_ = true
      · -- y4
        obtain rfl := w4.1 b4
        rw [bt_nI (by omega)] at b4
        refine lv_if_ne (tgt := 16) hx hb dX7_leastOf_7 (by decide) (fun _ => ?_) (fun h => absurd h (by decide))
        refine lv_iload_n hx hb dX7_leastOf_16 rfl (lv_at hl 1 rfl) ?_
        exact W.iret (v := nI p_) hx hb hr (fun t ht hW => ⟨_, rfl, by unfold lowI; rw [← hq, show 10 - p_ = (10 - (p_ + 1)) + 1 by omega, lwS, if_pos b4], ht⟩) (fun _ h => absurd h List.not_mem_nil) dX7_leastOf_17
      · -- n4
        obtain rfl := w4.2 b4
        rw [bt_nI (by omega)] at b4
        have b5 : k.testBit p_ = false := by simpa using b4
        have hp8 : p_ + 1 < 9 := by rcases Nat.lt_or_ge (p_ + 1) 9 with q | q; exact q; exact absurd (k_zero hk5 (fun j hj => by rcases Nat.lt_or_ge j p_ with z | z; exact hno j z; rw [show j = p_ by omega]; exact b5)) hk0
        refine lv_if_ne (tgt := 16) hx hb dX7_leastOf_7 (by decide) (fun h => absurd (by decide) h) (fun _ => ?_)
        refine lv_iinc (v := nI (p_ + 1)) (lv' := [(1, .int (nI (p_ + 1))), (0, .int (nI k))]) hx hb dX7_leastOf_10 hl (k := 1) rfl (nI_1 _) (by decide) rfl (fun ls hl => ?_)
        refine lv_goto (tgt := 2) hx hb dX7_leastOf_13 (by decide) ?_
        exact ih2 (p_ + 1) (hp8) (fun j hj => by rcases Nat.lt_or_ge j p_ with z | z; exact hno j z; rw [show j = p_ by omega]; exact b5) (by rw [← hq, show 10 - p_ = (10 - (p_ + 1)) + 1 by omega, lwS, if_neg b4]) (by omega) _ (lv_sub hl [1, 0] rfl)
  exact lp2 _ 0 (by decide) (fun j hj => absurd hj (Nat.not_lt_zero j)) (rfl) (Nat.lt_succ_self _) _ (lv_sub hl [1, 0] rfl)

set_option maxHeartbeats 4000000 in
set_option maxRecDepth 100000 in
theorem c_X7_placeIn (l : Launch) (D : va_G) (cI cO : ClassId) (a : Int32) (b : Int32) (cc : Int32) (j : Nat) (hj : j < 32) : Met l yX7_placeIn wsX7_placeIn ({ frames := 1, cells := 0, slots := 0, locals := 21 } : Room) (va_Pc [.int a, .int b, .int cc, .int (nI j)] (wdR D cI cO [])) (vp_Si (fun r => r = (plI a b cc j))) 0 0 (fun _ => False) := by
  refine Met.ofW (cc := cX7_placeIn) (maxL := 4) (ret := (some .int)) (by decide) rfl ?_
  intro p e s m args below meth c s₁ B hml hv
  obtain ⟨rfl, hP, hK, hNw⟩ := hv
  have hx := B.exec
  have hb := B.bytes
  have hr := B.returns
  have hts := atoms_spec (ws := wsX7_placeIn) B.pre
  have hown : s.vm.findClass RX7 = some m.cls := findClass_of_methodNamed B.named
  have hlocks := B.notSynchronized
  have hP : va_P D vwCl [] s.heap := hP
  have hl := lv_entry ([.int a, .int b, .int cc, .int (nI j)]) (n := 4) (Nat.le_of_ble_eq_true rfl)
  rw [lg_entry_eq]
  generalize (lg_sl ([.int a, .int b, .int cc, .int (nI j)]) ++ List.replicate (4 - (lg_sl ([.int a, .int b, .int cc, .int (nI j)])).length) Slot.unset).toArray = ls at hl ⊢
  have hl : lv_has ls 4 [(0, .int a), (1, .int b), (2, .int cc), (3, .int (nI j))] := hl
  refine lv_iload_n hx hb dX7_placeIn_0 rfl (lv_at hl 0 rfl) ?_
  refine lv_iload_n hx hb dX7_placeIn_1 rfl (lv_at hl 3 rfl) ?_
  have hPc := hP.sub (ws' := []) [] rfl
  refine vp_callSi (va_Run.run (va_runS (As := [.int a, .int (nI j)]) (rest := []) ⟨hx, hb, hml, hown, hts⟩ (c_X7_isOf l D cI cO a j (by omega)) (va_cwS 2 hts gX7_placeIn_X7_isOf rfl rfl rfl (by decide +kernel) ⟨Nat.le_of_ble_eq_true rfl, Nat.le_of_ble_eq_true rfl⟩) (preSR hPc hK hNw) rfl rfl hl.1 rfl (lv_room (Nat.le_of_ble_eq_true rfl)) dX7_placeIn_2 ⟨Nat.zero_le _, Nat.zero_le _⟩)) (fun r2 w2 => ?_)
  by_cases b2 : bt a j = true
  · -- y2
    obtain rfl := w2.1 b2
    refine lv_if_eq (tgt := 12) hx hb dX7_placeIn_5 (by decide) (fun h => absurd h (by decide)) (fun _ => ?_)
    refine lv_iconst (v := 0) hx hb dX7_placeIn_8 (by decide) ?_
    refine lv_goto (tgt := 38) hx hb dX7_placeIn_9 (by decide) ?_
    exact W.iret (v := 0) hx hb hr (fun t ht hW => ⟨_, rfl, by simp [plI, *], ht⟩) (fun _ h => absurd h List.not_mem_nil) dX7_placeIn_38
  · -- n2
    obtain rfl := w2.2 b2
    refine lv_if_eq (tgt := 12) hx hb dX7_placeIn_5 (by decide) (fun _ => ?_) (fun h => absurd (by decide) h)
    refine lv_iload_n hx hb dX7_placeIn_12 rfl (lv_at hl 1 rfl) ?_
    refine lv_iload_n hx hb dX7_placeIn_13 rfl (lv_at hl 3 rfl) ?_
    have hPc := hP.sub (ws' := []) [] rfl
    refine vp_callSi (va_Run.run (va_runS (As := [.int b, .int (nI j)]) (rest := []) ⟨hx, hb, hml, hown, hts⟩ (c_X7_isOf l D cI cO b j (by omega)) (va_cwS 2 hts gX7_placeIn_X7_isOf rfl rfl rfl (by decide +kernel) ⟨Nat.le_of_ble_eq_true rfl, Nat.le_of_ble_eq_true rfl⟩) (preSR hPc hK hNw) rfl rfl hl.1 rfl (lv_room (Nat.le_of_ble_eq_true rfl)) dX7_placeIn_14 ⟨Nat.zero_le _, Nat.zero_le _⟩)) (fun r14 w14 => ?_)
    by_cases b14 : bt b j = true
    · -- y14
      obtain rfl := w14.1 b14
      refine lv_if_eq (tgt := 24) hx hb dX7_placeIn_17 (by decide) (fun h => absurd h (by decide)) (fun _ => ?_)
      refine lv_iconst (v := 1) hx hb dX7_placeIn_20 (by decide) ?_
      refine lv_goto (tgt := 38) hx hb dX7_placeIn_21 (by decide) ?_
      exact W.iret (v := 1) hx hb hr (fun t ht hW => ⟨_, rfl, by simp [plI, *], ht⟩) (fun _ h => absurd h List.not_mem_nil) dX7_placeIn_38
    · -- n14
      obtain rfl := w14.2 b14
      refine lv_if_eq (tgt := 24) hx hb dX7_placeIn_17 (by decide) (fun _ => ?_) (fun h => absurd (by decide) h)
      refine lv_iload_n hx hb dX7_placeIn_24 rfl (lv_at hl 2 rfl) ?_
      refine lv_iload_n hx hb dX7_placeIn_25 rfl (lv_at hl 3 rfl) ?_
      have hPc := hP.sub (ws' := []) [] rfl
      refine vp_callSi (va_Run.run (va_runS (As := [.int cc, .int (nI j)]) (rest := []) ⟨hx, hb, hml, hown, hts⟩ (c_X7_isOf l D cI cO cc j (by omega)) (va_cwS 2 hts gX7_placeIn_X7_isOf rfl rfl rfl (by decide +kernel) ⟨Nat.le_of_ble_eq_true rfl, Nat.le_of_ble_eq_true rfl⟩) (preSR hPc hK hNw) rfl rfl hl.1 rfl (lv_room (Nat.le_of_ble_eq_true rfl)) dX7_placeIn_26 ⟨Nat.zero_le _, Nat.zero_le _⟩)) (fun r26 w26 => ?_)
      by_cases b26 : bt cc j = true
      · -- y26
        obtain rfl := w26.1 b26
        refine lv_if_eq (tgt := 36) hx hb dX7_placeIn_29 (by decide) (fun h => absurd h (by decide)) (fun _ => ?_)
        refine lv_iconst (v := 2) hx hb dX7_placeIn_32 (by decide) ?_
        refine lv_goto (tgt := 38) hx hb dX7_placeIn_33 (by decide) ?_
        exact W.iret (v := 2) hx hb hr (fun t ht hW => ⟨_, rfl, by simp [plI, *], ht⟩) (fun _ h => absurd h List.not_mem_nil) dX7_placeIn_38
      · -- n26
        obtain rfl := w26.2 b26
        refine lv_if_eq (tgt := 36) hx hb dX7_placeIn_29 (by decide) (fun _ => ?_) (fun h => absurd (by decide) h)
        refine lv_bipush (v := 9) hx hb dX7_placeIn_36 (by decide) ?_
        exact W.iret (v := 9) hx hb hr (fun t ht hW => ⟨_, rfl, by simp [plI, *], ht⟩) (fun _ h => absurd h List.not_mem_nil) dX7_placeIn_38

set_option maxHeartbeats 4000000 in
set_option maxRecDepth 100000 in
theorem c_X7_isAhead (l : Launch) (D : va_G) (cI cO : ClassId) (x : Nat) (fa : Int32) (tr : Int32) (so : Nat) (sl : Nat) (ce : Nat) (n : Nat) (bar : Int32) (tn : Nat) (ki : Nat) (si : Nat) (th : Nat) (ri : Nat) (at_ : Int32) (rp : Int32) (rk : Nat) (rs : Nat) (kt : Nat) (kr : Nat) (kn : Int32) (rg : Int32) (ab : Nat) (am : Int32) (bh : Nat) (bm : Int32) (br : Int32) (rn : Nat) (wa : Nat) (ra : Nat) (bv : Nat → Int32) (a : Int32) (b : Int32) (cc : Int32) (hn : n ≤ 9) : Met l yX7_isAhead wsX7_isAhead ({ frames := 2, cells := 0, slots := 0, locals := 44 } : Room) (va_Pc [.ref x, .int a, .int b, .int cc] (wdR D cI cO [(x, .inr (7, [.int fa, .int tr, .ref so, .ref sl, .ref ce, .int (nI n), .int bar, .int (nI tn), .ref ki, .ref si, .ref th, .ref ri, .int at_, .int rp, .ref rk, .ref rs, .ref kt, .ref kr, .int kn, .int rg, .ref ab, .int am, .ref bh, .int bm, .int br, .int (nI rn), .ref wa, .ref ra])), (bh, .inl (cI, 3, .inl bv))])) (vp_Si (fun r => ((ahW a b cc (bv 0) (bv 1) (bv 2) n 0 = true) → r = 1) ∧ (¬ (ahW a b cc (bv 0) (bv 1) (bv 2) n 0 = true) → r = 0))) 0 0 (fun _ => False) := by
  refine Met.ofW (cc := cX7_isAhead) (maxL := 7) (ret := (some .boolean)) (by decide) rfl ?_
  intro p e s m args below meth c s₁ B hml hv
  obtain ⟨rfl, hP, hK, hNw⟩ := hv
  have hx := B.exec
  have hb := B.bytes
  have hr := B.returns
  have hts := atoms_spec (ws := wsX7_isAhead) B.pre
  have hown : s.vm.findClass RX7 = some m.cls := findClass_of_methodNamed B.named
  have hlocks := B.notSynchronized
  have f46 := hts (.fieldLink RX7 46 "StruckThreesModel" "bestThree" "[I") (by decide +kernel)
  have f65 := hts (.fieldLink RX7 65 "StruckThreesModel" "people" "I") (by decide +kernel)
  have iX7 : ∀ w ∈ wsX70, w ∈ wsX7_isAhead := by decide +kernel
  have hP : va_P D vwCl [(x, .inr (7, [.int fa, .int tr, .ref so, .ref sl, .ref ce, .int (nI n), .int bar, .int (nI tn), .ref ki, .ref si, .ref th, .ref ri, .int at_, .int rp, .ref rk, .ref rs, .ref kt, .ref kr, .int kn, .int rg, .ref ab, .int am, .ref bh, .int bm, .int br, .int (nI rn), .ref wa, .ref ra])), (bh, .inl (cI, 3, .inl bv))] s.heap := hP
  have hl := lv_entry ([.ref x, .int a, .int b, .int cc]) (n := 7) (Nat.le_of_ble_eq_true rfl)
  rw [lg_entry_eq]
  generalize (lg_sl ([.ref x, .int a, .int b, .int cc]) ++ List.replicate (7 - (lg_sl ([.ref x, .int a, .int b, .int cc])).length) Slot.unset).toArray = ls at hl ⊢
  have hl : lv_has ls 7 [(0, .ref x), (1, .int a), (2, .int b), (3, .int cc)] := hl
  refine lv_iconst (v := 0) hx hb dX7_isAhead_0 (by decide) ?_
  refine lv_istore (lv' := [(4, .int 0), (0, .ref x), (1, .int a), (2, .int b), (3, .int cc)]) hx hb dX7_isAhead_1 hl (by decide) rfl (fun ls hl => ?_)
  have lp3 : ∀ (fu3 : Nat) (i : Nat) (hi : i ≤ n) (hq : ahW a b cc (bv 0) (bv 1) (bv 2) (n - i) i = ahW a b cc (bv 0) (bv 1) (bv 2) n 0) (hm3 : n - i < fu3) (ls : Array Slot) (hl : lv_has ls 7 [(0, .ref x), (1, .int a), (2, .int b), (3, .int cc), (4, .int (nI i))]), W p l e (headSpec wsX7_isAhead ({ frames := 2, cells := 0, slots := 0, locals := 44 } : Room)).room s m ([.ref x, .int a, .int b, .int cc]).toArray below meth c s.heap [] 0 0 (MQ below (vp_Si (fun r => ((ahW a b cc (bv 0) (bv 1) (bv 2) n 0 = true) → r = 1) ∧ (¬ (ahW a b cc (bv 0) (bv 1) (bv 2) n 0 = true) → r = 0))) ([.ref x, .int a, .int b, .int cc]).toArray s 0 0 (fun _ => False)) (F0 m 3 ls []) := by
    intro fu3
    induction fu3 with
    | zero =>
      intros; omega
    | succ fu3 ih3 =>
      intro i hi hq hm3 ls hl
      refine lv_iload hx hb dX7_isAhead_3 (lv_at hl 4 rfl) ?_
      refine lv_aload_n hx hb dX7_isAhead_5 rfl (lv_at hl 0 rfl) ?_
      refine va_get (D := D) (ci := 7) (v := .int (nI n)) (C := RX7) (T := TX7) (N := 28) hx hb hts iX7 hown hK hP 0 rfl rfl 5 (by decide) f65 (fun _ h9 => h9) rfl dX7_isAhead_6 ?_
      refine lv_icmp_ge (tgt := 73) hx hb dX7_isAhead_9 (by decide) (fun c9 => ?_) (fun c9 => ?_)
      · -- t9
        have e9 : i = n := by have q := ge_n (by omega) (by omega) c9; omega
        rw [e9] at hl
        refine lv_iconst (v := 0) hx hb dX7_isAhead_73 (by decide) ?_
        exact W.zret (v := 0) (ty := .boolean) hx hb hr rfl (fun t ht hW => ⟨_, rfl, by exact so_no (by rw [← hq, e9, Nat.sub_self]; rfl), ht⟩) (fun _ h => absurd h List.not_mem_nil) dX7_isAhead_74
      · -- f9
        have l9 : i < n := lt_n (by omega) (by omega) c9
        refine lv_iload_n hx hb dX7_isAhead_12 rfl (lv_at hl 1 rfl) ?_
        refine lv_iload_n hx hb dX7_isAhead_13 rfl (lv_at hl 2 rfl) ?_
        refine lv_iload_n hx hb dX7_isAhead_14 rfl (lv_at hl 3 rfl) ?_
        refine lv_iload hx hb dX7_isAhead_15 (lv_at hl 4 rfl) ?_
        have hPc := hP.sub (ws' := []) [] rfl
        refine vp_callSi (va_Run.run (va_runS (As := [.int a, .int b, .int cc, .int (nI i)]) (rest := []) ⟨hx, hb, hml, hown, hts⟩ (c_X7_placeIn l D cI cO a b cc i (by omega)) (va_cwS 4 hts gX7_isAhead_X7_placeIn rfl rfl rfl (by decide +kernel) ⟨Nat.le_of_ble_eq_true rfl, Nat.le_of_ble_eq_true rfl⟩) (preSR hPc hK hNw) rfl rfl hl.1 rfl (lv_room (Nat.le_of_ble_eq_true rfl)) dX7_isAhead_17 ⟨Nat.zero_le _, Nat.zero_le _⟩)) (fun r17 w17 => ?_)
        obtain rfl := w17
        refine lv_istore (lv' := [(5, .int (plI a b cc i)), (0, .ref x), (1, .int a), (2, .int b), (3, .int cc), (4, .int (nI i))]) hx hb dX7_isAhead_20 hl (by decide) rfl (fun ls hl => ?_)
        refine lv_aload_n hx hb dX7_isAhead_22 rfl (lv_at hl 1 rfl) ?_
        refine va_get (D := D) (ci := 7) (v := .ref bh) (C := RX7) (T := TX7) (N := 28) hx hb hts iX7 hown hK hP 0 rfl rfl 22 (by decide) f46 (fun _ h9 => h9) rfl dX7_isAhead_23 ?_
        refine lv_iconst (v := 0) hx hb dX7_isAhead_26 (by decide) ?_
        refine va_iald hx hb hK hP 1 0 rfl rfl (show vp_in (nI 0) _ from vp_in_nI (by decide) (by decide)) dX7_isAhead_27 ?_
        refine tp_i (y := bv 0) (by rw [show (0 : Int32).toNatClampNeg = 0 from by decide]) ?_
        refine lv_aload_n hx hb dX7_isAhead_28 rfl (lv_at hl 1 rfl) ?_
        refine va_get (D := D) (ci := 7) (v := .ref bh) (C := RX7) (T := TX7) (N := 28) hx hb hts iX7 hown hK hP 0 rfl rfl 22 (by decide) f46 (fun _ h9 => h9) rfl dX7_isAhead_29 ?_
        refine lv_iconst (v := 1) hx hb dX7_isAhead_32 (by decide) ?_
        refine va_iald hx hb hK hP 1 0 rfl rfl (show vp_in (nI 1) _ from vp_in_nI (by decide) (by decide)) dX7_isAhead_33 ?_
        refine tp_i (y := bv 1) (by rw [show (1 : Int32).toNatClampNeg = 1 from by decide]) ?_
        refine lv_aload_n hx hb dX7_isAhead_34 rfl (lv_at hl 1 rfl) ?_
        refine va_get (D := D) (ci := 7) (v := .ref bh) (C := RX7) (T := TX7) (N := 28) hx hb hts iX7 hown hK hP 0 rfl rfl 22 (by decide) f46 (fun _ h9 => h9) rfl dX7_isAhead_35 ?_
        refine lv_iconst (v := 2) hx hb dX7_isAhead_38 (by decide) ?_
        refine va_iald hx hb hK hP 1 0 rfl rfl (show vp_in (nI 2) _ from vp_in_nI (by decide) (by decide)) dX7_isAhead_39 ?_
        refine tp_i (y := bv 2) (by rw [show (2 : Int32).toNatClampNeg = 2 from by decide]) ?_
        refine lv_iload hx hb dX7_isAhead_40 (lv_at hl 5 rfl) ?_
        have hPc := hP.sub (ws' := []) [] rfl
        refine vp_callSi (va_Run.run (va_runS (As := [.int (bv 0), .int (bv 1), .int (bv 2), .int (nI i)]) (rest := []) ⟨hx, hb, hml, hown, hts⟩ (c_X7_placeIn l D cI cO (bv 0) (bv 1) (bv 2) i (by omega)) (va_cwS 4 hts gX7_isAhead_X7_placeIn rfl rfl rfl (by decide +kernel) ⟨Nat.le_of_ble_eq_true rfl, Nat.le_of_ble_eq_true rfl⟩) (preSR hPc hK hNw) rfl rfl hl.1 rfl (lv_room (Nat.le_of_ble_eq_true rfl)) dX7_isAhead_42 ⟨Nat.zero_le _, Nat.zero_le _⟩)) (fun r42 w42 => ?_)
        obtain rfl := w42
        refine lv_istore (lv' := [(6, .int (plI (bv 0) (bv 1) (bv 2) i)), (5, .int (plI a b cc i)), (0, .ref x), (1, .int a), (2, .int b), (3, .int cc), (4, .int (nI i))]) hx hb dX7_isAhead_45 hl (by decide) rfl (fun ls hl => ?_)
        refine lv_iload hx hb dX7_isAhead_47 (lv_at hl 1 rfl) ?_
        refine lv_iload hx hb dX7_isAhead_49 (lv_at hl 0 rfl) ?_
        refine lv_icmp_eq (tgt := 67) hx hb dX7_isAhead_51 (by decide) (fun c51 => ?_) (fun c51 => ?_)
        · -- t51
          refine lv_iinc (v := nI (i + 1)) (lv' := [(4, .int (nI (i + 1))), (6, .int (plI (bv 0) (bv 1) (bv 2) i)), (5, .int (plI a b cc i)), (0, .ref x), (1, .int a), (2, .int b), (3, .int cc)]) hx hb dX7_isAhead_67 hl (k := 6) rfl (nI_1 _) (by decide) rfl (fun ls hl => ?_)
          refine lv_goto (tgt := 3) hx hb dX7_isAhead_70 (by decide) ?_
          exact ih3 (i + 1) (by omega) (by rw [← hq, show n - i = (n - (i + 1)) + 1 by omega, ahW, if_pos c51]) (by omega) _ (lv_sub hl [3, 4, 5, 6, 0] rfl)
        · -- f51
          refine lv_iload hx hb dX7_isAhead_54 (lv_at hl 1 rfl) ?_
          refine lv_iload hx hb dX7_isAhead_56 (lv_at hl 0 rfl) ?_
          refine lv_icmp_ge (tgt := 65) hx hb dX7_isAhead_58 (by decide) (fun c58 => ?_) (fun c58 => ?_)
          · -- t58
            refine lv_iconst (v := 0) hx hb dX7_isAhead_65 (by decide) ?_
            exact W.zret (v := 0) (ty := .boolean) hx hb hr rfl (fun t ht hW => ⟨_, rfl, by exact so_no (by rw [← hq, show n - i = (n - (i + 1)) + 1 by omega, ahW, if_neg c51]; exact decide_eq_false (fun q => q c58)), ht⟩) (fun _ h => absurd h List.not_mem_nil) dX7_isAhead_66
          · -- f58
            refine lv_iconst (v := 1) hx hb dX7_isAhead_61 (by decide) ?_
            refine lv_goto (tgt := 66) hx hb dX7_isAhead_62 (by decide) ?_
            exact W.zret (v := 1) (ty := .boolean) hx hb hr rfl (fun t ht hW => ⟨_, rfl, by exact so_yes (by rw [← hq, show n - i = (n - (i + 1)) + 1 by omega, ahW, if_neg c51]; exact decide_eq_true c58), ht⟩) (fun _ h => absurd h List.not_mem_nil) dX7_isAhead_66
  exact lp3 _ 0 (Nat.zero_le _) (rfl) (Nat.lt_succ_self _) _ (lv_sub hl [1, 2, 3, 4, 0] rfl)

set_option maxHeartbeats 4000000 in
set_option maxRecDepth 100000 in
theorem c_X7_tryThrees (l : Launch) (D : va_G) (cI cO : ClassId) (x : Nat) (fa : Int32) (tr : Int32) (so : Nat) (sl : Nat) (ce : Nat) (n : Nat) (bar : Int32) (tn : Nat) (ki : Nat) (si : Nat) (th : Nat) (ri : Nat) (at_ : Int32) (rp : Int32) (rk : Nat) (rs : Nat) (kt : Nat) (kr : Nat) (kn : Int32) (rg : Int32) (ab : Nat) (am : Int32) (bh : Nat) (bm : Int32) (br : Int32) (rn : Nat) (wa : Nat) (ra : Nat) (kd : Nat → Int32) (sd : Nat → Int32) (bv : Nat → Int32) (a : Int32) (b : Int32) (cc : Int32) (sz : Nat) (hn : n ≤ 9) (hk3 : ∀ j, j < n → kd j = 0 ∨ kd j = 1 ∨ kd j = 2) : Met l yX7_tryThrees wsX7_tryThrees ({ frames := 3, cells := 0, slots := 0, locals := 70 } : Room) (va_Pc [.ref x, .int a, .int b, .int cc] (wdW D cI cO [(x, .inr (7, [.int fa, .int tr, .ref so, .ref sl, .ref ce, .int (nI n), .int bar, .int (nI tn), .ref ki, .ref si, .ref th, .ref ri, .int at_, .int rp, .ref rk, .ref rs, .ref kt, .ref kr, .int kn, .int rg, .ref ab, .int am, .ref bh, .int bm, .int br, .int (nI rn), .ref wa, .ref ra])), (ki, .inl (cI, 9, .inl kd)), (si, .inl (cI, 9, .inl sd)), (bh, .inl (cI, 3, .inl bv))] sz)) (va_Qv (S := Int32 × Int32 × (Nat → Int32)) (fun u => u.1 = (ttZ n kd sd (bm, br, bv) a b cc).1 ∧ u.2.1 = (ttZ n kd sd (bm, br, bv) a b cc).2.1 ∧ u.2.2 = (ttZ n kd sd (bm, br, bv) a b cc).2.2) (fun u t => va_P D vwCl [(x, .inr (7, [.int fa, .int tr, .ref so, .ref sl, .ref ce, .int (nI n), .int bar, .int (nI tn), .ref ki, .ref si, .ref th, .ref ri, .int at_, .int rp, .ref rk, .ref rs, .ref kt, .ref kr, .int kn, .int rg, .ref ab, .int am, .ref bh, .int u.1, .int u.2.1, .int (nI rn), .ref wa, .ref ra])), (ki, .inl (cI, 9, .inl kd)), (si, .inl (cI, 9, .inl sd)), (bh, .inl (cI, 3, .inl u.2.2))] t.heap ∧ va_K D vwCl (tyL cI cO) t ∧ va_D (va_A [(x, .inr (7, [.int fa, .int tr, .ref so, .ref sl, .ref ce, .int (nI n), .int bar, .int (nI tn), .ref ki, .ref si, .ref th, .ref ri, .int at_, .int rp, .ref rk, .ref rs, .ref kt, .ref kr, .int kn, .int rg, .ref ab, .int am, .ref bh, .int bm, .int br, .int (nI rn), .ref wa, .ref ra])), (ki, .inl (cI, 9, .inl kd)), (si, .inl (cI, 9, .inl sd)), (bh, .inl (cI, 3, .inl bv))] sz) [(x, .inr (7, [.int fa, .int tr, .ref so, .ref sl, .ref ce, .int (nI n), .int bar, .int (nI tn), .ref ki, .ref si, .ref th, .ref ri, .int at_, .int rp, .ref rk, .ref rs, .ref kt, .ref kr, .int kn, .int rg, .ref ab, .int am, .ref bh, .int u.1, .int u.2.1, .int (nI rn), .ref wa, .ref ra])), (ki, .inl (cI, 9, .inl kd)), (si, .inl (cI, 9, .inl sd)), (bh, .inl (cI, 3, .inl u.2.2))]) (va_A [(x, .inr (7, [.int fa, .int tr, .ref so, .ref sl, .ref ce, .int (nI n), .int bar, .int (nI tn), .ref ki, .ref si, .ref th, .ref ri, .int at_, .int rp, .ref rk, .ref rs, .ref kt, .ref kr, .int kn, .int rg, .ref ab, .int am, .ref bh, .int bm, .int br, .int (nI rn), .ref wa, .ref ra])), (ki, .inl (cI, 9, .inl kd)), (si, .inl (cI, 9, .inl sd)), (bh, .inl (cI, 3, .inl bv))] sz)) 0 0 (va_A [(x, .inr (7, [.int fa, .int tr, .ref so, .ref sl, .ref ce, .int (nI n), .int bar, .int (nI tn), .ref ki, .ref si, .ref th, .ref ri, .int at_, .int rp, .ref rk, .ref rs, .ref kt, .ref kr, .int kn, .int rg, .ref ab, .int am, .ref bh, .int bm, .int br, .int (nI rn), .ref wa, .ref ra])), (ki, .inl (cI, 9, .inl kd)), (si, .inl (cI, 9, .inl sd)), (bh, .inl (cI, 3, .inl bv))] sz) := by
  refine Met.ofW (cc := cX7_tryThrees) (maxL := 7) (ret := none) (by decide) rfl ?_
  intro p e s m args below meth c s₁ B hml hv
  obtain ⟨rfl, hsz, hP, hK, hNw, hD0⟩ := hv
  have hx := B.exec
  have hb := B.bytes
  have hr := B.returns
  have hts := atoms_spec (ws := wsX7_tryThrees) B.pre
  have hown : s.vm.findClass RX7 = some m.cls := findClass_of_methodNamed B.named
  have hlocks := B.notSynchronized
  have f46 := hts (.fieldLink RX7 46 "StruckThreesModel" "bestThree" "[I") (by decide +kernel)
  have f183 := hts (.fieldLink RX7 183 "StruckThreesModel" "bestMany" "I") (by decide +kernel)
  have f186 := hts (.fieldLink RX7 186 "StruckThreesModel" "bestRings" "I") (by decide +kernel)
  have iX7 : ∀ w ∈ wsX70, w ∈ wsX7_tryThrees := by decide +kernel
  subst hsz
  have hD := hD0.self (sz := s.heap.size)
  generalize hAe : va_A [(x, .inr (7, [.int fa, .int tr, .ref so, .ref sl, .ref ce, .int (nI n), .int bar, .int (nI tn), .ref ki, .ref si, .ref th, .ref ri, .int at_, .int rp, .ref rk, .ref rs, .ref kt, .ref kr, .int kn, .int rg, .ref ab, .int am, .ref bh, .int bm, .int br, .int (nI rn), .ref wa, .ref ra])), (ki, .inl (cI, 9, .inl kd)), (si, .inl (cI, 9, .inl sd)), (bh, .inl (cI, 3, .inl bv))] s.heap.size = A at hD ⊢
  have hA : ∀ q : Nat, s.heap.size ≤ q → A q := fun q h => by rw [← hAe]; exact Or.inr h
  have hS : va_S A s.heap s.heap [] := va_S.rf
  have hP : va_P D vwCl [(x, .inr (7, [.int fa, .int tr, .ref so, .ref sl, .ref ce, .int (nI n), .int bar, .int (nI tn), .ref ki, .ref si, .ref th, .ref ri, .int at_, .int rp, .ref rk, .ref rs, .ref kt, .ref kr, .int kn, .int rg, .ref ab, .int am, .ref bh, .int bm, .int br, .int (nI rn), .ref wa, .ref ra])), (ki, .inl (cI, 9, .inl kd)), (si, .inl (cI, 9, .inl sd)), (bh, .inl (cI, 3, .inl bv))] s.heap := hP
  have hl := lv_entry ([.ref x, .int a, .int b, .int cc]) (n := 7) (Nat.le_of_ble_eq_true rfl)
  rw [lg_entry_eq]
  generalize (lg_sl ([.ref x, .int a, .int b, .int cc]) ++ List.replicate (7 - (lg_sl ([.ref x, .int a, .int b, .int cc])).length) Slot.unset).toArray = ls at hl ⊢
  have hl : lv_has ls 7 [(0, .ref x), (1, .int a), (2, .int b), (3, .int cc)] := hl
  refine lv_iload_n hx hb dX7_tryThrees_0 rfl (lv_at hl 1 rfl) ?_
  refine lv_if_ne (tgt := 8) hx hb dX7_tryThrees_1 (by decide) (fun c1 => ?_) (fun c1 => ?_)
  · -- t1
    refine lv_iconst (v := 1) hx hb dX7_tryThrees_8 (by decide) ?_
    refine tp_i (y := one0 a) (by simp [one0, c1]) ?_
    refine lv_iload_n hx hb dX7_tryThrees_9 rfl (lv_at hl 2 rfl) ?_
    refine lv_if_ne (tgt := 17) hx hb dX7_tryThrees_10 (by decide) (fun c10 => ?_) (fun c10 => ?_)
    · -- t10
      refine lv_iconst (v := 1) hx hb dX7_tryThrees_17 (by decide) ?_
      refine tp_i (y := one0 b) (by simp [one0, c10]) ?_
      refine lv_iadd hx hb dX7_tryThrees_18 ?_
      refine lv_iload_n hx hb dX7_tryThrees_19 rfl (lv_at hl 3 rfl) ?_
      refine lv_if_ne (tgt := 27) hx hb dX7_tryThrees_20 (by decide) (fun c20 => ?_) (fun c20 => ?_)
      · -- t20
        refine lv_iconst (v := 1) hx hb dX7_tryThrees_27 (by decide) ?_
        refine tp_i (y := one0 cc) (by simp [one0, c20]) ?_
        refine lv_iadd hx hb dX7_tryThrees_28 ?_
        refine tp_i (y := mny a b cc) (rfl) ?_
        refine lv_istore (lv' := [(4, .int (mny a b cc)), (0, .ref x), (1, .int a), (2, .int b), (3, .int cc)]) hx hb dX7_tryThrees_29 hl (by decide) rfl (fun ls hl => ?_)
        refine lv_aload_n hx hb dX7_tryThrees_31 rfl (lv_at hl 1 rfl) ?_
        refine lv_iload_n hx hb dX7_tryThrees_32 rfl (lv_at hl 2 rfl) ?_
        have hPc := hP.sub (ws' := [(x, .inr (7, [.int fa, .int tr, .ref so, .ref sl, .ref ce, .int (nI n), .int bar, .int (nI tn), .ref ki, .ref si, .ref th, .ref ri, .int at_, .int rp, .ref rk, .ref rs, .ref kt, .ref kr, .int kn, .int rg, .ref ab, .int am, .ref bh, .int bm, .int br, .int (nI rn), .ref wa, .ref ra])), (ki, .inl (cI, 9, .inl kd)), (si, .inl (cI, 9, .inl sd))]) [0, 1, 2] rfl
        refine vp_callSi (va_Run.run (va_runV (As := [.int a]) (rest := []) ⟨hx, hb, hml, hown, hts⟩ (c_X7_ringsOf l D cI cO x fa tr so sl ce n bar tn ki si th ri at_ rp rk rs kt kr kn rg ab am bh bm br rn wa ra kd sd a (by assumption) (by assumption)) (cwV 1 hts gX7_tryThrees_X7_ringsOf rfl rfl rfl (by decide +kernel) ⟨Nat.le_of_ble_eq_true rfl, Nat.le_of_ble_eq_true rfl⟩) (preVR hPc hK hNw (va_recv hK hPc (ci := 7) (q0 := 0) rfl rfl)) rfl rfl hl.1 rfl (lv_room (Nat.le_of_ble_eq_true rfl)) dX7_tryThrees_33 ⟨Nat.zero_le _, Nat.zero_le _⟩)) (fun r33 w33 => ?_)
        obtain rfl := w33
        refine lv_aload_n hx hb dX7_tryThrees_36 rfl (lv_at hl 1 rfl) ?_
        refine lv_iload_n hx hb dX7_tryThrees_37 rfl (lv_at hl 3 rfl) ?_
        have hPc := hP.sub (ws' := [(x, .inr (7, [.int fa, .int tr, .ref so, .ref sl, .ref ce, .int (nI n), .int bar, .int (nI tn), .ref ki, .ref si, .ref th, .ref ri, .int at_, .int rp, .ref rk, .ref rs, .ref kt, .ref kr, .int kn, .int rg, .ref ab, .int am, .ref bh, .int bm, .int br, .int (nI rn), .ref wa, .ref ra])), (ki, .inl (cI, 9, .inl kd)), (si, .inl (cI, 9, .inl sd))]) [0, 1, 2] rfl
        refine vp_callSi (va_Run.run (va_runV (As := [.int b]) (rest := [.int (sumW (rgF kd sd) a n)]) ⟨hx, hb, hml, hown, hts⟩ (c_X7_ringsOf l D cI cO x fa tr so sl ce n bar tn ki si th ri at_ rp rk rs kt kr kn rg ab am bh bm br rn wa ra kd sd b (by assumption) (by assumption)) (cwV 1 hts gX7_tryThrees_X7_ringsOf rfl rfl rfl (by decide +kernel) ⟨Nat.le_of_ble_eq_true rfl, Nat.le_of_ble_eq_true rfl⟩) (preVR hPc hK hNw (va_recv hK hPc (ci := 7) (q0 := 0) rfl rfl)) rfl rfl hl.1 rfl (lv_room (Nat.le_of_ble_eq_true rfl)) dX7_tryThrees_38 ⟨Nat.zero_le _, Nat.zero_le _⟩)) (fun r38 w38 => ?_)
        obtain rfl := w38
        refine lv_iadd hx hb dX7_tryThrees_41 ?_
        refine lv_aload_n hx hb dX7_tryThrees_42 rfl (lv_at hl 1 rfl) ?_
        refine lv_iload_n hx hb dX7_tryThrees_43 rfl (lv_at hl 4 rfl) ?_
        have hPc := hP.sub (ws' := [(x, .inr (7, [.int fa, .int tr, .ref so, .ref sl, .ref ce, .int (nI n), .int bar, .int (nI tn), .ref ki, .ref si, .ref th, .ref ri, .int at_, .int rp, .ref rk, .ref rs, .ref kt, .ref kr, .int kn, .int rg, .ref ab, .int am, .ref bh, .int bm, .int br, .int (nI rn), .ref wa, .ref ra])), (ki, .inl (cI, 9, .inl kd)), (si, .inl (cI, 9, .inl sd))]) [0, 1, 2] rfl
        refine vp_callSi (va_Run.run (va_runV (As := [.int cc]) (rest := [.int ((sumW (rgF kd sd) a n) + (sumW (rgF kd sd) b n))]) ⟨hx, hb, hml, hown, hts⟩ (c_X7_ringsOf l D cI cO x fa tr so sl ce n bar tn ki si th ri at_ rp rk rs kt kr kn rg ab am bh bm br rn wa ra kd sd cc (by assumption) (by assumption)) (cwV 1 hts gX7_tryThrees_X7_ringsOf rfl rfl rfl (by decide +kernel) ⟨Nat.le_of_ble_eq_true rfl, Nat.le_of_ble_eq_true rfl⟩) (preVR hPc hK hNw (va_recv hK hPc (ci := 7) (q0 := 0) rfl rfl)) rfl rfl hl.1 rfl (lv_room (Nat.le_of_ble_eq_true rfl)) dX7_tryThrees_44 ⟨Nat.zero_le _, Nat.zero_le _⟩)) (fun r44 w44 => ?_)
        obtain rfl := w44
        refine lv_iadd hx hb dX7_tryThrees_47 ?_
        refine tp_i (y := lou n kd sd a b cc) (rfl) ?_
        refine lv_istore (lv' := [(5, .int (lou n kd sd a b cc)), (4, .int (mny a b cc)), (0, .ref x), (1, .int a), (2, .int b), (3, .int cc)]) hx hb dX7_tryThrees_48 hl (by decide) rfl (fun ls hl => ?_)
        refine lv_iload hx hb dX7_tryThrees_50 (lv_at hl 1 rfl) ?_
        refine lv_aload_n hx hb dX7_tryThrees_52 rfl (lv_at hl 2 rfl) ?_
        refine va_get (D := D) (ci := 7) (v := .int bm) (C := RX7) (T := TX7) (N := 28) hx hb hts iX7 hown hK hP 0 rfl rfl 23 (by decide) f183 (fun _ h9 => h9) rfl dX7_tryThrees_53 ?_
        refine lv_icmp_gt (tgt := 96) hx hb dX7_tryThrees_56 (by decide) (fun c56 => ?_) (fun c56 => ?_)
        · -- t56
          have hbt : ttB n kd sd (bm, br, bv) a b cc = true := by simp [ttB, c56]
          refine lv_iconst (v := 1) hx hb dX7_tryThrees_96 (by decide) ?_
          refine lv_goto (tgt := 101) hx hb dX7_tryThrees_97 (by decide) ?_
          refine lv_istore (lv' := [(6, .int 1), (5, .int (lou n kd sd a b cc)), (4, .int (mny a b cc)), (0, .ref x), (1, .int a), (2, .int b), (3, .int cc)]) hx hb dX7_tryThrees_101 hl (by decide) rfl (fun ls hl => ?_)
          refine lv_iload hx hb dX7_tryThrees_103 (lv_at hl 0 rfl) ?_
          refine lv_if_eq (tgt := 141) hx hb dX7_tryThrees_105 (by decide) (fun h => absurd h (by decide)) (fun _ => ?_)
          refine lv_aload_n hx hb dX7_tryThrees_108 rfl (lv_at hl 3 rfl) ?_
          refine lv_iload hx hb dX7_tryThrees_109 (lv_at hl 2 rfl) ?_
          refine va_put (D := D) (ci := 7) (v := .int (mny a b cc)) (ty := .int) (C := RX7) (T := TX7) (N := 28) hx hb hts iX7 tyX7 tyX7_ok nmX7 hown hK hP hD hS 0 rfl rfl 23 (by decide) f183 (fun _ h9 => h9) rfl (by decide +kernel) rfl rfl (Nat.le_of_ble_eq_true rfl) dX7_tryThrees_111 (fun H locs hP hD hS => ?_)
          have hP : va_P D vwCl [(x, .inr (7, [.int fa, .int tr, .ref so, .ref sl, .ref ce, .int (nI n), .int bar, .int (nI tn), .ref ki, .ref si, .ref th, .ref ri, .int at_, .int rp, .ref rk, .ref rs, .ref kt, .ref kr, .int kn, .int rg, .ref ab, .int am, .ref bh, .int (mny a b cc), .int br, .int (nI rn), .ref wa, .ref ra])), (ki, .inl (cI, 9, .inl kd)), (si, .inl (cI, 9, .inl sd)), (bh, .inl (cI, 3, .inl bv))] H := hP
          have hD : va_D A [(x, .inr (7, [.int fa, .int tr, .ref so, .ref sl, .ref ce, .int (nI n), .int bar, .int (nI tn), .ref ki, .ref si, .ref th, .ref ri, .int at_, .int rp, .ref rk, .ref rs, .ref kt, .ref kr, .int kn, .int rg, .ref ab, .int am, .ref bh, .int (mny a b cc), .int br, .int (nI rn), .ref wa, .ref ra])), (ki, .inl (cI, 9, .inl kd)), (si, .inl (cI, 9, .inl sd)), (bh, .inl (cI, 3, .inl bv))] := hD
          refine lv_aload_n hx hb dX7_tryThrees_114 rfl (lv_at hl 3 rfl) ?_
          refine lv_iload hx hb dX7_tryThrees_115 (lv_at hl 1 rfl) ?_
          refine va_put (D := D) (ci := 7) (v := .int (lou n kd sd a b cc)) (ty := .int) (C := RX7) (T := TX7) (N := 28) hx hb hts iX7 tyX7 tyX7_ok nmX7 hown hK hP hD hS 0 rfl rfl 24 (by decide) f186 (fun _ h9 => h9) rfl (by decide +kernel) rfl rfl (Nat.le_of_ble_eq_true rfl) dX7_tryThrees_117 (fun H locs hP hD hS => ?_)
          have hP : va_P D vwCl [(x, .inr (7, [.int fa, .int tr, .ref so, .ref sl, .ref ce, .int (nI n), .int bar, .int (nI tn), .ref ki, .ref si, .ref th, .ref ri, .int at_, .int rp, .ref rk, .ref rs, .ref kt, .ref kr, .int kn, .int rg, .ref ab, .int am, .ref bh, .int (mny a b cc), .int (lou n kd sd a b cc), .int (nI rn), .ref wa, .ref ra])), (ki, .inl (cI, 9, .inl kd)), (si, .inl (cI, 9, .inl sd)), (bh, .inl (cI, 3, .inl bv))] H := hP
          have hD : va_D A [(x, .inr (7, [.int fa, .int tr, .ref so, .ref sl, .ref ce, .int (nI n), .int bar, .int (nI tn), .ref ki, .ref si, .ref th, .ref ri, .int at_, .int rp, .ref rk, .ref rs, .ref kt, .ref kr, .int kn, .int rg, .ref ab, .int am, .ref bh, .int (mny a b cc), .int (lou n kd sd a b cc), .int (nI rn), .ref wa, .ref ra])), (ki, .inl (cI, 9, .inl kd)), (si, .inl (cI, 9, .inl sd)), (bh, .inl (cI, 3, .inl bv))] := hD
          refine lv_aload_n hx hb dX7_tryThrees_120 rfl (lv_at hl 3 rfl) ?_
          refine va_get (D := D) (ci := 7) (v := .ref bh) (C := RX7) (T := TX7) (N := 28) hx hb hts iX7 hown hK hP 0 rfl rfl 22 (by decide) f46 (fun _ h9 => h9) rfl dX7_tryThrees_121 ?_
          refine lv_iconst (v := 0) hx hb dX7_tryThrees_124 (by decide) ?_
          refine lv_iload_n hx hb dX7_tryThrees_125 rfl (lv_at hl 4 rfl) ?_
          refine va_iast hx hb hK hP hD hS 3 0 rfl rfl (show vp_in (nI 0) _ from vp_in_nI (by decide) (by decide)) dX7_tryThrees_126 (fun H locs hP hD hS => ?_)
          rw [show (0 : Int32).toNatClampNeg = 0 from by decide] at hP hD
          have hP : va_P D vwCl [(x, .inr (7, [.int fa, .int tr, .ref so, .ref sl, .ref ce, .int (nI n), .int bar, .int (nI tn), .ref ki, .ref si, .ref th, .ref ri, .int at_, .int rp, .ref rk, .ref rs, .ref kt, .ref kr, .int kn, .int rg, .ref ab, .int am, .ref bh, .int (mny a b cc), .int (lou n kd sd a b cc), .int (nI rn), .ref wa, .ref ra])), (ki, .inl (cI, 9, .inl kd)), (si, .inl (cI, 9, .inl sd)), (bh, .inl (cI, 3, .inl (upd bv 0 a)))] H := hP
          have hD : va_D A [(x, .inr (7, [.int fa, .int tr, .ref so, .ref sl, .ref ce, .int (nI n), .int bar, .int (nI tn), .ref ki, .ref si, .ref th, .ref ri, .int at_, .int rp, .ref rk, .ref rs, .ref kt, .ref kr, .int kn, .int rg, .ref ab, .int am, .ref bh, .int (mny a b cc), .int (lou n kd sd a b cc), .int (nI rn), .ref wa, .ref ra])), (ki, .inl (cI, 9, .inl kd)), (si, .inl (cI, 9, .inl sd)), (bh, .inl (cI, 3, .inl (upd bv 0 a)))] := hD
          refine lv_aload_n hx hb dX7_tryThrees_127 rfl (lv_at hl 3 rfl) ?_
          refine va_get (D := D) (ci := 7) (v := .ref bh) (C := RX7) (T := TX7) (N := 28) hx hb hts iX7 hown hK hP 0 rfl rfl 22 (by decide) f46 (fun _ h9 => h9) rfl dX7_tryThrees_128 ?_
          refine lv_iconst (v := 1) hx hb dX7_tryThrees_131 (by decide) ?_
          refine lv_iload_n hx hb dX7_tryThrees_132 rfl (lv_at hl 5 rfl) ?_
          refine va_iast hx hb hK hP hD hS 3 0 rfl rfl (show vp_in (nI 1) _ from vp_in_nI (by decide) (by decide)) dX7_tryThrees_133 (fun H locs hP hD hS => ?_)
          rw [show (1 : Int32).toNatClampNeg = 1 from by decide] at hP hD
          have hP : va_P D vwCl [(x, .inr (7, [.int fa, .int tr, .ref so, .ref sl, .ref ce, .int (nI n), .int bar, .int (nI tn), .ref ki, .ref si, .ref th, .ref ri, .int at_, .int rp, .ref rk, .ref rs, .ref kt, .ref kr, .int kn, .int rg, .ref ab, .int am, .ref bh, .int (mny a b cc), .int (lou n kd sd a b cc), .int (nI rn), .ref wa, .ref ra])), (ki, .inl (cI, 9, .inl kd)), (si, .inl (cI, 9, .inl sd)), (bh, .inl (cI, 3, .inl (upd (upd bv 0 a) 1 b)))] H := hP
          have hD : va_D A [(x, .inr (7, [.int fa, .int tr, .ref so, .ref sl, .ref ce, .int (nI n), .int bar, .int (nI tn), .ref ki, .ref si, .ref th, .ref ri, .int at_, .int rp, .ref rk, .ref rs, .ref kt, .ref kr, .int kn, .int rg, .ref ab, .int am, .ref bh, .int (mny a b cc), .int (lou n kd sd a b cc), .int (nI rn), .ref wa, .ref ra])), (ki, .inl (cI, 9, .inl kd)), (si, .inl (cI, 9, .inl sd)), (bh, .inl (cI, 3, .inl (upd (upd bv 0 a) 1 b)))] := hD
          refine lv_aload_n hx hb dX7_tryThrees_134 rfl (lv_at hl 3 rfl) ?_
          refine va_get (D := D) (ci := 7) (v := .ref bh) (C := RX7) (T := TX7) (N := 28) hx hb hts iX7 hown hK hP 0 rfl rfl 22 (by decide) f46 (fun _ h9 => h9) rfl dX7_tryThrees_135 ?_
          refine lv_iconst (v := 2) hx hb dX7_tryThrees_138 (by decide) ?_
          refine lv_iload_n hx hb dX7_tryThrees_139 rfl (lv_at hl 6 rfl) ?_
          refine va_iast hx hb hK hP hD hS 3 0 rfl rfl (show vp_in (nI 2) _ from vp_in_nI (by decide) (by decide)) dX7_tryThrees_140 (fun H locs hP hD hS => ?_)
          rw [show (2 : Int32).toNatClampNeg = 2 from by decide] at hP hD
          have hP : va_P D vwCl [(x, .inr (7, [.int fa, .int tr, .ref so, .ref sl, .ref ce, .int (nI n), .int bar, .int (nI tn), .ref ki, .ref si, .ref th, .ref ri, .int at_, .int rp, .ref rk, .ref rs, .ref kt, .ref kr, .int kn, .int rg, .ref ab, .int am, .ref bh, .int (mny a b cc), .int (lou n kd sd a b cc), .int (nI rn), .ref wa, .ref ra])), (ki, .inl (cI, 9, .inl kd)), (si, .inl (cI, 9, .inl sd)), (bh, .inl (cI, 3, .inl (upd (upd (upd bv 0 a) 1 b) 2 cc)))] H := hP
          have hD : va_D A [(x, .inr (7, [.int fa, .int tr, .ref so, .ref sl, .ref ce, .int (nI n), .int bar, .int (nI tn), .ref ki, .ref si, .ref th, .ref ri, .int at_, .int rp, .ref rk, .ref rs, .ref kt, .ref kr, .int kn, .int rg, .ref ab, .int am, .ref bh, .int (mny a b cc), .int (lou n kd sd a b cc), .int (nI rn), .ref wa, .ref ra])), (ki, .inl (cI, 9, .inl kd)), (si, .inl (cI, 9, .inl sd)), (bh, .inl (cI, 3, .inl (upd (upd (upd bv 0 a) 1 b) 2 cc)))] := hD
          exact W.vret hx hb hr (fun t ht hW => ⟨⟨(mny a b cc, lou n kd sd a b cc, upd (upd (upd bv 0 a) 1 b) 2 cc), rfl, by simp [ttZ, hbt], by rw [ht]; exact hP, va_K.moved hW.alike hK, hD⟩, hS.F ht⟩) hS.2.2 dX7_tryThrees_141
        · -- f56
          refine lv_iload hx hb dX7_tryThrees_59 (lv_at hl 1 rfl) ?_
          refine lv_aload_n hx hb dX7_tryThrees_61 rfl (lv_at hl 2 rfl) ?_
          refine va_get (D := D) (ci := 7) (v := .int bm) (C := RX7) (T := TX7) (N := 28) hx hb hts iX7 hown hK hP 0 rfl rfl 23 (by decide) f183 (fun _ h9 => h9) rfl dX7_tryThrees_62 ?_
          refine lv_icmp_ne (tgt := 100) hx hb dX7_tryThrees_65 (by decide) (fun c65 => ?_) (fun c65 => ?_)
          · -- t65
            have hbt : ttB n kd sd (bm, br, bv) a b cc = false := by simp [ttB, c56, c65]
            refine lv_iconst (v := 0) hx hb dX7_tryThrees_100 (by decide) ?_
            refine lv_istore (lv' := [(6, .int 0), (5, .int (lou n kd sd a b cc)), (4, .int (mny a b cc)), (0, .ref x), (1, .int a), (2, .int b), (3, .int cc)]) hx hb dX7_tryThrees_101 hl (by decide) rfl (fun ls hl => ?_)
            refine lv_iload hx hb dX7_tryThrees_103 (lv_at hl 0 rfl) ?_
            refine lv_if_eq (tgt := 141) hx hb dX7_tryThrees_105 (by decide) (fun _ => ?_) (fun h => absurd (by decide) h)
            exact W.vret hx hb hr (fun t ht hW => ⟨⟨(bm, br, bv), rfl, by simp [ttZ, hbt], by rw [ht]; exact hP, va_K.moved hW.alike hK, hD⟩, hS.F ht⟩) hS.2.2 dX7_tryThrees_141
          · -- f65
            refine lv_iload hx hb dX7_tryThrees_68 (lv_at hl 0 rfl) ?_
            refine lv_aload_n hx hb dX7_tryThrees_70 rfl (lv_at hl 2 rfl) ?_
            refine va_get (D := D) (ci := 7) (v := .int br) (C := RX7) (T := TX7) (N := 28) hx hb hts iX7 hown hK hP 0 rfl rfl 24 (by decide) f186 (fun _ h9 => h9) rfl dX7_tryThrees_71 ?_
            refine lv_icmp_gt (tgt := 96) hx hb dX7_tryThrees_74 (by decide) (fun c74 => ?_) (fun c74 => ?_)
            · -- t74
              have hbt : ttB n kd sd (bm, br, bv) a b cc = true := by simp [ttB, c65, c74]
              refine lv_iconst (v := 1) hx hb dX7_tryThrees_96 (by decide) ?_
              refine lv_goto (tgt := 101) hx hb dX7_tryThrees_97 (by decide) ?_
              refine lv_istore (lv' := [(6, .int 1), (5, .int (lou n kd sd a b cc)), (4, .int (mny a b cc)), (0, .ref x), (1, .int a), (2, .int b), (3, .int cc)]) hx hb dX7_tryThrees_101 hl (by decide) rfl (fun ls hl => ?_)
              refine lv_iload hx hb dX7_tryThrees_103 (lv_at hl 0 rfl) ?_
              refine lv_if_eq (tgt := 141) hx hb dX7_tryThrees_105 (by decide) (fun h => absurd h (by decide)) (fun _ => ?_)
              refine lv_aload_n hx hb dX7_tryThrees_108 rfl (lv_at hl 3 rfl) ?_
              refine lv_iload hx hb dX7_tryThrees_109 (lv_at hl 2 rfl) ?_
              refine va_put (D := D) (ci := 7) (v := .int (mny a b cc)) (ty := .int) (C := RX7) (T := TX7) (N := 28) hx hb hts iX7 tyX7 tyX7_ok nmX7 hown hK hP hD hS 0 rfl rfl 23 (by decide) f183 (fun _ h9 => h9) rfl (by decide +kernel) rfl rfl (Nat.le_of_ble_eq_true rfl) dX7_tryThrees_111 (fun H locs hP hD hS => ?_)
              have hP : va_P D vwCl [(x, .inr (7, [.int fa, .int tr, .ref so, .ref sl, .ref ce, .int (nI n), .int bar, .int (nI tn), .ref ki, .ref si, .ref th, .ref ri, .int at_, .int rp, .ref rk, .ref rs, .ref kt, .ref kr, .int kn, .int rg, .ref ab, .int am, .ref bh, .int (mny a b cc), .int br, .int (nI rn), .ref wa, .ref ra])), (ki, .inl (cI, 9, .inl kd)), (si, .inl (cI, 9, .inl sd)), (bh, .inl (cI, 3, .inl bv))] H := hP
              have hD : va_D A [(x, .inr (7, [.int fa, .int tr, .ref so, .ref sl, .ref ce, .int (nI n), .int bar, .int (nI tn), .ref ki, .ref si, .ref th, .ref ri, .int at_, .int rp, .ref rk, .ref rs, .ref kt, .ref kr, .int kn, .int rg, .ref ab, .int am, .ref bh, .int (mny a b cc), .int br, .int (nI rn), .ref wa, .ref ra])), (ki, .inl (cI, 9, .inl kd)), (si, .inl (cI, 9, .inl sd)), (bh, .inl (cI, 3, .inl bv))] := hD
              refine lv_aload_n hx hb dX7_tryThrees_114 rfl (lv_at hl 3 rfl) ?_
              refine lv_iload hx hb dX7_tryThrees_115 (lv_at hl 1 rfl) ?_
              refine va_put (D := D) (ci := 7) (v := .int (lou n kd sd a b cc)) (ty := .int) (C := RX7) (T := TX7) (N := 28) hx hb hts iX7 tyX7 tyX7_ok nmX7 hown hK hP hD hS 0 rfl rfl 24 (by decide) f186 (fun _ h9 => h9) rfl (by decide +kernel) rfl rfl (Nat.le_of_ble_eq_true rfl) dX7_tryThrees_117 (fun H locs hP hD hS => ?_)
              have hP : va_P D vwCl [(x, .inr (7, [.int fa, .int tr, .ref so, .ref sl, .ref ce, .int (nI n), .int bar, .int (nI tn), .ref ki, .ref si, .ref th, .ref ri, .int at_, .int rp, .ref rk, .ref rs, .ref kt, .ref kr, .int kn, .int rg, .ref ab, .int am, .ref bh, .int (mny a b cc), .int (lou n kd sd a b cc), .int (nI rn), .ref wa, .ref ra])), (ki, .inl (cI, 9, .inl kd)), (si, .inl (cI, 9, .inl sd)), (bh, .inl (cI, 3, .inl bv))] H := hP
              have hD : va_D A [(x, .inr (7, [.int fa, .int tr, .ref so, .ref sl, .ref ce, .int (nI n), .int bar, .int (nI tn), .ref ki, .ref si, .ref th, .ref ri, .int at_, .int rp, .ref rk, .ref rs, .ref kt, .ref kr, .int kn, .int rg, .ref ab, .int am, .ref bh, .int (mny a b cc), .int (lou n kd sd a b cc), .int (nI rn), .ref wa, .ref ra])), (ki, .inl (cI, 9, .inl kd)), (si, .inl (cI, 9, .inl sd)), (bh, .inl (cI, 3, .inl bv))] := hD
              refine lv_aload_n hx hb dX7_tryThrees_120 rfl (lv_at hl 3 rfl) ?_
              refine va_get (D := D) (ci := 7) (v := .ref bh) (C := RX7) (T := TX7) (N := 28) hx hb hts iX7 hown hK hP 0 rfl rfl 22 (by decide) f46 (fun _ h9 => h9) rfl dX7_tryThrees_121 ?_
              refine lv_iconst (v := 0) hx hb dX7_tryThrees_124 (by decide) ?_
              refine lv_iload_n hx hb dX7_tryThrees_125 rfl (lv_at hl 4 rfl) ?_
              refine va_iast hx hb hK hP hD hS 3 0 rfl rfl (show vp_in (nI 0) _ from vp_in_nI (by decide) (by decide)) dX7_tryThrees_126 (fun H locs hP hD hS => ?_)
              rw [show (0 : Int32).toNatClampNeg = 0 from by decide] at hP hD
              have hP : va_P D vwCl [(x, .inr (7, [.int fa, .int tr, .ref so, .ref sl, .ref ce, .int (nI n), .int bar, .int (nI tn), .ref ki, .ref si, .ref th, .ref ri, .int at_, .int rp, .ref rk, .ref rs, .ref kt, .ref kr, .int kn, .int rg, .ref ab, .int am, .ref bh, .int (mny a b cc), .int (lou n kd sd a b cc), .int (nI rn), .ref wa, .ref ra])), (ki, .inl (cI, 9, .inl kd)), (si, .inl (cI, 9, .inl sd)), (bh, .inl (cI, 3, .inl (upd bv 0 a)))] H := hP
              have hD : va_D A [(x, .inr (7, [.int fa, .int tr, .ref so, .ref sl, .ref ce, .int (nI n), .int bar, .int (nI tn), .ref ki, .ref si, .ref th, .ref ri, .int at_, .int rp, .ref rk, .ref rs, .ref kt, .ref kr, .int kn, .int rg, .ref ab, .int am, .ref bh, .int (mny a b cc), .int (lou n kd sd a b cc), .int (nI rn), .ref wa, .ref ra])), (ki, .inl (cI, 9, .inl kd)), (si, .inl (cI, 9, .inl sd)), (bh, .inl (cI, 3, .inl (upd bv 0 a)))] := hD
              refine lv_aload_n hx hb dX7_tryThrees_127 rfl (lv_at hl 3 rfl) ?_
              refine va_get (D := D) (ci := 7) (v := .ref bh) (C := RX7) (T := TX7) (N := 28) hx hb hts iX7 hown hK hP 0 rfl rfl 22 (by decide) f46 (fun _ h9 => h9) rfl dX7_tryThrees_128 ?_
              refine lv_iconst (v := 1) hx hb dX7_tryThrees_131 (by decide) ?_
              refine lv_iload_n hx hb dX7_tryThrees_132 rfl (lv_at hl 5 rfl) ?_
              refine va_iast hx hb hK hP hD hS 3 0 rfl rfl (show vp_in (nI 1) _ from vp_in_nI (by decide) (by decide)) dX7_tryThrees_133 (fun H locs hP hD hS => ?_)
              rw [show (1 : Int32).toNatClampNeg = 1 from by decide] at hP hD
              have hP : va_P D vwCl [(x, .inr (7, [.int fa, .int tr, .ref so, .ref sl, .ref ce, .int (nI n), .int bar, .int (nI tn), .ref ki, .ref si, .ref th, .ref ri, .int at_, .int rp, .ref rk, .ref rs, .ref kt, .ref kr, .int kn, .int rg, .ref ab, .int am, .ref bh, .int (mny a b cc), .int (lou n kd sd a b cc), .int (nI rn), .ref wa, .ref ra])), (ki, .inl (cI, 9, .inl kd)), (si, .inl (cI, 9, .inl sd)), (bh, .inl (cI, 3, .inl (upd (upd bv 0 a) 1 b)))] H := hP
              have hD : va_D A [(x, .inr (7, [.int fa, .int tr, .ref so, .ref sl, .ref ce, .int (nI n), .int bar, .int (nI tn), .ref ki, .ref si, .ref th, .ref ri, .int at_, .int rp, .ref rk, .ref rs, .ref kt, .ref kr, .int kn, .int rg, .ref ab, .int am, .ref bh, .int (mny a b cc), .int (lou n kd sd a b cc), .int (nI rn), .ref wa, .ref ra])), (ki, .inl (cI, 9, .inl kd)), (si, .inl (cI, 9, .inl sd)), (bh, .inl (cI, 3, .inl (upd (upd bv 0 a) 1 b)))] := hD
              refine lv_aload_n hx hb dX7_tryThrees_134 rfl (lv_at hl 3 rfl) ?_
              refine va_get (D := D) (ci := 7) (v := .ref bh) (C := RX7) (T := TX7) (N := 28) hx hb hts iX7 hown hK hP 0 rfl rfl 22 (by decide) f46 (fun _ h9 => h9) rfl dX7_tryThrees_135 ?_
              refine lv_iconst (v := 2) hx hb dX7_tryThrees_138 (by decide) ?_
              refine lv_iload_n hx hb dX7_tryThrees_139 rfl (lv_at hl 6 rfl) ?_
              refine va_iast hx hb hK hP hD hS 3 0 rfl rfl (show vp_in (nI 2) _ from vp_in_nI (by decide) (by decide)) dX7_tryThrees_140 (fun H locs hP hD hS => ?_)
              rw [show (2 : Int32).toNatClampNeg = 2 from by decide] at hP hD
              have hP : va_P D vwCl [(x, .inr (7, [.int fa, .int tr, .ref so, .ref sl, .ref ce, .int (nI n), .int bar, .int (nI tn), .ref ki, .ref si, .ref th, .ref ri, .int at_, .int rp, .ref rk, .ref rs, .ref kt, .ref kr, .int kn, .int rg, .ref ab, .int am, .ref bh, .int (mny a b cc), .int (lou n kd sd a b cc), .int (nI rn), .ref wa, .ref ra])), (ki, .inl (cI, 9, .inl kd)), (si, .inl (cI, 9, .inl sd)), (bh, .inl (cI, 3, .inl (upd (upd (upd bv 0 a) 1 b) 2 cc)))] H := hP
              have hD : va_D A [(x, .inr (7, [.int fa, .int tr, .ref so, .ref sl, .ref ce, .int (nI n), .int bar, .int (nI tn), .ref ki, .ref si, .ref th, .ref ri, .int at_, .int rp, .ref rk, .ref rs, .ref kt, .ref kr, .int kn, .int rg, .ref ab, .int am, .ref bh, .int (mny a b cc), .int (lou n kd sd a b cc), .int (nI rn), .ref wa, .ref ra])), (ki, .inl (cI, 9, .inl kd)), (si, .inl (cI, 9, .inl sd)), (bh, .inl (cI, 3, .inl (upd (upd (upd bv 0 a) 1 b) 2 cc)))] := hD
              exact W.vret hx hb hr (fun t ht hW => ⟨⟨(mny a b cc, lou n kd sd a b cc, upd (upd (upd bv 0 a) 1 b) 2 cc), rfl, by simp [ttZ, hbt], by rw [ht]; exact hP, va_K.moved hW.alike hK, hD⟩, hS.F ht⟩) hS.2.2 dX7_tryThrees_141
            · -- f74
              refine lv_iload hx hb dX7_tryThrees_77 (lv_at hl 0 rfl) ?_
              refine lv_aload_n hx hb dX7_tryThrees_79 rfl (lv_at hl 2 rfl) ?_
              refine va_get (D := D) (ci := 7) (v := .int br) (C := RX7) (T := TX7) (N := 28) hx hb hts iX7 hown hK hP 0 rfl rfl 24 (by decide) f186 (fun _ h9 => h9) rfl dX7_tryThrees_80 ?_
              refine lv_icmp_ne (tgt := 100) hx hb dX7_tryThrees_83 (by decide) (fun c83 => ?_) (fun c83 => ?_)
              · -- t83
                have hbt : ttB n kd sd (bm, br, bv) a b cc = false := by unfold ttB; simp only [c56, c74, c83, decide_false, Bool.false_and, Bool.or_false, Bool.and_false]
                refine lv_iconst (v := 0) hx hb dX7_tryThrees_100 (by decide) ?_
                refine lv_istore (lv' := [(6, .int 0), (5, .int (lou n kd sd a b cc)), (4, .int (mny a b cc)), (0, .ref x), (1, .int a), (2, .int b), (3, .int cc)]) hx hb dX7_tryThrees_101 hl (by decide) rfl (fun ls hl => ?_)
                refine lv_iload hx hb dX7_tryThrees_103 (lv_at hl 0 rfl) ?_
                refine lv_if_eq (tgt := 141) hx hb dX7_tryThrees_105 (by decide) (fun _ => ?_) (fun h => absurd (by decide) h)
                exact W.vret hx hb hr (fun t ht hW => ⟨⟨(bm, br, bv), rfl, by simp [ttZ, hbt], by rw [ht]; exact hP, va_K.moved hW.alike hK, hD⟩, hS.F ht⟩) hS.2.2 dX7_tryThrees_141
              · -- f83
                refine lv_aload_n hx hb dX7_tryThrees_86 rfl (lv_at hl 2 rfl) ?_
                refine lv_iload_n hx hb dX7_tryThrees_87 rfl (lv_at hl 3 rfl) ?_
                refine lv_iload_n hx hb dX7_tryThrees_88 rfl (lv_at hl 4 rfl) ?_
                refine lv_iload_n hx hb dX7_tryThrees_89 rfl (lv_at hl 5 rfl) ?_
                have hPc := hP.sub (ws' := [(x, .inr (7, [.int fa, .int tr, .ref so, .ref sl, .ref ce, .int (nI n), .int bar, .int (nI tn), .ref ki, .ref si, .ref th, .ref ri, .int at_, .int rp, .ref rk, .ref rs, .ref kt, .ref kr, .int kn, .int rg, .ref ab, .int am, .ref bh, .int bm, .int br, .int (nI rn), .ref wa, .ref ra])), (bh, .inl (cI, 3, .inl bv))]) [0, 3] rfl
                refine vp_callSi (va_Run.run (va_runV (As := [.int a, .int b, .int cc]) (rest := []) ⟨hx, hb, hml, hown, hts⟩ (c_X7_isAhead l D cI cO x fa tr so sl ce n bar tn ki si th ri at_ rp rk rs kt kr kn rg ab am bh bm br rn wa ra bv a b cc (by assumption)) (cwV 3 hts gX7_tryThrees_X7_isAhead rfl rfl rfl (by decide +kernel) ⟨Nat.le_of_ble_eq_true rfl, Nat.le_of_ble_eq_true rfl⟩) (preVR hPc hK hNw (va_recv hK hPc (ci := 7) (q0 := 0) rfl rfl)) rfl rfl hl.1 rfl (lv_room (Nat.le_of_ble_eq_true rfl)) dX7_tryThrees_90 ⟨Nat.zero_le _, Nat.zero_le _⟩)) (fun r90 w90 => ?_)
                by_cases b90 : ahW a b cc (bv 0) (bv 1) (bv 2) n 0 = true
                · -- y90
                  obtain rfl := w90.1 b90
                  have hbt : ttB n kd sd (bm, br, bv) a b cc = true := by simp [ttB, c65, c83, b90]
                  refine lv_if_eq (tgt := 100) hx hb dX7_tryThrees_93 (by decide) (fun h => absurd h (by decide)) (fun _ => ?_)
                  refine lv_iconst (v := 1) hx hb dX7_tryThrees_96 (by decide) ?_
                  refine lv_goto (tgt := 101) hx hb dX7_tryThrees_97 (by decide) ?_
                  refine lv_istore (lv' := [(6, .int 1), (5, .int (lou n kd sd a b cc)), (4, .int (mny a b cc)), (0, .ref x), (1, .int a), (2, .int b), (3, .int cc)]) hx hb dX7_tryThrees_101 hl (by decide) rfl (fun ls hl => ?_)
                  refine lv_iload hx hb dX7_tryThrees_103 (lv_at hl 0 rfl) ?_
                  refine lv_if_eq (tgt := 141) hx hb dX7_tryThrees_105 (by decide) (fun h => absurd h (by decide)) (fun _ => ?_)
                  refine lv_aload_n hx hb dX7_tryThrees_108 rfl (lv_at hl 3 rfl) ?_
                  refine lv_iload hx hb dX7_tryThrees_109 (lv_at hl 2 rfl) ?_
                  refine va_put (D := D) (ci := 7) (v := .int (mny a b cc)) (ty := .int) (C := RX7) (T := TX7) (N := 28) hx hb hts iX7 tyX7 tyX7_ok nmX7 hown hK hP hD hS 0 rfl rfl 23 (by decide) f183 (fun _ h9 => h9) rfl (by decide +kernel) rfl rfl (Nat.le_of_ble_eq_true rfl) dX7_tryThrees_111 (fun H locs hP hD hS => ?_)
                  have hP : va_P D vwCl [(x, .inr (7, [.int fa, .int tr, .ref so, .ref sl, .ref ce, .int (nI n), .int bar, .int (nI tn), .ref ki, .ref si, .ref th, .ref ri, .int at_, .int rp, .ref rk, .ref rs, .ref kt, .ref kr, .int kn, .int rg, .ref ab, .int am, .ref bh, .int (mny a b cc), .int br, .int (nI rn), .ref wa, .ref ra])), (ki, .inl (cI, 9, .inl kd)), (si, .inl (cI, 9, .inl sd)), (bh, .inl (cI, 3, .inl bv))] H := hP
                  have hD : va_D A [(x, .inr (7, [.int fa, .int tr, .ref so, .ref sl, .ref ce, .int (nI n), .int bar, .int (nI tn), .ref ki, .ref si, .ref th, .ref ri, .int at_, .int rp, .ref rk, .ref rs, .ref kt, .ref kr, .int kn, .int rg, .ref ab, .int am, .ref bh, .int (mny a b cc), .int br, .int (nI rn), .ref wa, .ref ra])), (ki, .inl (cI, 9, .inl kd)), (si, .inl (cI, 9, .inl sd)), (bh, .inl (cI, 3, .inl bv))] := hD
                  refine lv_aload_n hx hb dX7_tryThrees_114 rfl (lv_at hl 3 rfl) ?_
                  refine lv_iload hx hb dX7_tryThrees_115 (lv_at hl 1 rfl) ?_
                  refine va_put (D := D) (ci := 7) (v := .int (lou n kd sd a b cc)) (ty := .int) (C := RX7) (T := TX7) (N := 28) hx hb hts iX7 tyX7 tyX7_ok nmX7 hown hK hP hD hS 0 rfl rfl 24 (by decide) f186 (fun _ h9 => h9) rfl (by decide +kernel) rfl rfl (Nat.le_of_ble_eq_true rfl) dX7_tryThrees_117 (fun H locs hP hD hS => ?_)
                  have hP : va_P D vwCl [(x, .inr (7, [.int fa, .int tr, .ref so, .ref sl, .ref ce, .int (nI n), .int bar, .int (nI tn), .ref ki, .ref si, .ref th, .ref ri, .int at_, .int rp, .ref rk, .ref rs, .ref kt, .ref kr, .int kn, .int rg, .ref ab, .int am, .ref bh, .int (mny a b cc), .int (lou n kd sd a b cc), .int (nI rn), .ref wa, .ref ra])), (ki, .inl (cI, 9, .inl kd)), (si, .inl (cI, 9, .inl sd)), (bh, .inl (cI, 3, .inl bv))] H := hP
                  have hD : va_D A [(x, .inr (7, [.int fa, .int tr, .ref so, .ref sl, .ref ce, .int (nI n), .int bar, .int (nI tn), .ref ki, .ref si, .ref th, .ref ri, .int at_, .int rp, .ref rk, .ref rs, .ref kt, .ref kr, .int kn, .int rg, .ref ab, .int am, .ref bh, .int (mny a b cc), .int (lou n kd sd a b cc), .int (nI rn), .ref wa, .ref ra])), (ki, .inl (cI, 9, .inl kd)), (si, .inl (cI, 9, .inl sd)), (bh, .inl (cI, 3, .inl bv))] := hD
                  refine lv_aload_n hx hb dX7_tryThrees_120 rfl (lv_at hl 3 rfl) ?_
                  refine va_get (D := D) (ci := 7) (v := .ref bh) (C := RX7) (T := TX7) (N := 28) hx hb hts iX7 hown hK hP 0 rfl rfl 22 (by decide) f46 (fun _ h9 => h9) rfl dX7_tryThrees_121 ?_
                  refine lv_iconst (v := 0) hx hb dX7_tryThrees_124 (by decide) ?_
                  refine lv_iload_n hx hb dX7_tryThrees_125 rfl (lv_at hl 4 rfl) ?_
                  refine va_iast hx hb hK hP hD hS 3 0 rfl rfl (show vp_in (nI 0) _ from vp_in_nI (by decide) (by decide)) dX7_tryThrees_126 (fun H locs hP hD hS => ?_)
                  rw [show (0 : Int32).toNatClampNeg = 0 from by decide] at hP hD
                  have hP : va_P D vwCl [(x, .inr (7, [.int fa, .int tr, .ref so, .ref sl, .ref ce, .int (nI n), .int bar, .int (nI tn), .ref ki, .ref si, .ref th, .ref ri, .int at_, .int rp, .ref rk, .ref rs, .ref kt, .ref kr, .int kn, .int rg, .ref ab, .int am, .ref bh, .int (mny a b cc), .int (lou n kd sd a b cc), .int (nI rn), .ref wa, .ref ra])), (ki, .inl (cI, 9, .inl kd)), (si, .inl (cI, 9, .inl sd)), (bh, .inl (cI, 3, .inl (upd bv 0 a)))] H := hP
                  have hD : va_D A [(x, .inr (7, [.int fa, .int tr, .ref so, .ref sl, .ref ce, .int (nI n), .int bar, .int (nI tn), .ref ki, .ref si, .ref th, .ref ri, .int at_, .int rp, .ref rk, .ref rs, .ref kt, .ref kr, .int kn, .int rg, .ref ab, .int am, .ref bh, .int (mny a b cc), .int (lou n kd sd a b cc), .int (nI rn), .ref wa, .ref ra])), (ki, .inl (cI, 9, .inl kd)), (si, .inl (cI, 9, .inl sd)), (bh, .inl (cI, 3, .inl (upd bv 0 a)))] := hD
                  refine lv_aload_n hx hb dX7_tryThrees_127 rfl (lv_at hl 3 rfl) ?_
                  refine va_get (D := D) (ci := 7) (v := .ref bh) (C := RX7) (T := TX7) (N := 28) hx hb hts iX7 hown hK hP 0 rfl rfl 22 (by decide) f46 (fun _ h9 => h9) rfl dX7_tryThrees_128 ?_
                  refine lv_iconst (v := 1) hx hb dX7_tryThrees_131 (by decide) ?_
                  refine lv_iload_n hx hb dX7_tryThrees_132 rfl (lv_at hl 5 rfl) ?_
                  refine va_iast hx hb hK hP hD hS 3 0 rfl rfl (show vp_in (nI 1) _ from vp_in_nI (by decide) (by decide)) dX7_tryThrees_133 (fun H locs hP hD hS => ?_)
                  rw [show (1 : Int32).toNatClampNeg = 1 from by decide] at hP hD
                  have hP : va_P D vwCl [(x, .inr (7, [.int fa, .int tr, .ref so, .ref sl, .ref ce, .int (nI n), .int bar, .int (nI tn), .ref ki, .ref si, .ref th, .ref ri, .int at_, .int rp, .ref rk, .ref rs, .ref kt, .ref kr, .int kn, .int rg, .ref ab, .int am, .ref bh, .int (mny a b cc), .int (lou n kd sd a b cc), .int (nI rn), .ref wa, .ref ra])), (ki, .inl (cI, 9, .inl kd)), (si, .inl (cI, 9, .inl sd)), (bh, .inl (cI, 3, .inl (upd (upd bv 0 a) 1 b)))] H := hP
                  have hD : va_D A [(x, .inr (7, [.int fa, .int tr, .ref so, .ref sl, .ref ce, .int (nI n), .int bar, .int (nI tn), .ref ki, .ref si, .ref th, .ref ri, .int at_, .int rp, .ref rk, .ref rs, .ref kt, .ref kr, .int kn, .int rg, .ref ab, .int am, .ref bh, .int (mny a b cc), .int (lou n kd sd a b cc), .int (nI rn), .ref wa, .ref ra])), (ki, .inl (cI, 9, .inl kd)), (si, .inl (cI, 9, .inl sd)), (bh, .inl (cI, 3, .inl (upd (upd bv 0 a) 1 b)))] := hD
                  refine lv_aload_n hx hb dX7_tryThrees_134 rfl (lv_at hl 3 rfl) ?_
                  refine va_get (D := D) (ci := 7) (v := .ref bh) (C := RX7) (T := TX7) (N := 28) hx hb hts iX7 hown hK hP 0 rfl rfl 22 (by decide) f46 (fun _ h9 => h9) rfl dX7_tryThrees_135 ?_
                  refine lv_iconst (v := 2) hx hb dX7_tryThrees_138 (by decide) ?_
                  refine lv_iload_n hx hb dX7_tryThrees_139 rfl (lv_at hl 6 rfl) ?_
                  refine va_iast hx hb hK hP hD hS 3 0 rfl rfl (show vp_in (nI 2) _ from vp_in_nI (by decide) (by decide)) dX7_tryThrees_140 (fun H locs hP hD hS => ?_)
                  rw [show (2 : Int32).toNatClampNeg = 2 from by decide] at hP hD
                  have hP : va_P D vwCl [(x, .inr (7, [.int fa, .int tr, .ref so, .ref sl, .ref ce, .int (nI n), .int bar, .int (nI tn), .ref ki, .ref si, .ref th, .ref ri, .int at_, .int rp, .ref rk, .ref rs, .ref kt, .ref kr, .int kn, .int rg, .ref ab, .int am, .ref bh, .int (mny a b cc), .int (lou n kd sd a b cc), .int (nI rn), .ref wa, .ref ra])), (ki, .inl (cI, 9, .inl kd)), (si, .inl (cI, 9, .inl sd)), (bh, .inl (cI, 3, .inl (upd (upd (upd bv 0 a) 1 b) 2 cc)))] H := hP
                  have hD : va_D A [(x, .inr (7, [.int fa, .int tr, .ref so, .ref sl, .ref ce, .int (nI n), .int bar, .int (nI tn), .ref ki, .ref si, .ref th, .ref ri, .int at_, .int rp, .ref rk, .ref rs, .ref kt, .ref kr, .int kn, .int rg, .ref ab, .int am, .ref bh, .int (mny a b cc), .int (lou n kd sd a b cc), .int (nI rn), .ref wa, .ref ra])), (ki, .inl (cI, 9, .inl kd)), (si, .inl (cI, 9, .inl sd)), (bh, .inl (cI, 3, .inl (upd (upd (upd bv 0 a) 1 b) 2 cc)))] := hD
                  exact W.vret hx hb hr (fun t ht hW => ⟨⟨(mny a b cc, lou n kd sd a b cc, upd (upd (upd bv 0 a) 1 b) 2 cc), rfl, by simp [ttZ, hbt], by rw [ht]; exact hP, va_K.moved hW.alike hK, hD⟩, hS.F ht⟩) hS.2.2 dX7_tryThrees_141
                · -- n90
                  obtain rfl := w90.2 b90
                  have hbt : ttB n kd sd (bm, br, bv) a b cc = false := by rw [Bool.not_eq_true] at b90; unfold ttB; simp only [c56, c74, b90, decide_false, Bool.or_false, Bool.and_false]
                  refine lv_if_eq (tgt := 100) hx hb dX7_tryThrees_93 (by decide) (fun _ => ?_) (fun h => absurd (by decide) h)
                  refine lv_iconst (v := 0) hx hb dX7_tryThrees_100 (by decide) ?_
                  refine lv_istore (lv' := [(6, .int 0), (5, .int (lou n kd sd a b cc)), (4, .int (mny a b cc)), (0, .ref x), (1, .int a), (2, .int b), (3, .int cc)]) hx hb dX7_tryThrees_101 hl (by decide) rfl (fun ls hl => ?_)
                  refine lv_iload hx hb dX7_tryThrees_103 (lv_at hl 0 rfl) ?_
                  refine lv_if_eq (tgt := 141) hx hb dX7_tryThrees_105 (by decide) (fun _ => ?_) (fun h => absurd (by decide) h)
                  exact W.vret hx hb hr (fun t ht hW => ⟨⟨(bm, br, bv), rfl, by simp [ttZ, hbt], by rw [ht]; exact hP, va_K.moved hW.alike hK, hD⟩, hS.F ht⟩) hS.2.2 dX7_tryThrees_141
      · -- f20
        refine lv_iconst (v := 0) hx hb dX7_tryThrees_23 (by decide) ?_
        refine lv_goto (tgt := 28) hx hb dX7_tryThrees_24 (by decide) ?_
        refine tp_i (y := one0 cc) (by simp [one0, c20]) ?_
        refine lv_iadd hx hb dX7_tryThrees_28 ?_
        refine tp_i (y := mny a b cc) (rfl) ?_
        refine lv_istore (lv' := [(4, .int (mny a b cc)), (0, .ref x), (1, .int a), (2, .int b), (3, .int cc)]) hx hb dX7_tryThrees_29 hl (by decide) rfl (fun ls hl => ?_)
        refine lv_aload_n hx hb dX7_tryThrees_31 rfl (lv_at hl 1 rfl) ?_
        refine lv_iload_n hx hb dX7_tryThrees_32 rfl (lv_at hl 2 rfl) ?_
        have hPc := hP.sub (ws' := [(x, .inr (7, [.int fa, .int tr, .ref so, .ref sl, .ref ce, .int (nI n), .int bar, .int (nI tn), .ref ki, .ref si, .ref th, .ref ri, .int at_, .int rp, .ref rk, .ref rs, .ref kt, .ref kr, .int kn, .int rg, .ref ab, .int am, .ref bh, .int bm, .int br, .int (nI rn), .ref wa, .ref ra])), (ki, .inl (cI, 9, .inl kd)), (si, .inl (cI, 9, .inl sd))]) [0, 1, 2] rfl
        refine vp_callSi (va_Run.run (va_runV (As := [.int a]) (rest := []) ⟨hx, hb, hml, hown, hts⟩ (c_X7_ringsOf l D cI cO x fa tr so sl ce n bar tn ki si th ri at_ rp rk rs kt kr kn rg ab am bh bm br rn wa ra kd sd a (by assumption) (by assumption)) (cwV 1 hts gX7_tryThrees_X7_ringsOf rfl rfl rfl (by decide +kernel) ⟨Nat.le_of_ble_eq_true rfl, Nat.le_of_ble_eq_true rfl⟩) (preVR hPc hK hNw (va_recv hK hPc (ci := 7) (q0 := 0) rfl rfl)) rfl rfl hl.1 rfl (lv_room (Nat.le_of_ble_eq_true rfl)) dX7_tryThrees_33 ⟨Nat.zero_le _, Nat.zero_le _⟩)) (fun r33 w33 => ?_)
        obtain rfl := w33
        refine lv_aload_n hx hb dX7_tryThrees_36 rfl (lv_at hl 1 rfl) ?_
        refine lv_iload_n hx hb dX7_tryThrees_37 rfl (lv_at hl 3 rfl) ?_
        have hPc := hP.sub (ws' := [(x, .inr (7, [.int fa, .int tr, .ref so, .ref sl, .ref ce, .int (nI n), .int bar, .int (nI tn), .ref ki, .ref si, .ref th, .ref ri, .int at_, .int rp, .ref rk, .ref rs, .ref kt, .ref kr, .int kn, .int rg, .ref ab, .int am, .ref bh, .int bm, .int br, .int (nI rn), .ref wa, .ref ra])), (ki, .inl (cI, 9, .inl kd)), (si, .inl (cI, 9, .inl sd))]) [0, 1, 2] rfl
        refine vp_callSi (va_Run.run (va_runV (As := [.int b]) (rest := [.int (sumW (rgF kd sd) a n)]) ⟨hx, hb, hml, hown, hts⟩ (c_X7_ringsOf l D cI cO x fa tr so sl ce n bar tn ki si th ri at_ rp rk rs kt kr kn rg ab am bh bm br rn wa ra kd sd b (by assumption) (by assumption)) (cwV 1 hts gX7_tryThrees_X7_ringsOf rfl rfl rfl (by decide +kernel) ⟨Nat.le_of_ble_eq_true rfl, Nat.le_of_ble_eq_true rfl⟩) (preVR hPc hK hNw (va_recv hK hPc (ci := 7) (q0 := 0) rfl rfl)) rfl rfl hl.1 rfl (lv_room (Nat.le_of_ble_eq_true rfl)) dX7_tryThrees_38 ⟨Nat.zero_le _, Nat.zero_le _⟩)) (fun r38 w38 => ?_)
        obtain rfl := w38
        refine lv_iadd hx hb dX7_tryThrees_41 ?_
        refine lv_aload_n hx hb dX7_tryThrees_42 rfl (lv_at hl 1 rfl) ?_
        refine lv_iload_n hx hb dX7_tryThrees_43 rfl (lv_at hl 4 rfl) ?_
        have hPc := hP.sub (ws' := [(x, .inr (7, [.int fa, .int tr, .ref so, .ref sl, .ref ce, .int (nI n), .int bar, .int (nI tn), .ref ki, .ref si, .ref th, .ref ri, .int at_, .int rp, .ref rk, .ref rs, .ref kt, .ref kr, .int kn, .int rg, .ref ab, .int am, .ref bh, .int bm, .int br, .int (nI rn), .ref wa, .ref ra])), (ki, .inl (cI, 9, .inl kd)), (si, .inl (cI, 9, .inl sd))]) [0, 1, 2] rfl
        refine vp_callSi (va_Run.run (va_runV (As := [.int cc]) (rest := [.int ((sumW (rgF kd sd) a n) + (sumW (rgF kd sd) b n))]) ⟨hx, hb, hml, hown, hts⟩ (c_X7_ringsOf l D cI cO x fa tr so sl ce n bar tn ki si th ri at_ rp rk rs kt kr kn rg ab am bh bm br rn wa ra kd sd cc (by assumption) (by assumption)) (cwV 1 hts gX7_tryThrees_X7_ringsOf rfl rfl rfl (by decide +kernel) ⟨Nat.le_of_ble_eq_true rfl, Nat.le_of_ble_eq_true rfl⟩) (preVR hPc hK hNw (va_recv hK hPc (ci := 7) (q0 := 0) rfl rfl)) rfl rfl hl.1 rfl (lv_room (Nat.le_of_ble_eq_true rfl)) dX7_tryThrees_44 ⟨Nat.zero_le _, Nat.zero_le _⟩)) (fun r44 w44 => ?_)
        obtain rfl := w44
        refine lv_iadd hx hb dX7_tryThrees_47 ?_
        refine tp_i (y := lou n kd sd a b cc) (rfl) ?_
        refine lv_istore (lv' := [(5, .int (lou n kd sd a b cc)), (4, .int (mny a b cc)), (0, .ref x), (1, .int a), (2, .int b), (3, .int cc)]) hx hb dX7_tryThrees_48 hl (by decide) rfl (fun ls hl => ?_)
        refine lv_iload hx hb dX7_tryThrees_50 (lv_at hl 1 rfl) ?_
        refine lv_aload_n hx hb dX7_tryThrees_52 rfl (lv_at hl 2 rfl) ?_
        refine va_get (D := D) (ci := 7) (v := .int bm) (C := RX7) (T := TX7) (N := 28) hx hb hts iX7 hown hK hP 0 rfl rfl 23 (by decide) f183 (fun _ h9 => h9) rfl dX7_tryThrees_53 ?_
        refine lv_icmp_gt (tgt := 96) hx hb dX7_tryThrees_56 (by decide) (fun c56 => ?_) (fun c56 => ?_)
        · -- t56
          have hbt : ttB n kd sd (bm, br, bv) a b cc = true := by simp [ttB, c56]
          refine lv_iconst (v := 1) hx hb dX7_tryThrees_96 (by decide) ?_
          refine lv_goto (tgt := 101) hx hb dX7_tryThrees_97 (by decide) ?_
          refine lv_istore (lv' := [(6, .int 1), (5, .int (lou n kd sd a b cc)), (4, .int (mny a b cc)), (0, .ref x), (1, .int a), (2, .int b), (3, .int cc)]) hx hb dX7_tryThrees_101 hl (by decide) rfl (fun ls hl => ?_)
          refine lv_iload hx hb dX7_tryThrees_103 (lv_at hl 0 rfl) ?_
          refine lv_if_eq (tgt := 141) hx hb dX7_tryThrees_105 (by decide) (fun h => absurd h (by decide)) (fun _ => ?_)
          refine lv_aload_n hx hb dX7_tryThrees_108 rfl (lv_at hl 3 rfl) ?_
          refine lv_iload hx hb dX7_tryThrees_109 (lv_at hl 2 rfl) ?_
          refine va_put (D := D) (ci := 7) (v := .int (mny a b cc)) (ty := .int) (C := RX7) (T := TX7) (N := 28) hx hb hts iX7 tyX7 tyX7_ok nmX7 hown hK hP hD hS 0 rfl rfl 23 (by decide) f183 (fun _ h9 => h9) rfl (by decide +kernel) rfl rfl (Nat.le_of_ble_eq_true rfl) dX7_tryThrees_111 (fun H locs hP hD hS => ?_)
          have hP : va_P D vwCl [(x, .inr (7, [.int fa, .int tr, .ref so, .ref sl, .ref ce, .int (nI n), .int bar, .int (nI tn), .ref ki, .ref si, .ref th, .ref ri, .int at_, .int rp, .ref rk, .ref rs, .ref kt, .ref kr, .int kn, .int rg, .ref ab, .int am, .ref bh, .int (mny a b cc), .int br, .int (nI rn), .ref wa, .ref ra])), (ki, .inl (cI, 9, .inl kd)), (si, .inl (cI, 9, .inl sd)), (bh, .inl (cI, 3, .inl bv))] H := hP
          have hD : va_D A [(x, .inr (7, [.int fa, .int tr, .ref so, .ref sl, .ref ce, .int (nI n), .int bar, .int (nI tn), .ref ki, .ref si, .ref th, .ref ri, .int at_, .int rp, .ref rk, .ref rs, .ref kt, .ref kr, .int kn, .int rg, .ref ab, .int am, .ref bh, .int (mny a b cc), .int br, .int (nI rn), .ref wa, .ref ra])), (ki, .inl (cI, 9, .inl kd)), (si, .inl (cI, 9, .inl sd)), (bh, .inl (cI, 3, .inl bv))] := hD
          refine lv_aload_n hx hb dX7_tryThrees_114 rfl (lv_at hl 3 rfl) ?_
          refine lv_iload hx hb dX7_tryThrees_115 (lv_at hl 1 rfl) ?_
          refine va_put (D := D) (ci := 7) (v := .int (lou n kd sd a b cc)) (ty := .int) (C := RX7) (T := TX7) (N := 28) hx hb hts iX7 tyX7 tyX7_ok nmX7 hown hK hP hD hS 0 rfl rfl 24 (by decide) f186 (fun _ h9 => h9) rfl (by decide +kernel) rfl rfl (Nat.le_of_ble_eq_true rfl) dX7_tryThrees_117 (fun H locs hP hD hS => ?_)
          have hP : va_P D vwCl [(x, .inr (7, [.int fa, .int tr, .ref so, .ref sl, .ref ce, .int (nI n), .int bar, .int (nI tn), .ref ki, .ref si, .ref th, .ref ri, .int at_, .int rp, .ref rk, .ref rs, .ref kt, .ref kr, .int kn, .int rg, .ref ab, .int am, .ref bh, .int (mny a b cc), .int (lou n kd sd a b cc), .int (nI rn), .ref wa, .ref ra])), (ki, .inl (cI, 9, .inl kd)), (si, .inl (cI, 9, .inl sd)), (bh, .inl (cI, 3, .inl bv))] H := hP
          have hD : va_D A [(x, .inr (7, [.int fa, .int tr, .ref so, .ref sl, .ref ce, .int (nI n), .int bar, .int (nI tn), .ref ki, .ref si, .ref th, .ref ri, .int at_, .int rp, .ref rk, .ref rs, .ref kt, .ref kr, .int kn, .int rg, .ref ab, .int am, .ref bh, .int (mny a b cc), .int (lou n kd sd a b cc), .int (nI rn), .ref wa, .ref ra])), (ki, .inl (cI, 9, .inl kd)), (si, .inl (cI, 9, .inl sd)), (bh, .inl (cI, 3, .inl bv))] := hD
          refine lv_aload_n hx hb dX7_tryThrees_120 rfl (lv_at hl 3 rfl) ?_
          refine va_get (D := D) (ci := 7) (v := .ref bh) (C := RX7) (T := TX7) (N := 28) hx hb hts iX7 hown hK hP 0 rfl rfl 22 (by decide) f46 (fun _ h9 => h9) rfl dX7_tryThrees_121 ?_
          refine lv_iconst (v := 0) hx hb dX7_tryThrees_124 (by decide) ?_
          refine lv_iload_n hx hb dX7_tryThrees_125 rfl (lv_at hl 4 rfl) ?_
          refine va_iast hx hb hK hP hD hS 3 0 rfl rfl (show vp_in (nI 0) _ from vp_in_nI (by decide) (by decide)) dX7_tryThrees_126 (fun H locs hP hD hS => ?_)
          rw [show (0 : Int32).toNatClampNeg = 0 from by decide] at hP hD
          have hP : va_P D vwCl [(x, .inr (7, [.int fa, .int tr, .ref so, .ref sl, .ref ce, .int (nI n), .int bar, .int (nI tn), .ref ki, .ref si, .ref th, .ref ri, .int at_, .int rp, .ref rk, .ref rs, .ref kt, .ref kr, .int kn, .int rg, .ref ab, .int am, .ref bh, .int (mny a b cc), .int (lou n kd sd a b cc), .int (nI rn), .ref wa, .ref ra])), (ki, .inl (cI, 9, .inl kd)), (si, .inl (cI, 9, .inl sd)), (bh, .inl (cI, 3, .inl (upd bv 0 a)))] H := hP
          have hD : va_D A [(x, .inr (7, [.int fa, .int tr, .ref so, .ref sl, .ref ce, .int (nI n), .int bar, .int (nI tn), .ref ki, .ref si, .ref th, .ref ri, .int at_, .int rp, .ref rk, .ref rs, .ref kt, .ref kr, .int kn, .int rg, .ref ab, .int am, .ref bh, .int (mny a b cc), .int (lou n kd sd a b cc), .int (nI rn), .ref wa, .ref ra])), (ki, .inl (cI, 9, .inl kd)), (si, .inl (cI, 9, .inl sd)), (bh, .inl (cI, 3, .inl (upd bv 0 a)))] := hD
          refine lv_aload_n hx hb dX7_tryThrees_127 rfl (lv_at hl 3 rfl) ?_
          refine va_get (D := D) (ci := 7) (v := .ref bh) (C := RX7) (T := TX7) (N := 28) hx hb hts iX7 hown hK hP 0 rfl rfl 22 (by decide) f46 (fun _ h9 => h9) rfl dX7_tryThrees_128 ?_
          refine lv_iconst (v := 1) hx hb dX7_tryThrees_131 (by decide) ?_
          refine lv_iload_n hx hb dX7_tryThrees_132 rfl (lv_at hl 5 rfl) ?_
          refine va_iast hx hb hK hP hD hS 3 0 rfl rfl (show vp_in (nI 1) _ from vp_in_nI (by decide) (by decide)) dX7_tryThrees_133 (fun H locs hP hD hS => ?_)
          rw [show (1 : Int32).toNatClampNeg = 1 from by decide] at hP hD
          have hP : va_P D vwCl [(x, .inr (7, [.int fa, .int tr, .ref so, .ref sl, .ref ce, .int (nI n), .int bar, .int (nI tn), .ref ki, .ref si, .ref th, .ref ri, .int at_, .int rp, .ref rk, .ref rs, .ref kt, .ref kr, .int kn, .int rg, .ref ab, .int am, .ref bh, .int (mny a b cc), .int (lou n kd sd a b cc), .int (nI rn), .ref wa, .ref ra])), (ki, .inl (cI, 9, .inl kd)), (si, .inl (cI, 9, .inl sd)), (bh, .inl (cI, 3, .inl (upd (upd bv 0 a) 1 b)))] H := hP
          have hD : va_D A [(x, .inr (7, [.int fa, .int tr, .ref so, .ref sl, .ref ce, .int (nI n), .int bar, .int (nI tn), .ref ki, .ref si, .ref th, .ref ri, .int at_, .int rp, .ref rk, .ref rs, .ref kt, .ref kr, .int kn, .int rg, .ref ab, .int am, .ref bh, .int (mny a b cc), .int (lou n kd sd a b cc), .int (nI rn), .ref wa, .ref ra])), (ki, .inl (cI, 9, .inl kd)), (si, .inl (cI, 9, .inl sd)), (bh, .inl (cI, 3, .inl (upd (upd bv 0 a) 1 b)))] := hD
          refine lv_aload_n hx hb dX7_tryThrees_134 rfl (lv_at hl 3 rfl) ?_
          refine va_get (D := D) (ci := 7) (v := .ref bh) (C := RX7) (T := TX7) (N := 28) hx hb hts iX7 hown hK hP 0 rfl rfl 22 (by decide) f46 (fun _ h9 => h9) rfl dX7_tryThrees_135 ?_
          refine lv_iconst (v := 2) hx hb dX7_tryThrees_138 (by decide) ?_
          refine lv_iload_n hx hb dX7_tryThrees_139 rfl (lv_at hl 6 rfl) ?_
          refine va_iast hx hb hK hP hD hS 3 0 rfl rfl (show vp_in (nI 2) _ from vp_in_nI (by decide) (by decide)) dX7_tryThrees_140 (fun H locs hP hD hS => ?_)
          rw [show (2 : Int32).toNatClampNeg = 2 from by decide] at hP hD
          have hP : va_P D vwCl [(x, .inr (7, [.int fa, .int tr, .ref so, .ref sl, .ref ce, .int (nI n), .int bar, .int (nI tn), .ref ki, .ref si, .ref th, .ref ri, .int at_, .int rp, .ref rk, .ref rs, .ref kt, .ref kr, .int kn, .int rg, .ref ab, .int am, .ref bh, .int (mny a b cc), .int (lou n kd sd a b cc), .int (nI rn), .ref wa, .ref ra])), (ki, .inl (cI, 9, .inl kd)), (si, .inl (cI, 9, .inl sd)), (bh, .inl (cI, 3, .inl (upd (upd (upd bv 0 a) 1 b) 2 cc)))] H := hP
          have hD : va_D A [(x, .inr (7, [.int fa, .int tr, .ref so, .ref sl, .ref ce, .int (nI n), .int bar, .int (nI tn), .ref ki, .ref si, .ref th, .ref ri, .int at_, .int rp, .ref rk, .ref rs, .ref kt, .ref kr, .int kn, .int rg, .ref ab, .int am, .ref bh, .int (mny a b cc), .int (lou n kd sd a b cc), .int (nI rn), .ref wa, .ref ra])), (ki, .inl (cI, 9, .inl kd)), (si, .inl (cI, 9, .inl sd)), (bh, .inl (cI, 3, .inl (upd (upd (upd bv 0 a) 1 b) 2 cc)))] := hD
          exact W.vret hx hb hr (fun t ht hW => ⟨⟨(mny a b cc, lou n kd sd a b cc, upd (upd (upd bv 0 a) 1 b) 2 cc), rfl, by simp [ttZ, hbt], by rw [ht]; exact hP, va_K.moved hW.alike hK, hD⟩, hS.F ht⟩) hS.2.2 dX7_tryThrees_141
        · -- f56
          refine lv_iload hx hb dX7_tryThrees_59 (lv_at hl 1 rfl) ?_
          refine lv_aload_n hx hb dX7_tryThrees_61 rfl (lv_at hl 2 rfl) ?_
          refine va_get (D := D) (ci := 7) (v := .int bm) (C := RX7) (T := TX7) (N := 28) hx hb hts iX7 hown hK hP 0 rfl rfl 23 (by decide) f183 (fun _ h9 => h9) rfl dX7_tryThrees_62 ?_
          refine lv_icmp_ne (tgt := 100) hx hb dX7_tryThrees_65 (by decide) (fun c65 => ?_) (fun c65 => ?_)
          · -- t65
            have hbt : ttB n kd sd (bm, br, bv) a b cc = false := by simp [ttB, c56, c65]
            refine lv_iconst (v := 0) hx hb dX7_tryThrees_100 (by decide) ?_
            refine lv_istore (lv' := [(6, .int 0), (5, .int (lou n kd sd a b cc)), (4, .int (mny a b cc)), (0, .ref x), (1, .int a), (2, .int b), (3, .int cc)]) hx hb dX7_tryThrees_101 hl (by decide) rfl (fun ls hl => ?_)
            refine lv_iload hx hb dX7_tryThrees_103 (lv_at hl 0 rfl) ?_
            refine lv_if_eq (tgt := 141) hx hb dX7_tryThrees_105 (by decide) (fun _ => ?_) (fun h => absurd (by decide) h)
            exact W.vret hx hb hr (fun t ht hW => ⟨⟨(bm, br, bv), rfl, by simp [ttZ, hbt], by rw [ht]; exact hP, va_K.moved hW.alike hK, hD⟩, hS.F ht⟩) hS.2.2 dX7_tryThrees_141
          · -- f65
            refine lv_iload hx hb dX7_tryThrees_68 (lv_at hl 0 rfl) ?_
            refine lv_aload_n hx hb dX7_tryThrees_70 rfl (lv_at hl 2 rfl) ?_
            refine va_get (D := D) (ci := 7) (v := .int br) (C := RX7) (T := TX7) (N := 28) hx hb hts iX7 hown hK hP 0 rfl rfl 24 (by decide) f186 (fun _ h9 => h9) rfl dX7_tryThrees_71 ?_
            refine lv_icmp_gt (tgt := 96) hx hb dX7_tryThrees_74 (by decide) (fun c74 => ?_) (fun c74 => ?_)
            · -- t74
              have hbt : ttB n kd sd (bm, br, bv) a b cc = true := by simp [ttB, c65, c74]
              refine lv_iconst (v := 1) hx hb dX7_tryThrees_96 (by decide) ?_
              refine lv_goto (tgt := 101) hx hb dX7_tryThrees_97 (by decide) ?_
              refine lv_istore (lv' := [(6, .int 1), (5, .int (lou n kd sd a b cc)), (4, .int (mny a b cc)), (0, .ref x), (1, .int a), (2, .int b), (3, .int cc)]) hx hb dX7_tryThrees_101 hl (by decide) rfl (fun ls hl => ?_)
              refine lv_iload hx hb dX7_tryThrees_103 (lv_at hl 0 rfl) ?_
              refine lv_if_eq (tgt := 141) hx hb dX7_tryThrees_105 (by decide) (fun h => absurd h (by decide)) (fun _ => ?_)
              refine lv_aload_n hx hb dX7_tryThrees_108 rfl (lv_at hl 3 rfl) ?_
              refine lv_iload hx hb dX7_tryThrees_109 (lv_at hl 2 rfl) ?_
              refine va_put (D := D) (ci := 7) (v := .int (mny a b cc)) (ty := .int) (C := RX7) (T := TX7) (N := 28) hx hb hts iX7 tyX7 tyX7_ok nmX7 hown hK hP hD hS 0 rfl rfl 23 (by decide) f183 (fun _ h9 => h9) rfl (by decide +kernel) rfl rfl (Nat.le_of_ble_eq_true rfl) dX7_tryThrees_111 (fun H locs hP hD hS => ?_)
              have hP : va_P D vwCl [(x, .inr (7, [.int fa, .int tr, .ref so, .ref sl, .ref ce, .int (nI n), .int bar, .int (nI tn), .ref ki, .ref si, .ref th, .ref ri, .int at_, .int rp, .ref rk, .ref rs, .ref kt, .ref kr, .int kn, .int rg, .ref ab, .int am, .ref bh, .int (mny a b cc), .int br, .int (nI rn), .ref wa, .ref ra])), (ki, .inl (cI, 9, .inl kd)), (si, .inl (cI, 9, .inl sd)), (bh, .inl (cI, 3, .inl bv))] H := hP
              have hD : va_D A [(x, .inr (7, [.int fa, .int tr, .ref so, .ref sl, .ref ce, .int (nI n), .int bar, .int (nI tn), .ref ki, .ref si, .ref th, .ref ri, .int at_, .int rp, .ref rk, .ref rs, .ref kt, .ref kr, .int kn, .int rg, .ref ab, .int am, .ref bh, .int (mny a b cc), .int br, .int (nI rn), .ref wa, .ref ra])), (ki, .inl (cI, 9, .inl kd)), (si, .inl (cI, 9, .inl sd)), (bh, .inl (cI, 3, .inl bv))] := hD
              refine lv_aload_n hx hb dX7_tryThrees_114 rfl (lv_at hl 3 rfl) ?_
              refine lv_iload hx hb dX7_tryThrees_115 (lv_at hl 1 rfl) ?_
              refine va_put (D := D) (ci := 7) (v := .int (lou n kd sd a b cc)) (ty := .int) (C := RX7) (T := TX7) (N := 28) hx hb hts iX7 tyX7 tyX7_ok nmX7 hown hK hP hD hS 0 rfl rfl 24 (by decide) f186 (fun _ h9 => h9) rfl (by decide +kernel) rfl rfl (Nat.le_of_ble_eq_true rfl) dX7_tryThrees_117 (fun H locs hP hD hS => ?_)
              have hP : va_P D vwCl [(x, .inr (7, [.int fa, .int tr, .ref so, .ref sl, .ref ce, .int (nI n), .int bar, .int (nI tn), .ref ki, .ref si, .ref th, .ref ri, .int at_, .int rp, .ref rk, .ref rs, .ref kt, .ref kr, .int kn, .int rg, .ref ab, .int am, .ref bh, .int (mny a b cc), .int (lou n kd sd a b cc), .int (nI rn), .ref wa, .ref ra])), (ki, .inl (cI, 9, .inl kd)), (si, .inl (cI, 9, .inl sd)), (bh, .inl (cI, 3, .inl bv))] H := hP
              have hD : va_D A [(x, .inr (7, [.int fa, .int tr, .ref so, .ref sl, .ref ce, .int (nI n), .int bar, .int (nI tn), .ref ki, .ref si, .ref th, .ref ri, .int at_, .int rp, .ref rk, .ref rs, .ref kt, .ref kr, .int kn, .int rg, .ref ab, .int am, .ref bh, .int (mny a b cc), .int (lou n kd sd a b cc), .int (nI rn), .ref wa, .ref ra])), (ki, .inl (cI, 9, .inl kd)), (si, .inl (cI, 9, .inl sd)), (bh, .inl (cI, 3, .inl bv))] := hD
              refine lv_aload_n hx hb dX7_tryThrees_120 rfl (lv_at hl 3 rfl) ?_
              refine va_get (D := D) (ci := 7) (v := .ref bh) (C := RX7) (T := TX7) (N := 28) hx hb hts iX7 hown hK hP 0 rfl rfl 22 (by decide) f46 (fun _ h9 => h9) rfl dX7_tryThrees_121 ?_
              refine lv_iconst (v := 0) hx hb dX7_tryThrees_124 (by decide) ?_
              refine lv_iload_n hx hb dX7_tryThrees_125 rfl (lv_at hl 4 rfl) ?_
              refine va_iast hx hb hK hP hD hS 3 0 rfl rfl (show vp_in (nI 0) _ from vp_in_nI (by decide) (by decide)) dX7_tryThrees_126 (fun H locs hP hD hS => ?_)
              rw [show (0 : Int32).toNatClampNeg = 0 from by decide] at hP hD
              have hP : va_P D vwCl [(x, .inr (7, [.int fa, .int tr, .ref so, .ref sl, .ref ce, .int (nI n), .int bar, .int (nI tn), .ref ki, .ref si, .ref th, .ref ri, .int at_, .int rp, .ref rk, .ref rs, .ref kt, .ref kr, .int kn, .int rg, .ref ab, .int am, .ref bh, .int (mny a b cc), .int (lou n kd sd a b cc), .int (nI rn), .ref wa, .ref ra])), (ki, .inl (cI, 9, .inl kd)), (si, .inl (cI, 9, .inl sd)), (bh, .inl (cI, 3, .inl (upd bv 0 a)))] H := hP
              have hD : va_D A [(x, .inr (7, [.int fa, .int tr, .ref so, .ref sl, .ref ce, .int (nI n), .int bar, .int (nI tn), .ref ki, .ref si, .ref th, .ref ri, .int at_, .int rp, .ref rk, .ref rs, .ref kt, .ref kr, .int kn, .int rg, .ref ab, .int am, .ref bh, .int (mny a b cc), .int (lou n kd sd a b cc), .int (nI rn), .ref wa, .ref ra])), (ki, .inl (cI, 9, .inl kd)), (si, .inl (cI, 9, .inl sd)), (bh, .inl (cI, 3, .inl (upd bv 0 a)))] := hD
              refine lv_aload_n hx hb dX7_tryThrees_127 rfl (lv_at hl 3 rfl) ?_
              refine va_get (D := D) (ci := 7) (v := .ref bh) (C := RX7) (T := TX7) (N := 28) hx hb hts iX7 hown hK hP 0 rfl rfl 22 (by decide) f46 (fun _ h9 => h9) rfl dX7_tryThrees_128 ?_
              refine lv_iconst (v := 1) hx hb dX7_tryThrees_131 (by decide) ?_
              refine lv_iload_n hx hb dX7_tryThrees_132 rfl (lv_at hl 5 rfl) ?_
              refine va_iast hx hb hK hP hD hS 3 0 rfl rfl (show vp_in (nI 1) _ from vp_in_nI (by decide) (by decide)) dX7_tryThrees_133 (fun H locs hP hD hS => ?_)
              rw [show (1 : Int32).toNatClampNeg = 1 from by decide] at hP hD
              have hP : va_P D vwCl [(x, .inr (7, [.int fa, .int tr, .ref so, .ref sl, .ref ce, .int (nI n), .int bar, .int (nI tn), .ref ki, .ref si, .ref th, .ref ri, .int at_, .int rp, .ref rk, .ref rs, .ref kt, .ref kr, .int kn, .int rg, .ref ab, .int am, .ref bh, .int (mny a b cc), .int (lou n kd sd a b cc), .int (nI rn), .ref wa, .ref ra])), (ki, .inl (cI, 9, .inl kd)), (si, .inl (cI, 9, .inl sd)), (bh, .inl (cI, 3, .inl (upd (upd bv 0 a) 1 b)))] H := hP
              have hD : va_D A [(x, .inr (7, [.int fa, .int tr, .ref so, .ref sl, .ref ce, .int (nI n), .int bar, .int (nI tn), .ref ki, .ref si, .ref th, .ref ri, .int at_, .int rp, .ref rk, .ref rs, .ref kt, .ref kr, .int kn, .int rg, .ref ab, .int am, .ref bh, .int (mny a b cc), .int (lou n kd sd a b cc), .int (nI rn), .ref wa, .ref ra])), (ki, .inl (cI, 9, .inl kd)), (si, .inl (cI, 9, .inl sd)), (bh, .inl (cI, 3, .inl (upd (upd bv 0 a) 1 b)))] := hD
              refine lv_aload_n hx hb dX7_tryThrees_134 rfl (lv_at hl 3 rfl) ?_
              refine va_get (D := D) (ci := 7) (v := .ref bh) (C := RX7) (T := TX7) (N := 28) hx hb hts iX7 hown hK hP 0 rfl rfl 22 (by decide) f46 (fun _ h9 => h9) rfl dX7_tryThrees_135 ?_
              refine lv_iconst (v := 2) hx hb dX7_tryThrees_138 (by decide) ?_
              refine lv_iload_n hx hb dX7_tryThrees_139 rfl (lv_at hl 6 rfl) ?_
              refine va_iast hx hb hK hP hD hS 3 0 rfl rfl (show vp_in (nI 2) _ from vp_in_nI (by decide) (by decide)) dX7_tryThrees_140 (fun H locs hP hD hS => ?_)
              rw [show (2 : Int32).toNatClampNeg = 2 from by decide] at hP hD
              have hP : va_P D vwCl [(x, .inr (7, [.int fa, .int tr, .ref so, .ref sl, .ref ce, .int (nI n), .int bar, .int (nI tn), .ref ki, .ref si, .ref th, .ref ri, .int at_, .int rp, .ref rk, .ref rs, .ref kt, .ref kr, .int kn, .int rg, .ref ab, .int am, .ref bh, .int (mny a b cc), .int (lou n kd sd a b cc), .int (nI rn), .ref wa, .ref ra])), (ki, .inl (cI, 9, .inl kd)), (si, .inl (cI, 9, .inl sd)), (bh, .inl (cI, 3, .inl (upd (upd (upd bv 0 a) 1 b) 2 cc)))] H := hP
              have hD : va_D A [(x, .inr (7, [.int fa, .int tr, .ref so, .ref sl, .ref ce, .int (nI n), .int bar, .int (nI tn), .ref ki, .ref si, .ref th, .ref ri, .int at_, .int rp, .ref rk, .ref rs, .ref kt, .ref kr, .int kn, .int rg, .ref ab, .int am, .ref bh, .int (mny a b cc), .int (lou n kd sd a b cc), .int (nI rn), .ref wa, .ref ra])), (ki, .inl (cI, 9, .inl kd)), (si, .inl (cI, 9, .inl sd)), (bh, .inl (cI, 3, .inl (upd (upd (upd bv 0 a) 1 b) 2 cc)))] := hD
              exact W.vret hx hb hr (fun t ht hW => ⟨⟨(mny a b cc, lou n kd sd a b cc, upd (upd (upd bv 0 a) 1 b) 2 cc), rfl, by simp [ttZ, hbt], by rw [ht]; exact hP, va_K.moved hW.alike hK, hD⟩, hS.F ht⟩) hS.2.2 dX7_tryThrees_141
            · -- f74
              refine lv_iload hx hb dX7_tryThrees_77 (lv_at hl 0 rfl) ?_
              refine lv_aload_n hx hb dX7_tryThrees_79 rfl (lv_at hl 2 rfl) ?_
              refine va_get (D := D) (ci := 7) (v := .int br) (C := RX7) (T := TX7) (N := 28) hx hb hts iX7 hown hK hP 0 rfl rfl 24 (by decide) f186 (fun _ h9 => h9) rfl dX7_tryThrees_80 ?_
              refine lv_icmp_ne (tgt := 100) hx hb dX7_tryThrees_83 (by decide) (fun c83 => ?_) (fun c83 => ?_)
              · -- t83
                have hbt : ttB n kd sd (bm, br, bv) a b cc = false := by unfold ttB; simp only [c56, c74, c83, decide_false, Bool.false_and, Bool.or_false, Bool.and_false]
                refine lv_iconst (v := 0) hx hb dX7_tryThrees_100 (by decide) ?_
                refine lv_istore (lv' := [(6, .int 0), (5, .int (lou n kd sd a b cc)), (4, .int (mny a b cc)), (0, .ref x), (1, .int a), (2, .int b), (3, .int cc)]) hx hb dX7_tryThrees_101 hl (by decide) rfl (fun ls hl => ?_)
                refine lv_iload hx hb dX7_tryThrees_103 (lv_at hl 0 rfl) ?_
                refine lv_if_eq (tgt := 141) hx hb dX7_tryThrees_105 (by decide) (fun _ => ?_) (fun h => absurd (by decide) h)
                exact W.vret hx hb hr (fun t ht hW => ⟨⟨(bm, br, bv), rfl, by simp [ttZ, hbt], by rw [ht]; exact hP, va_K.moved hW.alike hK, hD⟩, hS.F ht⟩) hS.2.2 dX7_tryThrees_141
              · -- f83
                refine lv_aload_n hx hb dX7_tryThrees_86 rfl (lv_at hl 2 rfl) ?_
                refine lv_iload_n hx hb dX7_tryThrees_87 rfl (lv_at hl 3 rfl) ?_
                refine lv_iload_n hx hb dX7_tryThrees_88 rfl (lv_at hl 4 rfl) ?_
                refine lv_iload_n hx hb dX7_tryThrees_89 rfl (lv_at hl 5 rfl) ?_
                have hPc := hP.sub (ws' := [(x, .inr (7, [.int fa, .int tr, .ref so, .ref sl, .ref ce, .int (nI n), .int bar, .int (nI tn), .ref ki, .ref si, .ref th, .ref ri, .int at_, .int rp, .ref rk, .ref rs, .ref kt, .ref kr, .int kn, .int rg, .ref ab, .int am, .ref bh, .int bm, .int br, .int (nI rn), .ref wa, .ref ra])), (bh, .inl (cI, 3, .inl bv))]) [0, 3] rfl
                refine vp_callSi (va_Run.run (va_runV (As := [.int a, .int b, .int cc]) (rest := []) ⟨hx, hb, hml, hown, hts⟩ (c_X7_isAhead l D cI cO x fa tr so sl ce n bar tn ki si th ri at_ rp rk rs kt kr kn rg ab am bh bm br rn wa ra bv a b cc (by assumption)) (cwV 3 hts gX7_tryThrees_X7_isAhead rfl rfl rfl (by decide +kernel) ⟨Nat.le_of_ble_eq_true rfl, Nat.le_of_ble_eq_true rfl⟩) (preVR hPc hK hNw (va_recv hK hPc (ci := 7) (q0 := 0) rfl rfl)) rfl rfl hl.1 rfl (lv_room (Nat.le_of_ble_eq_true rfl)) dX7_tryThrees_90 ⟨Nat.zero_le _, Nat.zero_le _⟩)) (fun r90 w90 => ?_)
                by_cases b90 : ahW a b cc (bv 0) (bv 1) (bv 2) n 0 = true
                · -- y90
                  obtain rfl := w90.1 b90
                  have hbt : ttB n kd sd (bm, br, bv) a b cc = true := by simp [ttB, c65, c83, b90]
                  refine lv_if_eq (tgt := 100) hx hb dX7_tryThrees_93 (by decide) (fun h => absurd h (by decide)) (fun _ => ?_)
                  refine lv_iconst (v := 1) hx hb dX7_tryThrees_96 (by decide) ?_
                  refine lv_goto (tgt := 101) hx hb dX7_tryThrees_97 (by decide) ?_
                  refine lv_istore (lv' := [(6, .int 1), (5, .int (lou n kd sd a b cc)), (4, .int (mny a b cc)), (0, .ref x), (1, .int a), (2, .int b), (3, .int cc)]) hx hb dX7_tryThrees_101 hl (by decide) rfl (fun ls hl => ?_)
                  refine lv_iload hx hb dX7_tryThrees_103 (lv_at hl 0 rfl) ?_
                  refine lv_if_eq (tgt := 141) hx hb dX7_tryThrees_105 (by decide) (fun h => absurd h (by decide)) (fun _ => ?_)
                  refine lv_aload_n hx hb dX7_tryThrees_108 rfl (lv_at hl 3 rfl) ?_
                  refine lv_iload hx hb dX7_tryThrees_109 (lv_at hl 2 rfl) ?_
                  refine va_put (D := D) (ci := 7) (v := .int (mny a b cc)) (ty := .int) (C := RX7) (T := TX7) (N := 28) hx hb hts iX7 tyX7 tyX7_ok nmX7 hown hK hP hD hS 0 rfl rfl 23 (by decide) f183 (fun _ h9 => h9) rfl (by decide +kernel) rfl rfl (Nat.le_of_ble_eq_true rfl) dX7_tryThrees_111 (fun H locs hP hD hS => ?_)
                  have hP : va_P D vwCl [(x, .inr (7, [.int fa, .int tr, .ref so, .ref sl, .ref ce, .int (nI n), .int bar, .int (nI tn), .ref ki, .ref si, .ref th, .ref ri, .int at_, .int rp, .ref rk, .ref rs, .ref kt, .ref kr, .int kn, .int rg, .ref ab, .int am, .ref bh, .int (mny a b cc), .int br, .int (nI rn), .ref wa, .ref ra])), (ki, .inl (cI, 9, .inl kd)), (si, .inl (cI, 9, .inl sd)), (bh, .inl (cI, 3, .inl bv))] H := hP
                  have hD : va_D A [(x, .inr (7, [.int fa, .int tr, .ref so, .ref sl, .ref ce, .int (nI n), .int bar, .int (nI tn), .ref ki, .ref si, .ref th, .ref ri, .int at_, .int rp, .ref rk, .ref rs, .ref kt, .ref kr, .int kn, .int rg, .ref ab, .int am, .ref bh, .int (mny a b cc), .int br, .int (nI rn), .ref wa, .ref ra])), (ki, .inl (cI, 9, .inl kd)), (si, .inl (cI, 9, .inl sd)), (bh, .inl (cI, 3, .inl bv))] := hD
                  refine lv_aload_n hx hb dX7_tryThrees_114 rfl (lv_at hl 3 rfl) ?_
                  refine lv_iload hx hb dX7_tryThrees_115 (lv_at hl 1 rfl) ?_
                  refine va_put (D := D) (ci := 7) (v := .int (lou n kd sd a b cc)) (ty := .int) (C := RX7) (T := TX7) (N := 28) hx hb hts iX7 tyX7 tyX7_ok nmX7 hown hK hP hD hS 0 rfl rfl 24 (by decide) f186 (fun _ h9 => h9) rfl (by decide +kernel) rfl rfl (Nat.le_of_ble_eq_true rfl) dX7_tryThrees_117 (fun H locs hP hD hS => ?_)
                  have hP : va_P D vwCl [(x, .inr (7, [.int fa, .int tr, .ref so, .ref sl, .ref ce, .int (nI n), .int bar, .int (nI tn), .ref ki, .ref si, .ref th, .ref ri, .int at_, .int rp, .ref rk, .ref rs, .ref kt, .ref kr, .int kn, .int rg, .ref ab, .int am, .ref bh, .int (mny a b cc), .int (lou n kd sd a b cc), .int (nI rn), .ref wa, .ref ra])), (ki, .inl (cI, 9, .inl kd)), (si, .inl (cI, 9, .inl sd)), (bh, .inl (cI, 3, .inl bv))] H := hP
                  have hD : va_D A [(x, .inr (7, [.int fa, .int tr, .ref so, .ref sl, .ref ce, .int (nI n), .int bar, .int (nI tn), .ref ki, .ref si, .ref th, .ref ri, .int at_, .int rp, .ref rk, .ref rs, .ref kt, .ref kr, .int kn, .int rg, .ref ab, .int am, .ref bh, .int (mny a b cc), .int (lou n kd sd a b cc), .int (nI rn), .ref wa, .ref ra])), (ki, .inl (cI, 9, .inl kd)), (si, .inl (cI, 9, .inl sd)), (bh, .inl (cI, 3, .inl bv))] := hD
                  refine lv_aload_n hx hb dX7_tryThrees_120 rfl (lv_at hl 3 rfl) ?_
                  refine va_get (D := D) (ci := 7) (v := .ref bh) (C := RX7) (T := TX7) (N := 28) hx hb hts iX7 hown hK hP 0 rfl rfl 22 (by decide) f46 (fun _ h9 => h9) rfl dX7_tryThrees_121 ?_
                  refine lv_iconst (v := 0) hx hb dX7_tryThrees_124 (by decide) ?_
                  refine lv_iload_n hx hb dX7_tryThrees_125 rfl (lv_at hl 4 rfl) ?_
                  refine va_iast hx hb hK hP hD hS 3 0 rfl rfl (show vp_in (nI 0) _ from vp_in_nI (by decide) (by decide)) dX7_tryThrees_126 (fun H locs hP hD hS => ?_)
                  rw [show (0 : Int32).toNatClampNeg = 0 from by decide] at hP hD
                  have hP : va_P D vwCl [(x, .inr (7, [.int fa, .int tr, .ref so, .ref sl, .ref ce, .int (nI n), .int bar, .int (nI tn), .ref ki, .ref si, .ref th, .ref ri, .int at_, .int rp, .ref rk, .ref rs, .ref kt, .ref kr, .int kn, .int rg, .ref ab, .int am, .ref bh, .int (mny a b cc), .int (lou n kd sd a b cc), .int (nI rn), .ref wa, .ref ra])), (ki, .inl (cI, 9, .inl kd)), (si, .inl (cI, 9, .inl sd)), (bh, .inl (cI, 3, .inl (upd bv 0 a)))] H := hP
                  have hD : va_D A [(x, .inr (7, [.int fa, .int tr, .ref so, .ref sl, .ref ce, .int (nI n), .int bar, .int (nI tn), .ref ki, .ref si, .ref th, .ref ri, .int at_, .int rp, .ref rk, .ref rs, .ref kt, .ref kr, .int kn, .int rg, .ref ab, .int am, .ref bh, .int (mny a b cc), .int (lou n kd sd a b cc), .int (nI rn), .ref wa, .ref ra])), (ki, .inl (cI, 9, .inl kd)), (si, .inl (cI, 9, .inl sd)), (bh, .inl (cI, 3, .inl (upd bv 0 a)))] := hD
                  refine lv_aload_n hx hb dX7_tryThrees_127 rfl (lv_at hl 3 rfl) ?_
                  refine va_get (D := D) (ci := 7) (v := .ref bh) (C := RX7) (T := TX7) (N := 28) hx hb hts iX7 hown hK hP 0 rfl rfl 22 (by decide) f46 (fun _ h9 => h9) rfl dX7_tryThrees_128 ?_
                  refine lv_iconst (v := 1) hx hb dX7_tryThrees_131 (by decide) ?_
                  refine lv_iload_n hx hb dX7_tryThrees_132 rfl (lv_at hl 5 rfl) ?_
                  refine va_iast hx hb hK hP hD hS 3 0 rfl rfl (show vp_in (nI 1) _ from vp_in_nI (by decide) (by decide)) dX7_tryThrees_133 (fun H locs hP hD hS => ?_)
                  rw [show (1 : Int32).toNatClampNeg = 1 from by decide] at hP hD
                  have hP : va_P D vwCl [(x, .inr (7, [.int fa, .int tr, .ref so, .ref sl, .ref ce, .int (nI n), .int bar, .int (nI tn), .ref ki, .ref si, .ref th, .ref ri, .int at_, .int rp, .ref rk, .ref rs, .ref kt, .ref kr, .int kn, .int rg, .ref ab, .int am, .ref bh, .int (mny a b cc), .int (lou n kd sd a b cc), .int (nI rn), .ref wa, .ref ra])), (ki, .inl (cI, 9, .inl kd)), (si, .inl (cI, 9, .inl sd)), (bh, .inl (cI, 3, .inl (upd (upd bv 0 a) 1 b)))] H := hP
                  have hD : va_D A [(x, .inr (7, [.int fa, .int tr, .ref so, .ref sl, .ref ce, .int (nI n), .int bar, .int (nI tn), .ref ki, .ref si, .ref th, .ref ri, .int at_, .int rp, .ref rk, .ref rs, .ref kt, .ref kr, .int kn, .int rg, .ref ab, .int am, .ref bh, .int (mny a b cc), .int (lou n kd sd a b cc), .int (nI rn), .ref wa, .ref ra])), (ki, .inl (cI, 9, .inl kd)), (si, .inl (cI, 9, .inl sd)), (bh, .inl (cI, 3, .inl (upd (upd bv 0 a) 1 b)))] := hD
                  refine lv_aload_n hx hb dX7_tryThrees_134 rfl (lv_at hl 3 rfl) ?_
                  refine va_get (D := D) (ci := 7) (v := .ref bh) (C := RX7) (T := TX7) (N := 28) hx hb hts iX7 hown hK hP 0 rfl rfl 22 (by decide) f46 (fun _ h9 => h9) rfl dX7_tryThrees_135 ?_
                  refine lv_iconst (v := 2) hx hb dX7_tryThrees_138 (by decide) ?_
                  refine lv_iload_n hx hb dX7_tryThrees_139 rfl (lv_at hl 6 rfl) ?_
                  refine va_iast hx hb hK hP hD hS 3 0 rfl rfl (show vp_in (nI 2) _ from vp_in_nI (by decide) (by decide)) dX7_tryThrees_140 (fun H locs hP hD hS => ?_)
                  rw [show (2 : Int32).toNatClampNeg = 2 from by decide] at hP hD
                  have hP : va_P D vwCl [(x, .inr (7, [.int fa, .int tr, .ref so, .ref sl, .ref ce, .int (nI n), .int bar, .int (nI tn), .ref ki, .ref si, .ref th, .ref ri, .int at_, .int rp, .ref rk, .ref rs, .ref kt, .ref kr, .int kn, .int rg, .ref ab, .int am, .ref bh, .int (mny a b cc), .int (lou n kd sd a b cc), .int (nI rn), .ref wa, .ref ra])), (ki, .inl (cI, 9, .inl kd)), (si, .inl (cI, 9, .inl sd)), (bh, .inl (cI, 3, .inl (upd (upd (upd bv 0 a) 1 b) 2 cc)))] H := hP
                  have hD : va_D A [(x, .inr (7, [.int fa, .int tr, .ref so, .ref sl, .ref ce, .int (nI n), .int bar, .int (nI tn), .ref ki, .ref si, .ref th, .ref ri, .int at_, .int rp, .ref rk, .ref rs, .ref kt, .ref kr, .int kn, .int rg, .ref ab, .int am, .ref bh, .int (mny a b cc), .int (lou n kd sd a b cc), .int (nI rn), .ref wa, .ref ra])), (ki, .inl (cI, 9, .inl kd)), (si, .inl (cI, 9, .inl sd)), (bh, .inl (cI, 3, .inl (upd (upd (upd bv 0 a) 1 b) 2 cc)))] := hD
                  exact W.vret hx hb hr (fun t ht hW => ⟨⟨(mny a b cc, lou n kd sd a b cc, upd (upd (upd bv 0 a) 1 b) 2 cc), rfl, by simp [ttZ, hbt], by rw [ht]; exact hP, va_K.moved hW.alike hK, hD⟩, hS.F ht⟩) hS.2.2 dX7_tryThrees_141
                · -- n90
                  obtain rfl := w90.2 b90
                  have hbt : ttB n kd sd (bm, br, bv) a b cc = false := by rw [Bool.not_eq_true] at b90; unfold ttB; simp only [c56, c74, b90, decide_false, Bool.or_false, Bool.and_false]
                  refine lv_if_eq (tgt := 100) hx hb dX7_tryThrees_93 (by decide) (fun _ => ?_) (fun h => absurd (by decide) h)
                  refine lv_iconst (v := 0) hx hb dX7_tryThrees_100 (by decide) ?_
                  refine lv_istore (lv' := [(6, .int 0), (5, .int (lou n kd sd a b cc)), (4, .int (mny a b cc)), (0, .ref x), (1, .int a), (2, .int b), (3, .int cc)]) hx hb dX7_tryThrees_101 hl (by decide) rfl (fun ls hl => ?_)
                  refine lv_iload hx hb dX7_tryThrees_103 (lv_at hl 0 rfl) ?_
                  refine lv_if_eq (tgt := 141) hx hb dX7_tryThrees_105 (by decide) (fun _ => ?_) (fun h => absurd (by decide) h)
                  exact W.vret hx hb hr (fun t ht hW => ⟨⟨(bm, br, bv), rfl, by simp [ttZ, hbt], by rw [ht]; exact hP, va_K.moved hW.alike hK, hD⟩, hS.F ht⟩) hS.2.2 dX7_tryThrees_141
    · -- f10
      refine lv_iconst (v := 0) hx hb dX7_tryThrees_13 (by decide) ?_
      refine lv_goto (tgt := 18) hx hb dX7_tryThrees_14 (by decide) ?_
      refine tp_i (y := one0 b) (by simp [one0, c10]) ?_
      refine lv_iadd hx hb dX7_tryThrees_18 ?_
      refine lv_iload_n hx hb dX7_tryThrees_19 rfl (lv_at hl 3 rfl) ?_
      refine lv_if_ne (tgt := 27) hx hb dX7_tryThrees_20 (by decide) (fun c20 => ?_) (fun c20 => ?_)
      · -- t20
        refine lv_iconst (v := 1) hx hb dX7_tryThrees_27 (by decide) ?_
        refine tp_i (y := one0 cc) (by simp [one0, c20]) ?_
        refine lv_iadd hx hb dX7_tryThrees_28 ?_
        refine tp_i (y := mny a b cc) (rfl) ?_
        refine lv_istore (lv' := [(4, .int (mny a b cc)), (0, .ref x), (1, .int a), (2, .int b), (3, .int cc)]) hx hb dX7_tryThrees_29 hl (by decide) rfl (fun ls hl => ?_)
        refine lv_aload_n hx hb dX7_tryThrees_31 rfl (lv_at hl 1 rfl) ?_
        refine lv_iload_n hx hb dX7_tryThrees_32 rfl (lv_at hl 2 rfl) ?_
        have hPc := hP.sub (ws' := [(x, .inr (7, [.int fa, .int tr, .ref so, .ref sl, .ref ce, .int (nI n), .int bar, .int (nI tn), .ref ki, .ref si, .ref th, .ref ri, .int at_, .int rp, .ref rk, .ref rs, .ref kt, .ref kr, .int kn, .int rg, .ref ab, .int am, .ref bh, .int bm, .int br, .int (nI rn), .ref wa, .ref ra])), (ki, .inl (cI, 9, .inl kd)), (si, .inl (cI, 9, .inl sd))]) [0, 1, 2] rfl
        refine vp_callSi (va_Run.run (va_runV (As := [.int a]) (rest := []) ⟨hx, hb, hml, hown, hts⟩ (c_X7_ringsOf l D cI cO x fa tr so sl ce n bar tn ki si th ri at_ rp rk rs kt kr kn rg ab am bh bm br rn wa ra kd sd a (by assumption) (by assumption)) (cwV 1 hts gX7_tryThrees_X7_ringsOf rfl rfl rfl (by decide +kernel) ⟨Nat.le_of_ble_eq_true rfl, Nat.le_of_ble_eq_true rfl⟩) (preVR hPc hK hNw (va_recv hK hPc (ci := 7) (q0 := 0) rfl rfl)) rfl rfl hl.1 rfl (lv_room (Nat.le_of_ble_eq_true rfl)) dX7_tryThrees_33 ⟨Nat.zero_le _, Nat.zero_le _⟩)) (fun r33 w33 => ?_)
        obtain rfl := w33
        refine lv_aload_n hx hb dX7_tryThrees_36 rfl (lv_at hl 1 rfl) ?_
        refine lv_iload_n hx hb dX7_tryThrees_37 rfl (lv_at hl 3 rfl) ?_
        have hPc := hP.sub (ws' := [(x, .inr (7, [.int fa, .int tr, .ref so, .ref sl, .ref ce, .int (nI n), .int bar, .int (nI tn), .ref ki, .ref si, .ref th, .ref ri, .int at_, .int rp, .ref rk, .ref rs, .ref kt, .ref kr, .int kn, .int rg, .ref ab, .int am, .ref bh, .int bm, .int br, .int (nI rn), .ref wa, .ref ra])), (ki, .inl (cI, 9, .inl kd)), (si, .inl (cI, 9, .inl sd))]) [0, 1, 2] rfl
        refine vp_callSi (va_Run.run (va_runV (As := [.int b]) (rest := [.int (sumW (rgF kd sd) a n)]) ⟨hx, hb, hml, hown, hts⟩ (c_X7_ringsOf l D cI cO x fa tr so sl ce n bar tn ki si th ri at_ rp rk rs kt kr kn rg ab am bh bm br rn wa ra kd sd b (by assumption) (by assumption)) (cwV 1 hts gX7_tryThrees_X7_ringsOf rfl rfl rfl (by decide +kernel) ⟨Nat.le_of_ble_eq_true rfl, Nat.le_of_ble_eq_true rfl⟩) (preVR hPc hK hNw (va_recv hK hPc (ci := 7) (q0 := 0) rfl rfl)) rfl rfl hl.1 rfl (lv_room (Nat.le_of_ble_eq_true rfl)) dX7_tryThrees_38 ⟨Nat.zero_le _, Nat.zero_le _⟩)) (fun r38 w38 => ?_)
        obtain rfl := w38
        refine lv_iadd hx hb dX7_tryThrees_41 ?_
        refine lv_aload_n hx hb dX7_tryThrees_42 rfl (lv_at hl 1 rfl) ?_
        refine lv_iload_n hx hb dX7_tryThrees_43 rfl (lv_at hl 4 rfl) ?_
        have hPc := hP.sub (ws' := [(x, .inr (7, [.int fa, .int tr, .ref so, .ref sl, .ref ce, .int (nI n), .int bar, .int (nI tn), .ref ki, .ref si, .ref th, .ref ri, .int at_, .int rp, .ref rk, .ref rs, .ref kt, .ref kr, .int kn, .int rg, .ref ab, .int am, .ref bh, .int bm, .int br, .int (nI rn), .ref wa, .ref ra])), (ki, .inl (cI, 9, .inl kd)), (si, .inl (cI, 9, .inl sd))]) [0, 1, 2] rfl
        refine vp_callSi (va_Run.run (va_runV (As := [.int cc]) (rest := [.int ((sumW (rgF kd sd) a n) + (sumW (rgF kd sd) b n))]) ⟨hx, hb, hml, hown, hts⟩ (c_X7_ringsOf l D cI cO x fa tr so sl ce n bar tn ki si th ri at_ rp rk rs kt kr kn rg ab am bh bm br rn wa ra kd sd cc (by assumption) (by assumption)) (cwV 1 hts gX7_tryThrees_X7_ringsOf rfl rfl rfl (by decide +kernel) ⟨Nat.le_of_ble_eq_true rfl, Nat.le_of_ble_eq_true rfl⟩) (preVR hPc hK hNw (va_recv hK hPc (ci := 7) (q0 := 0) rfl rfl)) rfl rfl hl.1 rfl (lv_room (Nat.le_of_ble_eq_true rfl)) dX7_tryThrees_44 ⟨Nat.zero_le _, Nat.zero_le _⟩)) (fun r44 w44 => ?_)
        obtain rfl := w44
        refine lv_iadd hx hb dX7_tryThrees_47 ?_
        refine tp_i (y := lou n kd sd a b cc) (rfl) ?_
        refine lv_istore (lv' := [(5, .int (lou n kd sd a b cc)), (4, .int (mny a b cc)), (0, .ref x), (1, .int a), (2, .int b), (3, .int cc)]) hx hb dX7_tryThrees_48 hl (by decide) rfl (fun ls hl => ?_)
        refine lv_iload hx hb dX7_tryThrees_50 (lv_at hl 1 rfl) ?_
        refine lv_aload_n hx hb dX7_tryThrees_52 rfl (lv_at hl 2 rfl) ?_
        refine va_get (D := D) (ci := 7) (v := .int bm) (C := RX7) (T := TX7) (N := 28) hx hb hts iX7 hown hK hP 0 rfl rfl 23 (by decide) f183 (fun _ h9 => h9) rfl dX7_tryThrees_53 ?_
        refine lv_icmp_gt (tgt := 96) hx hb dX7_tryThrees_56 (by decide) (fun c56 => ?_) (fun c56 => ?_)
        · -- t56
          have hbt : ttB n kd sd (bm, br, bv) a b cc = true := by simp [ttB, c56]
          refine lv_iconst (v := 1) hx hb dX7_tryThrees_96 (by decide) ?_
          refine lv_goto (tgt := 101) hx hb dX7_tryThrees_97 (by decide) ?_
          refine lv_istore (lv' := [(6, .int 1), (5, .int (lou n kd sd a b cc)), (4, .int (mny a b cc)), (0, .ref x), (1, .int a), (2, .int b), (3, .int cc)]) hx hb dX7_tryThrees_101 hl (by decide) rfl (fun ls hl => ?_)
          refine lv_iload hx hb dX7_tryThrees_103 (lv_at hl 0 rfl) ?_
          refine lv_if_eq (tgt := 141) hx hb dX7_tryThrees_105 (by decide) (fun h => absurd h (by decide)) (fun _ => ?_)
          refine lv_aload_n hx hb dX7_tryThrees_108 rfl (lv_at hl 3 rfl) ?_
          refine lv_iload hx hb dX7_tryThrees_109 (lv_at hl 2 rfl) ?_
          refine va_put (D := D) (ci := 7) (v := .int (mny a b cc)) (ty := .int) (C := RX7) (T := TX7) (N := 28) hx hb hts iX7 tyX7 tyX7_ok nmX7 hown hK hP hD hS 0 rfl rfl 23 (by decide) f183 (fun _ h9 => h9) rfl (by decide +kernel) rfl rfl (Nat.le_of_ble_eq_true rfl) dX7_tryThrees_111 (fun H locs hP hD hS => ?_)
          have hP : va_P D vwCl [(x, .inr (7, [.int fa, .int tr, .ref so, .ref sl, .ref ce, .int (nI n), .int bar, .int (nI tn), .ref ki, .ref si, .ref th, .ref ri, .int at_, .int rp, .ref rk, .ref rs, .ref kt, .ref kr, .int kn, .int rg, .ref ab, .int am, .ref bh, .int (mny a b cc), .int br, .int (nI rn), .ref wa, .ref ra])), (ki, .inl (cI, 9, .inl kd)), (si, .inl (cI, 9, .inl sd)), (bh, .inl (cI, 3, .inl bv))] H := hP
          have hD : va_D A [(x, .inr (7, [.int fa, .int tr, .ref so, .ref sl, .ref ce, .int (nI n), .int bar, .int (nI tn), .ref ki, .ref si, .ref th, .ref ri, .int at_, .int rp, .ref rk, .ref rs, .ref kt, .ref kr, .int kn, .int rg, .ref ab, .int am, .ref bh, .int (mny a b cc), .int br, .int (nI rn), .ref wa, .ref ra])), (ki, .inl (cI, 9, .inl kd)), (si, .inl (cI, 9, .inl sd)), (bh, .inl (cI, 3, .inl bv))] := hD
          refine lv_aload_n hx hb dX7_tryThrees_114 rfl (lv_at hl 3 rfl) ?_
          refine lv_iload hx hb dX7_tryThrees_115 (lv_at hl 1 rfl) ?_
          refine va_put (D := D) (ci := 7) (v := .int (lou n kd sd a b cc)) (ty := .int) (C := RX7) (T := TX7) (N := 28) hx hb hts iX7 tyX7 tyX7_ok nmX7 hown hK hP hD hS 0 rfl rfl 24 (by decide) f186 (fun _ h9 => h9) rfl (by decide +kernel) rfl rfl (Nat.le_of_ble_eq_true rfl) dX7_tryThrees_117 (fun H locs hP hD hS => ?_)
          have hP : va_P D vwCl [(x, .inr (7, [.int fa, .int tr, .ref so, .ref sl, .ref ce, .int (nI n), .int bar, .int (nI tn), .ref ki, .ref si, .ref th, .ref ri, .int at_, .int rp, .ref rk, .ref rs, .ref kt, .ref kr, .int kn, .int rg, .ref ab, .int am, .ref bh, .int (mny a b cc), .int (lou n kd sd a b cc), .int (nI rn), .ref wa, .ref ra])), (ki, .inl (cI, 9, .inl kd)), (si, .inl (cI, 9, .inl sd)), (bh, .inl (cI, 3, .inl bv))] H := hP
          have hD : va_D A [(x, .inr (7, [.int fa, .int tr, .ref so, .ref sl, .ref ce, .int (nI n), .int bar, .int (nI tn), .ref ki, .ref si, .ref th, .ref ri, .int at_, .int rp, .ref rk, .ref rs, .ref kt, .ref kr, .int kn, .int rg, .ref ab, .int am, .ref bh, .int (mny a b cc), .int (lou n kd sd a b cc), .int (nI rn), .ref wa, .ref ra])), (ki, .inl (cI, 9, .inl kd)), (si, .inl (cI, 9, .inl sd)), (bh, .inl (cI, 3, .inl bv))] := hD
          refine lv_aload_n hx hb dX7_tryThrees_120 rfl (lv_at hl 3 rfl) ?_
          refine va_get (D := D) (ci := 7) (v := .ref bh) (C := RX7) (T := TX7) (N := 28) hx hb hts iX7 hown hK hP 0 rfl rfl 22 (by decide) f46 (fun _ h9 => h9) rfl dX7_tryThrees_121 ?_
          refine lv_iconst (v := 0) hx hb dX7_tryThrees_124 (by decide) ?_
          refine lv_iload_n hx hb dX7_tryThrees_125 rfl (lv_at hl 4 rfl) ?_
          refine va_iast hx hb hK hP hD hS 3 0 rfl rfl (show vp_in (nI 0) _ from vp_in_nI (by decide) (by decide)) dX7_tryThrees_126 (fun H locs hP hD hS => ?_)
          rw [show (0 : Int32).toNatClampNeg = 0 from by decide] at hP hD
          have hP : va_P D vwCl [(x, .inr (7, [.int fa, .int tr, .ref so, .ref sl, .ref ce, .int (nI n), .int bar, .int (nI tn), .ref ki, .ref si, .ref th, .ref ri, .int at_, .int rp, .ref rk, .ref rs, .ref kt, .ref kr, .int kn, .int rg, .ref ab, .int am, .ref bh, .int (mny a b cc), .int (lou n kd sd a b cc), .int (nI rn), .ref wa, .ref ra])), (ki, .inl (cI, 9, .inl kd)), (si, .inl (cI, 9, .inl sd)), (bh, .inl (cI, 3, .inl (upd bv 0 a)))] H := hP
          have hD : va_D A [(x, .inr (7, [.int fa, .int tr, .ref so, .ref sl, .ref ce, .int (nI n), .int bar, .int (nI tn), .ref ki, .ref si, .ref th, .ref ri, .int at_, .int rp, .ref rk, .ref rs, .ref kt, .ref kr, .int kn, .int rg, .ref ab, .int am, .ref bh, .int (mny a b cc), .int (lou n kd sd a b cc), .int (nI rn), .ref wa, .ref ra])), (ki, .inl (cI, 9, .inl kd)), (si, .inl (cI, 9, .inl sd)), (bh, .inl (cI, 3, .inl (upd bv 0 a)))] := hD
          refine lv_aload_n hx hb dX7_tryThrees_127 rfl (lv_at hl 3 rfl) ?_
          refine va_get (D := D) (ci := 7) (v := .ref bh) (C := RX7) (T := TX7) (N := 28) hx hb hts iX7 hown hK hP 0 rfl rfl 22 (by decide) f46 (fun _ h9 => h9) rfl dX7_tryThrees_128 ?_
          refine lv_iconst (v := 1) hx hb dX7_tryThrees_131 (by decide) ?_
          refine lv_iload_n hx hb dX7_tryThrees_132 rfl (lv_at hl 5 rfl) ?_
          refine va_iast hx hb hK hP hD hS 3 0 rfl rfl (show vp_in (nI 1) _ from vp_in_nI (by decide) (by decide)) dX7_tryThrees_133 (fun H locs hP hD hS => ?_)
          rw [show (1 : Int32).toNatClampNeg = 1 from by decide] at hP hD
          have hP : va_P D vwCl [(x, .inr (7, [.int fa, .int tr, .ref so, .ref sl, .ref ce, .int (nI n), .int bar, .int (nI tn), .ref ki, .ref si, .ref th, .ref ri, .int at_, .int rp, .ref rk, .ref rs, .ref kt, .ref kr, .int kn, .int rg, .ref ab, .int am, .ref bh, .int (mny a b cc), .int (lou n kd sd a b cc), .int (nI rn), .ref wa, .ref ra])), (ki, .inl (cI, 9, .inl kd)), (si, .inl (cI, 9, .inl sd)), (bh, .inl (cI, 3, .inl (upd (upd bv 0 a) 1 b)))] H := hP
          have hD : va_D A [(x, .inr (7, [.int fa, .int tr, .ref so, .ref sl, .ref ce, .int (nI n), .int bar, .int (nI tn), .ref ki, .ref si, .ref th, .ref ri, .int at_, .int rp, .ref rk, .ref rs, .ref kt, .ref kr, .int kn, .int rg, .ref ab, .int am, .ref bh, .int (mny a b cc), .int (lou n kd sd a b cc), .int (nI rn), .ref wa, .ref ra])), (ki, .inl (cI, 9, .inl kd)), (si, .inl (cI, 9, .inl sd)), (bh, .inl (cI, 3, .inl (upd (upd bv 0 a) 1 b)))] := hD
          refine lv_aload_n hx hb dX7_tryThrees_134 rfl (lv_at hl 3 rfl) ?_
          refine va_get (D := D) (ci := 7) (v := .ref bh) (C := RX7) (T := TX7) (N := 28) hx hb hts iX7 hown hK hP 0 rfl rfl 22 (by decide) f46 (fun _ h9 => h9) rfl dX7_tryThrees_135 ?_
          refine lv_iconst (v := 2) hx hb dX7_tryThrees_138 (by decide) ?_
          refine lv_iload_n hx hb dX7_tryThrees_139 rfl (lv_at hl 6 rfl) ?_
          refine va_iast hx hb hK hP hD hS 3 0 rfl rfl (show vp_in (nI 2) _ from vp_in_nI (by decide) (by decide)) dX7_tryThrees_140 (fun H locs hP hD hS => ?_)
          rw [show (2 : Int32).toNatClampNeg = 2 from by decide] at hP hD
          have hP : va_P D vwCl [(x, .inr (7, [.int fa, .int tr, .ref so, .ref sl, .ref ce, .int (nI n), .int bar, .int (nI tn), .ref ki, .ref si, .ref th, .ref ri, .int at_, .int rp, .ref rk, .ref rs, .ref kt, .ref kr, .int kn, .int rg, .ref ab, .int am, .ref bh, .int (mny a b cc), .int (lou n kd sd a b cc), .int (nI rn), .ref wa, .ref ra])), (ki, .inl (cI, 9, .inl kd)), (si, .inl (cI, 9, .inl sd)), (bh, .inl (cI, 3, .inl (upd (upd (upd bv 0 a) 1 b) 2 cc)))] H := hP
          have hD : va_D A [(x, .inr (7, [.int fa, .int tr, .ref so, .ref sl, .ref ce, .int (nI n), .int bar, .int (nI tn), .ref ki, .ref si, .ref th, .ref ri, .int at_, .int rp, .ref rk, .ref rs, .ref kt, .ref kr, .int kn, .int rg, .ref ab, .int am, .ref bh, .int (mny a b cc), .int (lou n kd sd a b cc), .int (nI rn), .ref wa, .ref ra])), (ki, .inl (cI, 9, .inl kd)), (si, .inl (cI, 9, .inl sd)), (bh, .inl (cI, 3, .inl (upd (upd (upd bv 0 a) 1 b) 2 cc)))] := hD
          exact W.vret hx hb hr (fun t ht hW => ⟨⟨(mny a b cc, lou n kd sd a b cc, upd (upd (upd bv 0 a) 1 b) 2 cc), rfl, by simp [ttZ, hbt], by rw [ht]; exact hP, va_K.moved hW.alike hK, hD⟩, hS.F ht⟩) hS.2.2 dX7_tryThrees_141
        · -- f56
          refine lv_iload hx hb dX7_tryThrees_59 (lv_at hl 1 rfl) ?_
          refine lv_aload_n hx hb dX7_tryThrees_61 rfl (lv_at hl 2 rfl) ?_
          refine va_get (D := D) (ci := 7) (v := .int bm) (C := RX7) (T := TX7) (N := 28) hx hb hts iX7 hown hK hP 0 rfl rfl 23 (by decide) f183 (fun _ h9 => h9) rfl dX7_tryThrees_62 ?_
          refine lv_icmp_ne (tgt := 100) hx hb dX7_tryThrees_65 (by decide) (fun c65 => ?_) (fun c65 => ?_)
          · -- t65
            have hbt : ttB n kd sd (bm, br, bv) a b cc = false := by simp [ttB, c56, c65]
            refine lv_iconst (v := 0) hx hb dX7_tryThrees_100 (by decide) ?_
            refine lv_istore (lv' := [(6, .int 0), (5, .int (lou n kd sd a b cc)), (4, .int (mny a b cc)), (0, .ref x), (1, .int a), (2, .int b), (3, .int cc)]) hx hb dX7_tryThrees_101 hl (by decide) rfl (fun ls hl => ?_)
            refine lv_iload hx hb dX7_tryThrees_103 (lv_at hl 0 rfl) ?_
            refine lv_if_eq (tgt := 141) hx hb dX7_tryThrees_105 (by decide) (fun _ => ?_) (fun h => absurd (by decide) h)
            exact W.vret hx hb hr (fun t ht hW => ⟨⟨(bm, br, bv), rfl, by simp [ttZ, hbt], by rw [ht]; exact hP, va_K.moved hW.alike hK, hD⟩, hS.F ht⟩) hS.2.2 dX7_tryThrees_141
          · -- f65
            refine lv_iload hx hb dX7_tryThrees_68 (lv_at hl 0 rfl) ?_
            refine lv_aload_n hx hb dX7_tryThrees_70 rfl (lv_at hl 2 rfl) ?_
            refine va_get (D := D) (ci := 7) (v := .int br) (C := RX7) (T := TX7) (N := 28) hx hb hts iX7 hown hK hP 0 rfl rfl 24 (by decide) f186 (fun _ h9 => h9) rfl dX7_tryThrees_71 ?_
            refine lv_icmp_gt (tgt := 96) hx hb dX7_tryThrees_74 (by decide) (fun c74 => ?_) (fun c74 => ?_)
            · -- t74
              have hbt : ttB n kd sd (bm, br, bv) a b cc = true := by simp [ttB, c65, c74]
              refine lv_iconst (v := 1) hx hb dX7_tryThrees_96 (by decide) ?_
              refine lv_goto (tgt := 101) hx hb dX7_tryThrees_97 (by decide) ?_
              refine lv_istore (lv' := [(6, .int 1), (5, .int (lou n kd sd a b cc)), (4, .int (mny a b cc)), (0, .ref x), (1, .int a), (2, .int b), (3, .int cc)]) hx hb dX7_tryThrees_101 hl (by decide) rfl (fun ls hl => ?_)
              refine lv_iload hx hb dX7_tryThrees_103 (lv_at hl 0 rfl) ?_
              refine lv_if_eq (tgt := 141) hx hb dX7_tryThrees_105 (by decide) (fun h => absurd h (by decide)) (fun _ => ?_)
              refine lv_aload_n hx hb dX7_tryThrees_108 rfl (lv_at hl 3 rfl) ?_
              refine lv_iload hx hb dX7_tryThrees_109 (lv_at hl 2 rfl) ?_
              refine va_put (D := D) (ci := 7) (v := .int (mny a b cc)) (ty := .int) (C := RX7) (T := TX7) (N := 28) hx hb hts iX7 tyX7 tyX7_ok nmX7 hown hK hP hD hS 0 rfl rfl 23 (by decide) f183 (fun _ h9 => h9) rfl (by decide +kernel) rfl rfl (Nat.le_of_ble_eq_true rfl) dX7_tryThrees_111 (fun H locs hP hD hS => ?_)
              have hP : va_P D vwCl [(x, .inr (7, [.int fa, .int tr, .ref so, .ref sl, .ref ce, .int (nI n), .int bar, .int (nI tn), .ref ki, .ref si, .ref th, .ref ri, .int at_, .int rp, .ref rk, .ref rs, .ref kt, .ref kr, .int kn, .int rg, .ref ab, .int am, .ref bh, .int (mny a b cc), .int br, .int (nI rn), .ref wa, .ref ra])), (ki, .inl (cI, 9, .inl kd)), (si, .inl (cI, 9, .inl sd)), (bh, .inl (cI, 3, .inl bv))] H := hP
              have hD : va_D A [(x, .inr (7, [.int fa, .int tr, .ref so, .ref sl, .ref ce, .int (nI n), .int bar, .int (nI tn), .ref ki, .ref si, .ref th, .ref ri, .int at_, .int rp, .ref rk, .ref rs, .ref kt, .ref kr, .int kn, .int rg, .ref ab, .int am, .ref bh, .int (mny a b cc), .int br, .int (nI rn), .ref wa, .ref ra])), (ki, .inl (cI, 9, .inl kd)), (si, .inl (cI, 9, .inl sd)), (bh, .inl (cI, 3, .inl bv))] := hD
              refine lv_aload_n hx hb dX7_tryThrees_114 rfl (lv_at hl 3 rfl) ?_
              refine lv_iload hx hb dX7_tryThrees_115 (lv_at hl 1 rfl) ?_
              refine va_put (D := D) (ci := 7) (v := .int (lou n kd sd a b cc)) (ty := .int) (C := RX7) (T := TX7) (N := 28) hx hb hts iX7 tyX7 tyX7_ok nmX7 hown hK hP hD hS 0 rfl rfl 24 (by decide) f186 (fun _ h9 => h9) rfl (by decide +kernel) rfl rfl (Nat.le_of_ble_eq_true rfl) dX7_tryThrees_117 (fun H locs hP hD hS => ?_)
              have hP : va_P D vwCl [(x, .inr (7, [.int fa, .int tr, .ref so, .ref sl, .ref ce, .int (nI n), .int bar, .int (nI tn), .ref ki, .ref si, .ref th, .ref ri, .int at_, .int rp, .ref rk, .ref rs, .ref kt, .ref kr, .int kn, .int rg, .ref ab, .int am, .ref bh, .int (mny a b cc), .int (lou n kd sd a b cc), .int (nI rn), .ref wa, .ref ra])), (ki, .inl (cI, 9, .inl kd)), (si, .inl (cI, 9, .inl sd)), (bh, .inl (cI, 3, .inl bv))] H := hP
              have hD : va_D A [(x, .inr (7, [.int fa, .int tr, .ref so, .ref sl, .ref ce, .int (nI n), .int bar, .int (nI tn), .ref ki, .ref si, .ref th, .ref ri, .int at_, .int rp, .ref rk, .ref rs, .ref kt, .ref kr, .int kn, .int rg, .ref ab, .int am, .ref bh, .int (mny a b cc), .int (lou n kd sd a b cc), .int (nI rn), .ref wa, .ref ra])), (ki, .inl (cI, 9, .inl kd)), (si, .inl (cI, 9, .inl sd)), (bh, .inl (cI, 3, .inl bv))] := hD
              refine lv_aload_n hx hb dX7_tryThrees_120 rfl (lv_at hl 3 rfl) ?_
              refine va_get (D := D) (ci := 7) (v := .ref bh) (C := RX7) (T := TX7) (N := 28) hx hb hts iX7 hown hK hP 0 rfl rfl 22 (by decide) f46 (fun _ h9 => h9) rfl dX7_tryThrees_121 ?_
              refine lv_iconst (v := 0) hx hb dX7_tryThrees_124 (by decide) ?_
              refine lv_iload_n hx hb dX7_tryThrees_125 rfl (lv_at hl 4 rfl) ?_
              refine va_iast hx hb hK hP hD hS 3 0 rfl rfl (show vp_in (nI 0) _ from vp_in_nI (by decide) (by decide)) dX7_tryThrees_126 (fun H locs hP hD hS => ?_)
              rw [show (0 : Int32).toNatClampNeg = 0 from by decide] at hP hD
              have hP : va_P D vwCl [(x, .inr (7, [.int fa, .int tr, .ref so, .ref sl, .ref ce, .int (nI n), .int bar, .int (nI tn), .ref ki, .ref si, .ref th, .ref ri, .int at_, .int rp, .ref rk, .ref rs, .ref kt, .ref kr, .int kn, .int rg, .ref ab, .int am, .ref bh, .int (mny a b cc), .int (lou n kd sd a b cc), .int (nI rn), .ref wa, .ref ra])), (ki, .inl (cI, 9, .inl kd)), (si, .inl (cI, 9, .inl sd)), (bh, .inl (cI, 3, .inl (upd bv 0 a)))] H := hP
              have hD : va_D A [(x, .inr (7, [.int fa, .int tr, .ref so, .ref sl, .ref ce, .int (nI n), .int bar, .int (nI tn), .ref ki, .ref si, .ref th, .ref ri, .int at_, .int rp, .ref rk, .ref rs, .ref kt, .ref kr, .int kn, .int rg, .ref ab, .int am, .ref bh, .int (mny a b cc), .int (lou n kd sd a b cc), .int (nI rn), .ref wa, .ref ra])), (ki, .inl (cI, 9, .inl kd)), (si, .inl (cI, 9, .inl sd)), (bh, .inl (cI, 3, .inl (upd bv 0 a)))] := hD
              refine lv_aload_n hx hb dX7_tryThrees_127 rfl (lv_at hl 3 rfl) ?_
              refine va_get (D := D) (ci := 7) (v := .ref bh) (C := RX7) (T := TX7) (N := 28) hx hb hts iX7 hown hK hP 0 rfl rfl 22 (by decide) f46 (fun _ h9 => h9) rfl dX7_tryThrees_128 ?_
              refine lv_iconst (v := 1) hx hb dX7_tryThrees_131 (by decide) ?_
              refine lv_iload_n hx hb dX7_tryThrees_132 rfl (lv_at hl 5 rfl) ?_
              refine va_iast hx hb hK hP hD hS 3 0 rfl rfl (show vp_in (nI 1) _ from vp_in_nI (by decide) (by decide)) dX7_tryThrees_133 (fun H locs hP hD hS => ?_)
              rw [show (1 : Int32).toNatClampNeg = 1 from by decide] at hP hD
              have hP : va_P D vwCl [(x, .inr (7, [.int fa, .int tr, .ref so, .ref sl, .ref ce, .int (nI n), .int bar, .int (nI tn), .ref ki, .ref si, .ref th, .ref ri, .int at_, .int rp, .ref rk, .ref rs, .ref kt, .ref kr, .int kn, .int rg, .ref ab, .int am, .ref bh, .int (mny a b cc), .int (lou n kd sd a b cc), .int (nI rn), .ref wa, .ref ra])), (ki, .inl (cI, 9, .inl kd)), (si, .inl (cI, 9, .inl sd)), (bh, .inl (cI, 3, .inl (upd (upd bv 0 a) 1 b)))] H := hP
              have hD : va_D A [(x, .inr (7, [.int fa, .int tr, .ref so, .ref sl, .ref ce, .int (nI n), .int bar, .int (nI tn), .ref ki, .ref si, .ref th, .ref ri, .int at_, .int rp, .ref rk, .ref rs, .ref kt, .ref kr, .int kn, .int rg, .ref ab, .int am, .ref bh, .int (mny a b cc), .int (lou n kd sd a b cc), .int (nI rn), .ref wa, .ref ra])), (ki, .inl (cI, 9, .inl kd)), (si, .inl (cI, 9, .inl sd)), (bh, .inl (cI, 3, .inl (upd (upd bv 0 a) 1 b)))] := hD
              refine lv_aload_n hx hb dX7_tryThrees_134 rfl (lv_at hl 3 rfl) ?_
              refine va_get (D := D) (ci := 7) (v := .ref bh) (C := RX7) (T := TX7) (N := 28) hx hb hts iX7 hown hK hP 0 rfl rfl 22 (by decide) f46 (fun _ h9 => h9) rfl dX7_tryThrees_135 ?_
              refine lv_iconst (v := 2) hx hb dX7_tryThrees_138 (by decide) ?_
              refine lv_iload_n hx hb dX7_tryThrees_139 rfl (lv_at hl 6 rfl) ?_
              refine va_iast hx hb hK hP hD hS 3 0 rfl rfl (show vp_in (nI 2) _ from vp_in_nI (by decide) (by decide)) dX7_tryThrees_140 (fun H locs hP hD hS => ?_)
              rw [show (2 : Int32).toNatClampNeg = 2 from by decide] at hP hD
              have hP : va_P D vwCl [(x, .inr (7, [.int fa, .int tr, .ref so, .ref sl, .ref ce, .int (nI n), .int bar, .int (nI tn), .ref ki, .ref si, .ref th, .ref ri, .int at_, .int rp, .ref rk, .ref rs, .ref kt, .ref kr, .int kn, .int rg, .ref ab, .int am, .ref bh, .int (mny a b cc), .int (lou n kd sd a b cc), .int (nI rn), .ref wa, .ref ra])), (ki, .inl (cI, 9, .inl kd)), (si, .inl (cI, 9, .inl sd)), (bh, .inl (cI, 3, .inl (upd (upd (upd bv 0 a) 1 b) 2 cc)))] H := hP
              have hD : va_D A [(x, .inr (7, [.int fa, .int tr, .ref so, .ref sl, .ref ce, .int (nI n), .int bar, .int (nI tn), .ref ki, .ref si, .ref th, .ref ri, .int at_, .int rp, .ref rk, .ref rs, .ref kt, .ref kr, .int kn, .int rg, .ref ab, .int am, .ref bh, .int (mny a b cc), .int (lou n kd sd a b cc), .int (nI rn), .ref wa, .ref ra])), (ki, .inl (cI, 9, .inl kd)), (si, .inl (cI, 9, .inl sd)), (bh, .inl (cI, 3, .inl (upd (upd (upd bv 0 a) 1 b) 2 cc)))] := hD
              exact W.vret hx hb hr (fun t ht hW => ⟨⟨(mny a b cc, lou n kd sd a b cc, upd (upd (upd bv 0 a) 1 b) 2 cc), rfl, by simp [ttZ, hbt], by rw [ht]; exact hP, va_K.moved hW.alike hK, hD⟩, hS.F ht⟩) hS.2.2 dX7_tryThrees_141
            · -- f74
              refine lv_iload hx hb dX7_tryThrees_77 (lv_at hl 0 rfl) ?_
              refine lv_aload_n hx hb dX7_tryThrees_79 rfl (lv_at hl 2 rfl) ?_
              refine va_get (D := D) (ci := 7) (v := .int br) (C := RX7) (T := TX7) (N := 28) hx hb hts iX7 hown hK hP 0 rfl rfl 24 (by decide) f186 (fun _ h9 => h9) rfl dX7_tryThrees_80 ?_
              refine lv_icmp_ne (tgt := 100) hx hb dX7_tryThrees_83 (by decide) (fun c83 => ?_) (fun c83 => ?_)
              · -- t83
                have hbt : ttB n kd sd (bm, br, bv) a b cc = false := by unfold ttB; simp only [c56, c74, c83, decide_false, Bool.false_and, Bool.or_false, Bool.and_false]
                refine lv_iconst (v := 0) hx hb dX7_tryThrees_100 (by decide) ?_
                refine lv_istore (lv' := [(6, .int 0), (5, .int (lou n kd sd a b cc)), (4, .int (mny a b cc)), (0, .ref x), (1, .int a), (2, .int b), (3, .int cc)]) hx hb dX7_tryThrees_101 hl (by decide) rfl (fun ls hl => ?_)
                refine lv_iload hx hb dX7_tryThrees_103 (lv_at hl 0 rfl) ?_
                refine lv_if_eq (tgt := 141) hx hb dX7_tryThrees_105 (by decide) (fun _ => ?_) (fun h => absurd (by decide) h)
                exact W.vret hx hb hr (fun t ht hW => ⟨⟨(bm, br, bv), rfl, by simp [ttZ, hbt], by rw [ht]; exact hP, va_K.moved hW.alike hK, hD⟩, hS.F ht⟩) hS.2.2 dX7_tryThrees_141
              · -- f83
                refine lv_aload_n hx hb dX7_tryThrees_86 rfl (lv_at hl 2 rfl) ?_
                refine lv_iload_n hx hb dX7_tryThrees_87 rfl (lv_at hl 3 rfl) ?_
                refine lv_iload_n hx hb dX7_tryThrees_88 rfl (lv_at hl 4 rfl) ?_
                refine lv_iload_n hx hb dX7_tryThrees_89 rfl (lv_at hl 5 rfl) ?_
                have hPc := hP.sub (ws' := [(x, .inr (7, [.int fa, .int tr, .ref so, .ref sl, .ref ce, .int (nI n), .int bar, .int (nI tn), .ref ki, .ref si, .ref th, .ref ri, .int at_, .int rp, .ref rk, .ref rs, .ref kt, .ref kr, .int kn, .int rg, .ref ab, .int am, .ref bh, .int bm, .int br, .int (nI rn), .ref wa, .ref ra])), (bh, .inl (cI, 3, .inl bv))]) [0, 3] rfl
                refine vp_callSi (va_Run.run (va_runV (As := [.int a, .int b, .int cc]) (rest := []) ⟨hx, hb, hml, hown, hts⟩ (c_X7_isAhead l D cI cO x fa tr so sl ce n bar tn ki si th ri at_ rp rk rs kt kr kn rg ab am bh bm br rn wa ra bv a b cc (by assumption)) (cwV 3 hts gX7_tryThrees_X7_isAhead rfl rfl rfl (by decide +kernel) ⟨Nat.le_of_ble_eq_true rfl, Nat.le_of_ble_eq_true rfl⟩) (preVR hPc hK hNw (va_recv hK hPc (ci := 7) (q0 := 0) rfl rfl)) rfl rfl hl.1 rfl (lv_room (Nat.le_of_ble_eq_true rfl)) dX7_tryThrees_90 ⟨Nat.zero_le _, Nat.zero_le _⟩)) (fun r90 w90 => ?_)
                by_cases b90 : ahW a b cc (bv 0) (bv 1) (bv 2) n 0 = true
                · -- y90
                  obtain rfl := w90.1 b90
                  have hbt : ttB n kd sd (bm, br, bv) a b cc = true := by simp [ttB, c65, c83, b90]
                  refine lv_if_eq (tgt := 100) hx hb dX7_tryThrees_93 (by decide) (fun h => absurd h (by decide)) (fun _ => ?_)
                  refine lv_iconst (v := 1) hx hb dX7_tryThrees_96 (by decide) ?_
                  refine lv_goto (tgt := 101) hx hb dX7_tryThrees_97 (by decide) ?_
                  refine lv_istore (lv' := [(6, .int 1), (5, .int (lou n kd sd a b cc)), (4, .int (mny a b cc)), (0, .ref x), (1, .int a), (2, .int b), (3, .int cc)]) hx hb dX7_tryThrees_101 hl (by decide) rfl (fun ls hl => ?_)
                  refine lv_iload hx hb dX7_tryThrees_103 (lv_at hl 0 rfl) ?_
                  refine lv_if_eq (tgt := 141) hx hb dX7_tryThrees_105 (by decide) (fun h => absurd h (by decide)) (fun _ => ?_)
                  refine lv_aload_n hx hb dX7_tryThrees_108 rfl (lv_at hl 3 rfl) ?_
                  refine lv_iload hx hb dX7_tryThrees_109 (lv_at hl 2 rfl) ?_
                  refine va_put (D := D) (ci := 7) (v := .int (mny a b cc)) (ty := .int) (C := RX7) (T := TX7) (N := 28) hx hb hts iX7 tyX7 tyX7_ok nmX7 hown hK hP hD hS 0 rfl rfl 23 (by decide) f183 (fun _ h9 => h9) rfl (by decide +kernel) rfl rfl (Nat.le_of_ble_eq_true rfl) dX7_tryThrees_111 (fun H locs hP hD hS => ?_)
                  have hP : va_P D vwCl [(x, .inr (7, [.int fa, .int tr, .ref so, .ref sl, .ref ce, .int (nI n), .int bar, .int (nI tn), .ref ki, .ref si, .ref th, .ref ri, .int at_, .int rp, .ref rk, .ref rs, .ref kt, .ref kr, .int kn, .int rg, .ref ab, .int am, .ref bh, .int (mny a b cc), .int br, .int (nI rn), .ref wa, .ref ra])), (ki, .inl (cI, 9, .inl kd)), (si, .inl (cI, 9, .inl sd)), (bh, .inl (cI, 3, .inl bv))] H := hP
                  have hD : va_D A [(x, .inr (7, [.int fa, .int tr, .ref so, .ref sl, .ref ce, .int (nI n), .int bar, .int (nI tn), .ref ki, .ref si, .ref th, .ref ri, .int at_, .int rp, .ref rk, .ref rs, .ref kt, .ref kr, .int kn, .int rg, .ref ab, .int am, .ref bh, .int (mny a b cc), .int br, .int (nI rn), .ref wa, .ref ra])), (ki, .inl (cI, 9, .inl kd)), (si, .inl (cI, 9, .inl sd)), (bh, .inl (cI, 3, .inl bv))] := hD
                  refine lv_aload_n hx hb dX7_tryThrees_114 rfl (lv_at hl 3 rfl) ?_
                  refine lv_iload hx hb dX7_tryThrees_115 (lv_at hl 1 rfl) ?_
                  refine va_put (D := D) (ci := 7) (v := .int (lou n kd sd a b cc)) (ty := .int) (C := RX7) (T := TX7) (N := 28) hx hb hts iX7 tyX7 tyX7_ok nmX7 hown hK hP hD hS 0 rfl rfl 24 (by decide) f186 (fun _ h9 => h9) rfl (by decide +kernel) rfl rfl (Nat.le_of_ble_eq_true rfl) dX7_tryThrees_117 (fun H locs hP hD hS => ?_)
                  have hP : va_P D vwCl [(x, .inr (7, [.int fa, .int tr, .ref so, .ref sl, .ref ce, .int (nI n), .int bar, .int (nI tn), .ref ki, .ref si, .ref th, .ref ri, .int at_, .int rp, .ref rk, .ref rs, .ref kt, .ref kr, .int kn, .int rg, .ref ab, .int am, .ref bh, .int (mny a b cc), .int (lou n kd sd a b cc), .int (nI rn), .ref wa, .ref ra])), (ki, .inl (cI, 9, .inl kd)), (si, .inl (cI, 9, .inl sd)), (bh, .inl (cI, 3, .inl bv))] H := hP
                  have hD : va_D A [(x, .inr (7, [.int fa, .int tr, .ref so, .ref sl, .ref ce, .int (nI n), .int bar, .int (nI tn), .ref ki, .ref si, .ref th, .ref ri, .int at_, .int rp, .ref rk, .ref rs, .ref kt, .ref kr, .int kn, .int rg, .ref ab, .int am, .ref bh, .int (mny a b cc), .int (lou n kd sd a b cc), .int (nI rn), .ref wa, .ref ra])), (ki, .inl (cI, 9, .inl kd)), (si, .inl (cI, 9, .inl sd)), (bh, .inl (cI, 3, .inl bv))] := hD
                  refine lv_aload_n hx hb dX7_tryThrees_120 rfl (lv_at hl 3 rfl) ?_
                  refine va_get (D := D) (ci := 7) (v := .ref bh) (C := RX7) (T := TX7) (N := 28) hx hb hts iX7 hown hK hP 0 rfl rfl 22 (by decide) f46 (fun _ h9 => h9) rfl dX7_tryThrees_121 ?_
                  refine lv_iconst (v := 0) hx hb dX7_tryThrees_124 (by decide) ?_
                  refine lv_iload_n hx hb dX7_tryThrees_125 rfl (lv_at hl 4 rfl) ?_
                  refine va_iast hx hb hK hP hD hS 3 0 rfl rfl (show vp_in (nI 0) _ from vp_in_nI (by decide) (by decide)) dX7_tryThrees_126 (fun H locs hP hD hS => ?_)
                  rw [show (0 : Int32).toNatClampNeg = 0 from by decide] at hP hD
                  have hP : va_P D vwCl [(x, .inr (7, [.int fa, .int tr, .ref so, .ref sl, .ref ce, .int (nI n), .int bar, .int (nI tn), .ref ki, .ref si, .ref th, .ref ri, .int at_, .int rp, .ref rk, .ref rs, .ref kt, .ref kr, .int kn, .int rg, .ref ab, .int am, .ref bh, .int (mny a b cc), .int (lou n kd sd a b cc), .int (nI rn), .ref wa, .ref ra])), (ki, .inl (cI, 9, .inl kd)), (si, .inl (cI, 9, .inl sd)), (bh, .inl (cI, 3, .inl (upd bv 0 a)))] H := hP
                  have hD : va_D A [(x, .inr (7, [.int fa, .int tr, .ref so, .ref sl, .ref ce, .int (nI n), .int bar, .int (nI tn), .ref ki, .ref si, .ref th, .ref ri, .int at_, .int rp, .ref rk, .ref rs, .ref kt, .ref kr, .int kn, .int rg, .ref ab, .int am, .ref bh, .int (mny a b cc), .int (lou n kd sd a b cc), .int (nI rn), .ref wa, .ref ra])), (ki, .inl (cI, 9, .inl kd)), (si, .inl (cI, 9, .inl sd)), (bh, .inl (cI, 3, .inl (upd bv 0 a)))] := hD
                  refine lv_aload_n hx hb dX7_tryThrees_127 rfl (lv_at hl 3 rfl) ?_
                  refine va_get (D := D) (ci := 7) (v := .ref bh) (C := RX7) (T := TX7) (N := 28) hx hb hts iX7 hown hK hP 0 rfl rfl 22 (by decide) f46 (fun _ h9 => h9) rfl dX7_tryThrees_128 ?_
                  refine lv_iconst (v := 1) hx hb dX7_tryThrees_131 (by decide) ?_
                  refine lv_iload_n hx hb dX7_tryThrees_132 rfl (lv_at hl 5 rfl) ?_
                  refine va_iast hx hb hK hP hD hS 3 0 rfl rfl (show vp_in (nI 1) _ from vp_in_nI (by decide) (by decide)) dX7_tryThrees_133 (fun H locs hP hD hS => ?_)
                  rw [show (1 : Int32).toNatClampNeg = 1 from by decide] at hP hD
                  have hP : va_P D vwCl [(x, .inr (7, [.int fa, .int tr, .ref so, .ref sl, .ref ce, .int (nI n), .int bar, .int (nI tn), .ref ki, .ref si, .ref th, .ref ri, .int at_, .int rp, .ref rk, .ref rs, .ref kt, .ref kr, .int kn, .int rg, .ref ab, .int am, .ref bh, .int (mny a b cc), .int (lou n kd sd a b cc), .int (nI rn), .ref wa, .ref ra])), (ki, .inl (cI, 9, .inl kd)), (si, .inl (cI, 9, .inl sd)), (bh, .inl (cI, 3, .inl (upd (upd bv 0 a) 1 b)))] H := hP
                  have hD : va_D A [(x, .inr (7, [.int fa, .int tr, .ref so, .ref sl, .ref ce, .int (nI n), .int bar, .int (nI tn), .ref ki, .ref si, .ref th, .ref ri, .int at_, .int rp, .ref rk, .ref rs, .ref kt, .ref kr, .int kn, .int rg, .ref ab, .int am, .ref bh, .int (mny a b cc), .int (lou n kd sd a b cc), .int (nI rn), .ref wa, .ref ra])), (ki, .inl (cI, 9, .inl kd)), (si, .inl (cI, 9, .inl sd)), (bh, .inl (cI, 3, .inl (upd (upd bv 0 a) 1 b)))] := hD
                  refine lv_aload_n hx hb dX7_tryThrees_134 rfl (lv_at hl 3 rfl) ?_
                  refine va_get (D := D) (ci := 7) (v := .ref bh) (C := RX7) (T := TX7) (N := 28) hx hb hts iX7 hown hK hP 0 rfl rfl 22 (by decide) f46 (fun _ h9 => h9) rfl dX7_tryThrees_135 ?_
                  refine lv_iconst (v := 2) hx hb dX7_tryThrees_138 (by decide) ?_
                  refine lv_iload_n hx hb dX7_tryThrees_139 rfl (lv_at hl 6 rfl) ?_
                  refine va_iast hx hb hK hP hD hS 3 0 rfl rfl (show vp_in (nI 2) _ from vp_in_nI (by decide) (by decide)) dX7_tryThrees_140 (fun H locs hP hD hS => ?_)
                  rw [show (2 : Int32).toNatClampNeg = 2 from by decide] at hP hD
                  have hP : va_P D vwCl [(x, .inr (7, [.int fa, .int tr, .ref so, .ref sl, .ref ce, .int (nI n), .int bar, .int (nI tn), .ref ki, .ref si, .ref th, .ref ri, .int at_, .int rp, .ref rk, .ref rs, .ref kt, .ref kr, .int kn, .int rg, .ref ab, .int am, .ref bh, .int (mny a b cc), .int (lou n kd sd a b cc), .int (nI rn), .ref wa, .ref ra])), (ki, .inl (cI, 9, .inl kd)), (si, .inl (cI, 9, .inl sd)), (bh, .inl (cI, 3, .inl (upd (upd (upd bv 0 a) 1 b) 2 cc)))] H := hP
                  have hD : va_D A [(x, .inr (7, [.int fa, .int tr, .ref so, .ref sl, .ref ce, .int (nI n), .int bar, .int (nI tn), .ref ki, .ref si, .ref th, .ref ri, .int at_, .int rp, .ref rk, .ref rs, .ref kt, .ref kr, .int kn, .int rg, .ref ab, .int am, .ref bh, .int (mny a b cc), .int (lou n kd sd a b cc), .int (nI rn), .ref wa, .ref ra])), (ki, .inl (cI, 9, .inl kd)), (si, .inl (cI, 9, .inl sd)), (bh, .inl (cI, 3, .inl (upd (upd (upd bv 0 a) 1 b) 2 cc)))] := hD
                  exact W.vret hx hb hr (fun t ht hW => ⟨⟨(mny a b cc, lou n kd sd a b cc, upd (upd (upd bv 0 a) 1 b) 2 cc), rfl, by simp [ttZ, hbt], by rw [ht]; exact hP, va_K.moved hW.alike hK, hD⟩, hS.F ht⟩) hS.2.2 dX7_tryThrees_141
                · -- n90
                  obtain rfl := w90.2 b90
                  have hbt : ttB n kd sd (bm, br, bv) a b cc = false := by rw [Bool.not_eq_true] at b90; unfold ttB; simp only [c56, c74, b90, decide_false, Bool.or_false, Bool.and_false]
                  refine lv_if_eq (tgt := 100) hx hb dX7_tryThrees_93 (by decide) (fun _ => ?_) (fun h => absurd (by decide) h)
                  refine lv_iconst (v := 0) hx hb dX7_tryThrees_100 (by decide) ?_
                  refine lv_istore (lv' := [(6, .int 0), (5, .int (lou n kd sd a b cc)), (4, .int (mny a b cc)), (0, .ref x), (1, .int a), (2, .int b), (3, .int cc)]) hx hb dX7_tryThrees_101 hl (by decide) rfl (fun ls hl => ?_)
                  refine lv_iload hx hb dX7_tryThrees_103 (lv_at hl 0 rfl) ?_
                  refine lv_if_eq (tgt := 141) hx hb dX7_tryThrees_105 (by decide) (fun _ => ?_) (fun h => absurd (by decide) h)
                  exact W.vret hx hb hr (fun t ht hW => ⟨⟨(bm, br, bv), rfl, by simp [ttZ, hbt], by rw [ht]; exact hP, va_K.moved hW.alike hK, hD⟩, hS.F ht⟩) hS.2.2 dX7_tryThrees_141
      · -- f20
        refine lv_iconst (v := 0) hx hb dX7_tryThrees_23 (by decide) ?_
        refine lv_goto (tgt := 28) hx hb dX7_tryThrees_24 (by decide) ?_
        refine tp_i (y := one0 cc) (by simp [one0, c20]) ?_
        refine lv_iadd hx hb dX7_tryThrees_28 ?_
        refine tp_i (y := mny a b cc) (rfl) ?_
        refine lv_istore (lv' := [(4, .int (mny a b cc)), (0, .ref x), (1, .int a), (2, .int b), (3, .int cc)]) hx hb dX7_tryThrees_29 hl (by decide) rfl (fun ls hl => ?_)
        refine lv_aload_n hx hb dX7_tryThrees_31 rfl (lv_at hl 1 rfl) ?_
        refine lv_iload_n hx hb dX7_tryThrees_32 rfl (lv_at hl 2 rfl) ?_
        have hPc := hP.sub (ws' := [(x, .inr (7, [.int fa, .int tr, .ref so, .ref sl, .ref ce, .int (nI n), .int bar, .int (nI tn), .ref ki, .ref si, .ref th, .ref ri, .int at_, .int rp, .ref rk, .ref rs, .ref kt, .ref kr, .int kn, .int rg, .ref ab, .int am, .ref bh, .int bm, .int br, .int (nI rn), .ref wa, .ref ra])), (ki, .inl (cI, 9, .inl kd)), (si, .inl (cI, 9, .inl sd))]) [0, 1, 2] rfl
        refine vp_callSi (va_Run.run (va_runV (As := [.int a]) (rest := []) ⟨hx, hb, hml, hown, hts⟩ (c_X7_ringsOf l D cI cO x fa tr so sl ce n bar tn ki si th ri at_ rp rk rs kt kr kn rg ab am bh bm br rn wa ra kd sd a (by assumption) (by assumption)) (cwV 1 hts gX7_tryThrees_X7_ringsOf rfl rfl rfl (by decide +kernel) ⟨Nat.le_of_ble_eq_true rfl, Nat.le_of_ble_eq_true rfl⟩) (preVR hPc hK hNw (va_recv hK hPc (ci := 7) (q0 := 0) rfl rfl)) rfl rfl hl.1 rfl (lv_room (Nat.le_of_ble_eq_true rfl)) dX7_tryThrees_33 ⟨Nat.zero_le _, Nat.zero_le _⟩)) (fun r33 w33 => ?_)
        obtain rfl := w33
        refine lv_aload_n hx hb dX7_tryThrees_36 rfl (lv_at hl 1 rfl) ?_
        refine lv_iload_n hx hb dX7_tryThrees_37 rfl (lv_at hl 3 rfl) ?_
        have hPc := hP.sub (ws' := [(x, .inr (7, [.int fa, .int tr, .ref so, .ref sl, .ref ce, .int (nI n), .int bar, .int (nI tn), .ref ki, .ref si, .ref th, .ref ri, .int at_, .int rp, .ref rk, .ref rs, .ref kt, .ref kr, .int kn, .int rg, .ref ab, .int am, .ref bh, .int bm, .int br, .int (nI rn), .ref wa, .ref ra])), (ki, .inl (cI, 9, .inl kd)), (si, .inl (cI, 9, .inl sd))]) [0, 1, 2] rfl
        refine vp_callSi (va_Run.run (va_runV (As := [.int b]) (rest := [.int (sumW (rgF kd sd) a n)]) ⟨hx, hb, hml, hown, hts⟩ (c_X7_ringsOf l D cI cO x fa tr so sl ce n bar tn ki si th ri at_ rp rk rs kt kr kn rg ab am bh bm br rn wa ra kd sd b (by assumption) (by assumption)) (cwV 1 hts gX7_tryThrees_X7_ringsOf rfl rfl rfl (by decide +kernel) ⟨Nat.le_of_ble_eq_true rfl, Nat.le_of_ble_eq_true rfl⟩) (preVR hPc hK hNw (va_recv hK hPc (ci := 7) (q0 := 0) rfl rfl)) rfl rfl hl.1 rfl (lv_room (Nat.le_of_ble_eq_true rfl)) dX7_tryThrees_38 ⟨Nat.zero_le _, Nat.zero_le _⟩)) (fun r38 w38 => ?_)
        obtain rfl := w38
        refine lv_iadd hx hb dX7_tryThrees_41 ?_
        refine lv_aload_n hx hb dX7_tryThrees_42 rfl (lv_at hl 1 rfl) ?_
        refine lv_iload_n hx hb dX7_tryThrees_43 rfl (lv_at hl 4 rfl) ?_
        have hPc := hP.sub (ws' := [(x, .inr (7, [.int fa, .int tr, .ref so, .ref sl, .ref ce, .int (nI n), .int bar, .int (nI tn), .ref ki, .ref si, .ref th, .ref ri, .int at_, .int rp, .ref rk, .ref rs, .ref kt, .ref kr, .int kn, .int rg, .ref ab, .int am, .ref bh, .int bm, .int br, .int (nI rn), .ref wa, .ref ra])), (ki, .inl (cI, 9, .inl kd)), (si, .inl (cI, 9, .inl sd))]) [0, 1, 2] rfl
        refine vp_callSi (va_Run.run (va_runV (As := [.int cc]) (rest := [.int ((sumW (rgF kd sd) a n) + (sumW (rgF kd sd) b n))]) ⟨hx, hb, hml, hown, hts⟩ (c_X7_ringsOf l D cI cO x fa tr so sl ce n bar tn ki si th ri at_ rp rk rs kt kr kn rg ab am bh bm br rn wa ra kd sd cc (by assumption) (by assumption)) (cwV 1 hts gX7_tryThrees_X7_ringsOf rfl rfl rfl (by decide +kernel) ⟨Nat.le_of_ble_eq_true rfl, Nat.le_of_ble_eq_true rfl⟩) (preVR hPc hK hNw (va_recv hK hPc (ci := 7) (q0 := 0) rfl rfl)) rfl rfl hl.1 rfl (lv_room (Nat.le_of_ble_eq_true rfl)) dX7_tryThrees_44 ⟨Nat.zero_le _, Nat.zero_le _⟩)) (fun r44 w44 => ?_)
        obtain rfl := w44
        refine lv_iadd hx hb dX7_tryThrees_47 ?_
        refine tp_i (y := lou n kd sd a b cc) (rfl) ?_
        refine lv_istore (lv' := [(5, .int (lou n kd sd a b cc)), (4, .int (mny a b cc)), (0, .ref x), (1, .int a), (2, .int b), (3, .int cc)]) hx hb dX7_tryThrees_48 hl (by decide) rfl (fun ls hl => ?_)
        refine lv_iload hx hb dX7_tryThrees_50 (lv_at hl 1 rfl) ?_
        refine lv_aload_n hx hb dX7_tryThrees_52 rfl (lv_at hl 2 rfl) ?_
        refine va_get (D := D) (ci := 7) (v := .int bm) (C := RX7) (T := TX7) (N := 28) hx hb hts iX7 hown hK hP 0 rfl rfl 23 (by decide) f183 (fun _ h9 => h9) rfl dX7_tryThrees_53 ?_
        refine lv_icmp_gt (tgt := 96) hx hb dX7_tryThrees_56 (by decide) (fun c56 => ?_) (fun c56 => ?_)
        · -- t56
          have hbt : ttB n kd sd (bm, br, bv) a b cc = true := by simp [ttB, c56]
          refine lv_iconst (v := 1) hx hb dX7_tryThrees_96 (by decide) ?_
          refine lv_goto (tgt := 101) hx hb dX7_tryThrees_97 (by decide) ?_
          refine lv_istore (lv' := [(6, .int 1), (5, .int (lou n kd sd a b cc)), (4, .int (mny a b cc)), (0, .ref x), (1, .int a), (2, .int b), (3, .int cc)]) hx hb dX7_tryThrees_101 hl (by decide) rfl (fun ls hl => ?_)
          refine lv_iload hx hb dX7_tryThrees_103 (lv_at hl 0 rfl) ?_
          refine lv_if_eq (tgt := 141) hx hb dX7_tryThrees_105 (by decide) (fun h => absurd h (by decide)) (fun _ => ?_)
          refine lv_aload_n hx hb dX7_tryThrees_108 rfl (lv_at hl 3 rfl) ?_
          refine lv_iload hx hb dX7_tryThrees_109 (lv_at hl 2 rfl) ?_
          refine va_put (D := D) (ci := 7) (v := .int (mny a b cc)) (ty := .int) (C := RX7) (T := TX7) (N := 28) hx hb hts iX7 tyX7 tyX7_ok nmX7 hown hK hP hD hS 0 rfl rfl 23 (by decide) f183 (fun _ h9 => h9) rfl (by decide +kernel) rfl rfl (Nat.le_of_ble_eq_true rfl) dX7_tryThrees_111 (fun H locs hP hD hS => ?_)
          have hP : va_P D vwCl [(x, .inr (7, [.int fa, .int tr, .ref so, .ref sl, .ref ce, .int (nI n), .int bar, .int (nI tn), .ref ki, .ref si, .ref th, .ref ri, .int at_, .int rp, .ref rk, .ref rs, .ref kt, .ref kr, .int kn, .int rg, .ref ab, .int am, .ref bh, .int (mny a b cc), .int br, .int (nI rn), .ref wa, .ref ra])), (ki, .inl (cI, 9, .inl kd)), (si, .inl (cI, 9, .inl sd)), (bh, .inl (cI, 3, .inl bv))] H := hP
          have hD : va_D A [(x, .inr (7, [.int fa, .int tr, .ref so, .ref sl, .ref ce, .int (nI n), .int bar, .int (nI tn), .ref ki, .ref si, .ref th, .ref ri, .int at_, .int rp, .ref rk, .ref rs, .ref kt, .ref kr, .int kn, .int rg, .ref ab, .int am, .ref bh, .int (mny a b cc), .int br, .int (nI rn), .ref wa, .ref ra])), (ki, .inl (cI, 9, .inl kd)), (si, .inl (cI, 9, .inl sd)), (bh, .inl (cI, 3, .inl bv))] := hD
          refine lv_aload_n hx hb dX7_tryThrees_114 rfl (lv_at hl 3 rfl) ?_
          refine lv_iload hx hb dX7_tryThrees_115 (lv_at hl 1 rfl) ?_
          refine va_put (D := D) (ci := 7) (v := .int (lou n kd sd a b cc)) (ty := .int) (C := RX7) (T := TX7) (N := 28) hx hb hts iX7 tyX7 tyX7_ok nmX7 hown hK hP hD hS 0 rfl rfl 24 (by decide) f186 (fun _ h9 => h9) rfl (by decide +kernel) rfl rfl (Nat.le_of_ble_eq_true rfl) dX7_tryThrees_117 (fun H locs hP hD hS => ?_)
          have hP : va_P D vwCl [(x, .inr (7, [.int fa, .int tr, .ref so, .ref sl, .ref ce, .int (nI n), .int bar, .int (nI tn), .ref ki, .ref si, .ref th, .ref ri, .int at_, .int rp, .ref rk, .ref rs, .ref kt, .ref kr, .int kn, .int rg, .ref ab, .int am, .ref bh, .int (mny a b cc), .int (lou n kd sd a b cc), .int (nI rn), .ref wa, .ref ra])), (ki, .inl (cI, 9, .inl kd)), (si, .inl (cI, 9, .inl sd)), (bh, .inl (cI, 3, .inl bv))] H := hP
          have hD : va_D A [(x, .inr (7, [.int fa, .int tr, .ref so, .ref sl, .ref ce, .int (nI n), .int bar, .int (nI tn), .ref ki, .ref si, .ref th, .ref ri, .int at_, .int rp, .ref rk, .ref rs, .ref kt, .ref kr, .int kn, .int rg, .ref ab, .int am, .ref bh, .int (mny a b cc), .int (lou n kd sd a b cc), .int (nI rn), .ref wa, .ref ra])), (ki, .inl (cI, 9, .inl kd)), (si, .inl (cI, 9, .inl sd)), (bh, .inl (cI, 3, .inl bv))] := hD
          refine lv_aload_n hx hb dX7_tryThrees_120 rfl (lv_at hl 3 rfl) ?_
          refine va_get (D := D) (ci := 7) (v := .ref bh) (C := RX7) (T := TX7) (N := 28) hx hb hts iX7 hown hK hP 0 rfl rfl 22 (by decide) f46 (fun _ h9 => h9) rfl dX7_tryThrees_121 ?_
          refine lv_iconst (v := 0) hx hb dX7_tryThrees_124 (by decide) ?_
          refine lv_iload_n hx hb dX7_tryThrees_125 rfl (lv_at hl 4 rfl) ?_
          refine va_iast hx hb hK hP hD hS 3 0 rfl rfl (show vp_in (nI 0) _ from vp_in_nI (by decide) (by decide)) dX7_tryThrees_126 (fun H locs hP hD hS => ?_)
          rw [show (0 : Int32).toNatClampNeg = 0 from by decide] at hP hD
          have hP : va_P D vwCl [(x, .inr (7, [.int fa, .int tr, .ref so, .ref sl, .ref ce, .int (nI n), .int bar, .int (nI tn), .ref ki, .ref si, .ref th, .ref ri, .int at_, .int rp, .ref rk, .ref rs, .ref kt, .ref kr, .int kn, .int rg, .ref ab, .int am, .ref bh, .int (mny a b cc), .int (lou n kd sd a b cc), .int (nI rn), .ref wa, .ref ra])), (ki, .inl (cI, 9, .inl kd)), (si, .inl (cI, 9, .inl sd)), (bh, .inl (cI, 3, .inl (upd bv 0 a)))] H := hP
          have hD : va_D A [(x, .inr (7, [.int fa, .int tr, .ref so, .ref sl, .ref ce, .int (nI n), .int bar, .int (nI tn), .ref ki, .ref si, .ref th, .ref ri, .int at_, .int rp, .ref rk, .ref rs, .ref kt, .ref kr, .int kn, .int rg, .ref ab, .int am, .ref bh, .int (mny a b cc), .int (lou n kd sd a b cc), .int (nI rn), .ref wa, .ref ra])), (ki, .inl (cI, 9, .inl kd)), (si, .inl (cI, 9, .inl sd)), (bh, .inl (cI, 3, .inl (upd bv 0 a)))] := hD
          refine lv_aload_n hx hb dX7_tryThrees_127 rfl (lv_at hl 3 rfl) ?_
          refine va_get (D := D) (ci := 7) (v := .ref bh) (C := RX7) (T := TX7) (N := 28) hx hb hts iX7 hown hK hP 0 rfl rfl 22 (by decide) f46 (fun _ h9 => h9) rfl dX7_tryThrees_128 ?_
          refine lv_iconst (v := 1) hx hb dX7_tryThrees_131 (by decide) ?_
          refine lv_iload_n hx hb dX7_tryThrees_132 rfl (lv_at hl 5 rfl) ?_
          refine va_iast hx hb hK hP hD hS 3 0 rfl rfl (show vp_in (nI 1) _ from vp_in_nI (by decide) (by decide)) dX7_tryThrees_133 (fun H locs hP hD hS => ?_)
          rw [show (1 : Int32).toNatClampNeg = 1 from by decide] at hP hD
          have hP : va_P D vwCl [(x, .inr (7, [.int fa, .int tr, .ref so, .ref sl, .ref ce, .int (nI n), .int bar, .int (nI tn), .ref ki, .ref si, .ref th, .ref ri, .int at_, .int rp, .ref rk, .ref rs, .ref kt, .ref kr, .int kn, .int rg, .ref ab, .int am, .ref bh, .int (mny a b cc), .int (lou n kd sd a b cc), .int (nI rn), .ref wa, .ref ra])), (ki, .inl (cI, 9, .inl kd)), (si, .inl (cI, 9, .inl sd)), (bh, .inl (cI, 3, .inl (upd (upd bv 0 a) 1 b)))] H := hP
          have hD : va_D A [(x, .inr (7, [.int fa, .int tr, .ref so, .ref sl, .ref ce, .int (nI n), .int bar, .int (nI tn), .ref ki, .ref si, .ref th, .ref ri, .int at_, .int rp, .ref rk, .ref rs, .ref kt, .ref kr, .int kn, .int rg, .ref ab, .int am, .ref bh, .int (mny a b cc), .int (lou n kd sd a b cc), .int (nI rn), .ref wa, .ref ra])), (ki, .inl (cI, 9, .inl kd)), (si, .inl (cI, 9, .inl sd)), (bh, .inl (cI, 3, .inl (upd (upd bv 0 a) 1 b)))] := hD
          refine lv_aload_n hx hb dX7_tryThrees_134 rfl (lv_at hl 3 rfl) ?_
          refine va_get (D := D) (ci := 7) (v := .ref bh) (C := RX7) (T := TX7) (N := 28) hx hb hts iX7 hown hK hP 0 rfl rfl 22 (by decide) f46 (fun _ h9 => h9) rfl dX7_tryThrees_135 ?_
          refine lv_iconst (v := 2) hx hb dX7_tryThrees_138 (by decide) ?_
          refine lv_iload_n hx hb dX7_tryThrees_139 rfl (lv_at hl 6 rfl) ?_
          refine va_iast hx hb hK hP hD hS 3 0 rfl rfl (show vp_in (nI 2) _ from vp_in_nI (by decide) (by decide)) dX7_tryThrees_140 (fun H locs hP hD hS => ?_)
          rw [show (2 : Int32).toNatClampNeg = 2 from by decide] at hP hD
          have hP : va_P D vwCl [(x, .inr (7, [.int fa, .int tr, .ref so, .ref sl, .ref ce, .int (nI n), .int bar, .int (nI tn), .ref ki, .ref si, .ref th, .ref ri, .int at_, .int rp, .ref rk, .ref rs, .ref kt, .ref kr, .int kn, .int rg, .ref ab, .int am, .ref bh, .int (mny a b cc), .int (lou n kd sd a b cc), .int (nI rn), .ref wa, .ref ra])), (ki, .inl (cI, 9, .inl kd)), (si, .inl (cI, 9, .inl sd)), (bh, .inl (cI, 3, .inl (upd (upd (upd bv 0 a) 1 b) 2 cc)))] H := hP
          have hD : va_D A [(x, .inr (7, [.int fa, .int tr, .ref so, .ref sl, .ref ce, .int (nI n), .int bar, .int (nI tn), .ref ki, .ref si, .ref th, .ref ri, .int at_, .int rp, .ref rk, .ref rs, .ref kt, .ref kr, .int kn, .int rg, .ref ab, .int am, .ref bh, .int (mny a b cc), .int (lou n kd sd a b cc), .int (nI rn), .ref wa, .ref ra])), (ki, .inl (cI, 9, .inl kd)), (si, .inl (cI, 9, .inl sd)), (bh, .inl (cI, 3, .inl (upd (upd (upd bv 0 a) 1 b) 2 cc)))] := hD
          exact W.vret hx hb hr (fun t ht hW => ⟨⟨(mny a b cc, lou n kd sd a b cc, upd (upd (upd bv 0 a) 1 b) 2 cc), rfl, by simp [ttZ, hbt], by rw [ht]; exact hP, va_K.moved hW.alike hK, hD⟩, hS.F ht⟩) hS.2.2 dX7_tryThrees_141
        · -- f56
          refine lv_iload hx hb dX7_tryThrees_59 (lv_at hl 1 rfl) ?_
          refine lv_aload_n hx hb dX7_tryThrees_61 rfl (lv_at hl 2 rfl) ?_
          refine va_get (D := D) (ci := 7) (v := .int bm) (C := RX7) (T := TX7) (N := 28) hx hb hts iX7 hown hK hP 0 rfl rfl 23 (by decide) f183 (fun _ h9 => h9) rfl dX7_tryThrees_62 ?_
          refine lv_icmp_ne (tgt := 100) hx hb dX7_tryThrees_65 (by decide) (fun c65 => ?_) (fun c65 => ?_)
          · -- t65
            have hbt : ttB n kd sd (bm, br, bv) a b cc = false := by simp [ttB, c56, c65]
            refine lv_iconst (v := 0) hx hb dX7_tryThrees_100 (by decide) ?_
            refine lv_istore (lv' := [(6, .int 0), (5, .int (lou n kd sd a b cc)), (4, .int (mny a b cc)), (0, .ref x), (1, .int a), (2, .int b), (3, .int cc)]) hx hb dX7_tryThrees_101 hl (by decide) rfl (fun ls hl => ?_)
            refine lv_iload hx hb dX7_tryThrees_103 (lv_at hl 0 rfl) ?_
            refine lv_if_eq (tgt := 141) hx hb dX7_tryThrees_105 (by decide) (fun _ => ?_) (fun h => absurd (by decide) h)
            exact W.vret hx hb hr (fun t ht hW => ⟨⟨(bm, br, bv), rfl, by simp [ttZ, hbt], by rw [ht]; exact hP, va_K.moved hW.alike hK, hD⟩, hS.F ht⟩) hS.2.2 dX7_tryThrees_141
          · -- f65
            refine lv_iload hx hb dX7_tryThrees_68 (lv_at hl 0 rfl) ?_
            refine lv_aload_n hx hb dX7_tryThrees_70 rfl (lv_at hl 2 rfl) ?_
            refine va_get (D := D) (ci := 7) (v := .int br) (C := RX7) (T := TX7) (N := 28) hx hb hts iX7 hown hK hP 0 rfl rfl 24 (by decide) f186 (fun _ h9 => h9) rfl dX7_tryThrees_71 ?_
            refine lv_icmp_gt (tgt := 96) hx hb dX7_tryThrees_74 (by decide) (fun c74 => ?_) (fun c74 => ?_)
            · -- t74
              have hbt : ttB n kd sd (bm, br, bv) a b cc = true := by simp [ttB, c65, c74]
              refine lv_iconst (v := 1) hx hb dX7_tryThrees_96 (by decide) ?_
              refine lv_goto (tgt := 101) hx hb dX7_tryThrees_97 (by decide) ?_
              refine lv_istore (lv' := [(6, .int 1), (5, .int (lou n kd sd a b cc)), (4, .int (mny a b cc)), (0, .ref x), (1, .int a), (2, .int b), (3, .int cc)]) hx hb dX7_tryThrees_101 hl (by decide) rfl (fun ls hl => ?_)
              refine lv_iload hx hb dX7_tryThrees_103 (lv_at hl 0 rfl) ?_
              refine lv_if_eq (tgt := 141) hx hb dX7_tryThrees_105 (by decide) (fun h => absurd h (by decide)) (fun _ => ?_)
              refine lv_aload_n hx hb dX7_tryThrees_108 rfl (lv_at hl 3 rfl) ?_
              refine lv_iload hx hb dX7_tryThrees_109 (lv_at hl 2 rfl) ?_
              refine va_put (D := D) (ci := 7) (v := .int (mny a b cc)) (ty := .int) (C := RX7) (T := TX7) (N := 28) hx hb hts iX7 tyX7 tyX7_ok nmX7 hown hK hP hD hS 0 rfl rfl 23 (by decide) f183 (fun _ h9 => h9) rfl (by decide +kernel) rfl rfl (Nat.le_of_ble_eq_true rfl) dX7_tryThrees_111 (fun H locs hP hD hS => ?_)
              have hP : va_P D vwCl [(x, .inr (7, [.int fa, .int tr, .ref so, .ref sl, .ref ce, .int (nI n), .int bar, .int (nI tn), .ref ki, .ref si, .ref th, .ref ri, .int at_, .int rp, .ref rk, .ref rs, .ref kt, .ref kr, .int kn, .int rg, .ref ab, .int am, .ref bh, .int (mny a b cc), .int br, .int (nI rn), .ref wa, .ref ra])), (ki, .inl (cI, 9, .inl kd)), (si, .inl (cI, 9, .inl sd)), (bh, .inl (cI, 3, .inl bv))] H := hP
              have hD : va_D A [(x, .inr (7, [.int fa, .int tr, .ref so, .ref sl, .ref ce, .int (nI n), .int bar, .int (nI tn), .ref ki, .ref si, .ref th, .ref ri, .int at_, .int rp, .ref rk, .ref rs, .ref kt, .ref kr, .int kn, .int rg, .ref ab, .int am, .ref bh, .int (mny a b cc), .int br, .int (nI rn), .ref wa, .ref ra])), (ki, .inl (cI, 9, .inl kd)), (si, .inl (cI, 9, .inl sd)), (bh, .inl (cI, 3, .inl bv))] := hD
              refine lv_aload_n hx hb dX7_tryThrees_114 rfl (lv_at hl 3 rfl) ?_
              refine lv_iload hx hb dX7_tryThrees_115 (lv_at hl 1 rfl) ?_
              refine va_put (D := D) (ci := 7) (v := .int (lou n kd sd a b cc)) (ty := .int) (C := RX7) (T := TX7) (N := 28) hx hb hts iX7 tyX7 tyX7_ok nmX7 hown hK hP hD hS 0 rfl rfl 24 (by decide) f186 (fun _ h9 => h9) rfl (by decide +kernel) rfl rfl (Nat.le_of_ble_eq_true rfl) dX7_tryThrees_117 (fun H locs hP hD hS => ?_)
              have hP : va_P D vwCl [(x, .inr (7, [.int fa, .int tr, .ref so, .ref sl, .ref ce, .int (nI n), .int bar, .int (nI tn), .ref ki, .ref si, .ref th, .ref ri, .int at_, .int rp, .ref rk, .ref rs, .ref kt, .ref kr, .int kn, .int rg, .ref ab, .int am, .ref bh, .int (mny a b cc), .int (lou n kd sd a b cc), .int (nI rn), .ref wa, .ref ra])), (ki, .inl (cI, 9, .inl kd)), (si, .inl (cI, 9, .inl sd)), (bh, .inl (cI, 3, .inl bv))] H := hP
              have hD : va_D A [(x, .inr (7, [.int fa, .int tr, .ref so, .ref sl, .ref ce, .int (nI n), .int bar, .int (nI tn), .ref ki, .ref si, .ref th, .ref ri, .int at_, .int rp, .ref rk, .ref rs, .ref kt, .ref kr, .int kn, .int rg, .ref ab, .int am, .ref bh, .int (mny a b cc), .int (lou n kd sd a b cc), .int (nI rn), .ref wa, .ref ra])), (ki, .inl (cI, 9, .inl kd)), (si, .inl (cI, 9, .inl sd)), (bh, .inl (cI, 3, .inl bv))] := hD
              refine lv_aload_n hx hb dX7_tryThrees_120 rfl (lv_at hl 3 rfl) ?_
              refine va_get (D := D) (ci := 7) (v := .ref bh) (C := RX7) (T := TX7) (N := 28) hx hb hts iX7 hown hK hP 0 rfl rfl 22 (by decide) f46 (fun _ h9 => h9) rfl dX7_tryThrees_121 ?_
              refine lv_iconst (v := 0) hx hb dX7_tryThrees_124 (by decide) ?_
              refine lv_iload_n hx hb dX7_tryThrees_125 rfl (lv_at hl 4 rfl) ?_
              refine va_iast hx hb hK hP hD hS 3 0 rfl rfl (show vp_in (nI 0) _ from vp_in_nI (by decide) (by decide)) dX7_tryThrees_126 (fun H locs hP hD hS => ?_)
              rw [show (0 : Int32).toNatClampNeg = 0 from by decide] at hP hD
              have hP : va_P D vwCl [(x, .inr (7, [.int fa, .int tr, .ref so, .ref sl, .ref ce, .int (nI n), .int bar, .int (nI tn), .ref ki, .ref si, .ref th, .ref ri, .int at_, .int rp, .ref rk, .ref rs, .ref kt, .ref kr, .int kn, .int rg, .ref ab, .int am, .ref bh, .int (mny a b cc), .int (lou n kd sd a b cc), .int (nI rn), .ref wa, .ref ra])), (ki, .inl (cI, 9, .inl kd)), (si, .inl (cI, 9, .inl sd)), (bh, .inl (cI, 3, .inl (upd bv 0 a)))] H := hP
              have hD : va_D A [(x, .inr (7, [.int fa, .int tr, .ref so, .ref sl, .ref ce, .int (nI n), .int bar, .int (nI tn), .ref ki, .ref si, .ref th, .ref ri, .int at_, .int rp, .ref rk, .ref rs, .ref kt, .ref kr, .int kn, .int rg, .ref ab, .int am, .ref bh, .int (mny a b cc), .int (lou n kd sd a b cc), .int (nI rn), .ref wa, .ref ra])), (ki, .inl (cI, 9, .inl kd)), (si, .inl (cI, 9, .inl sd)), (bh, .inl (cI, 3, .inl (upd bv 0 a)))] := hD
              refine lv_aload_n hx hb dX7_tryThrees_127 rfl (lv_at hl 3 rfl) ?_
              refine va_get (D := D) (ci := 7) (v := .ref bh) (C := RX7) (T := TX7) (N := 28) hx hb hts iX7 hown hK hP 0 rfl rfl 22 (by decide) f46 (fun _ h9 => h9) rfl dX7_tryThrees_128 ?_
              refine lv_iconst (v := 1) hx hb dX7_tryThrees_131 (by decide) ?_
              refine lv_iload_n hx hb dX7_tryThrees_132 rfl (lv_at hl 5 rfl) ?_
              refine va_iast hx hb hK hP hD hS 3 0 rfl rfl (show vp_in (nI 1) _ from vp_in_nI (by decide) (by decide)) dX7_tryThrees_133 (fun H locs hP hD hS => ?_)
              rw [show (1 : Int32).toNatClampNeg = 1 from by decide] at hP hD
              have hP : va_P D vwCl [(x, .inr (7, [.int fa, .int tr, .ref so, .ref sl, .ref ce, .int (nI n), .int bar, .int (nI tn), .ref ki, .ref si, .ref th, .ref ri, .int at_, .int rp, .ref rk, .ref rs, .ref kt, .ref kr, .int kn, .int rg, .ref ab, .int am, .ref bh, .int (mny a b cc), .int (lou n kd sd a b cc), .int (nI rn), .ref wa, .ref ra])), (ki, .inl (cI, 9, .inl kd)), (si, .inl (cI, 9, .inl sd)), (bh, .inl (cI, 3, .inl (upd (upd bv 0 a) 1 b)))] H := hP
              have hD : va_D A [(x, .inr (7, [.int fa, .int tr, .ref so, .ref sl, .ref ce, .int (nI n), .int bar, .int (nI tn), .ref ki, .ref si, .ref th, .ref ri, .int at_, .int rp, .ref rk, .ref rs, .ref kt, .ref kr, .int kn, .int rg, .ref ab, .int am, .ref bh, .int (mny a b cc), .int (lou n kd sd a b cc), .int (nI rn), .ref wa, .ref ra])), (ki, .inl (cI, 9, .inl kd)), (si, .inl (cI, 9, .inl sd)), (bh, .inl (cI, 3, .inl (upd (upd bv 0 a) 1 b)))] := hD
              refine lv_aload_n hx hb dX7_tryThrees_134 rfl (lv_at hl 3 rfl) ?_
              refine va_get (D := D) (ci := 7) (v := .ref bh) (C := RX7) (T := TX7) (N := 28) hx hb hts iX7 hown hK hP 0 rfl rfl 22 (by decide) f46 (fun _ h9 => h9) rfl dX7_tryThrees_135 ?_
              refine lv_iconst (v := 2) hx hb dX7_tryThrees_138 (by decide) ?_
              refine lv_iload_n hx hb dX7_tryThrees_139 rfl (lv_at hl 6 rfl) ?_
              refine va_iast hx hb hK hP hD hS 3 0 rfl rfl (show vp_in (nI 2) _ from vp_in_nI (by decide) (by decide)) dX7_tryThrees_140 (fun H locs hP hD hS => ?_)
              rw [show (2 : Int32).toNatClampNeg = 2 from by decide] at hP hD
              have hP : va_P D vwCl [(x, .inr (7, [.int fa, .int tr, .ref so, .ref sl, .ref ce, .int (nI n), .int bar, .int (nI tn), .ref ki, .ref si, .ref th, .ref ri, .int at_, .int rp, .ref rk, .ref rs, .ref kt, .ref kr, .int kn, .int rg, .ref ab, .int am, .ref bh, .int (mny a b cc), .int (lou n kd sd a b cc), .int (nI rn), .ref wa, .ref ra])), (ki, .inl (cI, 9, .inl kd)), (si, .inl (cI, 9, .inl sd)), (bh, .inl (cI, 3, .inl (upd (upd (upd bv 0 a) 1 b) 2 cc)))] H := hP
              have hD : va_D A [(x, .inr (7, [.int fa, .int tr, .ref so, .ref sl, .ref ce, .int (nI n), .int bar, .int (nI tn), .ref ki, .ref si, .ref th, .ref ri, .int at_, .int rp, .ref rk, .ref rs, .ref kt, .ref kr, .int kn, .int rg, .ref ab, .int am, .ref bh, .int (mny a b cc), .int (lou n kd sd a b cc), .int (nI rn), .ref wa, .ref ra])), (ki, .inl (cI, 9, .inl kd)), (si, .inl (cI, 9, .inl sd)), (bh, .inl (cI, 3, .inl (upd (upd (upd bv 0 a) 1 b) 2 cc)))] := hD
              exact W.vret hx hb hr (fun t ht hW => ⟨⟨(mny a b cc, lou n kd sd a b cc, upd (upd (upd bv 0 a) 1 b) 2 cc), rfl, by simp [ttZ, hbt], by rw [ht]; exact hP, va_K.moved hW.alike hK, hD⟩, hS.F ht⟩) hS.2.2 dX7_tryThrees_141
            · -- f74
              refine lv_iload hx hb dX7_tryThrees_77 (lv_at hl 0 rfl) ?_
              refine lv_aload_n hx hb dX7_tryThrees_79 rfl (lv_at hl 2 rfl) ?_
              refine va_get (D := D) (ci := 7) (v := .int br) (C := RX7) (T := TX7) (N := 28) hx hb hts iX7 hown hK hP 0 rfl rfl 24 (by decide) f186 (fun _ h9 => h9) rfl dX7_tryThrees_80 ?_
              refine lv_icmp_ne (tgt := 100) hx hb dX7_tryThrees_83 (by decide) (fun c83 => ?_) (fun c83 => ?_)
              · -- t83
                have hbt : ttB n kd sd (bm, br, bv) a b cc = false := by unfold ttB; simp only [c56, c74, c83, decide_false, Bool.false_and, Bool.or_false, Bool.and_false]
                refine lv_iconst (v := 0) hx hb dX7_tryThrees_100 (by decide) ?_
                refine lv_istore (lv' := [(6, .int 0), (5, .int (lou n kd sd a b cc)), (4, .int (mny a b cc)), (0, .ref x), (1, .int a), (2, .int b), (3, .int cc)]) hx hb dX7_tryThrees_101 hl (by decide) rfl (fun ls hl => ?_)
                refine lv_iload hx hb dX7_tryThrees_103 (lv_at hl 0 rfl) ?_
                refine lv_if_eq (tgt := 141) hx hb dX7_tryThrees_105 (by decide) (fun _ => ?_) (fun h => absurd (by decide) h)
                exact W.vret hx hb hr (fun t ht hW => ⟨⟨(bm, br, bv), rfl, by simp [ttZ, hbt], by rw [ht]; exact hP, va_K.moved hW.alike hK, hD⟩, hS.F ht⟩) hS.2.2 dX7_tryThrees_141
              · -- f83
                refine lv_aload_n hx hb dX7_tryThrees_86 rfl (lv_at hl 2 rfl) ?_
                refine lv_iload_n hx hb dX7_tryThrees_87 rfl (lv_at hl 3 rfl) ?_
                refine lv_iload_n hx hb dX7_tryThrees_88 rfl (lv_at hl 4 rfl) ?_
                refine lv_iload_n hx hb dX7_tryThrees_89 rfl (lv_at hl 5 rfl) ?_
                have hPc := hP.sub (ws' := [(x, .inr (7, [.int fa, .int tr, .ref so, .ref sl, .ref ce, .int (nI n), .int bar, .int (nI tn), .ref ki, .ref si, .ref th, .ref ri, .int at_, .int rp, .ref rk, .ref rs, .ref kt, .ref kr, .int kn, .int rg, .ref ab, .int am, .ref bh, .int bm, .int br, .int (nI rn), .ref wa, .ref ra])), (bh, .inl (cI, 3, .inl bv))]) [0, 3] rfl
                refine vp_callSi (va_Run.run (va_runV (As := [.int a, .int b, .int cc]) (rest := []) ⟨hx, hb, hml, hown, hts⟩ (c_X7_isAhead l D cI cO x fa tr so sl ce n bar tn ki si th ri at_ rp rk rs kt kr kn rg ab am bh bm br rn wa ra bv a b cc (by assumption)) (cwV 3 hts gX7_tryThrees_X7_isAhead rfl rfl rfl (by decide +kernel) ⟨Nat.le_of_ble_eq_true rfl, Nat.le_of_ble_eq_true rfl⟩) (preVR hPc hK hNw (va_recv hK hPc (ci := 7) (q0 := 0) rfl rfl)) rfl rfl hl.1 rfl (lv_room (Nat.le_of_ble_eq_true rfl)) dX7_tryThrees_90 ⟨Nat.zero_le _, Nat.zero_le _⟩)) (fun r90 w90 => ?_)
                by_cases b90 : ahW a b cc (bv 0) (bv 1) (bv 2) n 0 = true
                · -- y90
                  obtain rfl := w90.1 b90
                  have hbt : ttB n kd sd (bm, br, bv) a b cc = true := by simp [ttB, c65, c83, b90]
                  refine lv_if_eq (tgt := 100) hx hb dX7_tryThrees_93 (by decide) (fun h => absurd h (by decide)) (fun _ => ?_)
                  refine lv_iconst (v := 1) hx hb dX7_tryThrees_96 (by decide) ?_
                  refine lv_goto (tgt := 101) hx hb dX7_tryThrees_97 (by decide) ?_
                  refine lv_istore (lv' := [(6, .int 1), (5, .int (lou n kd sd a b cc)), (4, .int (mny a b cc)), (0, .ref x), (1, .int a), (2, .int b), (3, .int cc)]) hx hb dX7_tryThrees_101 hl (by decide) rfl (fun ls hl => ?_)
                  refine lv_iload hx hb dX7_tryThrees_103 (lv_at hl 0 rfl) ?_
                  refine lv_if_eq (tgt := 141) hx hb dX7_tryThrees_105 (by decide) (fun h => absurd h (by decide)) (fun _ => ?_)
                  refine lv_aload_n hx hb dX7_tryThrees_108 rfl (lv_at hl 3 rfl) ?_
                  refine lv_iload hx hb dX7_tryThrees_109 (lv_at hl 2 rfl) ?_
                  refine va_put (D := D) (ci := 7) (v := .int (mny a b cc)) (ty := .int) (C := RX7) (T := TX7) (N := 28) hx hb hts iX7 tyX7 tyX7_ok nmX7 hown hK hP hD hS 0 rfl rfl 23 (by decide) f183 (fun _ h9 => h9) rfl (by decide +kernel) rfl rfl (Nat.le_of_ble_eq_true rfl) dX7_tryThrees_111 (fun H locs hP hD hS => ?_)
                  have hP : va_P D vwCl [(x, .inr (7, [.int fa, .int tr, .ref so, .ref sl, .ref ce, .int (nI n), .int bar, .int (nI tn), .ref ki, .ref si, .ref th, .ref ri, .int at_, .int rp, .ref rk, .ref rs, .ref kt, .ref kr, .int kn, .int rg, .ref ab, .int am, .ref bh, .int (mny a b cc), .int br, .int (nI rn), .ref wa, .ref ra])), (ki, .inl (cI, 9, .inl kd)), (si, .inl (cI, 9, .inl sd)), (bh, .inl (cI, 3, .inl bv))] H := hP
                  have hD : va_D A [(x, .inr (7, [.int fa, .int tr, .ref so, .ref sl, .ref ce, .int (nI n), .int bar, .int (nI tn), .ref ki, .ref si, .ref th, .ref ri, .int at_, .int rp, .ref rk, .ref rs, .ref kt, .ref kr, .int kn, .int rg, .ref ab, .int am, .ref bh, .int (mny a b cc), .int br, .int (nI rn), .ref wa, .ref ra])), (ki, .inl (cI, 9, .inl kd)), (si, .inl (cI, 9, .inl sd)), (bh, .inl (cI, 3, .inl bv))] := hD
                  refine lv_aload_n hx hb dX7_tryThrees_114 rfl (lv_at hl 3 rfl) ?_
                  refine lv_iload hx hb dX7_tryThrees_115 (lv_at hl 1 rfl) ?_
                  refine va_put (D := D) (ci := 7) (v := .int (lou n kd sd a b cc)) (ty := .int) (C := RX7) (T := TX7) (N := 28) hx hb hts iX7 tyX7 tyX7_ok nmX7 hown hK hP hD hS 0 rfl rfl 24 (by decide) f186 (fun _ h9 => h9) rfl (by decide +kernel) rfl rfl (Nat.le_of_ble_eq_true rfl) dX7_tryThrees_117 (fun H locs hP hD hS => ?_)
                  have hP : va_P D vwCl [(x, .inr (7, [.int fa, .int tr, .ref so, .ref sl, .ref ce, .int (nI n), .int bar, .int (nI tn), .ref ki, .ref si, .ref th, .ref ri, .int at_, .int rp, .ref rk, .ref rs, .ref kt, .ref kr, .int kn, .int rg, .ref ab, .int am, .ref bh, .int (mny a b cc), .int (lou n kd sd a b cc), .int (nI rn), .ref wa, .ref ra])), (ki, .inl (cI, 9, .inl kd)), (si, .inl (cI, 9, .inl sd)), (bh, .inl (cI, 3, .inl bv))] H := hP
                  have hD : va_D A [(x, .inr (7, [.int fa, .int tr, .ref so, .ref sl, .ref ce, .int (nI n), .int bar, .int (nI tn), .ref ki, .ref si, .ref th, .ref ri, .int at_, .int rp, .ref rk, .ref rs, .ref kt, .ref kr, .int kn, .int rg, .ref ab, .int am, .ref bh, .int (mny a b cc), .int (lou n kd sd a b cc), .int (nI rn), .ref wa, .ref ra])), (ki, .inl (cI, 9, .inl kd)), (si, .inl (cI, 9, .inl sd)), (bh, .inl (cI, 3, .inl bv))] := hD
                  refine lv_aload_n hx hb dX7_tryThrees_120 rfl (lv_at hl 3 rfl) ?_
                  refine va_get (D := D) (ci := 7) (v := .ref bh) (C := RX7) (T := TX7) (N := 28) hx hb hts iX7 hown hK hP 0 rfl rfl 22 (by decide) f46 (fun _ h9 => h9) rfl dX7_tryThrees_121 ?_
                  refine lv_iconst (v := 0) hx hb dX7_tryThrees_124 (by decide) ?_
                  refine lv_iload_n hx hb dX7_tryThrees_125 rfl (lv_at hl 4 rfl) ?_
                  refine va_iast hx hb hK hP hD hS 3 0 rfl rfl (show vp_in (nI 0) _ from vp_in_nI (by decide) (by decide)) dX7_tryThrees_126 (fun H locs hP hD hS => ?_)
                  rw [show (0 : Int32).toNatClampNeg = 0 from by decide] at hP hD
                  have hP : va_P D vwCl [(x, .inr (7, [.int fa, .int tr, .ref so, .ref sl, .ref ce, .int (nI n), .int bar, .int (nI tn), .ref ki, .ref si, .ref th, .ref ri, .int at_, .int rp, .ref rk, .ref rs, .ref kt, .ref kr, .int kn, .int rg, .ref ab, .int am, .ref bh, .int (mny a b cc), .int (lou n kd sd a b cc), .int (nI rn), .ref wa, .ref ra])), (ki, .inl (cI, 9, .inl kd)), (si, .inl (cI, 9, .inl sd)), (bh, .inl (cI, 3, .inl (upd bv 0 a)))] H := hP
                  have hD : va_D A [(x, .inr (7, [.int fa, .int tr, .ref so, .ref sl, .ref ce, .int (nI n), .int bar, .int (nI tn), .ref ki, .ref si, .ref th, .ref ri, .int at_, .int rp, .ref rk, .ref rs, .ref kt, .ref kr, .int kn, .int rg, .ref ab, .int am, .ref bh, .int (mny a b cc), .int (lou n kd sd a b cc), .int (nI rn), .ref wa, .ref ra])), (ki, .inl (cI, 9, .inl kd)), (si, .inl (cI, 9, .inl sd)), (bh, .inl (cI, 3, .inl (upd bv 0 a)))] := hD
                  refine lv_aload_n hx hb dX7_tryThrees_127 rfl (lv_at hl 3 rfl) ?_
                  refine va_get (D := D) (ci := 7) (v := .ref bh) (C := RX7) (T := TX7) (N := 28) hx hb hts iX7 hown hK hP 0 rfl rfl 22 (by decide) f46 (fun _ h9 => h9) rfl dX7_tryThrees_128 ?_
                  refine lv_iconst (v := 1) hx hb dX7_tryThrees_131 (by decide) ?_
                  refine lv_iload_n hx hb dX7_tryThrees_132 rfl (lv_at hl 5 rfl) ?_
                  refine va_iast hx hb hK hP hD hS 3 0 rfl rfl (show vp_in (nI 1) _ from vp_in_nI (by decide) (by decide)) dX7_tryThrees_133 (fun H locs hP hD hS => ?_)
                  rw [show (1 : Int32).toNatClampNeg = 1 from by decide] at hP hD
                  have hP : va_P D vwCl [(x, .inr (7, [.int fa, .int tr, .ref so, .ref sl, .ref ce, .int (nI n), .int bar, .int (nI tn), .ref ki, .ref si, .ref th, .ref ri, .int at_, .int rp, .ref rk, .ref rs, .ref kt, .ref kr, .int kn, .int rg, .ref ab, .int am, .ref bh, .int (mny a b cc), .int (lou n kd sd a b cc), .int (nI rn), .ref wa, .ref ra])), (ki, .inl (cI, 9, .inl kd)), (si, .inl (cI, 9, .inl sd)), (bh, .inl (cI, 3, .inl (upd (upd bv 0 a) 1 b)))] H := hP
                  have hD : va_D A [(x, .inr (7, [.int fa, .int tr, .ref so, .ref sl, .ref ce, .int (nI n), .int bar, .int (nI tn), .ref ki, .ref si, .ref th, .ref ri, .int at_, .int rp, .ref rk, .ref rs, .ref kt, .ref kr, .int kn, .int rg, .ref ab, .int am, .ref bh, .int (mny a b cc), .int (lou n kd sd a b cc), .int (nI rn), .ref wa, .ref ra])), (ki, .inl (cI, 9, .inl kd)), (si, .inl (cI, 9, .inl sd)), (bh, .inl (cI, 3, .inl (upd (upd bv 0 a) 1 b)))] := hD
                  refine lv_aload_n hx hb dX7_tryThrees_134 rfl (lv_at hl 3 rfl) ?_
                  refine va_get (D := D) (ci := 7) (v := .ref bh) (C := RX7) (T := TX7) (N := 28) hx hb hts iX7 hown hK hP 0 rfl rfl 22 (by decide) f46 (fun _ h9 => h9) rfl dX7_tryThrees_135 ?_
                  refine lv_iconst (v := 2) hx hb dX7_tryThrees_138 (by decide) ?_
                  refine lv_iload_n hx hb dX7_tryThrees_139 rfl (lv_at hl 6 rfl) ?_
                  refine va_iast hx hb hK hP hD hS 3 0 rfl rfl (show vp_in (nI 2) _ from vp_in_nI (by decide) (by decide)) dX7_tryThrees_140 (fun H locs hP hD hS => ?_)
                  rw [show (2 : Int32).toNatClampNeg = 2 from by decide] at hP hD
                  have hP : va_P D vwCl [(x, .inr (7, [.int fa, .int tr, .ref so, .ref sl, .ref ce, .int (nI n), .int bar, .int (nI tn), .ref ki, .ref si, .ref th, .ref ri, .int at_, .int rp, .ref rk, .ref rs, .ref kt, .ref kr, .int kn, .int rg, .ref ab, .int am, .ref bh, .int (mny a b cc), .int (lou n kd sd a b cc), .int (nI rn), .ref wa, .ref ra])), (ki, .inl (cI, 9, .inl kd)), (si, .inl (cI, 9, .inl sd)), (bh, .inl (cI, 3, .inl (upd (upd (upd bv 0 a) 1 b) 2 cc)))] H := hP
                  have hD : va_D A [(x, .inr (7, [.int fa, .int tr, .ref so, .ref sl, .ref ce, .int (nI n), .int bar, .int (nI tn), .ref ki, .ref si, .ref th, .ref ri, .int at_, .int rp, .ref rk, .ref rs, .ref kt, .ref kr, .int kn, .int rg, .ref ab, .int am, .ref bh, .int (mny a b cc), .int (lou n kd sd a b cc), .int (nI rn), .ref wa, .ref ra])), (ki, .inl (cI, 9, .inl kd)), (si, .inl (cI, 9, .inl sd)), (bh, .inl (cI, 3, .inl (upd (upd (upd bv 0 a) 1 b) 2 cc)))] := hD
                  exact W.vret hx hb hr (fun t ht hW => ⟨⟨(mny a b cc, lou n kd sd a b cc, upd (upd (upd bv 0 a) 1 b) 2 cc), rfl, by simp [ttZ, hbt], by rw [ht]; exact hP, va_K.moved hW.alike hK, hD⟩, hS.F ht⟩) hS.2.2 dX7_tryThrees_141
                · -- n90
                  obtain rfl := w90.2 b90
                  have hbt : ttB n kd sd (bm, br, bv) a b cc = false := by rw [Bool.not_eq_true] at b90; unfold ttB; simp only [c56, c74, b90, decide_false, Bool.or_false, Bool.and_false]
                  refine lv_if_eq (tgt := 100) hx hb dX7_tryThrees_93 (by decide) (fun _ => ?_) (fun h => absurd (by decide) h)
                  refine lv_iconst (v := 0) hx hb dX7_tryThrees_100 (by decide) ?_
                  refine lv_istore (lv' := [(6, .int 0), (5, .int (lou n kd sd a b cc)), (4, .int (mny a b cc)), (0, .ref x), (1, .int a), (2, .int b), (3, .int cc)]) hx hb dX7_tryThrees_101 hl (by decide) rfl (fun ls hl => ?_)
                  refine lv_iload hx hb dX7_tryThrees_103 (lv_at hl 0 rfl) ?_
                  refine lv_if_eq (tgt := 141) hx hb dX7_tryThrees_105 (by decide) (fun _ => ?_) (fun h => absurd (by decide) h)
                  exact W.vret hx hb hr (fun t ht hW => ⟨⟨(bm, br, bv), rfl, by simp [ttZ, hbt], by rw [ht]; exact hP, va_K.moved hW.alike hK, hD⟩, hS.F ht⟩) hS.2.2 dX7_tryThrees_141
  · -- f1
    refine lv_iconst (v := 0) hx hb dX7_tryThrees_4 (by decide) ?_
    refine lv_goto (tgt := 9) hx hb dX7_tryThrees_5 (by decide) ?_
    refine tp_i (y := one0 a) (by simp [one0, c1]) ?_
    refine lv_iload_n hx hb dX7_tryThrees_9 rfl (lv_at hl 2 rfl) ?_
    refine lv_if_ne (tgt := 17) hx hb dX7_tryThrees_10 (by decide) (fun c10 => ?_) (fun c10 => ?_)
    · -- t10
      refine lv_iconst (v := 1) hx hb dX7_tryThrees_17 (by decide) ?_
      refine tp_i (y := one0 b) (by simp [one0, c10]) ?_
      refine lv_iadd hx hb dX7_tryThrees_18 ?_
      refine lv_iload_n hx hb dX7_tryThrees_19 rfl (lv_at hl 3 rfl) ?_
      refine lv_if_ne (tgt := 27) hx hb dX7_tryThrees_20 (by decide) (fun c20 => ?_) (fun c20 => ?_)
      · -- t20
        refine lv_iconst (v := 1) hx hb dX7_tryThrees_27 (by decide) ?_
        refine tp_i (y := one0 cc) (by simp [one0, c20]) ?_
        refine lv_iadd hx hb dX7_tryThrees_28 ?_
        refine tp_i (y := mny a b cc) (rfl) ?_
        refine lv_istore (lv' := [(4, .int (mny a b cc)), (0, .ref x), (1, .int a), (2, .int b), (3, .int cc)]) hx hb dX7_tryThrees_29 hl (by decide) rfl (fun ls hl => ?_)
        refine lv_aload_n hx hb dX7_tryThrees_31 rfl (lv_at hl 1 rfl) ?_
        refine lv_iload_n hx hb dX7_tryThrees_32 rfl (lv_at hl 2 rfl) ?_
        have hPc := hP.sub (ws' := [(x, .inr (7, [.int fa, .int tr, .ref so, .ref sl, .ref ce, .int (nI n), .int bar, .int (nI tn), .ref ki, .ref si, .ref th, .ref ri, .int at_, .int rp, .ref rk, .ref rs, .ref kt, .ref kr, .int kn, .int rg, .ref ab, .int am, .ref bh, .int bm, .int br, .int (nI rn), .ref wa, .ref ra])), (ki, .inl (cI, 9, .inl kd)), (si, .inl (cI, 9, .inl sd))]) [0, 1, 2] rfl
        refine vp_callSi (va_Run.run (va_runV (As := [.int a]) (rest := []) ⟨hx, hb, hml, hown, hts⟩ (c_X7_ringsOf l D cI cO x fa tr so sl ce n bar tn ki si th ri at_ rp rk rs kt kr kn rg ab am bh bm br rn wa ra kd sd a (by assumption) (by assumption)) (cwV 1 hts gX7_tryThrees_X7_ringsOf rfl rfl rfl (by decide +kernel) ⟨Nat.le_of_ble_eq_true rfl, Nat.le_of_ble_eq_true rfl⟩) (preVR hPc hK hNw (va_recv hK hPc (ci := 7) (q0 := 0) rfl rfl)) rfl rfl hl.1 rfl (lv_room (Nat.le_of_ble_eq_true rfl)) dX7_tryThrees_33 ⟨Nat.zero_le _, Nat.zero_le _⟩)) (fun r33 w33 => ?_)
        obtain rfl := w33
        refine lv_aload_n hx hb dX7_tryThrees_36 rfl (lv_at hl 1 rfl) ?_
        refine lv_iload_n hx hb dX7_tryThrees_37 rfl (lv_at hl 3 rfl) ?_
        have hPc := hP.sub (ws' := [(x, .inr (7, [.int fa, .int tr, .ref so, .ref sl, .ref ce, .int (nI n), .int bar, .int (nI tn), .ref ki, .ref si, .ref th, .ref ri, .int at_, .int rp, .ref rk, .ref rs, .ref kt, .ref kr, .int kn, .int rg, .ref ab, .int am, .ref bh, .int bm, .int br, .int (nI rn), .ref wa, .ref ra])), (ki, .inl (cI, 9, .inl kd)), (si, .inl (cI, 9, .inl sd))]) [0, 1, 2] rfl
        refine vp_callSi (va_Run.run (va_runV (As := [.int b]) (rest := [.int (sumW (rgF kd sd) a n)]) ⟨hx, hb, hml, hown, hts⟩ (c_X7_ringsOf l D cI cO x fa tr so sl ce n bar tn ki si th ri at_ rp rk rs kt kr kn rg ab am bh bm br rn wa ra kd sd b (by assumption) (by assumption)) (cwV 1 hts gX7_tryThrees_X7_ringsOf rfl rfl rfl (by decide +kernel) ⟨Nat.le_of_ble_eq_true rfl, Nat.le_of_ble_eq_true rfl⟩) (preVR hPc hK hNw (va_recv hK hPc (ci := 7) (q0 := 0) rfl rfl)) rfl rfl hl.1 rfl (lv_room (Nat.le_of_ble_eq_true rfl)) dX7_tryThrees_38 ⟨Nat.zero_le _, Nat.zero_le _⟩)) (fun r38 w38 => ?_)
        obtain rfl := w38
        refine lv_iadd hx hb dX7_tryThrees_41 ?_
        refine lv_aload_n hx hb dX7_tryThrees_42 rfl (lv_at hl 1 rfl) ?_
        refine lv_iload_n hx hb dX7_tryThrees_43 rfl (lv_at hl 4 rfl) ?_
        have hPc := hP.sub (ws' := [(x, .inr (7, [.int fa, .int tr, .ref so, .ref sl, .ref ce, .int (nI n), .int bar, .int (nI tn), .ref ki, .ref si, .ref th, .ref ri, .int at_, .int rp, .ref rk, .ref rs, .ref kt, .ref kr, .int kn, .int rg, .ref ab, .int am, .ref bh, .int bm, .int br, .int (nI rn), .ref wa, .ref ra])), (ki, .inl (cI, 9, .inl kd)), (si, .inl (cI, 9, .inl sd))]) [0, 1, 2] rfl
        refine vp_callSi (va_Run.run (va_runV (As := [.int cc]) (rest := [.int ((sumW (rgF kd sd) a n) + (sumW (rgF kd sd) b n))]) ⟨hx, hb, hml, hown, hts⟩ (c_X7_ringsOf l D cI cO x fa tr so sl ce n bar tn ki si th ri at_ rp rk rs kt kr kn rg ab am bh bm br rn wa ra kd sd cc (by assumption) (by assumption)) (cwV 1 hts gX7_tryThrees_X7_ringsOf rfl rfl rfl (by decide +kernel) ⟨Nat.le_of_ble_eq_true rfl, Nat.le_of_ble_eq_true rfl⟩) (preVR hPc hK hNw (va_recv hK hPc (ci := 7) (q0 := 0) rfl rfl)) rfl rfl hl.1 rfl (lv_room (Nat.le_of_ble_eq_true rfl)) dX7_tryThrees_44 ⟨Nat.zero_le _, Nat.zero_le _⟩)) (fun r44 w44 => ?_)
        obtain rfl := w44
        refine lv_iadd hx hb dX7_tryThrees_47 ?_
        refine tp_i (y := lou n kd sd a b cc) (rfl) ?_
        refine lv_istore (lv' := [(5, .int (lou n kd sd a b cc)), (4, .int (mny a b cc)), (0, .ref x), (1, .int a), (2, .int b), (3, .int cc)]) hx hb dX7_tryThrees_48 hl (by decide) rfl (fun ls hl => ?_)
        refine lv_iload hx hb dX7_tryThrees_50 (lv_at hl 1 rfl) ?_
        refine lv_aload_n hx hb dX7_tryThrees_52 rfl (lv_at hl 2 rfl) ?_
        refine va_get (D := D) (ci := 7) (v := .int bm) (C := RX7) (T := TX7) (N := 28) hx hb hts iX7 hown hK hP 0 rfl rfl 23 (by decide) f183 (fun _ h9 => h9) rfl dX7_tryThrees_53 ?_
        refine lv_icmp_gt (tgt := 96) hx hb dX7_tryThrees_56 (by decide) (fun c56 => ?_) (fun c56 => ?_)
        · -- t56
          have hbt : ttB n kd sd (bm, br, bv) a b cc = true := by simp [ttB, c56]
          refine lv_iconst (v := 1) hx hb dX7_tryThrees_96 (by decide) ?_
          refine lv_goto (tgt := 101) hx hb dX7_tryThrees_97 (by decide) ?_
          refine lv_istore (lv' := [(6, .int 1), (5, .int (lou n kd sd a b cc)), (4, .int (mny a b cc)), (0, .ref x), (1, .int a), (2, .int b), (3, .int cc)]) hx hb dX7_tryThrees_101 hl (by decide) rfl (fun ls hl => ?_)
          refine lv_iload hx hb dX7_tryThrees_103 (lv_at hl 0 rfl) ?_
          refine lv_if_eq (tgt := 141) hx hb dX7_tryThrees_105 (by decide) (fun h => absurd h (by decide)) (fun _ => ?_)
          refine lv_aload_n hx hb dX7_tryThrees_108 rfl (lv_at hl 3 rfl) ?_
          refine lv_iload hx hb dX7_tryThrees_109 (lv_at hl 2 rfl) ?_
          refine va_put (D := D) (ci := 7) (v := .int (mny a b cc)) (ty := .int) (C := RX7) (T := TX7) (N := 28) hx hb hts iX7 tyX7 tyX7_ok nmX7 hown hK hP hD hS 0 rfl rfl 23 (by decide) f183 (fun _ h9 => h9) rfl (by decide +kernel) rfl rfl (Nat.le_of_ble_eq_true rfl) dX7_tryThrees_111 (fun H locs hP hD hS => ?_)
          have hP : va_P D vwCl [(x, .inr (7, [.int fa, .int tr, .ref so, .ref sl, .ref ce, .int (nI n), .int bar, .int (nI tn), .ref ki, .ref si, .ref th, .ref ri, .int at_, .int rp, .ref rk, .ref rs, .ref kt, .ref kr, .int kn, .int rg, .ref ab, .int am, .ref bh, .int (mny a b cc), .int br, .int (nI rn), .ref wa, .ref ra])), (ki, .inl (cI, 9, .inl kd)), (si, .inl (cI, 9, .inl sd)), (bh, .inl (cI, 3, .inl bv))] H := hP
          have hD : va_D A [(x, .inr (7, [.int fa, .int tr, .ref so, .ref sl, .ref ce, .int (nI n), .int bar, .int (nI tn), .ref ki, .ref si, .ref th, .ref ri, .int at_, .int rp, .ref rk, .ref rs, .ref kt, .ref kr, .int kn, .int rg, .ref ab, .int am, .ref bh, .int (mny a b cc), .int br, .int (nI rn), .ref wa, .ref ra])), (ki, .inl (cI, 9, .inl kd)), (si, .inl (cI, 9, .inl sd)), (bh, .inl (cI, 3, .inl bv))] := hD
          refine lv_aload_n hx hb dX7_tryThrees_114 rfl (lv_at hl 3 rfl) ?_
          refine lv_iload hx hb dX7_tryThrees_115 (lv_at hl 1 rfl) ?_
          refine va_put (D := D) (ci := 7) (v := .int (lou n kd sd a b cc)) (ty := .int) (C := RX7) (T := TX7) (N := 28) hx hb hts iX7 tyX7 tyX7_ok nmX7 hown hK hP hD hS 0 rfl rfl 24 (by decide) f186 (fun _ h9 => h9) rfl (by decide +kernel) rfl rfl (Nat.le_of_ble_eq_true rfl) dX7_tryThrees_117 (fun H locs hP hD hS => ?_)
          have hP : va_P D vwCl [(x, .inr (7, [.int fa, .int tr, .ref so, .ref sl, .ref ce, .int (nI n), .int bar, .int (nI tn), .ref ki, .ref si, .ref th, .ref ri, .int at_, .int rp, .ref rk, .ref rs, .ref kt, .ref kr, .int kn, .int rg, .ref ab, .int am, .ref bh, .int (mny a b cc), .int (lou n kd sd a b cc), .int (nI rn), .ref wa, .ref ra])), (ki, .inl (cI, 9, .inl kd)), (si, .inl (cI, 9, .inl sd)), (bh, .inl (cI, 3, .inl bv))] H := hP
          have hD : va_D A [(x, .inr (7, [.int fa, .int tr, .ref so, .ref sl, .ref ce, .int (nI n), .int bar, .int (nI tn), .ref ki, .ref si, .ref th, .ref ri, .int at_, .int rp, .ref rk, .ref rs, .ref kt, .ref kr, .int kn, .int rg, .ref ab, .int am, .ref bh, .int (mny a b cc), .int (lou n kd sd a b cc), .int (nI rn), .ref wa, .ref ra])), (ki, .inl (cI, 9, .inl kd)), (si, .inl (cI, 9, .inl sd)), (bh, .inl (cI, 3, .inl bv))] := hD
          refine lv_aload_n hx hb dX7_tryThrees_120 rfl (lv_at hl 3 rfl) ?_
          refine va_get (D := D) (ci := 7) (v := .ref bh) (C := RX7) (T := TX7) (N := 28) hx hb hts iX7 hown hK hP 0 rfl rfl 22 (by decide) f46 (fun _ h9 => h9) rfl dX7_tryThrees_121 ?_
          refine lv_iconst (v := 0) hx hb dX7_tryThrees_124 (by decide) ?_
          refine lv_iload_n hx hb dX7_tryThrees_125 rfl (lv_at hl 4 rfl) ?_
          refine va_iast hx hb hK hP hD hS 3 0 rfl rfl (show vp_in (nI 0) _ from vp_in_nI (by decide) (by decide)) dX7_tryThrees_126 (fun H locs hP hD hS => ?_)
          rw [show (0 : Int32).toNatClampNeg = 0 from by decide] at hP hD
          have hP : va_P D vwCl [(x, .inr (7, [.int fa, .int tr, .ref so, .ref sl, .ref ce, .int (nI n), .int bar, .int (nI tn), .ref ki, .ref si, .ref th, .ref ri, .int at_, .int rp, .ref rk, .ref rs, .ref kt, .ref kr, .int kn, .int rg, .ref ab, .int am, .ref bh, .int (mny a b cc), .int (lou n kd sd a b cc), .int (nI rn), .ref wa, .ref ra])), (ki, .inl (cI, 9, .inl kd)), (si, .inl (cI, 9, .inl sd)), (bh, .inl (cI, 3, .inl (upd bv 0 a)))] H := hP
          have hD : va_D A [(x, .inr (7, [.int fa, .int tr, .ref so, .ref sl, .ref ce, .int (nI n), .int bar, .int (nI tn), .ref ki, .ref si, .ref th, .ref ri, .int at_, .int rp, .ref rk, .ref rs, .ref kt, .ref kr, .int kn, .int rg, .ref ab, .int am, .ref bh, .int (mny a b cc), .int (lou n kd sd a b cc), .int (nI rn), .ref wa, .ref ra])), (ki, .inl (cI, 9, .inl kd)), (si, .inl (cI, 9, .inl sd)), (bh, .inl (cI, 3, .inl (upd bv 0 a)))] := hD
          refine lv_aload_n hx hb dX7_tryThrees_127 rfl (lv_at hl 3 rfl) ?_
          refine va_get (D := D) (ci := 7) (v := .ref bh) (C := RX7) (T := TX7) (N := 28) hx hb hts iX7 hown hK hP 0 rfl rfl 22 (by decide) f46 (fun _ h9 => h9) rfl dX7_tryThrees_128 ?_
          refine lv_iconst (v := 1) hx hb dX7_tryThrees_131 (by decide) ?_
          refine lv_iload_n hx hb dX7_tryThrees_132 rfl (lv_at hl 5 rfl) ?_
          refine va_iast hx hb hK hP hD hS 3 0 rfl rfl (show vp_in (nI 1) _ from vp_in_nI (by decide) (by decide)) dX7_tryThrees_133 (fun H locs hP hD hS => ?_)
          rw [show (1 : Int32).toNatClampNeg = 1 from by decide] at hP hD
          have hP : va_P D vwCl [(x, .inr (7, [.int fa, .int tr, .ref so, .ref sl, .ref ce, .int (nI n), .int bar, .int (nI tn), .ref ki, .ref si, .ref th, .ref ri, .int at_, .int rp, .ref rk, .ref rs, .ref kt, .ref kr, .int kn, .int rg, .ref ab, .int am, .ref bh, .int (mny a b cc), .int (lou n kd sd a b cc), .int (nI rn), .ref wa, .ref ra])), (ki, .inl (cI, 9, .inl kd)), (si, .inl (cI, 9, .inl sd)), (bh, .inl (cI, 3, .inl (upd (upd bv 0 a) 1 b)))] H := hP
          have hD : va_D A [(x, .inr (7, [.int fa, .int tr, .ref so, .ref sl, .ref ce, .int (nI n), .int bar, .int (nI tn), .ref ki, .ref si, .ref th, .ref ri, .int at_, .int rp, .ref rk, .ref rs, .ref kt, .ref kr, .int kn, .int rg, .ref ab, .int am, .ref bh, .int (mny a b cc), .int (lou n kd sd a b cc), .int (nI rn), .ref wa, .ref ra])), (ki, .inl (cI, 9, .inl kd)), (si, .inl (cI, 9, .inl sd)), (bh, .inl (cI, 3, .inl (upd (upd bv 0 a) 1 b)))] := hD
          refine lv_aload_n hx hb dX7_tryThrees_134 rfl (lv_at hl 3 rfl) ?_
          refine va_get (D := D) (ci := 7) (v := .ref bh) (C := RX7) (T := TX7) (N := 28) hx hb hts iX7 hown hK hP 0 rfl rfl 22 (by decide) f46 (fun _ h9 => h9) rfl dX7_tryThrees_135 ?_
          refine lv_iconst (v := 2) hx hb dX7_tryThrees_138 (by decide) ?_
          refine lv_iload_n hx hb dX7_tryThrees_139 rfl (lv_at hl 6 rfl) ?_
          refine va_iast hx hb hK hP hD hS 3 0 rfl rfl (show vp_in (nI 2) _ from vp_in_nI (by decide) (by decide)) dX7_tryThrees_140 (fun H locs hP hD hS => ?_)
          rw [show (2 : Int32).toNatClampNeg = 2 from by decide] at hP hD
          have hP : va_P D vwCl [(x, .inr (7, [.int fa, .int tr, .ref so, .ref sl, .ref ce, .int (nI n), .int bar, .int (nI tn), .ref ki, .ref si, .ref th, .ref ri, .int at_, .int rp, .ref rk, .ref rs, .ref kt, .ref kr, .int kn, .int rg, .ref ab, .int am, .ref bh, .int (mny a b cc), .int (lou n kd sd a b cc), .int (nI rn), .ref wa, .ref ra])), (ki, .inl (cI, 9, .inl kd)), (si, .inl (cI, 9, .inl sd)), (bh, .inl (cI, 3, .inl (upd (upd (upd bv 0 a) 1 b) 2 cc)))] H := hP
          have hD : va_D A [(x, .inr (7, [.int fa, .int tr, .ref so, .ref sl, .ref ce, .int (nI n), .int bar, .int (nI tn), .ref ki, .ref si, .ref th, .ref ri, .int at_, .int rp, .ref rk, .ref rs, .ref kt, .ref kr, .int kn, .int rg, .ref ab, .int am, .ref bh, .int (mny a b cc), .int (lou n kd sd a b cc), .int (nI rn), .ref wa, .ref ra])), (ki, .inl (cI, 9, .inl kd)), (si, .inl (cI, 9, .inl sd)), (bh, .inl (cI, 3, .inl (upd (upd (upd bv 0 a) 1 b) 2 cc)))] := hD
          exact W.vret hx hb hr (fun t ht hW => ⟨⟨(mny a b cc, lou n kd sd a b cc, upd (upd (upd bv 0 a) 1 b) 2 cc), rfl, by simp [ttZ, hbt], by rw [ht]; exact hP, va_K.moved hW.alike hK, hD⟩, hS.F ht⟩) hS.2.2 dX7_tryThrees_141
        · -- f56
          refine lv_iload hx hb dX7_tryThrees_59 (lv_at hl 1 rfl) ?_
          refine lv_aload_n hx hb dX7_tryThrees_61 rfl (lv_at hl 2 rfl) ?_
          refine va_get (D := D) (ci := 7) (v := .int bm) (C := RX7) (T := TX7) (N := 28) hx hb hts iX7 hown hK hP 0 rfl rfl 23 (by decide) f183 (fun _ h9 => h9) rfl dX7_tryThrees_62 ?_
          refine lv_icmp_ne (tgt := 100) hx hb dX7_tryThrees_65 (by decide) (fun c65 => ?_) (fun c65 => ?_)
          · -- t65
            have hbt : ttB n kd sd (bm, br, bv) a b cc = false := by simp [ttB, c56, c65]
            refine lv_iconst (v := 0) hx hb dX7_tryThrees_100 (by decide) ?_
            refine lv_istore (lv' := [(6, .int 0), (5, .int (lou n kd sd a b cc)), (4, .int (mny a b cc)), (0, .ref x), (1, .int a), (2, .int b), (3, .int cc)]) hx hb dX7_tryThrees_101 hl (by decide) rfl (fun ls hl => ?_)
            refine lv_iload hx hb dX7_tryThrees_103 (lv_at hl 0 rfl) ?_
            refine lv_if_eq (tgt := 141) hx hb dX7_tryThrees_105 (by decide) (fun _ => ?_) (fun h => absurd (by decide) h)
            exact W.vret hx hb hr (fun t ht hW => ⟨⟨(bm, br, bv), rfl, by simp [ttZ, hbt], by rw [ht]; exact hP, va_K.moved hW.alike hK, hD⟩, hS.F ht⟩) hS.2.2 dX7_tryThrees_141
          · -- f65
            refine lv_iload hx hb dX7_tryThrees_68 (lv_at hl 0 rfl) ?_
            refine lv_aload_n hx hb dX7_tryThrees_70 rfl (lv_at hl 2 rfl) ?_
            refine va_get (D := D) (ci := 7) (v := .int br) (C := RX7) (T := TX7) (N := 28) hx hb hts iX7 hown hK hP 0 rfl rfl 24 (by decide) f186 (fun _ h9 => h9) rfl dX7_tryThrees_71 ?_
            refine lv_icmp_gt (tgt := 96) hx hb dX7_tryThrees_74 (by decide) (fun c74 => ?_) (fun c74 => ?_)
            · -- t74
              have hbt : ttB n kd sd (bm, br, bv) a b cc = true := by simp [ttB, c65, c74]
              refine lv_iconst (v := 1) hx hb dX7_tryThrees_96 (by decide) ?_
              refine lv_goto (tgt := 101) hx hb dX7_tryThrees_97 (by decide) ?_
              refine lv_istore (lv' := [(6, .int 1), (5, .int (lou n kd sd a b cc)), (4, .int (mny a b cc)), (0, .ref x), (1, .int a), (2, .int b), (3, .int cc)]) hx hb dX7_tryThrees_101 hl (by decide) rfl (fun ls hl => ?_)
              refine lv_iload hx hb dX7_tryThrees_103 (lv_at hl 0 rfl) ?_
              refine lv_if_eq (tgt := 141) hx hb dX7_tryThrees_105 (by decide) (fun h => absurd h (by decide)) (fun _ => ?_)
              refine lv_aload_n hx hb dX7_tryThrees_108 rfl (lv_at hl 3 rfl) ?_
              refine lv_iload hx hb dX7_tryThrees_109 (lv_at hl 2 rfl) ?_
              refine va_put (D := D) (ci := 7) (v := .int (mny a b cc)) (ty := .int) (C := RX7) (T := TX7) (N := 28) hx hb hts iX7 tyX7 tyX7_ok nmX7 hown hK hP hD hS 0 rfl rfl 23 (by decide) f183 (fun _ h9 => h9) rfl (by decide +kernel) rfl rfl (Nat.le_of_ble_eq_true rfl) dX7_tryThrees_111 (fun H locs hP hD hS => ?_)
              have hP : va_P D vwCl [(x, .inr (7, [.int fa, .int tr, .ref so, .ref sl, .ref ce, .int (nI n), .int bar, .int (nI tn), .ref ki, .ref si, .ref th, .ref ri, .int at_, .int rp, .ref rk, .ref rs, .ref kt, .ref kr, .int kn, .int rg, .ref ab, .int am, .ref bh, .int (mny a b cc), .int br, .int (nI rn), .ref wa, .ref ra])), (ki, .inl (cI, 9, .inl kd)), (si, .inl (cI, 9, .inl sd)), (bh, .inl (cI, 3, .inl bv))] H := hP
              have hD : va_D A [(x, .inr (7, [.int fa, .int tr, .ref so, .ref sl, .ref ce, .int (nI n), .int bar, .int (nI tn), .ref ki, .ref si, .ref th, .ref ri, .int at_, .int rp, .ref rk, .ref rs, .ref kt, .ref kr, .int kn, .int rg, .ref ab, .int am, .ref bh, .int (mny a b cc), .int br, .int (nI rn), .ref wa, .ref ra])), (ki, .inl (cI, 9, .inl kd)), (si, .inl (cI, 9, .inl sd)), (bh, .inl (cI, 3, .inl bv))] := hD
              refine lv_aload_n hx hb dX7_tryThrees_114 rfl (lv_at hl 3 rfl) ?_
              refine lv_iload hx hb dX7_tryThrees_115 (lv_at hl 1 rfl) ?_
              refine va_put (D := D) (ci := 7) (v := .int (lou n kd sd a b cc)) (ty := .int) (C := RX7) (T := TX7) (N := 28) hx hb hts iX7 tyX7 tyX7_ok nmX7 hown hK hP hD hS 0 rfl rfl 24 (by decide) f186 (fun _ h9 => h9) rfl (by decide +kernel) rfl rfl (Nat.le_of_ble_eq_true rfl) dX7_tryThrees_117 (fun H locs hP hD hS => ?_)
              have hP : va_P D vwCl [(x, .inr (7, [.int fa, .int tr, .ref so, .ref sl, .ref ce, .int (nI n), .int bar, .int (nI tn), .ref ki, .ref si, .ref th, .ref ri, .int at_, .int rp, .ref rk, .ref rs, .ref kt, .ref kr, .int kn, .int rg, .ref ab, .int am, .ref bh, .int (mny a b cc), .int (lou n kd sd a b cc), .int (nI rn), .ref wa, .ref ra])), (ki, .inl (cI, 9, .inl kd)), (si, .inl (cI, 9, .inl sd)), (bh, .inl (cI, 3, .inl bv))] H := hP
              have hD : va_D A [(x, .inr (7, [.int fa, .int tr, .ref so, .ref sl, .ref ce, .int (nI n), .int bar, .int (nI tn), .ref ki, .ref si, .ref th, .ref ri, .int at_, .int rp, .ref rk, .ref rs, .ref kt, .ref kr, .int kn, .int rg, .ref ab, .int am, .ref bh, .int (mny a b cc), .int (lou n kd sd a b cc), .int (nI rn), .ref wa, .ref ra])), (ki, .inl (cI, 9, .inl kd)), (si, .inl (cI, 9, .inl sd)), (bh, .inl (cI, 3, .inl bv))] := hD
              refine lv_aload_n hx hb dX7_tryThrees_120 rfl (lv_at hl 3 rfl) ?_
              refine va_get (D := D) (ci := 7) (v := .ref bh) (C := RX7) (T := TX7) (N := 28) hx hb hts iX7 hown hK hP 0 rfl rfl 22 (by decide) f46 (fun _ h9 => h9) rfl dX7_tryThrees_121 ?_
              refine lv_iconst (v := 0) hx hb dX7_tryThrees_124 (by decide) ?_
              refine lv_iload_n hx hb dX7_tryThrees_125 rfl (lv_at hl 4 rfl) ?_
              refine va_iast hx hb hK hP hD hS 3 0 rfl rfl (show vp_in (nI 0) _ from vp_in_nI (by decide) (by decide)) dX7_tryThrees_126 (fun H locs hP hD hS => ?_)
              rw [show (0 : Int32).toNatClampNeg = 0 from by decide] at hP hD
              have hP : va_P D vwCl [(x, .inr (7, [.int fa, .int tr, .ref so, .ref sl, .ref ce, .int (nI n), .int bar, .int (nI tn), .ref ki, .ref si, .ref th, .ref ri, .int at_, .int rp, .ref rk, .ref rs, .ref kt, .ref kr, .int kn, .int rg, .ref ab, .int am, .ref bh, .int (mny a b cc), .int (lou n kd sd a b cc), .int (nI rn), .ref wa, .ref ra])), (ki, .inl (cI, 9, .inl kd)), (si, .inl (cI, 9, .inl sd)), (bh, .inl (cI, 3, .inl (upd bv 0 a)))] H := hP
              have hD : va_D A [(x, .inr (7, [.int fa, .int tr, .ref so, .ref sl, .ref ce, .int (nI n), .int bar, .int (nI tn), .ref ki, .ref si, .ref th, .ref ri, .int at_, .int rp, .ref rk, .ref rs, .ref kt, .ref kr, .int kn, .int rg, .ref ab, .int am, .ref bh, .int (mny a b cc), .int (lou n kd sd a b cc), .int (nI rn), .ref wa, .ref ra])), (ki, .inl (cI, 9, .inl kd)), (si, .inl (cI, 9, .inl sd)), (bh, .inl (cI, 3, .inl (upd bv 0 a)))] := hD
              refine lv_aload_n hx hb dX7_tryThrees_127 rfl (lv_at hl 3 rfl) ?_
              refine va_get (D := D) (ci := 7) (v := .ref bh) (C := RX7) (T := TX7) (N := 28) hx hb hts iX7 hown hK hP 0 rfl rfl 22 (by decide) f46 (fun _ h9 => h9) rfl dX7_tryThrees_128 ?_
              refine lv_iconst (v := 1) hx hb dX7_tryThrees_131 (by decide) ?_
              refine lv_iload_n hx hb dX7_tryThrees_132 rfl (lv_at hl 5 rfl) ?_
              refine va_iast hx hb hK hP hD hS 3 0 rfl rfl (show vp_in (nI 1) _ from vp_in_nI (by decide) (by decide)) dX7_tryThrees_133 (fun H locs hP hD hS => ?_)
              rw [show (1 : Int32).toNatClampNeg = 1 from by decide] at hP hD
              have hP : va_P D vwCl [(x, .inr (7, [.int fa, .int tr, .ref so, .ref sl, .ref ce, .int (nI n), .int bar, .int (nI tn), .ref ki, .ref si, .ref th, .ref ri, .int at_, .int rp, .ref rk, .ref rs, .ref kt, .ref kr, .int kn, .int rg, .ref ab, .int am, .ref bh, .int (mny a b cc), .int (lou n kd sd a b cc), .int (nI rn), .ref wa, .ref ra])), (ki, .inl (cI, 9, .inl kd)), (si, .inl (cI, 9, .inl sd)), (bh, .inl (cI, 3, .inl (upd (upd bv 0 a) 1 b)))] H := hP
              have hD : va_D A [(x, .inr (7, [.int fa, .int tr, .ref so, .ref sl, .ref ce, .int (nI n), .int bar, .int (nI tn), .ref ki, .ref si, .ref th, .ref ri, .int at_, .int rp, .ref rk, .ref rs, .ref kt, .ref kr, .int kn, .int rg, .ref ab, .int am, .ref bh, .int (mny a b cc), .int (lou n kd sd a b cc), .int (nI rn), .ref wa, .ref ra])), (ki, .inl (cI, 9, .inl kd)), (si, .inl (cI, 9, .inl sd)), (bh, .inl (cI, 3, .inl (upd (upd bv 0 a) 1 b)))] := hD
              refine lv_aload_n hx hb dX7_tryThrees_134 rfl (lv_at hl 3 rfl) ?_
              refine va_get (D := D) (ci := 7) (v := .ref bh) (C := RX7) (T := TX7) (N := 28) hx hb hts iX7 hown hK hP 0 rfl rfl 22 (by decide) f46 (fun _ h9 => h9) rfl dX7_tryThrees_135 ?_
              refine lv_iconst (v := 2) hx hb dX7_tryThrees_138 (by decide) ?_
              refine lv_iload_n hx hb dX7_tryThrees_139 rfl (lv_at hl 6 rfl) ?_
              refine va_iast hx hb hK hP hD hS 3 0 rfl rfl (show vp_in (nI 2) _ from vp_in_nI (by decide) (by decide)) dX7_tryThrees_140 (fun H locs hP hD hS => ?_)
              rw [show (2 : Int32).toNatClampNeg = 2 from by decide] at hP hD
              have hP : va_P D vwCl [(x, .inr (7, [.int fa, .int tr, .ref so, .ref sl, .ref ce, .int (nI n), .int bar, .int (nI tn), .ref ki, .ref si, .ref th, .ref ri, .int at_, .int rp, .ref rk, .ref rs, .ref kt, .ref kr, .int kn, .int rg, .ref ab, .int am, .ref bh, .int (mny a b cc), .int (lou n kd sd a b cc), .int (nI rn), .ref wa, .ref ra])), (ki, .inl (cI, 9, .inl kd)), (si, .inl (cI, 9, .inl sd)), (bh, .inl (cI, 3, .inl (upd (upd (upd bv 0 a) 1 b) 2 cc)))] H := hP
              have hD : va_D A [(x, .inr (7, [.int fa, .int tr, .ref so, .ref sl, .ref ce, .int (nI n), .int bar, .int (nI tn), .ref ki, .ref si, .ref th, .ref ri, .int at_, .int rp, .ref rk, .ref rs, .ref kt, .ref kr, .int kn, .int rg, .ref ab, .int am, .ref bh, .int (mny a b cc), .int (lou n kd sd a b cc), .int (nI rn), .ref wa, .ref ra])), (ki, .inl (cI, 9, .inl kd)), (si, .inl (cI, 9, .inl sd)), (bh, .inl (cI, 3, .inl (upd (upd (upd bv 0 a) 1 b) 2 cc)))] := hD
              exact W.vret hx hb hr (fun t ht hW => ⟨⟨(mny a b cc, lou n kd sd a b cc, upd (upd (upd bv 0 a) 1 b) 2 cc), rfl, by simp [ttZ, hbt], by rw [ht]; exact hP, va_K.moved hW.alike hK, hD⟩, hS.F ht⟩) hS.2.2 dX7_tryThrees_141
            · -- f74
              refine lv_iload hx hb dX7_tryThrees_77 (lv_at hl 0 rfl) ?_
              refine lv_aload_n hx hb dX7_tryThrees_79 rfl (lv_at hl 2 rfl) ?_
              refine va_get (D := D) (ci := 7) (v := .int br) (C := RX7) (T := TX7) (N := 28) hx hb hts iX7 hown hK hP 0 rfl rfl 24 (by decide) f186 (fun _ h9 => h9) rfl dX7_tryThrees_80 ?_
              refine lv_icmp_ne (tgt := 100) hx hb dX7_tryThrees_83 (by decide) (fun c83 => ?_) (fun c83 => ?_)
              · -- t83
                have hbt : ttB n kd sd (bm, br, bv) a b cc = false := by unfold ttB; simp only [c56, c74, c83, decide_false, Bool.false_and, Bool.or_false, Bool.and_false]
                refine lv_iconst (v := 0) hx hb dX7_tryThrees_100 (by decide) ?_
                refine lv_istore (lv' := [(6, .int 0), (5, .int (lou n kd sd a b cc)), (4, .int (mny a b cc)), (0, .ref x), (1, .int a), (2, .int b), (3, .int cc)]) hx hb dX7_tryThrees_101 hl (by decide) rfl (fun ls hl => ?_)
                refine lv_iload hx hb dX7_tryThrees_103 (lv_at hl 0 rfl) ?_
                refine lv_if_eq (tgt := 141) hx hb dX7_tryThrees_105 (by decide) (fun _ => ?_) (fun h => absurd (by decide) h)
                exact W.vret hx hb hr (fun t ht hW => ⟨⟨(bm, br, bv), rfl, by simp [ttZ, hbt], by rw [ht]; exact hP, va_K.moved hW.alike hK, hD⟩, hS.F ht⟩) hS.2.2 dX7_tryThrees_141
              · -- f83
                refine lv_aload_n hx hb dX7_tryThrees_86 rfl (lv_at hl 2 rfl) ?_
                refine lv_iload_n hx hb dX7_tryThrees_87 rfl (lv_at hl 3 rfl) ?_
                refine lv_iload_n hx hb dX7_tryThrees_88 rfl (lv_at hl 4 rfl) ?_
                refine lv_iload_n hx hb dX7_tryThrees_89 rfl (lv_at hl 5 rfl) ?_
                have hPc := hP.sub (ws' := [(x, .inr (7, [.int fa, .int tr, .ref so, .ref sl, .ref ce, .int (nI n), .int bar, .int (nI tn), .ref ki, .ref si, .ref th, .ref ri, .int at_, .int rp, .ref rk, .ref rs, .ref kt, .ref kr, .int kn, .int rg, .ref ab, .int am, .ref bh, .int bm, .int br, .int (nI rn), .ref wa, .ref ra])), (bh, .inl (cI, 3, .inl bv))]) [0, 3] rfl
                refine vp_callSi (va_Run.run (va_runV (As := [.int a, .int b, .int cc]) (rest := []) ⟨hx, hb, hml, hown, hts⟩ (c_X7_isAhead l D cI cO x fa tr so sl ce n bar tn ki si th ri at_ rp rk rs kt kr kn rg ab am bh bm br rn wa ra bv a b cc (by assumption)) (cwV 3 hts gX7_tryThrees_X7_isAhead rfl rfl rfl (by decide +kernel) ⟨Nat.le_of_ble_eq_true rfl, Nat.le_of_ble_eq_true rfl⟩) (preVR hPc hK hNw (va_recv hK hPc (ci := 7) (q0 := 0) rfl rfl)) rfl rfl hl.1 rfl (lv_room (Nat.le_of_ble_eq_true rfl)) dX7_tryThrees_90 ⟨Nat.zero_le _, Nat.zero_le _⟩)) (fun r90 w90 => ?_)
                by_cases b90 : ahW a b cc (bv 0) (bv 1) (bv 2) n 0 = true
                · -- y90
                  obtain rfl := w90.1 b90
                  have hbt : ttB n kd sd (bm, br, bv) a b cc = true := by simp [ttB, c65, c83, b90]
                  refine lv_if_eq (tgt := 100) hx hb dX7_tryThrees_93 (by decide) (fun h => absurd h (by decide)) (fun _ => ?_)
                  refine lv_iconst (v := 1) hx hb dX7_tryThrees_96 (by decide) ?_
                  refine lv_goto (tgt := 101) hx hb dX7_tryThrees_97 (by decide) ?_
                  refine lv_istore (lv' := [(6, .int 1), (5, .int (lou n kd sd a b cc)), (4, .int (mny a b cc)), (0, .ref x), (1, .int a), (2, .int b), (3, .int cc)]) hx hb dX7_tryThrees_101 hl (by decide) rfl (fun ls hl => ?_)
                  refine lv_iload hx hb dX7_tryThrees_103 (lv_at hl 0 rfl) ?_
                  refine lv_if_eq (tgt := 141) hx hb dX7_tryThrees_105 (by decide) (fun h => absurd h (by decide)) (fun _ => ?_)
                  refine lv_aload_n hx hb dX7_tryThrees_108 rfl (lv_at hl 3 rfl) ?_
                  refine lv_iload hx hb dX7_tryThrees_109 (lv_at hl 2 rfl) ?_
                  refine va_put (D := D) (ci := 7) (v := .int (mny a b cc)) (ty := .int) (C := RX7) (T := TX7) (N := 28) hx hb hts iX7 tyX7 tyX7_ok nmX7 hown hK hP hD hS 0 rfl rfl 23 (by decide) f183 (fun _ h9 => h9) rfl (by decide +kernel) rfl rfl (Nat.le_of_ble_eq_true rfl) dX7_tryThrees_111 (fun H locs hP hD hS => ?_)
                  have hP : va_P D vwCl [(x, .inr (7, [.int fa, .int tr, .ref so, .ref sl, .ref ce, .int (nI n), .int bar, .int (nI tn), .ref ki, .ref si, .ref th, .ref ri, .int at_, .int rp, .ref rk, .ref rs, .ref kt, .ref kr, .int kn, .int rg, .ref ab, .int am, .ref bh, .int (mny a b cc), .int br, .int (nI rn), .ref wa, .ref ra])), (ki, .inl (cI, 9, .inl kd)), (si, .inl (cI, 9, .inl sd)), (bh, .inl (cI, 3, .inl bv))] H := hP
                  have hD : va_D A [(x, .inr (7, [.int fa, .int tr, .ref so, .ref sl, .ref ce, .int (nI n), .int bar, .int (nI tn), .ref ki, .ref si, .ref th, .ref ri, .int at_, .int rp, .ref rk, .ref rs, .ref kt, .ref kr, .int kn, .int rg, .ref ab, .int am, .ref bh, .int (mny a b cc), .int br, .int (nI rn), .ref wa, .ref ra])), (ki, .inl (cI, 9, .inl kd)), (si, .inl (cI, 9, .inl sd)), (bh, .inl (cI, 3, .inl bv))] := hD
                  refine lv_aload_n hx hb dX7_tryThrees_114 rfl (lv_at hl 3 rfl) ?_
                  refine lv_iload hx hb dX7_tryThrees_115 (lv_at hl 1 rfl) ?_
                  refine va_put (D := D) (ci := 7) (v := .int (lou n kd sd a b cc)) (ty := .int) (C := RX7) (T := TX7) (N := 28) hx hb hts iX7 tyX7 tyX7_ok nmX7 hown hK hP hD hS 0 rfl rfl 24 (by decide) f186 (fun _ h9 => h9) rfl (by decide +kernel) rfl rfl (Nat.le_of_ble_eq_true rfl) dX7_tryThrees_117 (fun H locs hP hD hS => ?_)
                  have hP : va_P D vwCl [(x, .inr (7, [.int fa, .int tr, .ref so, .ref sl, .ref ce, .int (nI n), .int bar, .int (nI tn), .ref ki, .ref si, .ref th, .ref ri, .int at_, .int rp, .ref rk, .ref rs, .ref kt, .ref kr, .int kn, .int rg, .ref ab, .int am, .ref bh, .int (mny a b cc), .int (lou n kd sd a b cc), .int (nI rn), .ref wa, .ref ra])), (ki, .inl (cI, 9, .inl kd)), (si, .inl (cI, 9, .inl sd)), (bh, .inl (cI, 3, .inl bv))] H := hP
                  have hD : va_D A [(x, .inr (7, [.int fa, .int tr, .ref so, .ref sl, .ref ce, .int (nI n), .int bar, .int (nI tn), .ref ki, .ref si, .ref th, .ref ri, .int at_, .int rp, .ref rk, .ref rs, .ref kt, .ref kr, .int kn, .int rg, .ref ab, .int am, .ref bh, .int (mny a b cc), .int (lou n kd sd a b cc), .int (nI rn), .ref wa, .ref ra])), (ki, .inl (cI, 9, .inl kd)), (si, .inl (cI, 9, .inl sd)), (bh, .inl (cI, 3, .inl bv))] := hD
                  refine lv_aload_n hx hb dX7_tryThrees_120 rfl (lv_at hl 3 rfl) ?_
                  refine va_get (D := D) (ci := 7) (v := .ref bh) (C := RX7) (T := TX7) (N := 28) hx hb hts iX7 hown hK hP 0 rfl rfl 22 (by decide) f46 (fun _ h9 => h9) rfl dX7_tryThrees_121 ?_
                  refine lv_iconst (v := 0) hx hb dX7_tryThrees_124 (by decide) ?_
                  refine lv_iload_n hx hb dX7_tryThrees_125 rfl (lv_at hl 4 rfl) ?_
                  refine va_iast hx hb hK hP hD hS 3 0 rfl rfl (show vp_in (nI 0) _ from vp_in_nI (by decide) (by decide)) dX7_tryThrees_126 (fun H locs hP hD hS => ?_)
                  rw [show (0 : Int32).toNatClampNeg = 0 from by decide] at hP hD
                  have hP : va_P D vwCl [(x, .inr (7, [.int fa, .int tr, .ref so, .ref sl, .ref ce, .int (nI n), .int bar, .int (nI tn), .ref ki, .ref si, .ref th, .ref ri, .int at_, .int rp, .ref rk, .ref rs, .ref kt, .ref kr, .int kn, .int rg, .ref ab, .int am, .ref bh, .int (mny a b cc), .int (lou n kd sd a b cc), .int (nI rn), .ref wa, .ref ra])), (ki, .inl (cI, 9, .inl kd)), (si, .inl (cI, 9, .inl sd)), (bh, .inl (cI, 3, .inl (upd bv 0 a)))] H := hP
                  have hD : va_D A [(x, .inr (7, [.int fa, .int tr, .ref so, .ref sl, .ref ce, .int (nI n), .int bar, .int (nI tn), .ref ki, .ref si, .ref th, .ref ri, .int at_, .int rp, .ref rk, .ref rs, .ref kt, .ref kr, .int kn, .int rg, .ref ab, .int am, .ref bh, .int (mny a b cc), .int (lou n kd sd a b cc), .int (nI rn), .ref wa, .ref ra])), (ki, .inl (cI, 9, .inl kd)), (si, .inl (cI, 9, .inl sd)), (bh, .inl (cI, 3, .inl (upd bv 0 a)))] := hD
                  refine lv_aload_n hx hb dX7_tryThrees_127 rfl (lv_at hl 3 rfl) ?_
                  refine va_get (D := D) (ci := 7) (v := .ref bh) (C := RX7) (T := TX7) (N := 28) hx hb hts iX7 hown hK hP 0 rfl rfl 22 (by decide) f46 (fun _ h9 => h9) rfl dX7_tryThrees_128 ?_
                  refine lv_iconst (v := 1) hx hb dX7_tryThrees_131 (by decide) ?_
                  refine lv_iload_n hx hb dX7_tryThrees_132 rfl (lv_at hl 5 rfl) ?_
                  refine va_iast hx hb hK hP hD hS 3 0 rfl rfl (show vp_in (nI 1) _ from vp_in_nI (by decide) (by decide)) dX7_tryThrees_133 (fun H locs hP hD hS => ?_)
                  rw [show (1 : Int32).toNatClampNeg = 1 from by decide] at hP hD
                  have hP : va_P D vwCl [(x, .inr (7, [.int fa, .int tr, .ref so, .ref sl, .ref ce, .int (nI n), .int bar, .int (nI tn), .ref ki, .ref si, .ref th, .ref ri, .int at_, .int rp, .ref rk, .ref rs, .ref kt, .ref kr, .int kn, .int rg, .ref ab, .int am, .ref bh, .int (mny a b cc), .int (lou n kd sd a b cc), .int (nI rn), .ref wa, .ref ra])), (ki, .inl (cI, 9, .inl kd)), (si, .inl (cI, 9, .inl sd)), (bh, .inl (cI, 3, .inl (upd (upd bv 0 a) 1 b)))] H := hP
                  have hD : va_D A [(x, .inr (7, [.int fa, .int tr, .ref so, .ref sl, .ref ce, .int (nI n), .int bar, .int (nI tn), .ref ki, .ref si, .ref th, .ref ri, .int at_, .int rp, .ref rk, .ref rs, .ref kt, .ref kr, .int kn, .int rg, .ref ab, .int am, .ref bh, .int (mny a b cc), .int (lou n kd sd a b cc), .int (nI rn), .ref wa, .ref ra])), (ki, .inl (cI, 9, .inl kd)), (si, .inl (cI, 9, .inl sd)), (bh, .inl (cI, 3, .inl (upd (upd bv 0 a) 1 b)))] := hD
                  refine lv_aload_n hx hb dX7_tryThrees_134 rfl (lv_at hl 3 rfl) ?_
                  refine va_get (D := D) (ci := 7) (v := .ref bh) (C := RX7) (T := TX7) (N := 28) hx hb hts iX7 hown hK hP 0 rfl rfl 22 (by decide) f46 (fun _ h9 => h9) rfl dX7_tryThrees_135 ?_
                  refine lv_iconst (v := 2) hx hb dX7_tryThrees_138 (by decide) ?_
                  refine lv_iload_n hx hb dX7_tryThrees_139 rfl (lv_at hl 6 rfl) ?_
                  refine va_iast hx hb hK hP hD hS 3 0 rfl rfl (show vp_in (nI 2) _ from vp_in_nI (by decide) (by decide)) dX7_tryThrees_140 (fun H locs hP hD hS => ?_)
                  rw [show (2 : Int32).toNatClampNeg = 2 from by decide] at hP hD
                  have hP : va_P D vwCl [(x, .inr (7, [.int fa, .int tr, .ref so, .ref sl, .ref ce, .int (nI n), .int bar, .int (nI tn), .ref ki, .ref si, .ref th, .ref ri, .int at_, .int rp, .ref rk, .ref rs, .ref kt, .ref kr, .int kn, .int rg, .ref ab, .int am, .ref bh, .int (mny a b cc), .int (lou n kd sd a b cc), .int (nI rn), .ref wa, .ref ra])), (ki, .inl (cI, 9, .inl kd)), (si, .inl (cI, 9, .inl sd)), (bh, .inl (cI, 3, .inl (upd (upd (upd bv 0 a) 1 b) 2 cc)))] H := hP
                  have hD : va_D A [(x, .inr (7, [.int fa, .int tr, .ref so, .ref sl, .ref ce, .int (nI n), .int bar, .int (nI tn), .ref ki, .ref si, .ref th, .ref ri, .int at_, .int rp, .ref rk, .ref rs, .ref kt, .ref kr, .int kn, .int rg, .ref ab, .int am, .ref bh, .int (mny a b cc), .int (lou n kd sd a b cc), .int (nI rn), .ref wa, .ref ra])), (ki, .inl (cI, 9, .inl kd)), (si, .inl (cI, 9, .inl sd)), (bh, .inl (cI, 3, .inl (upd (upd (upd bv 0 a) 1 b) 2 cc)))] := hD
                  exact W.vret hx hb hr (fun t ht hW => ⟨⟨(mny a b cc, lou n kd sd a b cc, upd (upd (upd bv 0 a) 1 b) 2 cc), rfl, by simp [ttZ, hbt], by rw [ht]; exact hP, va_K.moved hW.alike hK, hD⟩, hS.F ht⟩) hS.2.2 dX7_tryThrees_141
                · -- n90
                  obtain rfl := w90.2 b90
                  have hbt : ttB n kd sd (bm, br, bv) a b cc = false := by rw [Bool.not_eq_true] at b90; unfold ttB; simp only [c56, c74, b90, decide_false, Bool.or_false, Bool.and_false]
                  refine lv_if_eq (tgt := 100) hx hb dX7_tryThrees_93 (by decide) (fun _ => ?_) (fun h => absurd (by decide) h)
                  refine lv_iconst (v := 0) hx hb dX7_tryThrees_100 (by decide) ?_
                  refine lv_istore (lv' := [(6, .int 0), (5, .int (lou n kd sd a b cc)), (4, .int (mny a b cc)), (0, .ref x), (1, .int a), (2, .int b), (3, .int cc)]) hx hb dX7_tryThrees_101 hl (by decide) rfl (fun ls hl => ?_)
                  refine lv_iload hx hb dX7_tryThrees_103 (lv_at hl 0 rfl) ?_
                  refine lv_if_eq (tgt := 141) hx hb dX7_tryThrees_105 (by decide) (fun _ => ?_) (fun h => absurd (by decide) h)
                  exact W.vret hx hb hr (fun t ht hW => ⟨⟨(bm, br, bv), rfl, by simp [ttZ, hbt], by rw [ht]; exact hP, va_K.moved hW.alike hK, hD⟩, hS.F ht⟩) hS.2.2 dX7_tryThrees_141
      · -- f20
        refine lv_iconst (v := 0) hx hb dX7_tryThrees_23 (by decide) ?_
        refine lv_goto (tgt := 28) hx hb dX7_tryThrees_24 (by decide) ?_
        refine tp_i (y := one0 cc) (by simp [one0, c20]) ?_
        refine lv_iadd hx hb dX7_tryThrees_28 ?_
        refine tp_i (y := mny a b cc) (rfl) ?_
        refine lv_istore (lv' := [(4, .int (mny a b cc)), (0, .ref x), (1, .int a), (2, .int b), (3, .int cc)]) hx hb dX7_tryThrees_29 hl (by decide) rfl (fun ls hl => ?_)
        refine lv_aload_n hx hb dX7_tryThrees_31 rfl (lv_at hl 1 rfl) ?_
        refine lv_iload_n hx hb dX7_tryThrees_32 rfl (lv_at hl 2 rfl) ?_
        have hPc := hP.sub (ws' := [(x, .inr (7, [.int fa, .int tr, .ref so, .ref sl, .ref ce, .int (nI n), .int bar, .int (nI tn), .ref ki, .ref si, .ref th, .ref ri, .int at_, .int rp, .ref rk, .ref rs, .ref kt, .ref kr, .int kn, .int rg, .ref ab, .int am, .ref bh, .int bm, .int br, .int (nI rn), .ref wa, .ref ra])), (ki, .inl (cI, 9, .inl kd)), (si, .inl (cI, 9, .inl sd))]) [0, 1, 2] rfl
        refine vp_callSi (va_Run.run (va_runV (As := [.int a]) (rest := []) ⟨hx, hb, hml, hown, hts⟩ (c_X7_ringsOf l D cI cO x fa tr so sl ce n bar tn ki si th ri at_ rp rk rs kt kr kn rg ab am bh bm br rn wa ra kd sd a (by assumption) (by assumption)) (cwV 1 hts gX7_tryThrees_X7_ringsOf rfl rfl rfl (by decide +kernel) ⟨Nat.le_of_ble_eq_true rfl, Nat.le_of_ble_eq_true rfl⟩) (preVR hPc hK hNw (va_recv hK hPc (ci := 7) (q0 := 0) rfl rfl)) rfl rfl hl.1 rfl (lv_room (Nat.le_of_ble_eq_true rfl)) dX7_tryThrees_33 ⟨Nat.zero_le _, Nat.zero_le _⟩)) (fun r33 w33 => ?_)
        obtain rfl := w33
        refine lv_aload_n hx hb dX7_tryThrees_36 rfl (lv_at hl 1 rfl) ?_
        refine lv_iload_n hx hb dX7_tryThrees_37 rfl (lv_at hl 3 rfl) ?_
        have hPc := hP.sub (ws' := [(x, .inr (7, [.int fa, .int tr, .ref so, .ref sl, .ref ce, .int (nI n), .int bar, .int (nI tn), .ref ki, .ref si, .ref th, .ref ri, .int at_, .int rp, .ref rk, .ref rs, .ref kt, .ref kr, .int kn, .int rg, .ref ab, .int am, .ref bh, .int bm, .int br, .int (nI rn), .ref wa, .ref ra])), (ki, .inl (cI, 9, .inl kd)), (si, .inl (cI, 9, .inl sd))]) [0, 1, 2] rfl
        refine vp_callSi (va_Run.run (va_runV (As := [.int b]) (rest := [.int (sumW (rgF kd sd) a n)]) ⟨hx, hb, hml, hown, hts⟩ (c_X7_ringsOf l D cI cO x fa tr so sl ce n bar tn ki si th ri at_ rp rk rs kt kr kn rg ab am bh bm br rn wa ra kd sd b (by assumption) (by assumption)) (cwV 1 hts gX7_tryThrees_X7_ringsOf rfl rfl rfl (by decide +kernel) ⟨Nat.le_of_ble_eq_true rfl, Nat.le_of_ble_eq_true rfl⟩) (preVR hPc hK hNw (va_recv hK hPc (ci := 7) (q0 := 0) rfl rfl)) rfl rfl hl.1 rfl (lv_room (Nat.le_of_ble_eq_true rfl)) dX7_tryThrees_38 ⟨Nat.zero_le _, Nat.zero_le _⟩)) (fun r38 w38 => ?_)
        obtain rfl := w38
        refine lv_iadd hx hb dX7_tryThrees_41 ?_
        refine lv_aload_n hx hb dX7_tryThrees_42 rfl (lv_at hl 1 rfl) ?_
        refine lv_iload_n hx hb dX7_tryThrees_43 rfl (lv_at hl 4 rfl) ?_
        have hPc := hP.sub (ws' := [(x, .inr (7, [.int fa, .int tr, .ref so, .ref sl, .ref ce, .int (nI n), .int bar, .int (nI tn), .ref ki, .ref si, .ref th, .ref ri, .int at_, .int rp, .ref rk, .ref rs, .ref kt, .ref kr, .int kn, .int rg, .ref ab, .int am, .ref bh, .int bm, .int br, .int (nI rn), .ref wa, .ref ra])), (ki, .inl (cI, 9, .inl kd)), (si, .inl (cI, 9, .inl sd))]) [0, 1, 2] rfl
        refine vp_callSi (va_Run.run (va_runV (As := [.int cc]) (rest := [.int ((sumW (rgF kd sd) a n) + (sumW (rgF kd sd) b n))]) ⟨hx, hb, hml, hown, hts⟩ (c_X7_ringsOf l D cI cO x fa tr so sl ce n bar tn ki si th ri at_ rp rk rs kt kr kn rg ab am bh bm br rn wa ra kd sd cc (by assumption) (by assumption)) (cwV 1 hts gX7_tryThrees_X7_ringsOf rfl rfl rfl (by decide +kernel) ⟨Nat.le_of_ble_eq_true rfl, Nat.le_of_ble_eq_true rfl⟩) (preVR hPc hK hNw (va_recv hK hPc (ci := 7) (q0 := 0) rfl rfl)) rfl rfl hl.1 rfl (lv_room (Nat.le_of_ble_eq_true rfl)) dX7_tryThrees_44 ⟨Nat.zero_le _, Nat.zero_le _⟩)) (fun r44 w44 => ?_)
        obtain rfl := w44
        refine lv_iadd hx hb dX7_tryThrees_47 ?_
        refine tp_i (y := lou n kd sd a b cc) (rfl) ?_
        refine lv_istore (lv' := [(5, .int (lou n kd sd a b cc)), (4, .int (mny a b cc)), (0, .ref x), (1, .int a), (2, .int b), (3, .int cc)]) hx hb dX7_tryThrees_48 hl (by decide) rfl (fun ls hl => ?_)
        refine lv_iload hx hb dX7_tryThrees_50 (lv_at hl 1 rfl) ?_
        refine lv_aload_n hx hb dX7_tryThrees_52 rfl (lv_at hl 2 rfl) ?_
        refine va_get (D := D) (ci := 7) (v := .int bm) (C := RX7) (T := TX7) (N := 28) hx hb hts iX7 hown hK hP 0 rfl rfl 23 (by decide) f183 (fun _ h9 => h9) rfl dX7_tryThrees_53 ?_
        refine lv_icmp_gt (tgt := 96) hx hb dX7_tryThrees_56 (by decide) (fun c56 => ?_) (fun c56 => ?_)
        · -- t56
          have hbt : ttB n kd sd (bm, br, bv) a b cc = true := by simp [ttB, c56]
          refine lv_iconst (v := 1) hx hb dX7_tryThrees_96 (by decide) ?_
          refine lv_goto (tgt := 101) hx hb dX7_tryThrees_97 (by decide) ?_
          refine lv_istore (lv' := [(6, .int 1), (5, .int (lou n kd sd a b cc)), (4, .int (mny a b cc)), (0, .ref x), (1, .int a), (2, .int b), (3, .int cc)]) hx hb dX7_tryThrees_101 hl (by decide) rfl (fun ls hl => ?_)
          refine lv_iload hx hb dX7_tryThrees_103 (lv_at hl 0 rfl) ?_
          refine lv_if_eq (tgt := 141) hx hb dX7_tryThrees_105 (by decide) (fun h => absurd h (by decide)) (fun _ => ?_)
          refine lv_aload_n hx hb dX7_tryThrees_108 rfl (lv_at hl 3 rfl) ?_
          refine lv_iload hx hb dX7_tryThrees_109 (lv_at hl 2 rfl) ?_
          refine va_put (D := D) (ci := 7) (v := .int (mny a b cc)) (ty := .int) (C := RX7) (T := TX7) (N := 28) hx hb hts iX7 tyX7 tyX7_ok nmX7 hown hK hP hD hS 0 rfl rfl 23 (by decide) f183 (fun _ h9 => h9) rfl (by decide +kernel) rfl rfl (Nat.le_of_ble_eq_true rfl) dX7_tryThrees_111 (fun H locs hP hD hS => ?_)
          have hP : va_P D vwCl [(x, .inr (7, [.int fa, .int tr, .ref so, .ref sl, .ref ce, .int (nI n), .int bar, .int (nI tn), .ref ki, .ref si, .ref th, .ref ri, .int at_, .int rp, .ref rk, .ref rs, .ref kt, .ref kr, .int kn, .int rg, .ref ab, .int am, .ref bh, .int (mny a b cc), .int br, .int (nI rn), .ref wa, .ref ra])), (ki, .inl (cI, 9, .inl kd)), (si, .inl (cI, 9, .inl sd)), (bh, .inl (cI, 3, .inl bv))] H := hP
          have hD : va_D A [(x, .inr (7, [.int fa, .int tr, .ref so, .ref sl, .ref ce, .int (nI n), .int bar, .int (nI tn), .ref ki, .ref si, .ref th, .ref ri, .int at_, .int rp, .ref rk, .ref rs, .ref kt, .ref kr, .int kn, .int rg, .ref ab, .int am, .ref bh, .int (mny a b cc), .int br, .int (nI rn), .ref wa, .ref ra])), (ki, .inl (cI, 9, .inl kd)), (si, .inl (cI, 9, .inl sd)), (bh, .inl (cI, 3, .inl bv))] := hD
          refine lv_aload_n hx hb dX7_tryThrees_114 rfl (lv_at hl 3 rfl) ?_
          refine lv_iload hx hb dX7_tryThrees_115 (lv_at hl 1 rfl) ?_
          refine va_put (D := D) (ci := 7) (v := .int (lou n kd sd a b cc)) (ty := .int) (C := RX7) (T := TX7) (N := 28) hx hb hts iX7 tyX7 tyX7_ok nmX7 hown hK hP hD hS 0 rfl rfl 24 (by decide) f186 (fun _ h9 => h9) rfl (by decide +kernel) rfl rfl (Nat.le_of_ble_eq_true rfl) dX7_tryThrees_117 (fun H locs hP hD hS => ?_)
          have hP : va_P D vwCl [(x, .inr (7, [.int fa, .int tr, .ref so, .ref sl, .ref ce, .int (nI n), .int bar, .int (nI tn), .ref ki, .ref si, .ref th, .ref ri, .int at_, .int rp, .ref rk, .ref rs, .ref kt, .ref kr, .int kn, .int rg, .ref ab, .int am, .ref bh, .int (mny a b cc), .int (lou n kd sd a b cc), .int (nI rn), .ref wa, .ref ra])), (ki, .inl (cI, 9, .inl kd)), (si, .inl (cI, 9, .inl sd)), (bh, .inl (cI, 3, .inl bv))] H := hP
          have hD : va_D A [(x, .inr (7, [.int fa, .int tr, .ref so, .ref sl, .ref ce, .int (nI n), .int bar, .int (nI tn), .ref ki, .ref si, .ref th, .ref ri, .int at_, .int rp, .ref rk, .ref rs, .ref kt, .ref kr, .int kn, .int rg, .ref ab, .int am, .ref bh, .int (mny a b cc), .int (lou n kd sd a b cc), .int (nI rn), .ref wa, .ref ra])), (ki, .inl (cI, 9, .inl kd)), (si, .inl (cI, 9, .inl sd)), (bh, .inl (cI, 3, .inl bv))] := hD
          refine lv_aload_n hx hb dX7_tryThrees_120 rfl (lv_at hl 3 rfl) ?_
          refine va_get (D := D) (ci := 7) (v := .ref bh) (C := RX7) (T := TX7) (N := 28) hx hb hts iX7 hown hK hP 0 rfl rfl 22 (by decide) f46 (fun _ h9 => h9) rfl dX7_tryThrees_121 ?_
          refine lv_iconst (v := 0) hx hb dX7_tryThrees_124 (by decide) ?_
          refine lv_iload_n hx hb dX7_tryThrees_125 rfl (lv_at hl 4 rfl) ?_
          refine va_iast hx hb hK hP hD hS 3 0 rfl rfl (show vp_in (nI 0) _ from vp_in_nI (by decide) (by decide)) dX7_tryThrees_126 (fun H locs hP hD hS => ?_)
          rw [show (0 : Int32).toNatClampNeg = 0 from by decide] at hP hD
          have hP : va_P D vwCl [(x, .inr (7, [.int fa, .int tr, .ref so, .ref sl, .ref ce, .int (nI n), .int bar, .int (nI tn), .ref ki, .ref si, .ref th, .ref ri, .int at_, .int rp, .ref rk, .ref rs, .ref kt, .ref kr, .int kn, .int rg, .ref ab, .int am, .ref bh, .int (mny a b cc), .int (lou n kd sd a b cc), .int (nI rn), .ref wa, .ref ra])), (ki, .inl (cI, 9, .inl kd)), (si, .inl (cI, 9, .inl sd)), (bh, .inl (cI, 3, .inl (upd bv 0 a)))] H := hP
          have hD : va_D A [(x, .inr (7, [.int fa, .int tr, .ref so, .ref sl, .ref ce, .int (nI n), .int bar, .int (nI tn), .ref ki, .ref si, .ref th, .ref ri, .int at_, .int rp, .ref rk, .ref rs, .ref kt, .ref kr, .int kn, .int rg, .ref ab, .int am, .ref bh, .int (mny a b cc), .int (lou n kd sd a b cc), .int (nI rn), .ref wa, .ref ra])), (ki, .inl (cI, 9, .inl kd)), (si, .inl (cI, 9, .inl sd)), (bh, .inl (cI, 3, .inl (upd bv 0 a)))] := hD
          refine lv_aload_n hx hb dX7_tryThrees_127 rfl (lv_at hl 3 rfl) ?_
          refine va_get (D := D) (ci := 7) (v := .ref bh) (C := RX7) (T := TX7) (N := 28) hx hb hts iX7 hown hK hP 0 rfl rfl 22 (by decide) f46 (fun _ h9 => h9) rfl dX7_tryThrees_128 ?_
          refine lv_iconst (v := 1) hx hb dX7_tryThrees_131 (by decide) ?_
          refine lv_iload_n hx hb dX7_tryThrees_132 rfl (lv_at hl 5 rfl) ?_
          refine va_iast hx hb hK hP hD hS 3 0 rfl rfl (show vp_in (nI 1) _ from vp_in_nI (by decide) (by decide)) dX7_tryThrees_133 (fun H locs hP hD hS => ?_)
          rw [show (1 : Int32).toNatClampNeg = 1 from by decide] at hP hD
          have hP : va_P D vwCl [(x, .inr (7, [.int fa, .int tr, .ref so, .ref sl, .ref ce, .int (nI n), .int bar, .int (nI tn), .ref ki, .ref si, .ref th, .ref ri, .int at_, .int rp, .ref rk, .ref rs, .ref kt, .ref kr, .int kn, .int rg, .ref ab, .int am, .ref bh, .int (mny a b cc), .int (lou n kd sd a b cc), .int (nI rn), .ref wa, .ref ra])), (ki, .inl (cI, 9, .inl kd)), (si, .inl (cI, 9, .inl sd)), (bh, .inl (cI, 3, .inl (upd (upd bv 0 a) 1 b)))] H := hP
          have hD : va_D A [(x, .inr (7, [.int fa, .int tr, .ref so, .ref sl, .ref ce, .int (nI n), .int bar, .int (nI tn), .ref ki, .ref si, .ref th, .ref ri, .int at_, .int rp, .ref rk, .ref rs, .ref kt, .ref kr, .int kn, .int rg, .ref ab, .int am, .ref bh, .int (mny a b cc), .int (lou n kd sd a b cc), .int (nI rn), .ref wa, .ref ra])), (ki, .inl (cI, 9, .inl kd)), (si, .inl (cI, 9, .inl sd)), (bh, .inl (cI, 3, .inl (upd (upd bv 0 a) 1 b)))] := hD
          refine lv_aload_n hx hb dX7_tryThrees_134 rfl (lv_at hl 3 rfl) ?_
          refine va_get (D := D) (ci := 7) (v := .ref bh) (C := RX7) (T := TX7) (N := 28) hx hb hts iX7 hown hK hP 0 rfl rfl 22 (by decide) f46 (fun _ h9 => h9) rfl dX7_tryThrees_135 ?_
          refine lv_iconst (v := 2) hx hb dX7_tryThrees_138 (by decide) ?_
          refine lv_iload_n hx hb dX7_tryThrees_139 rfl (lv_at hl 6 rfl) ?_
          refine va_iast hx hb hK hP hD hS 3 0 rfl rfl (show vp_in (nI 2) _ from vp_in_nI (by decide) (by decide)) dX7_tryThrees_140 (fun H locs hP hD hS => ?_)
          rw [show (2 : Int32).toNatClampNeg = 2 from by decide] at hP hD
          have hP : va_P D vwCl [(x, .inr (7, [.int fa, .int tr, .ref so, .ref sl, .ref ce, .int (nI n), .int bar, .int (nI tn), .ref ki, .ref si, .ref th, .ref ri, .int at_, .int rp, .ref rk, .ref rs, .ref kt, .ref kr, .int kn, .int rg, .ref ab, .int am, .ref bh, .int (mny a b cc), .int (lou n kd sd a b cc), .int (nI rn), .ref wa, .ref ra])), (ki, .inl (cI, 9, .inl kd)), (si, .inl (cI, 9, .inl sd)), (bh, .inl (cI, 3, .inl (upd (upd (upd bv 0 a) 1 b) 2 cc)))] H := hP
          have hD : va_D A [(x, .inr (7, [.int fa, .int tr, .ref so, .ref sl, .ref ce, .int (nI n), .int bar, .int (nI tn), .ref ki, .ref si, .ref th, .ref ri, .int at_, .int rp, .ref rk, .ref rs, .ref kt, .ref kr, .int kn, .int rg, .ref ab, .int am, .ref bh, .int (mny a b cc), .int (lou n kd sd a b cc), .int (nI rn), .ref wa, .ref ra])), (ki, .inl (cI, 9, .inl kd)), (si, .inl (cI, 9, .inl sd)), (bh, .inl (cI, 3, .inl (upd (upd (upd bv 0 a) 1 b) 2 cc)))] := hD
          exact W.vret hx hb hr (fun t ht hW => ⟨⟨(mny a b cc, lou n kd sd a b cc, upd (upd (upd bv 0 a) 1 b) 2 cc), rfl, by simp [ttZ, hbt], by rw [ht]; exact hP, va_K.moved hW.alike hK, hD⟩, hS.F ht⟩) hS.2.2 dX7_tryThrees_141
        · -- f56
          refine lv_iload hx hb dX7_tryThrees_59 (lv_at hl 1 rfl) ?_
          refine lv_aload_n hx hb dX7_tryThrees_61 rfl (lv_at hl 2 rfl) ?_
          refine va_get (D := D) (ci := 7) (v := .int bm) (C := RX7) (T := TX7) (N := 28) hx hb hts iX7 hown hK hP 0 rfl rfl 23 (by decide) f183 (fun _ h9 => h9) rfl dX7_tryThrees_62 ?_
          refine lv_icmp_ne (tgt := 100) hx hb dX7_tryThrees_65 (by decide) (fun c65 => ?_) (fun c65 => ?_)
          · -- t65
            have hbt : ttB n kd sd (bm, br, bv) a b cc = false := by simp [ttB, c56, c65]
            refine lv_iconst (v := 0) hx hb dX7_tryThrees_100 (by decide) ?_
            refine lv_istore (lv' := [(6, .int 0), (5, .int (lou n kd sd a b cc)), (4, .int (mny a b cc)), (0, .ref x), (1, .int a), (2, .int b), (3, .int cc)]) hx hb dX7_tryThrees_101 hl (by decide) rfl (fun ls hl => ?_)
            refine lv_iload hx hb dX7_tryThrees_103 (lv_at hl 0 rfl) ?_
            refine lv_if_eq (tgt := 141) hx hb dX7_tryThrees_105 (by decide) (fun _ => ?_) (fun h => absurd (by decide) h)
            exact W.vret hx hb hr (fun t ht hW => ⟨⟨(bm, br, bv), rfl, by simp [ttZ, hbt], by rw [ht]; exact hP, va_K.moved hW.alike hK, hD⟩, hS.F ht⟩) hS.2.2 dX7_tryThrees_141
          · -- f65
            refine lv_iload hx hb dX7_tryThrees_68 (lv_at hl 0 rfl) ?_
            refine lv_aload_n hx hb dX7_tryThrees_70 rfl (lv_at hl 2 rfl) ?_
            refine va_get (D := D) (ci := 7) (v := .int br) (C := RX7) (T := TX7) (N := 28) hx hb hts iX7 hown hK hP 0 rfl rfl 24 (by decide) f186 (fun _ h9 => h9) rfl dX7_tryThrees_71 ?_
            refine lv_icmp_gt (tgt := 96) hx hb dX7_tryThrees_74 (by decide) (fun c74 => ?_) (fun c74 => ?_)
            · -- t74
              have hbt : ttB n kd sd (bm, br, bv) a b cc = true := by simp [ttB, c65, c74]
              refine lv_iconst (v := 1) hx hb dX7_tryThrees_96 (by decide) ?_
              refine lv_goto (tgt := 101) hx hb dX7_tryThrees_97 (by decide) ?_
              refine lv_istore (lv' := [(6, .int 1), (5, .int (lou n kd sd a b cc)), (4, .int (mny a b cc)), (0, .ref x), (1, .int a), (2, .int b), (3, .int cc)]) hx hb dX7_tryThrees_101 hl (by decide) rfl (fun ls hl => ?_)
              refine lv_iload hx hb dX7_tryThrees_103 (lv_at hl 0 rfl) ?_
              refine lv_if_eq (tgt := 141) hx hb dX7_tryThrees_105 (by decide) (fun h => absurd h (by decide)) (fun _ => ?_)
              refine lv_aload_n hx hb dX7_tryThrees_108 rfl (lv_at hl 3 rfl) ?_
              refine lv_iload hx hb dX7_tryThrees_109 (lv_at hl 2 rfl) ?_
              refine va_put (D := D) (ci := 7) (v := .int (mny a b cc)) (ty := .int) (C := RX7) (T := TX7) (N := 28) hx hb hts iX7 tyX7 tyX7_ok nmX7 hown hK hP hD hS 0 rfl rfl 23 (by decide) f183 (fun _ h9 => h9) rfl (by decide +kernel) rfl rfl (Nat.le_of_ble_eq_true rfl) dX7_tryThrees_111 (fun H locs hP hD hS => ?_)
              have hP : va_P D vwCl [(x, .inr (7, [.int fa, .int tr, .ref so, .ref sl, .ref ce, .int (nI n), .int bar, .int (nI tn), .ref ki, .ref si, .ref th, .ref ri, .int at_, .int rp, .ref rk, .ref rs, .ref kt, .ref kr, .int kn, .int rg, .ref ab, .int am, .ref bh, .int (mny a b cc), .int br, .int (nI rn), .ref wa, .ref ra])), (ki, .inl (cI, 9, .inl kd)), (si, .inl (cI, 9, .inl sd)), (bh, .inl (cI, 3, .inl bv))] H := hP
              have hD : va_D A [(x, .inr (7, [.int fa, .int tr, .ref so, .ref sl, .ref ce, .int (nI n), .int bar, .int (nI tn), .ref ki, .ref si, .ref th, .ref ri, .int at_, .int rp, .ref rk, .ref rs, .ref kt, .ref kr, .int kn, .int rg, .ref ab, .int am, .ref bh, .int (mny a b cc), .int br, .int (nI rn), .ref wa, .ref ra])), (ki, .inl (cI, 9, .inl kd)), (si, .inl (cI, 9, .inl sd)), (bh, .inl (cI, 3, .inl bv))] := hD
              refine lv_aload_n hx hb dX7_tryThrees_114 rfl (lv_at hl 3 rfl) ?_
              refine lv_iload hx hb dX7_tryThrees_115 (lv_at hl 1 rfl) ?_
              refine va_put (D := D) (ci := 7) (v := .int (lou n kd sd a b cc)) (ty := .int) (C := RX7) (T := TX7) (N := 28) hx hb hts iX7 tyX7 tyX7_ok nmX7 hown hK hP hD hS 0 rfl rfl 24 (by decide) f186 (fun _ h9 => h9) rfl (by decide +kernel) rfl rfl (Nat.le_of_ble_eq_true rfl) dX7_tryThrees_117 (fun H locs hP hD hS => ?_)
              have hP : va_P D vwCl [(x, .inr (7, [.int fa, .int tr, .ref so, .ref sl, .ref ce, .int (nI n), .int bar, .int (nI tn), .ref ki, .ref si, .ref th, .ref ri, .int at_, .int rp, .ref rk, .ref rs, .ref kt, .ref kr, .int kn, .int rg, .ref ab, .int am, .ref bh, .int (mny a b cc), .int (lou n kd sd a b cc), .int (nI rn), .ref wa, .ref ra])), (ki, .inl (cI, 9, .inl kd)), (si, .inl (cI, 9, .inl sd)), (bh, .inl (cI, 3, .inl bv))] H := hP
              have hD : va_D A [(x, .inr (7, [.int fa, .int tr, .ref so, .ref sl, .ref ce, .int (nI n), .int bar, .int (nI tn), .ref ki, .ref si, .ref th, .ref ri, .int at_, .int rp, .ref rk, .ref rs, .ref kt, .ref kr, .int kn, .int rg, .ref ab, .int am, .ref bh, .int (mny a b cc), .int (lou n kd sd a b cc), .int (nI rn), .ref wa, .ref ra])), (ki, .inl (cI, 9, .inl kd)), (si, .inl (cI, 9, .inl sd)), (bh, .inl (cI, 3, .inl bv))] := hD
              refine lv_aload_n hx hb dX7_tryThrees_120 rfl (lv_at hl 3 rfl) ?_
              refine va_get (D := D) (ci := 7) (v := .ref bh) (C := RX7) (T := TX7) (N := 28) hx hb hts iX7 hown hK hP 0 rfl rfl 22 (by decide) f46 (fun _ h9 => h9) rfl dX7_tryThrees_121 ?_
              refine lv_iconst (v := 0) hx hb dX7_tryThrees_124 (by decide) ?_
              refine lv_iload_n hx hb dX7_tryThrees_125 rfl (lv_at hl 4 rfl) ?_
              refine va_iast hx hb hK hP hD hS 3 0 rfl rfl (show vp_in (nI 0) _ from vp_in_nI (by decide) (by decide)) dX7_tryThrees_126 (fun H locs hP hD hS => ?_)
              rw [show (0 : Int32).toNatClampNeg = 0 from by decide] at hP hD
              have hP : va_P D vwCl [(x, .inr (7, [.int fa, .int tr, .ref so, .ref sl, .ref ce, .int (nI n), .int bar, .int (nI tn), .ref ki, .ref si, .ref th, .ref ri, .int at_, .int rp, .ref rk, .ref rs, .ref kt, .ref kr, .int kn, .int rg, .ref ab, .int am, .ref bh, .int (mny a b cc), .int (lou n kd sd a b cc), .int (nI rn), .ref wa, .ref ra])), (ki, .inl (cI, 9, .inl kd)), (si, .inl (cI, 9, .inl sd)), (bh, .inl (cI, 3, .inl (upd bv 0 a)))] H := hP
              have hD : va_D A [(x, .inr (7, [.int fa, .int tr, .ref so, .ref sl, .ref ce, .int (nI n), .int bar, .int (nI tn), .ref ki, .ref si, .ref th, .ref ri, .int at_, .int rp, .ref rk, .ref rs, .ref kt, .ref kr, .int kn, .int rg, .ref ab, .int am, .ref bh, .int (mny a b cc), .int (lou n kd sd a b cc), .int (nI rn), .ref wa, .ref ra])), (ki, .inl (cI, 9, .inl kd)), (si, .inl (cI, 9, .inl sd)), (bh, .inl (cI, 3, .inl (upd bv 0 a)))] := hD
              refine lv_aload_n hx hb dX7_tryThrees_127 rfl (lv_at hl 3 rfl) ?_
              refine va_get (D := D) (ci := 7) (v := .ref bh) (C := RX7) (T := TX7) (N := 28) hx hb hts iX7 hown hK hP 0 rfl rfl 22 (by decide) f46 (fun _ h9 => h9) rfl dX7_tryThrees_128 ?_
              refine lv_iconst (v := 1) hx hb dX7_tryThrees_131 (by decide) ?_
              refine lv_iload_n hx hb dX7_tryThrees_132 rfl (lv_at hl 5 rfl) ?_
              refine va_iast hx hb hK hP hD hS 3 0 rfl rfl (show vp_in (nI 1) _ from vp_in_nI (by decide) (by decide)) dX7_tryThrees_133 (fun H locs hP hD hS => ?_)
              rw [show (1 : Int32).toNatClampNeg = 1 from by decide] at hP hD
              have hP : va_P D vwCl [(x, .inr (7, [.int fa, .int tr, .ref so, .ref sl, .ref ce, .int (nI n), .int bar, .int (nI tn), .ref ki, .ref si, .ref th, .ref ri, .int at_, .int rp, .ref rk, .ref rs, .ref kt, .ref kr, .int kn, .int rg, .ref ab, .int am, .ref bh, .int (mny a b cc), .int (lou n kd sd a b cc), .int (nI rn), .ref wa, .ref ra])), (ki, .inl (cI, 9, .inl kd)), (si, .inl (cI, 9, .inl sd)), (bh, .inl (cI, 3, .inl (upd (upd bv 0 a) 1 b)))] H := hP
              have hD : va_D A [(x, .inr (7, [.int fa, .int tr, .ref so, .ref sl, .ref ce, .int (nI n), .int bar, .int (nI tn), .ref ki, .ref si, .ref th, .ref ri, .int at_, .int rp, .ref rk, .ref rs, .ref kt, .ref kr, .int kn, .int rg, .ref ab, .int am, .ref bh, .int (mny a b cc), .int (lou n kd sd a b cc), .int (nI rn), .ref wa, .ref ra])), (ki, .inl (cI, 9, .inl kd)), (si, .inl (cI, 9, .inl sd)), (bh, .inl (cI, 3, .inl (upd (upd bv 0 a) 1 b)))] := hD
              refine lv_aload_n hx hb dX7_tryThrees_134 rfl (lv_at hl 3 rfl) ?_
              refine va_get (D := D) (ci := 7) (v := .ref bh) (C := RX7) (T := TX7) (N := 28) hx hb hts iX7 hown hK hP 0 rfl rfl 22 (by decide) f46 (fun _ h9 => h9) rfl dX7_tryThrees_135 ?_
              refine lv_iconst (v := 2) hx hb dX7_tryThrees_138 (by decide) ?_
              refine lv_iload_n hx hb dX7_tryThrees_139 rfl (lv_at hl 6 rfl) ?_
              refine va_iast hx hb hK hP hD hS 3 0 rfl rfl (show vp_in (nI 2) _ from vp_in_nI (by decide) (by decide)) dX7_tryThrees_140 (fun H locs hP hD hS => ?_)
              rw [show (2 : Int32).toNatClampNeg = 2 from by decide] at hP hD
              have hP : va_P D vwCl [(x, .inr (7, [.int fa, .int tr, .ref so, .ref sl, .ref ce, .int (nI n), .int bar, .int (nI tn), .ref ki, .ref si, .ref th, .ref ri, .int at_, .int rp, .ref rk, .ref rs, .ref kt, .ref kr, .int kn, .int rg, .ref ab, .int am, .ref bh, .int (mny a b cc), .int (lou n kd sd a b cc), .int (nI rn), .ref wa, .ref ra])), (ki, .inl (cI, 9, .inl kd)), (si, .inl (cI, 9, .inl sd)), (bh, .inl (cI, 3, .inl (upd (upd (upd bv 0 a) 1 b) 2 cc)))] H := hP
              have hD : va_D A [(x, .inr (7, [.int fa, .int tr, .ref so, .ref sl, .ref ce, .int (nI n), .int bar, .int (nI tn), .ref ki, .ref si, .ref th, .ref ri, .int at_, .int rp, .ref rk, .ref rs, .ref kt, .ref kr, .int kn, .int rg, .ref ab, .int am, .ref bh, .int (mny a b cc), .int (lou n kd sd a b cc), .int (nI rn), .ref wa, .ref ra])), (ki, .inl (cI, 9, .inl kd)), (si, .inl (cI, 9, .inl sd)), (bh, .inl (cI, 3, .inl (upd (upd (upd bv 0 a) 1 b) 2 cc)))] := hD
              exact W.vret hx hb hr (fun t ht hW => ⟨⟨(mny a b cc, lou n kd sd a b cc, upd (upd (upd bv 0 a) 1 b) 2 cc), rfl, by simp [ttZ, hbt], by rw [ht]; exact hP, va_K.moved hW.alike hK, hD⟩, hS.F ht⟩) hS.2.2 dX7_tryThrees_141
            · -- f74
              refine lv_iload hx hb dX7_tryThrees_77 (lv_at hl 0 rfl) ?_
              refine lv_aload_n hx hb dX7_tryThrees_79 rfl (lv_at hl 2 rfl) ?_
              refine va_get (D := D) (ci := 7) (v := .int br) (C := RX7) (T := TX7) (N := 28) hx hb hts iX7 hown hK hP 0 rfl rfl 24 (by decide) f186 (fun _ h9 => h9) rfl dX7_tryThrees_80 ?_
              refine lv_icmp_ne (tgt := 100) hx hb dX7_tryThrees_83 (by decide) (fun c83 => ?_) (fun c83 => ?_)
              · -- t83
                have hbt : ttB n kd sd (bm, br, bv) a b cc = false := by unfold ttB; simp only [c56, c74, c83, decide_false, Bool.false_and, Bool.or_false, Bool.and_false]
                refine lv_iconst (v := 0) hx hb dX7_tryThrees_100 (by decide) ?_
                refine lv_istore (lv' := [(6, .int 0), (5, .int (lou n kd sd a b cc)), (4, .int (mny a b cc)), (0, .ref x), (1, .int a), (2, .int b), (3, .int cc)]) hx hb dX7_tryThrees_101 hl (by decide) rfl (fun ls hl => ?_)
                refine lv_iload hx hb dX7_tryThrees_103 (lv_at hl 0 rfl) ?_
                refine lv_if_eq (tgt := 141) hx hb dX7_tryThrees_105 (by decide) (fun _ => ?_) (fun h => absurd (by decide) h)
                exact W.vret hx hb hr (fun t ht hW => ⟨⟨(bm, br, bv), rfl, by simp [ttZ, hbt], by rw [ht]; exact hP, va_K.moved hW.alike hK, hD⟩, hS.F ht⟩) hS.2.2 dX7_tryThrees_141
              · -- f83
                refine lv_aload_n hx hb dX7_tryThrees_86 rfl (lv_at hl 2 rfl) ?_
                refine lv_iload_n hx hb dX7_tryThrees_87 rfl (lv_at hl 3 rfl) ?_
                refine lv_iload_n hx hb dX7_tryThrees_88 rfl (lv_at hl 4 rfl) ?_
                refine lv_iload_n hx hb dX7_tryThrees_89 rfl (lv_at hl 5 rfl) ?_
                have hPc := hP.sub (ws' := [(x, .inr (7, [.int fa, .int tr, .ref so, .ref sl, .ref ce, .int (nI n), .int bar, .int (nI tn), .ref ki, .ref si, .ref th, .ref ri, .int at_, .int rp, .ref rk, .ref rs, .ref kt, .ref kr, .int kn, .int rg, .ref ab, .int am, .ref bh, .int bm, .int br, .int (nI rn), .ref wa, .ref ra])), (bh, .inl (cI, 3, .inl bv))]) [0, 3] rfl
                refine vp_callSi (va_Run.run (va_runV (As := [.int a, .int b, .int cc]) (rest := []) ⟨hx, hb, hml, hown, hts⟩ (c_X7_isAhead l D cI cO x fa tr so sl ce n bar tn ki si th ri at_ rp rk rs kt kr kn rg ab am bh bm br rn wa ra bv a b cc (by assumption)) (cwV 3 hts gX7_tryThrees_X7_isAhead rfl rfl rfl (by decide +kernel) ⟨Nat.le_of_ble_eq_true rfl, Nat.le_of_ble_eq_true rfl⟩) (preVR hPc hK hNw (va_recv hK hPc (ci := 7) (q0 := 0) rfl rfl)) rfl rfl hl.1 rfl (lv_room (Nat.le_of_ble_eq_true rfl)) dX7_tryThrees_90 ⟨Nat.zero_le _, Nat.zero_le _⟩)) (fun r90 w90 => ?_)
                by_cases b90 : ahW a b cc (bv 0) (bv 1) (bv 2) n 0 = true
                · -- y90
                  obtain rfl := w90.1 b90
                  have hbt : ttB n kd sd (bm, br, bv) a b cc = true := by simp [ttB, c65, c83, b90]
                  refine lv_if_eq (tgt := 100) hx hb dX7_tryThrees_93 (by decide) (fun h => absurd h (by decide)) (fun _ => ?_)
                  refine lv_iconst (v := 1) hx hb dX7_tryThrees_96 (by decide) ?_
                  refine lv_goto (tgt := 101) hx hb dX7_tryThrees_97 (by decide) ?_
                  refine lv_istore (lv' := [(6, .int 1), (5, .int (lou n kd sd a b cc)), (4, .int (mny a b cc)), (0, .ref x), (1, .int a), (2, .int b), (3, .int cc)]) hx hb dX7_tryThrees_101 hl (by decide) rfl (fun ls hl => ?_)
                  refine lv_iload hx hb dX7_tryThrees_103 (lv_at hl 0 rfl) ?_
                  refine lv_if_eq (tgt := 141) hx hb dX7_tryThrees_105 (by decide) (fun h => absurd h (by decide)) (fun _ => ?_)
                  refine lv_aload_n hx hb dX7_tryThrees_108 rfl (lv_at hl 3 rfl) ?_
                  refine lv_iload hx hb dX7_tryThrees_109 (lv_at hl 2 rfl) ?_
                  refine va_put (D := D) (ci := 7) (v := .int (mny a b cc)) (ty := .int) (C := RX7) (T := TX7) (N := 28) hx hb hts iX7 tyX7 tyX7_ok nmX7 hown hK hP hD hS 0 rfl rfl 23 (by decide) f183 (fun _ h9 => h9) rfl (by decide +kernel) rfl rfl (Nat.le_of_ble_eq_true rfl) dX7_tryThrees_111 (fun H locs hP hD hS => ?_)
                  have hP : va_P D vwCl [(x, .inr (7, [.int fa, .int tr, .ref so, .ref sl, .ref ce, .int (nI n), .int bar, .int (nI tn), .ref ki, .ref si, .ref th, .ref ri, .int at_, .int rp, .ref rk, .ref rs, .ref kt, .ref kr, .int kn, .int rg, .ref ab, .int am, .ref bh, .int (mny a b cc), .int br, .int (nI rn), .ref wa, .ref ra])), (ki, .inl (cI, 9, .inl kd)), (si, .inl (cI, 9, .inl sd)), (bh, .inl (cI, 3, .inl bv))] H := hP
                  have hD : va_D A [(x, .inr (7, [.int fa, .int tr, .ref so, .ref sl, .ref ce, .int (nI n), .int bar, .int (nI tn), .ref ki, .ref si, .ref th, .ref ri, .int at_, .int rp, .ref rk, .ref rs, .ref kt, .ref kr, .int kn, .int rg, .ref ab, .int am, .ref bh, .int (mny a b cc), .int br, .int (nI rn), .ref wa, .ref ra])), (ki, .inl (cI, 9, .inl kd)), (si, .inl (cI, 9, .inl sd)), (bh, .inl (cI, 3, .inl bv))] := hD
                  refine lv_aload_n hx hb dX7_tryThrees_114 rfl (lv_at hl 3 rfl) ?_
                  refine lv_iload hx hb dX7_tryThrees_115 (lv_at hl 1 rfl) ?_
                  refine va_put (D := D) (ci := 7) (v := .int (lou n kd sd a b cc)) (ty := .int) (C := RX7) (T := TX7) (N := 28) hx hb hts iX7 tyX7 tyX7_ok nmX7 hown hK hP hD hS 0 rfl rfl 24 (by decide) f186 (fun _ h9 => h9) rfl (by decide +kernel) rfl rfl (Nat.le_of_ble_eq_true rfl) dX7_tryThrees_117 (fun H locs hP hD hS => ?_)
                  have hP : va_P D vwCl [(x, .inr (7, [.int fa, .int tr, .ref so, .ref sl, .ref ce, .int (nI n), .int bar, .int (nI tn), .ref ki, .ref si, .ref th, .ref ri, .int at_, .int rp, .ref rk, .ref rs, .ref kt, .ref kr, .int kn, .int rg, .ref ab, .int am, .ref bh, .int (mny a b cc), .int (lou n kd sd a b cc), .int (nI rn), .ref wa, .ref ra])), (ki, .inl (cI, 9, .inl kd)), (si, .inl (cI, 9, .inl sd)), (bh, .inl (cI, 3, .inl bv))] H := hP
                  have hD : va_D A [(x, .inr (7, [.int fa, .int tr, .ref so, .ref sl, .ref ce, .int (nI n), .int bar, .int (nI tn), .ref ki, .ref si, .ref th, .ref ri, .int at_, .int rp, .ref rk, .ref rs, .ref kt, .ref kr, .int kn, .int rg, .ref ab, .int am, .ref bh, .int (mny a b cc), .int (lou n kd sd a b cc), .int (nI rn), .ref wa, .ref ra])), (ki, .inl (cI, 9, .inl kd)), (si, .inl (cI, 9, .inl sd)), (bh, .inl (cI, 3, .inl bv))] := hD
                  refine lv_aload_n hx hb dX7_tryThrees_120 rfl (lv_at hl 3 rfl) ?_
                  refine va_get (D := D) (ci := 7) (v := .ref bh) (C := RX7) (T := TX7) (N := 28) hx hb hts iX7 hown hK hP 0 rfl rfl 22 (by decide) f46 (fun _ h9 => h9) rfl dX7_tryThrees_121 ?_
                  refine lv_iconst (v := 0) hx hb dX7_tryThrees_124 (by decide) ?_
                  refine lv_iload_n hx hb dX7_tryThrees_125 rfl (lv_at hl 4 rfl) ?_
                  refine va_iast hx hb hK hP hD hS 3 0 rfl rfl (show vp_in (nI 0) _ from vp_in_nI (by decide) (by decide)) dX7_tryThrees_126 (fun H locs hP hD hS => ?_)
                  rw [show (0 : Int32).toNatClampNeg = 0 from by decide] at hP hD
                  have hP : va_P D vwCl [(x, .inr (7, [.int fa, .int tr, .ref so, .ref sl, .ref ce, .int (nI n), .int bar, .int (nI tn), .ref ki, .ref si, .ref th, .ref ri, .int at_, .int rp, .ref rk, .ref rs, .ref kt, .ref kr, .int kn, .int rg, .ref ab, .int am, .ref bh, .int (mny a b cc), .int (lou n kd sd a b cc), .int (nI rn), .ref wa, .ref ra])), (ki, .inl (cI, 9, .inl kd)), (si, .inl (cI, 9, .inl sd)), (bh, .inl (cI, 3, .inl (upd bv 0 a)))] H := hP
                  have hD : va_D A [(x, .inr (7, [.int fa, .int tr, .ref so, .ref sl, .ref ce, .int (nI n), .int bar, .int (nI tn), .ref ki, .ref si, .ref th, .ref ri, .int at_, .int rp, .ref rk, .ref rs, .ref kt, .ref kr, .int kn, .int rg, .ref ab, .int am, .ref bh, .int (mny a b cc), .int (lou n kd sd a b cc), .int (nI rn), .ref wa, .ref ra])), (ki, .inl (cI, 9, .inl kd)), (si, .inl (cI, 9, .inl sd)), (bh, .inl (cI, 3, .inl (upd bv 0 a)))] := hD
                  refine lv_aload_n hx hb dX7_tryThrees_127 rfl (lv_at hl 3 rfl) ?_
                  refine va_get (D := D) (ci := 7) (v := .ref bh) (C := RX7) (T := TX7) (N := 28) hx hb hts iX7 hown hK hP 0 rfl rfl 22 (by decide) f46 (fun _ h9 => h9) rfl dX7_tryThrees_128 ?_
                  refine lv_iconst (v := 1) hx hb dX7_tryThrees_131 (by decide) ?_
                  refine lv_iload_n hx hb dX7_tryThrees_132 rfl (lv_at hl 5 rfl) ?_
                  refine va_iast hx hb hK hP hD hS 3 0 rfl rfl (show vp_in (nI 1) _ from vp_in_nI (by decide) (by decide)) dX7_tryThrees_133 (fun H locs hP hD hS => ?_)
                  rw [show (1 : Int32).toNatClampNeg = 1 from by decide] at hP hD
                  have hP : va_P D vwCl [(x, .inr (7, [.int fa, .int tr, .ref so, .ref sl, .ref ce, .int (nI n), .int bar, .int (nI tn), .ref ki, .ref si, .ref th, .ref ri, .int at_, .int rp, .ref rk, .ref rs, .ref kt, .ref kr, .int kn, .int rg, .ref ab, .int am, .ref bh, .int (mny a b cc), .int (lou n kd sd a b cc), .int (nI rn), .ref wa, .ref ra])), (ki, .inl (cI, 9, .inl kd)), (si, .inl (cI, 9, .inl sd)), (bh, .inl (cI, 3, .inl (upd (upd bv 0 a) 1 b)))] H := hP
                  have hD : va_D A [(x, .inr (7, [.int fa, .int tr, .ref so, .ref sl, .ref ce, .int (nI n), .int bar, .int (nI tn), .ref ki, .ref si, .ref th, .ref ri, .int at_, .int rp, .ref rk, .ref rs, .ref kt, .ref kr, .int kn, .int rg, .ref ab, .int am, .ref bh, .int (mny a b cc), .int (lou n kd sd a b cc), .int (nI rn), .ref wa, .ref ra])), (ki, .inl (cI, 9, .inl kd)), (si, .inl (cI, 9, .inl sd)), (bh, .inl (cI, 3, .inl (upd (upd bv 0 a) 1 b)))] := hD
                  refine lv_aload_n hx hb dX7_tryThrees_134 rfl (lv_at hl 3 rfl) ?_
                  refine va_get (D := D) (ci := 7) (v := .ref bh) (C := RX7) (T := TX7) (N := 28) hx hb hts iX7 hown hK hP 0 rfl rfl 22 (by decide) f46 (fun _ h9 => h9) rfl dX7_tryThrees_135 ?_
                  refine lv_iconst (v := 2) hx hb dX7_tryThrees_138 (by decide) ?_
                  refine lv_iload_n hx hb dX7_tryThrees_139 rfl (lv_at hl 6 rfl) ?_
                  refine va_iast hx hb hK hP hD hS 3 0 rfl rfl (show vp_in (nI 2) _ from vp_in_nI (by decide) (by decide)) dX7_tryThrees_140 (fun H locs hP hD hS => ?_)
                  rw [show (2 : Int32).toNatClampNeg = 2 from by decide] at hP hD
                  have hP : va_P D vwCl [(x, .inr (7, [.int fa, .int tr, .ref so, .ref sl, .ref ce, .int (nI n), .int bar, .int (nI tn), .ref ki, .ref si, .ref th, .ref ri, .int at_, .int rp, .ref rk, .ref rs, .ref kt, .ref kr, .int kn, .int rg, .ref ab, .int am, .ref bh, .int (mny a b cc), .int (lou n kd sd a b cc), .int (nI rn), .ref wa, .ref ra])), (ki, .inl (cI, 9, .inl kd)), (si, .inl (cI, 9, .inl sd)), (bh, .inl (cI, 3, .inl (upd (upd (upd bv 0 a) 1 b) 2 cc)))] H := hP
                  have hD : va_D A [(x, .inr (7, [.int fa, .int tr, .ref so, .ref sl, .ref ce, .int (nI n), .int bar, .int (nI tn), .ref ki, .ref si, .ref th, .ref ri, .int at_, .int rp, .ref rk, .ref rs, .ref kt, .ref kr, .int kn, .int rg, .ref ab, .int am, .ref bh, .int (mny a b cc), .int (lou n kd sd a b cc), .int (nI rn), .ref wa, .ref ra])), (ki, .inl (cI, 9, .inl kd)), (si, .inl (cI, 9, .inl sd)), (bh, .inl (cI, 3, .inl (upd (upd (upd bv 0 a) 1 b) 2 cc)))] := hD
                  exact W.vret hx hb hr (fun t ht hW => ⟨⟨(mny a b cc, lou n kd sd a b cc, upd (upd (upd bv 0 a) 1 b) 2 cc), rfl, by simp [ttZ, hbt], by rw [ht]; exact hP, va_K.moved hW.alike hK, hD⟩, hS.F ht⟩) hS.2.2 dX7_tryThrees_141
                · -- n90
                  obtain rfl := w90.2 b90
                  have hbt : ttB n kd sd (bm, br, bv) a b cc = false := by rw [Bool.not_eq_true] at b90; unfold ttB; simp only [c56, c74, b90, decide_false, Bool.or_false, Bool.and_false]
                  refine lv_if_eq (tgt := 100) hx hb dX7_tryThrees_93 (by decide) (fun _ => ?_) (fun h => absurd (by decide) h)
                  refine lv_iconst (v := 0) hx hb dX7_tryThrees_100 (by decide) ?_
                  refine lv_istore (lv' := [(6, .int 0), (5, .int (lou n kd sd a b cc)), (4, .int (mny a b cc)), (0, .ref x), (1, .int a), (2, .int b), (3, .int cc)]) hx hb dX7_tryThrees_101 hl (by decide) rfl (fun ls hl => ?_)
                  refine lv_iload hx hb dX7_tryThrees_103 (lv_at hl 0 rfl) ?_
                  refine lv_if_eq (tgt := 141) hx hb dX7_tryThrees_105 (by decide) (fun _ => ?_) (fun h => absurd (by decide) h)
                  exact W.vret hx hb hr (fun t ht hW => ⟨⟨(bm, br, bv), rfl, by simp [ttZ, hbt], by rw [ht]; exact hP, va_K.moved hW.alike hK, hD⟩, hS.F ht⟩) hS.2.2 dX7_tryThrees_141
    · -- f10
      refine lv_iconst (v := 0) hx hb dX7_tryThrees_13 (by decide) ?_
      refine lv_goto (tgt := 18) hx hb dX7_tryThrees_14 (by decide) ?_
      refine tp_i (y := one0 b) (by simp [one0, c10]) ?_
      refine lv_iadd hx hb dX7_tryThrees_18 ?_
      refine lv_iload_n hx hb dX7_tryThrees_19 rfl (lv_at hl 3 rfl) ?_
      refine lv_if_ne (tgt := 27) hx hb dX7_tryThrees_20 (by decide) (fun c20 => ?_) (fun c20 => ?_)
      · -- t20
        refine lv_iconst (v := 1) hx hb dX7_tryThrees_27 (by decide) ?_
        refine tp_i (y := one0 cc) (by simp [one0, c20]) ?_
        refine lv_iadd hx hb dX7_tryThrees_28 ?_
        refine tp_i (y := mny a b cc) (rfl) ?_
        refine lv_istore (lv' := [(4, .int (mny a b cc)), (0, .ref x), (1, .int a), (2, .int b), (3, .int cc)]) hx hb dX7_tryThrees_29 hl (by decide) rfl (fun ls hl => ?_)
        refine lv_aload_n hx hb dX7_tryThrees_31 rfl (lv_at hl 1 rfl) ?_
        refine lv_iload_n hx hb dX7_tryThrees_32 rfl (lv_at hl 2 rfl) ?_
        have hPc := hP.sub (ws' := [(x, .inr (7, [.int fa, .int tr, .ref so, .ref sl, .ref ce, .int (nI n), .int bar, .int (nI tn), .ref ki, .ref si, .ref th, .ref ri, .int at_, .int rp, .ref rk, .ref rs, .ref kt, .ref kr, .int kn, .int rg, .ref ab, .int am, .ref bh, .int bm, .int br, .int (nI rn), .ref wa, .ref ra])), (ki, .inl (cI, 9, .inl kd)), (si, .inl (cI, 9, .inl sd))]) [0, 1, 2] rfl
        refine vp_callSi (va_Run.run (va_runV (As := [.int a]) (rest := []) ⟨hx, hb, hml, hown, hts⟩ (c_X7_ringsOf l D cI cO x fa tr so sl ce n bar tn ki si th ri at_ rp rk rs kt kr kn rg ab am bh bm br rn wa ra kd sd a (by assumption) (by assumption)) (cwV 1 hts gX7_tryThrees_X7_ringsOf rfl rfl rfl (by decide +kernel) ⟨Nat.le_of_ble_eq_true rfl, Nat.le_of_ble_eq_true rfl⟩) (preVR hPc hK hNw (va_recv hK hPc (ci := 7) (q0 := 0) rfl rfl)) rfl rfl hl.1 rfl (lv_room (Nat.le_of_ble_eq_true rfl)) dX7_tryThrees_33 ⟨Nat.zero_le _, Nat.zero_le _⟩)) (fun r33 w33 => ?_)
        obtain rfl := w33
        refine lv_aload_n hx hb dX7_tryThrees_36 rfl (lv_at hl 1 rfl) ?_
        refine lv_iload_n hx hb dX7_tryThrees_37 rfl (lv_at hl 3 rfl) ?_
        have hPc := hP.sub (ws' := [(x, .inr (7, [.int fa, .int tr, .ref so, .ref sl, .ref ce, .int (nI n), .int bar, .int (nI tn), .ref ki, .ref si, .ref th, .ref ri, .int at_, .int rp, .ref rk, .ref rs, .ref kt, .ref kr, .int kn, .int rg, .ref ab, .int am, .ref bh, .int bm, .int br, .int (nI rn), .ref wa, .ref ra])), (ki, .inl (cI, 9, .inl kd)), (si, .inl (cI, 9, .inl sd))]) [0, 1, 2] rfl
        refine vp_callSi (va_Run.run (va_runV (As := [.int b]) (rest := [.int (sumW (rgF kd sd) a n)]) ⟨hx, hb, hml, hown, hts⟩ (c_X7_ringsOf l D cI cO x fa tr so sl ce n bar tn ki si th ri at_ rp rk rs kt kr kn rg ab am bh bm br rn wa ra kd sd b (by assumption) (by assumption)) (cwV 1 hts gX7_tryThrees_X7_ringsOf rfl rfl rfl (by decide +kernel) ⟨Nat.le_of_ble_eq_true rfl, Nat.le_of_ble_eq_true rfl⟩) (preVR hPc hK hNw (va_recv hK hPc (ci := 7) (q0 := 0) rfl rfl)) rfl rfl hl.1 rfl (lv_room (Nat.le_of_ble_eq_true rfl)) dX7_tryThrees_38 ⟨Nat.zero_le _, Nat.zero_le _⟩)) (fun r38 w38 => ?_)
        obtain rfl := w38
        refine lv_iadd hx hb dX7_tryThrees_41 ?_
        refine lv_aload_n hx hb dX7_tryThrees_42 rfl (lv_at hl 1 rfl) ?_
        refine lv_iload_n hx hb dX7_tryThrees_43 rfl (lv_at hl 4 rfl) ?_
        have hPc := hP.sub (ws' := [(x, .inr (7, [.int fa, .int tr, .ref so, .ref sl, .ref ce, .int (nI n), .int bar, .int (nI tn), .ref ki, .ref si, .ref th, .ref ri, .int at_, .int rp, .ref rk, .ref rs, .ref kt, .ref kr, .int kn, .int rg, .ref ab, .int am, .ref bh, .int bm, .int br, .int (nI rn), .ref wa, .ref ra])), (ki, .inl (cI, 9, .inl kd)), (si, .inl (cI, 9, .inl sd))]) [0, 1, 2] rfl
        refine vp_callSi (va_Run.run (va_runV (As := [.int cc]) (rest := [.int ((sumW (rgF kd sd) a n) + (sumW (rgF kd sd) b n))]) ⟨hx, hb, hml, hown, hts⟩ (c_X7_ringsOf l D cI cO x fa tr so sl ce n bar tn ki si th ri at_ rp rk rs kt kr kn rg ab am bh bm br rn wa ra kd sd cc (by assumption) (by assumption)) (cwV 1 hts gX7_tryThrees_X7_ringsOf rfl rfl rfl (by decide +kernel) ⟨Nat.le_of_ble_eq_true rfl, Nat.le_of_ble_eq_true rfl⟩) (preVR hPc hK hNw (va_recv hK hPc (ci := 7) (q0 := 0) rfl rfl)) rfl rfl hl.1 rfl (lv_room (Nat.le_of_ble_eq_true rfl)) dX7_tryThrees_44 ⟨Nat.zero_le _, Nat.zero_le _⟩)) (fun r44 w44 => ?_)
        obtain rfl := w44
        refine lv_iadd hx hb dX7_tryThrees_47 ?_
        refine tp_i (y := lou n kd sd a b cc) (rfl) ?_
        refine lv_istore (lv' := [(5, .int (lou n kd sd a b cc)), (4, .int (mny a b cc)), (0, .ref x), (1, .int a), (2, .int b), (3, .int cc)]) hx hb dX7_tryThrees_48 hl (by decide) rfl (fun ls hl => ?_)
        refine lv_iload hx hb dX7_tryThrees_50 (lv_at hl 1 rfl) ?_
        refine lv_aload_n hx hb dX7_tryThrees_52 rfl (lv_at hl 2 rfl) ?_
        refine va_get (D := D) (ci := 7) (v := .int bm) (C := RX7) (T := TX7) (N := 28) hx hb hts iX7 hown hK hP 0 rfl rfl 23 (by decide) f183 (fun _ h9 => h9) rfl dX7_tryThrees_53 ?_
        refine lv_icmp_gt (tgt := 96) hx hb dX7_tryThrees_56 (by decide) (fun c56 => ?_) (fun c56 => ?_)
        · -- t56
          have hbt : ttB n kd sd (bm, br, bv) a b cc = true := by simp [ttB, c56]
          refine lv_iconst (v := 1) hx hb dX7_tryThrees_96 (by decide) ?_
          refine lv_goto (tgt := 101) hx hb dX7_tryThrees_97 (by decide) ?_
          refine lv_istore (lv' := [(6, .int 1), (5, .int (lou n kd sd a b cc)), (4, .int (mny a b cc)), (0, .ref x), (1, .int a), (2, .int b), (3, .int cc)]) hx hb dX7_tryThrees_101 hl (by decide) rfl (fun ls hl => ?_)
          refine lv_iload hx hb dX7_tryThrees_103 (lv_at hl 0 rfl) ?_
          refine lv_if_eq (tgt := 141) hx hb dX7_tryThrees_105 (by decide) (fun h => absurd h (by decide)) (fun _ => ?_)
          refine lv_aload_n hx hb dX7_tryThrees_108 rfl (lv_at hl 3 rfl) ?_
          refine lv_iload hx hb dX7_tryThrees_109 (lv_at hl 2 rfl) ?_
          refine va_put (D := D) (ci := 7) (v := .int (mny a b cc)) (ty := .int) (C := RX7) (T := TX7) (N := 28) hx hb hts iX7 tyX7 tyX7_ok nmX7 hown hK hP hD hS 0 rfl rfl 23 (by decide) f183 (fun _ h9 => h9) rfl (by decide +kernel) rfl rfl (Nat.le_of_ble_eq_true rfl) dX7_tryThrees_111 (fun H locs hP hD hS => ?_)
          have hP : va_P D vwCl [(x, .inr (7, [.int fa, .int tr, .ref so, .ref sl, .ref ce, .int (nI n), .int bar, .int (nI tn), .ref ki, .ref si, .ref th, .ref ri, .int at_, .int rp, .ref rk, .ref rs, .ref kt, .ref kr, .int kn, .int rg, .ref ab, .int am, .ref bh, .int (mny a b cc), .int br, .int (nI rn), .ref wa, .ref ra])), (ki, .inl (cI, 9, .inl kd)), (si, .inl (cI, 9, .inl sd)), (bh, .inl (cI, 3, .inl bv))] H := hP
          have hD : va_D A [(x, .inr (7, [.int fa, .int tr, .ref so, .ref sl, .ref ce, .int (nI n), .int bar, .int (nI tn), .ref ki, .ref si, .ref th, .ref ri, .int at_, .int rp, .ref rk, .ref rs, .ref kt, .ref kr, .int kn, .int rg, .ref ab, .int am, .ref bh, .int (mny a b cc), .int br, .int (nI rn), .ref wa, .ref ra])), (ki, .inl (cI, 9, .inl kd)), (si, .inl (cI, 9, .inl sd)), (bh, .inl (cI, 3, .inl bv))] := hD
          refine lv_aload_n hx hb dX7_tryThrees_114 rfl (lv_at hl 3 rfl) ?_
          refine lv_iload hx hb dX7_tryThrees_115 (lv_at hl 1 rfl) ?_
          refine va_put (D := D) (ci := 7) (v := .int (lou n kd sd a b cc)) (ty := .int) (C := RX7) (T := TX7) (N := 28) hx hb hts iX7 tyX7 tyX7_ok nmX7 hown hK hP hD hS 0 rfl rfl 24 (by decide) f186 (fun _ h9 => h9) rfl (by decide +kernel) rfl rfl (Nat.le_of_ble_eq_true rfl) dX7_tryThrees_117 (fun H locs hP hD hS => ?_)
          have hP : va_P D vwCl [(x, .inr (7, [.int fa, .int tr, .ref so, .ref sl, .ref ce, .int (nI n), .int bar, .int (nI tn), .ref ki, .ref si, .ref th, .ref ri, .int at_, .int rp, .ref rk, .ref rs, .ref kt, .ref kr, .int kn, .int rg, .ref ab, .int am, .ref bh, .int (mny a b cc), .int (lou n kd sd a b cc), .int (nI rn), .ref wa, .ref ra])), (ki, .inl (cI, 9, .inl kd)), (si, .inl (cI, 9, .inl sd)), (bh, .inl (cI, 3, .inl bv))] H := hP
          have hD : va_D A [(x, .inr (7, [.int fa, .int tr, .ref so, .ref sl, .ref ce, .int (nI n), .int bar, .int (nI tn), .ref ki, .ref si, .ref th, .ref ri, .int at_, .int rp, .ref rk, .ref rs, .ref kt, .ref kr, .int kn, .int rg, .ref ab, .int am, .ref bh, .int (mny a b cc), .int (lou n kd sd a b cc), .int (nI rn), .ref wa, .ref ra])), (ki, .inl (cI, 9, .inl kd)), (si, .inl (cI, 9, .inl sd)), (bh, .inl (cI, 3, .inl bv))] := hD
          refine lv_aload_n hx hb dX7_tryThrees_120 rfl (lv_at hl 3 rfl) ?_
          refine va_get (D := D) (ci := 7) (v := .ref bh) (C := RX7) (T := TX7) (N := 28) hx hb hts iX7 hown hK hP 0 rfl rfl 22 (by decide) f46 (fun _ h9 => h9) rfl dX7_tryThrees_121 ?_
          refine lv_iconst (v := 0) hx hb dX7_tryThrees_124 (by decide) ?_
          refine lv_iload_n hx hb dX7_tryThrees_125 rfl (lv_at hl 4 rfl) ?_
          refine va_iast hx hb hK hP hD hS 3 0 rfl rfl (show vp_in (nI 0) _ from vp_in_nI (by decide) (by decide)) dX7_tryThrees_126 (fun H locs hP hD hS => ?_)
          rw [show (0 : Int32).toNatClampNeg = 0 from by decide] at hP hD
          have hP : va_P D vwCl [(x, .inr (7, [.int fa, .int tr, .ref so, .ref sl, .ref ce, .int (nI n), .int bar, .int (nI tn), .ref ki, .ref si, .ref th, .ref ri, .int at_, .int rp, .ref rk, .ref rs, .ref kt, .ref kr, .int kn, .int rg, .ref ab, .int am, .ref bh, .int (mny a b cc), .int (lou n kd sd a b cc), .int (nI rn), .ref wa, .ref ra])), (ki, .inl (cI, 9, .inl kd)), (si, .inl (cI, 9, .inl sd)), (bh, .inl (cI, 3, .inl (upd bv 0 a)))] H := hP
          have hD : va_D A [(x, .inr (7, [.int fa, .int tr, .ref so, .ref sl, .ref ce, .int (nI n), .int bar, .int (nI tn), .ref ki, .ref si, .ref th, .ref ri, .int at_, .int rp, .ref rk, .ref rs, .ref kt, .ref kr, .int kn, .int rg, .ref ab, .int am, .ref bh, .int (mny a b cc), .int (lou n kd sd a b cc), .int (nI rn), .ref wa, .ref ra])), (ki, .inl (cI, 9, .inl kd)), (si, .inl (cI, 9, .inl sd)), (bh, .inl (cI, 3, .inl (upd bv 0 a)))] := hD
          refine lv_aload_n hx hb dX7_tryThrees_127 rfl (lv_at hl 3 rfl) ?_
          refine va_get (D := D) (ci := 7) (v := .ref bh) (C := RX7) (T := TX7) (N := 28) hx hb hts iX7 hown hK hP 0 rfl rfl 22 (by decide) f46 (fun _ h9 => h9) rfl dX7_tryThrees_128 ?_
          refine lv_iconst (v := 1) hx hb dX7_tryThrees_131 (by decide) ?_
          refine lv_iload_n hx hb dX7_tryThrees_132 rfl (lv_at hl 5 rfl) ?_
          refine va_iast hx hb hK hP hD hS 3 0 rfl rfl (show vp_in (nI 1) _ from vp_in_nI (by decide) (by decide)) dX7_tryThrees_133 (fun H locs hP hD hS => ?_)
          rw [show (1 : Int32).toNatClampNeg = 1 from by decide] at hP hD
          have hP : va_P D vwCl [(x, .inr (7, [.int fa, .int tr, .ref so, .ref sl, .ref ce, .int (nI n), .int bar, .int (nI tn), .ref ki, .ref si, .ref th, .ref ri, .int at_, .int rp, .ref rk, .ref rs, .ref kt, .ref kr, .int kn, .int rg, .ref ab, .int am, .ref bh, .int (mny a b cc), .int (lou n kd sd a b cc), .int (nI rn), .ref wa, .ref ra])), (ki, .inl (cI, 9, .inl kd)), (si, .inl (cI, 9, .inl sd)), (bh, .inl (cI, 3, .inl (upd (upd bv 0 a) 1 b)))] H := hP
          have hD : va_D A [(x, .inr (7, [.int fa, .int tr, .ref so, .ref sl, .ref ce, .int (nI n), .int bar, .int (nI tn), .ref ki, .ref si, .ref th, .ref ri, .int at_, .int rp, .ref rk, .ref rs, .ref kt, .ref kr, .int kn, .int rg, .ref ab, .int am, .ref bh, .int (mny a b cc), .int (lou n kd sd a b cc), .int (nI rn), .ref wa, .ref ra])), (ki, .inl (cI, 9, .inl kd)), (si, .inl (cI, 9, .inl sd)), (bh, .inl (cI, 3, .inl (upd (upd bv 0 a) 1 b)))] := hD
          refine lv_aload_n hx hb dX7_tryThrees_134 rfl (lv_at hl 3 rfl) ?_
          refine va_get (D := D) (ci := 7) (v := .ref bh) (C := RX7) (T := TX7) (N := 28) hx hb hts iX7 hown hK hP 0 rfl rfl 22 (by decide) f46 (fun _ h9 => h9) rfl dX7_tryThrees_135 ?_
          refine lv_iconst (v := 2) hx hb dX7_tryThrees_138 (by decide) ?_
          refine lv_iload_n hx hb dX7_tryThrees_139 rfl (lv_at hl 6 rfl) ?_
          refine va_iast hx hb hK hP hD hS 3 0 rfl rfl (show vp_in (nI 2) _ from vp_in_nI (by decide) (by decide)) dX7_tryThrees_140 (fun H locs hP hD hS => ?_)
          rw [show (2 : Int32).toNatClampNeg = 2 from by decide] at hP hD
          have hP : va_P D vwCl [(x, .inr (7, [.int fa, .int tr, .ref so, .ref sl, .ref ce, .int (nI n), .int bar, .int (nI tn), .ref ki, .ref si, .ref th, .ref ri, .int at_, .int rp, .ref rk, .ref rs, .ref kt, .ref kr, .int kn, .int rg, .ref ab, .int am, .ref bh, .int (mny a b cc), .int (lou n kd sd a b cc), .int (nI rn), .ref wa, .ref ra])), (ki, .inl (cI, 9, .inl kd)), (si, .inl (cI, 9, .inl sd)), (bh, .inl (cI, 3, .inl (upd (upd (upd bv 0 a) 1 b) 2 cc)))] H := hP
          have hD : va_D A [(x, .inr (7, [.int fa, .int tr, .ref so, .ref sl, .ref ce, .int (nI n), .int bar, .int (nI tn), .ref ki, .ref si, .ref th, .ref ri, .int at_, .int rp, .ref rk, .ref rs, .ref kt, .ref kr, .int kn, .int rg, .ref ab, .int am, .ref bh, .int (mny a b cc), .int (lou n kd sd a b cc), .int (nI rn), .ref wa, .ref ra])), (ki, .inl (cI, 9, .inl kd)), (si, .inl (cI, 9, .inl sd)), (bh, .inl (cI, 3, .inl (upd (upd (upd bv 0 a) 1 b) 2 cc)))] := hD
          exact W.vret hx hb hr (fun t ht hW => ⟨⟨(mny a b cc, lou n kd sd a b cc, upd (upd (upd bv 0 a) 1 b) 2 cc), rfl, by simp [ttZ, hbt], by rw [ht]; exact hP, va_K.moved hW.alike hK, hD⟩, hS.F ht⟩) hS.2.2 dX7_tryThrees_141
        · -- f56
          refine lv_iload hx hb dX7_tryThrees_59 (lv_at hl 1 rfl) ?_
          refine lv_aload_n hx hb dX7_tryThrees_61 rfl (lv_at hl 2 rfl) ?_
          refine va_get (D := D) (ci := 7) (v := .int bm) (C := RX7) (T := TX7) (N := 28) hx hb hts iX7 hown hK hP 0 rfl rfl 23 (by decide) f183 (fun _ h9 => h9) rfl dX7_tryThrees_62 ?_
          refine lv_icmp_ne (tgt := 100) hx hb dX7_tryThrees_65 (by decide) (fun c65 => ?_) (fun c65 => ?_)
          · -- t65
            have hbt : ttB n kd sd (bm, br, bv) a b cc = false := by simp [ttB, c56, c65]
            refine lv_iconst (v := 0) hx hb dX7_tryThrees_100 (by decide) ?_
            refine lv_istore (lv' := [(6, .int 0), (5, .int (lou n kd sd a b cc)), (4, .int (mny a b cc)), (0, .ref x), (1, .int a), (2, .int b), (3, .int cc)]) hx hb dX7_tryThrees_101 hl (by decide) rfl (fun ls hl => ?_)
            refine lv_iload hx hb dX7_tryThrees_103 (lv_at hl 0 rfl) ?_
            refine lv_if_eq (tgt := 141) hx hb dX7_tryThrees_105 (by decide) (fun _ => ?_) (fun h => absurd (by decide) h)
            exact W.vret hx hb hr (fun t ht hW => ⟨⟨(bm, br, bv), rfl, by simp [ttZ, hbt], by rw [ht]; exact hP, va_K.moved hW.alike hK, hD⟩, hS.F ht⟩) hS.2.2 dX7_tryThrees_141
          · -- f65
            refine lv_iload hx hb dX7_tryThrees_68 (lv_at hl 0 rfl) ?_
            refine lv_aload_n hx hb dX7_tryThrees_70 rfl (lv_at hl 2 rfl) ?_
            refine va_get (D := D) (ci := 7) (v := .int br) (C := RX7) (T := TX7) (N := 28) hx hb hts iX7 hown hK hP 0 rfl rfl 24 (by decide) f186 (fun _ h9 => h9) rfl dX7_tryThrees_71 ?_
            refine lv_icmp_gt (tgt := 96) hx hb dX7_tryThrees_74 (by decide) (fun c74 => ?_) (fun c74 => ?_)
            · -- t74
              have hbt : ttB n kd sd (bm, br, bv) a b cc = true := by simp [ttB, c65, c74]
              refine lv_iconst (v := 1) hx hb dX7_tryThrees_96 (by decide) ?_
              refine lv_goto (tgt := 101) hx hb dX7_tryThrees_97 (by decide) ?_
              refine lv_istore (lv' := [(6, .int 1), (5, .int (lou n kd sd a b cc)), (4, .int (mny a b cc)), (0, .ref x), (1, .int a), (2, .int b), (3, .int cc)]) hx hb dX7_tryThrees_101 hl (by decide) rfl (fun ls hl => ?_)
              refine lv_iload hx hb dX7_tryThrees_103 (lv_at hl 0 rfl) ?_
              refine lv_if_eq (tgt := 141) hx hb dX7_tryThrees_105 (by decide) (fun h => absurd h (by decide)) (fun _ => ?_)
              refine lv_aload_n hx hb dX7_tryThrees_108 rfl (lv_at hl 3 rfl) ?_
              refine lv_iload hx hb dX7_tryThrees_109 (lv_at hl 2 rfl) ?_
              refine va_put (D := D) (ci := 7) (v := .int (mny a b cc)) (ty := .int) (C := RX7) (T := TX7) (N := 28) hx hb hts iX7 tyX7 tyX7_ok nmX7 hown hK hP hD hS 0 rfl rfl 23 (by decide) f183 (fun _ h9 => h9) rfl (by decide +kernel) rfl rfl (Nat.le_of_ble_eq_true rfl) dX7_tryThrees_111 (fun H locs hP hD hS => ?_)
              have hP : va_P D vwCl [(x, .inr (7, [.int fa, .int tr, .ref so, .ref sl, .ref ce, .int (nI n), .int bar, .int (nI tn), .ref ki, .ref si, .ref th, .ref ri, .int at_, .int rp, .ref rk, .ref rs, .ref kt, .ref kr, .int kn, .int rg, .ref ab, .int am, .ref bh, .int (mny a b cc), .int br, .int (nI rn), .ref wa, .ref ra])), (ki, .inl (cI, 9, .inl kd)), (si, .inl (cI, 9, .inl sd)), (bh, .inl (cI, 3, .inl bv))] H := hP
              have hD : va_D A [(x, .inr (7, [.int fa, .int tr, .ref so, .ref sl, .ref ce, .int (nI n), .int bar, .int (nI tn), .ref ki, .ref si, .ref th, .ref ri, .int at_, .int rp, .ref rk, .ref rs, .ref kt, .ref kr, .int kn, .int rg, .ref ab, .int am, .ref bh, .int (mny a b cc), .int br, .int (nI rn), .ref wa, .ref ra])), (ki, .inl (cI, 9, .inl kd)), (si, .inl (cI, 9, .inl sd)), (bh, .inl (cI, 3, .inl bv))] := hD
              refine lv_aload_n hx hb dX7_tryThrees_114 rfl (lv_at hl 3 rfl) ?_
              refine lv_iload hx hb dX7_tryThrees_115 (lv_at hl 1 rfl) ?_
              refine va_put (D := D) (ci := 7) (v := .int (lou n kd sd a b cc)) (ty := .int) (C := RX7) (T := TX7) (N := 28) hx hb hts iX7 tyX7 tyX7_ok nmX7 hown hK hP hD hS 0 rfl rfl 24 (by decide) f186 (fun _ h9 => h9) rfl (by decide +kernel) rfl rfl (Nat.le_of_ble_eq_true rfl) dX7_tryThrees_117 (fun H locs hP hD hS => ?_)
              have hP : va_P D vwCl [(x, .inr (7, [.int fa, .int tr, .ref so, .ref sl, .ref ce, .int (nI n), .int bar, .int (nI tn), .ref ki, .ref si, .ref th, .ref ri, .int at_, .int rp, .ref rk, .ref rs, .ref kt, .ref kr, .int kn, .int rg, .ref ab, .int am, .ref bh, .int (mny a b cc), .int (lou n kd sd a b cc), .int (nI rn), .ref wa, .ref ra])), (ki, .inl (cI, 9, .inl kd)), (si, .inl (cI, 9, .inl sd)), (bh, .inl (cI, 3, .inl bv))] H := hP
              have hD : va_D A [(x, .inr (7, [.int fa, .int tr, .ref so, .ref sl, .ref ce, .int (nI n), .int bar, .int (nI tn), .ref ki, .ref si, .ref th, .ref ri, .int at_, .int rp, .ref rk, .ref rs, .ref kt, .ref kr, .int kn, .int rg, .ref ab, .int am, .ref bh, .int (mny a b cc), .int (lou n kd sd a b cc), .int (nI rn), .ref wa, .ref ra])), (ki, .inl (cI, 9, .inl kd)), (si, .inl (cI, 9, .inl sd)), (bh, .inl (cI, 3, .inl bv))] := hD
              refine lv_aload_n hx hb dX7_tryThrees_120 rfl (lv_at hl 3 rfl) ?_
              refine va_get (D := D) (ci := 7) (v := .ref bh) (C := RX7) (T := TX7) (N := 28) hx hb hts iX7 hown hK hP 0 rfl rfl 22 (by decide) f46 (fun _ h9 => h9) rfl dX7_tryThrees_121 ?_
              refine lv_iconst (v := 0) hx hb dX7_tryThrees_124 (by decide) ?_
              refine lv_iload_n hx hb dX7_tryThrees_125 rfl (lv_at hl 4 rfl) ?_
              refine va_iast hx hb hK hP hD hS 3 0 rfl rfl (show vp_in (nI 0) _ from vp_in_nI (by decide) (by decide)) dX7_tryThrees_126 (fun H locs hP hD hS => ?_)
              rw [show (0 : Int32).toNatClampNeg = 0 from by decide] at hP hD
              have hP : va_P D vwCl [(x, .inr (7, [.int fa, .int tr, .ref so, .ref sl, .ref ce, .int (nI n), .int bar, .int (nI tn), .ref ki, .ref si, .ref th, .ref ri, .int at_, .int rp, .ref rk, .ref rs, .ref kt, .ref kr, .int kn, .int rg, .ref ab, .int am, .ref bh, .int (mny a b cc), .int (lou n kd sd a b cc), .int (nI rn), .ref wa, .ref ra])), (ki, .inl (cI, 9, .inl kd)), (si, .inl (cI, 9, .inl sd)), (bh, .inl (cI, 3, .inl (upd bv 0 a)))] H := hP
              have hD : va_D A [(x, .inr (7, [.int fa, .int tr, .ref so, .ref sl, .ref ce, .int (nI n), .int bar, .int (nI tn), .ref ki, .ref si, .ref th, .ref ri, .int at_, .int rp, .ref rk, .ref rs, .ref kt, .ref kr, .int kn, .int rg, .ref ab, .int am, .ref bh, .int (mny a b cc), .int (lou n kd sd a b cc), .int (nI rn), .ref wa, .ref ra])), (ki, .inl (cI, 9, .inl kd)), (si, .inl (cI, 9, .inl sd)), (bh, .inl (cI, 3, .inl (upd bv 0 a)))] := hD
              refine lv_aload_n hx hb dX7_tryThrees_127 rfl (lv_at hl 3 rfl) ?_
              refine va_get (D := D) (ci := 7) (v := .ref bh) (C := RX7) (T := TX7) (N := 28) hx hb hts iX7 hown hK hP 0 rfl rfl 22 (by decide) f46 (fun _ h9 => h9) rfl dX7_tryThrees_128 ?_
              refine lv_iconst (v := 1) hx hb dX7_tryThrees_131 (by decide) ?_
              refine lv_iload_n hx hb dX7_tryThrees_132 rfl (lv_at hl 5 rfl) ?_
              refine va_iast hx hb hK hP hD hS 3 0 rfl rfl (show vp_in (nI 1) _ from vp_in_nI (by decide) (by decide)) dX7_tryThrees_133 (fun H locs hP hD hS => ?_)
              rw [show (1 : Int32).toNatClampNeg = 1 from by decide] at hP hD
              have hP : va_P D vwCl [(x, .inr (7, [.int fa, .int tr, .ref so, .ref sl, .ref ce, .int (nI n), .int bar, .int (nI tn), .ref ki, .ref si, .ref th, .ref ri, .int at_, .int rp, .ref rk, .ref rs, .ref kt, .ref kr, .int kn, .int rg, .ref ab, .int am, .ref bh, .int (mny a b cc), .int (lou n kd sd a b cc), .int (nI rn), .ref wa, .ref ra])), (ki, .inl (cI, 9, .inl kd)), (si, .inl (cI, 9, .inl sd)), (bh, .inl (cI, 3, .inl (upd (upd bv 0 a) 1 b)))] H := hP
              have hD : va_D A [(x, .inr (7, [.int fa, .int tr, .ref so, .ref sl, .ref ce, .int (nI n), .int bar, .int (nI tn), .ref ki, .ref si, .ref th, .ref ri, .int at_, .int rp, .ref rk, .ref rs, .ref kt, .ref kr, .int kn, .int rg, .ref ab, .int am, .ref bh, .int (mny a b cc), .int (lou n kd sd a b cc), .int (nI rn), .ref wa, .ref ra])), (ki, .inl (cI, 9, .inl kd)), (si, .inl (cI, 9, .inl sd)), (bh, .inl (cI, 3, .inl (upd (upd bv 0 a) 1 b)))] := hD
              refine lv_aload_n hx hb dX7_tryThrees_134 rfl (lv_at hl 3 rfl) ?_
              refine va_get (D := D) (ci := 7) (v := .ref bh) (C := RX7) (T := TX7) (N := 28) hx hb hts iX7 hown hK hP 0 rfl rfl 22 (by decide) f46 (fun _ h9 => h9) rfl dX7_tryThrees_135 ?_
              refine lv_iconst (v := 2) hx hb dX7_tryThrees_138 (by decide) ?_
              refine lv_iload_n hx hb dX7_tryThrees_139 rfl (lv_at hl 6 rfl) ?_
              refine va_iast hx hb hK hP hD hS 3 0 rfl rfl (show vp_in (nI 2) _ from vp_in_nI (by decide) (by decide)) dX7_tryThrees_140 (fun H locs hP hD hS => ?_)
              rw [show (2 : Int32).toNatClampNeg = 2 from by decide] at hP hD
              have hP : va_P D vwCl [(x, .inr (7, [.int fa, .int tr, .ref so, .ref sl, .ref ce, .int (nI n), .int bar, .int (nI tn), .ref ki, .ref si, .ref th, .ref ri, .int at_, .int rp, .ref rk, .ref rs, .ref kt, .ref kr, .int kn, .int rg, .ref ab, .int am, .ref bh, .int (mny a b cc), .int (lou n kd sd a b cc), .int (nI rn), .ref wa, .ref ra])), (ki, .inl (cI, 9, .inl kd)), (si, .inl (cI, 9, .inl sd)), (bh, .inl (cI, 3, .inl (upd (upd (upd bv 0 a) 1 b) 2 cc)))] H := hP
              have hD : va_D A [(x, .inr (7, [.int fa, .int tr, .ref so, .ref sl, .ref ce, .int (nI n), .int bar, .int (nI tn), .ref ki, .ref si, .ref th, .ref ri, .int at_, .int rp, .ref rk, .ref rs, .ref kt, .ref kr, .int kn, .int rg, .ref ab, .int am, .ref bh, .int (mny a b cc), .int (lou n kd sd a b cc), .int (nI rn), .ref wa, .ref ra])), (ki, .inl (cI, 9, .inl kd)), (si, .inl (cI, 9, .inl sd)), (bh, .inl (cI, 3, .inl (upd (upd (upd bv 0 a) 1 b) 2 cc)))] := hD
              exact W.vret hx hb hr (fun t ht hW => ⟨⟨(mny a b cc, lou n kd sd a b cc, upd (upd (upd bv 0 a) 1 b) 2 cc), rfl, by simp [ttZ, hbt], by rw [ht]; exact hP, va_K.moved hW.alike hK, hD⟩, hS.F ht⟩) hS.2.2 dX7_tryThrees_141
            · -- f74
              refine lv_iload hx hb dX7_tryThrees_77 (lv_at hl 0 rfl) ?_
              refine lv_aload_n hx hb dX7_tryThrees_79 rfl (lv_at hl 2 rfl) ?_
              refine va_get (D := D) (ci := 7) (v := .int br) (C := RX7) (T := TX7) (N := 28) hx hb hts iX7 hown hK hP 0 rfl rfl 24 (by decide) f186 (fun _ h9 => h9) rfl dX7_tryThrees_80 ?_
              refine lv_icmp_ne (tgt := 100) hx hb dX7_tryThrees_83 (by decide) (fun c83 => ?_) (fun c83 => ?_)
              · -- t83
                have hbt : ttB n kd sd (bm, br, bv) a b cc = false := by unfold ttB; simp only [c56, c74, c83, decide_false, Bool.false_and, Bool.or_false, Bool.and_false]
                refine lv_iconst (v := 0) hx hb dX7_tryThrees_100 (by decide) ?_
                refine lv_istore (lv' := [(6, .int 0), (5, .int (lou n kd sd a b cc)), (4, .int (mny a b cc)), (0, .ref x), (1, .int a), (2, .int b), (3, .int cc)]) hx hb dX7_tryThrees_101 hl (by decide) rfl (fun ls hl => ?_)
                refine lv_iload hx hb dX7_tryThrees_103 (lv_at hl 0 rfl) ?_
                refine lv_if_eq (tgt := 141) hx hb dX7_tryThrees_105 (by decide) (fun _ => ?_) (fun h => absurd (by decide) h)
                exact W.vret hx hb hr (fun t ht hW => ⟨⟨(bm, br, bv), rfl, by simp [ttZ, hbt], by rw [ht]; exact hP, va_K.moved hW.alike hK, hD⟩, hS.F ht⟩) hS.2.2 dX7_tryThrees_141
              · -- f83
                refine lv_aload_n hx hb dX7_tryThrees_86 rfl (lv_at hl 2 rfl) ?_
                refine lv_iload_n hx hb dX7_tryThrees_87 rfl (lv_at hl 3 rfl) ?_
                refine lv_iload_n hx hb dX7_tryThrees_88 rfl (lv_at hl 4 rfl) ?_
                refine lv_iload_n hx hb dX7_tryThrees_89 rfl (lv_at hl 5 rfl) ?_
                have hPc := hP.sub (ws' := [(x, .inr (7, [.int fa, .int tr, .ref so, .ref sl, .ref ce, .int (nI n), .int bar, .int (nI tn), .ref ki, .ref si, .ref th, .ref ri, .int at_, .int rp, .ref rk, .ref rs, .ref kt, .ref kr, .int kn, .int rg, .ref ab, .int am, .ref bh, .int bm, .int br, .int (nI rn), .ref wa, .ref ra])), (bh, .inl (cI, 3, .inl bv))]) [0, 3] rfl
                refine vp_callSi (va_Run.run (va_runV (As := [.int a, .int b, .int cc]) (rest := []) ⟨hx, hb, hml, hown, hts⟩ (c_X7_isAhead l D cI cO x fa tr so sl ce n bar tn ki si th ri at_ rp rk rs kt kr kn rg ab am bh bm br rn wa ra bv a b cc (by assumption)) (cwV 3 hts gX7_tryThrees_X7_isAhead rfl rfl rfl (by decide +kernel) ⟨Nat.le_of_ble_eq_true rfl, Nat.le_of_ble_eq_true rfl⟩) (preVR hPc hK hNw (va_recv hK hPc (ci := 7) (q0 := 0) rfl rfl)) rfl rfl hl.1 rfl (lv_room (Nat.le_of_ble_eq_true rfl)) dX7_tryThrees_90 ⟨Nat.zero_le _, Nat.zero_le _⟩)) (fun r90 w90 => ?_)
                by_cases b90 : ahW a b cc (bv 0) (bv 1) (bv 2) n 0 = true
                · -- y90
                  obtain rfl := w90.1 b90
                  have hbt : ttB n kd sd (bm, br, bv) a b cc = true := by simp [ttB, c65, c83, b90]
                  refine lv_if_eq (tgt := 100) hx hb dX7_tryThrees_93 (by decide) (fun h => absurd h (by decide)) (fun _ => ?_)
                  refine lv_iconst (v := 1) hx hb dX7_tryThrees_96 (by decide) ?_
                  refine lv_goto (tgt := 101) hx hb dX7_tryThrees_97 (by decide) ?_
                  refine lv_istore (lv' := [(6, .int 1), (5, .int (lou n kd sd a b cc)), (4, .int (mny a b cc)), (0, .ref x), (1, .int a), (2, .int b), (3, .int cc)]) hx hb dX7_tryThrees_101 hl (by decide) rfl (fun ls hl => ?_)
                  refine lv_iload hx hb dX7_tryThrees_103 (lv_at hl 0 rfl) ?_
                  refine lv_if_eq (tgt := 141) hx hb dX7_tryThrees_105 (by decide) (fun h => absurd h (by decide)) (fun _ => ?_)
                  refine lv_aload_n hx hb dX7_tryThrees_108 rfl (lv_at hl 3 rfl) ?_
                  refine lv_iload hx hb dX7_tryThrees_109 (lv_at hl 2 rfl) ?_
                  refine va_put (D := D) (ci := 7) (v := .int (mny a b cc)) (ty := .int) (C := RX7) (T := TX7) (N := 28) hx hb hts iX7 tyX7 tyX7_ok nmX7 hown hK hP hD hS 0 rfl rfl 23 (by decide) f183 (fun _ h9 => h9) rfl (by decide +kernel) rfl rfl (Nat.le_of_ble_eq_true rfl) dX7_tryThrees_111 (fun H locs hP hD hS => ?_)
                  have hP : va_P D vwCl [(x, .inr (7, [.int fa, .int tr, .ref so, .ref sl, .ref ce, .int (nI n), .int bar, .int (nI tn), .ref ki, .ref si, .ref th, .ref ri, .int at_, .int rp, .ref rk, .ref rs, .ref kt, .ref kr, .int kn, .int rg, .ref ab, .int am, .ref bh, .int (mny a b cc), .int br, .int (nI rn), .ref wa, .ref ra])), (ki, .inl (cI, 9, .inl kd)), (si, .inl (cI, 9, .inl sd)), (bh, .inl (cI, 3, .inl bv))] H := hP
                  have hD : va_D A [(x, .inr (7, [.int fa, .int tr, .ref so, .ref sl, .ref ce, .int (nI n), .int bar, .int (nI tn), .ref ki, .ref si, .ref th, .ref ri, .int at_, .int rp, .ref rk, .ref rs, .ref kt, .ref kr, .int kn, .int rg, .ref ab, .int am, .ref bh, .int (mny a b cc), .int br, .int (nI rn), .ref wa, .ref ra])), (ki, .inl (cI, 9, .inl kd)), (si, .inl (cI, 9, .inl sd)), (bh, .inl (cI, 3, .inl bv))] := hD
                  refine lv_aload_n hx hb dX7_tryThrees_114 rfl (lv_at hl 3 rfl) ?_
                  refine lv_iload hx hb dX7_tryThrees_115 (lv_at hl 1 rfl) ?_
                  refine va_put (D := D) (ci := 7) (v := .int (lou n kd sd a b cc)) (ty := .int) (C := RX7) (T := TX7) (N := 28) hx hb hts iX7 tyX7 tyX7_ok nmX7 hown hK hP hD hS 0 rfl rfl 24 (by decide) f186 (fun _ h9 => h9) rfl (by decide +kernel) rfl rfl (Nat.le_of_ble_eq_true rfl) dX7_tryThrees_117 (fun H locs hP hD hS => ?_)
                  have hP : va_P D vwCl [(x, .inr (7, [.int fa, .int tr, .ref so, .ref sl, .ref ce, .int (nI n), .int bar, .int (nI tn), .ref ki, .ref si, .ref th, .ref ri, .int at_, .int rp, .ref rk, .ref rs, .ref kt, .ref kr, .int kn, .int rg, .ref ab, .int am, .ref bh, .int (mny a b cc), .int (lou n kd sd a b cc), .int (nI rn), .ref wa, .ref ra])), (ki, .inl (cI, 9, .inl kd)), (si, .inl (cI, 9, .inl sd)), (bh, .inl (cI, 3, .inl bv))] H := hP
                  have hD : va_D A [(x, .inr (7, [.int fa, .int tr, .ref so, .ref sl, .ref ce, .int (nI n), .int bar, .int (nI tn), .ref ki, .ref si, .ref th, .ref ri, .int at_, .int rp, .ref rk, .ref rs, .ref kt, .ref kr, .int kn, .int rg, .ref ab, .int am, .ref bh, .int (mny a b cc), .int (lou n kd sd a b cc), .int (nI rn), .ref wa, .ref ra])), (ki, .inl (cI, 9, .inl kd)), (si, .inl (cI, 9, .inl sd)), (bh, .inl (cI, 3, .inl bv))] := hD
                  refine lv_aload_n hx hb dX7_tryThrees_120 rfl (lv_at hl 3 rfl) ?_
                  refine va_get (D := D) (ci := 7) (v := .ref bh) (C := RX7) (T := TX7) (N := 28) hx hb hts iX7 hown hK hP 0 rfl rfl 22 (by decide) f46 (fun _ h9 => h9) rfl dX7_tryThrees_121 ?_
                  refine lv_iconst (v := 0) hx hb dX7_tryThrees_124 (by decide) ?_
                  refine lv_iload_n hx hb dX7_tryThrees_125 rfl (lv_at hl 4 rfl) ?_
                  refine va_iast hx hb hK hP hD hS 3 0 rfl rfl (show vp_in (nI 0) _ from vp_in_nI (by decide) (by decide)) dX7_tryThrees_126 (fun H locs hP hD hS => ?_)
                  rw [show (0 : Int32).toNatClampNeg = 0 from by decide] at hP hD
                  have hP : va_P D vwCl [(x, .inr (7, [.int fa, .int tr, .ref so, .ref sl, .ref ce, .int (nI n), .int bar, .int (nI tn), .ref ki, .ref si, .ref th, .ref ri, .int at_, .int rp, .ref rk, .ref rs, .ref kt, .ref kr, .int kn, .int rg, .ref ab, .int am, .ref bh, .int (mny a b cc), .int (lou n kd sd a b cc), .int (nI rn), .ref wa, .ref ra])), (ki, .inl (cI, 9, .inl kd)), (si, .inl (cI, 9, .inl sd)), (bh, .inl (cI, 3, .inl (upd bv 0 a)))] H := hP
                  have hD : va_D A [(x, .inr (7, [.int fa, .int tr, .ref so, .ref sl, .ref ce, .int (nI n), .int bar, .int (nI tn), .ref ki, .ref si, .ref th, .ref ri, .int at_, .int rp, .ref rk, .ref rs, .ref kt, .ref kr, .int kn, .int rg, .ref ab, .int am, .ref bh, .int (mny a b cc), .int (lou n kd sd a b cc), .int (nI rn), .ref wa, .ref ra])), (ki, .inl (cI, 9, .inl kd)), (si, .inl (cI, 9, .inl sd)), (bh, .inl (cI, 3, .inl (upd bv 0 a)))] := hD
                  refine lv_aload_n hx hb dX7_tryThrees_127 rfl (lv_at hl 3 rfl) ?_
                  refine va_get (D := D) (ci := 7) (v := .ref bh) (C := RX7) (T := TX7) (N := 28) hx hb hts iX7 hown hK hP 0 rfl rfl 22 (by decide) f46 (fun _ h9 => h9) rfl dX7_tryThrees_128 ?_
                  refine lv_iconst (v := 1) hx hb dX7_tryThrees_131 (by decide) ?_
                  refine lv_iload_n hx hb dX7_tryThrees_132 rfl (lv_at hl 5 rfl) ?_
                  refine va_iast hx hb hK hP hD hS 3 0 rfl rfl (show vp_in (nI 1) _ from vp_in_nI (by decide) (by decide)) dX7_tryThrees_133 (fun H locs hP hD hS => ?_)
                  rw [show (1 : Int32).toNatClampNeg = 1 from by decide] at hP hD
                  have hP : va_P D vwCl [(x, .inr (7, [.int fa, .int tr, .ref so, .ref sl, .ref ce, .int (nI n), .int bar, .int (nI tn), .ref ki, .ref si, .ref th, .ref ri, .int at_, .int rp, .ref rk, .ref rs, .ref kt, .ref kr, .int kn, .int rg, .ref ab, .int am, .ref bh, .int (mny a b cc), .int (lou n kd sd a b cc), .int (nI rn), .ref wa, .ref ra])), (ki, .inl (cI, 9, .inl kd)), (si, .inl (cI, 9, .inl sd)), (bh, .inl (cI, 3, .inl (upd (upd bv 0 a) 1 b)))] H := hP
                  have hD : va_D A [(x, .inr (7, [.int fa, .int tr, .ref so, .ref sl, .ref ce, .int (nI n), .int bar, .int (nI tn), .ref ki, .ref si, .ref th, .ref ri, .int at_, .int rp, .ref rk, .ref rs, .ref kt, .ref kr, .int kn, .int rg, .ref ab, .int am, .ref bh, .int (mny a b cc), .int (lou n kd sd a b cc), .int (nI rn), .ref wa, .ref ra])), (ki, .inl (cI, 9, .inl kd)), (si, .inl (cI, 9, .inl sd)), (bh, .inl (cI, 3, .inl (upd (upd bv 0 a) 1 b)))] := hD
                  refine lv_aload_n hx hb dX7_tryThrees_134 rfl (lv_at hl 3 rfl) ?_
                  refine va_get (D := D) (ci := 7) (v := .ref bh) (C := RX7) (T := TX7) (N := 28) hx hb hts iX7 hown hK hP 0 rfl rfl 22 (by decide) f46 (fun _ h9 => h9) rfl dX7_tryThrees_135 ?_
                  refine lv_iconst (v := 2) hx hb dX7_tryThrees_138 (by decide) ?_
                  refine lv_iload_n hx hb dX7_tryThrees_139 rfl (lv_at hl 6 rfl) ?_
                  refine va_iast hx hb hK hP hD hS 3 0 rfl rfl (show vp_in (nI 2) _ from vp_in_nI (by decide) (by decide)) dX7_tryThrees_140 (fun H locs hP hD hS => ?_)
                  rw [show (2 : Int32).toNatClampNeg = 2 from by decide] at hP hD
                  have hP : va_P D vwCl [(x, .inr (7, [.int fa, .int tr, .ref so, .ref sl, .ref ce, .int (nI n), .int bar, .int (nI tn), .ref ki, .ref si, .ref th, .ref ri, .int at_, .int rp, .ref rk, .ref rs, .ref kt, .ref kr, .int kn, .int rg, .ref ab, .int am, .ref bh, .int (mny a b cc), .int (lou n kd sd a b cc), .int (nI rn), .ref wa, .ref ra])), (ki, .inl (cI, 9, .inl kd)), (si, .inl (cI, 9, .inl sd)), (bh, .inl (cI, 3, .inl (upd (upd (upd bv 0 a) 1 b) 2 cc)))] H := hP
                  have hD : va_D A [(x, .inr (7, [.int fa, .int tr, .ref so, .ref sl, .ref ce, .int (nI n), .int bar, .int (nI tn), .ref ki, .ref si, .ref th, .ref ri, .int at_, .int rp, .ref rk, .ref rs, .ref kt, .ref kr, .int kn, .int rg, .ref ab, .int am, .ref bh, .int (mny a b cc), .int (lou n kd sd a b cc), .int (nI rn), .ref wa, .ref ra])), (ki, .inl (cI, 9, .inl kd)), (si, .inl (cI, 9, .inl sd)), (bh, .inl (cI, 3, .inl (upd (upd (upd bv 0 a) 1 b) 2 cc)))] := hD
                  exact W.vret hx hb hr (fun t ht hW => ⟨⟨(mny a b cc, lou n kd sd a b cc, upd (upd (upd bv 0 a) 1 b) 2 cc), rfl, by simp [ttZ, hbt], by rw [ht]; exact hP, va_K.moved hW.alike hK, hD⟩, hS.F ht⟩) hS.2.2 dX7_tryThrees_141
                · -- n90
                  obtain rfl := w90.2 b90
                  have hbt : ttB n kd sd (bm, br, bv) a b cc = false := by rw [Bool.not_eq_true] at b90; unfold ttB; simp only [c56, c74, b90, decide_false, Bool.or_false, Bool.and_false]
                  refine lv_if_eq (tgt := 100) hx hb dX7_tryThrees_93 (by decide) (fun _ => ?_) (fun h => absurd (by decide) h)
                  refine lv_iconst (v := 0) hx hb dX7_tryThrees_100 (by decide) ?_
                  refine lv_istore (lv' := [(6, .int 0), (5, .int (lou n kd sd a b cc)), (4, .int (mny a b cc)), (0, .ref x), (1, .int a), (2, .int b), (3, .int cc)]) hx hb dX7_tryThrees_101 hl (by decide) rfl (fun ls hl => ?_)
                  refine lv_iload hx hb dX7_tryThrees_103 (lv_at hl 0 rfl) ?_
                  refine lv_if_eq (tgt := 141) hx hb dX7_tryThrees_105 (by decide) (fun _ => ?_) (fun h => absurd (by decide) h)
                  exact W.vret hx hb hr (fun t ht hW => ⟨⟨(bm, br, bv), rfl, by simp [ttZ, hbt], by rw [ht]; exact hP, va_K.moved hW.alike hK, hD⟩, hS.F ht⟩) hS.2.2 dX7_tryThrees_141
      · -- f20
        refine lv_iconst (v := 0) hx hb dX7_tryThrees_23 (by decide) ?_
        refine lv_goto (tgt := 28) hx hb dX7_tryThrees_24 (by decide) ?_
        refine tp_i (y := one0 cc) (by simp [one0, c20]) ?_
        refine lv_iadd hx hb dX7_tryThrees_28 ?_
        refine tp_i (y := mny a b cc) (rfl) ?_
        refine lv_istore (lv' := [(4, .int (mny a b cc)), (0, .ref x), (1, .int a), (2, .int b), (3, .int cc)]) hx hb dX7_tryThrees_29 hl (by decide) rfl (fun ls hl => ?_)
        refine lv_aload_n hx hb dX7_tryThrees_31 rfl (lv_at hl 1 rfl) ?_
        refine lv_iload_n hx hb dX7_tryThrees_32 rfl (lv_at hl 2 rfl) ?_
        have hPc := hP.sub (ws' := [(x, .inr (7, [.int fa, .int tr, .ref so, .ref sl, .ref ce, .int (nI n), .int bar, .int (nI tn), .ref ki, .ref si, .ref th, .ref ri, .int at_, .int rp, .ref rk, .ref rs, .ref kt, .ref kr, .int kn, .int rg, .ref ab, .int am, .ref bh, .int bm, .int br, .int (nI rn), .ref wa, .ref ra])), (ki, .inl (cI, 9, .inl kd)), (si, .inl (cI, 9, .inl sd))]) [0, 1, 2] rfl
        refine vp_callSi (va_Run.run (va_runV (As := [.int a]) (rest := []) ⟨hx, hb, hml, hown, hts⟩ (c_X7_ringsOf l D cI cO x fa tr so sl ce n bar tn ki si th ri at_ rp rk rs kt kr kn rg ab am bh bm br rn wa ra kd sd a (by assumption) (by assumption)) (cwV 1 hts gX7_tryThrees_X7_ringsOf rfl rfl rfl (by decide +kernel) ⟨Nat.le_of_ble_eq_true rfl, Nat.le_of_ble_eq_true rfl⟩) (preVR hPc hK hNw (va_recv hK hPc (ci := 7) (q0 := 0) rfl rfl)) rfl rfl hl.1 rfl (lv_room (Nat.le_of_ble_eq_true rfl)) dX7_tryThrees_33 ⟨Nat.zero_le _, Nat.zero_le _⟩)) (fun r33 w33 => ?_)
        obtain rfl := w33
        refine lv_aload_n hx hb dX7_tryThrees_36 rfl (lv_at hl 1 rfl) ?_
        refine lv_iload_n hx hb dX7_tryThrees_37 rfl (lv_at hl 3 rfl) ?_
        have hPc := hP.sub (ws' := [(x, .inr (7, [.int fa, .int tr, .ref so, .ref sl, .ref ce, .int (nI n), .int bar, .int (nI tn), .ref ki, .ref si, .ref th, .ref ri, .int at_, .int rp, .ref rk, .ref rs, .ref kt, .ref kr, .int kn, .int rg, .ref ab, .int am, .ref bh, .int bm, .int br, .int (nI rn), .ref wa, .ref ra])), (ki, .inl (cI, 9, .inl kd)), (si, .inl (cI, 9, .inl sd))]) [0, 1, 2] rfl
        refine vp_callSi (va_Run.run (va_runV (As := [.int b]) (rest := [.int (sumW (rgF kd sd) a n)]) ⟨hx, hb, hml, hown, hts⟩ (c_X7_ringsOf l D cI cO x fa tr so sl ce n bar tn ki si th ri at_ rp rk rs kt kr kn rg ab am bh bm br rn wa ra kd sd b (by assumption) (by assumption)) (cwV 1 hts gX7_tryThrees_X7_ringsOf rfl rfl rfl (by decide +kernel) ⟨Nat.le_of_ble_eq_true rfl, Nat.le_of_ble_eq_true rfl⟩) (preVR hPc hK hNw (va_recv hK hPc (ci := 7) (q0 := 0) rfl rfl)) rfl rfl hl.1 rfl (lv_room (Nat.le_of_ble_eq_true rfl)) dX7_tryThrees_38 ⟨Nat.zero_le _, Nat.zero_le _⟩)) (fun r38 w38 => ?_)
        obtain rfl := w38
        refine lv_iadd hx hb dX7_tryThrees_41 ?_
        refine lv_aload_n hx hb dX7_tryThrees_42 rfl (lv_at hl 1 rfl) ?_
        refine lv_iload_n hx hb dX7_tryThrees_43 rfl (lv_at hl 4 rfl) ?_
        have hPc := hP.sub (ws' := [(x, .inr (7, [.int fa, .int tr, .ref so, .ref sl, .ref ce, .int (nI n), .int bar, .int (nI tn), .ref ki, .ref si, .ref th, .ref ri, .int at_, .int rp, .ref rk, .ref rs, .ref kt, .ref kr, .int kn, .int rg, .ref ab, .int am, .ref bh, .int bm, .int br, .int (nI rn), .ref wa, .ref ra])), (ki, .inl (cI, 9, .inl kd)), (si, .inl (cI, 9, .inl sd))]) [0, 1, 2] rfl
        refine vp_callSi (va_Run.run (va_runV (As := [.int cc]) (rest := [.int ((sumW (rgF kd sd) a n) + (sumW (rgF kd sd) b n))]) ⟨hx, hb, hml, hown, hts⟩ (c_X7_ringsOf l D cI cO x fa tr so sl ce n bar tn ki si th ri at_ rp rk rs kt kr kn rg ab am bh bm br rn wa ra kd sd cc (by assumption) (by assumption)) (cwV 1 hts gX7_tryThrees_X7_ringsOf rfl rfl rfl (by decide +kernel) ⟨Nat.le_of_ble_eq_true rfl, Nat.le_of_ble_eq_true rfl⟩) (preVR hPc hK hNw (va_recv hK hPc (ci := 7) (q0 := 0) rfl rfl)) rfl rfl hl.1 rfl (lv_room (Nat.le_of_ble_eq_true rfl)) dX7_tryThrees_44 ⟨Nat.zero_le _, Nat.zero_le _⟩)) (fun r44 w44 => ?_)
        obtain rfl := w44
        refine lv_iadd hx hb dX7_tryThrees_47 ?_
        refine tp_i (y := lou n kd sd a b cc) (rfl) ?_
        refine lv_istore (lv' := [(5, .int (lou n kd sd a b cc)), (4, .int (mny a b cc)), (0, .ref x), (1, .int a), (2, .int b), (3, .int cc)]) hx hb dX7_tryThrees_48 hl (by decide) rfl (fun ls hl => ?_)
        refine lv_iload hx hb dX7_tryThrees_50 (lv_at hl 1 rfl) ?_
        refine lv_aload_n hx hb dX7_tryThrees_52 rfl (lv_at hl 2 rfl) ?_
        refine va_get (D := D) (ci := 7) (v := .int bm) (C := RX7) (T := TX7) (N := 28) hx hb hts iX7 hown hK hP 0 rfl rfl 23 (by decide) f183 (fun _ h9 => h9) rfl dX7_tryThrees_53 ?_
        refine lv_icmp_gt (tgt := 96) hx hb dX7_tryThrees_56 (by decide) (fun c56 => ?_) (fun c56 => ?_)
        · -- t56
          have hbt : ttB n kd sd (bm, br, bv) a b cc = true := by simp [ttB, c56]
          refine lv_iconst (v := 1) hx hb dX7_tryThrees_96 (by decide) ?_
          refine lv_goto (tgt := 101) hx hb dX7_tryThrees_97 (by decide) ?_
          refine lv_istore (lv' := [(6, .int 1), (5, .int (lou n kd sd a b cc)), (4, .int (mny a b cc)), (0, .ref x), (1, .int a), (2, .int b), (3, .int cc)]) hx hb dX7_tryThrees_101 hl (by decide) rfl (fun ls hl => ?_)
          refine lv_iload hx hb dX7_tryThrees_103 (lv_at hl 0 rfl) ?_
          refine lv_if_eq (tgt := 141) hx hb dX7_tryThrees_105 (by decide) (fun h => absurd h (by decide)) (fun _ => ?_)
          refine lv_aload_n hx hb dX7_tryThrees_108 rfl (lv_at hl 3 rfl) ?_
          refine lv_iload hx hb dX7_tryThrees_109 (lv_at hl 2 rfl) ?_
          refine va_put (D := D) (ci := 7) (v := .int (mny a b cc)) (ty := .int) (C := RX7) (T := TX7) (N := 28) hx hb hts iX7 tyX7 tyX7_ok nmX7 hown hK hP hD hS 0 rfl rfl 23 (by decide) f183 (fun _ h9 => h9) rfl (by decide +kernel) rfl rfl (Nat.le_of_ble_eq_true rfl) dX7_tryThrees_111 (fun H locs hP hD hS => ?_)
          have hP : va_P D vwCl [(x, .inr (7, [.int fa, .int tr, .ref so, .ref sl, .ref ce, .int (nI n), .int bar, .int (nI tn), .ref ki, .ref si, .ref th, .ref ri, .int at_, .int rp, .ref rk, .ref rs, .ref kt, .ref kr, .int kn, .int rg, .ref ab, .int am, .ref bh, .int (mny a b cc), .int br, .int (nI rn), .ref wa, .ref ra])), (ki, .inl (cI, 9, .inl kd)), (si, .inl (cI, 9, .inl sd)), (bh, .inl (cI, 3, .inl bv))] H := hP
          have hD : va_D A [(x, .inr (7, [.int fa, .int tr, .ref so, .ref sl, .ref ce, .int (nI n), .int bar, .int (nI tn), .ref ki, .ref si, .ref th, .ref ri, .int at_, .int rp, .ref rk, .ref rs, .ref kt, .ref kr, .int kn, .int rg, .ref ab, .int am, .ref bh, .int (mny a b cc), .int br, .int (nI rn), .ref wa, .ref ra])), (ki, .inl (cI, 9, .inl kd)), (si, .inl (cI, 9, .inl sd)), (bh, .inl (cI, 3, .inl bv))] := hD
          refine lv_aload_n hx hb dX7_tryThrees_114 rfl (lv_at hl 3 rfl) ?_
          refine lv_iload hx hb dX7_tryThrees_115 (lv_at hl 1 rfl) ?_
          refine va_put (D := D) (ci := 7) (v := .int (lou n kd sd a b cc)) (ty := .int) (C := RX7) (T := TX7) (N := 28) hx hb hts iX7 tyX7 tyX7_ok nmX7 hown hK hP hD hS 0 rfl rfl 24 (by decide) f186 (fun _ h9 => h9) rfl (by decide +kernel) rfl rfl (Nat.le_of_ble_eq_true rfl) dX7_tryThrees_117 (fun H locs hP hD hS => ?_)
          have hP : va_P D vwCl [(x, .inr (7, [.int fa, .int tr, .ref so, .ref sl, .ref ce, .int (nI n), .int bar, .int (nI tn), .ref ki, .ref si, .ref th, .ref ri, .int at_, .int rp, .ref rk, .ref rs, .ref kt, .ref kr, .int kn, .int rg, .ref ab, .int am, .ref bh, .int (mny a b cc), .int (lou n kd sd a b cc), .int (nI rn), .ref wa, .ref ra])), (ki, .inl (cI, 9, .inl kd)), (si, .inl (cI, 9, .inl sd)), (bh, .inl (cI, 3, .inl bv))] H := hP
          have hD : va_D A [(x, .inr (7, [.int fa, .int tr, .ref so, .ref sl, .ref ce, .int (nI n), .int bar, .int (nI tn), .ref ki, .ref si, .ref th, .ref ri, .int at_, .int rp, .ref rk, .ref rs, .ref kt, .ref kr, .int kn, .int rg, .ref ab, .int am, .ref bh, .int (mny a b cc), .int (lou n kd sd a b cc), .int (nI rn), .ref wa, .ref ra])), (ki, .inl (cI, 9, .inl kd)), (si, .inl (cI, 9, .inl sd)), (bh, .inl (cI, 3, .inl bv))] := hD
          refine lv_aload_n hx hb dX7_tryThrees_120 rfl (lv_at hl 3 rfl) ?_
          refine va_get (D := D) (ci := 7) (v := .ref bh) (C := RX7) (T := TX7) (N := 28) hx hb hts iX7 hown hK hP 0 rfl rfl 22 (by decide) f46 (fun _ h9 => h9) rfl dX7_tryThrees_121 ?_
          refine lv_iconst (v := 0) hx hb dX7_tryThrees_124 (by decide) ?_
          refine lv_iload_n hx hb dX7_tryThrees_125 rfl (lv_at hl 4 rfl) ?_
          refine va_iast hx hb hK hP hD hS 3 0 rfl rfl (show vp_in (nI 0) _ from vp_in_nI (by decide) (by decide)) dX7_tryThrees_126 (fun H locs hP hD hS => ?_)
          rw [show (0 : Int32).toNatClampNeg = 0 from by decide] at hP hD
          have hP : va_P D vwCl [(x, .inr (7, [.int fa, .int tr, .ref so, .ref sl, .ref ce, .int (nI n), .int bar, .int (nI tn), .ref ki, .ref si, .ref th, .ref ri, .int at_, .int rp, .ref rk, .ref rs, .ref kt, .ref kr, .int kn, .int rg, .ref ab, .int am, .ref bh, .int (mny a b cc), .int (lou n kd sd a b cc), .int (nI rn), .ref wa, .ref ra])), (ki, .inl (cI, 9, .inl kd)), (si, .inl (cI, 9, .inl sd)), (bh, .inl (cI, 3, .inl (upd bv 0 a)))] H := hP
          have hD : va_D A [(x, .inr (7, [.int fa, .int tr, .ref so, .ref sl, .ref ce, .int (nI n), .int bar, .int (nI tn), .ref ki, .ref si, .ref th, .ref ri, .int at_, .int rp, .ref rk, .ref rs, .ref kt, .ref kr, .int kn, .int rg, .ref ab, .int am, .ref bh, .int (mny a b cc), .int (lou n kd sd a b cc), .int (nI rn), .ref wa, .ref ra])), (ki, .inl (cI, 9, .inl kd)), (si, .inl (cI, 9, .inl sd)), (bh, .inl (cI, 3, .inl (upd bv 0 a)))] := hD
          refine lv_aload_n hx hb dX7_tryThrees_127 rfl (lv_at hl 3 rfl) ?_
          refine va_get (D := D) (ci := 7) (v := .ref bh) (C := RX7) (T := TX7) (N := 28) hx hb hts iX7 hown hK hP 0 rfl rfl 22 (by decide) f46 (fun _ h9 => h9) rfl dX7_tryThrees_128 ?_
          refine lv_iconst (v := 1) hx hb dX7_tryThrees_131 (by decide) ?_
          refine lv_iload_n hx hb dX7_tryThrees_132 rfl (lv_at hl 5 rfl) ?_
          refine va_iast hx hb hK hP hD hS 3 0 rfl rfl (show vp_in (nI 1) _ from vp_in_nI (by decide) (by decide)) dX7_tryThrees_133 (fun H locs hP hD hS => ?_)
          rw [show (1 : Int32).toNatClampNeg = 1 from by decide] at hP hD
          have hP : va_P D vwCl [(x, .inr (7, [.int fa, .int tr, .ref so, .ref sl, .ref ce, .int (nI n), .int bar, .int (nI tn), .ref ki, .ref si, .ref th, .ref ri, .int at_, .int rp, .ref rk, .ref rs, .ref kt, .ref kr, .int kn, .int rg, .ref ab, .int am, .ref bh, .int (mny a b cc), .int (lou n kd sd a b cc), .int (nI rn), .ref wa, .ref ra])), (ki, .inl (cI, 9, .inl kd)), (si, .inl (cI, 9, .inl sd)), (bh, .inl (cI, 3, .inl (upd (upd bv 0 a) 1 b)))] H := hP
          have hD : va_D A [(x, .inr (7, [.int fa, .int tr, .ref so, .ref sl, .ref ce, .int (nI n), .int bar, .int (nI tn), .ref ki, .ref si, .ref th, .ref ri, .int at_, .int rp, .ref rk, .ref rs, .ref kt, .ref kr, .int kn, .int rg, .ref ab, .int am, .ref bh, .int (mny a b cc), .int (lou n kd sd a b cc), .int (nI rn), .ref wa, .ref ra])), (ki, .inl (cI, 9, .inl kd)), (si, .inl (cI, 9, .inl sd)), (bh, .inl (cI, 3, .inl (upd (upd bv 0 a) 1 b)))] := hD
          refine lv_aload_n hx hb dX7_tryThrees_134 rfl (lv_at hl 3 rfl) ?_
          refine va_get (D := D) (ci := 7) (v := .ref bh) (C := RX7) (T := TX7) (N := 28) hx hb hts iX7 hown hK hP 0 rfl rfl 22 (by decide) f46 (fun _ h9 => h9) rfl dX7_tryThrees_135 ?_
          refine lv_iconst (v := 2) hx hb dX7_tryThrees_138 (by decide) ?_
          refine lv_iload_n hx hb dX7_tryThrees_139 rfl (lv_at hl 6 rfl) ?_
          refine va_iast hx hb hK hP hD hS 3 0 rfl rfl (show vp_in (nI 2) _ from vp_in_nI (by decide) (by decide)) dX7_tryThrees_140 (fun H locs hP hD hS => ?_)
          rw [show (2 : Int32).toNatClampNeg = 2 from by decide] at hP hD
          have hP : va_P D vwCl [(x, .inr (7, [.int fa, .int tr, .ref so, .ref sl, .ref ce, .int (nI n), .int bar, .int (nI tn), .ref ki, .ref si, .ref th, .ref ri, .int at_, .int rp, .ref rk, .ref rs, .ref kt, .ref kr, .int kn, .int rg, .ref ab, .int am, .ref bh, .int (mny a b cc), .int (lou n kd sd a b cc), .int (nI rn), .ref wa, .ref ra])), (ki, .inl (cI, 9, .inl kd)), (si, .inl (cI, 9, .inl sd)), (bh, .inl (cI, 3, .inl (upd (upd (upd bv 0 a) 1 b) 2 cc)))] H := hP
          have hD : va_D A [(x, .inr (7, [.int fa, .int tr, .ref so, .ref sl, .ref ce, .int (nI n), .int bar, .int (nI tn), .ref ki, .ref si, .ref th, .ref ri, .int at_, .int rp, .ref rk, .ref rs, .ref kt, .ref kr, .int kn, .int rg, .ref ab, .int am, .ref bh, .int (mny a b cc), .int (lou n kd sd a b cc), .int (nI rn), .ref wa, .ref ra])), (ki, .inl (cI, 9, .inl kd)), (si, .inl (cI, 9, .inl sd)), (bh, .inl (cI, 3, .inl (upd (upd (upd bv 0 a) 1 b) 2 cc)))] := hD
          exact W.vret hx hb hr (fun t ht hW => ⟨⟨(mny a b cc, lou n kd sd a b cc, upd (upd (upd bv 0 a) 1 b) 2 cc), rfl, by simp [ttZ, hbt], by rw [ht]; exact hP, va_K.moved hW.alike hK, hD⟩, hS.F ht⟩) hS.2.2 dX7_tryThrees_141
        · -- f56
          refine lv_iload hx hb dX7_tryThrees_59 (lv_at hl 1 rfl) ?_
          refine lv_aload_n hx hb dX7_tryThrees_61 rfl (lv_at hl 2 rfl) ?_
          refine va_get (D := D) (ci := 7) (v := .int bm) (C := RX7) (T := TX7) (N := 28) hx hb hts iX7 hown hK hP 0 rfl rfl 23 (by decide) f183 (fun _ h9 => h9) rfl dX7_tryThrees_62 ?_
          refine lv_icmp_ne (tgt := 100) hx hb dX7_tryThrees_65 (by decide) (fun c65 => ?_) (fun c65 => ?_)
          · -- t65
            have hbt : ttB n kd sd (bm, br, bv) a b cc = false := by simp [ttB, c56, c65]
            refine lv_iconst (v := 0) hx hb dX7_tryThrees_100 (by decide) ?_
            refine lv_istore (lv' := [(6, .int 0), (5, .int (lou n kd sd a b cc)), (4, .int (mny a b cc)), (0, .ref x), (1, .int a), (2, .int b), (3, .int cc)]) hx hb dX7_tryThrees_101 hl (by decide) rfl (fun ls hl => ?_)
            refine lv_iload hx hb dX7_tryThrees_103 (lv_at hl 0 rfl) ?_
            refine lv_if_eq (tgt := 141) hx hb dX7_tryThrees_105 (by decide) (fun _ => ?_) (fun h => absurd (by decide) h)
            exact W.vret hx hb hr (fun t ht hW => ⟨⟨(bm, br, bv), rfl, by simp [ttZ, hbt], by rw [ht]; exact hP, va_K.moved hW.alike hK, hD⟩, hS.F ht⟩) hS.2.2 dX7_tryThrees_141
          · -- f65
            refine lv_iload hx hb dX7_tryThrees_68 (lv_at hl 0 rfl) ?_
            refine lv_aload_n hx hb dX7_tryThrees_70 rfl (lv_at hl 2 rfl) ?_
            refine va_get (D := D) (ci := 7) (v := .int br) (C := RX7) (T := TX7) (N := 28) hx hb hts iX7 hown hK hP 0 rfl rfl 24 (by decide) f186 (fun _ h9 => h9) rfl dX7_tryThrees_71 ?_
            refine lv_icmp_gt (tgt := 96) hx hb dX7_tryThrees_74 (by decide) (fun c74 => ?_) (fun c74 => ?_)
            · -- t74
              have hbt : ttB n kd sd (bm, br, bv) a b cc = true := by simp [ttB, c65, c74]
              refine lv_iconst (v := 1) hx hb dX7_tryThrees_96 (by decide) ?_
              refine lv_goto (tgt := 101) hx hb dX7_tryThrees_97 (by decide) ?_
              refine lv_istore (lv' := [(6, .int 1), (5, .int (lou n kd sd a b cc)), (4, .int (mny a b cc)), (0, .ref x), (1, .int a), (2, .int b), (3, .int cc)]) hx hb dX7_tryThrees_101 hl (by decide) rfl (fun ls hl => ?_)
              refine lv_iload hx hb dX7_tryThrees_103 (lv_at hl 0 rfl) ?_
              refine lv_if_eq (tgt := 141) hx hb dX7_tryThrees_105 (by decide) (fun h => absurd h (by decide)) (fun _ => ?_)
              refine lv_aload_n hx hb dX7_tryThrees_108 rfl (lv_at hl 3 rfl) ?_
              refine lv_iload hx hb dX7_tryThrees_109 (lv_at hl 2 rfl) ?_
              refine va_put (D := D) (ci := 7) (v := .int (mny a b cc)) (ty := .int) (C := RX7) (T := TX7) (N := 28) hx hb hts iX7 tyX7 tyX7_ok nmX7 hown hK hP hD hS 0 rfl rfl 23 (by decide) f183 (fun _ h9 => h9) rfl (by decide +kernel) rfl rfl (Nat.le_of_ble_eq_true rfl) dX7_tryThrees_111 (fun H locs hP hD hS => ?_)
              have hP : va_P D vwCl [(x, .inr (7, [.int fa, .int tr, .ref so, .ref sl, .ref ce, .int (nI n), .int bar, .int (nI tn), .ref ki, .ref si, .ref th, .ref ri, .int at_, .int rp, .ref rk, .ref rs, .ref kt, .ref kr, .int kn, .int rg, .ref ab, .int am, .ref bh, .int (mny a b cc), .int br, .int (nI rn), .ref wa, .ref ra])), (ki, .inl (cI, 9, .inl kd)), (si, .inl (cI, 9, .inl sd)), (bh, .inl (cI, 3, .inl bv))] H := hP
              have hD : va_D A [(x, .inr (7, [.int fa, .int tr, .ref so, .ref sl, .ref ce, .int (nI n), .int bar, .int (nI tn), .ref ki, .ref si, .ref th, .ref ri, .int at_, .int rp, .ref rk, .ref rs, .ref kt, .ref kr, .int kn, .int rg, .ref ab, .int am, .ref bh, .int (mny a b cc), .int br, .int (nI rn), .ref wa, .ref ra])), (ki, .inl (cI, 9, .inl kd)), (si, .inl (cI, 9, .inl sd)), (bh, .inl (cI, 3, .inl bv))] := hD
              refine lv_aload_n hx hb dX7_tryThrees_114 rfl (lv_at hl 3 rfl) ?_
              refine lv_iload hx hb dX7_tryThrees_115 (lv_at hl 1 rfl) ?_
              refine va_put (D := D) (ci := 7) (v := .int (lou n kd sd a b cc)) (ty := .int) (C := RX7) (T := TX7) (N := 28) hx hb hts iX7 tyX7 tyX7_ok nmX7 hown hK hP hD hS 0 rfl rfl 24 (by decide) f186 (fun _ h9 => h9) rfl (by decide +kernel) rfl rfl (Nat.le_of_ble_eq_true rfl) dX7_tryThrees_117 (fun H locs hP hD hS => ?_)
              have hP : va_P D vwCl [(x, .inr (7, [.int fa, .int tr, .ref so, .ref sl, .ref ce, .int (nI n), .int bar, .int (nI tn), .ref ki, .ref si, .ref th, .ref ri, .int at_, .int rp, .ref rk, .ref rs, .ref kt, .ref kr, .int kn, .int rg, .ref ab, .int am, .ref bh, .int (mny a b cc), .int (lou n kd sd a b cc), .int (nI rn), .ref wa, .ref ra])), (ki, .inl (cI, 9, .inl kd)), (si, .inl (cI, 9, .inl sd)), (bh, .inl (cI, 3, .inl bv))] H := hP
              have hD : va_D A [(x, .inr (7, [.int fa, .int tr, .ref so, .ref sl, .ref ce, .int (nI n), .int bar, .int (nI tn), .ref ki, .ref si, .ref th, .ref ri, .int at_, .int rp, .ref rk, .ref rs, .ref kt, .ref kr, .int kn, .int rg, .ref ab, .int am, .ref bh, .int (mny a b cc), .int (lou n kd sd a b cc), .int (nI rn), .ref wa, .ref ra])), (ki, .inl (cI, 9, .inl kd)), (si, .inl (cI, 9, .inl sd)), (bh, .inl (cI, 3, .inl bv))] := hD
              refine lv_aload_n hx hb dX7_tryThrees_120 rfl (lv_at hl 3 rfl) ?_
              refine va_get (D := D) (ci := 7) (v := .ref bh) (C := RX7) (T := TX7) (N := 28) hx hb hts iX7 hown hK hP 0 rfl rfl 22 (by decide) f46 (fun _ h9 => h9) rfl dX7_tryThrees_121 ?_
              refine lv_iconst (v := 0) hx hb dX7_tryThrees_124 (by decide) ?_
              refine lv_iload_n hx hb dX7_tryThrees_125 rfl (lv_at hl 4 rfl) ?_
              refine va_iast hx hb hK hP hD hS 3 0 rfl rfl (show vp_in (nI 0) _ from vp_in_nI (by decide) (by decide)) dX7_tryThrees_126 (fun H locs hP hD hS => ?_)
              rw [show (0 : Int32).toNatClampNeg = 0 from by decide] at hP hD
              have hP : va_P D vwCl [(x, .inr (7, [.int fa, .int tr, .ref so, .ref sl, .ref ce, .int (nI n), .int bar, .int (nI tn), .ref ki, .ref si, .ref th, .ref ri, .int at_, .int rp, .ref rk, .ref rs, .ref kt, .ref kr, .int kn, .int rg, .ref ab, .int am, .ref bh, .int (mny a b cc), .int (lou n kd sd a b cc), .int (nI rn), .ref wa, .ref ra])), (ki, .inl (cI, 9, .inl kd)), (si, .inl (cI, 9, .inl sd)), (bh, .inl (cI, 3, .inl (upd bv 0 a)))] H := hP
              have hD : va_D A [(x, .inr (7, [.int fa, .int tr, .ref so, .ref sl, .ref ce, .int (nI n), .int bar, .int (nI tn), .ref ki, .ref si, .ref th, .ref ri, .int at_, .int rp, .ref rk, .ref rs, .ref kt, .ref kr, .int kn, .int rg, .ref ab, .int am, .ref bh, .int (mny a b cc), .int (lou n kd sd a b cc), .int (nI rn), .ref wa, .ref ra])), (ki, .inl (cI, 9, .inl kd)), (si, .inl (cI, 9, .inl sd)), (bh, .inl (cI, 3, .inl (upd bv 0 a)))] := hD
              refine lv_aload_n hx hb dX7_tryThrees_127 rfl (lv_at hl 3 rfl) ?_
              refine va_get (D := D) (ci := 7) (v := .ref bh) (C := RX7) (T := TX7) (N := 28) hx hb hts iX7 hown hK hP 0 rfl rfl 22 (by decide) f46 (fun _ h9 => h9) rfl dX7_tryThrees_128 ?_
              refine lv_iconst (v := 1) hx hb dX7_tryThrees_131 (by decide) ?_
              refine lv_iload_n hx hb dX7_tryThrees_132 rfl (lv_at hl 5 rfl) ?_
              refine va_iast hx hb hK hP hD hS 3 0 rfl rfl (show vp_in (nI 1) _ from vp_in_nI (by decide) (by decide)) dX7_tryThrees_133 (fun H locs hP hD hS => ?_)
              rw [show (1 : Int32).toNatClampNeg = 1 from by decide] at hP hD
              have hP : va_P D vwCl [(x, .inr (7, [.int fa, .int tr, .ref so, .ref sl, .ref ce, .int (nI n), .int bar, .int (nI tn), .ref ki, .ref si, .ref th, .ref ri, .int at_, .int rp, .ref rk, .ref rs, .ref kt, .ref kr, .int kn, .int rg, .ref ab, .int am, .ref bh, .int (mny a b cc), .int (lou n kd sd a b cc), .int (nI rn), .ref wa, .ref ra])), (ki, .inl (cI, 9, .inl kd)), (si, .inl (cI, 9, .inl sd)), (bh, .inl (cI, 3, .inl (upd (upd bv 0 a) 1 b)))] H := hP
              have hD : va_D A [(x, .inr (7, [.int fa, .int tr, .ref so, .ref sl, .ref ce, .int (nI n), .int bar, .int (nI tn), .ref ki, .ref si, .ref th, .ref ri, .int at_, .int rp, .ref rk, .ref rs, .ref kt, .ref kr, .int kn, .int rg, .ref ab, .int am, .ref bh, .int (mny a b cc), .int (lou n kd sd a b cc), .int (nI rn), .ref wa, .ref ra])), (ki, .inl (cI, 9, .inl kd)), (si, .inl (cI, 9, .inl sd)), (bh, .inl (cI, 3, .inl (upd (upd bv 0 a) 1 b)))] := hD
              refine lv_aload_n hx hb dX7_tryThrees_134 rfl (lv_at hl 3 rfl) ?_
              refine va_get (D := D) (ci := 7) (v := .ref bh) (C := RX7) (T := TX7) (N := 28) hx hb hts iX7 hown hK hP 0 rfl rfl 22 (by decide) f46 (fun _ h9 => h9) rfl dX7_tryThrees_135 ?_
              refine lv_iconst (v := 2) hx hb dX7_tryThrees_138 (by decide) ?_
              refine lv_iload_n hx hb dX7_tryThrees_139 rfl (lv_at hl 6 rfl) ?_
              refine va_iast hx hb hK hP hD hS 3 0 rfl rfl (show vp_in (nI 2) _ from vp_in_nI (by decide) (by decide)) dX7_tryThrees_140 (fun H locs hP hD hS => ?_)
              rw [show (2 : Int32).toNatClampNeg = 2 from by decide] at hP hD
              have hP : va_P D vwCl [(x, .inr (7, [.int fa, .int tr, .ref so, .ref sl, .ref ce, .int (nI n), .int bar, .int (nI tn), .ref ki, .ref si, .ref th, .ref ri, .int at_, .int rp, .ref rk, .ref rs, .ref kt, .ref kr, .int kn, .int rg, .ref ab, .int am, .ref bh, .int (mny a b cc), .int (lou n kd sd a b cc), .int (nI rn), .ref wa, .ref ra])), (ki, .inl (cI, 9, .inl kd)), (si, .inl (cI, 9, .inl sd)), (bh, .inl (cI, 3, .inl (upd (upd (upd bv 0 a) 1 b) 2 cc)))] H := hP
              have hD : va_D A [(x, .inr (7, [.int fa, .int tr, .ref so, .ref sl, .ref ce, .int (nI n), .int bar, .int (nI tn), .ref ki, .ref si, .ref th, .ref ri, .int at_, .int rp, .ref rk, .ref rs, .ref kt, .ref kr, .int kn, .int rg, .ref ab, .int am, .ref bh, .int (mny a b cc), .int (lou n kd sd a b cc), .int (nI rn), .ref wa, .ref ra])), (ki, .inl (cI, 9, .inl kd)), (si, .inl (cI, 9, .inl sd)), (bh, .inl (cI, 3, .inl (upd (upd (upd bv 0 a) 1 b) 2 cc)))] := hD
              exact W.vret hx hb hr (fun t ht hW => ⟨⟨(mny a b cc, lou n kd sd a b cc, upd (upd (upd bv 0 a) 1 b) 2 cc), rfl, by simp [ttZ, hbt], by rw [ht]; exact hP, va_K.moved hW.alike hK, hD⟩, hS.F ht⟩) hS.2.2 dX7_tryThrees_141
            · -- f74
              refine lv_iload hx hb dX7_tryThrees_77 (lv_at hl 0 rfl) ?_
              refine lv_aload_n hx hb dX7_tryThrees_79 rfl (lv_at hl 2 rfl) ?_
              refine va_get (D := D) (ci := 7) (v := .int br) (C := RX7) (T := TX7) (N := 28) hx hb hts iX7 hown hK hP 0 rfl rfl 24 (by decide) f186 (fun _ h9 => h9) rfl dX7_tryThrees_80 ?_
              refine lv_icmp_ne (tgt := 100) hx hb dX7_tryThrees_83 (by decide) (fun c83 => ?_) (fun c83 => ?_)
              · -- t83
                have hbt : ttB n kd sd (bm, br, bv) a b cc = false := by unfold ttB; simp only [c56, c74, c83, decide_false, Bool.false_and, Bool.or_false, Bool.and_false]
                refine lv_iconst (v := 0) hx hb dX7_tryThrees_100 (by decide) ?_
                refine lv_istore (lv' := [(6, .int 0), (5, .int (lou n kd sd a b cc)), (4, .int (mny a b cc)), (0, .ref x), (1, .int a), (2, .int b), (3, .int cc)]) hx hb dX7_tryThrees_101 hl (by decide) rfl (fun ls hl => ?_)
                refine lv_iload hx hb dX7_tryThrees_103 (lv_at hl 0 rfl) ?_
                refine lv_if_eq (tgt := 141) hx hb dX7_tryThrees_105 (by decide) (fun _ => ?_) (fun h => absurd (by decide) h)
                exact W.vret hx hb hr (fun t ht hW => ⟨⟨(bm, br, bv), rfl, by simp [ttZ, hbt], by rw [ht]; exact hP, va_K.moved hW.alike hK, hD⟩, hS.F ht⟩) hS.2.2 dX7_tryThrees_141
              · -- f83
                refine lv_aload_n hx hb dX7_tryThrees_86 rfl (lv_at hl 2 rfl) ?_
                refine lv_iload_n hx hb dX7_tryThrees_87 rfl (lv_at hl 3 rfl) ?_
                refine lv_iload_n hx hb dX7_tryThrees_88 rfl (lv_at hl 4 rfl) ?_
                refine lv_iload_n hx hb dX7_tryThrees_89 rfl (lv_at hl 5 rfl) ?_
                have hPc := hP.sub (ws' := [(x, .inr (7, [.int fa, .int tr, .ref so, .ref sl, .ref ce, .int (nI n), .int bar, .int (nI tn), .ref ki, .ref si, .ref th, .ref ri, .int at_, .int rp, .ref rk, .ref rs, .ref kt, .ref kr, .int kn, .int rg, .ref ab, .int am, .ref bh, .int bm, .int br, .int (nI rn), .ref wa, .ref ra])), (bh, .inl (cI, 3, .inl bv))]) [0, 3] rfl
                refine vp_callSi (va_Run.run (va_runV (As := [.int a, .int b, .int cc]) (rest := []) ⟨hx, hb, hml, hown, hts⟩ (c_X7_isAhead l D cI cO x fa tr so sl ce n bar tn ki si th ri at_ rp rk rs kt kr kn rg ab am bh bm br rn wa ra bv a b cc (by assumption)) (cwV 3 hts gX7_tryThrees_X7_isAhead rfl rfl rfl (by decide +kernel) ⟨Nat.le_of_ble_eq_true rfl, Nat.le_of_ble_eq_true rfl⟩) (preVR hPc hK hNw (va_recv hK hPc (ci := 7) (q0 := 0) rfl rfl)) rfl rfl hl.1 rfl (lv_room (Nat.le_of_ble_eq_true rfl)) dX7_tryThrees_90 ⟨Nat.zero_le _, Nat.zero_le _⟩)) (fun r90 w90 => ?_)
                by_cases b90 : ahW a b cc (bv 0) (bv 1) (bv 2) n 0 = true
                · -- y90
                  obtain rfl := w90.1 b90
                  have hbt : ttB n kd sd (bm, br, bv) a b cc = true := by simp [ttB, c65, c83, b90]
                  refine lv_if_eq (tgt := 100) hx hb dX7_tryThrees_93 (by decide) (fun h => absurd h (by decide)) (fun _ => ?_)
                  refine lv_iconst (v := 1) hx hb dX7_tryThrees_96 (by decide) ?_
                  refine lv_goto (tgt := 101) hx hb dX7_tryThrees_97 (by decide) ?_
                  refine lv_istore (lv' := [(6, .int 1), (5, .int (lou n kd sd a b cc)), (4, .int (mny a b cc)), (0, .ref x), (1, .int a), (2, .int b), (3, .int cc)]) hx hb dX7_tryThrees_101 hl (by decide) rfl (fun ls hl => ?_)
                  refine lv_iload hx hb dX7_tryThrees_103 (lv_at hl 0 rfl) ?_
                  refine lv_if_eq (tgt := 141) hx hb dX7_tryThrees_105 (by decide) (fun h => absurd h (by decide)) (fun _ => ?_)
                  refine lv_aload_n hx hb dX7_tryThrees_108 rfl (lv_at hl 3 rfl) ?_
                  refine lv_iload hx hb dX7_tryThrees_109 (lv_at hl 2 rfl) ?_
                  refine va_put (D := D) (ci := 7) (v := .int (mny a b cc)) (ty := .int) (C := RX7) (T := TX7) (N := 28) hx hb hts iX7 tyX7 tyX7_ok nmX7 hown hK hP hD hS 0 rfl rfl 23 (by decide) f183 (fun _ h9 => h9) rfl (by decide +kernel) rfl rfl (Nat.le_of_ble_eq_true rfl) dX7_tryThrees_111 (fun H locs hP hD hS => ?_)
                  have hP : va_P D vwCl [(x, .inr (7, [.int fa, .int tr, .ref so, .ref sl, .ref ce, .int (nI n), .int bar, .int (nI tn), .ref ki, .ref si, .ref th, .ref ri, .int at_, .int rp, .ref rk, .ref rs, .ref kt, .ref kr, .int kn, .int rg, .ref ab, .int am, .ref bh, .int (mny a b cc), .int br, .int (nI rn), .ref wa, .ref ra])), (ki, .inl (cI, 9, .inl kd)), (si, .inl (cI, 9, .inl sd)), (bh, .inl (cI, 3, .inl bv))] H := hP
                  have hD : va_D A [(x, .inr (7, [.int fa, .int tr, .ref so, .ref sl, .ref ce, .int (nI n), .int bar, .int (nI tn), .ref ki, .ref si, .ref th, .ref ri, .int at_, .int rp, .ref rk, .ref rs, .ref kt, .ref kr, .int kn, .int rg, .ref ab, .int am, .ref bh, .int (mny a b cc), .int br, .int (nI rn), .ref wa, .ref ra])), (ki, .inl (cI, 9, .inl kd)), (si, .inl (cI, 9, .inl sd)), (bh, .inl (cI, 3, .inl bv))] := hD
                  refine lv_aload_n hx hb dX7_tryThrees_114 rfl (lv_at hl 3 rfl) ?_
                  refine lv_iload hx hb dX7_tryThrees_115 (lv_at hl 1 rfl) ?_
                  refine va_put (D := D) (ci := 7) (v := .int (lou n kd sd a b cc)) (ty := .int) (C := RX7) (T := TX7) (N := 28) hx hb hts iX7 tyX7 tyX7_ok nmX7 hown hK hP hD hS 0 rfl rfl 24 (by decide) f186 (fun _ h9 => h9) rfl (by decide +kernel) rfl rfl (Nat.le_of_ble_eq_true rfl) dX7_tryThrees_117 (fun H locs hP hD hS => ?_)
                  have hP : va_P D vwCl [(x, .inr (7, [.int fa, .int tr, .ref so, .ref sl, .ref ce, .int (nI n), .int bar, .int (nI tn), .ref ki, .ref si, .ref th, .ref ri, .int at_, .int rp, .ref rk, .ref rs, .ref kt, .ref kr, .int kn, .int rg, .ref ab, .int am, .ref bh, .int (mny a b cc), .int (lou n kd sd a b cc), .int (nI rn), .ref wa, .ref ra])), (ki, .inl (cI, 9, .inl kd)), (si, .inl (cI, 9, .inl sd)), (bh, .inl (cI, 3, .inl bv))] H := hP
                  have hD : va_D A [(x, .inr (7, [.int fa, .int tr, .ref so, .ref sl, .ref ce, .int (nI n), .int bar, .int (nI tn), .ref ki, .ref si, .ref th, .ref ri, .int at_, .int rp, .ref rk, .ref rs, .ref kt, .ref kr, .int kn, .int rg, .ref ab, .int am, .ref bh, .int (mny a b cc), .int (lou n kd sd a b cc), .int (nI rn), .ref wa, .ref ra])), (ki, .inl (cI, 9, .inl kd)), (si, .inl (cI, 9, .inl sd)), (bh, .inl (cI, 3, .inl bv))] := hD
                  refine lv_aload_n hx hb dX7_tryThrees_120 rfl (lv_at hl 3 rfl) ?_
                  refine va_get (D := D) (ci := 7) (v := .ref bh) (C := RX7) (T := TX7) (N := 28) hx hb hts iX7 hown hK hP 0 rfl rfl 22 (by decide) f46 (fun _ h9 => h9) rfl dX7_tryThrees_121 ?_
                  refine lv_iconst (v := 0) hx hb dX7_tryThrees_124 (by decide) ?_
                  refine lv_iload_n hx hb dX7_tryThrees_125 rfl (lv_at hl 4 rfl) ?_
                  refine va_iast hx hb hK hP hD hS 3 0 rfl rfl (show vp_in (nI 0) _ from vp_in_nI (by decide) (by decide)) dX7_tryThrees_126 (fun H locs hP hD hS => ?_)
                  rw [show (0 : Int32).toNatClampNeg = 0 from by decide] at hP hD
                  have hP : va_P D vwCl [(x, .inr (7, [.int fa, .int tr, .ref so, .ref sl, .ref ce, .int (nI n), .int bar, .int (nI tn), .ref ki, .ref si, .ref th, .ref ri, .int at_, .int rp, .ref rk, .ref rs, .ref kt, .ref kr, .int kn, .int rg, .ref ab, .int am, .ref bh, .int (mny a b cc), .int (lou n kd sd a b cc), .int (nI rn), .ref wa, .ref ra])), (ki, .inl (cI, 9, .inl kd)), (si, .inl (cI, 9, .inl sd)), (bh, .inl (cI, 3, .inl (upd bv 0 a)))] H := hP
                  have hD : va_D A [(x, .inr (7, [.int fa, .int tr, .ref so, .ref sl, .ref ce, .int (nI n), .int bar, .int (nI tn), .ref ki, .ref si, .ref th, .ref ri, .int at_, .int rp, .ref rk, .ref rs, .ref kt, .ref kr, .int kn, .int rg, .ref ab, .int am, .ref bh, .int (mny a b cc), .int (lou n kd sd a b cc), .int (nI rn), .ref wa, .ref ra])), (ki, .inl (cI, 9, .inl kd)), (si, .inl (cI, 9, .inl sd)), (bh, .inl (cI, 3, .inl (upd bv 0 a)))] := hD
                  refine lv_aload_n hx hb dX7_tryThrees_127 rfl (lv_at hl 3 rfl) ?_
                  refine va_get (D := D) (ci := 7) (v := .ref bh) (C := RX7) (T := TX7) (N := 28) hx hb hts iX7 hown hK hP 0 rfl rfl 22 (by decide) f46 (fun _ h9 => h9) rfl dX7_tryThrees_128 ?_
                  refine lv_iconst (v := 1) hx hb dX7_tryThrees_131 (by decide) ?_
                  refine lv_iload_n hx hb dX7_tryThrees_132 rfl (lv_at hl 5 rfl) ?_
                  refine va_iast hx hb hK hP hD hS 3 0 rfl rfl (show vp_in (nI 1) _ from vp_in_nI (by decide) (by decide)) dX7_tryThrees_133 (fun H locs hP hD hS => ?_)
                  rw [show (1 : Int32).toNatClampNeg = 1 from by decide] at hP hD
                  have hP : va_P D vwCl [(x, .inr (7, [.int fa, .int tr, .ref so, .ref sl, .ref ce, .int (nI n), .int bar, .int (nI tn), .ref ki, .ref si, .ref th, .ref ri, .int at_, .int rp, .ref rk, .ref rs, .ref kt, .ref kr, .int kn, .int rg, .ref ab, .int am, .ref bh, .int (mny a b cc), .int (lou n kd sd a b cc), .int (nI rn), .ref wa, .ref ra])), (ki, .inl (cI, 9, .inl kd)), (si, .inl (cI, 9, .inl sd)), (bh, .inl (cI, 3, .inl (upd (upd bv 0 a) 1 b)))] H := hP
                  have hD : va_D A [(x, .inr (7, [.int fa, .int tr, .ref so, .ref sl, .ref ce, .int (nI n), .int bar, .int (nI tn), .ref ki, .ref si, .ref th, .ref ri, .int at_, .int rp, .ref rk, .ref rs, .ref kt, .ref kr, .int kn, .int rg, .ref ab, .int am, .ref bh, .int (mny a b cc), .int (lou n kd sd a b cc), .int (nI rn), .ref wa, .ref ra])), (ki, .inl (cI, 9, .inl kd)), (si, .inl (cI, 9, .inl sd)), (bh, .inl (cI, 3, .inl (upd (upd bv 0 a) 1 b)))] := hD
                  refine lv_aload_n hx hb dX7_tryThrees_134 rfl (lv_at hl 3 rfl) ?_
                  refine va_get (D := D) (ci := 7) (v := .ref bh) (C := RX7) (T := TX7) (N := 28) hx hb hts iX7 hown hK hP 0 rfl rfl 22 (by decide) f46 (fun _ h9 => h9) rfl dX7_tryThrees_135 ?_
                  refine lv_iconst (v := 2) hx hb dX7_tryThrees_138 (by decide) ?_
                  refine lv_iload_n hx hb dX7_tryThrees_139 rfl (lv_at hl 6 rfl) ?_
                  refine va_iast hx hb hK hP hD hS 3 0 rfl rfl (show vp_in (nI 2) _ from vp_in_nI (by decide) (by decide)) dX7_tryThrees_140 (fun H locs hP hD hS => ?_)
                  rw [show (2 : Int32).toNatClampNeg = 2 from by decide] at hP hD
                  have hP : va_P D vwCl [(x, .inr (7, [.int fa, .int tr, .ref so, .ref sl, .ref ce, .int (nI n), .int bar, .int (nI tn), .ref ki, .ref si, .ref th, .ref ri, .int at_, .int rp, .ref rk, .ref rs, .ref kt, .ref kr, .int kn, .int rg, .ref ab, .int am, .ref bh, .int (mny a b cc), .int (lou n kd sd a b cc), .int (nI rn), .ref wa, .ref ra])), (ki, .inl (cI, 9, .inl kd)), (si, .inl (cI, 9, .inl sd)), (bh, .inl (cI, 3, .inl (upd (upd (upd bv 0 a) 1 b) 2 cc)))] H := hP
                  have hD : va_D A [(x, .inr (7, [.int fa, .int tr, .ref so, .ref sl, .ref ce, .int (nI n), .int bar, .int (nI tn), .ref ki, .ref si, .ref th, .ref ri, .int at_, .int rp, .ref rk, .ref rs, .ref kt, .ref kr, .int kn, .int rg, .ref ab, .int am, .ref bh, .int (mny a b cc), .int (lou n kd sd a b cc), .int (nI rn), .ref wa, .ref ra])), (ki, .inl (cI, 9, .inl kd)), (si, .inl (cI, 9, .inl sd)), (bh, .inl (cI, 3, .inl (upd (upd (upd bv 0 a) 1 b) 2 cc)))] := hD
                  exact W.vret hx hb hr (fun t ht hW => ⟨⟨(mny a b cc, lou n kd sd a b cc, upd (upd (upd bv 0 a) 1 b) 2 cc), rfl, by simp [ttZ, hbt], by rw [ht]; exact hP, va_K.moved hW.alike hK, hD⟩, hS.F ht⟩) hS.2.2 dX7_tryThrees_141
                · -- n90
                  obtain rfl := w90.2 b90
                  have hbt : ttB n kd sd (bm, br, bv) a b cc = false := by rw [Bool.not_eq_true] at b90; unfold ttB; simp only [c56, c74, b90, decide_false, Bool.or_false, Bool.and_false]
                  refine lv_if_eq (tgt := 100) hx hb dX7_tryThrees_93 (by decide) (fun _ => ?_) (fun h => absurd (by decide) h)
                  refine lv_iconst (v := 0) hx hb dX7_tryThrees_100 (by decide) ?_
                  refine lv_istore (lv' := [(6, .int 0), (5, .int (lou n kd sd a b cc)), (4, .int (mny a b cc)), (0, .ref x), (1, .int a), (2, .int b), (3, .int cc)]) hx hb dX7_tryThrees_101 hl (by decide) rfl (fun ls hl => ?_)
                  refine lv_iload hx hb dX7_tryThrees_103 (lv_at hl 0 rfl) ?_
                  refine lv_if_eq (tgt := 141) hx hb dX7_tryThrees_105 (by decide) (fun _ => ?_) (fun h => absurd (by decide) h)
                  exact W.vret hx hb hr (fun t ht hW => ⟨⟨(bm, br, bv), rfl, by simp [ttZ, hbt], by rw [ht]; exact hP, va_K.moved hW.alike hK, hD⟩, hS.F ht⟩) hS.2.2 dX7_tryThrees_141

set_option maxHeartbeats 4000000 in
set_option maxRecDepth 100000 in
theorem c_X7_isBehind (l : Launch) (D : va_G) (cI cO : ClassId) (sn : Nat) (on_ : Nat) (hs5 : sn < 512) (hs0 : ¬ sn = 0) (ho5 : on_ < 512) (ho0 : ¬ on_ = 0) : Met l yX7_isBehind wsX7_isBehind ({ frames := 2, cells := 0, slots := 0, locals := 42 } : Room) (va_Pc [.int (nI sn), .int (nI on_)] (wdR D cI cO [])) (vp_Si (fun r => ((bhB sn on_ = true) → r = 1) ∧ (¬ (bhB sn on_ = true) → r = 0))) 0 0 (fun _ => False) := by
  refine Met.ofW (cc := cX7_isBehind) (maxL := 2) (ret := (some .boolean)) (by decide) rfl ?_
  intro p e s m args below meth c s₁ B hml hv
  obtain ⟨rfl, hP, hK, hNw⟩ := hv
  have hx := B.exec
  have hb := B.bytes
  have hr := B.returns
  have hts := atoms_spec (ws := wsX7_isBehind) B.pre
  have hown : s.vm.findClass RX7 = some m.cls := findClass_of_methodNamed B.named
  have hlocks := B.notSynchronized
  have hP : va_P D vwCl [] s.heap := hP
  have hl := lv_entry ([.int (nI sn), .int (nI on_)]) (n := 2) (Nat.le_of_ble_eq_true rfl)
  rw [lg_entry_eq]
  generalize (lg_sl ([.int (nI sn), .int (nI on_)]) ++ List.replicate (2 - (lg_sl ([.int (nI sn), .int (nI on_)])).length) Slot.unset).toArray = ls at hl ⊢
  have hl : lv_has ls 2 [(0, .int (nI sn)), (1, .int (nI on_))] := hl
  refine lv_iload_n hx hb dX7_isBehind_0 rfl (lv_at hl 0 rfl) ?_
  refine lv_iload_n hx hb dX7_isBehind_1 rfl (lv_at hl 1 rfl) ?_
  refine lv_iand hx hb dX7_isBehind_2 ?_
  refine tp_i (y := nI (sn &&& on_)) (and_nI _ _) ?_
  refine lv_if_ne (tgt := 21) hx hb dX7_isBehind_3 (by decide) (fun c3 => ?_) (fun c3 => ?_)
  · -- t3
    have z3 : ¬ sn &&& on_ = 0 := fun q => c3 (by rw [q]; rfl)
    refine lv_iconst (v := 0) hx hb dX7_isBehind_21 (by decide) ?_
    exact W.zret (v := 0) (ty := .boolean) hx hb hr rfl (fun t ht hW => ⟨_, rfl, by exact so_no (by unfold bhB; rw [decide_eq_false z3, Bool.false_and]), ht⟩) (fun _ h => absurd h List.not_mem_nil) dX7_isBehind_22
  · -- f3
    have z3 : sn &&& on_ = 0 := (nI_zero (Nat.lt_of_le_of_lt Nat.and_le_left (by omega))).mp c3
    refine lv_iload_n hx hb dX7_isBehind_6 rfl (lv_at hl 0 rfl) ?_
    have hPc := hP.sub (ws' := []) [] rfl
    refine vp_callSi (va_Run.run (va_runS (As := [.int (nI sn)]) (rest := []) ⟨hx, hb, hml, hown, hts⟩ (c_X7_leastOf l D cI cO sn (by assumption) (by assumption)) (va_cwS 1 hts gX7_isBehind_X7_leastOf rfl rfl rfl (by decide +kernel) ⟨Nat.le_of_ble_eq_true rfl, Nat.le_of_ble_eq_true rfl⟩) (preSR hPc hK hNw) rfl rfl hl.1 rfl (lv_room (Nat.le_of_ble_eq_true rfl)) dX7_isBehind_7 ⟨Nat.zero_le _, Nat.zero_le _⟩)) (fun r7 w7 => ?_)
    obtain rfl := w7
    refine lv_iload_n hx hb dX7_isBehind_10 rfl (lv_at hl 1 rfl) ?_
    have hPc := hP.sub (ws' := []) [] rfl
    refine vp_callSi (va_Run.run (va_runS (As := [.int (nI on_)]) (rest := [.int (nI (lowI sn))]) ⟨hx, hb, hml, hown, hts⟩ (c_X7_leastOf l D cI cO on_ (by assumption) (by assumption)) (va_cwS 1 hts gX7_isBehind_X7_leastOf rfl rfl rfl (by decide +kernel) ⟨Nat.le_of_ble_eq_true rfl, Nat.le_of_ble_eq_true rfl⟩) (preSR hPc hK hNw) rfl rfl hl.1 rfl (lv_room (Nat.le_of_ble_eq_true rfl)) dX7_isBehind_11 ⟨Nat.zero_le _, Nat.zero_le _⟩)) (fun r11 w11 => ?_)
    obtain rfl := w11
    refine lv_icmp_ge (tgt := 21) hx hb dX7_isBehind_14 (by decide) (fun c14 => ?_) (fun c14 => ?_)
    · -- t14
      have q1 := @lowI_lt sn
      have q2 := @lowI_lt on_
      have z14 : ¬ lowI sn < lowI on_ := by have q := ge_n (by omega) (by omega) c14; omega
      refine lv_iconst (v := 0) hx hb dX7_isBehind_21 (by decide) ?_
      exact W.zret (v := 0) (ty := .boolean) hx hb hr rfl (fun t ht hW => ⟨_, rfl, by exact so_no (by unfold bhB; rw [decide_eq_false z14, Bool.and_false]), ht⟩) (fun _ h => absurd h List.not_mem_nil) dX7_isBehind_22
    · -- f14
      have q1 := @lowI_lt sn
      have q2 := @lowI_lt on_
      have z14 : lowI sn < lowI on_ := lt_n (by omega) (by omega) c14
      refine lv_iconst (v := 1) hx hb dX7_isBehind_17 (by decide) ?_
      refine lv_goto (tgt := 22) hx hb dX7_isBehind_18 (by decide) ?_
      exact W.zret (v := 1) (ty := .boolean) hx hb hr rfl (fun t ht hW => ⟨_, rfl, by exact so_yes (by unfold bhB; rw [decide_eq_true z3, decide_eq_true z14]; rfl), ht⟩) (fun _ h => absurd h List.not_mem_nil) dX7_isBehind_22

set_option maxHeartbeats 4000000 in
set_option maxRecDepth 100000 in
theorem c_X7_findThird (l : Launch) (D : va_G) (cI cO : ClassId) (x : Nat) (fa : Int32) (tr : Int32) (so : Nat) (sl : Nat) (ce : Nat) (n : Nat) (bar : Int32) (tn : Nat) (ki : Nat) (si : Nat) (th : Nat) (ri : Nat) (at_ : Int32) (rp : Int32) (rk : Nat) (rs : Nat) (kt : Nat) (kr : Nat) (kn : Int32) (rg : Int32) (ab : Nat) (bh : Nat) (bm : Int32) (br : Int32) (rn : Nat) (wa : Nat) (ra : Nat) (am : Nat) (kd : Nat → Int32) (sd : Nat → Int32) (av : Nat → Int32) (bv : Nat → Int32) (an : Nat) (bn : Nat) (sz : Nat) (hn : n ≤ 9) (hk3 : ∀ j, j < n → kd j = 0 ∨ kd j = 1 ∨ kd j = 2) (hab : okA av am) (ham : am ≤ 84) (hb5 : bn < 512) (hb0 : ¬ bn = 0) (ha5 : an < 512) : Met l yX7_findThird wsX7_findThird ({ frames := 4, cells := 0, slots := 0, locals := 96 } : Room) (va_Pc [.ref x, .int (nI an), .int (nI bn)] (wdW D cI cO [(x, .inr (7, [.int fa, .int tr, .ref so, .ref sl, .ref ce, .int (nI n), .int bar, .int (nI tn), .ref ki, .ref si, .ref th, .ref ri, .int at_, .int rp, .ref rk, .ref rs, .ref kt, .ref kr, .int kn, .int rg, .ref ab, .int (nI am), .ref bh, .int bm, .int br, .int (nI rn), .ref wa, .ref ra])), (ki, .inl (cI, 9, .inl kd)), (si, .inl (cI, 9, .inl sd)), (ab, .inl (cI, 84, .inl av)), (bh, .inl (cI, 3, .inl bv))] sz)) (va_Qv (S := Int32 × Int32 × (Nat → Int32)) (fun u => u.1 = (ftZ n kd sd av am an bn (bm, br, bv)).1 ∧ u.2.1 = (ftZ n kd sd av am an bn (bm, br, bv)).2.1 ∧ u.2.2 = (ftZ n kd sd av am an bn (bm, br, bv)).2.2) (fun u t => va_P D vwCl [(x, .inr (7, [.int fa, .int tr, .ref so, .ref sl, .ref ce, .int (nI n), .int bar, .int (nI tn), .ref ki, .ref si, .ref th, .ref ri, .int at_, .int rp, .ref rk, .ref rs, .ref kt, .ref kr, .int kn, .int rg, .ref ab, .int (nI am), .ref bh, .int u.1, .int u.2.1, .int (nI rn), .ref wa, .ref ra])), (ki, .inl (cI, 9, .inl kd)), (si, .inl (cI, 9, .inl sd)), (ab, .inl (cI, 84, .inl av)), (bh, .inl (cI, 3, .inl u.2.2))] t.heap ∧ va_K D vwCl (tyL cI cO) t ∧ va_D (va_A [(x, .inr (7, [.int fa, .int tr, .ref so, .ref sl, .ref ce, .int (nI n), .int bar, .int (nI tn), .ref ki, .ref si, .ref th, .ref ri, .int at_, .int rp, .ref rk, .ref rs, .ref kt, .ref kr, .int kn, .int rg, .ref ab, .int (nI am), .ref bh, .int bm, .int br, .int (nI rn), .ref wa, .ref ra])), (ki, .inl (cI, 9, .inl kd)), (si, .inl (cI, 9, .inl sd)), (ab, .inl (cI, 84, .inl av)), (bh, .inl (cI, 3, .inl bv))] sz) [(x, .inr (7, [.int fa, .int tr, .ref so, .ref sl, .ref ce, .int (nI n), .int bar, .int (nI tn), .ref ki, .ref si, .ref th, .ref ri, .int at_, .int rp, .ref rk, .ref rs, .ref kt, .ref kr, .int kn, .int rg, .ref ab, .int (nI am), .ref bh, .int u.1, .int u.2.1, .int (nI rn), .ref wa, .ref ra])), (ki, .inl (cI, 9, .inl kd)), (si, .inl (cI, 9, .inl sd)), (ab, .inl (cI, 84, .inl av)), (bh, .inl (cI, 3, .inl u.2.2))]) (va_A [(x, .inr (7, [.int fa, .int tr, .ref so, .ref sl, .ref ce, .int (nI n), .int bar, .int (nI tn), .ref ki, .ref si, .ref th, .ref ri, .int at_, .int rp, .ref rk, .ref rs, .ref kt, .ref kr, .int kn, .int rg, .ref ab, .int (nI am), .ref bh, .int bm, .int br, .int (nI rn), .ref wa, .ref ra])), (ki, .inl (cI, 9, .inl kd)), (si, .inl (cI, 9, .inl sd)), (ab, .inl (cI, 84, .inl av)), (bh, .inl (cI, 3, .inl bv))] sz)) 0 0 (va_A [(x, .inr (7, [.int fa, .int tr, .ref so, .ref sl, .ref ce, .int (nI n), .int bar, .int (nI tn), .ref ki, .ref si, .ref th, .ref ri, .int at_, .int rp, .ref rk, .ref rs, .ref kt, .ref kr, .int kn, .int rg, .ref ab, .int (nI am), .ref bh, .int bm, .int br, .int (nI rn), .ref wa, .ref ra])), (ki, .inl (cI, 9, .inl kd)), (si, .inl (cI, 9, .inl sd)), (ab, .inl (cI, 84, .inl av)), (bh, .inl (cI, 3, .inl bv))] sz) := by
  refine Met.ofW (cc := cX7_findThird) (maxL := 4) (ret := none) (by decide) rfl ?_
  intro p e s m args below meth c s₁ B hml hv
  obtain ⟨rfl, hsz, hP, hK, hNw, hD0⟩ := hv
  have hx := B.exec
  have hb := B.bytes
  have hr := B.returns
  have hts := atoms_spec (ws := wsX7_findThird) B.pre
  have hown : s.vm.findClass RX7 = some m.cls := findClass_of_methodNamed B.named
  have hlocks := B.notSynchronized
  have f43 := hts (.fieldLink RX7 43 "StruckThreesModel" "able" "[I") (by decide +kernel)
  have f177 := hts (.fieldLink RX7 177 "StruckThreesModel" "ableMany" "I") (by decide +kernel)
  have iX7 : ∀ w ∈ wsX70, w ∈ wsX7_findThird := by decide +kernel
  subst hsz
  have hD := hD0.self (sz := s.heap.size)
  generalize hAe : va_A [(x, .inr (7, [.int fa, .int tr, .ref so, .ref sl, .ref ce, .int (nI n), .int bar, .int (nI tn), .ref ki, .ref si, .ref th, .ref ri, .int at_, .int rp, .ref rk, .ref rs, .ref kt, .ref kr, .int kn, .int rg, .ref ab, .int (nI am), .ref bh, .int bm, .int br, .int (nI rn), .ref wa, .ref ra])), (ki, .inl (cI, 9, .inl kd)), (si, .inl (cI, 9, .inl sd)), (ab, .inl (cI, 84, .inl av)), (bh, .inl (cI, 3, .inl bv))] s.heap.size = A at hD ⊢
  have hA : ∀ q : Nat, s.heap.size ≤ q → A q := fun q h => by rw [← hAe]; exact Or.inr h
  have hS : va_S A s.heap s.heap [] := va_S.rf
  have hP : va_P D vwCl [(x, .inr (7, [.int fa, .int tr, .ref so, .ref sl, .ref ce, .int (nI n), .int bar, .int (nI tn), .ref ki, .ref si, .ref th, .ref ri, .int at_, .int rp, .ref rk, .ref rs, .ref kt, .ref kr, .int kn, .int rg, .ref ab, .int (nI am), .ref bh, .int bm, .int br, .int (nI rn), .ref wa, .ref ra])), (ki, .inl (cI, 9, .inl kd)), (si, .inl (cI, 9, .inl sd)), (ab, .inl (cI, 84, .inl av)), (bh, .inl (cI, 3, .inl bv))] s.heap := hP
  have hl := lv_entry ([.ref x, .int (nI an), .int (nI bn)]) (n := 4) (Nat.le_of_ble_eq_true rfl)
  rw [lg_entry_eq]
  generalize (lg_sl ([.ref x, .int (nI an), .int (nI bn)]) ++ List.replicate (4 - (lg_sl ([.ref x, .int (nI an), .int (nI bn)])).length) Slot.unset).toArray = ls at hl ⊢
  have hl : lv_has ls 4 [(0, .ref x), (1, .int (nI an)), (2, .int (nI bn))] := hl
  refine lv_aload_n hx hb dX7_findThird_0 rfl (lv_at hl 0 rfl) ?_
  refine lv_iload_n hx hb dX7_findThird_1 rfl (lv_at hl 1 rfl) ?_
  refine lv_iload_n hx hb dX7_findThird_2 rfl (lv_at hl 2 rfl) ?_
  refine lv_iconst (v := 0) hx hb dX7_findThird_3 (by decide) ?_
  have hPc := hP.sub (ws' := [(x, .inr (7, [.int fa, .int tr, .ref so, .ref sl, .ref ce, .int (nI n), .int bar, .int (nI tn), .ref ki, .ref si, .ref th, .ref ri, .int at_, .int rp, .ref rk, .ref rs, .ref kt, .ref kr, .int kn, .int rg, .ref ab, .int (nI am), .ref bh, .int bm, .int br, .int (nI rn), .ref wa, .ref ra])), (ki, .inl (cI, 9, .inl kd)), (si, .inl (cI, 9, .inl sd)), (bh, .inl (cI, 3, .inl bv))]) [0, 1, 2, 4] rfl
  have hDc := hD.sub (ws' := [(x, .inr (7, [.int fa, .int tr, .ref so, .ref sl, .ref ce, .int (nI n), .int bar, .int (nI tn), .ref ki, .ref si, .ref th, .ref ri, .int at_, .int rp, .ref rk, .ref rs, .ref kt, .ref kr, .int kn, .int rg, .ref ab, .int (nI am), .ref bh, .int bm, .int br, .int (nI rn), .ref wa, .ref ra])), (ki, .inl (cI, 9, .inl kd)), (si, .inl (cI, 9, .inl sd)), (bh, .inl (cI, 3, .inl bv))]) [0, 1, 2, 4] (by decide) rfl
  have hFc := va_free (wc := [(x, .inr (7, [.int fa, .int tr, .ref so, .ref sl, .ref ce, .int (nI n), .int bar, .int (nI tn), .ref ki, .ref si, .ref th, .ref ri, .int at_, .int rp, .ref rk, .ref rs, .ref kt, .ref kr, .int kn, .int rg, .ref ab, .int (nI am), .ref bh, .int bm, .int br, .int (nI rn), .ref wa, .ref ra])), (ki, .inl (cI, 9, .inl kd)), (si, .inl (cI, 9, .inl sd)), (bh, .inl (cI, 3, .inl bv))]) hD hS hA [0, 1, 2, 4] rfl
  refine va_callv (va_runV (As := [.int (nI an), .int (nI bn), .int 0]) (rest := []) ⟨hx, hb, hml, hown, hts⟩ (c_X7_tryThrees l D cI cO x fa tr so sl ce n bar tn ki si th ri at_ rp rk rs kt kr kn rg ab (nI am) bh bm br rn wa ra kd sd bv (nI an) (nI bn) 0 _ (by assumption) (by assumption)) (cwV 3 hts gX7_findThird_X7_tryThrees rfl rfl rfl (by decide +kernel) ⟨Nat.le_of_ble_eq_true rfl, Nat.le_of_ble_eq_true rfl⟩) (preVW hPc hK hNw hDc (va_recv hK hPc (ci := 7) (q0 := 0) rfl rfl)) rfl rfl hl.1 rfl (lv_room (Nat.le_of_ble_eq_true rfl)) dX7_findThird_4 ⟨Nat.zero_le _, Nat.zero_le _⟩) hS (fun q _ h => hFc q h) hFc (fun u t H1 locs ht hvm w4 hB hz1 hk1 hS => ?_)
  obtain ⟨bm1_4, br1_4, bv1_4⟩ := u
  obtain ⟨hP1, hK1, hD1⟩ := hB
  rw [ht] at hP1
  try dsimp only at w4
  obtain ⟨hP, hD⟩ := va_join (wr := [(ab, .inl (cI, 84, .inl av))]) (w1 := [(x, .inr (7, [.int fa, .int tr, .ref so, .ref sl, .ref ce, .int (nI n), .int bar, .int (nI tn), .ref ki, .ref si, .ref th, .ref ri, .int at_, .int rp, .ref rk, .ref rs, .ref kt, .ref kr, .int kn, .int rg, .ref ab, .int (nI am), .ref bh, .int bm1_4, .int br1_4, .int (nI rn), .ref wa, .ref ra])), (ki, .inl (cI, 9, .inl kd)), (si, .inl (cI, 9, .inl sd)), (bh, .inl (cI, 3, .inl bv1_4))]) hP hD [0, 1, 2, 4] [3] rfl rfl (by decide) (by decide) hk1 hFc hP1 hD1
  generalize H1 = H at hP hS ⊢
  have hP := hP.sub (ws' := [(x, .inr (7, [.int fa, .int tr, .ref so, .ref sl, .ref ce, .int (nI n), .int bar, .int (nI tn), .ref ki, .ref si, .ref th, .ref ri, .int at_, .int rp, .ref rk, .ref rs, .ref kt, .ref kr, .int kn, .int rg, .ref ab, .int (nI am), .ref bh, .int bm1_4, .int br1_4, .int (nI rn), .ref wa, .ref ra])), (ki, .inl (cI, 9, .inl kd)), (si, .inl (cI, 9, .inl sd)), (ab, .inl (cI, 84, .inl av)), (bh, .inl (cI, 3, .inl bv1_4))]) [1, 2, 3, 0, 4] rfl
  have hD := hD.sub (ws' := [(x, .inr (7, [.int fa, .int tr, .ref so, .ref sl, .ref ce, .int (nI n), .int bar, .int (nI tn), .ref ki, .ref si, .ref th, .ref ri, .int at_, .int rp, .ref rk, .ref rs, .ref kt, .ref kr, .int kn, .int rg, .ref ab, .int (nI am), .ref bh, .int bm1_4, .int br1_4, .int (nI rn), .ref wa, .ref ra])), (ki, .inl (cI, 9, .inl kd)), (si, .inl (cI, 9, .inl sd)), (ab, .inl (cI, 84, .inl av)), (bh, .inl (cI, 3, .inl bv1_4))]) [1, 2, 3, 0, 4] (by decide) rfl
  obtain ⟨rfl, rfl, rfl⟩ := w4
  refine lv_iconst (v := 0) hx hb dX7_findThird_7 (by decide) ?_
  refine lv_istore_n (lv' := [(3, .int 0), (0, .ref x), (1, .int (nI an)), (2, .int (nI bn))]) hx hb dX7_findThird_8 rfl hl (by decide) rfl (fun ls hl => ?_)
  have lp9 : ∀ (fu9 : Nat) (z_ : Nat) (v1 : Int32) (v2 : Int32) (v3 : Nat → Int32) (hz : z_ ≤ am) (hq : thW n kd sd av an bn (am - z_) z_ (v1, v2, v3) = thW n kd sd av an bn am 0 (ttZ n kd sd (bm, br, bv) (nI an) (nI bn) 0)) (hm9 : am - z_ < fu9) (H : Heap) (locs : List Loc) (hP : va_P D vwCl [(x, .inr (7, [.int fa, .int tr, .ref so, .ref sl, .ref ce, .int (nI n), .int bar, .int (nI tn), .ref ki, .ref si, .ref th, .ref ri, .int at_, .int rp, .ref rk, .ref rs, .ref kt, .ref kr, .int kn, .int rg, .ref ab, .int (nI am), .ref bh, .int v1, .int v2, .int (nI rn), .ref wa, .ref ra])), (ki, .inl (cI, 9, .inl kd)), (si, .inl (cI, 9, .inl sd)), (ab, .inl (cI, 84, .inl av)), (bh, .inl (cI, 3, .inl v3))] H) (hD : va_D A [(x, .inr (7, [.int fa, .int tr, .ref so, .ref sl, .ref ce, .int (nI n), .int bar, .int (nI tn), .ref ki, .ref si, .ref th, .ref ri, .int at_, .int rp, .ref rk, .ref rs, .ref kt, .ref kr, .int kn, .int rg, .ref ab, .int (nI am), .ref bh, .int v1, .int v2, .int (nI rn), .ref wa, .ref ra])), (ki, .inl (cI, 9, .inl kd)), (si, .inl (cI, 9, .inl sd)), (ab, .inl (cI, 84, .inl av)), (bh, .inl (cI, 3, .inl v3))]) (hS : va_S A s.heap H locs) (ls : Array Slot) (hl : lv_has ls 4 [(0, .ref x), (1, .int (nI an)), (2, .int (nI bn)), (3, .int (nI z_))]), W p l e (headSpec wsX7_findThird ({ frames := 4, cells := 0, slots := 0, locals := 96 } : Room)).room s m ([.ref x, .int (nI an), .int (nI bn)]).toArray below meth c H locs 0 0 (MQ below (va_Qv (S := Int32 × Int32 × (Nat → Int32)) (fun u => u.1 = (ftZ n kd sd av am an bn (bm, br, bv)).1 ∧ u.2.1 = (ftZ n kd sd av am an bn (bm, br, bv)).2.1 ∧ u.2.2 = (ftZ n kd sd av am an bn (bm, br, bv)).2.2) (fun u t => va_P D vwCl [(x, .inr (7, [.int fa, .int tr, .ref so, .ref sl, .ref ce, .int (nI n), .int bar, .int (nI tn), .ref ki, .ref si, .ref th, .ref ri, .int at_, .int rp, .ref rk, .ref rs, .ref kt, .ref kr, .int kn, .int rg, .ref ab, .int (nI am), .ref bh, .int u.1, .int u.2.1, .int (nI rn), .ref wa, .ref ra])), (ki, .inl (cI, 9, .inl kd)), (si, .inl (cI, 9, .inl sd)), (ab, .inl (cI, 84, .inl av)), (bh, .inl (cI, 3, .inl u.2.2))] t.heap ∧ va_K D vwCl (tyL cI cO) t ∧ va_D A [(x, .inr (7, [.int fa, .int tr, .ref so, .ref sl, .ref ce, .int (nI n), .int bar, .int (nI tn), .ref ki, .ref si, .ref th, .ref ri, .int at_, .int rp, .ref rk, .ref rs, .ref kt, .ref kr, .int kn, .int rg, .ref ab, .int (nI am), .ref bh, .int u.1, .int u.2.1, .int (nI rn), .ref wa, .ref ra])), (ki, .inl (cI, 9, .inl kd)), (si, .inl (cI, 9, .inl sd)), (ab, .inl (cI, 84, .inl av)), (bh, .inl (cI, 3, .inl u.2.2))]) A) ([.ref x, .int (nI an), .int (nI bn)]).toArray s 0 0 A) (F0 m 9 ls []) := by
    intro fu9
    induction fu9 with
    | zero =>
      intros; omega
    | succ fu9 ih9 =>
      intro z_ v1 v2 v3 hz hq hm9 H locs hP hD hS ls hl
      refine lv_iload_n hx hb dX7_findThird_9 rfl (lv_at hl 3 rfl) ?_
      refine lv_aload_n hx hb dX7_findThird_10 rfl (lv_at hl 0 rfl) ?_
      refine va_get (D := D) (ci := 7) (v := .int (nI am)) (C := RX7) (T := TX7) (N := 28) hx hb hts iX7 hown hK hP 0 rfl rfl 21 (by decide) f177 (fun _ h9 => h9) rfl dX7_findThird_11 ?_
      refine lv_icmp_ge (tgt := 59) hx hb dX7_findThird_14 (by decide) (fun c14 => ?_) (fun c14 => ?_)
      · -- t14
        have e14 : z_ = am := by have q := ge_n (by omega) (by omega) c14; omega
        rw [e14] at hl
        exact W.vret hx hb hr (fun t ht hW => ⟨⟨(v1, v2, v3), rfl, by unfold ftZ; rw [← hq, e14, Nat.sub_self]; exact ⟨rfl, rfl, rfl⟩, by rw [ht]; exact hP, va_K.moved hW.alike hK, hD⟩, hS.F ht⟩) hS.2.2 dX7_findThird_59
      · -- f14
        have l14 : z_ < am := lt_n (by omega) (by omega) c14
        obtain ⟨ez, hz5, hz0⟩ := hab z_ l14
        refine lv_iload_n hx hb dX7_findThird_17 rfl (lv_at hl 1 rfl) ?_
        refine lv_aload_n hx hb dX7_findThird_18 rfl (lv_at hl 0 rfl) ?_
        refine va_get (D := D) (ci := 7) (v := .ref ab) (C := RX7) (T := TX7) (N := 28) hx hb hts iX7 hown hK hP 0 rfl rfl 20 (by decide) f43 (fun _ h9 => h9) rfl dX7_findThird_19 ?_
        refine lv_iload_n hx hb dX7_findThird_22 rfl (lv_at hl 3 rfl) ?_
        refine va_iald hx hb hK hP 3 0 rfl rfl (vp_in_nI (by omega) (by decide)) dX7_findThird_23 ?_
        refine tp_i (y := av z_) (by rw [nI_clamp (n := z_) (by omega)]) ?_
        refine tp_i (y := nI (aN av z_)) (ez) ?_
        refine lv_iand hx hb dX7_findThird_24 ?_
        refine tp_i (y := nI (an &&& aN av z_)) (and_nI _ _) ?_
        refine lv_if_ne (tgt := 53) hx hb dX7_findThird_25 (by decide) (fun c25 => ?_) (fun c25 => ?_)
        · -- t25
          have z25 : ¬ an &&& aN av z_ = 0 := fun q => c25 (by rw [q]; rfl)
          refine lv_iinc (v := nI (z_ + 1)) (lv' := [(3, .int (nI (z_ + 1))), (0, .ref x), (1, .int (nI an)), (2, .int (nI bn))]) hx hb dX7_findThird_53 hl (k := 3) rfl (nI_1 _) (by decide) rfl (fun ls hl => ?_)
          refine lv_goto (tgt := 9) hx hb dX7_findThird_56 (by decide) ?_
          exact ih9 (z_ + 1) v1 v2 v3 (by omega) (by rw [← hq, show am - z_ = (am - (z_ + 1)) + 1 by omega, thW_s]; first | (rw [if_neg (fun q => z25 q.1)]; done) | (rw [if_neg (fun q => b35 q.2)]; done) | (rw [if_pos ⟨z25, b35⟩]; done)) (by omega) _ _ hP hD hS _ (lv_sub hl [1, 2, 3, 0] rfl)
        · -- f25
          have z25 : an &&& aN av z_ = 0 := (nI_zero (Nat.lt_of_le_of_lt Nat.and_le_left (by omega))).mp c25
          refine lv_iload_n hx hb dX7_findThird_28 rfl (lv_at hl 2 rfl) ?_
          refine lv_aload_n hx hb dX7_findThird_29 rfl (lv_at hl 0 rfl) ?_
          refine va_get (D := D) (ci := 7) (v := .ref ab) (C := RX7) (T := TX7) (N := 28) hx hb hts iX7 hown hK hP 0 rfl rfl 20 (by decide) f43 (fun _ h9 => h9) rfl dX7_findThird_30 ?_
          refine lv_iload_n hx hb dX7_findThird_33 rfl (lv_at hl 3 rfl) ?_
          refine va_iald hx hb hK hP 3 0 rfl rfl (vp_in_nI (by omega) (by decide)) dX7_findThird_34 ?_
          refine tp_i (y := av z_) (by rw [nI_clamp (n := z_) (by omega)]) ?_
          refine tp_i (y := nI (aN av z_)) (ez) ?_
          have hPc := hP.sub (ws' := []) [] rfl
          refine vp_callSi (va_Run.run (va_runS (As := [.int (nI bn), .int (nI (aN av z_))]) (rest := []) ⟨hx, hb, hml, hown, hts⟩ (c_X7_isBehind l D cI cO bn (aN av z_) (by assumption) (by assumption) (by assumption) (by assumption)) (va_cwS 2 hts gX7_findThird_X7_isBehind rfl rfl rfl (by decide +kernel) ⟨Nat.le_of_ble_eq_true rfl, Nat.le_of_ble_eq_true rfl⟩) (preSR hPc hK hNw) rfl rfl hl.1 rfl (lv_room (Nat.le_of_ble_eq_true rfl)) dX7_findThird_35 ⟨Nat.zero_le _, Nat.zero_le _⟩)) (fun r35 w35 => ?_)
          by_cases b35 : bhB bn (aN av z_) = true
          · -- y35
            obtain rfl := w35.1 b35
            refine lv_if_eq (tgt := 53) hx hb dX7_findThird_38 (by decide) (fun h => absurd h (by decide)) (fun _ => ?_)
            refine lv_aload_n hx hb dX7_findThird_41 rfl (lv_at hl 0 rfl) ?_
            refine lv_iload_n hx hb dX7_findThird_42 rfl (lv_at hl 1 rfl) ?_
            refine lv_iload_n hx hb dX7_findThird_43 rfl (lv_at hl 2 rfl) ?_
            refine lv_aload_n hx hb dX7_findThird_44 rfl (lv_at hl 0 rfl) ?_
            refine va_get (D := D) (ci := 7) (v := .ref ab) (C := RX7) (T := TX7) (N := 28) hx hb hts iX7 hown hK hP 0 rfl rfl 20 (by decide) f43 (fun _ h9 => h9) rfl dX7_findThird_45 ?_
            refine lv_iload_n hx hb dX7_findThird_48 rfl (lv_at hl 3 rfl) ?_
            refine va_iald hx hb hK hP 3 0 rfl rfl (vp_in_nI (by omega) (by decide)) dX7_findThird_49 ?_
            refine tp_i (y := av z_) (by rw [nI_clamp (n := z_) (by omega)]) ?_
            refine tp_i (y := nI (aN av z_)) (ez) ?_
            have hPc := hP.sub (ws' := [(x, .inr (7, [.int fa, .int tr, .ref so, .ref sl, .ref ce, .int (nI n), .int bar, .int (nI tn), .ref ki, .ref si, .ref th, .ref ri, .int at_, .int rp, .ref rk, .ref rs, .ref kt, .ref kr, .int kn, .int rg, .ref ab, .int (nI am), .ref bh, .int v1, .int v2, .int (nI rn), .ref wa, .ref ra])), (ki, .inl (cI, 9, .inl kd)), (si, .inl (cI, 9, .inl sd)), (bh, .inl (cI, 3, .inl v3))]) [0, 1, 2, 4] rfl
            have hDc := hD.sub (ws' := [(x, .inr (7, [.int fa, .int tr, .ref so, .ref sl, .ref ce, .int (nI n), .int bar, .int (nI tn), .ref ki, .ref si, .ref th, .ref ri, .int at_, .int rp, .ref rk, .ref rs, .ref kt, .ref kr, .int kn, .int rg, .ref ab, .int (nI am), .ref bh, .int v1, .int v2, .int (nI rn), .ref wa, .ref ra])), (ki, .inl (cI, 9, .inl kd)), (si, .inl (cI, 9, .inl sd)), (bh, .inl (cI, 3, .inl v3))]) [0, 1, 2, 4] (by decide) rfl
            have hFc := va_free (wc := [(x, .inr (7, [.int fa, .int tr, .ref so, .ref sl, .ref ce, .int (nI n), .int bar, .int (nI tn), .ref ki, .ref si, .ref th, .ref ri, .int at_, .int rp, .ref rk, .ref rs, .ref kt, .ref kr, .int kn, .int rg, .ref ab, .int (nI am), .ref bh, .int v1, .int v2, .int (nI rn), .ref wa, .ref ra])), (ki, .inl (cI, 9, .inl kd)), (si, .inl (cI, 9, .inl sd)), (bh, .inl (cI, 3, .inl v3))]) hD hS hA [0, 1, 2, 4] rfl
            refine va_callv (va_runV (As := [.int (nI an), .int (nI bn), .int (nI (aN av z_))]) (rest := []) ⟨hx, hb, hml, hown, hts⟩ (c_X7_tryThrees l D cI cO x fa tr so sl ce n bar tn ki si th ri at_ rp rk rs kt kr kn rg ab (nI am) bh v1 v2 rn wa ra kd sd v3 (nI an) (nI bn) (nI (aN av z_)) _ (by assumption) (by assumption)) (cwV 3 hts gX7_findThird_X7_tryThrees rfl rfl rfl (by decide +kernel) ⟨Nat.le_of_ble_eq_true rfl, Nat.le_of_ble_eq_true rfl⟩) (preVW hPc hK hNw hDc (va_recv hK hPc (ci := 7) (q0 := 0) rfl rfl)) rfl rfl hl.1 rfl (lv_room (Nat.le_of_ble_eq_true rfl)) dX7_findThird_50 ⟨Nat.zero_le _, Nat.zero_le _⟩) hS (fun q _ h => hFc q h) hFc (fun u t H1 locs ht hvm w50 hB hz1 hk1 hS => ?_)
            obtain ⟨bm1_50, br1_50, bv1_50⟩ := u
            obtain ⟨hP1, hK1, hD1⟩ := hB
            rw [ht] at hP1
            try dsimp only at w50
            obtain ⟨hP, hD⟩ := va_join (wr := [(ab, .inl (cI, 84, .inl av))]) (w1 := [(x, .inr (7, [.int fa, .int tr, .ref so, .ref sl, .ref ce, .int (nI n), .int bar, .int (nI tn), .ref ki, .ref si, .ref th, .ref ri, .int at_, .int rp, .ref rk, .ref rs, .ref kt, .ref kr, .int kn, .int rg, .ref ab, .int (nI am), .ref bh, .int bm1_50, .int br1_50, .int (nI rn), .ref wa, .ref ra])), (ki, .inl (cI, 9, .inl kd)), (si, .inl (cI, 9, .inl sd)), (bh, .inl (cI, 3, .inl bv1_50))]) hP hD [0, 1, 2, 4] [3] rfl rfl (by decide) (by decide) hk1 hFc hP1 hD1
            generalize H1 = H at hP hS ⊢
            have hP := hP.sub (ws' := [(x, .inr (7, [.int fa, .int tr, .ref so, .ref sl, .ref ce, .int (nI n), .int bar, .int (nI tn), .ref ki, .ref si, .ref th, .ref ri, .int at_, .int rp, .ref rk, .ref rs, .ref kt, .ref kr, .int kn, .int rg, .ref ab, .int (nI am), .ref bh, .int bm1_50, .int br1_50, .int (nI rn), .ref wa, .ref ra])), (ki, .inl (cI, 9, .inl kd)), (si, .inl (cI, 9, .inl sd)), (ab, .inl (cI, 84, .inl av)), (bh, .inl (cI, 3, .inl bv1_50))]) [1, 2, 3, 0, 4] rfl
            have hD := hD.sub (ws' := [(x, .inr (7, [.int fa, .int tr, .ref so, .ref sl, .ref ce, .int (nI n), .int bar, .int (nI tn), .ref ki, .ref si, .ref th, .ref ri, .int at_, .int rp, .ref rk, .ref rs, .ref kt, .ref kr, .int kn, .int rg, .ref ab, .int (nI am), .ref bh, .int bm1_50, .int br1_50, .int (nI rn), .ref wa, .ref ra])), (ki, .inl (cI, 9, .inl kd)), (si, .inl (cI, 9, .inl sd)), (ab, .inl (cI, 84, .inl av)), (bh, .inl (cI, 3, .inl bv1_50))]) [1, 2, 3, 0, 4] (by decide) rfl
            obtain ⟨rfl, rfl, rfl⟩ := w50
            refine lv_iinc (v := nI (z_ + 1)) (lv' := [(3, .int (nI (z_ + 1))), (0, .ref x), (1, .int (nI an)), (2, .int (nI bn))]) hx hb dX7_findThird_53 hl (k := 3) rfl (nI_1 _) (by decide) rfl (fun ls hl => ?_)
            refine lv_goto (tgt := 9) hx hb dX7_findThird_56 (by decide) ?_
            exact ih9 (z_ + 1) (ttZ n kd sd (v1, v2, v3) (nI an) (nI bn) (nI (aN av z_))).1 (ttZ n kd sd (v1, v2, v3) (nI an) (nI bn) (nI (aN av z_))).2.1 (ttZ n kd sd (v1, v2, v3) (nI an) (nI bn) (nI (aN av z_))).2.2 (by omega) (by rw [← hq, show am - z_ = (am - (z_ + 1)) + 1 by omega, thW_s]; first | (rw [if_neg (fun q => z25 q.1)]; done) | (rw [if_neg (fun q => b35 q.2)]; done) | (rw [if_pos ⟨z25, b35⟩]; done)) (by omega) _ _ hP hD hS _ (lv_sub hl [1, 2, 3, 0] rfl)
          · -- n35
            obtain rfl := w35.2 b35
            refine lv_if_eq (tgt := 53) hx hb dX7_findThird_38 (by decide) (fun _ => ?_) (fun h => absurd (by decide) h)
            refine lv_iinc (v := nI (z_ + 1)) (lv' := [(3, .int (nI (z_ + 1))), (0, .ref x), (1, .int (nI an)), (2, .int (nI bn))]) hx hb dX7_findThird_53 hl (k := 3) rfl (nI_1 _) (by decide) rfl (fun ls hl => ?_)
            refine lv_goto (tgt := 9) hx hb dX7_findThird_56 (by decide) ?_
            exact ih9 (z_ + 1) v1 v2 v3 (by omega) (by rw [← hq, show am - z_ = (am - (z_ + 1)) + 1 by omega, thW_s]; first | (rw [if_neg (fun q => z25 q.1)]; done) | (rw [if_neg (fun q => b35 q.2)]; done) | (rw [if_pos ⟨z25, b35⟩]; done)) (by omega) _ _ hP hD hS _ (lv_sub hl [1, 2, 3, 0] rfl)
  exact lp9 _ 0 (ttZ n kd sd (bm, br, bv) (nI an) (nI bn) 0).1 (ttZ n kd sd (bm, br, bv) (nI an) (nI bn) 0).2.1 (ttZ n kd sd (bm, br, bv) (nI an) (nI bn) 0).2.2 (Nat.zero_le _) (rfl) (Nat.lt_succ_self _) _ _ hP hD hS _ (lv_sub hl [1, 2, 3, 0] rfl)

set_option maxHeartbeats 4000000 in
set_option maxRecDepth 100000 in
theorem c_X7_findMost (l : Launch) (D : va_G) (cI cO : ClassId) (x : Nat) (fa : Int32) (tr : Int32) (so : Nat) (sl : Nat) (ce : Nat) (n : Nat) (bar : Int32) (tn : Nat) (ki : Nat) (si : Nat) (th : Nat) (ri : Nat) (at_ : Int32) (rp : Int32) (rk : Nat) (rs : Nat) (kt : Nat) (kr : Nat) (kn : Int32) (rg : Int32) (ab : Nat) (am : Int32) (bh : Nat) (bm : Int32) (br : Int32) (rn : Nat) (wa : Nat) (ra : Nat) (kd : Nat → Int32) (sd : Nat → Int32) (av : Nat → Int32) (bv : Nat → Int32) (sz : Nat) (hn : n ≤ 9) (hk3 : ∀ j, j < n → kd j = 0 ∨ kd j = 1 ∨ kd j = 2) : Met l yX7_findMost wsX7_findMost ({ frames := 5, cells := 0, slots := 0, locals := 119 } : Room) (va_Pc [.ref x] (wdW D cI cO [(x, .inr (7, [.int fa, .int tr, .ref so, .ref sl, .ref ce, .int (nI n), .int bar, .int (nI tn), .ref ki, .ref si, .ref th, .ref ri, .int at_, .int rp, .ref rk, .ref rs, .ref kt, .ref kr, .int kn, .int rg, .ref ab, .int am, .ref bh, .int bm, .int br, .int (nI rn), .ref wa, .ref ra])), (ki, .inl (cI, 9, .inl kd)), (si, .inl (cI, 9, .inl sd)), (ab, .inl (cI, 84, .inl av)), (bh, .inl (cI, 3, .inl bv))] sz)) (va_Qv (S := Nat × Int32 × Int32 × (Nat → Int32) × (Nat → Int32)) (fun u => u.1 = (ablW n sd av (2 ^ n)).2 ∧ u.2.1 = (fmZ n kd sd av br bv).1 ∧ u.2.2.1 = (fmZ n kd sd av br bv).2.1 ∧ u.2.2.2.1 = (ablW n sd av (2 ^ n)).1 ∧ u.2.2.2.2 = (fmZ n kd sd av br bv).2.2) (fun u t => va_P D vwCl [(x, .inr (7, [.int fa, .int tr, .ref so, .ref sl, .ref ce, .int (nI n), .int bar, .int (nI tn), .ref ki, .ref si, .ref th, .ref ri, .int at_, .int rp, .ref rk, .ref rs, .ref kt, .ref kr, .int kn, .int rg, .ref ab, .int (nI u.1), .ref bh, .int u.2.1, .int u.2.2.1, .int (nI rn), .ref wa, .ref ra])), (ki, .inl (cI, 9, .inl kd)), (si, .inl (cI, 9, .inl sd)), (ab, .inl (cI, 84, .inl u.2.2.2.1)), (bh, .inl (cI, 3, .inl u.2.2.2.2))] t.heap ∧ va_K D vwCl (tyL cI cO) t ∧ va_D (va_A [(x, .inr (7, [.int fa, .int tr, .ref so, .ref sl, .ref ce, .int (nI n), .int bar, .int (nI tn), .ref ki, .ref si, .ref th, .ref ri, .int at_, .int rp, .ref rk, .ref rs, .ref kt, .ref kr, .int kn, .int rg, .ref ab, .int am, .ref bh, .int bm, .int br, .int (nI rn), .ref wa, .ref ra])), (ki, .inl (cI, 9, .inl kd)), (si, .inl (cI, 9, .inl sd)), (ab, .inl (cI, 84, .inl av)), (bh, .inl (cI, 3, .inl bv))] sz) [(x, .inr (7, [.int fa, .int tr, .ref so, .ref sl, .ref ce, .int (nI n), .int bar, .int (nI tn), .ref ki, .ref si, .ref th, .ref ri, .int at_, .int rp, .ref rk, .ref rs, .ref kt, .ref kr, .int kn, .int rg, .ref ab, .int (nI u.1), .ref bh, .int u.2.1, .int u.2.2.1, .int (nI rn), .ref wa, .ref ra])), (ki, .inl (cI, 9, .inl kd)), (si, .inl (cI, 9, .inl sd)), (ab, .inl (cI, 84, .inl u.2.2.2.1)), (bh, .inl (cI, 3, .inl u.2.2.2.2))]) (va_A [(x, .inr (7, [.int fa, .int tr, .ref so, .ref sl, .ref ce, .int (nI n), .int bar, .int (nI tn), .ref ki, .ref si, .ref th, .ref ri, .int at_, .int rp, .ref rk, .ref rs, .ref kt, .ref kr, .int kn, .int rg, .ref ab, .int am, .ref bh, .int bm, .int br, .int (nI rn), .ref wa, .ref ra])), (ki, .inl (cI, 9, .inl kd)), (si, .inl (cI, 9, .inl sd)), (ab, .inl (cI, 84, .inl av)), (bh, .inl (cI, 3, .inl bv))] sz)) 0 0 (va_A [(x, .inr (7, [.int fa, .int tr, .ref so, .ref sl, .ref ce, .int (nI n), .int bar, .int (nI tn), .ref ki, .ref si, .ref th, .ref ri, .int at_, .int rp, .ref rk, .ref rs, .ref kt, .ref kr, .int kn, .int rg, .ref ab, .int am, .ref bh, .int bm, .int br, .int (nI rn), .ref wa, .ref ra])), (ki, .inl (cI, 9, .inl kd)), (si, .inl (cI, 9, .inl sd)), (ab, .inl (cI, 84, .inl av)), (bh, .inl (cI, 3, .inl bv))] sz) := by
  refine Met.ofW (cc := cX7_findMost) (maxL := 3) (ret := none) (by decide) rfl ?_
  intro p e s m args below meth c s₁ B hml hv
  obtain ⟨rfl, hsz, hP, hK, hNw, hD0⟩ := hv
  have hx := B.exec
  have hb := B.bytes
  have hr := B.returns
  have hts := atoms_spec (ws := wsX7_findMost) B.pre
  have hown : s.vm.findClass RX7 = some m.cls := findClass_of_methodNamed B.named
  have hlocks := B.notSynchronized
  have f43 := hts (.fieldLink RX7 43 "StruckThreesModel" "able" "[I") (by decide +kernel)
  have f46 := hts (.fieldLink RX7 46 "StruckThreesModel" "bestThree" "[I") (by decide +kernel)
  have f177 := hts (.fieldLink RX7 177 "StruckThreesModel" "ableMany" "I") (by decide +kernel)
  have f183 := hts (.fieldLink RX7 183 "StruckThreesModel" "bestMany" "I") (by decide +kernel)
  have iX7 : ∀ w ∈ wsX70, w ∈ wsX7_findMost := by decide +kernel
  subst hsz
  have hD := hD0.self (sz := s.heap.size)
  generalize hAe : va_A [(x, .inr (7, [.int fa, .int tr, .ref so, .ref sl, .ref ce, .int (nI n), .int bar, .int (nI tn), .ref ki, .ref si, .ref th, .ref ri, .int at_, .int rp, .ref rk, .ref rs, .ref kt, .ref kr, .int kn, .int rg, .ref ab, .int am, .ref bh, .int bm, .int br, .int (nI rn), .ref wa, .ref ra])), (ki, .inl (cI, 9, .inl kd)), (si, .inl (cI, 9, .inl sd)), (ab, .inl (cI, 84, .inl av)), (bh, .inl (cI, 3, .inl bv))] s.heap.size = A at hD ⊢
  have hA : ∀ q : Nat, s.heap.size ≤ q → A q := fun q h => by rw [← hAe]; exact Or.inr h
  have hS : va_S A s.heap s.heap [] := va_S.rf
  have hP : va_P D vwCl [(x, .inr (7, [.int fa, .int tr, .ref so, .ref sl, .ref ce, .int (nI n), .int bar, .int (nI tn), .ref ki, .ref si, .ref th, .ref ri, .int at_, .int rp, .ref rk, .ref rs, .ref kt, .ref kr, .int kn, .int rg, .ref ab, .int am, .ref bh, .int bm, .int br, .int (nI rn), .ref wa, .ref ra])), (ki, .inl (cI, 9, .inl kd)), (si, .inl (cI, 9, .inl sd)), (ab, .inl (cI, 84, .inl av)), (bh, .inl (cI, 3, .inl bv))] s.heap := hP
  have hl := lv_entry ([.ref x]) (n := 3) (Nat.le_of_ble_eq_true rfl)
  rw [lg_entry_eq]
  generalize (lg_sl ([.ref x]) ++ List.replicate (3 - (lg_sl ([.ref x])).length) Slot.unset).toArray = ls at hl ⊢
  have hl : lv_has ls 3 [(0, .ref x)] := hl
  have hb2 := bnd_t hn
  have hs2 := sh1 n (by omega)
  have ham := abl_am (n := n) (sd := sd) (av := av) (show 2 ^ n ≤ 512 by omega)
  have hab := abl_ok n sd av (2 ^ n) (by omega)
  refine lv_aload_n hx hb dX7_findMost_0 rfl (lv_at hl 0 rfl) ?_
  have hPc := hP.sub (ws' := [(x, .inr (7, [.int fa, .int tr, .ref so, .ref sl, .ref ce, .int (nI n), .int bar, .int (nI tn), .ref ki, .ref si, .ref th, .ref ri, .int at_, .int rp, .ref rk, .ref rs, .ref kt, .ref kr, .int kn, .int rg, .ref ab, .int am, .ref bh, .int bm, .int br, .int (nI rn), .ref wa, .ref ra])), (si, .inl (cI, 9, .inl sd)), (ab, .inl (cI, 84, .inl av))]) [0, 2, 3] rfl
  have hDc := hD.sub (ws' := [(x, .inr (7, [.int fa, .int tr, .ref so, .ref sl, .ref ce, .int (nI n), .int bar, .int (nI tn), .ref ki, .ref si, .ref th, .ref ri, .int at_, .int rp, .ref rk, .ref rs, .ref kt, .ref kr, .int kn, .int rg, .ref ab, .int am, .ref bh, .int bm, .int br, .int (nI rn), .ref wa, .ref ra])), (si, .inl (cI, 9, .inl sd)), (ab, .inl (cI, 84, .inl av))]) [0, 2, 3] (by decide) rfl
  have hFc := va_free (wc := [(x, .inr (7, [.int fa, .int tr, .ref so, .ref sl, .ref ce, .int (nI n), .int bar, .int (nI tn), .ref ki, .ref si, .ref th, .ref ri, .int at_, .int rp, .ref rk, .ref rs, .ref kt, .ref kr, .int kn, .int rg, .ref ab, .int am, .ref bh, .int bm, .int br, .int (nI rn), .ref wa, .ref ra])), (si, .inl (cI, 9, .inl sd)), (ab, .inl (cI, 84, .inl av))]) hD hS hA [0, 2, 3] rfl
  refine va_callv (va_runV (As := []) (rest := []) ⟨hx, hb, hml, hown, hts⟩ (c_X7_findAble l D cI cO x fa tr so sl ce n bar tn ki si th ri at_ rp rk rs kt kr kn rg ab am bh bm br rn wa ra sd av _ (by assumption)) (cwV 0 hts gX7_findMost_X7_findAble rfl rfl rfl (by decide +kernel) ⟨Nat.le_of_ble_eq_true rfl, Nat.le_of_ble_eq_true rfl⟩) (preVW hPc hK hNw hDc (va_recv hK hPc (ci := 7) (q0 := 0) rfl rfl)) rfl rfl hl.1 rfl (lv_room (Nat.le_of_ble_eq_true rfl)) dX7_findMost_1 ⟨Nat.zero_le _, Nat.zero_le _⟩) hS (fun q _ h => hFc q h) hFc (fun u t H1 locs ht hvm w1 hB hz1 hk1 hS => ?_)
  obtain ⟨am1_1, av1_1⟩ := u
  obtain ⟨hP1, hK1, hD1⟩ := hB
  rw [ht] at hP1
  try dsimp only at w1
  obtain ⟨hP, hD⟩ := va_join (wr := [(ki, .inl (cI, 9, .inl kd)), (bh, .inl (cI, 3, .inl bv))]) (w1 := [(x, .inr (7, [.int fa, .int tr, .ref so, .ref sl, .ref ce, .int (nI n), .int bar, .int (nI tn), .ref ki, .ref si, .ref th, .ref ri, .int at_, .int rp, .ref rk, .ref rs, .ref kt, .ref kr, .int kn, .int rg, .ref ab, .int (nI am1_1), .ref bh, .int bm, .int br, .int (nI rn), .ref wa, .ref ra])), (si, .inl (cI, 9, .inl sd)), (ab, .inl (cI, 84, .inl av1_1))]) hP hD [0, 2, 3] [1, 4] rfl rfl (by decide) (by decide) hk1 hFc hP1 hD1
  generalize H1 = H at hP hS ⊢
  have hP := hP.sub (ws' := [(x, .inr (7, [.int fa, .int tr, .ref so, .ref sl, .ref ce, .int (nI n), .int bar, .int (nI tn), .ref ki, .ref si, .ref th, .ref ri, .int at_, .int rp, .ref rk, .ref rs, .ref kt, .ref kr, .int kn, .int rg, .ref ab, .int (nI am1_1), .ref bh, .int bm, .int br, .int (nI rn), .ref wa, .ref ra])), (ki, .inl (cI, 9, .inl kd)), (si, .inl (cI, 9, .inl sd)), (ab, .inl (cI, 84, .inl av1_1)), (bh, .inl (cI, 3, .inl bv))]) [2, 0, 3, 4, 1] rfl
  have hD := hD.sub (ws' := [(x, .inr (7, [.int fa, .int tr, .ref so, .ref sl, .ref ce, .int (nI n), .int bar, .int (nI tn), .ref ki, .ref si, .ref th, .ref ri, .int at_, .int rp, .ref rk, .ref rs, .ref kt, .ref kr, .int kn, .int rg, .ref ab, .int (nI am1_1), .ref bh, .int bm, .int br, .int (nI rn), .ref wa, .ref ra])), (ki, .inl (cI, 9, .inl kd)), (si, .inl (cI, 9, .inl sd)), (ab, .inl (cI, 84, .inl av1_1)), (bh, .inl (cI, 3, .inl bv))]) [2, 0, 3, 4, 1] (by decide) rfl
  obtain ⟨rfl, rfl⟩ := w1
  refine lv_aload_n hx hb dX7_findMost_4 rfl (lv_at hl 0 rfl) ?_
  refine lv_bipush (v := -9) hx hb dX7_findMost_5 (by decide) ?_
  refine va_put (D := D) (ci := 7) (v := .int (-9)) (ty := .int) (C := RX7) (T := TX7) (N := 28) hx hb hts iX7 tyX7 tyX7_ok nmX7 hown hK hP hD hS 0 rfl rfl 23 (by decide) f183 (fun _ h9 => h9) rfl (by decide +kernel) rfl rfl (Nat.le_of_ble_eq_true rfl) dX7_findMost_7 (fun H locs hP hD hS => ?_)
  have hP : va_P D vwCl [(x, .inr (7, [.int fa, .int tr, .ref so, .ref sl, .ref ce, .int (nI n), .int bar, .int (nI tn), .ref ki, .ref si, .ref th, .ref ri, .int at_, .int rp, .ref rk, .ref rs, .ref kt, .ref kr, .int kn, .int rg, .ref ab, .int (nI (ablW n sd av (2 ^ n)).2), .ref bh, .int (-9), .int br, .int (nI rn), .ref wa, .ref ra])), (ki, .inl (cI, 9, .inl kd)), (si, .inl (cI, 9, .inl sd)), (ab, .inl (cI, 84, .inl (ablW n sd av (2 ^ n)).1)), (bh, .inl (cI, 3, .inl bv))] H := hP
  have hD : va_D A [(x, .inr (7, [.int fa, .int tr, .ref so, .ref sl, .ref ce, .int (nI n), .int bar, .int (nI tn), .ref ki, .ref si, .ref th, .ref ri, .int at_, .int rp, .ref rk, .ref rs, .ref kt, .ref kr, .int kn, .int rg, .ref ab, .int (nI (ablW n sd av (2 ^ n)).2), .ref bh, .int (-9), .int br, .int (nI rn), .ref wa, .ref ra])), (ki, .inl (cI, 9, .inl kd)), (si, .inl (cI, 9, .inl sd)), (ab, .inl (cI, 84, .inl (ablW n sd av (2 ^ n)).1)), (bh, .inl (cI, 3, .inl bv))] := hD
  refine lv_aload_n hx hb dX7_findMost_10 rfl (lv_at hl 0 rfl) ?_
  refine va_get (D := D) (ci := 7) (v := .ref bh) (C := RX7) (T := TX7) (N := 28) hx hb hts iX7 hown hK hP 0 rfl rfl 22 (by decide) f46 (fun _ h9 => h9) rfl dX7_findMost_11 ?_
  refine lv_iconst (v := 0) hx hb dX7_findMost_14 (by decide) ?_
  refine lv_iconst (v := 0) hx hb dX7_findMost_15 (by decide) ?_
  refine va_iast hx hb hK hP hD hS 4 0 rfl rfl (show vp_in (nI 0) _ from vp_in_nI (by decide) (by decide)) dX7_findMost_16 (fun H locs hP hD hS => ?_)
  rw [show (0 : Int32).toNatClampNeg = 0 from by decide] at hP hD
  have hP : va_P D vwCl [(x, .inr (7, [.int fa, .int tr, .ref so, .ref sl, .ref ce, .int (nI n), .int bar, .int (nI tn), .ref ki, .ref si, .ref th, .ref ri, .int at_, .int rp, .ref rk, .ref rs, .ref kt, .ref kr, .int kn, .int rg, .ref ab, .int (nI (ablW n sd av (2 ^ n)).2), .ref bh, .int (-9), .int br, .int (nI rn), .ref wa, .ref ra])), (ki, .inl (cI, 9, .inl kd)), (si, .inl (cI, 9, .inl sd)), (ab, .inl (cI, 84, .inl (ablW n sd av (2 ^ n)).1)), (bh, .inl (cI, 3, .inl (upd bv 0 0)))] H := hP
  have hD : va_D A [(x, .inr (7, [.int fa, .int tr, .ref so, .ref sl, .ref ce, .int (nI n), .int bar, .int (nI tn), .ref ki, .ref si, .ref th, .ref ri, .int at_, .int rp, .ref rk, .ref rs, .ref kt, .ref kr, .int kn, .int rg, .ref ab, .int (nI (ablW n sd av (2 ^ n)).2), .ref bh, .int (-9), .int br, .int (nI rn), .ref wa, .ref ra])), (ki, .inl (cI, 9, .inl kd)), (si, .inl (cI, 9, .inl sd)), (ab, .inl (cI, 84, .inl (ablW n sd av (2 ^ n)).1)), (bh, .inl (cI, 3, .inl (upd bv 0 0)))] := hD
  refine lv_aload_n hx hb dX7_findMost_17 rfl (lv_at hl 0 rfl) ?_
  refine va_get (D := D) (ci := 7) (v := .ref bh) (C := RX7) (T := TX7) (N := 28) hx hb hts iX7 hown hK hP 0 rfl rfl 22 (by decide) f46 (fun _ h9 => h9) rfl dX7_findMost_18 ?_
  refine lv_iconst (v := 1) hx hb dX7_findMost_21 (by decide) ?_
  refine lv_iconst (v := 0) hx hb dX7_findMost_22 (by decide) ?_
  refine va_iast hx hb hK hP hD hS 4 0 rfl rfl (show vp_in (nI 1) _ from vp_in_nI (by decide) (by decide)) dX7_findMost_23 (fun H locs hP hD hS => ?_)
  rw [show (1 : Int32).toNatClampNeg = 1 from by decide] at hP hD
  have hP : va_P D vwCl [(x, .inr (7, [.int fa, .int tr, .ref so, .ref sl, .ref ce, .int (nI n), .int bar, .int (nI tn), .ref ki, .ref si, .ref th, .ref ri, .int at_, .int rp, .ref rk, .ref rs, .ref kt, .ref kr, .int kn, .int rg, .ref ab, .int (nI (ablW n sd av (2 ^ n)).2), .ref bh, .int (-9), .int br, .int (nI rn), .ref wa, .ref ra])), (ki, .inl (cI, 9, .inl kd)), (si, .inl (cI, 9, .inl sd)), (ab, .inl (cI, 84, .inl (ablW n sd av (2 ^ n)).1)), (bh, .inl (cI, 3, .inl (upd (upd bv 0 0) 1 0)))] H := hP
  have hD : va_D A [(x, .inr (7, [.int fa, .int tr, .ref so, .ref sl, .ref ce, .int (nI n), .int bar, .int (nI tn), .ref ki, .ref si, .ref th, .ref ri, .int at_, .int rp, .ref rk, .ref rs, .ref kt, .ref kr, .int kn, .int rg, .ref ab, .int (nI (ablW n sd av (2 ^ n)).2), .ref bh, .int (-9), .int br, .int (nI rn), .ref wa, .ref ra])), (ki, .inl (cI, 9, .inl kd)), (si, .inl (cI, 9, .inl sd)), (ab, .inl (cI, 84, .inl (ablW n sd av (2 ^ n)).1)), (bh, .inl (cI, 3, .inl (upd (upd bv 0 0) 1 0)))] := hD
  refine lv_aload_n hx hb dX7_findMost_24 rfl (lv_at hl 0 rfl) ?_
  refine va_get (D := D) (ci := 7) (v := .ref bh) (C := RX7) (T := TX7) (N := 28) hx hb hts iX7 hown hK hP 0 rfl rfl 22 (by decide) f46 (fun _ h9 => h9) rfl dX7_findMost_25 ?_
  refine lv_iconst (v := 2) hx hb dX7_findMost_28 (by decide) ?_
  refine lv_iconst (v := 0) hx hb dX7_findMost_29 (by decide) ?_
  refine va_iast hx hb hK hP hD hS 4 0 rfl rfl (show vp_in (nI 2) _ from vp_in_nI (by decide) (by decide)) dX7_findMost_30 (fun H locs hP hD hS => ?_)
  rw [show (2 : Int32).toNatClampNeg = 2 from by decide] at hP hD
  have hP : va_P D vwCl [(x, .inr (7, [.int fa, .int tr, .ref so, .ref sl, .ref ce, .int (nI n), .int bar, .int (nI tn), .ref ki, .ref si, .ref th, .ref ri, .int at_, .int rp, .ref rk, .ref rs, .ref kt, .ref kr, .int kn, .int rg, .ref ab, .int (nI (ablW n sd av (2 ^ n)).2), .ref bh, .int (-9), .int br, .int (nI rn), .ref wa, .ref ra])), (ki, .inl (cI, 9, .inl kd)), (si, .inl (cI, 9, .inl sd)), (ab, .inl (cI, 84, .inl (ablW n sd av (2 ^ n)).1)), (bh, .inl (cI, 3, .inl (upd (upd (upd bv 0 0) 1 0) 2 0)))] H := hP
  have hD : va_D A [(x, .inr (7, [.int fa, .int tr, .ref so, .ref sl, .ref ce, .int (nI n), .int bar, .int (nI tn), .ref ki, .ref si, .ref th, .ref ri, .int at_, .int rp, .ref rk, .ref rs, .ref kt, .ref kr, .int kn, .int rg, .ref ab, .int (nI (ablW n sd av (2 ^ n)).2), .ref bh, .int (-9), .int br, .int (nI rn), .ref wa, .ref ra])), (ki, .inl (cI, 9, .inl kd)), (si, .inl (cI, 9, .inl sd)), (ab, .inl (cI, 84, .inl (ablW n sd av (2 ^ n)).1)), (bh, .inl (cI, 3, .inl (upd (upd (upd bv 0 0) 1 0) 2 0)))] := hD
  refine lv_aload_n hx hb dX7_findMost_31 rfl (lv_at hl 0 rfl) ?_
  refine lv_iconst (v := 0) hx hb dX7_findMost_32 (by decide) ?_
  refine lv_iconst (v := 0) hx hb dX7_findMost_33 (by decide) ?_
  refine lv_iconst (v := 0) hx hb dX7_findMost_34 (by decide) ?_
  have hPc := hP.sub (ws' := [(x, .inr (7, [.int fa, .int tr, .ref so, .ref sl, .ref ce, .int (nI n), .int bar, .int (nI tn), .ref ki, .ref si, .ref th, .ref ri, .int at_, .int rp, .ref rk, .ref rs, .ref kt, .ref kr, .int kn, .int rg, .ref ab, .int (nI (ablW n sd av (2 ^ n)).2), .ref bh, .int (-9), .int br, .int (nI rn), .ref wa, .ref ra])), (ki, .inl (cI, 9, .inl kd)), (si, .inl (cI, 9, .inl sd)), (bh, .inl (cI, 3, .inl (upd (upd (upd bv 0 0) 1 0) 2 0)))]) [0, 1, 2, 4] rfl
  have hDc := hD.sub (ws' := [(x, .inr (7, [.int fa, .int tr, .ref so, .ref sl, .ref ce, .int (nI n), .int bar, .int (nI tn), .ref ki, .ref si, .ref th, .ref ri, .int at_, .int rp, .ref rk, .ref rs, .ref kt, .ref kr, .int kn, .int rg, .ref ab, .int (nI (ablW n sd av (2 ^ n)).2), .ref bh, .int (-9), .int br, .int (nI rn), .ref wa, .ref ra])), (ki, .inl (cI, 9, .inl kd)), (si, .inl (cI, 9, .inl sd)), (bh, .inl (cI, 3, .inl (upd (upd (upd bv 0 0) 1 0) 2 0)))]) [0, 1, 2, 4] (by decide) rfl
  have hFc := va_free (wc := [(x, .inr (7, [.int fa, .int tr, .ref so, .ref sl, .ref ce, .int (nI n), .int bar, .int (nI tn), .ref ki, .ref si, .ref th, .ref ri, .int at_, .int rp, .ref rk, .ref rs, .ref kt, .ref kr, .int kn, .int rg, .ref ab, .int (nI (ablW n sd av (2 ^ n)).2), .ref bh, .int (-9), .int br, .int (nI rn), .ref wa, .ref ra])), (ki, .inl (cI, 9, .inl kd)), (si, .inl (cI, 9, .inl sd)), (bh, .inl (cI, 3, .inl (upd (upd (upd bv 0 0) 1 0) 2 0)))]) hD hS hA [0, 1, 2, 4] rfl
  refine va_callv (va_runV (As := [.int 0, .int 0, .int 0]) (rest := []) ⟨hx, hb, hml, hown, hts⟩ (c_X7_tryThrees l D cI cO x fa tr so sl ce n bar tn ki si th ri at_ rp rk rs kt kr kn rg ab (nI (ablW n sd av (2 ^ n)).2) bh (-9) br rn wa ra kd sd (upd (upd (upd bv 0 0) 1 0) 2 0) 0 0 0 _ (by assumption) (by assumption)) (cwV 3 hts gX7_findMost_X7_tryThrees rfl rfl rfl (by decide +kernel) ⟨Nat.le_of_ble_eq_true rfl, Nat.le_of_ble_eq_true rfl⟩) (preVW hPc hK hNw hDc (va_recv hK hPc (ci := 7) (q0 := 0) rfl rfl)) rfl rfl hl.1 rfl (lv_room (Nat.le_of_ble_eq_true rfl)) dX7_findMost_35 ⟨Nat.zero_le _, Nat.zero_le _⟩) hS (fun q _ h => hFc q h) hFc (fun u t H1 locs ht hvm w35 hB hz1 hk1 hS => ?_)
  obtain ⟨bm1_35, br1_35, bv1_35⟩ := u
  obtain ⟨hP1, hK1, hD1⟩ := hB
  rw [ht] at hP1
  try dsimp only at w35
  obtain ⟨hP, hD⟩ := va_join (wr := [(ab, .inl (cI, 84, .inl (ablW n sd av (2 ^ n)).1))]) (w1 := [(x, .inr (7, [.int fa, .int tr, .ref so, .ref sl, .ref ce, .int (nI n), .int bar, .int (nI tn), .ref ki, .ref si, .ref th, .ref ri, .int at_, .int rp, .ref rk, .ref rs, .ref kt, .ref kr, .int kn, .int rg, .ref ab, .int (nI (ablW n sd av (2 ^ n)).2), .ref bh, .int bm1_35, .int br1_35, .int (nI rn), .ref wa, .ref ra])), (ki, .inl (cI, 9, .inl kd)), (si, .inl (cI, 9, .inl sd)), (bh, .inl (cI, 3, .inl bv1_35))]) hP hD [0, 1, 2, 4] [3] rfl rfl (by decide) (by decide) hk1 hFc hP1 hD1
  generalize H1 = H at hP hS ⊢
  have hP := hP.sub (ws' := [(x, .inr (7, [.int fa, .int tr, .ref so, .ref sl, .ref ce, .int (nI n), .int bar, .int (nI tn), .ref ki, .ref si, .ref th, .ref ri, .int at_, .int rp, .ref rk, .ref rs, .ref kt, .ref kr, .int kn, .int rg, .ref ab, .int (nI (ablW n sd av (2 ^ n)).2), .ref bh, .int bm1_35, .int br1_35, .int (nI rn), .ref wa, .ref ra])), (ki, .inl (cI, 9, .inl kd)), (si, .inl (cI, 9, .inl sd)), (ab, .inl (cI, 84, .inl (ablW n sd av (2 ^ n)).1)), (bh, .inl (cI, 3, .inl bv1_35))]) [1, 2, 3, 0, 4] rfl
  have hD := hD.sub (ws' := [(x, .inr (7, [.int fa, .int tr, .ref so, .ref sl, .ref ce, .int (nI n), .int bar, .int (nI tn), .ref ki, .ref si, .ref th, .ref ri, .int at_, .int rp, .ref rk, .ref rs, .ref kt, .ref kr, .int kn, .int rg, .ref ab, .int (nI (ablW n sd av (2 ^ n)).2), .ref bh, .int bm1_35, .int br1_35, .int (nI rn), .ref wa, .ref ra])), (ki, .inl (cI, 9, .inl kd)), (si, .inl (cI, 9, .inl sd)), (ab, .inl (cI, 84, .inl (ablW n sd av (2 ^ n)).1)), (bh, .inl (cI, 3, .inl bv1_35))]) [1, 2, 3, 0, 4] (by decide) rfl
  obtain ⟨rfl, rfl, rfl⟩ := w35
  refine lv_iconst (v := 0) hx hb dX7_findMost_38 (by decide) ?_
  refine lv_istore_n (lv' := [(1, .int 0), (0, .ref x)]) hx hb dX7_findMost_39 rfl hl (by decide) rfl (fun ls hl => ?_)
  have lp40 : ∀ (fu40 : Nat) (x_ : Nat) (v1 : Int32) (v2 : Int32) (v3 : Nat → Int32) (hxx : x_ ≤ (ablW n sd av (2 ^ n)).2) (hq : xxW n kd sd (ablW n sd av (2 ^ n)).1 (ablW n sd av (2 ^ n)).2 ((ablW n sd av (2 ^ n)).2 - x_) x_ (v1, v2, v3) = xxW n kd sd (ablW n sd av (2 ^ n)).1 (ablW n sd av (2 ^ n)).2 (ablW n sd av (2 ^ n)).2 0 (ttZ n kd sd (-9, br, upd (upd (upd bv 0 0) 1 0) 2 0) 0 0 0)) (hm40 : (ablW n sd av (2 ^ n)).2 - x_ < fu40) (H : Heap) (locs : List Loc) (hP : va_P D vwCl [(x, .inr (7, [.int fa, .int tr, .ref so, .ref sl, .ref ce, .int (nI n), .int bar, .int (nI tn), .ref ki, .ref si, .ref th, .ref ri, .int at_, .int rp, .ref rk, .ref rs, .ref kt, .ref kr, .int kn, .int rg, .ref ab, .int (nI (ablW n sd av (2 ^ n)).2), .ref bh, .int v1, .int v2, .int (nI rn), .ref wa, .ref ra])), (ki, .inl (cI, 9, .inl kd)), (si, .inl (cI, 9, .inl sd)), (ab, .inl (cI, 84, .inl (ablW n sd av (2 ^ n)).1)), (bh, .inl (cI, 3, .inl v3))] H) (hD : va_D A [(x, .inr (7, [.int fa, .int tr, .ref so, .ref sl, .ref ce, .int (nI n), .int bar, .int (nI tn), .ref ki, .ref si, .ref th, .ref ri, .int at_, .int rp, .ref rk, .ref rs, .ref kt, .ref kr, .int kn, .int rg, .ref ab, .int (nI (ablW n sd av (2 ^ n)).2), .ref bh, .int v1, .int v2, .int (nI rn), .ref wa, .ref ra])), (ki, .inl (cI, 9, .inl kd)), (si, .inl (cI, 9, .inl sd)), (ab, .inl (cI, 84, .inl (ablW n sd av (2 ^ n)).1)), (bh, .inl (cI, 3, .inl v3))]) (hS : va_S A s.heap H locs) (ls : Array Slot) (hl : lv_has ls 3 [(0, .ref x), (1, .int (nI x_))]), W p l e (headSpec wsX7_findMost ({ frames := 5, cells := 0, slots := 0, locals := 119 } : Room)).room s m ([.ref x]).toArray below meth c H locs 0 0 (MQ below (va_Qv (S := Nat × Int32 × Int32 × (Nat → Int32) × (Nat → Int32)) (fun u => u.1 = (ablW n sd av (2 ^ n)).2 ∧ u.2.1 = (fmZ n kd sd av br bv).1 ∧ u.2.2.1 = (fmZ n kd sd av br bv).2.1 ∧ u.2.2.2.1 = (ablW n sd av (2 ^ n)).1 ∧ u.2.2.2.2 = (fmZ n kd sd av br bv).2.2) (fun u t => va_P D vwCl [(x, .inr (7, [.int fa, .int tr, .ref so, .ref sl, .ref ce, .int (nI n), .int bar, .int (nI tn), .ref ki, .ref si, .ref th, .ref ri, .int at_, .int rp, .ref rk, .ref rs, .ref kt, .ref kr, .int kn, .int rg, .ref ab, .int (nI u.1), .ref bh, .int u.2.1, .int u.2.2.1, .int (nI rn), .ref wa, .ref ra])), (ki, .inl (cI, 9, .inl kd)), (si, .inl (cI, 9, .inl sd)), (ab, .inl (cI, 84, .inl u.2.2.2.1)), (bh, .inl (cI, 3, .inl u.2.2.2.2))] t.heap ∧ va_K D vwCl (tyL cI cO) t ∧ va_D A [(x, .inr (7, [.int fa, .int tr, .ref so, .ref sl, .ref ce, .int (nI n), .int bar, .int (nI tn), .ref ki, .ref si, .ref th, .ref ri, .int at_, .int rp, .ref rk, .ref rs, .ref kt, .ref kr, .int kn, .int rg, .ref ab, .int (nI u.1), .ref bh, .int u.2.1, .int u.2.2.1, .int (nI rn), .ref wa, .ref ra])), (ki, .inl (cI, 9, .inl kd)), (si, .inl (cI, 9, .inl sd)), (ab, .inl (cI, 84, .inl u.2.2.2.1)), (bh, .inl (cI, 3, .inl u.2.2.2.2))]) A) ([.ref x]).toArray s 0 0 A) (F0 m 40 ls []) := by
    intro fu40
    induction fu40 with
    | zero =>
      intros; omega
    | succ fu40 ih40 =>
      intro x_ v1 v2 v3 hxx hq hm40 H locs hP hD hS ls hl
      refine lv_iload_n hx hb dX7_findMost_40 rfl (lv_at hl 1 rfl) ?_
      refine lv_aload_n hx hb dX7_findMost_41 rfl (lv_at hl 0 rfl) ?_
      refine va_get (D := D) (ci := 7) (v := .int (nI (ablW n sd av (2 ^ n)).2)) (C := RX7) (T := TX7) (N := 28) hx hb hts iX7 hown hK hP 0 rfl rfl 21 (by decide) f177 (fun _ h9 => h9) rfl dX7_findMost_42 ?_
      refine lv_icmp_ge (tgt := 116) hx hb dX7_findMost_45 (by decide) (fun c45 => ?_) (fun c45 => ?_)
      · -- t45
        have e45 : x_ = (ablW n sd av (2 ^ n)).2 := by have q := ge_n (by omega) (by omega) c45; omega
        rw [e45] at hl
        exact W.vret hx hb hr (fun t ht hW => ⟨⟨((ablW n sd av (2 ^ n)).2, v1, v2, (ablW n sd av (2 ^ n)).1, v3), rfl, by unfold fmZ; rw [← hq, e45, Nat.sub_self]; exact ⟨rfl, rfl, rfl, rfl, rfl⟩, by rw [ht]; exact hP, va_K.moved hW.alike hK, hD⟩, hS.F ht⟩) hS.2.2 dX7_findMost_116
      · -- f45
        have l45 : x_ < (ablW n sd av (2 ^ n)).2 := lt_n (by omega) (by omega) c45
        obtain ⟨ex, hx5, hx0⟩ := hab x_ l45
        refine lv_aload_n hx hb dX7_findMost_48 rfl (lv_at hl 0 rfl) ?_
        refine lv_aload_n hx hb dX7_findMost_49 rfl (lv_at hl 0 rfl) ?_
        refine va_get (D := D) (ci := 7) (v := .ref ab) (C := RX7) (T := TX7) (N := 28) hx hb hts iX7 hown hK hP 0 rfl rfl 20 (by decide) f43 (fun _ h9 => h9) rfl dX7_findMost_50 ?_
        refine lv_iload_n hx hb dX7_findMost_53 rfl (lv_at hl 1 rfl) ?_
        refine va_iald hx hb hK hP 3 0 rfl rfl (vp_in_nI (by omega) (by decide)) dX7_findMost_54 ?_
        refine tp_i (y := (ablW n sd av (2 ^ n)).1 x_) (by rw [nI_clamp (n := x_) (by omega)]) ?_
        refine tp_i (y := nI (aN (ablW n sd av (2 ^ n)).1 x_)) (ex) ?_
        refine lv_iconst (v := 0) hx hb dX7_findMost_55 (by decide) ?_
        refine lv_iconst (v := 0) hx hb dX7_findMost_56 (by decide) ?_
        have hPc := hP.sub (ws' := [(x, .inr (7, [.int fa, .int tr, .ref so, .ref sl, .ref ce, .int (nI n), .int bar, .int (nI tn), .ref ki, .ref si, .ref th, .ref ri, .int at_, .int rp, .ref rk, .ref rs, .ref kt, .ref kr, .int kn, .int rg, .ref ab, .int (nI (ablW n sd av (2 ^ n)).2), .ref bh, .int v1, .int v2, .int (nI rn), .ref wa, .ref ra])), (ki, .inl (cI, 9, .inl kd)), (si, .inl (cI, 9, .inl sd)), (bh, .inl (cI, 3, .inl v3))]) [0, 1, 2, 4] rfl
        have hDc := hD.sub (ws' := [(x, .inr (7, [.int fa, .int tr, .ref so, .ref sl, .ref ce, .int (nI n), .int bar, .int (nI tn), .ref ki, .ref si, .ref th, .ref ri, .int at_, .int rp, .ref rk, .ref rs, .ref kt, .ref kr, .int kn, .int rg, .ref ab, .int (nI (ablW n sd av (2 ^ n)).2), .ref bh, .int v1, .int v2, .int (nI rn), .ref wa, .ref ra])), (ki, .inl (cI, 9, .inl kd)), (si, .inl (cI, 9, .inl sd)), (bh, .inl (cI, 3, .inl v3))]) [0, 1, 2, 4] (by decide) rfl
        have hFc := va_free (wc := [(x, .inr (7, [.int fa, .int tr, .ref so, .ref sl, .ref ce, .int (nI n), .int bar, .int (nI tn), .ref ki, .ref si, .ref th, .ref ri, .int at_, .int rp, .ref rk, .ref rs, .ref kt, .ref kr, .int kn, .int rg, .ref ab, .int (nI (ablW n sd av (2 ^ n)).2), .ref bh, .int v1, .int v2, .int (nI rn), .ref wa, .ref ra])), (ki, .inl (cI, 9, .inl kd)), (si, .inl (cI, 9, .inl sd)), (bh, .inl (cI, 3, .inl v3))]) hD hS hA [0, 1, 2, 4] rfl
        refine va_callv (va_runV (As := [.int (nI (aN (ablW n sd av (2 ^ n)).1 x_)), .int 0, .int 0]) (rest := []) ⟨hx, hb, hml, hown, hts⟩ (c_X7_tryThrees l D cI cO x fa tr so sl ce n bar tn ki si th ri at_ rp rk rs kt kr kn rg ab (nI (ablW n sd av (2 ^ n)).2) bh v1 v2 rn wa ra kd sd v3 (nI (aN (ablW n sd av (2 ^ n)).1 x_)) 0 0 _ (by assumption) (by assumption)) (cwV 3 hts gX7_findMost_X7_tryThrees rfl rfl rfl (by decide +kernel) ⟨Nat.le_of_ble_eq_true rfl, Nat.le_of_ble_eq_true rfl⟩) (preVW hPc hK hNw hDc (va_recv hK hPc (ci := 7) (q0 := 0) rfl rfl)) rfl rfl hl.1 rfl (lv_room (Nat.le_of_ble_eq_true rfl)) dX7_findMost_57 ⟨Nat.zero_le _, Nat.zero_le _⟩) hS (fun q _ h => hFc q h) hFc (fun u t H1 locs ht hvm w57 hB hz1 hk1 hS => ?_)
        obtain ⟨bm1_57, br1_57, bv1_57⟩ := u
        obtain ⟨hP1, hK1, hD1⟩ := hB
        rw [ht] at hP1
        try dsimp only at w57
        obtain ⟨hP, hD⟩ := va_join (wr := [(ab, .inl (cI, 84, .inl (ablW n sd av (2 ^ n)).1))]) (w1 := [(x, .inr (7, [.int fa, .int tr, .ref so, .ref sl, .ref ce, .int (nI n), .int bar, .int (nI tn), .ref ki, .ref si, .ref th, .ref ri, .int at_, .int rp, .ref rk, .ref rs, .ref kt, .ref kr, .int kn, .int rg, .ref ab, .int (nI (ablW n sd av (2 ^ n)).2), .ref bh, .int bm1_57, .int br1_57, .int (nI rn), .ref wa, .ref ra])), (ki, .inl (cI, 9, .inl kd)), (si, .inl (cI, 9, .inl sd)), (bh, .inl (cI, 3, .inl bv1_57))]) hP hD [0, 1, 2, 4] [3] rfl rfl (by decide) (by decide) hk1 hFc hP1 hD1
        generalize H1 = H at hP hS ⊢
        have hP := hP.sub (ws' := [(x, .inr (7, [.int fa, .int tr, .ref so, .ref sl, .ref ce, .int (nI n), .int bar, .int (nI tn), .ref ki, .ref si, .ref th, .ref ri, .int at_, .int rp, .ref rk, .ref rs, .ref kt, .ref kr, .int kn, .int rg, .ref ab, .int (nI (ablW n sd av (2 ^ n)).2), .ref bh, .int bm1_57, .int br1_57, .int (nI rn), .ref wa, .ref ra])), (ki, .inl (cI, 9, .inl kd)), (si, .inl (cI, 9, .inl sd)), (ab, .inl (cI, 84, .inl (ablW n sd av (2 ^ n)).1)), (bh, .inl (cI, 3, .inl bv1_57))]) [1, 2, 3, 0, 4] rfl
        have hD := hD.sub (ws' := [(x, .inr (7, [.int fa, .int tr, .ref so, .ref sl, .ref ce, .int (nI n), .int bar, .int (nI tn), .ref ki, .ref si, .ref th, .ref ri, .int at_, .int rp, .ref rk, .ref rs, .ref kt, .ref kr, .int kn, .int rg, .ref ab, .int (nI (ablW n sd av (2 ^ n)).2), .ref bh, .int bm1_57, .int br1_57, .int (nI rn), .ref wa, .ref ra])), (ki, .inl (cI, 9, .inl kd)), (si, .inl (cI, 9, .inl sd)), (ab, .inl (cI, 84, .inl (ablW n sd av (2 ^ n)).1)), (bh, .inl (cI, 3, .inl bv1_57))]) [1, 2, 3, 0, 4] (by decide) rfl
        obtain ⟨rfl, rfl, rfl⟩ := w57
        refine lv_iconst (v := 0) hx hb dX7_findMost_60 (by decide) ?_
        refine lv_istore_n (lv' := [(2, .int 0), (0, .ref x), (1, .int (nI x_))]) hx hb dX7_findMost_61 rfl hl (by decide) rfl (fun ls hl => ?_)
        have lp62 : ∀ (fu62 : Nat) (y_ : Nat) (u1 : Int32) (u2 : Int32) (u3 : Nat → Int32) (hy : y_ ≤ (ablW n sd av (2 ^ n)).2) (hq2 : yyW n kd sd (ablW n sd av (2 ^ n)).1 (ablW n sd av (2 ^ n)).2 x_ ((ablW n sd av (2 ^ n)).2 - y_) y_ (u1, u2, u3) = yyW n kd sd (ablW n sd av (2 ^ n)).1 (ablW n sd av (2 ^ n)).2 x_ (ablW n sd av (2 ^ n)).2 0 (ttZ n kd sd (v1, v2, v3) (nI (aN (ablW n sd av (2 ^ n)).1 x_)) 0 0)) (hm62 : (ablW n sd av (2 ^ n)).2 - y_ < fu62) (H : Heap) (locs : List Loc) (hP : va_P D vwCl [(x, .inr (7, [.int fa, .int tr, .ref so, .ref sl, .ref ce, .int (nI n), .int bar, .int (nI tn), .ref ki, .ref si, .ref th, .ref ri, .int at_, .int rp, .ref rk, .ref rs, .ref kt, .ref kr, .int kn, .int rg, .ref ab, .int (nI (ablW n sd av (2 ^ n)).2), .ref bh, .int u1, .int u2, .int (nI rn), .ref wa, .ref ra])), (ki, .inl (cI, 9, .inl kd)), (si, .inl (cI, 9, .inl sd)), (ab, .inl (cI, 84, .inl (ablW n sd av (2 ^ n)).1)), (bh, .inl (cI, 3, .inl u3))] H) (hD : va_D A [(x, .inr (7, [.int fa, .int tr, .ref so, .ref sl, .ref ce, .int (nI n), .int bar, .int (nI tn), .ref ki, .ref si, .ref th, .ref ri, .int at_, .int rp, .ref rk, .ref rs, .ref kt, .ref kr, .int kn, .int rg, .ref ab, .int (nI (ablW n sd av (2 ^ n)).2), .ref bh, .int u1, .int u2, .int (nI rn), .ref wa, .ref ra])), (ki, .inl (cI, 9, .inl kd)), (si, .inl (cI, 9, .inl sd)), (ab, .inl (cI, 84, .inl (ablW n sd av (2 ^ n)).1)), (bh, .inl (cI, 3, .inl u3))]) (hS : va_S A s.heap H locs) (ls : Array Slot) (hl : lv_has ls 3 [(0, .ref x), (1, .int (nI x_)), (2, .int (nI y_))]), W p l e (headSpec wsX7_findMost ({ frames := 5, cells := 0, slots := 0, locals := 119 } : Room)).room s m ([.ref x]).toArray below meth c H locs 0 0 (MQ below (va_Qv (S := Nat × Int32 × Int32 × (Nat → Int32) × (Nat → Int32)) (fun u => u.1 = (ablW n sd av (2 ^ n)).2 ∧ u.2.1 = (fmZ n kd sd av br bv).1 ∧ u.2.2.1 = (fmZ n kd sd av br bv).2.1 ∧ u.2.2.2.1 = (ablW n sd av (2 ^ n)).1 ∧ u.2.2.2.2 = (fmZ n kd sd av br bv).2.2) (fun u t => va_P D vwCl [(x, .inr (7, [.int fa, .int tr, .ref so, .ref sl, .ref ce, .int (nI n), .int bar, .int (nI tn), .ref ki, .ref si, .ref th, .ref ri, .int at_, .int rp, .ref rk, .ref rs, .ref kt, .ref kr, .int kn, .int rg, .ref ab, .int (nI u.1), .ref bh, .int u.2.1, .int u.2.2.1, .int (nI rn), .ref wa, .ref ra])), (ki, .inl (cI, 9, .inl kd)), (si, .inl (cI, 9, .inl sd)), (ab, .inl (cI, 84, .inl u.2.2.2.1)), (bh, .inl (cI, 3, .inl u.2.2.2.2))] t.heap ∧ va_K D vwCl (tyL cI cO) t ∧ va_D A [(x, .inr (7, [.int fa, .int tr, .ref so, .ref sl, .ref ce, .int (nI n), .int bar, .int (nI tn), .ref ki, .ref si, .ref th, .ref ri, .int at_, .int rp, .ref rk, .ref rs, .ref kt, .ref kr, .int kn, .int rg, .ref ab, .int (nI u.1), .ref bh, .int u.2.1, .int u.2.2.1, .int (nI rn), .ref wa, .ref ra])), (ki, .inl (cI, 9, .inl kd)), (si, .inl (cI, 9, .inl sd)), (ab, .inl (cI, 84, .inl u.2.2.2.1)), (bh, .inl (cI, 3, .inl u.2.2.2.2))]) A) ([.ref x]).toArray s 0 0 A) (F0 m 62 ls []) := by
          intro fu62
          induction fu62 with
          | zero =>
            intros; omega
          | succ fu62 ih62 =>
            intro y_ u1 u2 u3 hy hq2 hm62 H locs hP hD hS ls hl
            refine lv_iload_n hx hb dX7_findMost_62 rfl (lv_at hl 2 rfl) ?_
            refine lv_aload_n hx hb dX7_findMost_63 rfl (lv_at hl 0 rfl) ?_
            refine va_get (D := D) (ci := 7) (v := .int (nI (ablW n sd av (2 ^ n)).2)) (C := RX7) (T := TX7) (N := 28) hx hb hts iX7 hown hK hP 0 rfl rfl 21 (by decide) f177 (fun _ h9 => h9) rfl dX7_findMost_64 ?_
            refine lv_icmp_ge (tgt := 110) hx hb dX7_findMost_67 (by decide) (fun c67 => ?_) (fun c67 => ?_)
            · -- t67
              have e67 : y_ = (ablW n sd av (2 ^ n)).2 := by have q := ge_n (by omega) (by omega) c67; omega
              rw [e67] at hl
              refine lv_iinc (v := nI (x_ + 1)) (lv' := [(1, .int (nI (x_ + 1))), (0, .ref x), (2, .int (nI (ablW n sd av (2 ^ n)).2))]) hx hb dX7_findMost_110 hl (k := 1) rfl (nI_1 _) (by decide) rfl (fun ls hl => ?_)
              refine lv_goto (tgt := 40) hx hb dX7_findMost_113 (by decide) ?_
              exact ih40 (x_ + 1) u1 u2 u3 (by omega) (by rw [← hq, show (ablW n sd av (2 ^ n)).2 - x_ = ((ablW n sd av (2 ^ n)).2 - (x_ + 1)) + 1 by omega, xxW_s, ← hq2, e67, Nat.sub_self]; rfl) (by omega) _ _ hP hD hS _ (lv_sub hl [1, 0] rfl)
            · -- f67
              have l67 : y_ < (ablW n sd av (2 ^ n)).2 := lt_n (by omega) (by omega) c67
              obtain ⟨ey, hy5, hy0⟩ := hab y_ l67
              refine lv_aload_n hx hb dX7_findMost_70 rfl (lv_at hl 0 rfl) ?_
              refine va_get (D := D) (ci := 7) (v := .ref ab) (C := RX7) (T := TX7) (N := 28) hx hb hts iX7 hown hK hP 0 rfl rfl 20 (by decide) f43 (fun _ h9 => h9) rfl dX7_findMost_71 ?_
              refine lv_iload_n hx hb dX7_findMost_74 rfl (lv_at hl 1 rfl) ?_
              refine va_iald hx hb hK hP 3 0 rfl rfl (vp_in_nI (by omega) (by decide)) dX7_findMost_75 ?_
              refine tp_i (y := (ablW n sd av (2 ^ n)).1 x_) (by rw [nI_clamp (n := x_) (by omega)]) ?_
              refine tp_i (y := nI (aN (ablW n sd av (2 ^ n)).1 x_)) (ex) ?_
              refine lv_aload_n hx hb dX7_findMost_76 rfl (lv_at hl 0 rfl) ?_
              refine va_get (D := D) (ci := 7) (v := .ref ab) (C := RX7) (T := TX7) (N := 28) hx hb hts iX7 hown hK hP 0 rfl rfl 20 (by decide) f43 (fun _ h9 => h9) rfl dX7_findMost_77 ?_
              refine lv_iload_n hx hb dX7_findMost_80 rfl (lv_at hl 2 rfl) ?_
              refine va_iald hx hb hK hP 3 0 rfl rfl (vp_in_nI (by omega) (by decide)) dX7_findMost_81 ?_
              refine tp_i (y := (ablW n sd av (2 ^ n)).1 y_) (by rw [nI_clamp (n := y_) (by omega)]) ?_
              refine tp_i (y := nI (aN (ablW n sd av (2 ^ n)).1 y_)) (ey) ?_
              have hPc := hP.sub (ws' := []) [] rfl
              refine vp_callSi (va_Run.run (va_runS (As := [.int (nI (aN (ablW n sd av (2 ^ n)).1 x_)), .int (nI (aN (ablW n sd av (2 ^ n)).1 y_))]) (rest := []) ⟨hx, hb, hml, hown, hts⟩ (c_X7_isBehind l D cI cO (aN (ablW n sd av (2 ^ n)).1 x_) (aN (ablW n sd av (2 ^ n)).1 y_) (by assumption) (by assumption) (by assumption) (by assumption)) (va_cwS 2 hts gX7_findMost_X7_isBehind rfl rfl rfl (by decide +kernel) ⟨Nat.le_of_ble_eq_true rfl, Nat.le_of_ble_eq_true rfl⟩) (preSR hPc hK hNw) rfl rfl hl.1 rfl (lv_room (Nat.le_of_ble_eq_true rfl)) dX7_findMost_82 ⟨Nat.zero_le _, Nat.zero_le _⟩)) (fun r82 w82 => ?_)
              by_cases b82 : bhB (aN (ablW n sd av (2 ^ n)).1 x_) (aN (ablW n sd av (2 ^ n)).1 y_) = true
              · -- y82
                obtain rfl := w82.1 b82
                refine lv_if_eq (tgt := 104) hx hb dX7_findMost_85 (by decide) (fun h => absurd h (by decide)) (fun _ => ?_)
                refine lv_aload_n hx hb dX7_findMost_88 rfl (lv_at hl 0 rfl) ?_
                refine lv_aload_n hx hb dX7_findMost_89 rfl (lv_at hl 0 rfl) ?_
                refine va_get (D := D) (ci := 7) (v := .ref ab) (C := RX7) (T := TX7) (N := 28) hx hb hts iX7 hown hK hP 0 rfl rfl 20 (by decide) f43 (fun _ h9 => h9) rfl dX7_findMost_90 ?_
                refine lv_iload_n hx hb dX7_findMost_93 rfl (lv_at hl 1 rfl) ?_
                refine va_iald hx hb hK hP 3 0 rfl rfl (vp_in_nI (by omega) (by decide)) dX7_findMost_94 ?_
                refine tp_i (y := (ablW n sd av (2 ^ n)).1 x_) (by rw [nI_clamp (n := x_) (by omega)]) ?_
                refine tp_i (y := nI (aN (ablW n sd av (2 ^ n)).1 x_)) (ex) ?_
                refine lv_aload_n hx hb dX7_findMost_95 rfl (lv_at hl 0 rfl) ?_
                refine va_get (D := D) (ci := 7) (v := .ref ab) (C := RX7) (T := TX7) (N := 28) hx hb hts iX7 hown hK hP 0 rfl rfl 20 (by decide) f43 (fun _ h9 => h9) rfl dX7_findMost_96 ?_
                refine lv_iload_n hx hb dX7_findMost_99 rfl (lv_at hl 2 rfl) ?_
                refine va_iald hx hb hK hP 3 0 rfl rfl (vp_in_nI (by omega) (by decide)) dX7_findMost_100 ?_
                refine tp_i (y := (ablW n sd av (2 ^ n)).1 y_) (by rw [nI_clamp (n := y_) (by omega)]) ?_
                refine tp_i (y := nI (aN (ablW n sd av (2 ^ n)).1 y_)) (ey) ?_
                have hPc := hP.sub (ws' := [(x, .inr (7, [.int fa, .int tr, .ref so, .ref sl, .ref ce, .int (nI n), .int bar, .int (nI tn), .ref ki, .ref si, .ref th, .ref ri, .int at_, .int rp, .ref rk, .ref rs, .ref kt, .ref kr, .int kn, .int rg, .ref ab, .int (nI (ablW n sd av (2 ^ n)).2), .ref bh, .int u1, .int u2, .int (nI rn), .ref wa, .ref ra])), (ki, .inl (cI, 9, .inl kd)), (si, .inl (cI, 9, .inl sd)), (ab, .inl (cI, 84, .inl (ablW n sd av (2 ^ n)).1)), (bh, .inl (cI, 3, .inl u3))]) [0, 1, 2, 3, 4] rfl
                have hDc := hD.sub (ws' := [(x, .inr (7, [.int fa, .int tr, .ref so, .ref sl, .ref ce, .int (nI n), .int bar, .int (nI tn), .ref ki, .ref si, .ref th, .ref ri, .int at_, .int rp, .ref rk, .ref rs, .ref kt, .ref kr, .int kn, .int rg, .ref ab, .int (nI (ablW n sd av (2 ^ n)).2), .ref bh, .int u1, .int u2, .int (nI rn), .ref wa, .ref ra])), (ki, .inl (cI, 9, .inl kd)), (si, .inl (cI, 9, .inl sd)), (ab, .inl (cI, 84, .inl (ablW n sd av (2 ^ n)).1)), (bh, .inl (cI, 3, .inl u3))]) [0, 1, 2, 3, 4] (by decide) rfl
                have hFc := va_free (wc := [(x, .inr (7, [.int fa, .int tr, .ref so, .ref sl, .ref ce, .int (nI n), .int bar, .int (nI tn), .ref ki, .ref si, .ref th, .ref ri, .int at_, .int rp, .ref rk, .ref rs, .ref kt, .ref kr, .int kn, .int rg, .ref ab, .int (nI (ablW n sd av (2 ^ n)).2), .ref bh, .int u1, .int u2, .int (nI rn), .ref wa, .ref ra])), (ki, .inl (cI, 9, .inl kd)), (si, .inl (cI, 9, .inl sd)), (ab, .inl (cI, 84, .inl (ablW n sd av (2 ^ n)).1)), (bh, .inl (cI, 3, .inl u3))]) hD hS hA [0, 1, 2, 3, 4] rfl
                refine va_callv (va_runV (As := [.int (nI (aN (ablW n sd av (2 ^ n)).1 x_)), .int (nI (aN (ablW n sd av (2 ^ n)).1 y_))]) (rest := []) ⟨hx, hb, hml, hown, hts⟩ (c_X7_findThird l D cI cO x fa tr so sl ce n bar tn ki si th ri at_ rp rk rs kt kr kn rg ab bh u1 u2 rn wa ra (ablW n sd av (2 ^ n)).2 kd sd (ablW n sd av (2 ^ n)).1 u3 (aN (ablW n sd av (2 ^ n)).1 x_) (aN (ablW n sd av (2 ^ n)).1 y_) _ (by assumption) (by assumption) (by assumption) (by assumption) (by assumption) (by assumption) (by assumption)) (cwV 2 hts gX7_findMost_X7_findThird rfl rfl rfl (by decide +kernel) ⟨Nat.le_of_ble_eq_true rfl, Nat.le_of_ble_eq_true rfl⟩) (preVW hPc hK hNw hDc (va_recv hK hPc (ci := 7) (q0 := 0) rfl rfl)) rfl rfl hl.1 rfl (lv_room (Nat.le_of_ble_eq_true rfl)) dX7_findMost_101 ⟨Nat.zero_le _, Nat.zero_le _⟩) hS (fun q _ h => hFc q h) hFc (fun u t H1 locs ht hvm w101 hB hz1 hk1 hS => ?_)
                obtain ⟨bm1_101, br1_101, bv1_101⟩ := u
                obtain ⟨hP1, hK1, hD1⟩ := hB
                rw [ht] at hP1
                try dsimp only at w101
                obtain ⟨hP, hD⟩ := va_join (wr := []) (w1 := [(x, .inr (7, [.int fa, .int tr, .ref so, .ref sl, .ref ce, .int (nI n), .int bar, .int (nI tn), .ref ki, .ref si, .ref th, .ref ri, .int at_, .int rp, .ref rk, .ref rs, .ref kt, .ref kr, .int kn, .int rg, .ref ab, .int (nI (ablW n sd av (2 ^ n)).2), .ref bh, .int bm1_101, .int br1_101, .int (nI rn), .ref wa, .ref ra])), (ki, .inl (cI, 9, .inl kd)), (si, .inl (cI, 9, .inl sd)), (ab, .inl (cI, 84, .inl (ablW n sd av (2 ^ n)).1)), (bh, .inl (cI, 3, .inl bv1_101))]) hP hD [0, 1, 2, 3, 4] [] rfl rfl (by decide) (by decide) hk1 hFc hP1 hD1
                generalize H1 = H at hP hS ⊢
                have hP := hP.sub (ws' := [(x, .inr (7, [.int fa, .int tr, .ref so, .ref sl, .ref ce, .int (nI n), .int bar, .int (nI tn), .ref ki, .ref si, .ref th, .ref ri, .int at_, .int rp, .ref rk, .ref rs, .ref kt, .ref kr, .int kn, .int rg, .ref ab, .int (nI (ablW n sd av (2 ^ n)).2), .ref bh, .int bm1_101, .int br1_101, .int (nI rn), .ref wa, .ref ra])), (ki, .inl (cI, 9, .inl kd)), (si, .inl (cI, 9, .inl sd)), (ab, .inl (cI, 84, .inl (ablW n sd av (2 ^ n)).1)), (bh, .inl (cI, 3, .inl bv1_101))]) [0, 1, 2, 3, 4] rfl
                have hD := hD.sub (ws' := [(x, .inr (7, [.int fa, .int tr, .ref so, .ref sl, .ref ce, .int (nI n), .int bar, .int (nI tn), .ref ki, .ref si, .ref th, .ref ri, .int at_, .int rp, .ref rk, .ref rs, .ref kt, .ref kr, .int kn, .int rg, .ref ab, .int (nI (ablW n sd av (2 ^ n)).2), .ref bh, .int bm1_101, .int br1_101, .int (nI rn), .ref wa, .ref ra])), (ki, .inl (cI, 9, .inl kd)), (si, .inl (cI, 9, .inl sd)), (ab, .inl (cI, 84, .inl (ablW n sd av (2 ^ n)).1)), (bh, .inl (cI, 3, .inl bv1_101))]) [0, 1, 2, 3, 4] (by decide) rfl
                obtain ⟨rfl, rfl, rfl⟩ := w101
                refine lv_iinc (v := nI (y_ + 1)) (lv' := [(2, .int (nI (y_ + 1))), (0, .ref x), (1, .int (nI x_))]) hx hb dX7_findMost_104 hl (k := 2) rfl (nI_1 _) (by decide) rfl (fun ls hl => ?_)
                refine lv_goto (tgt := 62) hx hb dX7_findMost_107 (by decide) ?_
                exact ih62 (y_ + 1) (ftZ n kd sd (ablW n sd av (2 ^ n)).1 (ablW n sd av (2 ^ n)).2 (aN (ablW n sd av (2 ^ n)).1 x_) (aN (ablW n sd av (2 ^ n)).1 y_) (u1, u2, u3)).1 (ftZ n kd sd (ablW n sd av (2 ^ n)).1 (ablW n sd av (2 ^ n)).2 (aN (ablW n sd av (2 ^ n)).1 x_) (aN (ablW n sd av (2 ^ n)).1 y_) (u1, u2, u3)).2.1 (ftZ n kd sd (ablW n sd av (2 ^ n)).1 (ablW n sd av (2 ^ n)).2 (aN (ablW n sd av (2 ^ n)).1 x_) (aN (ablW n sd av (2 ^ n)).1 y_) (u1, u2, u3)).2.2 (by omega) (by rw [← hq2, show (ablW n sd av (2 ^ n)).2 - y_ = ((ablW n sd av (2 ^ n)).2 - (y_ + 1)) + 1 by omega, yyW_s]; first | (rw [if_neg b82]; done) | (rw [if_pos b82]; done)) (by omega) _ _ hP hD hS _ (lv_sub hl [1, 2, 0] rfl)
              · -- n82
                obtain rfl := w82.2 b82
                refine lv_if_eq (tgt := 104) hx hb dX7_findMost_85 (by decide) (fun _ => ?_) (fun h => absurd (by decide) h)
                refine lv_iinc (v := nI (y_ + 1)) (lv' := [(2, .int (nI (y_ + 1))), (0, .ref x), (1, .int (nI x_))]) hx hb dX7_findMost_104 hl (k := 2) rfl (nI_1 _) (by decide) rfl (fun ls hl => ?_)
                refine lv_goto (tgt := 62) hx hb dX7_findMost_107 (by decide) ?_
                exact ih62 (y_ + 1) u1 u2 u3 (by omega) (by rw [← hq2, show (ablW n sd av (2 ^ n)).2 - y_ = ((ablW n sd av (2 ^ n)).2 - (y_ + 1)) + 1 by omega, yyW_s]; first | (rw [if_neg b82]; done) | (rw [if_pos b82]; done)) (by omega) _ _ hP hD hS _ (lv_sub hl [1, 2, 0] rfl)
        exact lp62 _ 0 (ttZ n kd sd (v1, v2, v3) (nI (aN (ablW n sd av (2 ^ n)).1 x_)) 0 0).1 (ttZ n kd sd (v1, v2, v3) (nI (aN (ablW n sd av (2 ^ n)).1 x_)) 0 0).2.1 (ttZ n kd sd (v1, v2, v3) (nI (aN (ablW n sd av (2 ^ n)).1 x_)) 0 0).2.2 (Nat.zero_le _) (rfl) (Nat.lt_succ_self _) _ _ hP hD hS _ (lv_sub hl [1, 2, 0] rfl)
  exact lp40 _ 0 (ttZ n kd sd ((-9), br, (upd (upd (upd bv 0 0) 1 0) 2 0)) 0 0 0).1 (ttZ n kd sd ((-9), br, (upd (upd (upd bv 0 0) 1 0) 2 0)) 0 0 0).2.1 (ttZ n kd sd ((-9), br, (upd (upd (upd bv 0 0) 1 0) 2 0)) 0 0 0).2.2 (Nat.zero_le _) (rfl) (Nat.lt_succ_self _) _ _ hP hD hS _ (lv_sub hl [1, 0] rfl)

set_option maxHeartbeats 4000000 in
set_option maxRecDepth 100000 in
theorem c_X7_most (l : Launch) (D : va_G) (cI cO : ClassId) (x : Nat) (fa : Int32) (tr : Int32) (so : Nat) (sl : Nat) (ce : Nat) (n : Nat) (bar : Int32) (tn : Nat) (ki : Nat) (si : Nat) (th : Nat) (ri : Nat) (at_ : Int32) (rp : Int32) (rk : Nat) (rs : Nat) (kt : Nat) (kr : Nat) (kn : Int32) (rg : Int32) (ab : Nat) (am : Int32) (bh : Nat) (bm : Int32) (br : Int32) (rn : Nat) (wa : Nat) (ra : Nat) (kd : Nat → Int32) (sd : Nat → Int32) (av : Nat → Int32) (bv : Nat → Int32) (kk : Int32) (sz : Nat) (hn : n ≤ 9) (hk3 : ∀ j, j < n → kd j = 0 ∨ kd j = 1 ∨ kd j = 2) : Met l yX7_most wsX7_most ({ frames := 6, cells := 0, slots := 0, locals := 141 } : Room) (va_Pc [.ref x, .int kk] (wdW D cI cO [(x, .inr (7, [.int fa, .int tr, .ref so, .ref sl, .ref ce, .int (nI n), .int bar, .int (nI tn), .ref ki, .ref si, .ref th, .ref ri, .int at_, .int rp, .ref rk, .ref rs, .ref kt, .ref kr, .int kn, .int rg, .ref ab, .int am, .ref bh, .int bm, .int br, .int (nI rn), .ref wa, .ref ra])), (ki, .inl (cI, 9, .inl kd)), (si, .inl (cI, 9, .inl sd)), (ab, .inl (cI, 84, .inl av)), (bh, .inl (cI, 3, .inl bv))] sz)) (va_Qi (S := Int32 × Int32 × Int32 × (Nat → Int32) × (Nat → Int32)) (fun r u => r = (if lstT kk (-2) 8 = true then (if nI n = 0 then -3 else if kk < 0 then (if kk = -2 then (fmZ n kd sd av br bv).1 else (fmZ n kd sd av br bv).2.1) else (if plI ((fmZ n kd sd av br bv).2.2 0) ((fmZ n kd sd av br bv).2.2 1) ((fmZ n kd sd av br bv).2.2 2) kk.toNatClampNeg = 9 then -9 else plI ((fmZ n kd sd av br bv).2.2 0) ((fmZ n kd sd av br bv).2.2 1) ((fmZ n kd sd av br bv).2.2 2) kk.toNatClampNeg)) else -2)) (fun u t => va_P D vwCl [(x, .inr (7, [.int fa, .int tr, .ref so, .ref sl, .ref ce, .int (nI n), .int bar, .int (nI tn), .ref ki, .ref si, .ref th, .ref ri, .int at_, .int rp, .ref rk, .ref rs, .ref kt, .ref kr, .int kn, .int rg, .ref ab, .int u.1, .ref bh, .int u.2.1, .int u.2.2.1, .int (nI rn), .ref wa, .ref ra])), (ki, .inl (cI, 9, .inl kd)), (si, .inl (cI, 9, .inl sd)), (ab, .inl (cI, 84, .inl u.2.2.2.1)), (bh, .inl (cI, 3, .inl u.2.2.2.2))] t.heap ∧ va_K D vwCl (tyL cI cO) t ∧ va_D (va_A [(x, .inr (7, [.int fa, .int tr, .ref so, .ref sl, .ref ce, .int (nI n), .int bar, .int (nI tn), .ref ki, .ref si, .ref th, .ref ri, .int at_, .int rp, .ref rk, .ref rs, .ref kt, .ref kr, .int kn, .int rg, .ref ab, .int am, .ref bh, .int bm, .int br, .int (nI rn), .ref wa, .ref ra])), (ki, .inl (cI, 9, .inl kd)), (si, .inl (cI, 9, .inl sd)), (ab, .inl (cI, 84, .inl av)), (bh, .inl (cI, 3, .inl bv))] sz) [(x, .inr (7, [.int fa, .int tr, .ref so, .ref sl, .ref ce, .int (nI n), .int bar, .int (nI tn), .ref ki, .ref si, .ref th, .ref ri, .int at_, .int rp, .ref rk, .ref rs, .ref kt, .ref kr, .int kn, .int rg, .ref ab, .int u.1, .ref bh, .int u.2.1, .int u.2.2.1, .int (nI rn), .ref wa, .ref ra])), (ki, .inl (cI, 9, .inl kd)), (si, .inl (cI, 9, .inl sd)), (ab, .inl (cI, 84, .inl u.2.2.2.1)), (bh, .inl (cI, 3, .inl u.2.2.2.2))]) (va_A [(x, .inr (7, [.int fa, .int tr, .ref so, .ref sl, .ref ce, .int (nI n), .int bar, .int (nI tn), .ref ki, .ref si, .ref th, .ref ri, .int at_, .int rp, .ref rk, .ref rs, .ref kt, .ref kr, .int kn, .int rg, .ref ab, .int am, .ref bh, .int bm, .int br, .int (nI rn), .ref wa, .ref ra])), (ki, .inl (cI, 9, .inl kd)), (si, .inl (cI, 9, .inl sd)), (ab, .inl (cI, 84, .inl av)), (bh, .inl (cI, 3, .inl bv))] sz)) 0 0 (va_A [(x, .inr (7, [.int fa, .int tr, .ref so, .ref sl, .ref ce, .int (nI n), .int bar, .int (nI tn), .ref ki, .ref si, .ref th, .ref ri, .int at_, .int rp, .ref rk, .ref rs, .ref kt, .ref kr, .int kn, .int rg, .ref ab, .int am, .ref bh, .int bm, .int br, .int (nI rn), .ref wa, .ref ra])), (ki, .inl (cI, 9, .inl kd)), (si, .inl (cI, 9, .inl sd)), (ab, .inl (cI, 84, .inl av)), (bh, .inl (cI, 3, .inl bv))] sz) := by
  refine Met.ofW (cc := cX7_most) (maxL := 3) (ret := (some .int)) (by decide) rfl ?_
  intro p e s m args below meth c s₁ B hml hv
  obtain ⟨rfl, hsz, hP, hK, hNw, hD0⟩ := hv
  have hx := B.exec
  have hb := B.bytes
  have hr := B.returns
  have hts := atoms_spec (ws := wsX7_most) B.pre
  have hown : s.vm.findClass RX7 = some m.cls := findClass_of_methodNamed B.named
  have hlocks := B.notSynchronized
  have f46 := hts (.fieldLink RX7 46 "StruckThreesModel" "bestThree" "[I") (by decide +kernel)
  have f65 := hts (.fieldLink RX7 65 "StruckThreesModel" "people" "I") (by decide +kernel)
  have f183 := hts (.fieldLink RX7 183 "StruckThreesModel" "bestMany" "I") (by decide +kernel)
  have f186 := hts (.fieldLink RX7 186 "StruckThreesModel" "bestRings" "I") (by decide +kernel)
  have iX7 : ∀ w ∈ wsX70, w ∈ wsX7_most := by decide +kernel
  subst hsz
  have hD := hD0.self (sz := s.heap.size)
  generalize hAe : va_A [(x, .inr (7, [.int fa, .int tr, .ref so, .ref sl, .ref ce, .int (nI n), .int bar, .int (nI tn), .ref ki, .ref si, .ref th, .ref ri, .int at_, .int rp, .ref rk, .ref rs, .ref kt, .ref kr, .int kn, .int rg, .ref ab, .int am, .ref bh, .int bm, .int br, .int (nI rn), .ref wa, .ref ra])), (ki, .inl (cI, 9, .inl kd)), (si, .inl (cI, 9, .inl sd)), (ab, .inl (cI, 84, .inl av)), (bh, .inl (cI, 3, .inl bv))] s.heap.size = A at hD ⊢
  have hA : ∀ q : Nat, s.heap.size ≤ q → A q := fun q h => by rw [← hAe]; exact Or.inr h
  have hS : va_S A s.heap s.heap [] := va_S.rf
  have hP : va_P D vwCl [(x, .inr (7, [.int fa, .int tr, .ref so, .ref sl, .ref ce, .int (nI n), .int bar, .int (nI tn), .ref ki, .ref si, .ref th, .ref ri, .int at_, .int rp, .ref rk, .ref rs, .ref kt, .ref kr, .int kn, .int rg, .ref ab, .int am, .ref bh, .int bm, .int br, .int (nI rn), .ref wa, .ref ra])), (ki, .inl (cI, 9, .inl kd)), (si, .inl (cI, 9, .inl sd)), (ab, .inl (cI, 84, .inl av)), (bh, .inl (cI, 3, .inl bv))] s.heap := hP
  have hl := lv_entry ([.ref x, .int kk]) (n := 3) (Nat.le_of_ble_eq_true rfl)
  rw [lg_entry_eq]
  generalize (lg_sl ([.ref x, .int kk]) ++ List.replicate (3 - (lg_sl ([.ref x, .int kk])).length) Slot.unset).toArray = ls at hl ⊢
  have hl : lv_has ls 3 [(0, .ref x), (1, .int kk)] := hl
  refine lv_iload_n hx hb dX7_most_0 rfl (lv_at hl 1 rfl) ?_
  refine lv_bipush (v := -2) hx hb dX7_most_1 (by decide) ?_
  refine lv_bipush (v := 8) hx hb dX7_most_3 (by decide) ?_
  have hPc := hP.sub (ws' := []) [] rfl
  refine vp_callSi (va_Run.run (va_runS (As := [.int kk, .int (-2), .int 8]) (rest := []) ⟨hx, hb, hml, hown, hts⟩ (c_X7_within l D cI cO kk (-2) 8) (va_cwS 3 hts gX7_most_X7_within rfl rfl rfl (by decide +kernel) ⟨Nat.le_of_ble_eq_true rfl, Nat.le_of_ble_eq_true rfl⟩) (preSR hPc hK hNw) rfl rfl hl.1 rfl (lv_room (Nat.le_of_ble_eq_true rfl)) dX7_most_5 ⟨Nat.zero_le _, Nat.zero_le _⟩)) (fun r5 w5 => ?_)
  by_cases b5 : lstT kk (-2) 8 = true
  · -- y5
    obtain rfl := w5.1 b5
    refine lv_if_ne (tgt := 14) hx hb dX7_most_8 (by decide) (fun _ => ?_) (fun h => absurd h (by decide))
    refine lv_aload_n hx hb dX7_most_14 rfl (lv_at hl 0 rfl) ?_
    refine va_get (D := D) (ci := 7) (v := .int (nI n)) (C := RX7) (T := TX7) (N := 28) hx hb hts iX7 hown hK hP 0 rfl rfl 5 (by decide) f65 (fun _ h9 => h9) rfl dX7_most_15 ?_
    refine lv_if_ne (tgt := 24) hx hb dX7_most_18 (by decide) (fun c18 => ?_) (fun c18 => ?_)
    · -- t18
      refine lv_aload_n hx hb dX7_most_24 rfl (lv_at hl 0 rfl) ?_
      have hPc := hP.sub (ws' := [(x, .inr (7, [.int fa, .int tr, .ref so, .ref sl, .ref ce, .int (nI n), .int bar, .int (nI tn), .ref ki, .ref si, .ref th, .ref ri, .int at_, .int rp, .ref rk, .ref rs, .ref kt, .ref kr, .int kn, .int rg, .ref ab, .int am, .ref bh, .int bm, .int br, .int (nI rn), .ref wa, .ref ra])), (ki, .inl (cI, 9, .inl kd)), (si, .inl (cI, 9, .inl sd)), (ab, .inl (cI, 84, .inl av)), (bh, .inl (cI, 3, .inl bv))]) [0, 1, 2, 3, 4] rfl
      have hDc := hD.sub (ws' := [(x, .inr (7, [.int fa, .int tr, .ref so, .ref sl, .ref ce, .int (nI n), .int bar, .int (nI tn), .ref ki, .ref si, .ref th, .ref ri, .int at_, .int rp, .ref rk, .ref rs, .ref kt, .ref kr, .int kn, .int rg, .ref ab, .int am, .ref bh, .int bm, .int br, .int (nI rn), .ref wa, .ref ra])), (ki, .inl (cI, 9, .inl kd)), (si, .inl (cI, 9, .inl sd)), (ab, .inl (cI, 84, .inl av)), (bh, .inl (cI, 3, .inl bv))]) [0, 1, 2, 3, 4] (by decide) rfl
      have hFc := va_free (wc := [(x, .inr (7, [.int fa, .int tr, .ref so, .ref sl, .ref ce, .int (nI n), .int bar, .int (nI tn), .ref ki, .ref si, .ref th, .ref ri, .int at_, .int rp, .ref rk, .ref rs, .ref kt, .ref kr, .int kn, .int rg, .ref ab, .int am, .ref bh, .int bm, .int br, .int (nI rn), .ref wa, .ref ra])), (ki, .inl (cI, 9, .inl kd)), (si, .inl (cI, 9, .inl sd)), (ab, .inl (cI, 84, .inl av)), (bh, .inl (cI, 3, .inl bv))]) hD hS hA [0, 1, 2, 3, 4] rfl
      refine va_callv (va_runV (As := []) (rest := []) ⟨hx, hb, hml, hown, hts⟩ (c_X7_findMost l D cI cO x fa tr so sl ce n bar tn ki si th ri at_ rp rk rs kt kr kn rg ab am bh bm br rn wa ra kd sd av bv _ (by assumption) (by assumption)) (cwV 0 hts gX7_most_X7_findMost rfl rfl rfl (by decide +kernel) ⟨Nat.le_of_ble_eq_true rfl, Nat.le_of_ble_eq_true rfl⟩) (preVW hPc hK hNw hDc (va_recv hK hPc (ci := 7) (q0 := 0) rfl rfl)) rfl rfl hl.1 rfl (lv_room (Nat.le_of_ble_eq_true rfl)) dX7_most_25 ⟨Nat.zero_le _, Nat.zero_le _⟩) hS (fun q _ h => hFc q h) hFc (fun u t H1 locs ht hvm w25 hB hz1 hk1 hS => ?_)
      obtain ⟨am1_25, bm1_25, br1_25, av1_25, bv1_25⟩ := u
      obtain ⟨hP1, hK1, hD1⟩ := hB
      rw [ht] at hP1
      try dsimp only at w25
      obtain ⟨hP, hD⟩ := va_join (wr := []) (w1 := [(x, .inr (7, [.int fa, .int tr, .ref so, .ref sl, .ref ce, .int (nI n), .int bar, .int (nI tn), .ref ki, .ref si, .ref th, .ref ri, .int at_, .int rp, .ref rk, .ref rs, .ref kt, .ref kr, .int kn, .int rg, .ref ab, .int (nI am1_25), .ref bh, .int bm1_25, .int br1_25, .int (nI rn), .ref wa, .ref ra])), (ki, .inl (cI, 9, .inl kd)), (si, .inl (cI, 9, .inl sd)), (ab, .inl (cI, 84, .inl av1_25)), (bh, .inl (cI, 3, .inl bv1_25))]) hP hD [0, 1, 2, 3, 4] [] rfl rfl (by decide) (by decide) hk1 hFc hP1 hD1
      generalize H1 = H at hP hS ⊢
      have hP := hP.sub (ws' := [(x, .inr (7, [.int fa, .int tr, .ref so, .ref sl, .ref ce, .int (nI n), .int bar, .int (nI tn), .ref ki, .ref si, .ref th, .ref ri, .int at_, .int rp, .ref rk, .ref rs, .ref kt, .ref kr, .int kn, .int rg, .ref ab, .int (nI am1_25), .ref bh, .int bm1_25, .int br1_25, .int (nI rn), .ref wa, .ref ra])), (ki, .inl (cI, 9, .inl kd)), (si, .inl (cI, 9, .inl sd)), (ab, .inl (cI, 84, .inl av1_25)), (bh, .inl (cI, 3, .inl bv1_25))]) [0, 1, 2, 3, 4] rfl
      have hD := hD.sub (ws' := [(x, .inr (7, [.int fa, .int tr, .ref so, .ref sl, .ref ce, .int (nI n), .int bar, .int (nI tn), .ref ki, .ref si, .ref th, .ref ri, .int at_, .int rp, .ref rk, .ref rs, .ref kt, .ref kr, .int kn, .int rg, .ref ab, .int (nI am1_25), .ref bh, .int bm1_25, .int br1_25, .int (nI rn), .ref wa, .ref ra])), (ki, .inl (cI, 9, .inl kd)), (si, .inl (cI, 9, .inl sd)), (ab, .inl (cI, 84, .inl av1_25)), (bh, .inl (cI, 3, .inl bv1_25))]) [0, 1, 2, 3, 4] (by decide) rfl
      obtain ⟨rfl, rfl, rfl, rfl, rfl⟩ := w25
      refine lv_iload_n hx hb dX7_most_28 rfl (lv_at hl 1 rfl) ?_
      refine lv_if_ge (tgt := 50) hx hb dX7_most_29 (by decide) (fun c29 => ?_) (fun c29 => ?_)
      · -- t29
        obtain ⟨j, hj, ej⟩ : ∃ j, j < 9 ∧ kk = nI j := kk_j2 c29 b5
        refine lv_aload_n hx hb dX7_most_50 rfl (lv_at hl 0 rfl) ?_
        refine va_get (D := D) (ci := 7) (v := .ref bh) (C := RX7) (T := TX7) (N := 28) hx hb hts iX7 hown hK hP 0 rfl rfl 22 (by decide) f46 (fun _ h9 => h9) rfl dX7_most_51 ?_
        refine lv_iconst (v := 0) hx hb dX7_most_54 (by decide) ?_
        refine va_iald hx hb hK hP 4 0 rfl rfl (show vp_in (nI 0) _ from vp_in_nI (by decide) (by decide)) dX7_most_55 ?_
        refine tp_i (y := (fmZ n kd sd av br bv).2.2 0) (by rw [show (0 : Int32).toNatClampNeg = 0 from by decide]) ?_
        refine lv_aload_n hx hb dX7_most_56 rfl (lv_at hl 0 rfl) ?_
        refine va_get (D := D) (ci := 7) (v := .ref bh) (C := RX7) (T := TX7) (N := 28) hx hb hts iX7 hown hK hP 0 rfl rfl 22 (by decide) f46 (fun _ h9 => h9) rfl dX7_most_57 ?_
        refine lv_iconst (v := 1) hx hb dX7_most_60 (by decide) ?_
        refine va_iald hx hb hK hP 4 0 rfl rfl (show vp_in (nI 1) _ from vp_in_nI (by decide) (by decide)) dX7_most_61 ?_
        refine tp_i (y := (fmZ n kd sd av br bv).2.2 1) (by rw [show (1 : Int32).toNatClampNeg = 1 from by decide]) ?_
        refine lv_aload_n hx hb dX7_most_62 rfl (lv_at hl 0 rfl) ?_
        refine va_get (D := D) (ci := 7) (v := .ref bh) (C := RX7) (T := TX7) (N := 28) hx hb hts iX7 hown hK hP 0 rfl rfl 22 (by decide) f46 (fun _ h9 => h9) rfl dX7_most_63 ?_
        refine lv_iconst (v := 2) hx hb dX7_most_66 (by decide) ?_
        refine va_iald hx hb hK hP 4 0 rfl rfl (show vp_in (nI 2) _ from vp_in_nI (by decide) (by decide)) dX7_most_67 ?_
        refine tp_i (y := (fmZ n kd sd av br bv).2.2 2) (by rw [show (2 : Int32).toNatClampNeg = 2 from by decide]) ?_
        refine lv_iload_n hx hb dX7_most_68 rfl (lv_at hl 1 rfl) ?_
        refine tp_i (y := nI j) (ej) ?_
        have hPc := hP.sub (ws' := []) [] rfl
        refine vp_callSi (va_Run.run (va_runS (As := [.int ((fmZ n kd sd av br bv).2.2 0), .int ((fmZ n kd sd av br bv).2.2 1), .int ((fmZ n kd sd av br bv).2.2 2), .int (nI j)]) (rest := []) ⟨hx, hb, hml, hown, hts⟩ (c_X7_placeIn l D cI cO ((fmZ n kd sd av br bv).2.2 0) ((fmZ n kd sd av br bv).2.2 1) ((fmZ n kd sd av br bv).2.2 2) j (by omega)) (va_cwS 4 hts gX7_most_X7_placeIn rfl rfl rfl (by decide +kernel) ⟨Nat.le_of_ble_eq_true rfl, Nat.le_of_ble_eq_true rfl⟩) (preSR hPc hK hNw) rfl rfl hl.1 rfl (lv_room (Nat.le_of_ble_eq_true rfl)) dX7_most_69 ⟨Nat.zero_le _, Nat.zero_le _⟩)) (fun r69 w69 => ?_)
        obtain rfl := w69
        refine lv_istore_n (lv' := [(2, .int (plI ((fmZ n kd sd av br bv).2.2 0) ((fmZ n kd sd av br bv).2.2 1) ((fmZ n kd sd av br bv).2.2 2) j)), (0, .ref x), (1, .int kk)]) hx hb dX7_most_72 rfl hl (by decide) rfl (fun ls hl => ?_)
        refine lv_iload_n hx hb dX7_most_73 rfl (lv_at hl 0 rfl) ?_
        refine lv_bipush (v := 9) hx hb dX7_most_74 (by decide) ?_
        refine lv_icmp_ne (tgt := 84) hx hb dX7_most_76 (by decide) (fun c76 => ?_) (fun c76 => ?_)
        · -- t76
          refine lv_iload_n hx hb dX7_most_84 rfl (lv_at hl 0 rfl) ?_
          exact W.iret (v := plI ((fmZ n kd sd av br bv).2.2 0) ((fmZ n kd sd av br bv).2.2 1) ((fmZ n kd sd av br bv).2.2 2) j) hx hb hr (fun t ht hW => ⟨⟨_, (nI (ablW n sd av (2 ^ n)).2, (fmZ n kd sd av br bv).1, (fmZ n kd sd av br bv).2.1, (ablW n sd av (2 ^ n)).1, (fmZ n kd sd av br bv).2.2), rfl, by rw [if_pos b5, if_neg c18, if_neg (by rw [ej]; exact nI_pos (by omega)), ej, nI_clamp (n := j) (by omega)]; simp [c76], by rw [ht]; exact hP, va_K.moved hW.alike hK, hD⟩, hS.F ht⟩) hS.2.2 dX7_most_85
        · -- f76
          refine lv_bipush (v := -9) hx hb dX7_most_79 (by decide) ?_
          refine lv_goto (tgt := 85) hx hb dX7_most_81 (by decide) ?_
          exact W.iret (v := -9) hx hb hr (fun t ht hW => ⟨⟨_, (nI (ablW n sd av (2 ^ n)).2, (fmZ n kd sd av br bv).1, (fmZ n kd sd av br bv).2.1, (ablW n sd av (2 ^ n)).1, (fmZ n kd sd av br bv).2.2), rfl, by rw [if_pos b5, if_neg c18, if_neg (by rw [ej]; exact nI_pos (by omega)), ej, nI_clamp (n := j) (by omega)]; simp [c76], by rw [ht]; exact hP, va_K.moved hW.alike hK, hD⟩, hS.F ht⟩) hS.2.2 dX7_most_85
      · -- f29
        have z29 : kk < 0 := nle_lt c29
        refine lv_iload_n hx hb dX7_most_32 rfl (lv_at hl 1 rfl) ?_
        refine lv_bipush (v := -2) hx hb dX7_most_33 (by decide) ?_
        refine lv_icmp_ne (tgt := 45) hx hb dX7_most_35 (by decide) (fun c35 => ?_) (fun c35 => ?_)
        · -- t35
          refine lv_aload_n hx hb dX7_most_45 rfl (lv_at hl 0 rfl) ?_
          refine va_get (D := D) (ci := 7) (v := .int (fmZ n kd sd av br bv).2.1) (C := RX7) (T := TX7) (N := 28) hx hb hts iX7 hown hK hP 0 rfl rfl 24 (by decide) f186 (fun _ h9 => h9) rfl dX7_most_46 ?_
          exact W.iret (v := (fmZ n kd sd av br bv).2.1) hx hb hr (fun t ht hW => ⟨⟨_, (nI (ablW n sd av (2 ^ n)).2, (fmZ n kd sd av br bv).1, (fmZ n kd sd av br bv).2.1, (ablW n sd av (2 ^ n)).1, (fmZ n kd sd av br bv).2.2), rfl, by rw [if_pos b5, if_neg c18, if_pos z29]; simp [c35], by rw [ht]; exact hP, va_K.moved hW.alike hK, hD⟩, hS.F ht⟩) hS.2.2 dX7_most_49
        · -- f35
          refine lv_aload_n hx hb dX7_most_38 rfl (lv_at hl 0 rfl) ?_
          refine va_get (D := D) (ci := 7) (v := .int (fmZ n kd sd av br bv).1) (C := RX7) (T := TX7) (N := 28) hx hb hts iX7 hown hK hP 0 rfl rfl 23 (by decide) f183 (fun _ h9 => h9) rfl dX7_most_39 ?_
          refine lv_goto (tgt := 49) hx hb dX7_most_42 (by decide) ?_
          exact W.iret (v := (fmZ n kd sd av br bv).1) hx hb hr (fun t ht hW => ⟨⟨_, (nI (ablW n sd av (2 ^ n)).2, (fmZ n kd sd av br bv).1, (fmZ n kd sd av br bv).2.1, (ablW n sd av (2 ^ n)).1, (fmZ n kd sd av br bv).2.2), rfl, by rw [if_pos b5, if_neg c18, if_pos z29]; simp [c35], by rw [ht]; exact hP, va_K.moved hW.alike hK, hD⟩, hS.F ht⟩) hS.2.2 dX7_most_49
    · -- f18
      refine lv_bipush (v := -3) hx hb dX7_most_21 (by decide) ?_
      exact W.iret (v := -3) hx hb hr (fun t ht hW => ⟨⟨_, (am, bm, br, av, bv), rfl, by rw [if_pos b5, if_pos c18], by rw [ht]; exact hP, va_K.moved hW.alike hK, hD⟩, hS.F ht⟩) hS.2.2 dX7_most_23
  · -- n5
    obtain rfl := w5.2 b5
    refine lv_if_ne (tgt := 14) hx hb dX7_most_8 (by decide) (fun h => absurd (by decide) h) (fun _ => ?_)
    refine lv_bipush (v := -2) hx hb dX7_most_11 (by decide) ?_
    exact W.iret (v := -2) hx hb hr (fun t ht hW => ⟨⟨_, (am, bm, br, av, bv), rfl, by rw [if_neg b5], by rw [ht]; exact hP, va_K.moved hW.alike hK, hD⟩, hS.F ht⟩) hS.2.2 dX7_most_13
