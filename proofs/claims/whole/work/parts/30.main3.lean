set_option maxHeartbeats 4000000 in
set_option maxRecDepth 100000 in
theorem c_X6_reading (l : Launch) (D : va_G) (cI cO : ClassId) (h : Nat) (aS : Nat) (pe : Nat) (tq : Nat) (se : Nat) (mo : Nat) (re : Nat) (bar : Int32) (tr : Int32) (fa : Int32) (ka : Nat) (sa : Nat) (n : Nat) (wa : Nat) (ha : Nat) (rn : Nat) (rw_ : Nat → Int32) (rh : Nat → Int32) (pp : Int32) (v : Int32) (sz : Nat) (hn : n ≤ 9) (hr8 : rn ≤ 8) : Met l yX6_reading wsX6_reading ({ frames := 1, cells := 0, slots := 0, locals := 22 } : Room) (va_Pc [.ref h, .int pp, .int v] (wdW D cI cO [(h, .inr (6, [.ref aS, .ref pe, .ref tq, .ref se, .ref mo, .ref re, .int bar, .int tr, .int fa])), (pe, .inr (1, [.ref ka, .ref sa, .int (nI n)])), (re, .inr (2, [.ref wa, .ref ha, .int (nI rn)])), (wa, .inl (cI, 8, .inl rw_)), (ha, .inl (cI, 8, .inl rh))] sz)) (va_Qi (S := Nat × (Nat → Int32) × (Nat → Int32)) (fun r u => r = (onQ n pp (fun j => if v < 0 then -2 else if v ≤ 18 then (if nI rn < 8 then nI rn else -4) else -2) (-1)) ∧ u.1 = (onQ n pp (fun j => if v < 0 then rn else if v ≤ 18 then (if nI rn < 8 then rn + 1 else rn) else rn) rn) ∧ u.2.1 = (onQ n pp (fun j => if v < 0 then rw_ else if v ≤ 18 then (if nI rn < 8 then upd rw_ rn (nI j) else rw_) else rw_) rw_) ∧ u.2.2 = (onQ n pp (fun j => if v < 0 then rh else if v ≤ 18 then (if nI rn < 8 then upd rh rn v else rh) else rh) rh)) (fun u t => va_P D vwCl [(h, .inr (6, [.ref aS, .ref pe, .ref tq, .ref se, .ref mo, .ref re, .int bar, .int tr, .int fa])), (pe, .inr (1, [.ref ka, .ref sa, .int (nI n)])), (re, .inr (2, [.ref wa, .ref ha, .int (nI u.1)])), (wa, .inl (cI, 8, .inl u.2.1)), (ha, .inl (cI, 8, .inl u.2.2))] t.heap ∧ va_K D vwCl (tyL cI cO) t ∧ va_D (va_A [(h, .inr (6, [.ref aS, .ref pe, .ref tq, .ref se, .ref mo, .ref re, .int bar, .int tr, .int fa])), (pe, .inr (1, [.ref ka, .ref sa, .int (nI n)])), (re, .inr (2, [.ref wa, .ref ha, .int (nI rn)])), (wa, .inl (cI, 8, .inl rw_)), (ha, .inl (cI, 8, .inl rh))] sz) [(h, .inr (6, [.ref aS, .ref pe, .ref tq, .ref se, .ref mo, .ref re, .int bar, .int tr, .int fa])), (pe, .inr (1, [.ref ka, .ref sa, .int (nI n)])), (re, .inr (2, [.ref wa, .ref ha, .int (nI u.1)])), (wa, .inl (cI, 8, .inl u.2.1)), (ha, .inl (cI, 8, .inl u.2.2))]) (va_A [(h, .inr (6, [.ref aS, .ref pe, .ref tq, .ref se, .ref mo, .ref re, .int bar, .int tr, .int fa])), (pe, .inr (1, [.ref ka, .ref sa, .int (nI n)])), (re, .inr (2, [.ref wa, .ref ha, .int (nI rn)])), (wa, .inl (cI, 8, .inl rw_)), (ha, .inl (cI, 8, .inl rh))] sz)) 0 0 (va_A [(h, .inr (6, [.ref aS, .ref pe, .ref tq, .ref se, .ref mo, .ref re, .int bar, .int tr, .int fa])), (pe, .inr (1, [.ref ka, .ref sa, .int (nI n)])), (re, .inr (2, [.ref wa, .ref ha, .int (nI rn)])), (wa, .inl (cI, 8, .inl rw_)), (ha, .inl (cI, 8, .inl rh))] sz) := by
  refine Met.ofW (cc := cX6_reading) (maxL := 3) (ret := (some .int)) (by decide) rfl ?_
  intro p e s m args below meth c s₁ B hml hv
  obtain ⟨rfl, hsz, hP, hK, hNw, hD0⟩ := hv
  have hx := B.exec
  have hb := B.bytes
  have hr := B.returns
  have hts := atoms_spec (ws := wsX6_reading) B.pre
  have hown : s.vm.findClass RX6 = some m.cls := findClass_of_methodNamed B.named
  have hlocks := B.notSynchronized
  have f21 := hts (.fieldLink RX6 21 "StruckThrees" "people" "LStruckThrees$People;") (by decide +kernel)
  have f49 := hts (.fieldLink RX6 49 "StruckThrees" "readings" "LStruckThrees$Readings;") (by decide +kernel)
  have f208 := hNw.f (args := ([.ref h, .int pp, .int v]).toArray) ("StruckThrees", 208, "StruckThrees$Readings", "count", "I") (by decide)
  have iX2 : ∀ w ∈ wsX20, w ∈ wsX6_reading := by decide +kernel
  have iX6 : ∀ w ∈ wsX60, w ∈ wsX6_reading := by decide +kernel
  subst hsz
  have hD := hD0.self (sz := s.heap.size)
  generalize hAe : va_A [(h, .inr (6, [.ref aS, .ref pe, .ref tq, .ref se, .ref mo, .ref re, .int bar, .int tr, .int fa])), (pe, .inr (1, [.ref ka, .ref sa, .int (nI n)])), (re, .inr (2, [.ref wa, .ref ha, .int (nI rn)])), (wa, .inl (cI, 8, .inl rw_)), (ha, .inl (cI, 8, .inl rh))] s.heap.size = A at hD ⊢
  have hA : ∀ q : Nat, s.heap.size ≤ q → A q := fun q h => by rw [← hAe]; exact Or.inr h
  have hS : va_S A s.heap s.heap [] := va_S.rf
  have hP : va_P D vwCl [(h, .inr (6, [.ref aS, .ref pe, .ref tq, .ref se, .ref mo, .ref re, .int bar, .int tr, .int fa])), (pe, .inr (1, [.ref ka, .ref sa, .int (nI n)])), (re, .inr (2, [.ref wa, .ref ha, .int (nI rn)])), (wa, .inl (cI, 8, .inl rw_)), (ha, .inl (cI, 8, .inl rh))] s.heap := hP
  have hl := lv_entry ([.ref h, .int pp, .int v]) (n := 3) (Nat.le_of_ble_eq_true rfl)
  rw [lg_entry_eq]
  generalize (lg_sl ([.ref h, .int pp, .int v]) ++ List.replicate (3 - (lg_sl ([.ref h, .int pp, .int v])).length) Slot.unset).toArray = ls at hl ⊢
  have hl : lv_has ls 3 [(0, .ref h), (1, .int pp), (2, .int v)] := hl
  refine lv_aload_n hx hb dX6_reading_0 rfl (lv_at hl 0 rfl) ?_
  refine va_get (D := D) (ci := 6) (v := .ref pe) (C := RX6) (T := TX6) (N := 9) hx hb hts iX6 hown hK hP 0 rfl rfl 1 (by decide) f21 (fun _ h9 => h9) rfl dX6_reading_1 ?_
  refine lv_iload_n hx hb dX6_reading_4 rfl (lv_at hl 1 rfl) ?_
  have hPc := hP.sub (ws' := [(pe, .inr (1, [.ref ka, .ref sa, .int (nI n)]))]) [1] rfl
  refine vp_callSi (va_Run.run (va_runV (As := [.int pp]) (rest := []) ⟨hx, hb, hml, hown, hts⟩ (c_X1_has l D cI cO pe ka sa n pp) (cwV 1 hts gX6_reading_X1_has rfl rfl rfl (by decide +kernel) ⟨Nat.le_of_ble_eq_true rfl, Nat.le_of_ble_eq_true rfl⟩) (preVR hPc hK hNw (va_recv hK hPc (ci := 1) (q0 := 0) rfl rfl)) rfl rfl hl.1 rfl (lv_room (Nat.le_of_ble_eq_true rfl)) dX6_reading_5 ⟨Nat.zero_le _, Nat.zero_le _⟩)) (fun r5 w5 => ?_)
  by_cases b5 : ¬ pp < 0 ∧ ¬ nI n ≤ pp
  · -- y5
    obtain rfl := w5.1 b5
    obtain ⟨j, hj, rfl⟩ := in_nat b5 (show n < 2 ^ 31 by omega)
    refine lv_if_ne (tgt := 13) hx hb dX6_reading_8 (by decide) (fun _ => ?_) (fun h => absurd h (by decide))
    refine lv_iload_n hx hb dX6_reading_13 rfl (lv_at hl 2 rfl) ?_
    refine lv_if_lt (tgt := 23) hx hb dX6_reading_14 (by decide) (fun c14 => ?_) (fun c14 => ?_)
    · -- t14
      refine lv_bipush (v := -2) hx hb dX6_reading_23 (by decide) ?_
      exact W.iret (v := -2) hx hb hr (fun t ht hW => ⟨⟨_, (rn, rw_, rh), rfl, by first | (simp [onQ_out b5]; done) | (simp [onQ_in hj (show n < 2 ^ 31 by omega), *]; done), by rw [ht]; exact hP, va_K.moved hW.alike hK, hD⟩, hS.F ht⟩) hS.2.2 dX6_reading_25
    · -- f14
      refine lv_iload_n hx hb dX6_reading_17 rfl (lv_at hl 2 rfl) ?_
      refine lv_bipush (v := 18) hx hb dX6_reading_18 (by decide) ?_
      refine lv_icmp_le (tgt := 26) hx hb dX6_reading_20 (by decide) (fun c20 => ?_) (fun c20 => ?_)
      · -- t20
        refine lv_aload_n hx hb dX6_reading_26 rfl (lv_at hl 0 rfl) ?_
        refine va_get (D := D) (ci := 6) (v := .ref re) (C := RX6) (T := TX6) (N := 9) hx hb hts iX6 hown hK hP 0 rfl rfl 5 (by decide) f49 (fun _ h9 => h9) rfl dX6_reading_27 ?_
        refine va_getN (D := D) (ci := 2) (v := .int (nI rn)) (C := RX2) (T := TX2) (N := 3) hx hb hts iX2 hown hK hP 2 rfl rfl 2 (by decide) f208 (fun _ h9 => h9) rfl dX6_reading_30 ?_
        refine lv_bipush (v := 8) hx hb dX6_reading_33 (by decide) ?_
        refine lv_icmp_lt (tgt := 41) hx hb dX6_reading_35 (by decide) (fun c35 => ?_) (fun c35 => ?_)
        · -- t35
          have hr7 : rn < 8 := (nI_ltI (b := 8) (by omega) (by decide)).mp c35
          refine lv_aload_n hx hb dX6_reading_41 rfl (lv_at hl 0 rfl) ?_
          refine va_get (D := D) (ci := 6) (v := .ref re) (C := RX6) (T := TX6) (N := 9) hx hb hts iX6 hown hK hP 0 rfl rfl 5 (by decide) f49 (fun _ h9 => h9) rfl dX6_reading_42 ?_
          refine lv_iload_n hx hb dX6_reading_45 rfl (lv_at hl 1 rfl) ?_
          refine lv_iload_n hx hb dX6_reading_46 rfl (lv_at hl 2 rfl) ?_
          have hPc := hP.sub (ws' := [(re, .inr (2, [.ref wa, .ref ha, .int (nI rn)])), (wa, .inl (cI, 8, .inl rw_)), (ha, .inl (cI, 8, .inl rh))]) [2, 3, 4] rfl
          have hDc := hD.sub (ws' := [(re, .inr (2, [.ref wa, .ref ha, .int (nI rn)])), (wa, .inl (cI, 8, .inl rw_)), (ha, .inl (cI, 8, .inl rh))]) [2, 3, 4] (by decide) rfl
          have hFc := va_free (wc := [(re, .inr (2, [.ref wa, .ref ha, .int (nI rn)])), (wa, .inl (cI, 8, .inl rw_)), (ha, .inl (cI, 8, .inl rh))]) hD hS hA [2, 3, 4] rfl
          refine va_calli (va_runV (As := [.int (nI j), .int v]) (rest := []) ⟨hx, hb, hml, hown, hts⟩ (c_X2_add l D cI cO re wa ha rn rw_ rh (nI j) v _ (by assumption)) (cwV 2 hts gX6_reading_X2_add rfl rfl rfl (by decide +kernel) ⟨Nat.le_of_ble_eq_true rfl, Nat.le_of_ble_eq_true rfl⟩) (preVW hPc hK hNw hDc (va_recv hK hPc (ci := 2) (q0 := 0) rfl rfl)) rfl rfl hl.1 rfl (lv_room (Nat.le_of_ble_eq_true rfl)) dX6_reading_47 ⟨Nat.zero_le _, Nat.zero_le _⟩) hS (fun q _ h => hFc q h) hFc (fun r47 u t H1 locs ht hvm w47 hB hz1 hk1 hS => ?_)
          obtain ⟨rw1_47, rh1_47⟩ := u
          obtain ⟨hP1, hK1, hD1⟩ := hB
          rw [ht] at hP1
          try dsimp only at w47
          obtain ⟨hP, hD⟩ := va_join (wr := [(h, .inr (6, [.ref aS, .ref pe, .ref tq, .ref se, .ref mo, .ref re, .int bar, .int tr, .int fa])), (pe, .inr (1, [.ref ka, .ref sa, .int (nI n)]))]) (w1 := [(re, .inr (2, [.ref wa, .ref ha, .int (nI (rn + 1))])), (wa, .inl (cI, 8, .inl rw1_47)), (ha, .inl (cI, 8, .inl rh1_47))]) hP hD [2, 3, 4] [0, 1] rfl rfl (by decide) (by decide) hk1 hFc hP1 hD1
          generalize H1 = H at hP hS ⊢
          have hP := hP.sub (ws' := [(h, .inr (6, [.ref aS, .ref pe, .ref tq, .ref se, .ref mo, .ref re, .int bar, .int tr, .int fa])), (pe, .inr (1, [.ref ka, .ref sa, .int (nI n)])), (re, .inr (2, [.ref wa, .ref ha, .int (nI (rn + 1))])), (wa, .inl (cI, 8, .inl rw1_47)), (ha, .inl (cI, 8, .inl rh1_47))]) [0, 1, 2, 3, 4] rfl
          have hD := hD.sub (ws' := [(h, .inr (6, [.ref aS, .ref pe, .ref tq, .ref se, .ref mo, .ref re, .int bar, .int tr, .int fa])), (pe, .inr (1, [.ref ka, .ref sa, .int (nI n)])), (re, .inr (2, [.ref wa, .ref ha, .int (nI (rn + 1))])), (wa, .inl (cI, 8, .inl rw1_47)), (ha, .inl (cI, 8, .inl rh1_47))]) [0, 1, 2, 3, 4] (by decide) rfl
          obtain ⟨rfl, rfl, rfl⟩ := w47
          exact W.iret (v := nI rn) hx hb hr (fun t ht hW => ⟨⟨_, ((rn + 1), (upd rw_ rn (nI j)), (upd rh rn v)), rfl, by first | (simp [onQ_out b5]; done) | (simp [onQ_in hj (show n < 2 ^ 31 by omega), *]; done), by rw [ht]; exact hP, va_K.moved hW.alike hK, hD⟩, hS.F ht⟩) hS.2.2 dX6_reading_50
        · -- f35
          refine lv_bipush (v := -4) hx hb dX6_reading_38 (by decide) ?_
          exact W.iret (v := -4) hx hb hr (fun t ht hW => ⟨⟨_, (rn, rw_, rh), rfl, by first | (simp [onQ_out b5]; done) | (simp [onQ_in hj (show n < 2 ^ 31 by omega), *]; done), by rw [ht]; exact hP, va_K.moved hW.alike hK, hD⟩, hS.F ht⟩) hS.2.2 dX6_reading_40
      · -- f20
        refine lv_bipush (v := -2) hx hb dX6_reading_23 (by decide) ?_
        exact W.iret (v := -2) hx hb hr (fun t ht hW => ⟨⟨_, (rn, rw_, rh), rfl, by first | (simp [onQ_out b5]; done) | (simp [onQ_in hj (show n < 2 ^ 31 by omega), *]; done), by rw [ht]; exact hP, va_K.moved hW.alike hK, hD⟩, hS.F ht⟩) hS.2.2 dX6_reading_25
  · -- n5
    obtain rfl := w5.2 b5
    refine lv_if_ne (tgt := 13) hx hb dX6_reading_8 (by decide) (fun h => absurd (by decide) h) (fun _ => ?_)
    refine lv_iconst (v := -1) hx hb dX6_reading_11 (by decide) ?_
    exact W.iret (v := -1) hx hb hr (fun t ht hW => ⟨⟨_, (rn, rw_, rh), rfl, by first | (simp [onQ_out b5]; done) | (simp [onQ_in hj (show n < 2 ^ 31 by omega), *]; done), by rw [ht]; exact hP, va_K.moved hW.alike hK, hD⟩, hS.F ht⟩) hS.2.2 dX6_reading_12

set_option maxHeartbeats 4000000 in
set_option maxRecDepth 100000 in
theorem c_X6_back (l : Launch) (D : va_G) (cI cO : ClassId) (h : Nat) (aS : Nat) (pe : Nat) (tq : Nat) (se : Nat) (mo : Nat) (re : Nat) (bar : Int32) (tr : Int32) (fa : Int32) (wa : Nat) (ha : Nat) (rn : Nat) (v : Int32) (sz : Nat) (hr8 : rn ≤ 8) : Met l yX6_back wsX6_back ({ frames := 0, cells := 0, slots := 0, locals := 0 } : Room) (va_Pc [.ref h, .int v] (wdW D cI cO [(h, .inr (6, [.ref aS, .ref pe, .ref tq, .ref se, .ref mo, .ref re, .int bar, .int tr, .int fa])), (re, .inr (2, [.ref wa, .ref ha, .int (nI rn)]))] sz)) (va_Qi (S := Nat) (fun r u => r = (bckR rn v) ∧ u = (bckN rn v)) (fun u t => va_P D vwCl [(h, .inr (6, [.ref aS, .ref pe, .ref tq, .ref se, .ref mo, .ref re, .int bar, .int tr, .int fa])), (re, .inr (2, [.ref wa, .ref ha, .int (nI u)]))] t.heap ∧ va_K D vwCl (tyL cI cO) t ∧ va_D (va_A [(h, .inr (6, [.ref aS, .ref pe, .ref tq, .ref se, .ref mo, .ref re, .int bar, .int tr, .int fa])), (re, .inr (2, [.ref wa, .ref ha, .int (nI rn)]))] sz) [(h, .inr (6, [.ref aS, .ref pe, .ref tq, .ref se, .ref mo, .ref re, .int bar, .int tr, .int fa])), (re, .inr (2, [.ref wa, .ref ha, .int (nI u)]))]) (va_A [(h, .inr (6, [.ref aS, .ref pe, .ref tq, .ref se, .ref mo, .ref re, .int bar, .int tr, .int fa])), (re, .inr (2, [.ref wa, .ref ha, .int (nI rn)]))] sz)) 0 0 (va_A [(h, .inr (6, [.ref aS, .ref pe, .ref tq, .ref se, .ref mo, .ref re, .int bar, .int tr, .int fa])), (re, .inr (2, [.ref wa, .ref ha, .int (nI rn)]))] sz) := by
  refine Met.ofW (cc := cX6_back) (maxL := 2) (ret := (some .int)) (by decide) rfl ?_
  intro p e s m args below meth c s₁ B hml hv
  obtain ⟨rfl, hsz, hP, hK, hNw, hD0⟩ := hv
  have hx := B.exec
  have hb := B.bytes
  have hr := B.returns
  have hts := atoms_spec (ws := wsX6_back) B.pre
  have hown : s.vm.findClass RX6 = some m.cls := findClass_of_methodNamed B.named
  have hlocks := B.notSynchronized
  have f49 := hts (.fieldLink RX6 49 "StruckThrees" "readings" "LStruckThrees$Readings;") (by decide +kernel)
  have f208 := hNw.f (args := ([.ref h, .int v]).toArray) ("StruckThrees", 208, "StruckThrees$Readings", "count", "I") (by decide)
  have iX2 : ∀ w ∈ wsX20, w ∈ wsX6_back := by decide +kernel
  have iX6 : ∀ w ∈ wsX60, w ∈ wsX6_back := by decide +kernel
  subst hsz
  have hD := hD0.self (sz := s.heap.size)
  generalize hAe : va_A [(h, .inr (6, [.ref aS, .ref pe, .ref tq, .ref se, .ref mo, .ref re, .int bar, .int tr, .int fa])), (re, .inr (2, [.ref wa, .ref ha, .int (nI rn)]))] s.heap.size = A at hD ⊢
  have hA : ∀ q : Nat, s.heap.size ≤ q → A q := fun q h => by rw [← hAe]; exact Or.inr h
  have hS : va_S A s.heap s.heap [] := va_S.rf
  have hP : va_P D vwCl [(h, .inr (6, [.ref aS, .ref pe, .ref tq, .ref se, .ref mo, .ref re, .int bar, .int tr, .int fa])), (re, .inr (2, [.ref wa, .ref ha, .int (nI rn)]))] s.heap := hP
  have hl := lv_entry ([.ref h, .int v]) (n := 2) (Nat.le_of_ble_eq_true rfl)
  rw [lg_entry_eq]
  generalize (lg_sl ([.ref h, .int v]) ++ List.replicate (2 - (lg_sl ([.ref h, .int v])).length) Slot.unset).toArray = ls at hl ⊢
  have hl : lv_has ls 2 [(0, .ref h), (1, .int v)] := hl
  refine lv_iload_n hx hb dX6_back_0 rfl (lv_at hl 1 rfl) ?_
  refine lv_if_lt (tgt := 15) hx hb dX6_back_1 (by decide) (fun c1 => ?_) (fun c1 => ?_)
  · -- t1
    refine lv_bipush (v := -2) hx hb dX6_back_15 (by decide) ?_
    exact W.iret (v := -2) hx hb hr (fun t ht hW => ⟨⟨_, rn, rfl, by simp [bckR, bckN, *], by rw [ht]; exact hP, va_K.moved hW.alike hK, hD⟩, hS.F ht⟩) hS.2.2 dX6_back_17
  · -- f1
    refine lv_iload_n hx hb dX6_back_4 rfl (lv_at hl 1 rfl) ?_
    refine lv_aload_n hx hb dX6_back_5 rfl (lv_at hl 0 rfl) ?_
    refine va_get (D := D) (ci := 6) (v := .ref re) (C := RX6) (T := TX6) (N := 9) hx hb hts iX6 hown hK hP 0 rfl rfl 5 (by decide) f49 (fun _ h9 => h9) rfl dX6_back_6 ?_
    refine va_getN (D := D) (ci := 2) (v := .int (nI rn)) (C := RX2) (T := TX2) (N := 3) hx hb hts iX2 hown hK hP 1 rfl rfl 2 (by decide) f208 (fun _ h9 => h9) rfl dX6_back_9 ?_
    refine lv_icmp_le (tgt := 18) hx hb dX6_back_12 (by decide) (fun c12 => ?_) (fun c12 => ?_)
    · -- t12
      obtain ⟨k, hk, rfl⟩ := nI_of2 (nI_toInt (n := rn) (by omega)) c1 c12
      have ck := nI_clamp (n := k) (by omega)
      refine lv_aload_n hx hb dX6_back_18 rfl (lv_at hl 0 rfl) ?_
      refine va_get (D := D) (ci := 6) (v := .ref re) (C := RX6) (T := TX6) (N := 9) hx hb hts iX6 hown hK hP 0 rfl rfl 5 (by decide) f49 (fun _ h9 => h9) rfl dX6_back_19 ?_
      refine lv_dup hx hb dX6_back_22 rfl ?_
      refine va_getN (D := D) (ci := 2) (v := .int (nI rn)) (C := RX2) (T := TX2) (N := 3) hx hb hts iX2 hown hK hP 1 rfl rfl 2 (by decide) f208 (fun _ h9 => h9) rfl dX6_back_23 ?_
      refine lv_iload_n hx hb dX6_back_26 rfl (lv_at hl 1 rfl) ?_
      refine lv_isub hx hb dX6_back_27 ?_
      refine tp_i (y := nI (rn - k)) (pk_sub hk) ?_
      refine va_putN (D := D) (ci := 2) (v := .int (nI (rn - k))) (ty := .int) (C := RX2) (T := TX2) (N := 3) hx hb hts iX2 tyX2 tyX2_ok nmX2 hown hK hP hD hS 1 rfl rfl 2 (by decide) f208 (fun _ h9 => h9) rfl (by decide +kernel) rfl rfl (Nat.le_of_ble_eq_true rfl) dX6_back_28 (fun H locs hP hD hS => ?_)
      have hP : va_P D vwCl [(h, .inr (6, [.ref aS, .ref pe, .ref tq, .ref se, .ref mo, .ref re, .int bar, .int tr, .int fa])), (re, .inr (2, [.ref wa, .ref ha, .int (nI (rn - k))]))] H := hP
      have hD : va_D A [(h, .inr (6, [.ref aS, .ref pe, .ref tq, .ref se, .ref mo, .ref re, .int bar, .int tr, .int fa])), (re, .inr (2, [.ref wa, .ref ha, .int (nI (rn - k))]))] := hD
      refine lv_aload_n hx hb dX6_back_31 rfl (lv_at hl 0 rfl) ?_
      refine va_get (D := D) (ci := 6) (v := .ref re) (C := RX6) (T := TX6) (N := 9) hx hb hts iX6 hown hK hP 0 rfl rfl 5 (by decide) f49 (fun _ h9 => h9) rfl dX6_back_32 ?_
      refine va_getN (D := D) (ci := 2) (v := .int (nI (rn - k))) (C := RX2) (T := TX2) (N := 3) hx hb hts iX2 hown hK hP 1 rfl rfl 2 (by decide) f208 (fun _ h9 => h9) rfl dX6_back_35 ?_
      exact W.iret (v := nI (rn - k)) hx hb hr (fun t ht hW => ⟨⟨_, (rn - k), rfl, by simp [bckR, bckN, *], by rw [ht]; exact hP, va_K.moved hW.alike hK, hD⟩, hS.F ht⟩) hS.2.2 dX6_back_38
    · -- f12
      refine lv_bipush (v := -2) hx hb dX6_back_15 (by decide) ?_
      exact W.iret (v := -2) hx hb hr (fun t ht hW => ⟨⟨_, rn, rfl, by simp [bckR, bckN, *], by rw [ht]; exact hP, va_K.moved hW.alike hK, hD⟩, hS.F ht⟩) hS.2.2 dX6_back_17

set_option maxHeartbeats 4000000 in
set_option maxRecDepth 100000 in
theorem c_X6_sides (l : Launch) (D : va_G) (cI cO : ClassId) (h : Nat) (aS : Nat) (pe : Nat) (tq : Nat) (se : Nat) (mo : Nat) (re : Nat) (bar : Int32) (tr : Int32) (fa : Int32) (ka : Nat) (sa : Nat) (n : Nat) (kd : Nat → Int32) (sd : Nat → Int32) (wa : Nat) (ha : Nat) (rn : Nat) (rw_ : Nat → Int32) (rh : Nat → Int32) (pp : Int32) (hn : n ≤ 9) (hr8 : rn ≤ 8) (hw : ∀ k, k < rn → ∃ w, w < n ∧ rw_ k = nI w) : Met l yX6_sides wsX6_sides ({ frames := 3, cells := 0, slots := 0, locals := 67 } : Room) (va_Pc [.ref h, .int pp] (wdR D cI cO [(h, .inr (6, [.ref aS, .ref pe, .ref tq, .ref se, .ref mo, .ref re, .int bar, .int tr, .int fa])), (pe, .inr (1, [.ref ka, .ref sa, .int (nI n)])), (ka, .inl (cI, 9, .inl kd)), (sa, .inl (cI, 9, .inl sd)), (re, .inr (2, [.ref wa, .ref ha, .int (nI rn)])), (wa, .inl (cI, 8, .inl rw_)), (ha, .inl (cI, 8, .inl rh))])) (vp_Si (fun r => r = (onQ n pp (fun j => setW (sidP kd sd rw_ rh rn j) 10) (-1)))) 0 0 (fun _ => False) := by
  refine Met.ofW (cc := cX6_sides) (maxL := 4) (ret := (some .int)) (by decide) rfl ?_
  intro p e s m args below meth c s₁ B hml hv
  obtain ⟨rfl, hP, hK, hNw⟩ := hv
  have hx := B.exec
  have hb := B.bytes
  have hr := B.returns
  have hts := atoms_spec (ws := wsX6_sides) B.pre
  have hown : s.vm.findClass RX6 = some m.cls := findClass_of_methodNamed B.named
  have hlocks := B.notSynchronized
  have f21 := hts (.fieldLink RX6 21 "StruckThrees" "people" "LStruckThrees$People;") (by decide +kernel)
  have f49 := hts (.fieldLink RX6 49 "StruckThrees" "readings" "LStruckThrees$Readings;") (by decide +kernel)
  have iX6 : ∀ w ∈ wsX60, w ∈ wsX6_sides := by decide +kernel
  have hP : va_P D vwCl [(h, .inr (6, [.ref aS, .ref pe, .ref tq, .ref se, .ref mo, .ref re, .int bar, .int tr, .int fa])), (pe, .inr (1, [.ref ka, .ref sa, .int (nI n)])), (ka, .inl (cI, 9, .inl kd)), (sa, .inl (cI, 9, .inl sd)), (re, .inr (2, [.ref wa, .ref ha, .int (nI rn)])), (wa, .inl (cI, 8, .inl rw_)), (ha, .inl (cI, 8, .inl rh))] s.heap := hP
  have hl := lv_entry ([.ref h, .int pp]) (n := 4) (Nat.le_of_ble_eq_true rfl)
  rw [lg_entry_eq]
  generalize (lg_sl ([.ref h, .int pp]) ++ List.replicate (4 - (lg_sl ([.ref h, .int pp])).length) Slot.unset).toArray = ls at hl ⊢
  have hl : lv_has ls 4 [(0, .ref h), (1, .int pp)] := hl
  refine lv_aload_n hx hb dX6_sides_0 rfl (lv_at hl 0 rfl) ?_
  refine va_get (D := D) (ci := 6) (v := .ref pe) (C := RX6) (T := TX6) (N := 9) hx hb hts iX6 hown hK hP 0 rfl rfl 1 (by decide) f21 (fun _ h9 => h9) rfl dX6_sides_1 ?_
  refine lv_iload_n hx hb dX6_sides_4 rfl (lv_at hl 1 rfl) ?_
  have hPc := hP.sub (ws' := [(pe, .inr (1, [.ref ka, .ref sa, .int (nI n)]))]) [1] rfl
  refine vp_callSi (va_Run.run (va_runV (As := [.int pp]) (rest := []) ⟨hx, hb, hml, hown, hts⟩ (c_X1_has l D cI cO pe ka sa n pp) (cwV 1 hts gX6_sides_X1_has rfl rfl rfl (by decide +kernel) ⟨Nat.le_of_ble_eq_true rfl, Nat.le_of_ble_eq_true rfl⟩) (preVR hPc hK hNw (va_recv hK hPc (ci := 1) (q0 := 0) rfl rfl)) rfl rfl hl.1 rfl (lv_room (Nat.le_of_ble_eq_true rfl)) dX6_sides_5 ⟨Nat.zero_le _, Nat.zero_le _⟩)) (fun r5 w5 => ?_)
  by_cases b5 : ¬ pp < 0 ∧ ¬ nI n ≤ pp
  · -- y5
    obtain rfl := w5.1 b5
    obtain ⟨j, hj, rfl⟩ := in_nat b5 (show n < 2 ^ 31 by omega)
    refine lv_if_ne (tgt := 13) hx hb dX6_sides_8 (by decide) (fun _ => ?_) (fun h => absurd h (by decide))
    refine lv_iconst (v := 0) hx hb dX6_sides_13 (by decide) ?_
    refine lv_istore_n (lv' := [(2, .int 0), (0, .ref h), (1, .int (nI j))]) hx hb dX6_sides_14 rfl hl (by decide) rfl (fun ls hl => ?_)
    refine lv_iconst (v := 1) hx hb dX6_sides_15 (by decide) ?_
    refine lv_istore_n (lv' := [(3, .int 1), (2, .int 0), (0, .ref h), (1, .int (nI j))]) hx hb dX6_sides_16 rfl hl (by decide) rfl (fun ls hl => ?_)
    have lp17 : ∀ (fu17 : Nat) (i : Nat) (hi : i ≤ 10) (hlo : 1 ≤ i) (hm17 : 10 - i < fu17) (ls : Array Slot) (hl : lv_has ls 4 [(0, .ref h), (1, .int (nI j)), (2, .int (setW (sidP kd sd rw_ rh rn j) i)), (3, .int (nI i))]), W p l e (headSpec wsX6_sides ({ frames := 3, cells := 0, slots := 0, locals := 67 } : Room)).room s m ([.ref h, .int (nI j)]).toArray below meth c s.heap [] 0 0 (MQ below (vp_Si (fun r => r = (onQ n (nI j) (fun j => setW (sidP kd sd rw_ rh rn j) 10) (-1)))) ([.ref h, .int (nI j)]).toArray s 0 0 (fun _ => False)) (F0 m 17 ls []) := by
      intro fu17
      induction fu17 with
      | zero =>
        intros; omega
      | succ fu17 ih17 =>
        intro i hi hlo hm17 ls hl
        refine lv_iload_n hx hb dX6_sides_17 rfl (lv_at hl 3 rfl) ?_
        refine lv_bipush (v := 9) hx hb dX6_sides_18 (by decide) ?_
        refine lv_icmp_gt (tgt := 62) hx hb dX6_sides_20 (by decide) (fun c20 => ?_) (fun c20 => ?_)
        · -- t20
          have e20 : i = 10 := by have q := (nI_ltI (a := 9) (by decide) (by omega)).mp c20; omega
          rw [e20] at hl
          refine lv_iload_n hx hb dX6_sides_62 rfl (lv_at hl 2 rfl) ?_
          exact W.iret (v := setW (sidP kd sd rw_ rh rn j) 10) hx hb hr (fun t ht hW => ⟨_, rfl, by first | (simp [onQ_out b5]; done) | (rw [onQ_in hj (by omega)]), ht⟩) (fun _ h => absurd h List.not_mem_nil) dX6_sides_63
        · -- f20
          have l20 : i < 10 := by have q := mt (nI_ltI (a := 9) (by decide) (by omega)).mpr c20; omega
          refine lv_aload_n hx hb dX6_sides_23 rfl (lv_at hl 0 rfl) ?_
          refine va_get (D := D) (ci := 6) (v := .ref re) (C := RX6) (T := TX6) (N := 9) hx hb hts iX6 hown hK hP 0 rfl rfl 5 (by decide) f49 (fun _ h9 => h9) rfl dX6_sides_24 ?_
          refine lv_aload_n hx hb dX6_sides_27 rfl (lv_at hl 0 rfl) ?_
          refine va_get (D := D) (ci := 6) (v := .ref pe) (C := RX6) (T := TX6) (N := 9) hx hb hts iX6 hown hK hP 0 rfl rfl 1 (by decide) f21 (fun _ h9 => h9) rfl dX6_sides_28 ?_
          refine lv_iload_n hx hb dX6_sides_31 rfl (lv_at hl 1 rfl) ?_
          refine lv_aload_n hx hb dX6_sides_32 rfl (lv_at hl 0 rfl) ?_
          refine va_get (D := D) (ci := 6) (v := .ref pe) (C := RX6) (T := TX6) (N := 9) hx hb hts iX6 hown hK hP 0 rfl rfl 1 (by decide) f21 (fun _ h9 => h9) rfl dX6_sides_33 ?_
          refine lv_iload_n hx hb dX6_sides_36 rfl (lv_at hl 1 rfl) ?_
          have hPc := hP.sub (ws' := [(pe, .inr (1, [.ref ka, .ref sa, .int (nI n)])), (ka, .inl (cI, 9, .inl kd))]) [1, 2] rfl
          refine vp_callSi (va_Run.run (va_runV (As := [.int (nI j)]) (rest := [.int (nI j), .ref pe, .ref re]) ⟨hx, hb, hml, hown, hts⟩ (c_X1_kindOf l D cI cO pe ka sa n kd j (by assumption) (by assumption)) (cwV 1 hts gX6_sides_X1_kindOf rfl rfl rfl (by decide +kernel) ⟨Nat.le_of_ble_eq_true rfl, Nat.le_of_ble_eq_true rfl⟩) (preVR hPc hK hNw (va_recv hK hPc (ci := 1) (q0 := 0) rfl rfl)) rfl rfl hl.1 rfl (lv_room (Nat.le_of_ble_eq_true rfl)) dX6_sides_37 ⟨Nat.zero_le _, Nat.zero_le _⟩)) (fun r37 w37 => ?_)
          obtain rfl := w37
          refine lv_iload_n hx hb dX6_sides_40 rfl (lv_at hl 3 rfl) ?_
          have hPc := hP.sub (ws' := []) [] rfl
          refine vp_callSi (va_Run.run (va_runS (As := [.int (kd j), .int (nI i)]) (rest := [.int (nI j), .ref pe, .ref re]) ⟨hx, hb, hml, hown, hts⟩ (c_X1_ring l D cI cO (kd j) (nI i)) (va_cwS 2 hts gX6_sides_X1_ring rfl rfl rfl (by decide +kernel) ⟨Nat.le_of_ble_eq_true rfl, Nat.le_of_ble_eq_true rfl⟩) (preSR hPc hK hNw) rfl rfl hl.1 rfl (lv_room (Nat.le_of_ble_eq_true rfl)) dX6_sides_41 ⟨Nat.zero_le _, Nat.zero_le _⟩)) (fun r41 w41 => ?_)
          obtain rfl := w41
          have hPc := hP.sub (ws' := [(re, .inr (2, [.ref wa, .ref ha, .int (nI rn)])), (wa, .inl (cI, 8, .inl rw_)), (ha, .inl (cI, 8, .inl rh)), (pe, .inr (1, [.ref ka, .ref sa, .int (nI n)])), (ka, .inl (cI, 9, .inl kd)), (sa, .inl (cI, 9, .inl sd))]) [4, 5, 6, 1, 2, 3] rfl
          refine vp_callSi (va_Run.run (va_runV (As := [.ref pe, .int (nI j), .int (ringI (kd j) (nI i))]) (rest := []) ⟨hx, hb, hml, hown, hts⟩ (c_X2_areSo l D cI cO re wa ha rn rw_ rh pe ka sa n kd sd j (ringI (kd j) (nI i)) (by assumption) (by assumption) (by assumption)) (cwV 3 hts gX6_sides_X2_areSo rfl rfl rfl (by decide +kernel) ⟨Nat.le_of_ble_eq_true rfl, Nat.le_of_ble_eq_true rfl⟩) (preVR hPc hK hNw (va_recv hK hPc (ci := 2) (q0 := 0) rfl rfl)) rfl rfl hl.1 rfl (lv_room (Nat.le_of_ble_eq_true rfl)) dX6_sides_44 ⟨Nat.zero_le _, Nat.zero_le _⟩)) (fun r44 w44 => ?_)
          by_cases b44 : soW kd sd rw_ rh j (ringI (kd j) (nI i)) rn 0 = true
          · -- y44
            obtain rfl := w44.1 b44
            have hpv : sidP kd sd rw_ rh rn j i = true := by unfold sidP; rw [b44, decide_eq_true hlo]; rfl
            refine lv_if_eq (tgt := 56) hx hb dX6_sides_47 (by decide) (fun h => absurd h (by decide)) (fun _ => ?_)
            refine lv_iload_n hx hb dX6_sides_50 rfl (lv_at hl 2 rfl) ?_
            refine lv_iconst (v := 1) hx hb dX6_sides_51 (by decide) ?_
            refine lv_iload_n hx hb dX6_sides_52 rfl (lv_at hl 3 rfl) ?_
            refine lv_ishl hx hb dX6_sides_53 ?_
            refine lv_ior hx hb dX6_sides_54 ?_
            refine lv_istore_n (lv' := [(2, .int ((setW (sidP kd sd rw_ rh rn j) i) ||| (1 <<< ((nI i) &&& 31)))), (0, .ref h), (1, .int (nI j)), (3, .int (nI i))]) hx hb dX6_sides_55 rfl hl (by decide) rfl (fun ls hl => ?_)
            refine lv_iinc (v := nI (i + 1)) (lv' := [(3, .int (nI (i + 1))), (2, .int ((setW (sidP kd sd rw_ rh rn j) i) ||| (1 <<< ((nI i) &&& 31)))), (0, .ref h), (1, .int (nI j))]) hx hb dX6_sides_56 hl (k := 3) rfl (nI_1 _) (by decide) rfl (fun ls hl => ?_)
            refine lv_goto (tgt := 17) hx hb dX6_sides_59 (by decide) ?_
            have e17_2 : ((setW (sidP kd sd rw_ rh rn j) i) ||| (1 <<< ((nI i) &&& 31))) = setW (sidP kd sd rw_ rh rn j) (i + 1) := by simp [setW, hpv]
            have hl : lv_has ls 4 [(3, .int (nI (i + 1))), (2, .int (setW (sidP kd sd rw_ rh rn j) (i + 1))), (0, .ref h), (1, .int (nI j))] := by rw [← e17_2]; exact hl
            exact ih17 (i + 1) (by omega) (by omega) (by omega) _ (lv_sub hl [2, 3, 1, 0] rfl)
          · -- n44
            obtain rfl := w44.2 b44
            have hpv : sidP kd sd rw_ rh rn j i = false := by unfold sidP; rw [Bool.not_eq_true] at b44; rw [b44, Bool.and_false]
            refine lv_if_eq (tgt := 56) hx hb dX6_sides_47 (by decide) (fun _ => ?_) (fun h => absurd (by decide) h)
            refine lv_iinc (v := nI (i + 1)) (lv' := [(3, .int (nI (i + 1))), (0, .ref h), (1, .int (nI j)), (2, .int (setW (sidP kd sd rw_ rh rn j) i))]) hx hb dX6_sides_56 hl (k := 3) rfl (nI_1 _) (by decide) rfl (fun ls hl => ?_)
            refine lv_goto (tgt := 17) hx hb dX6_sides_59 (by decide) ?_
            have e17_2 : (setW (sidP kd sd rw_ rh rn j) i) = setW (sidP kd sd rw_ rh rn j) (i + 1) := by simp [setW, hpv]
            have hl : lv_has ls 4 [(3, .int (nI (i + 1))), (0, .ref h), (1, .int (nI j)), (2, .int (setW (sidP kd sd rw_ rh rn j) (i + 1)))] := by rw [← e17_2]; exact hl
            exact ih17 (i + 1) (by omega) (by omega) (by omega) _ (lv_sub hl [1, 2, 3, 0] rfl)
    exact lp17 _ 1 (by decide) (by decide) (Nat.lt_succ_self _) _ (lv_sub hl [2, 3, 1, 0] rfl)
  · -- n5
    obtain rfl := w5.2 b5
    refine lv_if_ne (tgt := 13) hx hb dX6_sides_8 (by decide) (fun h => absurd (by decide) h) (fun _ => ?_)
    refine lv_iconst (v := -1) hx hb dX6_sides_11 (by decide) ?_
    exact W.iret (v := -1) hx hb hr (fun t ht hW => ⟨_, rfl, by first | (simp [onQ_out b5]; done) | (rw [onQ_in hj (by omega)]), ht⟩) (fun _ h => absurd h List.not_mem_nil) dX6_sides_12

set_option maxHeartbeats 4000000 in
set_option maxRecDepth 100000 in
theorem c_X6_kinds (l : Launch) (D : va_G) (cI cO : ClassId) (h : Nat) (aS : Nat) (pe : Nat) (tq : Nat) (se : Nat) (mo : Nat) (re : Nat) (bar : Int32) (tr : Int32) (fa : Int32) (ka : Nat) (sa : Nat) (n : Nat) (kd : Nat → Int32) (sd : Nat → Int32) (wa : Nat) (ha : Nat) (rn : Nat) (rw_ : Nat → Int32) (rh : Nat → Int32) (pp : Int32) (hn : n ≤ 9) (hr8 : rn ≤ 8) (hw : ∀ k, k < rn → ∃ w, w < n ∧ rw_ k = nI w) : Met l yX6_kinds wsX6_kinds ({ frames := 3, cells := 0, slots := 0, locals := 67 } : Room) (va_Pc [.ref h, .int pp] (wdR D cI cO [(h, .inr (6, [.ref aS, .ref pe, .ref tq, .ref se, .ref mo, .ref re, .int bar, .int tr, .int fa])), (pe, .inr (1, [.ref ka, .ref sa, .int (nI n)])), (ka, .inl (cI, 9, .inl kd)), (sa, .inl (cI, 9, .inl sd)), (re, .inr (2, [.ref wa, .ref ha, .int (nI rn)])), (wa, .inl (cI, 8, .inl rw_)), (ha, .inl (cI, 8, .inl rh))])) (vp_Si (fun r => r = (onQ n pp (fun j => setW (kinP kd sd rw_ rh rn j) 3) (-1)))) 0 0 (fun _ => False) := by
  refine Met.ofW (cc := cX6_kinds) (maxL := 4) (ret := (some .int)) (by decide) rfl ?_
  intro p e s m args below meth c s₁ B hml hv
  obtain ⟨rfl, hP, hK, hNw⟩ := hv
  have hx := B.exec
  have hb := B.bytes
  have hr := B.returns
  have hts := atoms_spec (ws := wsX6_kinds) B.pre
  have hown : s.vm.findClass RX6 = some m.cls := findClass_of_methodNamed B.named
  have hlocks := B.notSynchronized
  have f21 := hts (.fieldLink RX6 21 "StruckThrees" "people" "LStruckThrees$People;") (by decide +kernel)
  have f49 := hts (.fieldLink RX6 49 "StruckThrees" "readings" "LStruckThrees$Readings;") (by decide +kernel)
  have iX6 : ∀ w ∈ wsX60, w ∈ wsX6_kinds := by decide +kernel
  have hP : va_P D vwCl [(h, .inr (6, [.ref aS, .ref pe, .ref tq, .ref se, .ref mo, .ref re, .int bar, .int tr, .int fa])), (pe, .inr (1, [.ref ka, .ref sa, .int (nI n)])), (ka, .inl (cI, 9, .inl kd)), (sa, .inl (cI, 9, .inl sd)), (re, .inr (2, [.ref wa, .ref ha, .int (nI rn)])), (wa, .inl (cI, 8, .inl rw_)), (ha, .inl (cI, 8, .inl rh))] s.heap := hP
  have hl := lv_entry ([.ref h, .int pp]) (n := 4) (Nat.le_of_ble_eq_true rfl)
  rw [lg_entry_eq]
  generalize (lg_sl ([.ref h, .int pp]) ++ List.replicate (4 - (lg_sl ([.ref h, .int pp])).length) Slot.unset).toArray = ls at hl ⊢
  have hl : lv_has ls 4 [(0, .ref h), (1, .int pp)] := hl
  refine lv_aload_n hx hb dX6_kinds_0 rfl (lv_at hl 0 rfl) ?_
  refine va_get (D := D) (ci := 6) (v := .ref pe) (C := RX6) (T := TX6) (N := 9) hx hb hts iX6 hown hK hP 0 rfl rfl 1 (by decide) f21 (fun _ h9 => h9) rfl dX6_kinds_1 ?_
  refine lv_iload_n hx hb dX6_kinds_4 rfl (lv_at hl 1 rfl) ?_
  have hPc := hP.sub (ws' := [(pe, .inr (1, [.ref ka, .ref sa, .int (nI n)]))]) [1] rfl
  refine vp_callSi (va_Run.run (va_runV (As := [.int pp]) (rest := []) ⟨hx, hb, hml, hown, hts⟩ (c_X1_has l D cI cO pe ka sa n pp) (cwV 1 hts gX6_kinds_X1_has rfl rfl rfl (by decide +kernel) ⟨Nat.le_of_ble_eq_true rfl, Nat.le_of_ble_eq_true rfl⟩) (preVR hPc hK hNw (va_recv hK hPc (ci := 1) (q0 := 0) rfl rfl)) rfl rfl hl.1 rfl (lv_room (Nat.le_of_ble_eq_true rfl)) dX6_kinds_5 ⟨Nat.zero_le _, Nat.zero_le _⟩)) (fun r5 w5 => ?_)
  by_cases b5 : ¬ pp < 0 ∧ ¬ nI n ≤ pp
  · -- y5
    obtain rfl := w5.1 b5
    obtain ⟨j, hj, rfl⟩ := in_nat b5 (show n < 2 ^ 31 by omega)
    refine lv_if_ne (tgt := 13) hx hb dX6_kinds_8 (by decide) (fun _ => ?_) (fun h => absurd h (by decide))
    refine lv_iconst (v := 0) hx hb dX6_kinds_13 (by decide) ?_
    refine lv_istore_n (lv' := [(2, .int 0), (0, .ref h), (1, .int (nI j))]) hx hb dX6_kinds_14 rfl hl (by decide) rfl (fun ls hl => ?_)
    refine lv_iconst (v := 0) hx hb dX6_kinds_15 (by decide) ?_
    refine lv_istore_n (lv' := [(3, .int 0), (2, .int 0), (0, .ref h), (1, .int (nI j))]) hx hb dX6_kinds_16 rfl hl (by decide) rfl (fun ls hl => ?_)
    have lp17 : ∀ (fu17 : Nat) (i : Nat) (hi : i ≤ 3) (hlo : 0 ≤ i) (hm17 : 3 - i < fu17) (ls : Array Slot) (hl : lv_has ls 4 [(0, .ref h), (1, .int (nI j)), (2, .int (setW (kinP kd sd rw_ rh rn j) i)), (3, .int (nI i))]), W p l e (headSpec wsX6_kinds ({ frames := 3, cells := 0, slots := 0, locals := 67 } : Room)).room s m ([.ref h, .int (nI j)]).toArray below meth c s.heap [] 0 0 (MQ below (vp_Si (fun r => r = (onQ n (nI j) (fun j => setW (kinP kd sd rw_ rh rn j) 3) (-1)))) ([.ref h, .int (nI j)]).toArray s 0 0 (fun _ => False)) (F0 m 17 ls []) := by
      intro fu17
      induction fu17 with
      | zero =>
        intros; omega
      | succ fu17 ih17 =>
        intro i hi hlo hm17 ls hl
        refine lv_iload_n hx hb dX6_kinds_17 rfl (lv_at hl 3 rfl) ?_
        refine lv_iconst (v := 2) hx hb dX6_kinds_18 (by decide) ?_
        refine lv_icmp_gt (tgt := 61) hx hb dX6_kinds_19 (by decide) (fun c19 => ?_) (fun c19 => ?_)
        · -- t19
          have e19 : i = 3 := by have q := (nI_ltI (a := 2) (by decide) (by omega)).mp c19; omega
          rw [e19] at hl
          refine lv_iload_n hx hb dX6_kinds_61 rfl (lv_at hl 2 rfl) ?_
          exact W.iret (v := setW (kinP kd sd rw_ rh rn j) 3) hx hb hr (fun t ht hW => ⟨_, rfl, by first | (simp [onQ_out b5]; done) | (rw [onQ_in hj (by omega)]), ht⟩) (fun _ h => absurd h List.not_mem_nil) dX6_kinds_62
        · -- f19
          have l19 : i < 3 := by have q := mt (nI_ltI (a := 2) (by decide) (by omega)).mpr c19; omega
          refine lv_aload_n hx hb dX6_kinds_22 rfl (lv_at hl 0 rfl) ?_
          refine va_get (D := D) (ci := 6) (v := .ref re) (C := RX6) (T := TX6) (N := 9) hx hb hts iX6 hown hK hP 0 rfl rfl 5 (by decide) f49 (fun _ h9 => h9) rfl dX6_kinds_23 ?_
          refine lv_aload_n hx hb dX6_kinds_26 rfl (lv_at hl 0 rfl) ?_
          refine va_get (D := D) (ci := 6) (v := .ref pe) (C := RX6) (T := TX6) (N := 9) hx hb hts iX6 hown hK hP 0 rfl rfl 1 (by decide) f21 (fun _ h9 => h9) rfl dX6_kinds_27 ?_
          refine lv_iload_n hx hb dX6_kinds_30 rfl (lv_at hl 1 rfl) ?_
          refine lv_iload_n hx hb dX6_kinds_31 rfl (lv_at hl 3 rfl) ?_
          refine lv_aload_n hx hb dX6_kinds_32 rfl (lv_at hl 0 rfl) ?_
          refine va_get (D := D) (ci := 6) (v := .ref pe) (C := RX6) (T := TX6) (N := 9) hx hb hts iX6 hown hK hP 0 rfl rfl 1 (by decide) f21 (fun _ h9 => h9) rfl dX6_kinds_33 ?_
          refine lv_iload_n hx hb dX6_kinds_36 rfl (lv_at hl 1 rfl) ?_
          have hPc := hP.sub (ws' := [(pe, .inr (1, [.ref ka, .ref sa, .int (nI n)])), (sa, .inl (cI, 9, .inl sd))]) [1, 3] rfl
          refine vp_callSi (va_Run.run (va_runV (As := [.int (nI j)]) (rest := [.int (nI i), .int (nI j), .ref pe, .ref re]) ⟨hx, hb, hml, hown, hts⟩ (c_X1_sideOf l D cI cO pe ka sa n sd (nI j) (by assumption)) (cwV 1 hts gX6_kinds_X1_sideOf rfl rfl rfl (by decide +kernel) ⟨Nat.le_of_ble_eq_true rfl, Nat.le_of_ble_eq_true rfl⟩) (preVR hPc hK hNw (va_recv hK hPc (ci := 1) (q0 := 0) rfl rfl)) rfl rfl hl.1 rfl (lv_room (Nat.le_of_ble_eq_true rfl)) dX6_kinds_37 ⟨Nat.zero_le _, Nat.zero_le _⟩)) (fun r37 w37 => ?_)
          obtain rfl := w37
          refine tp_i (y := sd j) (sideF_in hj (by omega)) ?_
          have hPc := hP.sub (ws' := []) [] rfl
          refine vp_callSi (va_Run.run (va_runS (As := [.int (nI i), .int (sd j)]) (rest := [.int (nI j), .ref pe, .ref re]) ⟨hx, hb, hml, hown, hts⟩ (c_X1_ring l D cI cO (nI i) (sd j)) (va_cwS 2 hts gX6_kinds_X1_ring rfl rfl rfl (by decide +kernel) ⟨Nat.le_of_ble_eq_true rfl, Nat.le_of_ble_eq_true rfl⟩) (preSR hPc hK hNw) rfl rfl hl.1 rfl (lv_room (Nat.le_of_ble_eq_true rfl)) dX6_kinds_40 ⟨Nat.zero_le _, Nat.zero_le _⟩)) (fun r40 w40 => ?_)
          obtain rfl := w40
          have hPc := hP.sub (ws' := [(re, .inr (2, [.ref wa, .ref ha, .int (nI rn)])), (wa, .inl (cI, 8, .inl rw_)), (ha, .inl (cI, 8, .inl rh)), (pe, .inr (1, [.ref ka, .ref sa, .int (nI n)])), (ka, .inl (cI, 9, .inl kd)), (sa, .inl (cI, 9, .inl sd))]) [4, 5, 6, 1, 2, 3] rfl
          refine vp_callSi (va_Run.run (va_runV (As := [.ref pe, .int (nI j), .int (ringI (nI i) (sd j))]) (rest := []) ⟨hx, hb, hml, hown, hts⟩ (c_X2_areSo l D cI cO re wa ha rn rw_ rh pe ka sa n kd sd j (ringI (nI i) (sd j)) (by assumption) (by assumption) (by assumption)) (cwV 3 hts gX6_kinds_X2_areSo rfl rfl rfl (by decide +kernel) ⟨Nat.le_of_ble_eq_true rfl, Nat.le_of_ble_eq_true rfl⟩) (preVR hPc hK hNw (va_recv hK hPc (ci := 2) (q0 := 0) rfl rfl)) rfl rfl hl.1 rfl (lv_room (Nat.le_of_ble_eq_true rfl)) dX6_kinds_43 ⟨Nat.zero_le _, Nat.zero_le _⟩)) (fun r43 w43 => ?_)
          by_cases b43 : soW kd sd rw_ rh j (ringI (nI i) (sd j)) rn 0 = true
          · -- y43
            obtain rfl := w43.1 b43
            have hpv : kinP kd sd rw_ rh rn j i = true := b43
            refine lv_if_eq (tgt := 55) hx hb dX6_kinds_46 (by decide) (fun h => absurd h (by decide)) (fun _ => ?_)
            refine lv_iload_n hx hb dX6_kinds_49 rfl (lv_at hl 2 rfl) ?_
            refine lv_iconst (v := 1) hx hb dX6_kinds_50 (by decide) ?_
            refine lv_iload_n hx hb dX6_kinds_51 rfl (lv_at hl 3 rfl) ?_
            refine lv_ishl hx hb dX6_kinds_52 ?_
            refine lv_ior hx hb dX6_kinds_53 ?_
            refine lv_istore_n (lv' := [(2, .int ((setW (kinP kd sd rw_ rh rn j) i) ||| (1 <<< ((nI i) &&& 31)))), (0, .ref h), (1, .int (nI j)), (3, .int (nI i))]) hx hb dX6_kinds_54 rfl hl (by decide) rfl (fun ls hl => ?_)
            refine lv_iinc (v := nI (i + 1)) (lv' := [(3, .int (nI (i + 1))), (2, .int ((setW (kinP kd sd rw_ rh rn j) i) ||| (1 <<< ((nI i) &&& 31)))), (0, .ref h), (1, .int (nI j))]) hx hb dX6_kinds_55 hl (k := 3) rfl (nI_1 _) (by decide) rfl (fun ls hl => ?_)
            refine lv_goto (tgt := 17) hx hb dX6_kinds_58 (by decide) ?_
            have e17_2 : ((setW (kinP kd sd rw_ rh rn j) i) ||| (1 <<< ((nI i) &&& 31))) = setW (kinP kd sd rw_ rh rn j) (i + 1) := by simp [setW, hpv]
            have hl : lv_has ls 4 [(3, .int (nI (i + 1))), (2, .int (setW (kinP kd sd rw_ rh rn j) (i + 1))), (0, .ref h), (1, .int (nI j))] := by rw [← e17_2]; exact hl
            exact ih17 (i + 1) (by omega) (by omega) (by omega) _ (lv_sub hl [2, 3, 1, 0] rfl)
          · -- n43
            obtain rfl := w43.2 b43
            have hpv : kinP kd sd rw_ rh rn j i = false := by rw [Bool.not_eq_true] at b43; exact b43
            refine lv_if_eq (tgt := 55) hx hb dX6_kinds_46 (by decide) (fun _ => ?_) (fun h => absurd (by decide) h)
            refine lv_iinc (v := nI (i + 1)) (lv' := [(3, .int (nI (i + 1))), (0, .ref h), (1, .int (nI j)), (2, .int (setW (kinP kd sd rw_ rh rn j) i))]) hx hb dX6_kinds_55 hl (k := 3) rfl (nI_1 _) (by decide) rfl (fun ls hl => ?_)
            refine lv_goto (tgt := 17) hx hb dX6_kinds_58 (by decide) ?_
            have e17_2 : (setW (kinP kd sd rw_ rh rn j) i) = setW (kinP kd sd rw_ rh rn j) (i + 1) := by simp [setW, hpv]
            have hl : lv_has ls 4 [(3, .int (nI (i + 1))), (0, .ref h), (1, .int (nI j)), (2, .int (setW (kinP kd sd rw_ rh rn j) (i + 1)))] := by rw [← e17_2]; exact hl
            exact ih17 (i + 1) (by omega) (by omega) (by omega) _ (lv_sub hl [1, 2, 3, 0] rfl)
    exact lp17 _ 0 (by decide) (by decide) (Nat.lt_succ_self _) _ (lv_sub hl [2, 3, 1, 0] rfl)
  · -- n5
    obtain rfl := w5.2 b5
    refine lv_if_ne (tgt := 13) hx hb dX6_kinds_8 (by decide) (fun h => absurd (by decide) h) (fun _ => ?_)
    refine lv_iconst (v := -1) hx hb dX6_kinds_11 (by decide) ?_
    exact W.iret (v := -1) hx hb hr (fun t ht hW => ⟨_, rfl, by first | (simp [onQ_out b5]; done) | (rw [onQ_in hj (by omega)]), ht⟩) (fun _ h => absurd h List.not_mem_nil) dX6_kinds_12

set_option maxHeartbeats 4000000 in
set_option maxRecDepth 100000 in
theorem c_X6_pitched (l : Launch) (D : va_G) (cI cO : ClassId) (h : Nat) (aS : Nat) (pe : Nat) (tq : Nat) (se : Nat) (mo : Nat) (re : Nat) (bar : Int32) (tr : Int32) (fa : Int32) (ka : Nat) (sa : Nat) (n : Nat) (kd : Nat → Int32) (sd : Nat → Int32) (v : Int32) (kk : Int32) (hn : n ≤ 9) (hs : ∀ j, j < n → 1 ≤ sd j) : Met l yX6_pitched wsX6_pitched ({ frames := 4, cells := 0, slots := 0, locals := 86 } : Room) (va_Pc [.ref h, .int v, .int kk] (wdR D cI cO [(h, .inr (6, [.ref aS, .ref pe, .ref tq, .ref se, .ref mo, .ref re, .int bar, .int tr, .int fa])), (pe, .inr (1, [.ref ka, .ref sa, .int (nI n)])), (sa, .inl (cI, 9, .inl sd))])) (vp_Si (fun r => r = (pitR n sd v kk))) 0 0 (fun _ => False) := by
  refine Met.ofW (cc := cX6_pitched) (maxL := 5) (ret := (some .int)) (by decide) rfl ?_
  intro p e s m args below meth c s₁ B hml hv
  obtain ⟨rfl, hP, hK, hNw⟩ := hv
  have hx := B.exec
  have hb := B.bytes
  have hr := B.returns
  have hts := atoms_spec (ws := wsX6_pitched) B.pre
  have hown : s.vm.findClass RX6 = some m.cls := findClass_of_methodNamed B.named
  have hlocks := B.notSynchronized
  have f21 := hts (.fieldLink RX6 21 "StruckThrees" "people" "LStruckThrees$People;") (by decide +kernel)
  have f94 := hNw.f (args := ([.ref h, .int v, .int kk]).toArray) ("StruckThrees", 94, "StruckThrees$People", "count", "I") (by decide)
  have iX1 : ∀ w ∈ wsX10, w ∈ wsX6_pitched := by decide +kernel
  have iX6 : ∀ w ∈ wsX60, w ∈ wsX6_pitched := by decide +kernel
  have hP : va_P D vwCl [(h, .inr (6, [.ref aS, .ref pe, .ref tq, .ref se, .ref mo, .ref re, .int bar, .int tr, .int fa])), (pe, .inr (1, [.ref ka, .ref sa, .int (nI n)])), (sa, .inl (cI, 9, .inl sd))] s.heap := hP
  have hl := lv_entry ([.ref h, .int v, .int kk]) (n := 5) (Nat.le_of_ble_eq_true rfl)
  rw [lg_entry_eq]
  generalize (lg_sl ([.ref h, .int v, .int kk]) ++ List.replicate (5 - (lg_sl ([.ref h, .int v, .int kk])).length) Slot.unset).toArray = ls at hl ⊢
  have hl : lv_has ls 5 [(0, .ref h), (1, .int v), (2, .int kk)] := hl
  have hb2 := bnd_t hn
  refine lv_iload_n hx hb dX6_pitched_0 rfl (lv_at hl 1 rfl) ?_
  refine lv_iconst (v := 3) hx hb dX6_pitched_1 (by decide) ?_
  refine lv_icmp_lt (tgt := 22) hx hb dX6_pitched_2 (by decide) (fun c2 => ?_) (fun c2 => ?_)
  · -- t2
    refine lv_bipush (v := -2) hx hb dX6_pitched_22 (by decide) ?_
    exact W.iret (v := -2) hx hb hr (fun t ht hW => ⟨_, rfl, by simp [pitR, *], ht⟩) (fun _ h => absurd h List.not_mem_nil) dX6_pitched_24
  · -- f2
    refine lv_iload_n hx hb dX6_pitched_5 rfl (lv_at hl 1 rfl) ?_
    refine lv_bipush (v := 27) hx hb dX6_pitched_6 (by decide) ?_
    refine lv_icmp_gt (tgt := 22) hx hb dX6_pitched_8 (by decide) (fun c8 => ?_) (fun c8 => ?_)
    · -- t8
      refine lv_bipush (v := -2) hx hb dX6_pitched_22 (by decide) ?_
      exact W.iret (v := -2) hx hb hr (fun t ht hW => ⟨_, rfl, by simp [pitR, *], ht⟩) (fun _ h => absurd h List.not_mem_nil) dX6_pitched_24
    · -- f8
      refine lv_iload_n hx hb dX6_pitched_11 rfl (lv_at hl 2 rfl) ?_
      refine lv_iconst (v := -1) hx hb dX6_pitched_12 (by decide) ?_
      refine lv_icmp_lt (tgt := 22) hx hb dX6_pitched_13 (by decide) (fun c13 => ?_) (fun c13 => ?_)
      · -- t13
        refine lv_bipush (v := -2) hx hb dX6_pitched_22 (by decide) ?_
        exact W.iret (v := -2) hx hb hr (fun t ht hW => ⟨_, rfl, by simp [pitR, *], ht⟩) (fun _ h => absurd h List.not_mem_nil) dX6_pitched_24
      · -- f13
        refine lv_iload_n hx hb dX6_pitched_16 rfl (lv_at hl 2 rfl) ?_
        refine lv_bipush (v := 83) hx hb dX6_pitched_17 (by decide) ?_
        refine lv_icmp_le (tgt := 25) hx hb dX6_pitched_19 (by decide) (fun c19 => ?_) (fun c19 => ?_)
        · -- t19
          refine lv_aload_n hx hb dX6_pitched_25 rfl (lv_at hl 0 rfl) ?_
          refine va_get (D := D) (ci := 6) (v := .ref pe) (C := RX6) (T := TX6) (N := 9) hx hb hts iX6 hown hK hP 0 rfl rfl 1 (by decide) f21 (fun _ h9 => h9) rfl dX6_pitched_26 ?_
          refine va_getN (D := D) (ci := 1) (v := .int (nI n)) (C := RX1) (T := TX1) (N := 3) hx hb hts iX1 hown hK hP 1 rfl rfl 2 (by decide) f94 (fun _ h9 => h9) rfl dX6_pitched_29 ?_
          refine lv_if_ne (tgt := 38) hx hb dX6_pitched_32 (by decide) (fun c32 => ?_) (fun c32 => ?_)
          · -- t32
            refine lv_iconst (v := 0) hx hb dX6_pitched_38 (by decide) ?_
            refine lv_istore_n (lv' := [(3, .int 0), (0, .ref h), (1, .int v), (2, .int kk)]) hx hb dX6_pitched_39 rfl hl (by decide) rfl (fun ls hl => ?_)
            refine lv_iconst (v := 0) hx hb dX6_pitched_40 (by decide) ?_
            refine lv_istore (lv' := [(4, .int 0), (3, .int 0), (0, .ref h), (1, .int v), (2, .int kk)]) hx hb dX6_pitched_41 hl (by decide) rfl (fun ls hl => ?_)
            have lp43 : ∀ (fu43 : Nat) (i : Nat) (mn : Int32) (hi : i ≤ 2 ^ n) (hq : pitW n sd v kk (2 ^ n - i) i mn = pitW n sd v kk (2 ^ n) 0 0) (hm43 : 2 ^ n - i < fu43) (ls : Array Slot) (hl : lv_has ls 5 [(0, .ref h), (1, .int v), (2, .int kk), (3, .int mn), (4, .int (nI i))]), W p l e (headSpec wsX6_pitched ({ frames := 4, cells := 0, slots := 0, locals := 86 } : Room)).room s m ([.ref h, .int v, .int kk]).toArray below meth c s.heap [] 0 0 (MQ below (vp_Si (fun r => r = (pitR n sd v kk))) ([.ref h, .int v, .int kk]).toArray s 0 0 (fun _ => False)) (F0 m 43 ls []) := by
              intro fu43
              induction fu43 with
              | zero =>
                intros; omega
              | succ fu43 ih43 =>
                intro i mn hi hq hm43 ls hl
                refine lv_iload hx hb dX6_pitched_43 (lv_at hl 4 rfl) ?_
                refine lv_aload_n hx hb dX6_pitched_45 rfl (lv_at hl 0 rfl) ?_
                refine va_get (D := D) (ci := 6) (v := .ref pe) (C := RX6) (T := TX6) (N := 9) hx hb hts iX6 hown hK hP 0 rfl rfl 1 (by decide) f21 (fun _ h9 => h9) rfl dX6_pitched_46 ?_
                have hPc := hP.sub (ws' := [(pe, .inr (1, [.ref ka, .ref sa, .int (nI n)]))]) [1] rfl
                refine vp_callSi (va_Run.run (va_runV (As := []) (rest := [.int (nI i)]) ⟨hx, hb, hml, hown, hts⟩ (c_X1_allSets l D cI cO pe ka sa n (by assumption)) (cwV 0 hts gX6_pitched_X1_allSets rfl rfl rfl (by decide +kernel) ⟨Nat.le_of_ble_eq_true rfl, Nat.le_of_ble_eq_true rfl⟩) (preVR hPc hK hNw (va_recv hK hPc (ci := 1) (q0 := 0) rfl rfl)) rfl rfl hl.1 rfl (lv_room (Nat.le_of_ble_eq_true rfl)) dX6_pitched_49 ⟨Nat.zero_le _, Nat.zero_le _⟩)) (fun r49 w49 => ?_)
                obtain rfl := w49
                refine lv_icmp_ge (tgt := 97) hx hb dX6_pitched_52 (by decide) (fun c52 => ?_) (fun c52 => ?_)
                · -- t52
                  have e52 : i = 2 ^ n := by have q := ge_n (by omega) (by omega) c52; omega
                  rw [e52] at hl
                  refine lv_iload_n hx hb dX6_pitched_97 rfl (lv_at hl 2 rfl) ?_
                  refine lv_iconst (v := -1) hx hb dX6_pitched_98 (by decide) ?_
                  refine lv_icmp_ne (tgt := 106) hx hb dX6_pitched_99 (by decide) (fun c99 => ?_) (fun c99 => ?_)
                  · -- t99
                    refine lv_bipush (v := -9) hx hb dX6_pitched_106 (by decide) ?_
                    exact W.iret (v := -9) hx hb hr (fun t ht hW => ⟨_, rfl, by unfold pitR; rw [if_pos ⟨c2, c8, c13, c19⟩, if_neg c32, ← hq, e52, Nat.sub_self]; simp [pitW, *], ht⟩) (fun _ h => absurd h List.not_mem_nil) dX6_pitched_108
                  · -- f99
                    refine lv_iload_n hx hb dX6_pitched_102 rfl (lv_at hl 3 rfl) ?_
                    refine lv_goto (tgt := 108) hx hb dX6_pitched_103 (by decide) ?_
                    exact W.iret (v := mn) hx hb hr (fun t ht hW => ⟨_, rfl, by unfold pitR; rw [if_pos ⟨c2, c8, c13, c19⟩, if_neg c32, ← hq, e52, Nat.sub_self]; simp [pitW, *], ht⟩) (fun _ h => absurd h List.not_mem_nil) dX6_pitched_108
                · -- f52
                  have l52 : i < 2 ^ n := lt_n (by omega) (by omega) c52
                  refine lv_aload_n hx hb dX6_pitched_55 rfl (lv_at hl 0 rfl) ?_
                  refine va_get (D := D) (ci := 6) (v := .ref pe) (C := RX6) (T := TX6) (N := 9) hx hb hts iX6 hown hK hP 0 rfl rfl 1 (by decide) f21 (fun _ h9 => h9) rfl dX6_pitched_56 ?_
                  refine lv_iload hx hb dX6_pitched_59 (lv_at hl 4 rfl) ?_
                  have hPc := hP.sub (ws' := [(pe, .inr (1, [.ref ka, .ref sa, .int (nI n)])), (sa, .inl (cI, 9, .inl sd))]) [1, 2] rfl
                  refine vp_callSi (va_Run.run (va_runV (As := [.int (nI i)]) (rest := []) ⟨hx, hb, hml, hown, hts⟩ (c_X1_canHang l D cI cO pe ka sa n sd (nI i) (by assumption) (by assumption)) (cwV 1 hts gX6_pitched_X1_canHang rfl rfl rfl (by decide +kernel) ⟨Nat.le_of_ble_eq_true rfl, Nat.le_of_ble_eq_true rfl⟩) (preVR hPc hK hNw (va_recv hK hPc (ci := 1) (q0 := 0) rfl rfl)) rfl rfl hl.1 rfl (lv_room (Nat.le_of_ble_eq_true rfl)) dX6_pitched_61 ⟨Nat.zero_le _, Nat.zero_le _⟩)) (fun r61 w61 => ?_)
                  by_cases b61 : canH n sd (nI i) = true
                  · -- y61
                    obtain rfl := w61.1 b61
                    refine lv_if_eq (tgt := 91) hx hb dX6_pitched_64 (by decide) (fun h => absurd h (by decide)) (fun _ => ?_)
                    refine lv_aload_n hx hb dX6_pitched_67 rfl (lv_at hl 0 rfl) ?_
                    refine va_get (D := D) (ci := 6) (v := .ref pe) (C := RX6) (T := TX6) (N := 9) hx hb hts iX6 hown hK hP 0 rfl rfl 1 (by decide) f21 (fun _ h9 => h9) rfl dX6_pitched_68 ?_
                    refine lv_iload hx hb dX6_pitched_71 (lv_at hl 4 rfl) ?_
                    have hPc := hP.sub (ws' := [(pe, .inr (1, [.ref ka, .ref sa, .int (nI n)])), (sa, .inl (cI, 9, .inl sd))]) [1, 2] rfl
                    refine vp_callSi (va_Run.run (va_runV (As := [.int (nI i)]) (rest := []) ⟨hx, hb, hml, hown, hts⟩ (c_X1_pitchOf l D cI cO pe ka sa n sd (nI i) (by assumption)) (cwV 1 hts gX6_pitched_X1_pitchOf rfl rfl rfl (by decide +kernel) ⟨Nat.le_of_ble_eq_true rfl, Nat.le_of_ble_eq_true rfl⟩) (preVR hPc hK hNw (va_recv hK hPc (ci := 1) (q0 := 0) rfl rfl)) rfl rfl hl.1 rfl (lv_room (Nat.le_of_ble_eq_true rfl)) dX6_pitched_73 ⟨Nat.zero_le _, Nat.zero_le _⟩)) (fun r73 w73 => ?_)
                    obtain rfl := w73
                    refine lv_iload_n hx hb dX6_pitched_76 rfl (lv_at hl 1 rfl) ?_
                    refine lv_icmp_ne (tgt := 91) hx hb dX6_pitched_77 (by decide) (fun c77 => ?_) (fun c77 => ?_)
                    · -- t77
                      refine lv_iinc (v := nI (i + 1)) (lv' := [(4, .int (nI (i + 1))), (0, .ref h), (1, .int v), (2, .int kk), (3, .int mn)]) hx hb dX6_pitched_91 hl (k := 4) rfl (nI_1 _) (by decide) rfl (fun ls hl => ?_)
                      refine lv_goto (tgt := 43) hx hb dX6_pitched_94 (by decide) ?_
                      exact ih43 (i + 1) mn (by omega) (by rw [← hq, show 2 ^ n - i = (2 ^ n - (i + 1)) + 1 by omega, pitW]; simp [*]) (by omega) _ (lv_sub hl [1, 2, 3, 4, 0] rfl)
                    · -- f77
                      refine lv_iload_n hx hb dX6_pitched_80 rfl (lv_at hl 3 rfl) ?_
                      refine lv_iload_n hx hb dX6_pitched_81 rfl (lv_at hl 2 rfl) ?_
                      refine lv_icmp_ne (tgt := 88) hx hb dX6_pitched_82 (by decide) (fun c82 => ?_) (fun c82 => ?_)
                      · -- t82
                        refine lv_iinc (v := mn + 1) (lv' := [(3, .int (mn + 1)), (0, .ref h), (1, .int v), (2, .int kk), (4, .int (nI i))]) hx hb dX6_pitched_88 hl (k := 3) rfl (rfl) (by decide) rfl (fun ls hl => ?_)
                        refine lv_iinc (v := nI (i + 1)) (lv' := [(4, .int (nI (i + 1))), (3, .int (mn + 1)), (0, .ref h), (1, .int v), (2, .int kk)]) hx hb dX6_pitched_91 hl (k := 4) rfl (nI_1 _) (by decide) rfl (fun ls hl => ?_)
                        refine lv_goto (tgt := 43) hx hb dX6_pitched_94 (by decide) ?_
                        exact ih43 (i + 1) (mn + 1) (by omega) (by rw [← hq, show 2 ^ n - i = (2 ^ n - (i + 1)) + 1 by omega, pitW]; simp [*]) (by omega) _ (lv_sub hl [2, 3, 4, 1, 0] rfl)
                      · -- f82
                        refine lv_iload hx hb dX6_pitched_85 (lv_at hl 4 rfl) ?_
                        exact W.iret (v := nI i) hx hb hr (fun t ht hW => ⟨_, rfl, by unfold pitR; rw [if_pos ⟨c2, c8, c13, c19⟩, if_neg c32, ← hq, show 2 ^ n - i = (2 ^ n - (i + 1)) + 1 by omega, pitW]; simp [*], ht⟩) (fun _ h => absurd h List.not_mem_nil) dX6_pitched_87
                  · -- n61
                    obtain rfl := w61.2 b61
                    refine lv_if_eq (tgt := 91) hx hb dX6_pitched_64 (by decide) (fun _ => ?_) (fun h => absurd (by decide) h)
                    refine lv_iinc (v := nI (i + 1)) (lv' := [(4, .int (nI (i + 1))), (0, .ref h), (1, .int v), (2, .int kk), (3, .int mn)]) hx hb dX6_pitched_91 hl (k := 4) rfl (nI_1 _) (by decide) rfl (fun ls hl => ?_)
                    refine lv_goto (tgt := 43) hx hb dX6_pitched_94 (by decide) ?_
                    exact ih43 (i + 1) mn (by omega) (by rw [← hq, show 2 ^ n - i = (2 ^ n - (i + 1)) + 1 by omega, pitW]; simp [*]) (by omega) _ (lv_sub hl [1, 2, 3, 4, 0] rfl)
            exact lp43 _ 0 0 (Nat.zero_le _) (rfl) (Nat.lt_succ_self _) _ (lv_sub hl [2, 3, 4, 1, 0] rfl)
          · -- f32
            refine lv_bipush (v := -3) hx hb dX6_pitched_35 (by decide) ?_
            exact W.iret (v := -3) hx hb hr (fun t ht hW => ⟨_, rfl, by simp [pitR, *], ht⟩) (fun _ h => absurd h List.not_mem_nil) dX6_pitched_37
        · -- f19
          refine lv_bipush (v := -2) hx hb dX6_pitched_22 (by decide) ?_
          exact W.iret (v := -2) hx hb hr (fun t ht hW => ⟨_, rfl, by simp [pitR, *], ht⟩) (fun _ h => absurd h List.not_mem_nil) dX6_pitched_24

set_option maxHeartbeats 4000000 in
set_option maxRecDepth 100000 in
theorem c_X6_rather (l : Launch) (D : va_G) (cI cO : ClassId) (h : Nat) (aS : Nat) (pe : Nat) (tq : Nat) (se : Nat) (mo : Nat) (re : Nat) (bar : Int32) (tr : Int32) (fa : Int32) (ka : Nat) (sa : Nat) (n : Nat) (kd : Nat → Int32) (sd : Nat → Int32) (xa : Nat) (la : Nat) (tn : Nat) (ts : Nat → Int32) (hn : n ≤ 9) (hs : ∀ j, j < n → 1 ≤ sd j) (ht3 : tn ≤ 3) : Met l yX6_rather wsX6_rather ({ frames := 5, cells := 0, slots := 0, locals := 110 } : Room) (va_Pc [.ref h] (wdR D cI cO [(h, .inr (6, [.ref aS, .ref pe, .ref tq, .ref se, .ref mo, .ref re, .int bar, .int tr, .int fa])), (pe, .inr (1, [.ref ka, .ref sa, .int (nI n)])), (ka, .inl (cI, 9, .inl kd)), (sa, .inl (cI, 9, .inl sd)), (tq, .inr (5, [.ref xa, .ref la, .int (nI tn)])), (xa, .inl (cI, 3, .inl ts))])) (vp_Si (fun r => r = (if nI n = 0 then -3 else ratW n kd sd tn ts (2 ^ n) 0))) 0 0 (fun _ => False) := by
  refine Met.ofW (cc := cX6_rather) (maxL := 2) (ret := (some .int)) (by decide) rfl ?_
  intro p e s m args below meth c s₁ B hml hv
  obtain ⟨rfl, hP, hK, hNw⟩ := hv
  have hx := B.exec
  have hb := B.bytes
  have hr := B.returns
  have hts := atoms_spec (ws := wsX6_rather) B.pre
  have hown : s.vm.findClass RX6 = some m.cls := findClass_of_methodNamed B.named
  have hlocks := B.notSynchronized
  have f21 := hts (.fieldLink RX6 21 "StruckThrees" "people" "LStruckThrees$People;") (by decide +kernel)
  have f94 := hNw.f (args := ([.ref h]).toArray) ("StruckThrees", 94, "StruckThrees$People", "count", "I") (by decide)
  have iX1 : ∀ w ∈ wsX10, w ∈ wsX6_rather := by decide +kernel
  have iX6 : ∀ w ∈ wsX60, w ∈ wsX6_rather := by decide +kernel
  have hP : va_P D vwCl [(h, .inr (6, [.ref aS, .ref pe, .ref tq, .ref se, .ref mo, .ref re, .int bar, .int tr, .int fa])), (pe, .inr (1, [.ref ka, .ref sa, .int (nI n)])), (ka, .inl (cI, 9, .inl kd)), (sa, .inl (cI, 9, .inl sd)), (tq, .inr (5, [.ref xa, .ref la, .int (nI tn)])), (xa, .inl (cI, 3, .inl ts))] s.heap := hP
  have hl := lv_entry ([.ref h]) (n := 2) (Nat.le_of_ble_eq_true rfl)
  rw [lg_entry_eq]
  generalize (lg_sl ([.ref h]) ++ List.replicate (2 - (lg_sl ([.ref h])).length) Slot.unset).toArray = ls at hl ⊢
  have hl : lv_has ls 2 [(0, .ref h)] := hl
  have hb2 := bnd_t hn
  refine lv_aload_n hx hb dX6_rather_0 rfl (lv_at hl 0 rfl) ?_
  refine va_get (D := D) (ci := 6) (v := .ref pe) (C := RX6) (T := TX6) (N := 9) hx hb hts iX6 hown hK hP 0 rfl rfl 1 (by decide) f21 (fun _ h9 => h9) rfl dX6_rather_1 ?_
  refine va_getN (D := D) (ci := 1) (v := .int (nI n)) (C := RX1) (T := TX1) (N := 3) hx hb hts iX1 hown hK hP 1 rfl rfl 2 (by decide) f94 (fun _ h9 => h9) rfl dX6_rather_4 ?_
  refine lv_if_ne (tgt := 13) hx hb dX6_rather_7 (by decide) (fun c7 => ?_) (fun c7 => ?_)
  · -- t7
    refine lv_iconst (v := 0) hx hb dX6_rather_13 (by decide) ?_
    refine lv_istore_n (lv' := [(1, .int 0), (0, .ref h)]) hx hb dX6_rather_14 rfl hl (by decide) rfl (fun ls hl => ?_)
    have lp15 : ∀ (fu15 : Nat) (i : Nat) (hi : i ≤ 2 ^ n) (hq : ratW n kd sd tn ts (2 ^ n - i) i = ratW n kd sd tn ts (2 ^ n) 0) (hm15 : 2 ^ n - i < fu15) (ls : Array Slot) (hl : lv_has ls 2 [(0, .ref h), (1, .int (nI i))]), W p l e (headSpec wsX6_rather ({ frames := 5, cells := 0, slots := 0, locals := 110 } : Room)).room s m ([.ref h]).toArray below meth c s.heap [] 0 0 (MQ below (vp_Si (fun r => r = (if nI n = 0 then -3 else ratW n kd sd tn ts (2 ^ n) 0))) ([.ref h]).toArray s 0 0 (fun _ => False)) (F0 m 15 ls []) := by
      intro fu15
      induction fu15 with
      | zero =>
        intros; omega
      | succ fu15 ih15 =>
        intro i hi hq hm15 ls hl
        refine lv_iload_n hx hb dX6_rather_15 rfl (lv_at hl 1 rfl) ?_
        refine lv_aload_n hx hb dX6_rather_16 rfl (lv_at hl 0 rfl) ?_
        refine va_get (D := D) (ci := 6) (v := .ref pe) (C := RX6) (T := TX6) (N := 9) hx hb hts iX6 hown hK hP 0 rfl rfl 1 (by decide) f21 (fun _ h9 => h9) rfl dX6_rather_17 ?_
        have hPc := hP.sub (ws' := [(pe, .inr (1, [.ref ka, .ref sa, .int (nI n)]))]) [1] rfl
        refine vp_callSi (va_Run.run (va_runV (As := []) (rest := [.int (nI i)]) ⟨hx, hb, hml, hown, hts⟩ (c_X1_allSets l D cI cO pe ka sa n (by assumption)) (cwV 0 hts gX6_rather_X1_allSets rfl rfl rfl (by decide +kernel) ⟨Nat.le_of_ble_eq_true rfl, Nat.le_of_ble_eq_true rfl⟩) (preVR hPc hK hNw (va_recv hK hPc (ci := 1) (q0 := 0) rfl rfl)) rfl rfl hl.1 rfl (lv_room (Nat.le_of_ble_eq_true rfl)) dX6_rather_20 ⟨Nat.zero_le _, Nat.zero_le _⟩)) (fun r20 w20 => ?_)
        obtain rfl := w20
        refine lv_icmp_ge (tgt := 61) hx hb dX6_rather_23 (by decide) (fun c23 => ?_) (fun c23 => ?_)
        · -- t23
          have e23 : i = 2 ^ n := by have q := ge_n (by omega) (by omega) c23; omega
          rw [e23] at hl
          refine lv_bipush (v := -9) hx hb dX6_rather_61 (by decide) ?_
          exact W.iret (v := -9) hx hb hr (fun t ht hW => ⟨_, rfl, by rw [if_neg c7, ← hq, e23, Nat.sub_self]; rfl, ht⟩) (fun _ h => absurd h List.not_mem_nil) dX6_rather_63
        · -- f23
          have l23 : i < 2 ^ n := lt_n (by omega) (by omega) c23
          refine lv_aload_n hx hb dX6_rather_26 rfl (lv_at hl 0 rfl) ?_
          refine va_get (D := D) (ci := 6) (v := .ref pe) (C := RX6) (T := TX6) (N := 9) hx hb hts iX6 hown hK hP 0 rfl rfl 1 (by decide) f21 (fun _ h9 => h9) rfl dX6_rather_27 ?_
          refine lv_iload_n hx hb dX6_rather_30 rfl (lv_at hl 1 rfl) ?_
          have hPc := hP.sub (ws' := [(pe, .inr (1, [.ref ka, .ref sa, .int (nI n)])), (sa, .inl (cI, 9, .inl sd))]) [1, 3] rfl
          refine vp_callSi (va_Run.run (va_runV (As := [.int (nI i)]) (rest := []) ⟨hx, hb, hml, hown, hts⟩ (c_X1_canHang l D cI cO pe ka sa n sd (nI i) (by assumption) (by assumption)) (cwV 1 hts gX6_rather_X1_canHang rfl rfl rfl (by decide +kernel) ⟨Nat.le_of_ble_eq_true rfl, Nat.le_of_ble_eq_true rfl⟩) (preVR hPc hK hNw (va_recv hK hPc (ci := 1) (q0 := 0) rfl rfl)) rfl rfl hl.1 rfl (lv_room (Nat.le_of_ble_eq_true rfl)) dX6_rather_31 ⟨Nat.zero_le _, Nat.zero_le _⟩)) (fun r31 w31 => ?_)
          by_cases b31 : canH n sd (nI i) = true
          · -- y31
            obtain rfl := w31.1 b31
            refine lv_if_eq (tgt := 55) hx hb dX6_rather_34 (by decide) (fun h => absurd h (by decide)) (fun _ => ?_)
            refine lv_aload_n hx hb dX6_rather_37 rfl (lv_at hl 0 rfl) ?_
            refine va_get (D := D) (ci := 6) (v := .ref pe) (C := RX6) (T := TX6) (N := 9) hx hb hts iX6 hown hK hP 0 rfl rfl 1 (by decide) f21 (fun _ h9 => h9) rfl dX6_rather_38 ?_
            refine lv_iload_n hx hb dX6_rather_41 rfl (lv_at hl 1 rfl) ?_
            have hPc := hP.sub (ws' := [(pe, .inr (1, [.ref ka, .ref sa, .int (nI n)])), (ka, .inl (cI, 9, .inl kd)), (sa, .inl (cI, 9, .inl sd))]) [1, 2, 3] rfl
            refine vp_callSi (va_Run.run (va_runV (As := [.int (nI i)]) (rest := []) ⟨hx, hb, hml, hown, hts⟩ (c_X1_ringsOf l D cI cO pe ka sa n kd sd (nI i) (by assumption)) (cwV 1 hts gX6_rather_X1_ringsOf rfl rfl rfl (by decide +kernel) ⟨Nat.le_of_ble_eq_true rfl, Nat.le_of_ble_eq_true rfl⟩) (preVR hPc hK hNw (va_recv hK hPc (ci := 1) (q0 := 0) rfl rfl)) rfl rfl hl.1 rfl (lv_room (Nat.le_of_ble_eq_true rfl)) dX6_rather_42 ⟨Nat.zero_le _, Nat.zero_le _⟩)) (fun r42 w42 => ?_)
            obtain rfl := w42
            refine lv_aload_n hx hb dX6_rather_45 rfl (lv_at hl 0 rfl) ?_
            refine lv_iload_n hx hb dX6_rather_46 rfl (lv_at hl 1 rfl) ?_
            have hPc := hP.sub (ws' := [(h, .inr (6, [.ref aS, .ref pe, .ref tq, .ref se, .ref mo, .ref re, .int bar, .int tr, .int fa])), (pe, .inr (1, [.ref ka, .ref sa, .int (nI n)])), (ka, .inl (cI, 9, .inl kd)), (sa, .inl (cI, 9, .inl sd)), (tq, .inr (5, [.ref xa, .ref la, .int (nI tn)])), (xa, .inl (cI, 3, .inl ts))]) [0, 1, 2, 3, 4, 5] rfl
            refine vp_callSi (va_Run.run (va_runV (As := [.int (nI i)]) (rest := [.int (sumW (fun p => ringI (kd p) (sd p)) (nI i) n)]) ⟨hx, hb, hml, hown, hts⟩ (c_X6_greatestJoy l D cI cO h aS pe tq se mo re bar tr fa ka sa n kd sd xa la tn ts (nI i) (by assumption) (by assumption)) (cwV 1 hts gX6_rather_X6_greatestJoy rfl rfl rfl (by decide +kernel) ⟨Nat.le_of_ble_eq_true rfl, Nat.le_of_ble_eq_true rfl⟩) (preVR hPc hK hNw (va_recv hK hPc (ci := 6) (q0 := 0) rfl rfl)) rfl rfl hl.1 rfl (lv_room (Nat.le_of_ble_eq_true rfl)) dX6_rather_47 ⟨Nat.zero_le _, Nat.zero_le _⟩)) (fun r47 w47 => ?_)
            obtain rfl := w47
            refine lv_icmp_le (tgt := 55) hx hb dX6_rather_50 (by decide) (fun c50 => ?_) (fun c50 => ?_)
            · -- t50
              refine lv_iinc (v := nI (i + 1)) (lv' := [(1, .int (nI (i + 1))), (0, .ref h)]) hx hb dX6_rather_55 hl (k := 1) rfl (nI_1 _) (by decide) rfl (fun ls hl => ?_)
              refine lv_goto (tgt := 15) hx hb dX6_rather_58 (by decide) ?_
              exact ih15 (i + 1) (by omega) (by rw [← hq, show 2 ^ n - i = (2 ^ n - (i + 1)) + 1 by omega, ratW]; simp [*]) (by omega) _ (lv_sub hl [1, 0] rfl)
            · -- f50
              refine lv_iload_n hx hb dX6_rather_53 rfl (lv_at hl 1 rfl) ?_
              exact W.iret (v := nI i) hx hb hr (fun t ht hW => ⟨_, rfl, by rw [if_neg c7, ← hq, show 2 ^ n - i = (2 ^ n - (i + 1)) + 1 by omega, ratW, if_pos ⟨b31, c50⟩], ht⟩) (fun _ h => absurd h List.not_mem_nil) dX6_rather_54
          · -- n31
            obtain rfl := w31.2 b31
            refine lv_if_eq (tgt := 55) hx hb dX6_rather_34 (by decide) (fun _ => ?_) (fun h => absurd (by decide) h)
            refine lv_iinc (v := nI (i + 1)) (lv' := [(1, .int (nI (i + 1))), (0, .ref h)]) hx hb dX6_rather_55 hl (k := 1) rfl (nI_1 _) (by decide) rfl (fun ls hl => ?_)
            refine lv_goto (tgt := 15) hx hb dX6_rather_58 (by decide) ?_
            exact ih15 (i + 1) (by omega) (by rw [← hq, show 2 ^ n - i = (2 ^ n - (i + 1)) + 1 by omega, ratW]; simp [*]) (by omega) _ (lv_sub hl [1, 0] rfl)
    exact lp15 _ 0 (Nat.zero_le _) (rfl) (Nat.lt_succ_self _) _ (lv_sub hl [1, 0] rfl)
  · -- f7
    refine lv_bipush (v := -3) hx hb dX6_rather_10 (by decide) ?_
    exact W.iret (v := -3) hx hb hr (fun t ht hW => ⟨_, rfl, by simp [*], ht⟩) (fun _ h => absurd h List.not_mem_nil) dX6_rather_12

set_option maxHeartbeats 4000000 in
set_option maxRecDepth 100000 in
theorem c_X6_inLeastTerms (l : Launch) (D : va_G) (cI cO : ClassId) (a : Nat) (b : Nat) (ha : a ≤ 600) (hb6 : b ≤ 600) : Met l yX6_inLeastTerms wsX6_inLeastTerms ({ frames := 1, cells := 0, slots := 0, locals := 21 } : Room) (va_Pc [.int (nI a), .int (nI b)] (wdR D cI cO [])) (vp_Si (fun r => r = (nI (lstN a b (mxN a b))))) 0 0 (fun _ => False) := by
  refine Met.ofW (cc := cX6_inLeastTerms) (maxL := 3) (ret := (some .int)) (by decide) rfl ?_
  intro p e s m args below meth c s₁ B hml hv
  obtain ⟨rfl, hP, hK, hNw⟩ := hv
  have hx := B.exec
  have hb := B.bytes
  have hr := B.returns
  have hts := atoms_spec (ws := wsX6_inLeastTerms) B.pre
  have hown : s.vm.findClass RX6 = some m.cls := findClass_of_methodNamed B.named
  have hlocks := B.notSynchronized
  have hP : va_P D vwCl [] s.heap := hP
  have hl := lv_entry ([.int (nI a), .int (nI b)]) (n := 3) (Nat.le_of_ble_eq_true rfl)
  rw [lg_entry_eq]
  generalize (lg_sl ([.int (nI a), .int (nI b)]) ++ List.replicate (3 - (lg_sl ([.int (nI a), .int (nI b)])).length) Slot.unset).toArray = ls at hl ⊢
  have hl : lv_has ls 3 [(0, .int (nI a)), (1, .int (nI b))] := hl
  refine lv_iload_n hx hb dX6_inLeastTerms_0 rfl (lv_at hl 0 rfl) ?_
  refine lv_iload_n hx hb dX6_inLeastTerms_1 rfl (lv_at hl 1 rfl) ?_
  refine va_mmax hx hb (hml.trans hl.1.symm) hown (hts (.methodLink RX6 199 Lib.Math.max.name) (by decide +kernel)) (hts (.static Lib.Math.max.name) (by decide +kernel)) (hts (.initialized "java/lang/Math") (by decide +kernel)) (hts (.code Lib.Math.max.name Lib.Math.max.code 2 (some .int)) (by decide +kernel)) (Nat.le_of_ble_eq_true rfl) (Nat.le_of_ble_eq_true rfl) (Nat.zero_le _) (Nat.zero_le _) dX6_inLeastTerms_2 ?_
  refine tp_i (y := nI (mxN a b)) (mx_i (by omega) (by omega)) ?_
  refine lv_istore_n (lv' := [(2, .int (nI (mxN a b))), (0, .int (nI a)), (1, .int (nI b))]) hx hb dX6_inLeastTerms_5 rfl hl (by decide) rfl (fun ls hl => ?_)
  have lp6 : ∀ (fu6 : Nat) (d : Nat) (hd6 : d ≤ 600) (hq : lstN a b d = lstN a b (mxN a b)) (hm6 : d < fu6) (ls : Array Slot) (hl : lv_has ls 3 [(0, .int (nI a)), (1, .int (nI b)), (2, .int (nI d))]), W p l e (headSpec wsX6_inLeastTerms ({ frames := 1, cells := 0, slots := 0, locals := 21 } : Room)).room s m ([.int (nI a), .int (nI b)]).toArray below meth c s.heap [] 0 0 (MQ below (vp_Si (fun r => r = (nI (lstN a b (mxN a b))))) ([.int (nI a), .int (nI b)]).toArray s 0 0 (fun _ => False)) (F0 m 6 ls []) := by
    intro fu6
    induction fu6 with
    | zero =>
      intros; omega
    | succ fu6 ih6 =>
      intro d hd6 hq hm6 ls hl
      refine lv_iload_n hx hb dX6_inLeastTerms_6 rfl (lv_at hl 2 rfl) ?_
      refine lv_iconst (v := 1) hx hb dX6_inLeastTerms_7 (by decide) ?_
      refine lv_icmp_le (tgt := 33) hx hb dX6_inLeastTerms_8 (by decide) (fun c8 => ?_) (fun c8 => ?_)
      · -- t8
        have z8 : d ≤ 1 := (nI_leI (b := 1) (by omega) (by decide)).mp c8
        refine lv_iload_n hx hb dX6_inLeastTerms_33 rfl (lv_at hl 0 rfl) ?_
        exact W.iret (v := nI a) hx hb hr (fun t ht hW => ⟨_, rfl, by rw [← hq]; rcases (show d = 0 ∨ d = 1 by omega) with rfl | rfl <;> rfl, ht⟩) (fun _ h => absurd h List.not_mem_nil) dX6_inLeastTerms_34
      · -- f8
        have z8 : 1 < d := by have q := mt (nI_leI (b := 1) (by omega) (by decide)).mpr c8; omega
        have zd : ¬ nI d = 0 := nI_ne0 (by omega) (by omega)
        refine lv_iload_n hx hb dX6_inLeastTerms_11 rfl (lv_at hl 0 rfl) ?_
        refine lv_iload_n hx hb dX6_inLeastTerms_12 rfl (lv_at hl 2 rfl) ?_
        refine lv_irem hx hb dX6_inLeastTerms_13 (by assumption) ?_
        refine tp_i (y := nI (a % d)) (pk_rem (by omega) (by omega) (by omega)) ?_
        refine lv_if_ne (tgt := 27) hx hb dX6_inLeastTerms_14 (by decide) (fun c14 => ?_) (fun c14 => ?_)
        · -- t14
          have z14 : ¬ a % d = 0 := fun q => c14 (by rw [q]; rfl)
          refine lv_iinc (v := (nI d) + (-1)) (lv' := [(2, .int ((nI d) + (-1))), (0, .int (nI a)), (1, .int (nI b))]) hx hb dX6_inLeastTerms_27 hl (k := 2) rfl (rfl) (by decide) rfl (fun ls hl => ?_)
          refine lv_goto (tgt := 6) hx hb dX6_inLeastTerms_30 (by decide) ?_
          have e6_2 : ((nI d) + (-1)) = nI (d - 1) := by obtain ⟨e, rfl⟩ : ∃ e, d = e + 1 := ⟨d - 1, by omega⟩; exact pk_m1 e
          have hl : lv_has ls 3 [(2, .int (nI (d - 1))), (0, .int (nI a)), (1, .int (nI b))] := by rw [← e6_2]; exact hl
          exact ih6 (d - 1) (by omega) (by rw [← hq]; obtain ⟨e, rfl⟩ : ∃ e, d = e + 2 := ⟨d - 2, by omega⟩; exact (if_neg (by simp [*])).symm) (by omega) _ (lv_sub hl [1, 2, 0] rfl)
        · -- f14
          have z14 : a % d = 0 := (nI_zero (Nat.lt_of_le_of_lt (Nat.mod_le _ _) (by omega))).mp c14
          refine lv_iload_n hx hb dX6_inLeastTerms_17 rfl (lv_at hl 1 rfl) ?_
          refine lv_iload_n hx hb dX6_inLeastTerms_18 rfl (lv_at hl 2 rfl) ?_
          refine lv_irem hx hb dX6_inLeastTerms_19 (by assumption) ?_
          refine tp_i (y := nI (b % d)) (pk_rem (by omega) (by omega) (by omega)) ?_
          refine lv_if_ne (tgt := 27) hx hb dX6_inLeastTerms_20 (by decide) (fun c20 => ?_) (fun c20 => ?_)
          · -- t20
            have z20 : ¬ b % d = 0 := fun q => c20 (by rw [q]; rfl)
            refine lv_iinc (v := (nI d) + (-1)) (lv' := [(2, .int ((nI d) + (-1))), (0, .int (nI a)), (1, .int (nI b))]) hx hb dX6_inLeastTerms_27 hl (k := 2) rfl (rfl) (by decide) rfl (fun ls hl => ?_)
            refine lv_goto (tgt := 6) hx hb dX6_inLeastTerms_30 (by decide) ?_
            have e6_2 : ((nI d) + (-1)) = nI (d - 1) := by obtain ⟨e, rfl⟩ : ∃ e, d = e + 1 := ⟨d - 1, by omega⟩; exact pk_m1 e
            have hl : lv_has ls 3 [(2, .int (nI (d - 1))), (0, .int (nI a)), (1, .int (nI b))] := by rw [← e6_2]; exact hl
            exact ih6 (d - 1) (by omega) (by rw [← hq]; obtain ⟨e, rfl⟩ : ∃ e, d = e + 2 := ⟨d - 2, by omega⟩; exact (if_neg (by simp [*])).symm) (by omega) _ (lv_sub hl [1, 2, 0] rfl)
          · -- f20
            have z20 : b % d = 0 := (nI_zero (Nat.lt_of_le_of_lt (Nat.mod_le _ _) (by omega))).mp c20
            refine lv_iload_n hx hb dX6_inLeastTerms_23 rfl (lv_at hl 0 rfl) ?_
            refine lv_iload_n hx hb dX6_inLeastTerms_24 rfl (lv_at hl 2 rfl) ?_
            refine lv_idiv hx hb dX6_inLeastTerms_25 (by assumption) ?_
            refine tp_i (y := nI (a / d)) (pk_div (by omega) (by omega) (by omega)) ?_
            exact W.iret (v := nI (a / d)) hx hb hr (fun t ht hW => ⟨_, rfl, by rw [← hq]; obtain ⟨e, rfl⟩ : ∃ e, d = e + 2 := ⟨d - 2, by omega⟩; unfold lstN; rw [if_pos ⟨z14, z20⟩], ht⟩) (fun _ h => absurd h List.not_mem_nil) dX6_inLeastTerms_26
  exact lp6 _ (mxN a b) (by unfold mxN; by_cases q : a < b <;> simp [q] <;> omega) (rfl) (Nat.lt_succ_self _) _ (lv_sub hl [1, 2, 0] rfl)

set_option maxHeartbeats 4000000 in
set_option maxRecDepth 100000 in
theorem c_X6_odds (l : Launch) (D : va_G) (cI cO : ClassId) (h : Nat) (aS : Nat) (pe : Nat) (tq : Nat) (se : Nat) (mo : Nat) (re : Nat) (bar : Int32) (tr : Int32) (fa : Int32) (ka : Nat) (sa : Nat) (n : Nat) (kd : Nat → Int32) (sd : Nat → Int32) (pp : Int32) (wh : Int32) (hn : n ≤ 9) (hs : ∀ j, j < n → 1 ≤ sd j) : Met l yX6_odds wsX6_odds ({ frames := 4, cells := 0, slots := 0, locals := 86 } : Room) (va_Pc [.ref h, .int pp, .int wh] (wdR D cI cO [(h, .inr (6, [.ref aS, .ref pe, .ref tq, .ref se, .ref mo, .ref re, .int bar, .int tr, .int fa])), (pe, .inr (1, [.ref ka, .ref sa, .int (nI n)])), (sa, .inl (cI, 9, .inl sd))])) (vp_Sl (fun r => r = (oddC n sd pp wh))) 0 0 (fun _ => False) := by
  refine Met.ofW (cc := cX6_odds) (maxL := 7) (ret := (some .long)) (by decide) rfl ?_
  intro p e s m args below meth c s₁ B hml hv
  obtain ⟨rfl, hP, hK, hNw⟩ := hv
  have hx := B.exec
  have hb := B.bytes
  have hr := B.returns
  have hts := atoms_spec (ws := wsX6_odds) B.pre
  have hown : s.vm.findClass RX6 = some m.cls := findClass_of_methodNamed B.named
  have hlocks := B.notSynchronized
  have f21 := hts (.fieldLink RX6 21 "StruckThrees" "people" "LStruckThrees$People;") (by decide +kernel)
  have f94 := hNw.f (args := ([.ref h, .int pp, .int wh]).toArray) ("StruckThrees", 94, "StruckThrees$People", "count", "I") (by decide)
  have iX1 : ∀ w ∈ wsX10, w ∈ wsX6_odds := by decide +kernel
  have iX6 : ∀ w ∈ wsX60, w ∈ wsX6_odds := by decide +kernel
  have hP : va_P D vwCl [(h, .inr (6, [.ref aS, .ref pe, .ref tq, .ref se, .ref mo, .ref re, .int bar, .int tr, .int fa])), (pe, .inr (1, [.ref ka, .ref sa, .int (nI n)])), (sa, .inl (cI, 9, .inl sd))] s.heap := hP
  have hl := lv_entry ([.ref h, .int pp, .int wh]) (n := 7) (Nat.le_of_ble_eq_true rfl)
  rw [lg_entry_eq]
  generalize (lg_sl ([.ref h, .int pp, .int wh]) ++ List.replicate (7 - (lg_sl ([.ref h, .int pp, .int wh])).length) Slot.unset).toArray = ls at hl ⊢
  have hl : lv_has ls 7 [(0, .ref h), (1, .int pp), (2, .int wh)] := hl
  have hb2 := bnd_t hn
  refine lv_iload_n hx hb dX6_odds_0 rfl (lv_at hl 1 rfl) ?_
  refine lv_iconst (v := -1) hx hb dX6_odds_1 (by decide) ?_
  refine lv_icmp_eq (tgt := 20) hx hb dX6_odds_2 (by decide) (fun c2 => ?_) (fun c2 => ?_)
  · -- t2
    have hpp : ¬ (¬ pp = -1 ∧ isP n pp = false) := fun q => q.1 c2
    refine lv_iload_n hx hb dX6_odds_20 rfl (lv_at hl 2 rfl) ?_
    refine lv_if_lt (tgt := 29) hx hb dX6_odds_21 (by decide) (fun c21 => ?_) (fun c21 => ?_)
    · -- t21
      refine lv_ldc2 hx hb hown (hts (.constantLong RX6 218 (-9223372036854775808)) (by decide +kernel)) dX6_odds_29 ?_
      exact W.lret (v := (-9223372036854775808)) hx hb hr (fun t ht hW => ⟨_, rfl, by unfold oddC; rw [if_neg hpp, if_neg (fun q => by first | exact q.1 c21 | exact c26 q.2)], ht⟩) (fun _ h => absurd h List.not_mem_nil) dX6_odds_32
    · -- f21
      refine lv_iload_n hx hb dX6_odds_24 rfl (lv_at hl 2 rfl) ?_
      refine lv_iconst (v := 1) hx hb dX6_odds_25 (by decide) ?_
      refine lv_icmp_le (tgt := 33) hx hb dX6_odds_26 (by decide) (fun c26 => ?_) (fun c26 => ?_)
      · -- t26
        refine lv_aload_n hx hb dX6_odds_33 rfl (lv_at hl 0 rfl) ?_
        refine va_get (D := D) (ci := 6) (v := .ref pe) (C := RX6) (T := TX6) (N := 9) hx hb hts iX6 hown hK hP 0 rfl rfl 1 (by decide) f21 (fun _ h9 => h9) rfl dX6_odds_34 ?_
        refine va_getN (D := D) (ci := 1) (v := .int (nI n)) (C := RX1) (T := TX1) (N := 3) hx hb hts iX1 hown hK hP 1 rfl rfl 2 (by decide) f94 (fun _ h9 => h9) rfl dX6_odds_37 ?_
        refine lv_if_ne (tgt := 47) hx hb dX6_odds_40 (by decide) (fun c40 => ?_) (fun c40 => ?_)
        · -- t40
          refine lv_iload_n hx hb dX6_odds_47 rfl (lv_at hl 1 rfl) ?_
          refine lv_iconst (v := -1) hx hb dX6_odds_48 (by decide) ?_
          refine lv_icmp_ne (tgt := 56) hx hb dX6_odds_49 (by decide) (fun c49 => ?_) (fun c49 => ?_)
          · -- t49
            exact absurd c2 c49
          · -- f49
            refine lv_iconst (v := 0) hx hb dX6_odds_52 (by decide) ?_
            refine lv_goto (tgt := 59) hx hb dX6_odds_53 (by decide) ?_
            refine lv_istore_n (lv' := [(3, .int 0), (0, .ref h), (1, .int pp), (2, .int wh)]) hx hb dX6_odds_59 rfl hl (by decide) rfl (fun ls hl => ?_)
            have hl : lv_has ls 7 [(3, .int (mskP pp)), (0, .ref h), (1, .int pp), (2, .int wh)] := by rw [show mskP pp = 0 from by unfold mskP; rw [if_pos c49]]; exact hl
            refine lv_iconst (v := 0) hx hb dX6_odds_60 (by decide) ?_
            refine lv_istore (lv' := [(4, .int 0), (3, .int (mskP pp)), (0, .ref h), (1, .int pp), (2, .int wh)]) hx hb dX6_odds_61 hl (by decide) rfl (fun ls hl => ?_)
            refine lv_iconst (v := 0) hx hb dX6_odds_63 (by decide) ?_
            refine lv_istore (lv' := [(5, .int 0), (4, .int 0), (3, .int (mskP pp)), (0, .ref h), (1, .int pp), (2, .int wh)]) hx hb dX6_odds_64 hl (by decide) rfl (fun ls hl => ?_)
            refine lv_iconst (v := 0) hx hb dX6_odds_66 (by decide) ?_
            refine lv_istore (lv' := [(6, .int 0), (5, .int 0), (4, .int 0), (3, .int (mskP pp)), (0, .ref h), (1, .int pp), (2, .int wh)]) hx hb dX6_odds_67 hl (by decide) rfl (fun ls hl => ?_)
            have lp69 : ∀ (fu69 : Nat) (i : Nat) (hi : i ≤ 2 ^ n) (hm69 : 2 ^ n - i < fu69) (ls : Array Slot) (hl : lv_has ls 7 [(0, .ref h), (1, .int pp), (2, .int wh), (3, .int (mskP pp)), (4, .int (nI (oddN n sd (mskP pp) i).1)), (5, .int (nI (oddN n sd (mskP pp) i).2)), (6, .int (nI i))]), W p l e (headSpec wsX6_odds ({ frames := 4, cells := 0, slots := 0, locals := 86 } : Room)).room s m ([.ref h, .int pp, .int wh]).toArray below meth c s.heap [] 0 0 (MQ below (vp_Sl (fun r => r = (oddC n sd pp wh))) ([.ref h, .int pp, .int wh]).toArray s 0 0 (fun _ => False)) (F0 m 69 ls []) := by
              intro fu69
              induction fu69 with
              | zero =>
                intros; omega
              | succ fu69 ih69 =>
                intro i hi hm69 ls hl
                refine lv_iload hx hb dX6_odds_69 (lv_at hl 6 rfl) ?_
                refine lv_aload_n hx hb dX6_odds_71 rfl (lv_at hl 0 rfl) ?_
                refine va_get (D := D) (ci := 6) (v := .ref pe) (C := RX6) (T := TX6) (N := 9) hx hb hts iX6 hown hK hP 0 rfl rfl 1 (by decide) f21 (fun _ h9 => h9) rfl dX6_odds_72 ?_
                have hPc := hP.sub (ws' := [(pe, .inr (1, [.ref ka, .ref sa, .int (nI n)]))]) [1] rfl
                refine vp_callSi (va_Run.run (va_runV (As := []) (rest := [.int (nI i)]) ⟨hx, hb, hml, hown, hts⟩ (c_X1_allSets l D cI cO pe ka sa n (by assumption)) (cwV 0 hts gX6_odds_X1_allSets rfl rfl rfl (by decide +kernel) ⟨Nat.le_of_ble_eq_true rfl, Nat.le_of_ble_eq_true rfl⟩) (preVR hPc hK hNw (va_recv hK hPc (ci := 1) (q0 := 0) rfl rfl)) rfl rfl hl.1 rfl (lv_room (Nat.le_of_ble_eq_true rfl)) dX6_odds_75 ⟨Nat.zero_le _, Nat.zero_le _⟩)) (fun r75 w75 => ?_)
                obtain rfl := w75
                refine lv_icmp_ge (tgt := 122) hx hb dX6_odds_78 (by decide) (fun c78 => ?_) (fun c78 => ?_)
                · -- t78
                  have e78 : i = 2 ^ n := by have q := ge_n (by omega) (by omega) c78; omega
                  rw [e78] at hl
                  refine lv_iload_n hx hb dX6_odds_122 rfl (lv_at hl 2 rfl) ?_
                  refine lv_if_ne (tgt := 137) hx hb dX6_odds_123 (by decide) (fun c123 => ?_) (fun c123 => ?_)
                  · -- t123
                    refine lv_iload hx hb dX6_odds_137 (lv_at hl 4 rfl) ?_
                    refine lv_iload hx hb dX6_odds_139 (lv_at hl 5 rfl) ?_
                    have hle := oddN_le n sd (mskP pp) (2 ^ n)
                    have hPc := hP.sub (ws' := []) [] rfl
                    refine vp_callSi (va_Run.run (va_runS (As := [.int (nI (oddN n sd (mskP pp) (2 ^ n)).1), .int (nI (oddN n sd (mskP pp) (2 ^ n)).2)]) (rest := []) ⟨hx, hb, hml, hown, hts⟩ (c_X6_inLeastTerms l D cI cO (oddN n sd (mskP pp) (2 ^ n)).1 (oddN n sd (mskP pp) (2 ^ n)).2 (by omega) (by omega)) (va_cwS 2 hts gX6_odds_X6_inLeastTerms rfl rfl rfl (by decide +kernel) ⟨Nat.le_of_ble_eq_true rfl, Nat.le_of_ble_eq_true rfl⟩) (preSR hPc hK hNw) rfl rfl hl.1 rfl (lv_room (Nat.le_of_ble_eq_true rfl)) dX6_odds_141 ⟨Nat.zero_le _, Nat.zero_le _⟩)) (fun r141 w141 => ?_)
                    obtain rfl := w141
                    refine lv_i2l hx hb dX6_odds_144 rfl ?_
                    exact W.lret (v := (nI (lstN (oddN n sd (mskP pp) (2 ^ n)).1 (oddN n sd (mskP pp) (2 ^ n)).2 (mxN (oddN n sd (mskP pp) (2 ^ n)).1 (oddN n sd (mskP pp) (2 ^ n)).2))).toInt64) hx hb hr (fun t ht hW => ⟨_, rfl, by unfold oddC; rw [if_neg hpp, if_pos ⟨c21, c26⟩, if_neg c40]; simp [c123], ht⟩) (fun _ h => absurd h List.not_mem_nil) dX6_odds_145
                  · -- f123
                    refine lv_iload hx hb dX6_odds_126 (lv_at hl 5 rfl) ?_
                    refine lv_iload hx hb dX6_odds_128 (lv_at hl 4 rfl) ?_
                    have hle := oddN_le n sd (mskP pp) (2 ^ n)
                    have hPc := hP.sub (ws' := []) [] rfl
                    refine vp_callSi (va_Run.run (va_runS (As := [.int (nI (oddN n sd (mskP pp) (2 ^ n)).2), .int (nI (oddN n sd (mskP pp) (2 ^ n)).1)]) (rest := []) ⟨hx, hb, hml, hown, hts⟩ (c_X6_inLeastTerms l D cI cO (oddN n sd (mskP pp) (2 ^ n)).2 (oddN n sd (mskP pp) (2 ^ n)).1 (by omega) (by omega)) (va_cwS 2 hts gX6_odds_X6_inLeastTerms rfl rfl rfl (by decide +kernel) ⟨Nat.le_of_ble_eq_true rfl, Nat.le_of_ble_eq_true rfl⟩) (preSR hPc hK hNw) rfl rfl hl.1 rfl (lv_room (Nat.le_of_ble_eq_true rfl)) dX6_odds_130 ⟨Nat.zero_le _, Nat.zero_le _⟩)) (fun r130 w130 => ?_)
                    obtain rfl := w130
                    refine lv_i2l hx hb dX6_odds_133 rfl ?_
                    refine lv_goto (tgt := 145) hx hb dX6_odds_134 (by decide) ?_
                    exact W.lret (v := (nI (lstN (oddN n sd (mskP pp) (2 ^ n)).2 (oddN n sd (mskP pp) (2 ^ n)).1 (mxN (oddN n sd (mskP pp) (2 ^ n)).2 (oddN n sd (mskP pp) (2 ^ n)).1))).toInt64) hx hb hr (fun t ht hW => ⟨_, rfl, by unfold oddC; rw [if_neg hpp, if_pos ⟨c21, c26⟩, if_neg c40]; simp [c123], ht⟩) (fun _ h => absurd h List.not_mem_nil) dX6_odds_145
                · -- f78
                  have l78 : i < 2 ^ n := lt_n (by omega) (by omega) c78
                  refine lv_iload hx hb dX6_odds_81 (lv_at hl 6 rfl) ?_
                  have hPc := hP.sub (ws' := []) [] rfl
                  refine vp_callSi (va_Run.run (va_runS (As := [.int (nI i)]) (rest := []) ⟨hx, hb, hml, hown, hts⟩ (c_J6_bitCount_0f7a4 l D cI cO (nI i)) (va_cwS 1 hts gX6_odds_J6_bitCount_0f7a4 rfl rfl rfl (by decide +kernel) ⟨Nat.le_of_ble_eq_true rfl, Nat.le_of_ble_eq_true rfl⟩) (preSR hPc hK hNw) rfl rfl hl.1 rfl (lv_room (Nat.le_of_ble_eq_true rfl)) dX6_odds_83 ⟨Nat.zero_le _, Nat.zero_le _⟩)) (fun r83 w83 => ?_)
                  obtain rfl := w83
                  refine lv_iconst (v := 3) hx hb dX6_odds_86 (by decide) ?_
                  refine lv_icmp_ne (tgt := 116) hx hb dX6_odds_87 (by decide) (fun c87 => ?_) (fun c87 => ?_)
                  · -- t87
                    refine lv_iinc (v := nI (i + 1)) (lv' := [(6, .int (nI (i + 1))), (0, .ref h), (1, .int pp), (2, .int wh), (3, .int (mskP pp)), (4, .int (nI (oddN n sd (mskP pp) i).1)), (5, .int (nI (oddN n sd (mskP pp) i).2))]) hx hb dX6_odds_116 hl (k := 6) rfl (nI_1 _) (by decide) rfl (fun ls hl => ?_)
                    refine lv_goto (tgt := 69) hx hb dX6_odds_119 (by decide) ?_
                    have e69_4 : (nI (oddN n sd (mskP pp) i).1) = nI (oddN n sd (mskP pp) (i + 1)).1 := by rw [oddN_s]; first | (rw [if_pos ⟨c87, c95⟩]; done) | (rw [if_neg (fun q => c95 q.2)]; done) | (rw [if_neg (fun q => c87 q.1)]; done)
                    have hl : lv_has ls 7 [(6, .int (nI (i + 1))), (0, .ref h), (1, .int pp), (2, .int wh), (3, .int (mskP pp)), (4, .int (nI (oddN n sd (mskP pp) (i + 1)).1)), (5, .int (nI (oddN n sd (mskP pp) i).2))] := by rw [← e69_4]; exact hl
                    have e69_5 : (nI (oddN n sd (mskP pp) i).2) = nI (oddN n sd (mskP pp) (i + 1)).2 := by rw [oddN_s]; first | (rw [if_pos ⟨c87, c95⟩, if_pos b107]; done) | (rw [if_pos ⟨c87, c95⟩, if_neg b107]; done) | (rw [if_neg (fun q => c95 q.2)]; done) | (rw [if_neg (fun q => c87 q.1)]; done)
                    have hl : lv_has ls 7 [(6, .int (nI (i + 1))), (0, .ref h), (1, .int pp), (2, .int wh), (3, .int (mskP pp)), (4, .int (nI (oddN n sd (mskP pp) (i + 1)).1)), (5, .int (nI (oddN n sd (mskP pp) (i + 1)).2))] := by rw [← e69_5]; exact hl
                    exact ih69 (i + 1) (by omega) (by omega) _ (lv_sub hl [1, 2, 3, 4, 5, 6, 0] rfl)
                  · -- f87
                    refine lv_iload hx hb dX6_odds_90 (lv_at hl 6 rfl) ?_
                    refine lv_iload_n hx hb dX6_odds_92 rfl (lv_at hl 3 rfl) ?_
                    refine lv_iand hx hb dX6_odds_93 ?_
                    refine lv_iload_n hx hb dX6_odds_94 rfl (lv_at hl 3 rfl) ?_
                    refine lv_icmp_ne (tgt := 116) hx hb dX6_odds_95 (by decide) (fun c95 => ?_) (fun c95 => ?_)
                    · -- t95
                      refine lv_iinc (v := nI (i + 1)) (lv' := [(6, .int (nI (i + 1))), (0, .ref h), (1, .int pp), (2, .int wh), (3, .int (mskP pp)), (4, .int (nI (oddN n sd (mskP pp) i).1)), (5, .int (nI (oddN n sd (mskP pp) i).2))]) hx hb dX6_odds_116 hl (k := 6) rfl (nI_1 _) (by decide) rfl (fun ls hl => ?_)
                      refine lv_goto (tgt := 69) hx hb dX6_odds_119 (by decide) ?_
                      have e69_4 : (nI (oddN n sd (mskP pp) i).1) = nI (oddN n sd (mskP pp) (i + 1)).1 := by rw [oddN_s]; first | (rw [if_pos ⟨c87, c95⟩]; done) | (rw [if_neg (fun q => c95 q.2)]; done) | (rw [if_neg (fun q => c87 q.1)]; done)
                      have hl : lv_has ls 7 [(6, .int (nI (i + 1))), (0, .ref h), (1, .int pp), (2, .int wh), (3, .int (mskP pp)), (4, .int (nI (oddN n sd (mskP pp) (i + 1)).1)), (5, .int (nI (oddN n sd (mskP pp) i).2))] := by rw [← e69_4]; exact hl
                      have e69_5 : (nI (oddN n sd (mskP pp) i).2) = nI (oddN n sd (mskP pp) (i + 1)).2 := by rw [oddN_s]; first | (rw [if_pos ⟨c87, c95⟩, if_pos b107]; done) | (rw [if_pos ⟨c87, c95⟩, if_neg b107]; done) | (rw [if_neg (fun q => c95 q.2)]; done) | (rw [if_neg (fun q => c87 q.1)]; done)
                      have hl : lv_has ls 7 [(6, .int (nI (i + 1))), (0, .ref h), (1, .int pp), (2, .int wh), (3, .int (mskP pp)), (4, .int (nI (oddN n sd (mskP pp) (i + 1)).1)), (5, .int (nI (oddN n sd (mskP pp) (i + 1)).2))] := by rw [← e69_5]; exact hl
                      exact ih69 (i + 1) (by omega) (by omega) _ (lv_sub hl [1, 2, 3, 4, 5, 6, 0] rfl)
                    · -- f95
                      refine lv_iinc (v := nI ((oddN n sd (mskP pp) i).1 + 1)) (lv' := [(4, .int (nI ((oddN n sd (mskP pp) i).1 + 1))), (0, .ref h), (1, .int pp), (2, .int wh), (3, .int (mskP pp)), (5, .int (nI (oddN n sd (mskP pp) i).2)), (6, .int (nI i))]) hx hb dX6_odds_98 hl (k := 4) rfl (nI_1 _) (by decide) rfl (fun ls hl => ?_)
                      refine lv_aload_n hx hb dX6_odds_101 rfl (lv_at hl 1 rfl) ?_
                      refine va_get (D := D) (ci := 6) (v := .ref pe) (C := RX6) (T := TX6) (N := 9) hx hb hts iX6 hown hK hP 0 rfl rfl 1 (by decide) f21 (fun _ h9 => h9) rfl dX6_odds_102 ?_
                      refine lv_iload hx hb dX6_odds_105 (lv_at hl 6 rfl) ?_
                      have hPc := hP.sub (ws' := [(pe, .inr (1, [.ref ka, .ref sa, .int (nI n)])), (sa, .inl (cI, 9, .inl sd))]) [1, 2] rfl
                      refine vp_callSi (va_Run.run (va_runV (As := [.int (nI i)]) (rest := []) ⟨hx, hb, hml, hown, hts⟩ (c_X1_canHang l D cI cO pe ka sa n sd (nI i) (by assumption) (by assumption)) (cwV 1 hts gX6_odds_X1_canHang rfl rfl rfl (by decide +kernel) ⟨Nat.le_of_ble_eq_true rfl, Nat.le_of_ble_eq_true rfl⟩) (preVR hPc hK hNw (va_recv hK hPc (ci := 1) (q0 := 0) rfl rfl)) rfl rfl hl.1 rfl (lv_room (Nat.le_of_ble_eq_true rfl)) dX6_odds_107 ⟨Nat.zero_le _, Nat.zero_le _⟩)) (fun r107 w107 => ?_)
                      by_cases b107 : canH n sd (nI i) = true
                      · -- y107
                        obtain rfl := w107.1 b107
                        refine lv_if_eq (tgt := 116) hx hb dX6_odds_110 (by decide) (fun h => absurd h (by decide)) (fun _ => ?_)
                        refine lv_iinc (v := nI ((oddN n sd (mskP pp) i).2 + 1)) (lv' := [(5, .int (nI ((oddN n sd (mskP pp) i).2 + 1))), (4, .int (nI ((oddN n sd (mskP pp) i).1 + 1))), (0, .ref h), (1, .int pp), (2, .int wh), (3, .int (mskP pp)), (6, .int (nI i))]) hx hb dX6_odds_113 hl (k := 5) rfl (nI_1 _) (by decide) rfl (fun ls hl => ?_)
                        refine lv_iinc (v := nI (i + 1)) (lv' := [(6, .int (nI (i + 1))), (5, .int (nI ((oddN n sd (mskP pp) i).2 + 1))), (4, .int (nI ((oddN n sd (mskP pp) i).1 + 1))), (0, .ref h), (1, .int pp), (2, .int wh), (3, .int (mskP pp))]) hx hb dX6_odds_116 hl (k := 6) rfl (nI_1 _) (by decide) rfl (fun ls hl => ?_)
                        refine lv_goto (tgt := 69) hx hb dX6_odds_119 (by decide) ?_
                        have e69_4 : (nI ((oddN n sd (mskP pp) i).1 + 1)) = nI (oddN n sd (mskP pp) (i + 1)).1 := by rw [oddN_s]; first | (rw [if_pos ⟨c87, c95⟩]; done) | (rw [if_neg (fun q => c95 q.2)]; done) | (rw [if_neg (fun q => c87 q.1)]; done)
                        have hl : lv_has ls 7 [(6, .int (nI (i + 1))), (5, .int (nI ((oddN n sd (mskP pp) i).2 + 1))), (4, .int (nI (oddN n sd (mskP pp) (i + 1)).1)), (0, .ref h), (1, .int pp), (2, .int wh), (3, .int (mskP pp))] := by rw [← e69_4]; exact hl
                        have e69_5 : (nI ((oddN n sd (mskP pp) i).2 + 1)) = nI (oddN n sd (mskP pp) (i + 1)).2 := by rw [oddN_s]; first | (rw [if_pos ⟨c87, c95⟩, if_pos b107]; done) | (rw [if_pos ⟨c87, c95⟩, if_neg b107]; done) | (rw [if_neg (fun q => c95 q.2)]; done) | (rw [if_neg (fun q => c87 q.1)]; done)
                        have hl : lv_has ls 7 [(6, .int (nI (i + 1))), (5, .int (nI (oddN n sd (mskP pp) (i + 1)).2)), (4, .int (nI (oddN n sd (mskP pp) (i + 1)).1)), (0, .ref h), (1, .int pp), (2, .int wh), (3, .int (mskP pp))] := by rw [← e69_5]; exact hl
                        exact ih69 (i + 1) (by omega) (by omega) _ (lv_sub hl [3, 4, 5, 6, 2, 1, 0] rfl)
                      · -- n107
                        obtain rfl := w107.2 b107
                        refine lv_if_eq (tgt := 116) hx hb dX6_odds_110 (by decide) (fun _ => ?_) (fun h => absurd (by decide) h)
                        refine lv_iinc (v := nI (i + 1)) (lv' := [(6, .int (nI (i + 1))), (4, .int (nI ((oddN n sd (mskP pp) i).1 + 1))), (0, .ref h), (1, .int pp), (2, .int wh), (3, .int (mskP pp)), (5, .int (nI (oddN n sd (mskP pp) i).2))]) hx hb dX6_odds_116 hl (k := 6) rfl (nI_1 _) (by decide) rfl (fun ls hl => ?_)
                        refine lv_goto (tgt := 69) hx hb dX6_odds_119 (by decide) ?_
                        have e69_4 : (nI ((oddN n sd (mskP pp) i).1 + 1)) = nI (oddN n sd (mskP pp) (i + 1)).1 := by rw [oddN_s]; first | (rw [if_pos ⟨c87, c95⟩]; done) | (rw [if_neg (fun q => c95 q.2)]; done) | (rw [if_neg (fun q => c87 q.1)]; done)
                        have hl : lv_has ls 7 [(6, .int (nI (i + 1))), (4, .int (nI (oddN n sd (mskP pp) (i + 1)).1)), (0, .ref h), (1, .int pp), (2, .int wh), (3, .int (mskP pp)), (5, .int (nI (oddN n sd (mskP pp) i).2))] := by rw [← e69_4]; exact hl
                        have e69_5 : (nI (oddN n sd (mskP pp) i).2) = nI (oddN n sd (mskP pp) (i + 1)).2 := by rw [oddN_s]; first | (rw [if_pos ⟨c87, c95⟩, if_pos b107]; done) | (rw [if_pos ⟨c87, c95⟩, if_neg b107]; done) | (rw [if_neg (fun q => c95 q.2)]; done) | (rw [if_neg (fun q => c87 q.1)]; done)
                        have hl : lv_has ls 7 [(6, .int (nI (i + 1))), (4, .int (nI (oddN n sd (mskP pp) (i + 1)).1)), (0, .ref h), (1, .int pp), (2, .int wh), (3, .int (mskP pp)), (5, .int (nI (oddN n sd (mskP pp) (i + 1)).2))] := by rw [← e69_5]; exact hl
                        exact ih69 (i + 1) (by omega) (by omega) _ (lv_sub hl [2, 3, 4, 5, 1, 6, 0] rfl)
            exact lp69 _ 0 (Nat.zero_le _) (Nat.lt_succ_self _) _ (lv_sub hl [4, 5, 6, 3, 2, 1, 0] rfl)
        · -- f40
          refine lv_ldc2 hx hb hown (hts (.constantLong RX6 218 (-9223372036854775808)) (by decide +kernel)) dX6_odds_43 ?_
          exact W.lret (v := (-9223372036854775808)) hx hb hr (fun t ht hW => ⟨_, rfl, by unfold oddC; rw [if_neg hpp, if_pos ⟨c21, c26⟩, if_pos c40], ht⟩) (fun _ h => absurd h List.not_mem_nil) dX6_odds_46
      · -- f26
        refine lv_ldc2 hx hb hown (hts (.constantLong RX6 218 (-9223372036854775808)) (by decide +kernel)) dX6_odds_29 ?_
        exact W.lret (v := (-9223372036854775808)) hx hb hr (fun t ht hW => ⟨_, rfl, by unfold oddC; rw [if_neg hpp, if_neg (fun q => by first | exact q.1 c21 | exact c26 q.2)], ht⟩) (fun _ h => absurd h List.not_mem_nil) dX6_odds_32
  · -- f2
    refine lv_aload_n hx hb dX6_odds_5 rfl (lv_at hl 0 rfl) ?_
    refine va_get (D := D) (ci := 6) (v := .ref pe) (C := RX6) (T := TX6) (N := 9) hx hb hts iX6 hown hK hP 0 rfl rfl 1 (by decide) f21 (fun _ h9 => h9) rfl dX6_odds_6 ?_
    refine lv_iload_n hx hb dX6_odds_9 rfl (lv_at hl 1 rfl) ?_
    have hPc := hP.sub (ws' := [(pe, .inr (1, [.ref ka, .ref sa, .int (nI n)]))]) [1] rfl
    refine vp_callSi (va_Run.run (va_runV (As := [.int pp]) (rest := []) ⟨hx, hb, hml, hown, hts⟩ (c_X1_has l D cI cO pe ka sa n pp) (cwV 1 hts gX6_odds_X1_has rfl rfl rfl (by decide +kernel) ⟨Nat.le_of_ble_eq_true rfl, Nat.le_of_ble_eq_true rfl⟩) (preVR hPc hK hNw (va_recv hK hPc (ci := 1) (q0 := 0) rfl rfl)) rfl rfl hl.1 rfl (lv_room (Nat.le_of_ble_eq_true rfl)) dX6_odds_10 ⟨Nat.zero_le _, Nat.zero_le _⟩)) (fun r10 w10 => ?_)
    by_cases b10 : ¬ pp < 0 ∧ ¬ nI n ≤ pp
    · -- y10
      obtain rfl := w10.1 b10
      have hpp : ¬ (¬ pp = -1 ∧ isP n pp = false) := fun q => by rw [isP, decide_eq_true b10] at q; exact absurd q.2 (by decide)
      refine lv_if_ne (tgt := 20) hx hb dX6_odds_13 (by decide) (fun _ => ?_) (fun h => absurd h (by decide))
      refine lv_iload_n hx hb dX6_odds_20 rfl (lv_at hl 2 rfl) ?_
      refine lv_if_lt (tgt := 29) hx hb dX6_odds_21 (by decide) (fun c21 => ?_) (fun c21 => ?_)
      · -- t21
        refine lv_ldc2 hx hb hown (hts (.constantLong RX6 218 (-9223372036854775808)) (by decide +kernel)) dX6_odds_29 ?_
        exact W.lret (v := (-9223372036854775808)) hx hb hr (fun t ht hW => ⟨_, rfl, by unfold oddC; rw [if_neg hpp, if_neg (fun q => by first | exact q.1 c21 | exact c26 q.2)], ht⟩) (fun _ h => absurd h List.not_mem_nil) dX6_odds_32
      · -- f21
        refine lv_iload_n hx hb dX6_odds_24 rfl (lv_at hl 2 rfl) ?_
        refine lv_iconst (v := 1) hx hb dX6_odds_25 (by decide) ?_
        refine lv_icmp_le (tgt := 33) hx hb dX6_odds_26 (by decide) (fun c26 => ?_) (fun c26 => ?_)
        · -- t26
          refine lv_aload_n hx hb dX6_odds_33 rfl (lv_at hl 0 rfl) ?_
          refine va_get (D := D) (ci := 6) (v := .ref pe) (C := RX6) (T := TX6) (N := 9) hx hb hts iX6 hown hK hP 0 rfl rfl 1 (by decide) f21 (fun _ h9 => h9) rfl dX6_odds_34 ?_
          refine va_getN (D := D) (ci := 1) (v := .int (nI n)) (C := RX1) (T := TX1) (N := 3) hx hb hts iX1 hown hK hP 1 rfl rfl 2 (by decide) f94 (fun _ h9 => h9) rfl dX6_odds_37 ?_
          refine lv_if_ne (tgt := 47) hx hb dX6_odds_40 (by decide) (fun c40 => ?_) (fun c40 => ?_)
          · -- t40
            refine lv_iload_n hx hb dX6_odds_47 rfl (lv_at hl 1 rfl) ?_
            refine lv_iconst (v := -1) hx hb dX6_odds_48 (by decide) ?_
            refine lv_icmp_ne (tgt := 56) hx hb dX6_odds_49 (by decide) (fun c49 => ?_) (fun c49 => ?_)
            · -- t49
              refine lv_iconst (v := 1) hx hb dX6_odds_56 (by decide) ?_
              refine lv_iload_n hx hb dX6_odds_57 rfl (lv_at hl 1 rfl) ?_
              refine lv_ishl hx hb dX6_odds_58 ?_
              refine lv_istore_n (lv' := [(3, .int (1 <<< (pp &&& 31))), (0, .ref h), (1, .int pp), (2, .int wh)]) hx hb dX6_odds_59 rfl hl (by decide) rfl (fun ls hl => ?_)
              have hl : lv_has ls 7 [(3, .int (mskP pp)), (0, .ref h), (1, .int pp), (2, .int wh)] := by rw [show mskP pp = 1 <<< (pp &&& 31) from by unfold mskP; rw [if_neg c49]]; exact hl
              refine lv_iconst (v := 0) hx hb dX6_odds_60 (by decide) ?_
              refine lv_istore (lv' := [(4, .int 0), (3, .int (mskP pp)), (0, .ref h), (1, .int pp), (2, .int wh)]) hx hb dX6_odds_61 hl (by decide) rfl (fun ls hl => ?_)
              refine lv_iconst (v := 0) hx hb dX6_odds_63 (by decide) ?_
              refine lv_istore (lv' := [(5, .int 0), (4, .int 0), (3, .int (mskP pp)), (0, .ref h), (1, .int pp), (2, .int wh)]) hx hb dX6_odds_64 hl (by decide) rfl (fun ls hl => ?_)
              refine lv_iconst (v := 0) hx hb dX6_odds_66 (by decide) ?_
              refine lv_istore (lv' := [(6, .int 0), (5, .int 0), (4, .int 0), (3, .int (mskP pp)), (0, .ref h), (1, .int pp), (2, .int wh)]) hx hb dX6_odds_67 hl (by decide) rfl (fun ls hl => ?_)
              have lp69 : ∀ (fu69 : Nat) (i : Nat) (hi : i ≤ 2 ^ n) (hm69 : 2 ^ n - i < fu69) (ls : Array Slot) (hl : lv_has ls 7 [(0, .ref h), (1, .int pp), (2, .int wh), (3, .int (mskP pp)), (4, .int (nI (oddN n sd (mskP pp) i).1)), (5, .int (nI (oddN n sd (mskP pp) i).2)), (6, .int (nI i))]), W p l e (headSpec wsX6_odds ({ frames := 4, cells := 0, slots := 0, locals := 86 } : Room)).room s m ([.ref h, .int pp, .int wh]).toArray below meth c s.heap [] 0 0 (MQ below (vp_Sl (fun r => r = (oddC n sd pp wh))) ([.ref h, .int pp, .int wh]).toArray s 0 0 (fun _ => False)) (F0 m 69 ls []) := by
                intro fu69
                induction fu69 with
                | zero =>
                  intros; omega
                | succ fu69 ih69 =>
                  intro i hi hm69 ls hl
                  refine lv_iload hx hb dX6_odds_69 (lv_at hl 6 rfl) ?_
                  refine lv_aload_n hx hb dX6_odds_71 rfl (lv_at hl 0 rfl) ?_
                  refine va_get (D := D) (ci := 6) (v := .ref pe) (C := RX6) (T := TX6) (N := 9) hx hb hts iX6 hown hK hP 0 rfl rfl 1 (by decide) f21 (fun _ h9 => h9) rfl dX6_odds_72 ?_
                  have hPc := hP.sub (ws' := [(pe, .inr (1, [.ref ka, .ref sa, .int (nI n)]))]) [1] rfl
                  refine vp_callSi (va_Run.run (va_runV (As := []) (rest := [.int (nI i)]) ⟨hx, hb, hml, hown, hts⟩ (c_X1_allSets l D cI cO pe ka sa n (by assumption)) (cwV 0 hts gX6_odds_X1_allSets rfl rfl rfl (by decide +kernel) ⟨Nat.le_of_ble_eq_true rfl, Nat.le_of_ble_eq_true rfl⟩) (preVR hPc hK hNw (va_recv hK hPc (ci := 1) (q0 := 0) rfl rfl)) rfl rfl hl.1 rfl (lv_room (Nat.le_of_ble_eq_true rfl)) dX6_odds_75 ⟨Nat.zero_le _, Nat.zero_le _⟩)) (fun r75 w75 => ?_)
                  obtain rfl := w75
                  refine lv_icmp_ge (tgt := 122) hx hb dX6_odds_78 (by decide) (fun c78 => ?_) (fun c78 => ?_)
                  · -- t78
                    have e78 : i = 2 ^ n := by have q := ge_n (by omega) (by omega) c78; omega
                    rw [e78] at hl
                    refine lv_iload_n hx hb dX6_odds_122 rfl (lv_at hl 2 rfl) ?_
                    refine lv_if_ne (tgt := 137) hx hb dX6_odds_123 (by decide) (fun c123 => ?_) (fun c123 => ?_)
                    · -- t123
                      refine lv_iload hx hb dX6_odds_137 (lv_at hl 4 rfl) ?_
                      refine lv_iload hx hb dX6_odds_139 (lv_at hl 5 rfl) ?_
                      have hle := oddN_le n sd (mskP pp) (2 ^ n)
                      have hPc := hP.sub (ws' := []) [] rfl
                      refine vp_callSi (va_Run.run (va_runS (As := [.int (nI (oddN n sd (mskP pp) (2 ^ n)).1), .int (nI (oddN n sd (mskP pp) (2 ^ n)).2)]) (rest := []) ⟨hx, hb, hml, hown, hts⟩ (c_X6_inLeastTerms l D cI cO (oddN n sd (mskP pp) (2 ^ n)).1 (oddN n sd (mskP pp) (2 ^ n)).2 (by omega) (by omega)) (va_cwS 2 hts gX6_odds_X6_inLeastTerms rfl rfl rfl (by decide +kernel) ⟨Nat.le_of_ble_eq_true rfl, Nat.le_of_ble_eq_true rfl⟩) (preSR hPc hK hNw) rfl rfl hl.1 rfl (lv_room (Nat.le_of_ble_eq_true rfl)) dX6_odds_141 ⟨Nat.zero_le _, Nat.zero_le _⟩)) (fun r141 w141 => ?_)
                      obtain rfl := w141
                      refine lv_i2l hx hb dX6_odds_144 rfl ?_
                      exact W.lret (v := (nI (lstN (oddN n sd (mskP pp) (2 ^ n)).1 (oddN n sd (mskP pp) (2 ^ n)).2 (mxN (oddN n sd (mskP pp) (2 ^ n)).1 (oddN n sd (mskP pp) (2 ^ n)).2))).toInt64) hx hb hr (fun t ht hW => ⟨_, rfl, by unfold oddC; rw [if_neg hpp, if_pos ⟨c21, c26⟩, if_neg c40]; simp [c123], ht⟩) (fun _ h => absurd h List.not_mem_nil) dX6_odds_145
                    · -- f123
                      refine lv_iload hx hb dX6_odds_126 (lv_at hl 5 rfl) ?_
                      refine lv_iload hx hb dX6_odds_128 (lv_at hl 4 rfl) ?_
                      have hle := oddN_le n sd (mskP pp) (2 ^ n)
                      have hPc := hP.sub (ws' := []) [] rfl
                      refine vp_callSi (va_Run.run (va_runS (As := [.int (nI (oddN n sd (mskP pp) (2 ^ n)).2), .int (nI (oddN n sd (mskP pp) (2 ^ n)).1)]) (rest := []) ⟨hx, hb, hml, hown, hts⟩ (c_X6_inLeastTerms l D cI cO (oddN n sd (mskP pp) (2 ^ n)).2 (oddN n sd (mskP pp) (2 ^ n)).1 (by omega) (by omega)) (va_cwS 2 hts gX6_odds_X6_inLeastTerms rfl rfl rfl (by decide +kernel) ⟨Nat.le_of_ble_eq_true rfl, Nat.le_of_ble_eq_true rfl⟩) (preSR hPc hK hNw) rfl rfl hl.1 rfl (lv_room (Nat.le_of_ble_eq_true rfl)) dX6_odds_130 ⟨Nat.zero_le _, Nat.zero_le _⟩)) (fun r130 w130 => ?_)
                      obtain rfl := w130
                      refine lv_i2l hx hb dX6_odds_133 rfl ?_
                      refine lv_goto (tgt := 145) hx hb dX6_odds_134 (by decide) ?_
                      exact W.lret (v := (nI (lstN (oddN n sd (mskP pp) (2 ^ n)).2 (oddN n sd (mskP pp) (2 ^ n)).1 (mxN (oddN n sd (mskP pp) (2 ^ n)).2 (oddN n sd (mskP pp) (2 ^ n)).1))).toInt64) hx hb hr (fun t ht hW => ⟨_, rfl, by unfold oddC; rw [if_neg hpp, if_pos ⟨c21, c26⟩, if_neg c40]; simp [c123], ht⟩) (fun _ h => absurd h List.not_mem_nil) dX6_odds_145
                  · -- f78
                    have l78 : i < 2 ^ n := lt_n (by omega) (by omega) c78
                    refine lv_iload hx hb dX6_odds_81 (lv_at hl 6 rfl) ?_
                    have hPc := hP.sub (ws' := []) [] rfl
                    refine vp_callSi (va_Run.run (va_runS (As := [.int (nI i)]) (rest := []) ⟨hx, hb, hml, hown, hts⟩ (c_J6_bitCount_0f7a4 l D cI cO (nI i)) (va_cwS 1 hts gX6_odds_J6_bitCount_0f7a4 rfl rfl rfl (by decide +kernel) ⟨Nat.le_of_ble_eq_true rfl, Nat.le_of_ble_eq_true rfl⟩) (preSR hPc hK hNw) rfl rfl hl.1 rfl (lv_room (Nat.le_of_ble_eq_true rfl)) dX6_odds_83 ⟨Nat.zero_le _, Nat.zero_le _⟩)) (fun r83 w83 => ?_)
                    obtain rfl := w83
                    refine lv_iconst (v := 3) hx hb dX6_odds_86 (by decide) ?_
                    refine lv_icmp_ne (tgt := 116) hx hb dX6_odds_87 (by decide) (fun c87 => ?_) (fun c87 => ?_)
                    · -- t87
                      refine lv_iinc (v := nI (i + 1)) (lv' := [(6, .int (nI (i + 1))), (0, .ref h), (1, .int pp), (2, .int wh), (3, .int (mskP pp)), (4, .int (nI (oddN n sd (mskP pp) i).1)), (5, .int (nI (oddN n sd (mskP pp) i).2))]) hx hb dX6_odds_116 hl (k := 6) rfl (nI_1 _) (by decide) rfl (fun ls hl => ?_)
                      refine lv_goto (tgt := 69) hx hb dX6_odds_119 (by decide) ?_
                      have e69_4 : (nI (oddN n sd (mskP pp) i).1) = nI (oddN n sd (mskP pp) (i + 1)).1 := by rw [oddN_s]; first | (rw [if_pos ⟨c87, c95⟩]; done) | (rw [if_neg (fun q => c95 q.2)]; done) | (rw [if_neg (fun q => c87 q.1)]; done)
                      have hl : lv_has ls 7 [(6, .int (nI (i + 1))), (0, .ref h), (1, .int pp), (2, .int wh), (3, .int (mskP pp)), (4, .int (nI (oddN n sd (mskP pp) (i + 1)).1)), (5, .int (nI (oddN n sd (mskP pp) i).2))] := by rw [← e69_4]; exact hl
                      have e69_5 : (nI (oddN n sd (mskP pp) i).2) = nI (oddN n sd (mskP pp) (i + 1)).2 := by rw [oddN_s]; first | (rw [if_pos ⟨c87, c95⟩, if_pos b107]; done) | (rw [if_pos ⟨c87, c95⟩, if_neg b107]; done) | (rw [if_neg (fun q => c95 q.2)]; done) | (rw [if_neg (fun q => c87 q.1)]; done)
                      have hl : lv_has ls 7 [(6, .int (nI (i + 1))), (0, .ref h), (1, .int pp), (2, .int wh), (3, .int (mskP pp)), (4, .int (nI (oddN n sd (mskP pp) (i + 1)).1)), (5, .int (nI (oddN n sd (mskP pp) (i + 1)).2))] := by rw [← e69_5]; exact hl
                      exact ih69 (i + 1) (by omega) (by omega) _ (lv_sub hl [1, 2, 3, 4, 5, 6, 0] rfl)
                    · -- f87
                      refine lv_iload hx hb dX6_odds_90 (lv_at hl 6 rfl) ?_
                      refine lv_iload_n hx hb dX6_odds_92 rfl (lv_at hl 3 rfl) ?_
                      refine lv_iand hx hb dX6_odds_93 ?_
                      refine lv_iload_n hx hb dX6_odds_94 rfl (lv_at hl 3 rfl) ?_
                      refine lv_icmp_ne (tgt := 116) hx hb dX6_odds_95 (by decide) (fun c95 => ?_) (fun c95 => ?_)
                      · -- t95
                        refine lv_iinc (v := nI (i + 1)) (lv' := [(6, .int (nI (i + 1))), (0, .ref h), (1, .int pp), (2, .int wh), (3, .int (mskP pp)), (4, .int (nI (oddN n sd (mskP pp) i).1)), (5, .int (nI (oddN n sd (mskP pp) i).2))]) hx hb dX6_odds_116 hl (k := 6) rfl (nI_1 _) (by decide) rfl (fun ls hl => ?_)
                        refine lv_goto (tgt := 69) hx hb dX6_odds_119 (by decide) ?_
                        have e69_4 : (nI (oddN n sd (mskP pp) i).1) = nI (oddN n sd (mskP pp) (i + 1)).1 := by rw [oddN_s]; first | (rw [if_pos ⟨c87, c95⟩]; done) | (rw [if_neg (fun q => c95 q.2)]; done) | (rw [if_neg (fun q => c87 q.1)]; done)
                        have hl : lv_has ls 7 [(6, .int (nI (i + 1))), (0, .ref h), (1, .int pp), (2, .int wh), (3, .int (mskP pp)), (4, .int (nI (oddN n sd (mskP pp) (i + 1)).1)), (5, .int (nI (oddN n sd (mskP pp) i).2))] := by rw [← e69_4]; exact hl
                        have e69_5 : (nI (oddN n sd (mskP pp) i).2) = nI (oddN n sd (mskP pp) (i + 1)).2 := by rw [oddN_s]; first | (rw [if_pos ⟨c87, c95⟩, if_pos b107]; done) | (rw [if_pos ⟨c87, c95⟩, if_neg b107]; done) | (rw [if_neg (fun q => c95 q.2)]; done) | (rw [if_neg (fun q => c87 q.1)]; done)
                        have hl : lv_has ls 7 [(6, .int (nI (i + 1))), (0, .ref h), (1, .int pp), (2, .int wh), (3, .int (mskP pp)), (4, .int (nI (oddN n sd (mskP pp) (i + 1)).1)), (5, .int (nI (oddN n sd (mskP pp) (i + 1)).2))] := by rw [← e69_5]; exact hl
                        exact ih69 (i + 1) (by omega) (by omega) _ (lv_sub hl [1, 2, 3, 4, 5, 6, 0] rfl)
                      · -- f95
                        refine lv_iinc (v := nI ((oddN n sd (mskP pp) i).1 + 1)) (lv' := [(4, .int (nI ((oddN n sd (mskP pp) i).1 + 1))), (0, .ref h), (1, .int pp), (2, .int wh), (3, .int (mskP pp)), (5, .int (nI (oddN n sd (mskP pp) i).2)), (6, .int (nI i))]) hx hb dX6_odds_98 hl (k := 4) rfl (nI_1 _) (by decide) rfl (fun ls hl => ?_)
                        refine lv_aload_n hx hb dX6_odds_101 rfl (lv_at hl 1 rfl) ?_
                        refine va_get (D := D) (ci := 6) (v := .ref pe) (C := RX6) (T := TX6) (N := 9) hx hb hts iX6 hown hK hP 0 rfl rfl 1 (by decide) f21 (fun _ h9 => h9) rfl dX6_odds_102 ?_
                        refine lv_iload hx hb dX6_odds_105 (lv_at hl 6 rfl) ?_
                        have hPc := hP.sub (ws' := [(pe, .inr (1, [.ref ka, .ref sa, .int (nI n)])), (sa, .inl (cI, 9, .inl sd))]) [1, 2] rfl
                        refine vp_callSi (va_Run.run (va_runV (As := [.int (nI i)]) (rest := []) ⟨hx, hb, hml, hown, hts⟩ (c_X1_canHang l D cI cO pe ka sa n sd (nI i) (by assumption) (by assumption)) (cwV 1 hts gX6_odds_X1_canHang rfl rfl rfl (by decide +kernel) ⟨Nat.le_of_ble_eq_true rfl, Nat.le_of_ble_eq_true rfl⟩) (preVR hPc hK hNw (va_recv hK hPc (ci := 1) (q0 := 0) rfl rfl)) rfl rfl hl.1 rfl (lv_room (Nat.le_of_ble_eq_true rfl)) dX6_odds_107 ⟨Nat.zero_le _, Nat.zero_le _⟩)) (fun r107 w107 => ?_)
                        by_cases b107 : canH n sd (nI i) = true
                        · -- y107
                          obtain rfl := w107.1 b107
                          refine lv_if_eq (tgt := 116) hx hb dX6_odds_110 (by decide) (fun h => absurd h (by decide)) (fun _ => ?_)
                          refine lv_iinc (v := nI ((oddN n sd (mskP pp) i).2 + 1)) (lv' := [(5, .int (nI ((oddN n sd (mskP pp) i).2 + 1))), (4, .int (nI ((oddN n sd (mskP pp) i).1 + 1))), (0, .ref h), (1, .int pp), (2, .int wh), (3, .int (mskP pp)), (6, .int (nI i))]) hx hb dX6_odds_113 hl (k := 5) rfl (nI_1 _) (by decide) rfl (fun ls hl => ?_)
                          refine lv_iinc (v := nI (i + 1)) (lv' := [(6, .int (nI (i + 1))), (5, .int (nI ((oddN n sd (mskP pp) i).2 + 1))), (4, .int (nI ((oddN n sd (mskP pp) i).1 + 1))), (0, .ref h), (1, .int pp), (2, .int wh), (3, .int (mskP pp))]) hx hb dX6_odds_116 hl (k := 6) rfl (nI_1 _) (by decide) rfl (fun ls hl => ?_)
                          refine lv_goto (tgt := 69) hx hb dX6_odds_119 (by decide) ?_
                          have e69_4 : (nI ((oddN n sd (mskP pp) i).1 + 1)) = nI (oddN n sd (mskP pp) (i + 1)).1 := by rw [oddN_s]; first | (rw [if_pos ⟨c87, c95⟩]; done) | (rw [if_neg (fun q => c95 q.2)]; done) | (rw [if_neg (fun q => c87 q.1)]; done)
                          have hl : lv_has ls 7 [(6, .int (nI (i + 1))), (5, .int (nI ((oddN n sd (mskP pp) i).2 + 1))), (4, .int (nI (oddN n sd (mskP pp) (i + 1)).1)), (0, .ref h), (1, .int pp), (2, .int wh), (3, .int (mskP pp))] := by rw [← e69_4]; exact hl
                          have e69_5 : (nI ((oddN n sd (mskP pp) i).2 + 1)) = nI (oddN n sd (mskP pp) (i + 1)).2 := by rw [oddN_s]; first | (rw [if_pos ⟨c87, c95⟩, if_pos b107]; done) | (rw [if_pos ⟨c87, c95⟩, if_neg b107]; done) | (rw [if_neg (fun q => c95 q.2)]; done) | (rw [if_neg (fun q => c87 q.1)]; done)
                          have hl : lv_has ls 7 [(6, .int (nI (i + 1))), (5, .int (nI (oddN n sd (mskP pp) (i + 1)).2)), (4, .int (nI (oddN n sd (mskP pp) (i + 1)).1)), (0, .ref h), (1, .int pp), (2, .int wh), (3, .int (mskP pp))] := by rw [← e69_5]; exact hl
                          exact ih69 (i + 1) (by omega) (by omega) _ (lv_sub hl [3, 4, 5, 6, 2, 1, 0] rfl)
                        · -- n107
                          obtain rfl := w107.2 b107
                          refine lv_if_eq (tgt := 116) hx hb dX6_odds_110 (by decide) (fun _ => ?_) (fun h => absurd (by decide) h)
                          refine lv_iinc (v := nI (i + 1)) (lv' := [(6, .int (nI (i + 1))), (4, .int (nI ((oddN n sd (mskP pp) i).1 + 1))), (0, .ref h), (1, .int pp), (2, .int wh), (3, .int (mskP pp)), (5, .int (nI (oddN n sd (mskP pp) i).2))]) hx hb dX6_odds_116 hl (k := 6) rfl (nI_1 _) (by decide) rfl (fun ls hl => ?_)
                          refine lv_goto (tgt := 69) hx hb dX6_odds_119 (by decide) ?_
                          have e69_4 : (nI ((oddN n sd (mskP pp) i).1 + 1)) = nI (oddN n sd (mskP pp) (i + 1)).1 := by rw [oddN_s]; first | (rw [if_pos ⟨c87, c95⟩]; done) | (rw [if_neg (fun q => c95 q.2)]; done) | (rw [if_neg (fun q => c87 q.1)]; done)
                          have hl : lv_has ls 7 [(6, .int (nI (i + 1))), (4, .int (nI (oddN n sd (mskP pp) (i + 1)).1)), (0, .ref h), (1, .int pp), (2, .int wh), (3, .int (mskP pp)), (5, .int (nI (oddN n sd (mskP pp) i).2))] := by rw [← e69_4]; exact hl
                          have e69_5 : (nI (oddN n sd (mskP pp) i).2) = nI (oddN n sd (mskP pp) (i + 1)).2 := by rw [oddN_s]; first | (rw [if_pos ⟨c87, c95⟩, if_pos b107]; done) | (rw [if_pos ⟨c87, c95⟩, if_neg b107]; done) | (rw [if_neg (fun q => c95 q.2)]; done) | (rw [if_neg (fun q => c87 q.1)]; done)
                          have hl : lv_has ls 7 [(6, .int (nI (i + 1))), (4, .int (nI (oddN n sd (mskP pp) (i + 1)).1)), (0, .ref h), (1, .int pp), (2, .int wh), (3, .int (mskP pp)), (5, .int (nI (oddN n sd (mskP pp) (i + 1)).2))] := by rw [← e69_5]; exact hl
                          exact ih69 (i + 1) (by omega) (by omega) _ (lv_sub hl [2, 3, 4, 5, 1, 6, 0] rfl)
              exact lp69 _ 0 (Nat.zero_le _) (Nat.lt_succ_self _) _ (lv_sub hl [4, 5, 6, 3, 2, 1, 0] rfl)
            · -- f49
              exact absurd c49 c2
          · -- f40
            refine lv_ldc2 hx hb hown (hts (.constantLong RX6 218 (-9223372036854775808)) (by decide +kernel)) dX6_odds_43 ?_
            exact W.lret (v := (-9223372036854775808)) hx hb hr (fun t ht hW => ⟨_, rfl, by unfold oddC; rw [if_neg hpp, if_pos ⟨c21, c26⟩, if_pos c40], ht⟩) (fun _ h => absurd h List.not_mem_nil) dX6_odds_46
        · -- f26
          refine lv_ldc2 hx hb hown (hts (.constantLong RX6 218 (-9223372036854775808)) (by decide +kernel)) dX6_odds_29 ?_
          exact W.lret (v := (-9223372036854775808)) hx hb hr (fun t ht hW => ⟨_, rfl, by unfold oddC; rw [if_neg hpp, if_neg (fun q => by first | exact q.1 c21 | exact c26 q.2)], ht⟩) (fun _ h => absurd h List.not_mem_nil) dX6_odds_32
    · -- n10
      obtain rfl := w10.2 b10
      have hpn : ¬ pp = -1 ∧ isP n pp = false := ⟨c2, decide_eq_false b10⟩
      refine lv_if_ne (tgt := 20) hx hb dX6_odds_13 (by decide) (fun h => absurd (by decide) h) (fun _ => ?_)
      refine lv_ldc2 hx hb hown (hts (.constantLong RX6 218 (-9223372036854775808)) (by decide +kernel)) dX6_odds_16 ?_
      exact W.lret (v := (-9223372036854775808)) hx hb hr (fun t ht hW => ⟨_, rfl, by exact (if_pos hpn).symm, ht⟩) (fun _ h => absurd h List.not_mem_nil) dX6_odds_19
