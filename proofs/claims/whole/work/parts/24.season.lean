set_option maxHeartbeats 4000000 in
set_option maxRecDepth 100000 in
theorem c_X2_clear (l : Launch) (D : va_G) (cI cO : ClassId) (h : Nat) (wa : Nat) (ha : Nat) (rn : Nat) (sz : Nat) : Met l yX2_clear wsX2_clear ({ frames := 0, cells := 0, slots := 0, locals := 0 } : Room) (va_Pc [.ref h] (wdW D cI cO [(h, .inr (2, [.ref wa, .ref ha, .int (nI rn)]))] sz)) (va_Qv (S := Unit) (fun u => True) (fun u t => va_P D vwCl [(h, .inr (2, [.ref wa, .ref ha, .int (nI 0)]))] t.heap ∧ va_K D vwCl (tyL cI cO) t ∧ va_D (va_A [(h, .inr (2, [.ref wa, .ref ha, .int (nI rn)]))] sz) [(h, .inr (2, [.ref wa, .ref ha, .int (nI 0)]))]) (va_A [(h, .inr (2, [.ref wa, .ref ha, .int (nI rn)]))] sz)) 0 0 (va_A [(h, .inr (2, [.ref wa, .ref ha, .int (nI rn)]))] sz) := by
  refine Met.ofW (cc := cX2_clear) (maxL := 1) (ret := none) (by decide) rfl ?_
  intro p e s m args below meth c s₁ B hml hv
  obtain ⟨rfl, hsz, hP, hK, hNw, hD0⟩ := hv
  have hx := B.exec
  have hb := B.bytes
  have hr := B.returns
  have hts := atoms_spec (ws := wsX2_clear) B.pre
  have hown : s.vm.findClass RX2 = some m.cls := findClass_of_methodNamed B.named
  have hlocks := B.notSynchronized
  have f18 := hts (.fieldLink RX2 18 "StruckThrees$Readings" "count" "I") (by decide +kernel)
  have iX2 : ∀ w ∈ wsX20, w ∈ wsX2_clear := by decide +kernel
  subst hsz
  have hD := hD0.self (sz := s.heap.size)
  generalize hAe : va_A [(h, .inr (2, [.ref wa, .ref ha, .int (nI rn)]))] s.heap.size = A at hD ⊢
  have hA : ∀ q : Nat, s.heap.size ≤ q → A q := fun q h => by rw [← hAe]; exact Or.inr h
  have hS : va_S A s.heap s.heap [] := va_S.rf
  have hP : va_P D vwCl [(h, .inr (2, [.ref wa, .ref ha, .int (nI rn)]))] s.heap := hP
  have hl := lv_entry ([.ref h]) (n := 1) (Nat.le_of_ble_eq_true rfl)
  rw [lg_entry_eq]
  generalize (lg_sl ([.ref h]) ++ List.replicate (1 - (lg_sl ([.ref h])).length) Slot.unset).toArray = ls at hl ⊢
  have hl : lv_has ls 1 [(0, .ref h)] := hl
  refine lv_aload_n hx hb dX2_clear_0 rfl (lv_at hl 0 rfl) ?_
  refine lv_iconst (v := 0) hx hb dX2_clear_1 (by decide) ?_
  refine va_put (D := D) (ci := 2) (v := .int 0) (ty := .int) (C := RX2) (T := TX2) (N := 3) hx hb hts iX2 tyX2 tyX2_ok nmX2 hown hK hP hD hS 0 rfl rfl 2 (by decide) f18 (fun _ h9 => h9) rfl (by decide +kernel) rfl rfl (Nat.le_of_ble_eq_true rfl) dX2_clear_2 (fun H locs hP hD hS => ?_)
  have hP : va_P D vwCl [(h, .inr (2, [.ref wa, .ref ha, .int 0]))] H := hP
  have hD : va_D A [(h, .inr (2, [.ref wa, .ref ha, .int 0]))] := hD
  exact W.vret hx hb hr (fun t ht hW => ⟨⟨(), rfl, by trivial, by rw [ht]; exact hP, va_K.moved hW.alike hK, hD⟩, hS.F ht⟩) hS.2.2 dX2_clear_5

set_option maxHeartbeats 4000000 in
set_option maxRecDepth 100000 in
theorem c_X2_add (l : Launch) (D : va_G) (cI cO : ClassId) (h : Nat) (wa : Nat) (ha : Nat) (rn : Nat) (rw_ : Nat → Int32) (rh : Nat → Int32) (pp : Int32) (v : Int32) (sz : Nat) (hj : rn < 8) : Met l yX2_add wsX2_add ({ frames := 0, cells := 0, slots := 0, locals := 0 } : Room) (va_Pc [.ref h, .int pp, .int v] (wdW D cI cO [(h, .inr (2, [.ref wa, .ref ha, .int (nI rn)])), (wa, .inl (cI, 8, .inl rw_)), (ha, .inl (cI, 8, .inl rh))] sz)) (va_Qi (S := (Nat → Int32) × (Nat → Int32)) (fun r u => r = nI rn ∧ u.1 = upd rw_ rn pp ∧ u.2 = upd rh rn v) (fun u t => va_P D vwCl [(h, .inr (2, [.ref wa, .ref ha, .int (nI (rn + 1))])), (wa, .inl (cI, 8, .inl u.1)), (ha, .inl (cI, 8, .inl u.2))] t.heap ∧ va_K D vwCl (tyL cI cO) t ∧ va_D (va_A [(h, .inr (2, [.ref wa, .ref ha, .int (nI rn)])), (wa, .inl (cI, 8, .inl rw_)), (ha, .inl (cI, 8, .inl rh))] sz) [(h, .inr (2, [.ref wa, .ref ha, .int (nI (rn + 1))])), (wa, .inl (cI, 8, .inl u.1)), (ha, .inl (cI, 8, .inl u.2))]) (va_A [(h, .inr (2, [.ref wa, .ref ha, .int (nI rn)])), (wa, .inl (cI, 8, .inl rw_)), (ha, .inl (cI, 8, .inl rh))] sz)) 0 0 (va_A [(h, .inr (2, [.ref wa, .ref ha, .int (nI rn)])), (wa, .inl (cI, 8, .inl rw_)), (ha, .inl (cI, 8, .inl rh))] sz) := by
  refine Met.ofW (cc := cX2_add) (maxL := 3) (ret := (some .int)) (by decide) rfl ?_
  intro p e s m args below meth c s₁ B hml hv
  obtain ⟨rfl, hsz, hP, hK, hNw, hD0⟩ := hv
  have hx := B.exec
  have hb := B.bytes
  have hr := B.returns
  have hts := atoms_spec (ws := wsX2_add) B.pre
  have hown : s.vm.findClass RX2 = some m.cls := findClass_of_methodNamed B.named
  have hlocks := B.notSynchronized
  have f11 := hts (.fieldLink RX2 11 "StruckThrees$Readings" "whose" "[I") (by decide +kernel)
  have f15 := hts (.fieldLink RX2 15 "StruckThrees$Readings" "heard" "[I") (by decide +kernel)
  have f18 := hts (.fieldLink RX2 18 "StruckThrees$Readings" "count" "I") (by decide +kernel)
  have iX2 : ∀ w ∈ wsX20, w ∈ wsX2_add := by decide +kernel
  subst hsz
  have hD := hD0.self (sz := s.heap.size)
  generalize hAe : va_A [(h, .inr (2, [.ref wa, .ref ha, .int (nI rn)])), (wa, .inl (cI, 8, .inl rw_)), (ha, .inl (cI, 8, .inl rh))] s.heap.size = A at hD ⊢
  have hA : ∀ q : Nat, s.heap.size ≤ q → A q := fun q h => by rw [← hAe]; exact Or.inr h
  have hS : va_S A s.heap s.heap [] := va_S.rf
  have hP : va_P D vwCl [(h, .inr (2, [.ref wa, .ref ha, .int (nI rn)])), (wa, .inl (cI, 8, .inl rw_)), (ha, .inl (cI, 8, .inl rh))] s.heap := hP
  have hl := lv_entry ([.ref h, .int pp, .int v]) (n := 3) (Nat.le_of_ble_eq_true rfl)
  rw [lg_entry_eq]
  generalize (lg_sl ([.ref h, .int pp, .int v]) ++ List.replicate (3 - (lg_sl ([.ref h, .int pp, .int v])).length) Slot.unset).toArray = ls at hl ⊢
  have hl : lv_has ls 3 [(0, .ref h), (1, .int pp), (2, .int v)] := hl
  refine lv_aload_n hx hb dX2_add_0 rfl (lv_at hl 0 rfl) ?_
  refine va_get (D := D) (ci := 2) (v := .int (nI rn)) (C := RX2) (T := TX2) (N := 3) hx hb hts iX2 hown hK hP 0 rfl rfl 2 (by decide) f18 (fun _ h9 => h9) rfl dX2_add_1 ?_
  refine lv_bipush (v := 8) hx hb dX2_add_4 (by decide) ?_
  refine lv_icmp_lt (tgt := 12) hx hb dX2_add_6 (by decide) (fun c6 => ?_) (fun c6 => ?_)
  · -- t6
    refine lv_aload_n hx hb dX2_add_12 rfl (lv_at hl 0 rfl) ?_
    refine va_get (D := D) (ci := 2) (v := .ref wa) (C := RX2) (T := TX2) (N := 3) hx hb hts iX2 hown hK hP 0 rfl rfl 0 (by decide) f11 (fun _ h9 => h9) rfl dX2_add_13 ?_
    refine lv_aload_n hx hb dX2_add_16 rfl (lv_at hl 0 rfl) ?_
    refine va_get (D := D) (ci := 2) (v := .int (nI rn)) (C := RX2) (T := TX2) (N := 3) hx hb hts iX2 hown hK hP 0 rfl rfl 2 (by decide) f18 (fun _ h9 => h9) rfl dX2_add_17 ?_
    refine lv_iload_n hx hb dX2_add_20 rfl (lv_at hl 1 rfl) ?_
    refine va_iast hx hb hK hP hD hS 1 0 rfl rfl (vp_in_nI (by omega) (by decide)) dX2_add_21 (fun H locs hP hD hS => ?_)
    rw [nI_clamp (n := rn) (by omega)] at hP hD
    have hP : va_P D vwCl [(h, .inr (2, [.ref wa, .ref ha, .int (nI rn)])), (wa, .inl (cI, 8, .inl (upd rw_ rn pp))), (ha, .inl (cI, 8, .inl rh))] H := hP
    have hD : va_D A [(h, .inr (2, [.ref wa, .ref ha, .int (nI rn)])), (wa, .inl (cI, 8, .inl (upd rw_ rn pp))), (ha, .inl (cI, 8, .inl rh))] := hD
    refine lv_aload_n hx hb dX2_add_22 rfl (lv_at hl 0 rfl) ?_
    refine va_get (D := D) (ci := 2) (v := .ref ha) (C := RX2) (T := TX2) (N := 3) hx hb hts iX2 hown hK hP 0 rfl rfl 1 (by decide) f15 (fun _ h9 => h9) rfl dX2_add_23 ?_
    refine lv_aload_n hx hb dX2_add_26 rfl (lv_at hl 0 rfl) ?_
    refine va_get (D := D) (ci := 2) (v := .int (nI rn)) (C := RX2) (T := TX2) (N := 3) hx hb hts iX2 hown hK hP 0 rfl rfl 2 (by decide) f18 (fun _ h9 => h9) rfl dX2_add_27 ?_
    refine lv_iload_n hx hb dX2_add_30 rfl (lv_at hl 2 rfl) ?_
    refine va_iast hx hb hK hP hD hS 2 0 rfl rfl (vp_in_nI (by omega) (by decide)) dX2_add_31 (fun H locs hP hD hS => ?_)
    rw [nI_clamp (n := rn) (by omega)] at hP hD
    have hP : va_P D vwCl [(h, .inr (2, [.ref wa, .ref ha, .int (nI rn)])), (wa, .inl (cI, 8, .inl (upd rw_ rn pp))), (ha, .inl (cI, 8, .inl (upd rh rn v)))] H := hP
    have hD : va_D A [(h, .inr (2, [.ref wa, .ref ha, .int (nI rn)])), (wa, .inl (cI, 8, .inl (upd rw_ rn pp))), (ha, .inl (cI, 8, .inl (upd rh rn v)))] := hD
    refine lv_aload_n hx hb dX2_add_32 rfl (lv_at hl 0 rfl) ?_
    refine lv_dup hx hb dX2_add_33 rfl ?_
    refine va_get (D := D) (ci := 2) (v := .int (nI rn)) (C := RX2) (T := TX2) (N := 3) hx hb hts iX2 hown hK hP 0 rfl rfl 2 (by decide) f18 (fun _ h9 => h9) rfl dX2_add_34 ?_
    refine lv_iconst (v := 1) hx hb dX2_add_37 (by decide) ?_
    refine lv_iadd hx hb dX2_add_38 ?_
    refine tp_i (y := nI (rn + 1)) (nI_1 _) ?_
    refine va_put (D := D) (ci := 2) (v := .int (nI (rn + 1))) (ty := .int) (C := RX2) (T := TX2) (N := 3) hx hb hts iX2 tyX2 tyX2_ok nmX2 hown hK hP hD hS 0 rfl rfl 2 (by decide) f18 (fun _ h9 => h9) rfl (by decide +kernel) rfl rfl (Nat.le_of_ble_eq_true rfl) dX2_add_39 (fun H locs hP hD hS => ?_)
    have hP : va_P D vwCl [(h, .inr (2, [.ref wa, .ref ha, .int (nI (rn + 1))])), (wa, .inl (cI, 8, .inl (upd rw_ rn pp))), (ha, .inl (cI, 8, .inl (upd rh rn v)))] H := hP
    have hD : va_D A [(h, .inr (2, [.ref wa, .ref ha, .int (nI (rn + 1))])), (wa, .inl (cI, 8, .inl (upd rw_ rn pp))), (ha, .inl (cI, 8, .inl (upd rh rn v)))] := hD
    refine lv_aload_n hx hb dX2_add_42 rfl (lv_at hl 0 rfl) ?_
    refine va_get (D := D) (ci := 2) (v := .int (nI (rn + 1))) (C := RX2) (T := TX2) (N := 3) hx hb hts iX2 hown hK hP 0 rfl rfl 2 (by decide) f18 (fun _ h9 => h9) rfl dX2_add_43 ?_
    refine lv_iconst (v := 1) hx hb dX2_add_46 (by decide) ?_
    refine lv_isub hx hb dX2_add_47 ?_
    exact W.iret (v := (nI (rn + 1)) - 1) hx hb hr (fun t ht hW => ⟨⟨_, (upd rw_ rn pp, upd rh rn v), rfl, by exact ⟨nI_pred _, rfl, rfl⟩, by rw [ht]; exact hP, va_K.moved hW.alike hK, hD⟩, hS.F ht⟩) hS.2.2 dX2_add_48
  · -- f6
    exact absurd (nI_lt (b := 8) hj (by decide)) c6

set_option maxHeartbeats 4000000 in
set_option maxRecDepth 100000 in
theorem c_X2_areSo (l : Launch) (D : va_G) (cI cO : ClassId) (h : Nat) (wa : Nat) (ha : Nat) (rn : Nat) (rw_ : Nat → Int32) (rh : Nat → Int32) (o : Nat) (ka : Nat) (sa : Nat) (n : Nat) (kd : Nat → Int32) (sd : Nat → Int32) (j : Nat) (rp : Int32) (hn : n ≤ 9) (hr8 : rn ≤ 8) (hw : ∀ k, k < rn → ∃ w, w < n ∧ rw_ k = nI w) : Met l yX2_areSo wsX2_areSo ({ frames := 2, cells := 0, slots := 0, locals := 42 } : Room) (va_Pc [.ref h, .ref o, .int (nI j), .int rp] (wdR D cI cO [(h, .inr (2, [.ref wa, .ref ha, .int (nI rn)])), (wa, .inl (cI, 8, .inl rw_)), (ha, .inl (cI, 8, .inl rh)), (o, .inr (1, [.ref ka, .ref sa, .int (nI n)])), (ka, .inl (cI, 9, .inl kd)), (sa, .inl (cI, 9, .inl sd))])) (vp_Si (fun r => ((soW kd sd rw_ rh j rp rn 0 = true) → r = 1) ∧ (¬ (soW kd sd rw_ rh j rp rn 0 = true) → r = 0))) 0 0 (fun _ => False) := by
  refine Met.ofW (cc := cX2_areSo) (maxL := 6) (ret := (some .boolean)) (by decide) rfl ?_
  intro p e s m args below meth c s₁ B hml hv
  obtain ⟨rfl, hP, hK, hNw⟩ := hv
  have hx := B.exec
  have hb := B.bytes
  have hr := B.returns
  have hts := atoms_spec (ws := wsX2_areSo) B.pre
  have hown : s.vm.findClass RX2 = some m.cls := findClass_of_methodNamed B.named
  have hlocks := B.notSynchronized
  have f11 := hts (.fieldLink RX2 11 "StruckThrees$Readings" "whose" "[I") (by decide +kernel)
  have f15 := hts (.fieldLink RX2 15 "StruckThrees$Readings" "heard" "[I") (by decide +kernel)
  have f18 := hts (.fieldLink RX2 18 "StruckThrees$Readings" "count" "I") (by decide +kernel)
  have iX2 : ∀ w ∈ wsX20, w ∈ wsX2_areSo := by decide +kernel
  have hP : va_P D vwCl [(h, .inr (2, [.ref wa, .ref ha, .int (nI rn)])), (wa, .inl (cI, 8, .inl rw_)), (ha, .inl (cI, 8, .inl rh)), (o, .inr (1, [.ref ka, .ref sa, .int (nI n)])), (ka, .inl (cI, 9, .inl kd)), (sa, .inl (cI, 9, .inl sd))] s.heap := hP
  have hl := lv_entry ([.ref h, .ref o, .int (nI j), .int rp]) (n := 6) (Nat.le_of_ble_eq_true rfl)
  rw [lg_entry_eq]
  generalize (lg_sl ([.ref h, .ref o, .int (nI j), .int rp]) ++ List.replicate (6 - (lg_sl ([.ref h, .ref o, .int (nI j), .int rp])).length) Slot.unset).toArray = ls at hl ⊢
  have hl : lv_has ls 6 [(0, .ref h), (1, .ref o), (2, .int (nI j)), (3, .int rp)] := hl
  refine lv_iconst (v := 0) hx hb dX2_areSo_0 (by decide) ?_
  refine lv_istore (lv' := [(4, .int 0), (0, .ref h), (1, .ref o), (2, .int (nI j)), (3, .int rp)]) hx hb dX2_areSo_1 hl (by decide) rfl (fun ls hl => ?_)
  have lp3 : ∀ (fu3 : Nat) (i : Nat) (hi : i ≤ rn) (hq : soW kd sd rw_ rh j rp (rn - i) i = soW kd sd rw_ rh j rp rn 0) (hm3 : rn - i < fu3) (ls : Array Slot) (hl : lv_has ls 6 [(0, .ref h), (1, .ref o), (2, .int (nI j)), (3, .int rp), (4, .int (nI i))]), W p l e (headSpec wsX2_areSo ({ frames := 2, cells := 0, slots := 0, locals := 42 } : Room)).room s m ([.ref h, .ref o, .int (nI j), .int rp]).toArray below meth c s.heap [] 0 0 (MQ below (vp_Si (fun r => ((soW kd sd rw_ rh j rp rn 0 = true) → r = 1) ∧ (¬ (soW kd sd rw_ rh j rp rn 0 = true) → r = 0))) ([.ref h, .ref o, .int (nI j), .int rp]).toArray s 0 0 (fun _ => False)) (F0 m 3 ls []) := by
    intro fu3
    induction fu3 with
    | zero =>
      intros; omega
    | succ fu3 ih3 =>
      intro i hi hq hm3 ls hl
      refine lv_iload hx hb dX2_areSo_3 (lv_at hl 4 rfl) ?_
      refine lv_aload_n hx hb dX2_areSo_5 rfl (lv_at hl 0 rfl) ?_
      refine va_get (D := D) (ci := 2) (v := .int (nI rn)) (C := RX2) (T := TX2) (N := 3) hx hb hts iX2 hown hK hP 0 rfl rfl 2 (by decide) f18 (fun _ h9 => h9) rfl dX2_areSo_6 ?_
      refine lv_icmp_ge (tgt := 60) hx hb dX2_areSo_9 (by decide) (fun c9 => ?_) (fun c9 => ?_)
      · -- t9
        have e9 : i = rn := by have q := ge_n (by omega) (by omega) c9; omega
        rw [e9] at hl
        refine lv_iconst (v := 1) hx hb dX2_areSo_60 (by decide) ?_
        exact W.zret (v := 1) (ty := .boolean) hx hb hr rfl (fun t ht hW => ⟨_, rfl, by exact so_yes (by rw [← hq, e9, Nat.sub_self]; rfl), ht⟩) (fun _ h => absurd h List.not_mem_nil) dX2_areSo_61
      · -- f9
        have l9 : i < rn := lt_n (by omega) (by omega) c9
        refine lv_aload_n hx hb dX2_areSo_12 rfl (lv_at hl 0 rfl) ?_
        refine va_get (D := D) (ci := 2) (v := .ref wa) (C := RX2) (T := TX2) (N := 3) hx hb hts iX2 hown hK hP 0 rfl rfl 0 (by decide) f11 (fun _ h9 => h9) rfl dX2_areSo_13 ?_
        refine lv_iload hx hb dX2_areSo_16 (lv_at hl 4 rfl) ?_
        refine va_iald hx hb hK hP 1 0 rfl rfl (vp_in_nI (by omega) (by decide)) dX2_areSo_18 ?_
        refine tp_i (y := rw_ i) (by rw [nI_clamp (n := i) (by omega)]) ?_
        refine lv_iload_n hx hb dX2_areSo_19 rfl (lv_at hl 2 rfl) ?_
        refine lv_icmp_ne (tgt := 27) hx hb dX2_areSo_20 (by decide) (fun c20 => ?_) (fun c20 => ?_)
        · -- t20
          refine lv_aload_n hx hb dX2_areSo_27 rfl (lv_at hl 1 rfl) ?_
          refine lv_aload_n hx hb dX2_areSo_28 rfl (lv_at hl 0 rfl) ?_
          refine va_get (D := D) (ci := 2) (v := .ref wa) (C := RX2) (T := TX2) (N := 3) hx hb hts iX2 hown hK hP 0 rfl rfl 0 (by decide) f11 (fun _ h9 => h9) rfl dX2_areSo_29 ?_
          refine lv_iload hx hb dX2_areSo_32 (lv_at hl 4 rfl) ?_
          refine va_iald hx hb hK hP 1 0 rfl rfl (vp_in_nI (by omega) (by decide)) dX2_areSo_34 ?_
          refine tp_i (y := rw_ i) (by rw [nI_clamp (n := i) (by omega)]) ?_
          obtain ⟨w0, hw0, ew0⟩ := hw i l9
          refine tp_i (y := nI w0) (ew0) ?_
          have hPc := hP.sub (ws' := [(o, .inr (1, [.ref ka, .ref sa, .int (nI n)])), (ka, .inl (cI, 9, .inl kd)), (sa, .inl (cI, 9, .inl sd))]) [3, 4, 5] rfl
          refine vp_callSi (va_Run.run (va_runV (As := [.int (nI w0)]) (rest := []) ⟨hx, hb, hml, hown, hts⟩ (c_X1_ringOf l D cI cO o ka sa n kd sd w0 (by assumption) (hw0)) (cwV 1 hts gX2_areSo_X1_ringOf rfl rfl rfl (by decide +kernel) ⟨Nat.le_of_ble_eq_true rfl, Nat.le_of_ble_eq_true rfl⟩) (preVR hPc hK hNw (va_recv hK hPc (ci := 1) (q0 := 0) rfl rfl)) rfl rfl hl.1 rfl (lv_room (Nat.le_of_ble_eq_true rfl)) dX2_areSo_35 ⟨Nat.zero_le _, Nat.zero_le _⟩)) (fun r35 w35 => ?_)
          obtain rfl := w35
          refine lv_istore (lv' := [(5, .int (ringI (kd w0) (sd w0))), (0, .ref h), (1, .ref o), (2, .int (nI j)), (3, .int rp), (4, .int (nI i))]) hx hb dX2_areSo_38 hl (by decide) rfl (fun ls hl => ?_)
          refine lv_iload hx hb dX2_areSo_40 (lv_at hl 0 rfl) ?_
          refine lv_aload_n hx hb dX2_areSo_42 rfl (lv_at hl 1 rfl) ?_
          refine va_get (D := D) (ci := 2) (v := .ref ha) (C := RX2) (T := TX2) (N := 3) hx hb hts iX2 hown hK hP 0 rfl rfl 1 (by decide) f15 (fun _ h9 => h9) rfl dX2_areSo_43 ?_
          refine lv_iload hx hb dX2_areSo_46 (lv_at hl 5 rfl) ?_
          refine va_iald hx hb hK hP 2 0 rfl rfl (vp_in_nI (by omega) (by decide)) dX2_areSo_48 ?_
          refine tp_i (y := rh i) (by rw [nI_clamp (n := i) (by omega)]) ?_
          refine lv_icmp_eq (tgt := 54) hx hb dX2_areSo_49 (by decide) (fun c49 => ?_) (fun c49 => ?_)
          · -- t49
            refine lv_iinc (v := nI (i + 1)) (lv' := [(4, .int (nI (i + 1))), (5, .int (ringI (kd w0) (sd w0))), (0, .ref h), (1, .ref o), (2, .int (nI j)), (3, .int rp)]) hx hb dX2_areSo_54 hl (k := 5) rfl (nI_1 _) (by decide) rfl (fun ls hl => ?_)
            refine lv_goto (tgt := 3) hx hb dX2_areSo_57 (by decide) ?_
            exact ih3 (i + 1) (by omega) (by rw [← hq, show rn - i = (rn - (i + 1)) + 1 by omega]; rw [soW, if_pos]; rw [if_neg c20, ew0, nI_clamp (n := w0) (by omega)]; exact c49) (by omega) _ (lv_sub hl [2, 3, 4, 5, 0] rfl)
          · -- f49
            refine lv_iconst (v := 0) hx hb dX2_areSo_52 (by decide) ?_
            exact W.zret (v := 0) (ty := .boolean) hx hb hr rfl (fun t ht hW => ⟨_, rfl, by exact so_no (by rw [← hq, show rn - i = (rn - (i + 1)) + 1 by omega]; rw [soW, if_neg]; rw [if_neg c20, ew0, nI_clamp (n := w0) (by omega)]; exact c49), ht⟩) (fun _ h => absurd h List.not_mem_nil) dX2_areSo_53
        · -- f20
          refine lv_iload_n hx hb dX2_areSo_23 rfl (lv_at hl 3 rfl) ?_
          refine lv_goto (tgt := 38) hx hb dX2_areSo_24 (by decide) ?_
          refine lv_istore (lv' := [(5, .int rp), (0, .ref h), (1, .ref o), (2, .int (nI j)), (3, .int rp), (4, .int (nI i))]) hx hb dX2_areSo_38 hl (by decide) rfl (fun ls hl => ?_)
          refine lv_iload hx hb dX2_areSo_40 (lv_at hl 0 rfl) ?_
          refine lv_aload_n hx hb dX2_areSo_42 rfl (lv_at hl 1 rfl) ?_
          refine va_get (D := D) (ci := 2) (v := .ref ha) (C := RX2) (T := TX2) (N := 3) hx hb hts iX2 hown hK hP 0 rfl rfl 1 (by decide) f15 (fun _ h9 => h9) rfl dX2_areSo_43 ?_
          refine lv_iload hx hb dX2_areSo_46 (lv_at hl 5 rfl) ?_
          refine va_iald hx hb hK hP 2 0 rfl rfl (vp_in_nI (by omega) (by decide)) dX2_areSo_48 ?_
          refine tp_i (y := rh i) (by rw [nI_clamp (n := i) (by omega)]) ?_
          refine lv_icmp_eq (tgt := 54) hx hb dX2_areSo_49 (by decide) (fun c49 => ?_) (fun c49 => ?_)
          · -- t49
            refine lv_iinc (v := nI (i + 1)) (lv' := [(4, .int (nI (i + 1))), (5, .int rp), (0, .ref h), (1, .ref o), (2, .int (nI j)), (3, .int rp)]) hx hb dX2_areSo_54 hl (k := 5) rfl (nI_1 _) (by decide) rfl (fun ls hl => ?_)
            refine lv_goto (tgt := 3) hx hb dX2_areSo_57 (by decide) ?_
            exact ih3 (i + 1) (by omega) (by rw [← hq, show rn - i = (rn - (i + 1)) + 1 by omega]; simp [soW, c20, c49]) (by omega) _ (lv_sub hl [2, 3, 4, 5, 0] rfl)
          · -- f49
            refine lv_iconst (v := 0) hx hb dX2_areSo_52 (by decide) ?_
            exact W.zret (v := 0) (ty := .boolean) hx hb hr rfl (fun t ht hW => ⟨_, rfl, by exact so_no (by rw [← hq, show rn - i = (rn - (i + 1)) + 1 by omega]; simp [soW, c20, c49]), ht⟩) (fun _ h => absurd h List.not_mem_nil) dX2_areSo_53
  exact lp3 _ 0 (Nat.zero_le _) (rfl) (Nat.lt_succ_self _) _ (lv_sub hl [1, 2, 3, 4, 0] rfl)

set_option maxHeartbeats 4000000 in
set_option maxRecDepth 100000 in
theorem c_X3_isAsTold (l : Launch) (D : va_G) (cI cO : ClassId) (o : Nat) (ca : Nat) (ln : Int32) (L : Nat) (f : Nat → Int32) (a0 : Nat) (k : Nat) (hL : L ≤ 60) (hk : a0 + 2 * k ≤ L) : Met l yX3_isAsTold wsX3_isAsTold ({ frames := 2, cells := 0, slots := 0, locals := 42 } : Room) (va_Pc [.ref o, .int (nI a0), .int (nI k)] (wdR D cI cO [(o, .inr (4, [.ref ca, .int ln, .int (nI L)])), (ca, .inl (cI, 60, .inl f))])) (vp_Si (fun r => ((toldW f a0 k 0 = true) → r = 1) ∧ (¬ (toldW f a0 k 0 = true) → r = 0))) 0 0 (fun _ => False) := by
  refine Met.ofW (cc := cX3_isAsTold) (maxL := 7) (ret := (some .boolean)) (by decide) rfl ?_
  intro p e s m args below meth c s₁ B hml hv
  obtain ⟨rfl, hP, hK, hNw⟩ := hv
  have hx := B.exec
  have hb := B.bytes
  have hr := B.returns
  have hts := atoms_spec (ws := wsX3_isAsTold) B.pre
  have hown : s.vm.findClass RX3 = some m.cls := findClass_of_methodNamed B.named
  have hlocks := B.notSynchronized
  have hP : va_P D vwCl [(o, .inr (4, [.ref ca, .int ln, .int (nI L)])), (ca, .inl (cI, 60, .inl f))] s.heap := hP
  have hl := lv_entry ([.ref o, .int (nI a0), .int (nI k)]) (n := 7) (Nat.le_of_ble_eq_true rfl)
  rw [lg_entry_eq]
  generalize (lg_sl ([.ref o, .int (nI a0), .int (nI k)]) ++ List.replicate (7 - (lg_sl ([.ref o, .int (nI a0), .int (nI k)])).length) Slot.unset).toArray = ls at hl ⊢
  have hl : lv_has ls 7 [(0, .ref o), (1, .int (nI a0)), (2, .int (nI k))] := hl
  refine lv_iconst (v := 0) hx hb dX3_isAsTold_0 (by decide) ?_
  refine lv_istore_n (lv' := [(3, .int 0), (0, .ref o), (1, .int (nI a0)), (2, .int (nI k))]) hx hb dX3_isAsTold_1 rfl hl (by decide) rfl (fun ls hl => ?_)
  have lp2 : ∀ (fu2 : Nat) (i : Nat) (hi : i ≤ k) (hq : toldW f a0 (k - i) i = toldW f a0 k 0) (hm2 : k - i < fu2) (ls : Array Slot) (hl : lv_has ls 7 [(0, .ref o), (1, .int (nI a0)), (2, .int (nI k)), (3, .int (nI i))]), W p l e (headSpec wsX3_isAsTold ({ frames := 2, cells := 0, slots := 0, locals := 42 } : Room)).room s m ([.ref o, .int (nI a0), .int (nI k)]).toArray below meth c s.heap [] 0 0 (MQ below (vp_Si (fun r => ((toldW f a0 k 0 = true) → r = 1) ∧ (¬ (toldW f a0 k 0 = true) → r = 0))) ([.ref o, .int (nI a0), .int (nI k)]).toArray s 0 0 (fun _ => False)) (F0 m 2 ls []) := by
    intro fu2
    induction fu2 with
    | zero =>
      intros; omega
    | succ fu2 ih2 =>
      intro i hi hq hm2 ls hl
      refine lv_iload_n hx hb dX3_isAsTold_2 rfl (lv_at hl 3 rfl) ?_
      refine lv_iload_n hx hb dX3_isAsTold_3 rfl (lv_at hl 2 rfl) ?_
      refine lv_icmp_ge (tgt := 76) hx hb dX3_isAsTold_4 (by decide) (fun c4 => ?_) (fun c4 => ?_)
      · -- t4
        have e4 : i = k := by have q := ge_n (by omega) (by omega) c4; omega
        rw [e4] at hl
        refine lv_iconst (v := 1) hx hb dX3_isAsTold_76 (by decide) ?_
        exact W.zret (v := 1) (ty := .boolean) hx hb hr rfl (fun t ht hW => ⟨_, rfl, by exact so_yes (by rw [← hq, e4, Nat.sub_self]; rfl), ht⟩) (fun _ h => absurd h List.not_mem_nil) dX3_isAsTold_77
      · -- f4
        have l4 : i < k := lt_n (by omega) (by omega) c4
        refine lv_aload_n hx hb dX3_isAsTold_7 rfl (lv_at hl 0 rfl) ?_
        refine lv_iload_n hx hb dX3_isAsTold_8 rfl (lv_at hl 1 rfl) ?_
        refine lv_iconst (v := 2) hx hb dX3_isAsTold_9 (by decide) ?_
        refine lv_iload_n hx hb dX3_isAsTold_10 rfl (lv_at hl 3 rfl) ?_
        refine lv_imul hx hb dX3_isAsTold_11 ?_
        refine lv_iadd hx hb dX3_isAsTold_12 ?_
        refine tp_i (y := nI (a0 + 2 * i)) (ix2 _ _) ?_
        have hPc := hP.sub (ws' := [(o, .inr (4, [.ref ca, .int ln, .int (nI L)])), (ca, .inl (cI, 60, .inl f))]) [0, 1] rfl
        refine vp_callSi (va_Run.run (va_runV (As := [.int (nI (a0 + 2 * i))]) (rest := []) ⟨hx, hb, hml, hown, hts⟩ (c_X4_at l D cI cO o ca ln L f (a0 + 2 * i) (by assumption) (by omega)) (cwV 1 hts gX3_isAsTold_X4_at rfl rfl rfl (by decide +kernel) ⟨Nat.le_of_ble_eq_true rfl, Nat.le_of_ble_eq_true rfl⟩) (preVR hPc hK hNw (va_recv hK hPc (ci := 4) (q0 := 0) rfl rfl)) rfl rfl hl.1 rfl (lv_room (Nat.le_of_ble_eq_true rfl)) dX3_isAsTold_13 ⟨Nat.zero_le _, Nat.zero_le _⟩)) (fun r13 w13 => ?_)
        obtain rfl := w13
        refine lv_istore (lv' := [(4, .int (f (a0 + 2 * i))), (0, .ref o), (1, .int (nI a0)), (2, .int (nI k)), (3, .int (nI i))]) hx hb dX3_isAsTold_16 hl (by decide) rfl (fun ls hl => ?_)
        refine lv_aload_n hx hb dX3_isAsTold_18 rfl (lv_at hl 1 rfl) ?_
        refine lv_iload_n hx hb dX3_isAsTold_19 rfl (lv_at hl 2 rfl) ?_
        refine lv_iconst (v := 2) hx hb dX3_isAsTold_20 (by decide) ?_
        refine lv_iload_n hx hb dX3_isAsTold_21 rfl (lv_at hl 4 rfl) ?_
        refine lv_imul hx hb dX3_isAsTold_22 ?_
        refine lv_iadd hx hb dX3_isAsTold_23 ?_
        refine lv_iconst (v := 1) hx hb dX3_isAsTold_24 (by decide) ?_
        refine lv_iadd hx hb dX3_isAsTold_25 ?_
        refine tp_i (y := nI (a0 + 2 * i + 1)) (ix21 _ _) ?_
        have hPc := hP.sub (ws' := [(o, .inr (4, [.ref ca, .int ln, .int (nI L)])), (ca, .inl (cI, 60, .inl f))]) [0, 1] rfl
        refine vp_callSi (va_Run.run (va_runV (As := [.int (nI (a0 + 2 * i + 1))]) (rest := []) ⟨hx, hb, hml, hown, hts⟩ (c_X4_at l D cI cO o ca ln L f (a0 + 2 * i + 1) (by assumption) (by omega)) (cwV 1 hts gX3_isAsTold_X4_at rfl rfl rfl (by decide +kernel) ⟨Nat.le_of_ble_eq_true rfl, Nat.le_of_ble_eq_true rfl⟩) (preVR hPc hK hNw (va_recv hK hPc (ci := 4) (q0 := 0) rfl rfl)) rfl rfl hl.1 rfl (lv_room (Nat.le_of_ble_eq_true rfl)) dX3_isAsTold_26 ⟨Nat.zero_le _, Nat.zero_le _⟩)) (fun r26 w26 => ?_)
        obtain rfl := w26
        refine lv_istore (lv' := [(5, .int (f (a0 + 2 * i + 1))), (4, .int (f (a0 + 2 * i))), (0, .ref o), (1, .int (nI a0)), (2, .int (nI k)), (3, .int (nI i))]) hx hb dX3_isAsTold_29 hl (by decide) rfl (fun ls hl => ?_)
        refine lv_iload hx hb dX3_isAsTold_31 (lv_at hl 0 rfl) ?_
        refine lv_iconst (v := 2) hx hb dX3_isAsTold_33 (by decide) ?_
        refine lv_icmp_ne (tgt := 42) hx hb dX3_isAsTold_34 (by decide) (fun c34 => ?_) (fun c34 => ?_)
        · -- t34
          refine lv_iconst (v := 2) hx hb dX3_isAsTold_42 (by decide) ?_
          refine lv_istore (lv' := [(6, .int 2), (5, .int (f (a0 + 2 * i + 1))), (4, .int (f (a0 + 2 * i))), (0, .ref o), (1, .int (nI a0)), (2, .int (nI k)), (3, .int (nI i))]) hx hb dX3_isAsTold_43 hl (by decide) rfl (fun ls hl => ?_)
          refine lv_iload hx hb dX3_isAsTold_45 (lv_at hl 1 rfl) ?_
          refine lv_if_lt (tgt := 68) hx hb dX3_isAsTold_47 (by decide) (fun c47 => ?_) (fun c47 => ?_)
          · -- t47
            refine lv_iconst (v := 0) hx hb dX3_isAsTold_68 (by decide) ?_
            exact W.zret (v := 0) (ty := .boolean) hx hb hr rfl (fun t ht hW => ⟨_, rfl, by exact so_no (by rw [← hq, show k - i = (k - (i + 1)) + 1 by omega, toldW, if_neg]; simp_all [tldB]), ht⟩) (fun _ h => absurd h List.not_mem_nil) dX3_isAsTold_69
          · -- f47
            refine lv_iload hx hb dX3_isAsTold_50 (lv_at hl 1 rfl) ?_
            refine lv_iconst (v := 3) hx hb dX3_isAsTold_52 (by decide) ?_
            refine lv_icmp_gt (tgt := 68) hx hb dX3_isAsTold_53 (by decide) (fun c53 => ?_) (fun c53 => ?_)
            · -- t53
              refine lv_iconst (v := 0) hx hb dX3_isAsTold_68 (by decide) ?_
              exact W.zret (v := 0) (ty := .boolean) hx hb hr rfl (fun t ht hW => ⟨_, rfl, by exact so_no (by rw [← hq, show k - i = (k - (i + 1)) + 1 by omega, toldW, if_neg]; simp_all [tldB]), ht⟩) (fun _ h => absurd h List.not_mem_nil) dX3_isAsTold_69
            · -- f53
              refine lv_iload hx hb dX3_isAsTold_56 (lv_at hl 2 rfl) ?_
              refine lv_if_lt (tgt := 68) hx hb dX3_isAsTold_58 (by decide) (fun c58 => ?_) (fun c58 => ?_)
              · -- t58
                refine lv_iconst (v := 0) hx hb dX3_isAsTold_68 (by decide) ?_
                exact W.zret (v := 0) (ty := .boolean) hx hb hr rfl (fun t ht hW => ⟨_, rfl, by exact so_no (by rw [← hq, show k - i = (k - (i + 1)) + 1 by omega, toldW, if_neg]; simp_all [tldB]), ht⟩) (fun _ h => absurd h List.not_mem_nil) dX3_isAsTold_69
              · -- f58
                refine lv_iload hx hb dX3_isAsTold_61 (lv_at hl 2 rfl) ?_
                refine lv_iload hx hb dX3_isAsTold_63 (lv_at hl 0 rfl) ?_
                refine lv_icmp_le (tgt := 70) hx hb dX3_isAsTold_65 (by decide) (fun c65 => ?_) (fun c65 => ?_)
                · -- t65
                  refine lv_iinc (v := nI (i + 1)) (lv' := [(3, .int (nI (i + 1))), (6, .int 2), (5, .int (f (a0 + 2 * i + 1))), (4, .int (f (a0 + 2 * i))), (0, .ref o), (1, .int (nI a0)), (2, .int (nI k))]) hx hb dX3_isAsTold_70 hl (k := 6) rfl (nI_1 _) (by decide) rfl (fun ls hl => ?_)
                  refine lv_goto (tgt := 2) hx hb dX3_isAsTold_73 (by decide) ?_
                  exact ih2 (i + 1) (by omega) (by rw [← hq, show k - i = (k - (i + 1)) + 1 by omega, toldW, if_pos]; simp [tldB, *]) (by omega) _ (lv_sub hl [4, 5, 6, 0] rfl)
                · -- f65
                  refine lv_iconst (v := 0) hx hb dX3_isAsTold_68 (by decide) ?_
                  exact W.zret (v := 0) (ty := .boolean) hx hb hr rfl (fun t ht hW => ⟨_, rfl, by exact so_no (by rw [← hq, show k - i = (k - (i + 1)) + 1 by omega, toldW, if_neg]; simp_all [tldB]), ht⟩) (fun _ h => absurd h List.not_mem_nil) dX3_isAsTold_69
        · -- f34
          refine lv_bipush (v := 9) hx hb dX3_isAsTold_37 (by decide) ?_
          refine lv_goto (tgt := 43) hx hb dX3_isAsTold_39 (by decide) ?_
          refine lv_istore (lv' := [(6, .int 9), (5, .int (f (a0 + 2 * i + 1))), (4, .int (f (a0 + 2 * i))), (0, .ref o), (1, .int (nI a0)), (2, .int (nI k)), (3, .int (nI i))]) hx hb dX3_isAsTold_43 hl (by decide) rfl (fun ls hl => ?_)
          refine lv_iload hx hb dX3_isAsTold_45 (lv_at hl 1 rfl) ?_
          refine lv_if_lt (tgt := 68) hx hb dX3_isAsTold_47 (by decide) (fun c47 => ?_) (fun c47 => ?_)
          · -- t47
            refine lv_iconst (v := 0) hx hb dX3_isAsTold_68 (by decide) ?_
            exact W.zret (v := 0) (ty := .boolean) hx hb hr rfl (fun t ht hW => ⟨_, rfl, by exact so_no (by rw [← hq, show k - i = (k - (i + 1)) + 1 by omega, toldW, if_neg]; simp_all [tldB]), ht⟩) (fun _ h => absurd h List.not_mem_nil) dX3_isAsTold_69
          · -- f47
            refine lv_iload hx hb dX3_isAsTold_50 (lv_at hl 1 rfl) ?_
            refine lv_iconst (v := 3) hx hb dX3_isAsTold_52 (by decide) ?_
            refine lv_icmp_gt (tgt := 68) hx hb dX3_isAsTold_53 (by decide) (fun c53 => ?_) (fun c53 => ?_)
            · -- t53
              refine lv_iconst (v := 0) hx hb dX3_isAsTold_68 (by decide) ?_
              exact W.zret (v := 0) (ty := .boolean) hx hb hr rfl (fun t ht hW => ⟨_, rfl, by exact so_no (by rw [← hq, show k - i = (k - (i + 1)) + 1 by omega, toldW, if_neg]; simp_all [tldB]), ht⟩) (fun _ h => absurd h List.not_mem_nil) dX3_isAsTold_69
            · -- f53
              refine lv_iload hx hb dX3_isAsTold_56 (lv_at hl 2 rfl) ?_
              refine lv_if_lt (tgt := 68) hx hb dX3_isAsTold_58 (by decide) (fun c58 => ?_) (fun c58 => ?_)
              · -- t58
                refine lv_iconst (v := 0) hx hb dX3_isAsTold_68 (by decide) ?_
                exact W.zret (v := 0) (ty := .boolean) hx hb hr rfl (fun t ht hW => ⟨_, rfl, by exact so_no (by rw [← hq, show k - i = (k - (i + 1)) + 1 by omega, toldW, if_neg]; simp_all [tldB]), ht⟩) (fun _ h => absurd h List.not_mem_nil) dX3_isAsTold_69
              · -- f58
                refine lv_iload hx hb dX3_isAsTold_61 (lv_at hl 2 rfl) ?_
                refine lv_iload hx hb dX3_isAsTold_63 (lv_at hl 0 rfl) ?_
                refine lv_icmp_le (tgt := 70) hx hb dX3_isAsTold_65 (by decide) (fun c65 => ?_) (fun c65 => ?_)
                · -- t65
                  refine lv_iinc (v := nI (i + 1)) (lv' := [(3, .int (nI (i + 1))), (6, .int 9), (5, .int (f (a0 + 2 * i + 1))), (4, .int (f (a0 + 2 * i))), (0, .ref o), (1, .int (nI a0)), (2, .int (nI k))]) hx hb dX3_isAsTold_70 hl (k := 6) rfl (nI_1 _) (by decide) rfl (fun ls hl => ?_)
                  refine lv_goto (tgt := 2) hx hb dX3_isAsTold_73 (by decide) ?_
                  exact ih2 (i + 1) (by omega) (by rw [← hq, show k - i = (k - (i + 1)) + 1 by omega, toldW, if_pos]; simp [tldB, *]) (by omega) _ (lv_sub hl [4, 5, 6, 0] rfl)
                · -- f65
                  refine lv_iconst (v := 0) hx hb dX3_isAsTold_68 (by decide) ?_
                  exact W.zret (v := 0) (ty := .boolean) hx hb hr rfl (fun t ht hW => ⟨_, rfl, by exact so_no (by rw [← hq, show k - i = (k - (i + 1)) + 1 by omega, toldW, if_neg]; simp_all [tldB]), ht⟩) (fun _ h => absurd h List.not_mem_nil) dX3_isAsTold_69
  exact lp2 _ 0 (Nat.zero_le _) (rfl) (Nat.lt_succ_self _) _ (lv_sub hl [1, 2, 3, 0] rfl)

set_option maxHeartbeats 4000000 in
set_option maxRecDepth 100000 in
theorem c_X3_canBe (l : Launch) (D : va_G) (cI cO : ClassId) (h : Nat) (tt : Nat) (rg : Int32) (xa : Nat) (la : Nat) (tn : Nat) (tl : Nat → Int32) (a : Nat) (act : Int32) (ht3 : tn ≤ 3) (ha9 : a ≤ 9) : Met l yX3_canBe wsX3_canBe ({ frames := 2, cells := 0, slots := 0, locals := 42 } : Room) (va_Pc [.ref h, .int (nI a), .int act] (wdR D cI cO [(h, .inr (3, [.ref tt, .int rg])), (tt, .inr (5, [.ref xa, .ref la, .int (nI tn)])), (la, .inl (cI, 3, .inl tl))])) (vp_Si (fun r => ((canB tn tl a act = true) → r = 1) ∧ (¬ (canB tn tl a act = true) → r = 0))) 0 0 (fun _ => False) := by
  refine Met.ofW (cc := cX3_canBe) (maxL := 3) (ret := (some .boolean)) (by decide) rfl ?_
  intro p e s m args below meth c s₁ B hml hv
  obtain ⟨rfl, hP, hK, hNw⟩ := hv
  have hx := B.exec
  have hb := B.bytes
  have hr := B.returns
  have hts := atoms_spec (ws := wsX3_canBe) B.pre
  have hown : s.vm.findClass RX3 = some m.cls := findClass_of_methodNamed B.named
  have hlocks := B.notSynchronized
  have f12 := hts (.fieldLink RX3 12 "StruckThrees$Season" "trial" "LStruckThrees$Threes;") (by decide +kernel)
  have iX3 : ∀ w ∈ wsX30, w ∈ wsX3_canBe := by decide +kernel
  have hP : va_P D vwCl [(h, .inr (3, [.ref tt, .int rg])), (tt, .inr (5, [.ref xa, .ref la, .int (nI tn)])), (la, .inl (cI, 3, .inl tl))] s.heap := hP
  have hl := lv_entry ([.ref h, .int (nI a), .int act]) (n := 3) (Nat.le_of_ble_eq_true rfl)
  rw [lg_entry_eq]
  generalize (lg_sl ([.ref h, .int (nI a), .int act]) ++ List.replicate (3 - (lg_sl ([.ref h, .int (nI a), .int act])).length) Slot.unset).toArray = ls at hl ⊢
  have hl : lv_has ls 3 [(0, .ref h), (1, .int (nI a)), (2, .int act)] := hl
  refine lv_iload_n hx hb dX3_canBe_0 rfl (lv_at hl 2 rfl) ?_
  by_cases k1_0 : act = 0
  · -- case 0
    refine lv_tableIn (off := 31) (tgt := 32) hx hb dX3_canBe_1 (by rw [k1_0]; decide) (by rw [k1_0]; decide) (by rw [k1_0]; decide) (by decide) ?_
    refine lv_aload_n hx hb dX3_canBe_32 rfl (lv_at hl 0 rfl) ?_
    refine va_get (D := D) (ci := 3) (v := .ref tt) (C := RX3) (T := TX3) (N := 2) hx hb hts iX3 hown hK hP 0 rfl rfl 0 (by decide) f12 (fun _ h9 => h9) rfl dX3_canBe_33 ?_
    refine lv_iload_n hx hb dX3_canBe_36 rfl (lv_at hl 1 rfl) ?_
    have hPc := hP.sub (ws' := [(tt, .inr (5, [.ref xa, .ref la, .int (nI tn)]))]) [1] rfl
    refine vp_callSi (va_Run.run (va_runV (As := [.int (nI a)]) (rest := []) ⟨hx, hb, hml, hown, hts⟩ (c_X5_has l D cI cO tt xa la tn (nI a)) (cwV 1 hts gX3_canBe_X5_has rfl rfl rfl (by decide +kernel) ⟨Nat.le_of_ble_eq_true rfl, Nat.le_of_ble_eq_true rfl⟩) (preVR hPc hK hNw (va_recv hK hPc (ci := 5) (q0 := 0) rfl rfl)) rfl rfl hl.1 rfl (lv_room (Nat.le_of_ble_eq_true rfl)) dX3_canBe_37 ⟨Nat.zero_le _, Nat.zero_le _⟩)) (fun r37 w37 => ?_)
    by_cases b37 : ¬ (nI a) < 0 ∧ ¬ nI tn ≤ (nI a)
    · -- y37
      obtain rfl := w37.1 b37
      have hAt : a < tn := lt_n (by omega) (by omega) b37.2
      refine lv_if_eq (tgt := 58) hx hb dX3_canBe_40 (by decide) (fun h => absurd h (by decide)) (fun _ => ?_)
      refine lv_aload_n hx hb dX3_canBe_43 rfl (lv_at hl 0 rfl) ?_
      refine va_get (D := D) (ci := 3) (v := .ref tt) (C := RX3) (T := TX3) (N := 2) hx hb hts iX3 hown hK hP 0 rfl rfl 0 (by decide) f12 (fun _ h9 => h9) rfl dX3_canBe_44 ?_
      refine lv_iload_n hx hb dX3_canBe_47 rfl (lv_at hl 1 rfl) ?_
      have hPc := hP.sub (ws' := [(tt, .inr (5, [.ref xa, .ref la, .int (nI tn)])), (la, .inl (cI, 3, .inl tl))]) [1, 2] rfl
      refine vp_callSi (va_Run.run (va_runV (As := [.int (nI a)]) (rest := []) ⟨hx, hb, hml, hown, hts⟩ (c_X5_leftOf l D cI cO tt xa la tn tl a (by assumption) (by assumption)) (cwV 1 hts gX3_canBe_X5_leftOf rfl rfl rfl (by decide +kernel) ⟨Nat.le_of_ble_eq_true rfl, Nat.le_of_ble_eq_true rfl⟩) (preVR hPc hK hNw (va_recv hK hPc (ci := 5) (q0 := 0) rfl rfl)) rfl rfl hl.1 rfl (lv_room (Nat.le_of_ble_eq_true rfl)) dX3_canBe_48 ⟨Nat.zero_le _, Nat.zero_le _⟩)) (fun r48 w48 => ?_)
      obtain rfl := w48
      refine lv_if_ne (tgt := 58) hx hb dX3_canBe_51 (by decide) (fun c51 => ?_) (fun c51 => ?_)
      · -- t51
        refine lv_iconst (v := 0) hx hb dX3_canBe_58 (by decide) ?_
        exact W.zret (v := 0) (ty := .boolean) hx hb hr rfl (fun t ht hW => ⟨_, rfl, by first | exact so_yes (by simp [canB, *]; done) | exact so_no (by simp [canB, *]; done), ht⟩) (fun _ h => absurd h List.not_mem_nil) dX3_canBe_59
      · -- f51
        refine lv_iconst (v := 1) hx hb dX3_canBe_54 (by decide) ?_
        refine lv_goto (tgt := 59) hx hb dX3_canBe_55 (by decide) ?_
        exact W.zret (v := 1) (ty := .boolean) hx hb hr rfl (fun t ht hW => ⟨_, rfl, by first | exact so_yes (by simp [canB, *]; done) | exact so_no (by simp [canB, *]; done), ht⟩) (fun _ h => absurd h List.not_mem_nil) dX3_canBe_59
    · -- n37
      obtain rfl := w37.2 b37
      have hAt : ¬ a < tn := fun q => b37 (nin_nI q (by omega))
      refine lv_if_eq (tgt := 58) hx hb dX3_canBe_40 (by decide) (fun _ => ?_) (fun h => absurd (by decide) h)
      refine lv_iconst (v := 0) hx hb dX3_canBe_58 (by decide) ?_
      exact W.zret (v := 0) (ty := .boolean) hx hb hr rfl (fun t ht hW => ⟨_, rfl, by first | exact so_yes (by simp [canB, *]; done) | exact so_no (by simp [canB, *]; done), ht⟩) (fun _ h => absurd h List.not_mem_nil) dX3_canBe_59
  by_cases k1_1 : act = 1
  · -- case 1
    refine lv_tableIn (off := 59) (tgt := 60) hx hb dX3_canBe_1 (by rw [k1_1]; decide) (by rw [k1_1]; decide) (by rw [k1_1]; decide) (by decide) ?_
    refine lv_aload_n hx hb dX3_canBe_60 rfl (lv_at hl 0 rfl) ?_
    refine va_get (D := D) (ci := 3) (v := .ref tt) (C := RX3) (T := TX3) (N := 2) hx hb hts iX3 hown hK hP 0 rfl rfl 0 (by decide) f12 (fun _ h9 => h9) rfl dX3_canBe_61 ?_
    refine lv_iload_n hx hb dX3_canBe_64 rfl (lv_at hl 1 rfl) ?_
    have hPc := hP.sub (ws' := [(tt, .inr (5, [.ref xa, .ref la, .int (nI tn)]))]) [1] rfl
    refine vp_callSi (va_Run.run (va_runV (As := [.int (nI a)]) (rest := []) ⟨hx, hb, hml, hown, hts⟩ (c_X5_has l D cI cO tt xa la tn (nI a)) (cwV 1 hts gX3_canBe_X5_has rfl rfl rfl (by decide +kernel) ⟨Nat.le_of_ble_eq_true rfl, Nat.le_of_ble_eq_true rfl⟩) (preVR hPc hK hNw (va_recv hK hPc (ci := 5) (q0 := 0) rfl rfl)) rfl rfl hl.1 rfl (lv_room (Nat.le_of_ble_eq_true rfl)) dX3_canBe_65 ⟨Nat.zero_le _, Nat.zero_le _⟩)) (fun r65 w65 => ?_)
    by_cases b65 : ¬ (nI a) < 0 ∧ ¬ nI tn ≤ (nI a)
    · -- y65
      obtain rfl := w65.1 b65
      have hAt : a < tn := lt_n (by omega) (by omega) b65.2
      refine lv_if_eq (tgt := 86) hx hb dX3_canBe_68 (by decide) (fun h => absurd h (by decide)) (fun _ => ?_)
      refine lv_aload_n hx hb dX3_canBe_71 rfl (lv_at hl 0 rfl) ?_
      refine va_get (D := D) (ci := 3) (v := .ref tt) (C := RX3) (T := TX3) (N := 2) hx hb hts iX3 hown hK hP 0 rfl rfl 0 (by decide) f12 (fun _ h9 => h9) rfl dX3_canBe_72 ?_
      refine lv_iload_n hx hb dX3_canBe_75 rfl (lv_at hl 1 rfl) ?_
      have hPc := hP.sub (ws' := [(tt, .inr (5, [.ref xa, .ref la, .int (nI tn)])), (la, .inl (cI, 3, .inl tl))]) [1, 2] rfl
      refine vp_callSi (va_Run.run (va_runV (As := [.int (nI a)]) (rest := []) ⟨hx, hb, hml, hown, hts⟩ (c_X5_leftOf l D cI cO tt xa la tn tl a (by assumption) (by assumption)) (cwV 1 hts gX3_canBe_X5_leftOf rfl rfl rfl (by decide +kernel) ⟨Nat.le_of_ble_eq_true rfl, Nat.le_of_ble_eq_true rfl⟩) (preVR hPc hK hNw (va_recv hK hPc (ci := 5) (q0 := 0) rfl rfl)) rfl rfl hl.1 rfl (lv_room (Nat.le_of_ble_eq_true rfl)) dX3_canBe_76 ⟨Nat.zero_le _, Nat.zero_le _⟩)) (fun r76 w76 => ?_)
      obtain rfl := w76
      refine lv_if_le (tgt := 86) hx hb dX3_canBe_79 (by decide) (fun c79 => ?_) (fun c79 => ?_)
      · -- t79
        refine lv_iconst (v := 0) hx hb dX3_canBe_86 (by decide) ?_
        exact W.zret (v := 0) (ty := .boolean) hx hb hr rfl (fun t ht hW => ⟨_, rfl, by first | exact so_yes (by simp [canB, *]; done) | exact so_no (by simp [canB, *]; done), ht⟩) (fun _ h => absurd h List.not_mem_nil) dX3_canBe_87
      · -- f79
        refine lv_iconst (v := 1) hx hb dX3_canBe_82 (by decide) ?_
        refine lv_goto (tgt := 87) hx hb dX3_canBe_83 (by decide) ?_
        exact W.zret (v := 1) (ty := .boolean) hx hb hr rfl (fun t ht hW => ⟨_, rfl, by first | exact so_yes (by simp [canB, *]; done) | exact so_no (by simp [canB, *]; done), ht⟩) (fun _ h => absurd h List.not_mem_nil) dX3_canBe_87
    · -- n65
      obtain rfl := w65.2 b65
      have hAt : ¬ a < tn := fun q => b65 (nin_nI q (by omega))
      refine lv_if_eq (tgt := 86) hx hb dX3_canBe_68 (by decide) (fun _ => ?_) (fun h => absurd (by decide) h)
      refine lv_iconst (v := 0) hx hb dX3_canBe_86 (by decide) ?_
      exact W.zret (v := 0) (ty := .boolean) hx hb hr rfl (fun t ht hW => ⟨_, rfl, by first | exact so_yes (by simp [canB, *]; done) | exact so_no (by simp [canB, *]; done), ht⟩) (fun _ h => absurd h List.not_mem_nil) dX3_canBe_87
  by_cases k1_2 : act = 2
  · -- case 2
    refine lv_tableIn (off := 96) (tgt := 97) hx hb dX3_canBe_1 (by rw [k1_2]; decide) (by rw [k1_2]; decide) (by rw [k1_2]; decide) (by decide) ?_
    refine lv_iconst (v := 1) hx hb dX3_canBe_97 (by decide) ?_
    exact W.zret (v := 1) (ty := .boolean) hx hb hr rfl (fun t ht hW => ⟨_, rfl, by first | exact so_yes (by simp [canB, *]; done) | exact so_no (by simp [canB, *]; done), ht⟩) (fun _ h => absurd h List.not_mem_nil) dX3_canBe_98
  by_cases k1_3 : act = 3
  · -- case 3
    refine lv_tableIn (off := 87) (tgt := 88) hx hb dX3_canBe_1 (by rw [k1_3]; decide) (by rw [k1_3]; decide) (by rw [k1_3]; decide) (by decide) ?_
    refine lv_aload_n hx hb dX3_canBe_88 rfl (lv_at hl 0 rfl) ?_
    refine va_get (D := D) (ci := 3) (v := .ref tt) (C := RX3) (T := TX3) (N := 2) hx hb hts iX3 hown hK hP 0 rfl rfl 0 (by decide) f12 (fun _ h9 => h9) rfl dX3_canBe_89 ?_
    refine lv_iload_n hx hb dX3_canBe_92 rfl (lv_at hl 1 rfl) ?_
    have hPc := hP.sub (ws' := [(tt, .inr (5, [.ref xa, .ref la, .int (nI tn)]))]) [1] rfl
    refine vp_callSi (va_Run.run (va_runV (As := [.int (nI a)]) (rest := []) ⟨hx, hb, hml, hown, hts⟩ (c_X5_has l D cI cO tt xa la tn (nI a)) (cwV 1 hts gX3_canBe_X5_has rfl rfl rfl (by decide +kernel) ⟨Nat.le_of_ble_eq_true rfl, Nat.le_of_ble_eq_true rfl⟩) (preVR hPc hK hNw (va_recv hK hPc (ci := 5) (q0 := 0) rfl rfl)) rfl rfl hl.1 rfl (lv_room (Nat.le_of_ble_eq_true rfl)) dX3_canBe_93 ⟨Nat.zero_le _, Nat.zero_le _⟩)) (fun r93 w93 => ?_)
    by_cases b93 : ¬ (nI a) < 0 ∧ ¬ nI tn ≤ (nI a)
    · -- y93
      obtain rfl := w93.1 b93
      have hAt : a < tn := lt_n (by omega) (by omega) b93.2
      exact W.zret (v := 1) (ty := .boolean) hx hb hr rfl (fun t ht hW => ⟨_, rfl, by first | exact so_yes (by simp [canB, *]; done) | exact so_no (by simp [canB, *]; done), ht⟩) (fun _ h => absurd h List.not_mem_nil) dX3_canBe_96
    · -- n93
      obtain rfl := w93.2 b93
      have hAt : ¬ a < tn := fun q => b93 (nin_nI q (by omega))
      exact W.zret (v := 0) (ty := .boolean) hx hb hr rfl (fun t ht hW => ⟨_, rfl, by first | exact so_yes (by simp [canB, *]; done) | exact so_no (by simp [canB, *]; done), ht⟩) (fun _ h => absurd h List.not_mem_nil) dX3_canBe_96
  have t1_0 := lv_neT (k := 0) (a := 0) k1_0 (by decide)
  have t1_1 := lv_neT (k := 1) (a := 1) k1_1 (by decide)
  have t1_2 := lv_neT (k := 2) (a := 2) k1_2 (by decide)
  have t1_3 := lv_neT (k := 3) (a := 3) k1_3 (by decide)
  refine lv_tableOut (tgt := 97) hx hb dX3_canBe_1 (by omega) (by decide) ?_
  refine lv_iconst (v := 1) hx hb dX3_canBe_97 (by decide) ?_
  exact W.zret (v := 1) (ty := .boolean) hx hb hr rfl (fun t ht hW => ⟨_, rfl, by first | exact so_yes (by simp [canB, *]; done) | exact so_no (by simp [canB, *]; done), ht⟩) (fun _ h => absurd h List.not_mem_nil) dX3_canBe_98

set_option maxHeartbeats 4000000 in
set_option maxRecDepth 100000 in
theorem c_X3_passBar (l : Launch) (D : va_G) (cI cO : ClassId) (h : Nat) (tt : Nat) (rg : Int32) (xa : Nat) (la : Nat) (tn : Nat) (tl : Nat → Int32) (sz : Nat) (ht3 : tn ≤ 3) : Met l yX3_passBar wsX3_passBar ({ frames := 2, cells := 0, slots := 0, locals := 43 } : Room) (va_Pc [.ref h] (wdW D cI cO [(h, .inr (3, [.ref tt, .int rg])), (tt, .inr (5, [.ref xa, .ref la, .int (nI tn)])), (la, .inl (cI, 3, .inl tl))] sz)) (va_Qv (S := Int32 × (Nat → Int32)) (fun u => u.1 = (if cntW tl tn ≤ 0 then rg else rg + 1) ∧ u.2 = goF tl 1 tn) (fun u t => va_P D vwCl [(h, .inr (3, [.ref tt, .int u.1])), (tt, .inr (5, [.ref xa, .ref la, .int (nI tn)])), (la, .inl (cI, 3, .inl u.2))] t.heap ∧ va_K D vwCl (tyL cI cO) t ∧ va_D (va_A [(h, .inr (3, [.ref tt, .int rg])), (tt, .inr (5, [.ref xa, .ref la, .int (nI tn)])), (la, .inl (cI, 3, .inl tl))] sz) [(h, .inr (3, [.ref tt, .int u.1])), (tt, .inr (5, [.ref xa, .ref la, .int (nI tn)])), (la, .inl (cI, 3, .inl u.2))]) (va_A [(h, .inr (3, [.ref tt, .int rg])), (tt, .inr (5, [.ref xa, .ref la, .int (nI tn)])), (la, .inl (cI, 3, .inl tl))] sz)) 0 0 (va_A [(h, .inr (3, [.ref tt, .int rg])), (tt, .inr (5, [.ref xa, .ref la, .int (nI tn)])), (la, .inl (cI, 3, .inl tl))] sz) := by
  refine Met.ofW (cc := cX3_passBar) (maxL := 1) (ret := none) (by decide) rfl ?_
  intro p e s m args below meth c s₁ B hml hv
  obtain ⟨rfl, hsz, hP, hK, hNw, hD0⟩ := hv
  have hx := B.exec
  have hb := B.bytes
  have hr := B.returns
  have hts := atoms_spec (ws := wsX3_passBar) B.pre
  have hown : s.vm.findClass RX3 = some m.cls := findClass_of_methodNamed B.named
  have hlocks := B.notSynchronized
  have f12 := hts (.fieldLink RX3 12 "StruckThrees$Season" "trial" "LStruckThrees$Threes;") (by decide +kernel)
  have f18 := hts (.fieldLink RX3 18 "StruckThrees$Season" "rang" "I") (by decide +kernel)
  have iX3 : ∀ w ∈ wsX30, w ∈ wsX3_passBar := by decide +kernel
  subst hsz
  have hD := hD0.self (sz := s.heap.size)
  generalize hAe : va_A [(h, .inr (3, [.ref tt, .int rg])), (tt, .inr (5, [.ref xa, .ref la, .int (nI tn)])), (la, .inl (cI, 3, .inl tl))] s.heap.size = A at hD ⊢
  have hA : ∀ q : Nat, s.heap.size ≤ q → A q := fun q h => by rw [← hAe]; exact Or.inr h
  have hS : va_S A s.heap s.heap [] := va_S.rf
  have hP : va_P D vwCl [(h, .inr (3, [.ref tt, .int rg])), (tt, .inr (5, [.ref xa, .ref la, .int (nI tn)])), (la, .inl (cI, 3, .inl tl))] s.heap := hP
  have hl := lv_entry ([.ref h]) (n := 1) (Nat.le_of_ble_eq_true rfl)
  rw [lg_entry_eq]
  generalize (lg_sl ([.ref h]) ++ List.replicate (1 - (lg_sl ([.ref h])).length) Slot.unset).toArray = ls at hl ⊢
  have hl : lv_has ls 1 [(0, .ref h)] := hl
  refine lv_aload_n hx hb dX3_passBar_0 rfl (lv_at hl 0 rfl) ?_
  refine va_get (D := D) (ci := 3) (v := .ref tt) (C := RX3) (T := TX3) (N := 2) hx hb hts iX3 hown hK hP 0 rfl rfl 0 (by decide) f12 (fun _ h9 => h9) rfl dX3_passBar_1 ?_
  have hPc := hP.sub (ws' := [(tt, .inr (5, [.ref xa, .ref la, .int (nI tn)])), (la, .inl (cI, 3, .inl tl))]) [1, 2] rfl
  refine vp_callSi (va_Run.run (va_runV (As := []) (rest := []) ⟨hx, hb, hml, hown, hts⟩ (c_X5_ringing l D cI cO tt xa la tn tl (by assumption)) (cwV 0 hts gX3_passBar_X5_ringing rfl rfl rfl (by decide +kernel) ⟨Nat.le_of_ble_eq_true rfl, Nat.le_of_ble_eq_true rfl⟩) (preVR hPc hK hNw (va_recv hK hPc (ci := 5) (q0 := 0) rfl rfl)) rfl rfl hl.1 rfl (lv_room (Nat.le_of_ble_eq_true rfl)) dX3_passBar_4 ⟨Nat.zero_le _, Nat.zero_le _⟩)) (fun r4 w4 => ?_)
  obtain rfl := w4
  refine lv_if_le (tgt := 20) hx hb dX3_passBar_7 (by decide) (fun c7 => ?_) (fun c7 => ?_)
  · -- t7
    refine lv_aload_n hx hb dX3_passBar_20 rfl (lv_at hl 0 rfl) ?_
    refine va_get (D := D) (ci := 3) (v := .ref tt) (C := RX3) (T := TX3) (N := 2) hx hb hts iX3 hown hK hP 0 rfl rfl 0 (by decide) f12 (fun _ h9 => h9) rfl dX3_passBar_21 ?_
    refine lv_iconst (v := 1) hx hb dX3_passBar_24 (by decide) ?_
    have hPc := hP.sub (ws' := [(tt, .inr (5, [.ref xa, .ref la, .int (nI tn)])), (la, .inl (cI, 3, .inl tl))]) [1, 2] rfl
    have hDc := hD.sub (ws' := [(tt, .inr (5, [.ref xa, .ref la, .int (nI tn)])), (la, .inl (cI, 3, .inl tl))]) [1, 2] (by decide) rfl
    have hFc := va_free (wc := [(tt, .inr (5, [.ref xa, .ref la, .int (nI tn)])), (la, .inl (cI, 3, .inl tl))]) hD hS hA [1, 2] rfl
    refine va_callv (va_runV (As := [.int 1]) (rest := []) ⟨hx, hb, hml, hown, hts⟩ (c_X5_goBy l D cI cO tt xa la tn tl 1 _ (by assumption)) (cwV 1 hts gX3_passBar_X5_goBy rfl rfl rfl (by decide +kernel) ⟨Nat.le_of_ble_eq_true rfl, Nat.le_of_ble_eq_true rfl⟩) (preVW hPc hK hNw hDc (va_recv hK hPc (ci := 5) (q0 := 0) rfl rfl)) rfl rfl hl.1 rfl (lv_room (Nat.le_of_ble_eq_true rfl)) dX3_passBar_25 ⟨Nat.zero_le _, Nat.zero_le _⟩) hS (fun q _ h => hFc q h) hFc (fun u t H1 locs ht hvm w25 hB hz1 hk1 hS => ?_)
    obtain ⟨tl1_25, rfl⟩ : ∃ z, z = u := ⟨_, rfl⟩
    obtain ⟨hP1, hK1, hD1⟩ := hB
    rw [ht] at hP1
    try dsimp only at w25
    obtain ⟨hP, hD⟩ := va_join (wr := [(h, .inr (3, [.ref tt, .int rg]))]) (w1 := [(tt, .inr (5, [.ref xa, .ref la, .int (nI tn)])), (la, .inl (cI, 3, .inl tl1_25))]) hP hD [1, 2] [0] rfl rfl (by decide) (by decide) hk1 hFc hP1 hD1
    generalize H1 = H at hP hS ⊢
    have hP := hP.sub (ws' := [(h, .inr (3, [.ref tt, .int rg])), (tt, .inr (5, [.ref xa, .ref la, .int (nI tn)])), (la, .inl (cI, 3, .inl tl1_25))]) [0, 1, 2] rfl
    have hD := hD.sub (ws' := [(h, .inr (3, [.ref tt, .int rg])), (tt, .inr (5, [.ref xa, .ref la, .int (nI tn)])), (la, .inl (cI, 3, .inl tl1_25))]) [0, 1, 2] (by decide) rfl
    obtain rfl := w25
    exact W.vret hx hb hr (fun t ht hW => ⟨⟨(rg, (goF tl 1 tn)), rfl, by simp [c7], by rw [ht]; exact hP, va_K.moved hW.alike hK, hD⟩, hS.F ht⟩) hS.2.2 dX3_passBar_28
  · -- f7
    refine lv_aload_n hx hb dX3_passBar_10 rfl (lv_at hl 0 rfl) ?_
    refine lv_dup hx hb dX3_passBar_11 rfl ?_
    refine va_get (D := D) (ci := 3) (v := .int rg) (C := RX3) (T := TX3) (N := 2) hx hb hts iX3 hown hK hP 0 rfl rfl 1 (by decide) f18 (fun _ h9 => h9) rfl dX3_passBar_12 ?_
    refine lv_iconst (v := 1) hx hb dX3_passBar_15 (by decide) ?_
    refine lv_iadd hx hb dX3_passBar_16 ?_
    refine va_put (D := D) (ci := 3) (v := .int (rg + 1)) (ty := .int) (C := RX3) (T := TX3) (N := 2) hx hb hts iX3 tyX3 tyX3_ok nmX3 hown hK hP hD hS 0 rfl rfl 1 (by decide) f18 (fun _ h9 => h9) rfl (by decide +kernel) rfl rfl (Nat.le_of_ble_eq_true rfl) dX3_passBar_17 (fun H locs hP hD hS => ?_)
    have hP : va_P D vwCl [(h, .inr (3, [.ref tt, .int (rg + 1)])), (tt, .inr (5, [.ref xa, .ref la, .int (nI tn)])), (la, .inl (cI, 3, .inl tl))] H := hP
    have hD : va_D A [(h, .inr (3, [.ref tt, .int (rg + 1)])), (tt, .inr (5, [.ref xa, .ref la, .int (nI tn)])), (la, .inl (cI, 3, .inl tl))] := hD
    refine lv_aload_n hx hb dX3_passBar_20 rfl (lv_at hl 0 rfl) ?_
    refine va_get (D := D) (ci := 3) (v := .ref tt) (C := RX3) (T := TX3) (N := 2) hx hb hts iX3 hown hK hP 0 rfl rfl 0 (by decide) f12 (fun _ h9 => h9) rfl dX3_passBar_21 ?_
    refine lv_iconst (v := 1) hx hb dX3_passBar_24 (by decide) ?_
    have hPc := hP.sub (ws' := [(tt, .inr (5, [.ref xa, .ref la, .int (nI tn)])), (la, .inl (cI, 3, .inl tl))]) [1, 2] rfl
    have hDc := hD.sub (ws' := [(tt, .inr (5, [.ref xa, .ref la, .int (nI tn)])), (la, .inl (cI, 3, .inl tl))]) [1, 2] (by decide) rfl
    have hFc := va_free (wc := [(tt, .inr (5, [.ref xa, .ref la, .int (nI tn)])), (la, .inl (cI, 3, .inl tl))]) hD hS hA [1, 2] rfl
    refine va_callv (va_runV (As := [.int 1]) (rest := []) ⟨hx, hb, hml, hown, hts⟩ (c_X5_goBy l D cI cO tt xa la tn tl 1 _ (by assumption)) (cwV 1 hts gX3_passBar_X5_goBy rfl rfl rfl (by decide +kernel) ⟨Nat.le_of_ble_eq_true rfl, Nat.le_of_ble_eq_true rfl⟩) (preVW hPc hK hNw hDc (va_recv hK hPc (ci := 5) (q0 := 0) rfl rfl)) rfl rfl hl.1 rfl (lv_room (Nat.le_of_ble_eq_true rfl)) dX3_passBar_25 ⟨Nat.zero_le _, Nat.zero_le _⟩) hS (fun q _ h => hFc q h) hFc (fun u t H1 locs ht hvm w25 hB hz1 hk1 hS => ?_)
    obtain ⟨tl1_25, rfl⟩ : ∃ z, z = u := ⟨_, rfl⟩
    obtain ⟨hP1, hK1, hD1⟩ := hB
    rw [ht] at hP1
    try dsimp only at w25
    obtain ⟨hP, hD⟩ := va_join (wr := [(h, .inr (3, [.ref tt, .int (rg + 1)]))]) (w1 := [(tt, .inr (5, [.ref xa, .ref la, .int (nI tn)])), (la, .inl (cI, 3, .inl tl1_25))]) hP hD [1, 2] [0] rfl rfl (by decide) (by decide) hk1 hFc hP1 hD1
    generalize H1 = H at hP hS ⊢
    have hP := hP.sub (ws' := [(h, .inr (3, [.ref tt, .int (rg + 1)])), (tt, .inr (5, [.ref xa, .ref la, .int (nI tn)])), (la, .inl (cI, 3, .inl tl1_25))]) [0, 1, 2] rfl
    have hD := hD.sub (ws' := [(h, .inr (3, [.ref tt, .int (rg + 1)])), (tt, .inr (5, [.ref xa, .ref la, .int (nI tn)])), (la, .inl (cI, 3, .inl tl1_25))]) [0, 1, 2] (by decide) rfl
    obtain rfl := w25
    exact W.vret hx hb hr (fun t ht hW => ⟨⟨(rg + 1, (goF tl 1 tn)), rfl, by simp [c7], by rw [ht]; exact hP, va_K.moved hW.alike hK, hD⟩, hS.F ht⟩) hS.2.2 dX3_passBar_28

set_option maxHeartbeats 4000000 in
set_option maxRecDepth 100000 in
theorem c_X3_perform (l : Launch) (D : va_G) (cI cO : ClassId) (h : Nat) (tt : Nat) (rg : Int32) (xa : Nat) (la : Nat) (tn : Nat) (ts : Nat → Int32) (tl : Nat → Int32) (o : Nat) (ka : Nat) (sa : Nat) (n : Nat) (kd : Nat → Int32) (sd : Nat → Int32) (a : Nat) (act : Int32) (sz : Nat) (ht3 : tn ≤ 3) (hn : n ≤ 9) (ha9 : a ≤ 9) (hc : canB tn tl a act = true) : Met l yX3_perform wsX3_perform ({ frames := 3, cells := 0, slots := 0, locals := 65 } : Room) (va_Pc [.ref h, .ref o, .int (nI a), .int act] (wdW D cI cO [(h, .inr (3, [.ref tt, .int rg])), (tt, .inr (5, [.ref xa, .ref la, .int (nI tn)])), (xa, .inl (cI, 3, .inl ts)), (la, .inl (cI, 3, .inl tl)), (o, .inr (1, [.ref ka, .ref sa, .int (nI n)])), (ka, .inl (cI, 9, .inl kd)), (sa, .inl (cI, 9, .inl sd))] sz)) (va_Qv (S := Nat × (Nat → Int32) × (Nat → Int32) × Int32) (fun u => u.1 = (pfm n kd sd a act (tn, ts, tl, rg)).1 ∧ u.2.1 = (pfm n kd sd a act (tn, ts, tl, rg)).2.1 ∧ u.2.2.1 = (pfm n kd sd a act (tn, ts, tl, rg)).2.2.1 ∧ u.2.2.2 = (pfm n kd sd a act (tn, ts, tl, rg)).2.2.2) (fun u t => va_P D vwCl [(h, .inr (3, [.ref tt, .int u.2.2.2])), (tt, .inr (5, [.ref xa, .ref la, .int (nI u.1)])), (xa, .inl (cI, 3, .inl u.2.1)), (la, .inl (cI, 3, .inl u.2.2.1)), (o, .inr (1, [.ref ka, .ref sa, .int (nI n)])), (ka, .inl (cI, 9, .inl kd)), (sa, .inl (cI, 9, .inl sd))] t.heap ∧ va_K D vwCl (tyL cI cO) t ∧ va_D (va_A [(h, .inr (3, [.ref tt, .int rg])), (tt, .inr (5, [.ref xa, .ref la, .int (nI tn)])), (xa, .inl (cI, 3, .inl ts)), (la, .inl (cI, 3, .inl tl)), (o, .inr (1, [.ref ka, .ref sa, .int (nI n)])), (ka, .inl (cI, 9, .inl kd)), (sa, .inl (cI, 9, .inl sd))] sz) [(h, .inr (3, [.ref tt, .int u.2.2.2])), (tt, .inr (5, [.ref xa, .ref la, .int (nI u.1)])), (xa, .inl (cI, 3, .inl u.2.1)), (la, .inl (cI, 3, .inl u.2.2.1)), (o, .inr (1, [.ref ka, .ref sa, .int (nI n)])), (ka, .inl (cI, 9, .inl kd)), (sa, .inl (cI, 9, .inl sd))]) (va_A [(h, .inr (3, [.ref tt, .int rg])), (tt, .inr (5, [.ref xa, .ref la, .int (nI tn)])), (xa, .inl (cI, 3, .inl ts)), (la, .inl (cI, 3, .inl tl)), (o, .inr (1, [.ref ka, .ref sa, .int (nI n)])), (ka, .inl (cI, 9, .inl kd)), (sa, .inl (cI, 9, .inl sd))] sz)) 0 0 (va_A [(h, .inr (3, [.ref tt, .int rg])), (tt, .inr (5, [.ref xa, .ref la, .int (nI tn)])), (xa, .inl (cI, 3, .inl ts)), (la, .inl (cI, 3, .inl tl)), (o, .inr (1, [.ref ka, .ref sa, .int (nI n)])), (ka, .inl (cI, 9, .inl kd)), (sa, .inl (cI, 9, .inl sd))] sz) := by
  refine Met.ofW (cc := cX3_perform) (maxL := 5) (ret := none) (by decide) rfl ?_
  intro p e s m args below meth c s₁ B hml hv
  obtain ⟨rfl, hsz, hP, hK, hNw, hD0⟩ := hv
  have hx := B.exec
  have hb := B.bytes
  have hr := B.returns
  have hts := atoms_spec (ws := wsX3_perform) B.pre
  have hown : s.vm.findClass RX3 = some m.cls := findClass_of_methodNamed B.named
  have hlocks := B.notSynchronized
  have f12 := hts (.fieldLink RX3 12 "StruckThrees$Season" "trial" "LStruckThrees$Threes;") (by decide +kernel)
  have iX3 : ∀ w ∈ wsX30, w ∈ wsX3_perform := by decide +kernel
  subst hsz
  have hD := hD0.self (sz := s.heap.size)
  generalize hAe : va_A [(h, .inr (3, [.ref tt, .int rg])), (tt, .inr (5, [.ref xa, .ref la, .int (nI tn)])), (xa, .inl (cI, 3, .inl ts)), (la, .inl (cI, 3, .inl tl)), (o, .inr (1, [.ref ka, .ref sa, .int (nI n)])), (ka, .inl (cI, 9, .inl kd)), (sa, .inl (cI, 9, .inl sd))] s.heap.size = A at hD ⊢
  have hA : ∀ q : Nat, s.heap.size ≤ q → A q := fun q h => by rw [← hAe]; exact Or.inr h
  have hS : va_S A s.heap s.heap [] := va_S.rf
  have hP : va_P D vwCl [(h, .inr (3, [.ref tt, .int rg])), (tt, .inr (5, [.ref xa, .ref la, .int (nI tn)])), (xa, .inl (cI, 3, .inl ts)), (la, .inl (cI, 3, .inl tl)), (o, .inr (1, [.ref ka, .ref sa, .int (nI n)])), (ka, .inl (cI, 9, .inl kd)), (sa, .inl (cI, 9, .inl sd))] s.heap := hP
  have hl := lv_entry ([.ref h, .ref o, .int (nI a), .int act]) (n := 5) (Nat.le_of_ble_eq_true rfl)
  rw [lg_entry_eq]
  generalize (lg_sl ([.ref h, .ref o, .int (nI a), .int act]) ++ List.replicate (5 - (lg_sl ([.ref h, .ref o, .int (nI a), .int act])).length) Slot.unset).toArray = ls at hl ⊢
  have hl : lv_has ls 5 [(0, .ref h), (1, .ref o), (2, .int (nI a)), (3, .int act)] := hl
  refine lv_iload_n hx hb dX3_perform_0 rfl (lv_at hl 3 rfl) ?_
  by_cases k1_0 : act = 0
  · -- case 0
    refine lv_tableIn (off := 31) (tgt := 32) hx hb dX3_perform_1 (by rw [k1_0]; decide) (by rw [k1_0]; decide) (by rw [k1_0]; decide) (by decide) ?_
    have hAt : a < tn := by simp [canB, k1_0] at hc; exact hc.1
    refine lv_aload_n hx hb dX3_perform_32 rfl (lv_at hl 0 rfl) ?_
    refine va_get (D := D) (ci := 3) (v := .ref tt) (C := RX3) (T := TX3) (N := 2) hx hb hts iX3 hown hK hP 0 rfl rfl 0 (by decide) f12 (fun _ h9 => h9) rfl dX3_perform_33 ?_
    refine lv_iload_n hx hb dX3_perform_36 rfl (lv_at hl 2 rfl) ?_
    refine lv_aload_n hx hb dX3_perform_37 rfl (lv_at hl 1 rfl) ?_
    refine lv_aload_n hx hb dX3_perform_38 rfl (lv_at hl 0 rfl) ?_
    refine va_get (D := D) (ci := 3) (v := .ref tt) (C := RX3) (T := TX3) (N := 2) hx hb hts iX3 hown hK hP 0 rfl rfl 0 (by decide) f12 (fun _ h9 => h9) rfl dX3_perform_39 ?_
    refine lv_iload_n hx hb dX3_perform_42 rfl (lv_at hl 2 rfl) ?_
    have hPc := hP.sub (ws' := [(tt, .inr (5, [.ref xa, .ref la, .int (nI tn)])), (xa, .inl (cI, 3, .inl ts))]) [1, 2] rfl
    refine vp_callSi (va_Run.run (va_runV (As := [.int (nI a)]) (rest := [.ref o, .int (nI a), .ref tt]) ⟨hx, hb, hml, hown, hts⟩ (c_X5_setOf l D cI cO tt xa la tn ts a (by assumption) (by assumption)) (cwV 1 hts gX3_perform_X5_setOf rfl rfl rfl (by decide +kernel) ⟨Nat.le_of_ble_eq_true rfl, Nat.le_of_ble_eq_true rfl⟩) (preVR hPc hK hNw (va_recv hK hPc (ci := 5) (q0 := 0) rfl rfl)) rfl rfl hl.1 rfl (lv_room (Nat.le_of_ble_eq_true rfl)) dX3_perform_43 ⟨Nat.zero_le _, Nat.zero_le _⟩)) (fun r43 w43 => ?_)
    obtain rfl := w43
    have hPc := hP.sub (ws' := [(o, .inr (1, [.ref ka, .ref sa, .int (nI n)])), (ka, .inl (cI, 9, .inl kd)), (sa, .inl (cI, 9, .inl sd))]) [4, 5, 6] rfl
    refine vp_callSi (va_Run.run (va_runV (As := [.int (ts a)]) (rest := [.int (nI a), .ref tt]) ⟨hx, hb, hml, hown, hts⟩ (c_X1_ringsOf l D cI cO o ka sa n kd sd (ts a) (by assumption)) (cwV 1 hts gX3_perform_X1_ringsOf rfl rfl rfl (by decide +kernel) ⟨Nat.le_of_ble_eq_true rfl, Nat.le_of_ble_eq_true rfl⟩) (preVR hPc hK hNw (va_recv hK hPc (ci := 1) (q0 := 0) rfl rfl)) rfl rfl hl.1 rfl (lv_room (Nat.le_of_ble_eq_true rfl)) dX3_perform_46 ⟨Nat.zero_le _, Nat.zero_le _⟩)) (fun r46 w46 => ?_)
    obtain rfl := w46
    have hPc := hP.sub (ws' := [(tt, .inr (5, [.ref xa, .ref la, .int (nI tn)])), (la, .inl (cI, 3, .inl tl))]) [1, 3] rfl
    have hDc := hD.sub (ws' := [(tt, .inr (5, [.ref xa, .ref la, .int (nI tn)])), (la, .inl (cI, 3, .inl tl))]) [1, 3] (by decide) rfl
    have hFc := va_free (wc := [(tt, .inr (5, [.ref xa, .ref la, .int (nI tn)])), (la, .inl (cI, 3, .inl tl))]) hD hS hA [1, 3] rfl
    refine va_callv (va_runV (As := [.int (nI a), .int (sumW (fun p => ringI (kd p) (sd p)) (ts a) n)]) (rest := []) ⟨hx, hb, hml, hown, hts⟩ (c_X5_ringFor l D cI cO tt xa la tn tl a (sumW (fun p => ringI (kd p) (sd p)) (ts a) n) _ (by assumption) (by assumption)) (cwV 2 hts gX3_perform_X5_ringFor rfl rfl rfl (by decide +kernel) ⟨Nat.le_of_ble_eq_true rfl, Nat.le_of_ble_eq_true rfl⟩) (preVW hPc hK hNw hDc (va_recv hK hPc (ci := 5) (q0 := 0) rfl rfl)) rfl rfl hl.1 rfl (lv_room (Nat.le_of_ble_eq_true rfl)) dX3_perform_49 ⟨Nat.zero_le _, Nat.zero_le _⟩) hS (fun q _ h => hFc q h) hFc (fun u t H1 locs ht hvm w49 hB hz1 hk1 hS => ?_)
    obtain ⟨tl1_49, rfl⟩ : ∃ z, z = u := ⟨_, rfl⟩
    obtain ⟨hP1, hK1, hD1⟩ := hB
    rw [ht] at hP1
    try dsimp only at w49
    obtain ⟨hP, hD⟩ := va_join (wr := [(h, .inr (3, [.ref tt, .int rg])), (xa, .inl (cI, 3, .inl ts)), (o, .inr (1, [.ref ka, .ref sa, .int (nI n)])), (ka, .inl (cI, 9, .inl kd)), (sa, .inl (cI, 9, .inl sd))]) (w1 := [(tt, .inr (5, [.ref xa, .ref la, .int (nI tn)])), (la, .inl (cI, 3, .inl tl1_49))]) hP hD [1, 3] [0, 2, 4, 5, 6] rfl rfl (by decide) (by decide) hk1 hFc hP1 hD1
    generalize H1 = H at hP hS ⊢
    have hP := hP.sub (ws' := [(h, .inr (3, [.ref tt, .int rg])), (tt, .inr (5, [.ref xa, .ref la, .int (nI tn)])), (xa, .inl (cI, 3, .inl ts)), (la, .inl (cI, 3, .inl tl1_49)), (o, .inr (1, [.ref ka, .ref sa, .int (nI n)])), (ka, .inl (cI, 9, .inl kd)), (sa, .inl (cI, 9, .inl sd))]) [0, 5, 1, 6, 2, 3, 4] rfl
    have hD := hD.sub (ws' := [(h, .inr (3, [.ref tt, .int rg])), (tt, .inr (5, [.ref xa, .ref la, .int (nI tn)])), (xa, .inl (cI, 3, .inl ts)), (la, .inl (cI, 3, .inl tl1_49)), (o, .inr (1, [.ref ka, .ref sa, .int (nI n)])), (ka, .inl (cI, 9, .inl kd)), (sa, .inl (cI, 9, .inl sd))]) [0, 5, 1, 6, 2, 3, 4] (by decide) rfl
    obtain rfl := w49
    refine lv_goto (tgt := 97) hx hb dX3_perform_52 (by decide) ?_
    exact W.vret hx hb hr (fun t ht hW => ⟨⟨(tn, ts, (upd tl a (sumW (fun p => ringI (kd p) (sd p)) (ts a) n)), rg), rfl, by simp [pfm, *], by rw [ht]; exact hP, va_K.moved hW.alike hK, hD⟩, hS.F ht⟩) hS.2.2 dX3_perform_97
  by_cases k1_1 : act = 1
  · -- case 1
    refine lv_tableIn (off := 54) (tgt := 55) hx hb dX3_perform_1 (by rw [k1_1]; decide) (by rw [k1_1]; decide) (by rw [k1_1]; decide) (by decide) ?_
    have hAt : a < tn := by simp [canB, k1_1] at hc; exact hc.1
    refine lv_aload_n hx hb dX3_perform_55 rfl (lv_at hl 0 rfl) ?_
    refine va_get (D := D) (ci := 3) (v := .ref tt) (C := RX3) (T := TX3) (N := 2) hx hb hts iX3 hown hK hP 0 rfl rfl 0 (by decide) f12 (fun _ h9 => h9) rfl dX3_perform_56 ?_
    refine lv_iload_n hx hb dX3_perform_59 rfl (lv_at hl 2 rfl) ?_
    refine lv_iconst (v := 0) hx hb dX3_perform_60 (by decide) ?_
    have hPc := hP.sub (ws' := [(tt, .inr (5, [.ref xa, .ref la, .int (nI tn)])), (la, .inl (cI, 3, .inl tl))]) [1, 3] rfl
    have hDc := hD.sub (ws' := [(tt, .inr (5, [.ref xa, .ref la, .int (nI tn)])), (la, .inl (cI, 3, .inl tl))]) [1, 3] (by decide) rfl
    have hFc := va_free (wc := [(tt, .inr (5, [.ref xa, .ref la, .int (nI tn)])), (la, .inl (cI, 3, .inl tl))]) hD hS hA [1, 3] rfl
    refine va_callv (va_runV (As := [.int (nI a), .int 0]) (rest := []) ⟨hx, hb, hml, hown, hts⟩ (c_X5_ringFor l D cI cO tt xa la tn tl a 0 _ (by assumption) (by assumption)) (cwV 2 hts gX3_perform_X5_ringFor rfl rfl rfl (by decide +kernel) ⟨Nat.le_of_ble_eq_true rfl, Nat.le_of_ble_eq_true rfl⟩) (preVW hPc hK hNw hDc (va_recv hK hPc (ci := 5) (q0 := 0) rfl rfl)) rfl rfl hl.1 rfl (lv_room (Nat.le_of_ble_eq_true rfl)) dX3_perform_61 ⟨Nat.zero_le _, Nat.zero_le _⟩) hS (fun q _ h => hFc q h) hFc (fun u t H1 locs ht hvm w61 hB hz1 hk1 hS => ?_)
    obtain ⟨tl1_61, rfl⟩ : ∃ z, z = u := ⟨_, rfl⟩
    obtain ⟨hP1, hK1, hD1⟩ := hB
    rw [ht] at hP1
    try dsimp only at w61
    obtain ⟨hP, hD⟩ := va_join (wr := [(h, .inr (3, [.ref tt, .int rg])), (xa, .inl (cI, 3, .inl ts)), (o, .inr (1, [.ref ka, .ref sa, .int (nI n)])), (ka, .inl (cI, 9, .inl kd)), (sa, .inl (cI, 9, .inl sd))]) (w1 := [(tt, .inr (5, [.ref xa, .ref la, .int (nI tn)])), (la, .inl (cI, 3, .inl tl1_61))]) hP hD [1, 3] [0, 2, 4, 5, 6] rfl rfl (by decide) (by decide) hk1 hFc hP1 hD1
    generalize H1 = H at hP hS ⊢
    have hP := hP.sub (ws' := [(h, .inr (3, [.ref tt, .int rg])), (tt, .inr (5, [.ref xa, .ref la, .int (nI tn)])), (xa, .inl (cI, 3, .inl ts)), (la, .inl (cI, 3, .inl tl1_61)), (o, .inr (1, [.ref ka, .ref sa, .int (nI n)])), (ka, .inl (cI, 9, .inl kd)), (sa, .inl (cI, 9, .inl sd))]) [0, 5, 1, 6, 2, 3, 4] rfl
    have hD := hD.sub (ws' := [(h, .inr (3, [.ref tt, .int rg])), (tt, .inr (5, [.ref xa, .ref la, .int (nI tn)])), (xa, .inl (cI, 3, .inl ts)), (la, .inl (cI, 3, .inl tl1_61)), (o, .inr (1, [.ref ka, .ref sa, .int (nI n)])), (ka, .inl (cI, 9, .inl kd)), (sa, .inl (cI, 9, .inl sd))]) [0, 5, 1, 6, 2, 3, 4] (by decide) rfl
    obtain rfl := w61
    refine lv_goto (tgt := 97) hx hb dX3_perform_64 (by decide) ?_
    exact W.vret hx hb hr (fun t ht hW => ⟨⟨(tn, ts, (upd tl a 0), rg), rfl, by simp [pfm, *], by rw [ht]; exact hP, va_K.moved hW.alike hK, hD⟩, hS.F ht⟩) hS.2.2 dX3_perform_97
  by_cases k1_2 : act = 2
  · -- case 2
    refine lv_tableIn (off := 77) (tgt := 78) hx hb dX3_perform_1 (by rw [k1_2]; decide) (by rw [k1_2]; decide) (by rw [k1_2]; decide) (by decide) ?_
    refine lv_iconst (v := 0) hx hb dX3_perform_78 (by decide) ?_
    refine lv_istore (lv' := [(4, .int 0), (0, .ref h), (1, .ref o), (2, .int (nI a)), (3, .int act)]) hx hb dX3_perform_79 hl (by decide) rfl (fun ls hl => ?_)
    have lp81 : ∀ (fu81 : Nat) (i : Nat) (hi : i ≤ a) (hm81 : a - i < fu81) (H : Heap) (locs : List Loc) (hP : va_P D vwCl [(h, .inr (3, [.ref tt, .int ((itB tn tl rg i).2)])), (tt, .inr (5, [.ref xa, .ref la, .int (nI tn)])), (xa, .inl (cI, 3, .inl ts)), (la, .inl (cI, 3, .inl ((itB tn tl rg i).1))), (o, .inr (1, [.ref ka, .ref sa, .int (nI n)])), (ka, .inl (cI, 9, .inl kd)), (sa, .inl (cI, 9, .inl sd))] H) (hD : va_D A [(h, .inr (3, [.ref tt, .int ((itB tn tl rg i).2)])), (tt, .inr (5, [.ref xa, .ref la, .int (nI tn)])), (xa, .inl (cI, 3, .inl ts)), (la, .inl (cI, 3, .inl ((itB tn tl rg i).1))), (o, .inr (1, [.ref ka, .ref sa, .int (nI n)])), (ka, .inl (cI, 9, .inl kd)), (sa, .inl (cI, 9, .inl sd))]) (hS : va_S A s.heap H locs) (ls : Array Slot) (hl : lv_has ls 5 [(0, .ref h), (2, .int (nI a)), (4, .int (nI i))]), W p l e (headSpec wsX3_perform ({ frames := 3, cells := 0, slots := 0, locals := 65 } : Room)).room s m ([.ref h, .ref o, .int (nI a), .int act]).toArray below meth c H locs 0 0 (MQ below (va_Qv (S := Nat × (Nat → Int32) × (Nat → Int32) × Int32) (fun u => u.1 = (pfm n kd sd a act (tn, ts, tl, rg)).1 ∧ u.2.1 = (pfm n kd sd a act (tn, ts, tl, rg)).2.1 ∧ u.2.2.1 = (pfm n kd sd a act (tn, ts, tl, rg)).2.2.1 ∧ u.2.2.2 = (pfm n kd sd a act (tn, ts, tl, rg)).2.2.2) (fun u t => va_P D vwCl [(h, .inr (3, [.ref tt, .int u.2.2.2])), (tt, .inr (5, [.ref xa, .ref la, .int (nI u.1)])), (xa, .inl (cI, 3, .inl u.2.1)), (la, .inl (cI, 3, .inl u.2.2.1)), (o, .inr (1, [.ref ka, .ref sa, .int (nI n)])), (ka, .inl (cI, 9, .inl kd)), (sa, .inl (cI, 9, .inl sd))] t.heap ∧ va_K D vwCl (tyL cI cO) t ∧ va_D A [(h, .inr (3, [.ref tt, .int u.2.2.2])), (tt, .inr (5, [.ref xa, .ref la, .int (nI u.1)])), (xa, .inl (cI, 3, .inl u.2.1)), (la, .inl (cI, 3, .inl u.2.2.1)), (o, .inr (1, [.ref ka, .ref sa, .int (nI n)])), (ka, .inl (cI, 9, .inl kd)), (sa, .inl (cI, 9, .inl sd))]) A) ([.ref h, .ref o, .int (nI a), .int act]).toArray s 0 0 A) (F0 m 81 ls []) := by
      intro fu81
      induction fu81 with
      | zero =>
        intros; omega
      | succ fu81 ih81 =>
        intro i hi hm81 H locs hP hD hS ls hl
        refine lv_iload hx hb dX3_perform_81 (lv_at hl 2 rfl) ?_
        refine lv_iload_n hx hb dX3_perform_83 rfl (lv_at hl 1 rfl) ?_
        refine lv_icmp_ge (tgt := 97) hx hb dX3_perform_84 (by decide) (fun c84 => ?_) (fun c84 => ?_)
        · -- t84
          have e84 : i = a := by have q := ge_n (by omega) (by omega) c84; omega
          rw [e84] at hl
          rw [e84] at hP hD
          exact W.vret hx hb hr (fun t ht hW => ⟨⟨(tn, ts, (itB tn tl rg a).1, (itB tn tl rg a).2), rfl, by simp [pfm, *], by rw [ht]; exact hP, va_K.moved hW.alike hK, hD⟩, hS.F ht⟩) hS.2.2 dX3_perform_97
        · -- f84
          have l84 : i < a := lt_n (by omega) (by omega) c84
          refine lv_aload_n hx hb dX3_perform_87 rfl (lv_at hl 0 rfl) ?_
          have hPc := hP.sub (ws' := [(h, .inr (3, [.ref tt, .int ((itB tn tl rg i).2)])), (tt, .inr (5, [.ref xa, .ref la, .int (nI tn)])), (la, .inl (cI, 3, .inl ((itB tn tl rg i).1)))]) [0, 1, 3] rfl
          have hDc := hD.sub (ws' := [(h, .inr (3, [.ref tt, .int ((itB tn tl rg i).2)])), (tt, .inr (5, [.ref xa, .ref la, .int (nI tn)])), (la, .inl (cI, 3, .inl ((itB tn tl rg i).1)))]) [0, 1, 3] (by decide) rfl
          have hFc := va_free (wc := [(h, .inr (3, [.ref tt, .int ((itB tn tl rg i).2)])), (tt, .inr (5, [.ref xa, .ref la, .int (nI tn)])), (la, .inl (cI, 3, .inl ((itB tn tl rg i).1)))]) hD hS hA [0, 1, 3] rfl
          refine va_callv (va_runV (As := []) (rest := []) ⟨hx, hb, hml, hown, hts⟩ (c_X3_passBar l D cI cO h tt ((itB tn tl rg i).2) xa la tn ((itB tn tl rg i).1) _ (by assumption)) (cwV 0 hts gX3_perform_X3_passBar rfl rfl rfl (by decide +kernel) ⟨Nat.le_of_ble_eq_true rfl, Nat.le_of_ble_eq_true rfl⟩) (preVW hPc hK hNw hDc (va_recv hK hPc (ci := 3) (q0 := 0) rfl rfl)) rfl rfl hl.1 rfl (lv_room (Nat.le_of_ble_eq_true rfl)) dX3_perform_88 ⟨Nat.zero_le _, Nat.zero_le _⟩) hS (fun q _ h => hFc q h) hFc (fun u t H1 locs ht hvm w88 hB hz1 hk1 hS => ?_)
          obtain ⟨rg1_88, tl1_88⟩ := u
          obtain ⟨hP1, hK1, hD1⟩ := hB
          rw [ht] at hP1
          try dsimp only at w88
          obtain ⟨hP, hD⟩ := va_join (wr := [(xa, .inl (cI, 3, .inl ts)), (o, .inr (1, [.ref ka, .ref sa, .int (nI n)])), (ka, .inl (cI, 9, .inl kd)), (sa, .inl (cI, 9, .inl sd))]) (w1 := [(h, .inr (3, [.ref tt, .int rg1_88])), (tt, .inr (5, [.ref xa, .ref la, .int (nI tn)])), (la, .inl (cI, 3, .inl tl1_88))]) hP hD [0, 1, 3] [2, 4, 5, 6] rfl rfl (by decide) (by decide) hk1 hFc hP1 hD1
          generalize H1 = H at hP hS ⊢
          have hP := hP.sub (ws' := [(h, .inr (3, [.ref tt, .int rg1_88])), (tt, .inr (5, [.ref xa, .ref la, .int (nI tn)])), (xa, .inl (cI, 3, .inl ts)), (la, .inl (cI, 3, .inl tl1_88)), (o, .inr (1, [.ref ka, .ref sa, .int (nI n)])), (ka, .inl (cI, 9, .inl kd)), (sa, .inl (cI, 9, .inl sd))]) [4, 5, 0, 6, 1, 2, 3] rfl
          have hD := hD.sub (ws' := [(h, .inr (3, [.ref tt, .int rg1_88])), (tt, .inr (5, [.ref xa, .ref la, .int (nI tn)])), (xa, .inl (cI, 3, .inl ts)), (la, .inl (cI, 3, .inl tl1_88)), (o, .inr (1, [.ref ka, .ref sa, .int (nI n)])), (ka, .inl (cI, 9, .inl kd)), (sa, .inl (cI, 9, .inl sd))]) [4, 5, 0, 6, 1, 2, 3] (by decide) rfl
          obtain ⟨rfl, rfl⟩ := w88
          refine lv_iinc (v := nI (i + 1)) (lv' := [(4, .int (nI (i + 1))), (0, .ref h), (2, .int (nI a))]) hx hb dX3_perform_91 hl (k := 2) rfl (nI_1 _) (by decide) rfl (fun ls hl => ?_)
          refine lv_goto (tgt := 81) hx hb dX3_perform_94 (by decide) ?_
          have ew81_0_0 : (if cntW ((itB tn tl rg i).1) tn ≤ 0 then ((itB tn tl rg i).2) else ((itB tn tl rg i).2) + 1) = (itB tn tl rg (i + 1)).2 := by rfl
          have hP : va_P D vwCl [(h, .inr (3, [.ref tt, .int ((itB tn tl rg (i + 1)).2)])), (tt, .inr (5, [.ref xa, .ref la, .int (nI tn)])), (xa, .inl (cI, 3, .inl ts)), (la, .inl (cI, 3, .inl (goF ((itB tn tl rg i).1) 1 tn))), (o, .inr (1, [.ref ka, .ref sa, .int (nI n)])), (ka, .inl (cI, 9, .inl kd)), (sa, .inl (cI, 9, .inl sd))] H := by rw [← ew81_0_0]; exact hP
          have hD : va_D A [(h, .inr (3, [.ref tt, .int ((itB tn tl rg (i + 1)).2)])), (tt, .inr (5, [.ref xa, .ref la, .int (nI tn)])), (xa, .inl (cI, 3, .inl ts)), (la, .inl (cI, 3, .inl (goF ((itB tn tl rg i).1) 1 tn))), (o, .inr (1, [.ref ka, .ref sa, .int (nI n)])), (ka, .inl (cI, 9, .inl kd)), (sa, .inl (cI, 9, .inl sd))] := by rw [← ew81_0_0]; exact hD
          have ew81_3_0 : (goF ((itB tn tl rg i).1) 1 tn) = (itB tn tl rg (i + 1)).1 := by rfl
          have hP : va_P D vwCl [(h, .inr (3, [.ref tt, .int ((itB tn tl rg (i + 1)).2)])), (tt, .inr (5, [.ref xa, .ref la, .int (nI tn)])), (xa, .inl (cI, 3, .inl ts)), (la, .inl (cI, 3, .inl ((itB tn tl rg (i + 1)).1))), (o, .inr (1, [.ref ka, .ref sa, .int (nI n)])), (ka, .inl (cI, 9, .inl kd)), (sa, .inl (cI, 9, .inl sd))] H := by rw [← ew81_3_0]; exact hP
          have hD : va_D A [(h, .inr (3, [.ref tt, .int ((itB tn tl rg (i + 1)).2)])), (tt, .inr (5, [.ref xa, .ref la, .int (nI tn)])), (xa, .inl (cI, 3, .inl ts)), (la, .inl (cI, 3, .inl ((itB tn tl rg (i + 1)).1))), (o, .inr (1, [.ref ka, .ref sa, .int (nI n)])), (ka, .inl (cI, 9, .inl kd)), (sa, .inl (cI, 9, .inl sd))] := by rw [← ew81_3_0]; exact hD
          exact ih81 (i + 1) (by omega) (by omega) _ _ hP hD hS _ (lv_sub hl [1, 2, 0] rfl)
    exact lp81 _ 0 (Nat.zero_le _) (Nat.lt_succ_self _) _ _ hP hD hS _ (lv_sub hl [1, 3, 0] rfl)
  by_cases k1_3 : act = 3
  · -- case 3
    refine lv_tableIn (off := 66) (tgt := 67) hx hb dX3_perform_1 (by rw [k1_3]; decide) (by rw [k1_3]; decide) (by rw [k1_3]; decide) (by decide) ?_
    have hAt : a < tn := by simp [canB, k1_3] at hc; exact hc
    refine lv_aload_n hx hb dX3_perform_67 rfl (lv_at hl 0 rfl) ?_
    refine va_get (D := D) (ci := 3) (v := .ref tt) (C := RX3) (T := TX3) (N := 2) hx hb hts iX3 hown hK hP 0 rfl rfl 0 (by decide) f12 (fun _ h9 => h9) rfl dX3_perform_68 ?_
    refine lv_iload_n hx hb dX3_perform_71 rfl (lv_at hl 2 rfl) ?_
    have hPc := hP.sub (ws' := [(tt, .inr (5, [.ref xa, .ref la, .int (nI tn)])), (xa, .inl (cI, 3, .inl ts)), (la, .inl (cI, 3, .inl tl))]) [1, 2, 3] rfl
    have hDc := hD.sub (ws' := [(tt, .inr (5, [.ref xa, .ref la, .int (nI tn)])), (xa, .inl (cI, 3, .inl ts)), (la, .inl (cI, 3, .inl tl))]) [1, 2, 3] (by decide) rfl
    have hFc := va_free (wc := [(tt, .inr (5, [.ref xa, .ref la, .int (nI tn)])), (xa, .inl (cI, 3, .inl ts)), (la, .inl (cI, 3, .inl tl))]) hD hS hA [1, 2, 3] rfl
    refine va_callv (va_runV (As := [.int (nI a)]) (rest := []) ⟨hx, hb, hml, hown, hts⟩ (c_X5_drop l D cI cO tt xa la tn ts tl a _ (by assumption) (by assumption)) (cwV 1 hts gX3_perform_X5_drop rfl rfl rfl (by decide +kernel) ⟨Nat.le_of_ble_eq_true rfl, Nat.le_of_ble_eq_true rfl⟩) (preVW hPc hK hNw hDc (va_recv hK hPc (ci := 5) (q0 := 0) rfl rfl)) rfl rfl hl.1 rfl (lv_room (Nat.le_of_ble_eq_true rfl)) dX3_perform_72 ⟨Nat.zero_le _, Nat.zero_le _⟩) hS (fun q _ h => hFc q h) hFc (fun u t H1 locs ht hvm w72 hB hz1 hk1 hS => ?_)
    obtain ⟨ts1_72, tl1_72⟩ := u
    obtain ⟨hP1, hK1, hD1⟩ := hB
    rw [ht] at hP1
    try dsimp only at w72
    obtain ⟨hP, hD⟩ := va_join (wr := [(h, .inr (3, [.ref tt, .int rg])), (o, .inr (1, [.ref ka, .ref sa, .int (nI n)])), (ka, .inl (cI, 9, .inl kd)), (sa, .inl (cI, 9, .inl sd))]) (w1 := [(tt, .inr (5, [.ref xa, .ref la, .int (nI (tn - 1))])), (xa, .inl (cI, 3, .inl ts1_72)), (la, .inl (cI, 3, .inl tl1_72))]) hP hD [1, 2, 3] [0, 4, 5, 6] rfl rfl (by decide) (by decide) hk1 hFc hP1 hD1
    generalize H1 = H at hP hS ⊢
    have hP := hP.sub (ws' := [(h, .inr (3, [.ref tt, .int rg])), (tt, .inr (5, [.ref xa, .ref la, .int (nI (tn - 1))])), (xa, .inl (cI, 3, .inl ts1_72)), (la, .inl (cI, 3, .inl tl1_72)), (o, .inr (1, [.ref ka, .ref sa, .int (nI n)])), (ka, .inl (cI, 9, .inl kd)), (sa, .inl (cI, 9, .inl sd))]) [0, 4, 5, 6, 1, 2, 3] rfl
    have hD := hD.sub (ws' := [(h, .inr (3, [.ref tt, .int rg])), (tt, .inr (5, [.ref xa, .ref la, .int (nI (tn - 1))])), (xa, .inl (cI, 3, .inl ts1_72)), (la, .inl (cI, 3, .inl tl1_72)), (o, .inr (1, [.ref ka, .ref sa, .int (nI n)])), (ka, .inl (cI, 9, .inl kd)), (sa, .inl (cI, 9, .inl sd))]) [0, 4, 5, 6, 1, 2, 3] (by decide) rfl
    obtain ⟨rfl, rfl⟩ := w72
    refine lv_goto (tgt := 97) hx hb dX3_perform_75 (by decide) ?_
    exact W.vret hx hb hr (fun t ht hW => ⟨⟨((tn - 1), (shF ts a tn), (shF tl a tn), rg), rfl, by simp [pfm, *], by rw [ht]; exact hP, va_K.moved hW.alike hK, hD⟩, hS.F ht⟩) hS.2.2 dX3_perform_97
  have t1_0 := lv_neT (k := 0) (a := 0) k1_0 (by decide)
  have t1_1 := lv_neT (k := 1) (a := 1) k1_1 (by decide)
  have t1_2 := lv_neT (k := 2) (a := 2) k1_2 (by decide)
  have t1_3 := lv_neT (k := 3) (a := 3) k1_3 (by decide)
  refine lv_tableOut (tgt := 78) hx hb dX3_perform_1 (by omega) (by decide) ?_
  refine lv_iconst (v := 0) hx hb dX3_perform_78 (by decide) ?_
  refine lv_istore (lv' := [(4, .int 0), (0, .ref h), (1, .ref o), (2, .int (nI a)), (3, .int act)]) hx hb dX3_perform_79 hl (by decide) rfl (fun ls hl => ?_)
  have lp81 : ∀ (fu81 : Nat) (i : Nat) (hi : i ≤ a) (hm81 : a - i < fu81) (H : Heap) (locs : List Loc) (hP : va_P D vwCl [(h, .inr (3, [.ref tt, .int ((itB tn tl rg i).2)])), (tt, .inr (5, [.ref xa, .ref la, .int (nI tn)])), (xa, .inl (cI, 3, .inl ts)), (la, .inl (cI, 3, .inl ((itB tn tl rg i).1))), (o, .inr (1, [.ref ka, .ref sa, .int (nI n)])), (ka, .inl (cI, 9, .inl kd)), (sa, .inl (cI, 9, .inl sd))] H) (hD : va_D A [(h, .inr (3, [.ref tt, .int ((itB tn tl rg i).2)])), (tt, .inr (5, [.ref xa, .ref la, .int (nI tn)])), (xa, .inl (cI, 3, .inl ts)), (la, .inl (cI, 3, .inl ((itB tn tl rg i).1))), (o, .inr (1, [.ref ka, .ref sa, .int (nI n)])), (ka, .inl (cI, 9, .inl kd)), (sa, .inl (cI, 9, .inl sd))]) (hS : va_S A s.heap H locs) (ls : Array Slot) (hl : lv_has ls 5 [(0, .ref h), (2, .int (nI a)), (4, .int (nI i))]), W p l e (headSpec wsX3_perform ({ frames := 3, cells := 0, slots := 0, locals := 65 } : Room)).room s m ([.ref h, .ref o, .int (nI a), .int act]).toArray below meth c H locs 0 0 (MQ below (va_Qv (S := Nat × (Nat → Int32) × (Nat → Int32) × Int32) (fun u => u.1 = (pfm n kd sd a act (tn, ts, tl, rg)).1 ∧ u.2.1 = (pfm n kd sd a act (tn, ts, tl, rg)).2.1 ∧ u.2.2.1 = (pfm n kd sd a act (tn, ts, tl, rg)).2.2.1 ∧ u.2.2.2 = (pfm n kd sd a act (tn, ts, tl, rg)).2.2.2) (fun u t => va_P D vwCl [(h, .inr (3, [.ref tt, .int u.2.2.2])), (tt, .inr (5, [.ref xa, .ref la, .int (nI u.1)])), (xa, .inl (cI, 3, .inl u.2.1)), (la, .inl (cI, 3, .inl u.2.2.1)), (o, .inr (1, [.ref ka, .ref sa, .int (nI n)])), (ka, .inl (cI, 9, .inl kd)), (sa, .inl (cI, 9, .inl sd))] t.heap ∧ va_K D vwCl (tyL cI cO) t ∧ va_D A [(h, .inr (3, [.ref tt, .int u.2.2.2])), (tt, .inr (5, [.ref xa, .ref la, .int (nI u.1)])), (xa, .inl (cI, 3, .inl u.2.1)), (la, .inl (cI, 3, .inl u.2.2.1)), (o, .inr (1, [.ref ka, .ref sa, .int (nI n)])), (ka, .inl (cI, 9, .inl kd)), (sa, .inl (cI, 9, .inl sd))]) A) ([.ref h, .ref o, .int (nI a), .int act]).toArray s 0 0 A) (F0 m 81 ls []) := by
    intro fu81
    induction fu81 with
    | zero =>
      intros; omega
    | succ fu81 ih81 =>
      intro i hi hm81 H locs hP hD hS ls hl
      refine lv_iload hx hb dX3_perform_81 (lv_at hl 2 rfl) ?_
      refine lv_iload_n hx hb dX3_perform_83 rfl (lv_at hl 1 rfl) ?_
      refine lv_icmp_ge (tgt := 97) hx hb dX3_perform_84 (by decide) (fun c84 => ?_) (fun c84 => ?_)
      · -- t84
        have e84 : i = a := by have q := ge_n (by omega) (by omega) c84; omega
        rw [e84] at hl
        rw [e84] at hP hD
        exact W.vret hx hb hr (fun t ht hW => ⟨⟨(tn, ts, (itB tn tl rg a).1, (itB tn tl rg a).2), rfl, by simp [pfm, *], by rw [ht]; exact hP, va_K.moved hW.alike hK, hD⟩, hS.F ht⟩) hS.2.2 dX3_perform_97
      · -- f84
        have l84 : i < a := lt_n (by omega) (by omega) c84
        refine lv_aload_n hx hb dX3_perform_87 rfl (lv_at hl 0 rfl) ?_
        have hPc := hP.sub (ws' := [(h, .inr (3, [.ref tt, .int ((itB tn tl rg i).2)])), (tt, .inr (5, [.ref xa, .ref la, .int (nI tn)])), (la, .inl (cI, 3, .inl ((itB tn tl rg i).1)))]) [0, 1, 3] rfl
        have hDc := hD.sub (ws' := [(h, .inr (3, [.ref tt, .int ((itB tn tl rg i).2)])), (tt, .inr (5, [.ref xa, .ref la, .int (nI tn)])), (la, .inl (cI, 3, .inl ((itB tn tl rg i).1)))]) [0, 1, 3] (by decide) rfl
        have hFc := va_free (wc := [(h, .inr (3, [.ref tt, .int ((itB tn tl rg i).2)])), (tt, .inr (5, [.ref xa, .ref la, .int (nI tn)])), (la, .inl (cI, 3, .inl ((itB tn tl rg i).1)))]) hD hS hA [0, 1, 3] rfl
        refine va_callv (va_runV (As := []) (rest := []) ⟨hx, hb, hml, hown, hts⟩ (c_X3_passBar l D cI cO h tt ((itB tn tl rg i).2) xa la tn ((itB tn tl rg i).1) _ (by assumption)) (cwV 0 hts gX3_perform_X3_passBar rfl rfl rfl (by decide +kernel) ⟨Nat.le_of_ble_eq_true rfl, Nat.le_of_ble_eq_true rfl⟩) (preVW hPc hK hNw hDc (va_recv hK hPc (ci := 3) (q0 := 0) rfl rfl)) rfl rfl hl.1 rfl (lv_room (Nat.le_of_ble_eq_true rfl)) dX3_perform_88 ⟨Nat.zero_le _, Nat.zero_le _⟩) hS (fun q _ h => hFc q h) hFc (fun u t H1 locs ht hvm w88 hB hz1 hk1 hS => ?_)
        obtain ⟨rg1_88, tl1_88⟩ := u
        obtain ⟨hP1, hK1, hD1⟩ := hB
        rw [ht] at hP1
        try dsimp only at w88
        obtain ⟨hP, hD⟩ := va_join (wr := [(xa, .inl (cI, 3, .inl ts)), (o, .inr (1, [.ref ka, .ref sa, .int (nI n)])), (ka, .inl (cI, 9, .inl kd)), (sa, .inl (cI, 9, .inl sd))]) (w1 := [(h, .inr (3, [.ref tt, .int rg1_88])), (tt, .inr (5, [.ref xa, .ref la, .int (nI tn)])), (la, .inl (cI, 3, .inl tl1_88))]) hP hD [0, 1, 3] [2, 4, 5, 6] rfl rfl (by decide) (by decide) hk1 hFc hP1 hD1
        generalize H1 = H at hP hS ⊢
        have hP := hP.sub (ws' := [(h, .inr (3, [.ref tt, .int rg1_88])), (tt, .inr (5, [.ref xa, .ref la, .int (nI tn)])), (xa, .inl (cI, 3, .inl ts)), (la, .inl (cI, 3, .inl tl1_88)), (o, .inr (1, [.ref ka, .ref sa, .int (nI n)])), (ka, .inl (cI, 9, .inl kd)), (sa, .inl (cI, 9, .inl sd))]) [4, 5, 0, 6, 1, 2, 3] rfl
        have hD := hD.sub (ws' := [(h, .inr (3, [.ref tt, .int rg1_88])), (tt, .inr (5, [.ref xa, .ref la, .int (nI tn)])), (xa, .inl (cI, 3, .inl ts)), (la, .inl (cI, 3, .inl tl1_88)), (o, .inr (1, [.ref ka, .ref sa, .int (nI n)])), (ka, .inl (cI, 9, .inl kd)), (sa, .inl (cI, 9, .inl sd))]) [4, 5, 0, 6, 1, 2, 3] (by decide) rfl
        obtain ⟨rfl, rfl⟩ := w88
        refine lv_iinc (v := nI (i + 1)) (lv' := [(4, .int (nI (i + 1))), (0, .ref h), (2, .int (nI a))]) hx hb dX3_perform_91 hl (k := 2) rfl (nI_1 _) (by decide) rfl (fun ls hl => ?_)
        refine lv_goto (tgt := 81) hx hb dX3_perform_94 (by decide) ?_
        have ew81_0_0 : (if cntW ((itB tn tl rg i).1) tn ≤ 0 then ((itB tn tl rg i).2) else ((itB tn tl rg i).2) + 1) = (itB tn tl rg (i + 1)).2 := by rfl
        have hP : va_P D vwCl [(h, .inr (3, [.ref tt, .int ((itB tn tl rg (i + 1)).2)])), (tt, .inr (5, [.ref xa, .ref la, .int (nI tn)])), (xa, .inl (cI, 3, .inl ts)), (la, .inl (cI, 3, .inl (goF ((itB tn tl rg i).1) 1 tn))), (o, .inr (1, [.ref ka, .ref sa, .int (nI n)])), (ka, .inl (cI, 9, .inl kd)), (sa, .inl (cI, 9, .inl sd))] H := by rw [← ew81_0_0]; exact hP
        have hD : va_D A [(h, .inr (3, [.ref tt, .int ((itB tn tl rg (i + 1)).2)])), (tt, .inr (5, [.ref xa, .ref la, .int (nI tn)])), (xa, .inl (cI, 3, .inl ts)), (la, .inl (cI, 3, .inl (goF ((itB tn tl rg i).1) 1 tn))), (o, .inr (1, [.ref ka, .ref sa, .int (nI n)])), (ka, .inl (cI, 9, .inl kd)), (sa, .inl (cI, 9, .inl sd))] := by rw [← ew81_0_0]; exact hD
        have ew81_3_0 : (goF ((itB tn tl rg i).1) 1 tn) = (itB tn tl rg (i + 1)).1 := by rfl
        have hP : va_P D vwCl [(h, .inr (3, [.ref tt, .int ((itB tn tl rg (i + 1)).2)])), (tt, .inr (5, [.ref xa, .ref la, .int (nI tn)])), (xa, .inl (cI, 3, .inl ts)), (la, .inl (cI, 3, .inl ((itB tn tl rg (i + 1)).1))), (o, .inr (1, [.ref ka, .ref sa, .int (nI n)])), (ka, .inl (cI, 9, .inl kd)), (sa, .inl (cI, 9, .inl sd))] H := by rw [← ew81_3_0]; exact hP
        have hD : va_D A [(h, .inr (3, [.ref tt, .int ((itB tn tl rg (i + 1)).2)])), (tt, .inr (5, [.ref xa, .ref la, .int (nI tn)])), (xa, .inl (cI, 3, .inl ts)), (la, .inl (cI, 3, .inl ((itB tn tl rg (i + 1)).1))), (o, .inr (1, [.ref ka, .ref sa, .int (nI n)])), (ka, .inl (cI, 9, .inl kd)), (sa, .inl (cI, 9, .inl sd))] := by rw [← ew81_3_0]; exact hD
        exact ih81 (i + 1) (by omega) (by omega) _ _ hP hD hS _ (lv_sub hl [1, 2, 0] rfl)
  exact lp81 _ 0 (Nat.zero_le _) (Nat.lt_succ_self _) _ _ hP hD hS _ (lv_sub hl [1, 3, 0] rfl)

set_option maxHeartbeats 4000000 in
set_option maxRecDepth 100000 in
theorem c_X3_play (l : Launch) (D : va_G) (cI cO : ClassId) (h : Nat) (tt : Nat) (rg : Int32) (xa : Nat) (la : Nat) (tn : Nat) (ts : Nat → Int32) (tl : Nat → Int32) (o : Nat) (xb : Nat) (lb : Nat) (un : Nat) (us : Nat → Int32) (ul : Nat → Int32) (pe : Nat) (ka : Nat) (sa : Nat) (n : Nat) (kd : Nat → Int32) (sd : Nat → Int32) (ro : Nat) (ca : Nat) (ln : Int32) (L : Nat) (f : Nat → Int32) (a0 : Nat) (k : Nat) (sz : Nat) (hu3 : un ≤ 3) (hn : n ≤ 9) (hL : L ≤ 60) (hk : a0 + 2 * k ≤ L) (hf : ∀ i, i < k → ∃ a, a ≤ 9 ∧ f (a0 + 2 * i) = nI a) : Met l yX3_play wsX3_play ({ frames := 4, cells := 0, slots := 0, locals := 89 } : Room) (va_Pc [.ref h, .ref o, .ref pe, .ref ro, .int (nI a0), .int (nI k)] (wdW D cI cO [(h, .inr (3, [.ref tt, .int rg])), (tt, .inr (5, [.ref xa, .ref la, .int (nI tn)])), (xa, .inl (cI, 3, .inl ts)), (la, .inl (cI, 3, .inl tl)), (o, .inr (5, [.ref xb, .ref lb, .int (nI un)])), (xb, .inl (cI, 3, .inl us)), (lb, .inl (cI, 3, .inl ul)), (pe, .inr (1, [.ref ka, .ref sa, .int (nI n)])), (ka, .inl (cI, 9, .inl kd)), (sa, .inl (cI, 9, .inl sd)), (ro, .inr (4, [.ref ca, .int ln, .int (nI L)])), (ca, .inl (cI, 60, .inl f))] sz)) (va_Qi (S := Nat × (Nat → Int32) × (Nat → Int32) × Int32) (fun r u => r = (plW n kd sd f a0 k 0 (un, cpF us ts 3, cpF ul tl 3, 0)).1 ∧ u.1 = (plW n kd sd f a0 k 0 (un, cpF us ts 3, cpF ul tl 3, 0)).2.1 ∧ u.2.1 = (plW n kd sd f a0 k 0 (un, cpF us ts 3, cpF ul tl 3, 0)).2.2.1 ∧ u.2.2.1 = (plW n kd sd f a0 k 0 (un, cpF us ts 3, cpF ul tl 3, 0)).2.2.2.1 ∧ u.2.2.2 = (plW n kd sd f a0 k 0 (un, cpF us ts 3, cpF ul tl 3, 0)).2.2.2.2) (fun u t => va_P D vwCl [(h, .inr (3, [.ref tt, .int u.2.2.2])), (tt, .inr (5, [.ref xa, .ref la, .int (nI u.1)])), (xa, .inl (cI, 3, .inl u.2.1)), (la, .inl (cI, 3, .inl u.2.2.1)), (o, .inr (5, [.ref xb, .ref lb, .int (nI un)])), (xb, .inl (cI, 3, .inl us)), (lb, .inl (cI, 3, .inl ul)), (pe, .inr (1, [.ref ka, .ref sa, .int (nI n)])), (ka, .inl (cI, 9, .inl kd)), (sa, .inl (cI, 9, .inl sd)), (ro, .inr (4, [.ref ca, .int ln, .int (nI L)])), (ca, .inl (cI, 60, .inl f))] t.heap ∧ va_K D vwCl (tyL cI cO) t ∧ va_D (va_A [(h, .inr (3, [.ref tt, .int rg])), (tt, .inr (5, [.ref xa, .ref la, .int (nI tn)])), (xa, .inl (cI, 3, .inl ts)), (la, .inl (cI, 3, .inl tl)), (o, .inr (5, [.ref xb, .ref lb, .int (nI un)])), (xb, .inl (cI, 3, .inl us)), (lb, .inl (cI, 3, .inl ul)), (pe, .inr (1, [.ref ka, .ref sa, .int (nI n)])), (ka, .inl (cI, 9, .inl kd)), (sa, .inl (cI, 9, .inl sd)), (ro, .inr (4, [.ref ca, .int ln, .int (nI L)])), (ca, .inl (cI, 60, .inl f))] sz) [(h, .inr (3, [.ref tt, .int u.2.2.2])), (tt, .inr (5, [.ref xa, .ref la, .int (nI u.1)])), (xa, .inl (cI, 3, .inl u.2.1)), (la, .inl (cI, 3, .inl u.2.2.1)), (o, .inr (5, [.ref xb, .ref lb, .int (nI un)])), (xb, .inl (cI, 3, .inl us)), (lb, .inl (cI, 3, .inl ul)), (pe, .inr (1, [.ref ka, .ref sa, .int (nI n)])), (ka, .inl (cI, 9, .inl kd)), (sa, .inl (cI, 9, .inl sd)), (ro, .inr (4, [.ref ca, .int ln, .int (nI L)])), (ca, .inl (cI, 60, .inl f))]) (va_A [(h, .inr (3, [.ref tt, .int rg])), (tt, .inr (5, [.ref xa, .ref la, .int (nI tn)])), (xa, .inl (cI, 3, .inl ts)), (la, .inl (cI, 3, .inl tl)), (o, .inr (5, [.ref xb, .ref lb, .int (nI un)])), (xb, .inl (cI, 3, .inl us)), (lb, .inl (cI, 3, .inl ul)), (pe, .inr (1, [.ref ka, .ref sa, .int (nI n)])), (ka, .inl (cI, 9, .inl kd)), (sa, .inl (cI, 9, .inl sd)), (ro, .inr (4, [.ref ca, .int ln, .int (nI L)])), (ca, .inl (cI, 60, .inl f))] sz)) 0 0 (va_A [(h, .inr (3, [.ref tt, .int rg])), (tt, .inr (5, [.ref xa, .ref la, .int (nI tn)])), (xa, .inl (cI, 3, .inl ts)), (la, .inl (cI, 3, .inl tl)), (o, .inr (5, [.ref xb, .ref lb, .int (nI un)])), (xb, .inl (cI, 3, .inl us)), (lb, .inl (cI, 3, .inl ul)), (pe, .inr (1, [.ref ka, .ref sa, .int (nI n)])), (ka, .inl (cI, 9, .inl kd)), (sa, .inl (cI, 9, .inl sd)), (ro, .inr (4, [.ref ca, .int ln, .int (nI L)])), (ca, .inl (cI, 60, .inl f))] sz) := by
  refine Met.ofW (cc := cX3_play) (maxL := 9) (ret := (some .int)) (by decide) rfl ?_
  intro p e s m args below meth c s₁ B hml hv
  obtain ⟨rfl, hsz, hP, hK, hNw, hD0⟩ := hv
  have hx := B.exec
  have hb := B.bytes
  have hr := B.returns
  have hts := atoms_spec (ws := wsX3_play) B.pre
  have hown : s.vm.findClass RX3 = some m.cls := findClass_of_methodNamed B.named
  have hlocks := B.notSynchronized
  have f12 := hts (.fieldLink RX3 12 "StruckThrees$Season" "trial" "LStruckThrees$Threes;") (by decide +kernel)
  have f18 := hts (.fieldLink RX3 18 "StruckThrees$Season" "rang" "I") (by decide +kernel)
  have iX3 : ∀ w ∈ wsX30, w ∈ wsX3_play := by decide +kernel
  subst hsz
  have hD := hD0.self (sz := s.heap.size)
  generalize hAe : va_A [(h, .inr (3, [.ref tt, .int rg])), (tt, .inr (5, [.ref xa, .ref la, .int (nI tn)])), (xa, .inl (cI, 3, .inl ts)), (la, .inl (cI, 3, .inl tl)), (o, .inr (5, [.ref xb, .ref lb, .int (nI un)])), (xb, .inl (cI, 3, .inl us)), (lb, .inl (cI, 3, .inl ul)), (pe, .inr (1, [.ref ka, .ref sa, .int (nI n)])), (ka, .inl (cI, 9, .inl kd)), (sa, .inl (cI, 9, .inl sd)), (ro, .inr (4, [.ref ca, .int ln, .int (nI L)])), (ca, .inl (cI, 60, .inl f))] s.heap.size = A at hD ⊢
  have hA : ∀ q : Nat, s.heap.size ≤ q → A q := fun q h => by rw [← hAe]; exact Or.inr h
  have hS : va_S A s.heap s.heap [] := va_S.rf
  have hP : va_P D vwCl [(h, .inr (3, [.ref tt, .int rg])), (tt, .inr (5, [.ref xa, .ref la, .int (nI tn)])), (xa, .inl (cI, 3, .inl ts)), (la, .inl (cI, 3, .inl tl)), (o, .inr (5, [.ref xb, .ref lb, .int (nI un)])), (xb, .inl (cI, 3, .inl us)), (lb, .inl (cI, 3, .inl ul)), (pe, .inr (1, [.ref ka, .ref sa, .int (nI n)])), (ka, .inl (cI, 9, .inl kd)), (sa, .inl (cI, 9, .inl sd)), (ro, .inr (4, [.ref ca, .int ln, .int (nI L)])), (ca, .inl (cI, 60, .inl f))] s.heap := hP
  have hl := lv_entry ([.ref h, .ref o, .ref pe, .ref ro, .int (nI a0), .int (nI k)]) (n := 9) (Nat.le_of_ble_eq_true rfl)
  rw [lg_entry_eq]
  generalize (lg_sl ([.ref h, .ref o, .ref pe, .ref ro, .int (nI a0), .int (nI k)]) ++ List.replicate (9 - (lg_sl ([.ref h, .ref o, .ref pe, .ref ro, .int (nI a0), .int (nI k)])).length) Slot.unset).toArray = ls at hl ⊢
  have hl : lv_has ls 9 [(0, .ref h), (1, .ref o), (2, .ref pe), (3, .ref ro), (4, .int (nI a0)), (5, .int (nI k))] := hl
  refine lv_aload_n hx hb dX3_play_0 rfl (lv_at hl 0 rfl) ?_
  refine va_get (D := D) (ci := 3) (v := .ref tt) (C := RX3) (T := TX3) (N := 2) hx hb hts iX3 hown hK hP 0 rfl rfl 0 (by decide) f12 (fun _ h9 => h9) rfl dX3_play_1 ?_
  refine lv_aload_n hx hb dX3_play_4 rfl (lv_at hl 1 rfl) ?_
  have hPc := hP.sub (ws' := [(tt, .inr (5, [.ref xa, .ref la, .int (nI tn)])), (xa, .inl (cI, 3, .inl ts)), (la, .inl (cI, 3, .inl tl)), (o, .inr (5, [.ref xb, .ref lb, .int (nI un)])), (xb, .inl (cI, 3, .inl us)), (lb, .inl (cI, 3, .inl ul))]) [1, 2, 3, 4, 5, 6] rfl
  have hDc := hD.sub (ws' := [(tt, .inr (5, [.ref xa, .ref la, .int (nI tn)])), (xa, .inl (cI, 3, .inl ts)), (la, .inl (cI, 3, .inl tl)), (o, .inr (5, [.ref xb, .ref lb, .int (nI un)])), (xb, .inl (cI, 3, .inl us)), (lb, .inl (cI, 3, .inl ul))]) [1, 2, 3, 4, 5, 6] (by decide) rfl
  have hFc := va_free (wc := [(tt, .inr (5, [.ref xa, .ref la, .int (nI tn)])), (xa, .inl (cI, 3, .inl ts)), (la, .inl (cI, 3, .inl tl)), (o, .inr (5, [.ref xb, .ref lb, .int (nI un)])), (xb, .inl (cI, 3, .inl us)), (lb, .inl (cI, 3, .inl ul))]) hD hS hA [1, 2, 3, 4, 5, 6] rfl
  refine va_callv (va_runV (As := [.ref o]) (rest := []) ⟨hx, hb, hml, hown, hts⟩ (c_X5_become l D cI cO tt xa la tn ts tl o xb lb un us ul _) (cwV 1 hts gX3_play_X5_become rfl rfl rfl (by decide +kernel) ⟨Nat.le_of_ble_eq_true rfl, Nat.le_of_ble_eq_true rfl⟩) (preVW hPc hK hNw hDc (va_recv hK hPc (ci := 5) (q0 := 0) rfl rfl)) rfl rfl hl.1 rfl (lv_room (Nat.le_of_ble_eq_true rfl)) dX3_play_5 ⟨Nat.zero_le _, Nat.zero_le _⟩) hS (fun q _ h => hFc q h) hFc (fun u t H1 locs ht hvm w5 hB hz1 hk1 hS => ?_)
  obtain ⟨ts1_5, tl1_5⟩ := u
  obtain ⟨hP1, hK1, hD1⟩ := hB
  rw [ht] at hP1
  try dsimp only at w5
  obtain ⟨hP, hD⟩ := va_join (wr := [(h, .inr (3, [.ref tt, .int rg])), (pe, .inr (1, [.ref ka, .ref sa, .int (nI n)])), (ka, .inl (cI, 9, .inl kd)), (sa, .inl (cI, 9, .inl sd)), (ro, .inr (4, [.ref ca, .int ln, .int (nI L)])), (ca, .inl (cI, 60, .inl f))]) (w1 := [(tt, .inr (5, [.ref xa, .ref la, .int (nI un)])), (xa, .inl (cI, 3, .inl ts1_5)), (la, .inl (cI, 3, .inl tl1_5)), (o, .inr (5, [.ref xb, .ref lb, .int (nI un)])), (xb, .inl (cI, 3, .inl us)), (lb, .inl (cI, 3, .inl ul))]) hP hD [1, 2, 3, 4, 5, 6] [0, 7, 8, 9, 10, 11] rfl rfl (by decide) (by decide) hk1 hFc hP1 hD1
  generalize H1 = H at hP hS ⊢
  have hP := hP.sub (ws' := [(h, .inr (3, [.ref tt, .int rg])), (tt, .inr (5, [.ref xa, .ref la, .int (nI un)])), (xa, .inl (cI, 3, .inl ts1_5)), (la, .inl (cI, 3, .inl tl1_5)), (o, .inr (5, [.ref xb, .ref lb, .int (nI un)])), (xb, .inl (cI, 3, .inl us)), (lb, .inl (cI, 3, .inl ul)), (pe, .inr (1, [.ref ka, .ref sa, .int (nI n)])), (ka, .inl (cI, 9, .inl kd)), (sa, .inl (cI, 9, .inl sd)), (ro, .inr (4, [.ref ca, .int ln, .int (nI L)])), (ca, .inl (cI, 60, .inl f))]) [0, 6, 7, 8, 9, 10, 11, 1, 2, 3, 4, 5] rfl
  have hD := hD.sub (ws' := [(h, .inr (3, [.ref tt, .int rg])), (tt, .inr (5, [.ref xa, .ref la, .int (nI un)])), (xa, .inl (cI, 3, .inl ts1_5)), (la, .inl (cI, 3, .inl tl1_5)), (o, .inr (5, [.ref xb, .ref lb, .int (nI un)])), (xb, .inl (cI, 3, .inl us)), (lb, .inl (cI, 3, .inl ul)), (pe, .inr (1, [.ref ka, .ref sa, .int (nI n)])), (ka, .inl (cI, 9, .inl kd)), (sa, .inl (cI, 9, .inl sd)), (ro, .inr (4, [.ref ca, .int ln, .int (nI L)])), (ca, .inl (cI, 60, .inl f))]) [0, 6, 7, 8, 9, 10, 11, 1, 2, 3, 4, 5] (by decide) rfl
  obtain ⟨rfl, rfl⟩ := w5
  refine lv_aload_n hx hb dX3_play_8 rfl (lv_at hl 0 rfl) ?_
  refine lv_iconst (v := 0) hx hb dX3_play_9 (by decide) ?_
  refine va_put (D := D) (ci := 3) (v := .int 0) (ty := .int) (C := RX3) (T := TX3) (N := 2) hx hb hts iX3 tyX3 tyX3_ok nmX3 hown hK hP hD hS 0 rfl rfl 1 (by decide) f18 (fun _ h9 => h9) rfl (by decide +kernel) rfl rfl (Nat.le_of_ble_eq_true rfl) dX3_play_10 (fun H locs hP hD hS => ?_)
  have hP : va_P D vwCl [(h, .inr (3, [.ref tt, .int 0])), (tt, .inr (5, [.ref xa, .ref la, .int (nI un)])), (xa, .inl (cI, 3, .inl (cpF us ts 3))), (la, .inl (cI, 3, .inl (cpF ul tl 3))), (o, .inr (5, [.ref xb, .ref lb, .int (nI un)])), (xb, .inl (cI, 3, .inl us)), (lb, .inl (cI, 3, .inl ul)), (pe, .inr (1, [.ref ka, .ref sa, .int (nI n)])), (ka, .inl (cI, 9, .inl kd)), (sa, .inl (cI, 9, .inl sd)), (ro, .inr (4, [.ref ca, .int ln, .int (nI L)])), (ca, .inl (cI, 60, .inl f))] H := hP
  have hD : va_D A [(h, .inr (3, [.ref tt, .int 0])), (tt, .inr (5, [.ref xa, .ref la, .int (nI un)])), (xa, .inl (cI, 3, .inl (cpF us ts 3))), (la, .inl (cI, 3, .inl (cpF ul tl 3))), (o, .inr (5, [.ref xb, .ref lb, .int (nI un)])), (xb, .inl (cI, 3, .inl us)), (lb, .inl (cI, 3, .inl ul)), (pe, .inr (1, [.ref ka, .ref sa, .int (nI n)])), (ka, .inl (cI, 9, .inl kd)), (sa, .inl (cI, 9, .inl sd)), (ro, .inr (4, [.ref ca, .int ln, .int (nI L)])), (ca, .inl (cI, 60, .inl f))] := hD
  refine lv_iconst (v := 0) hx hb dX3_play_13 (by decide) ?_
  refine lv_istore (lv' := [(6, .int 0), (0, .ref h), (1, .ref o), (2, .ref pe), (3, .ref ro), (4, .int (nI a0)), (5, .int (nI k))]) hx hb dX3_play_14 hl (by decide) rfl (fun ls hl => ?_)
  have lp16 : ∀ (fu16 : Nat) (i : Nat) (vn : Nat) (vs : Nat → Int32) (vl : Nat → Int32) (vr : Int32) (hi : i ≤ k) (hv3 : vn ≤ 3) (hq : plW n kd sd f a0 (k - i) i (vn, vs, vl, vr) = plW n kd sd f a0 k 0 (un, cpF us ts 3, cpF ul tl 3, 0)) (hm16 : k - i < fu16) (H : Heap) (locs : List Loc) (hP : va_P D vwCl [(h, .inr (3, [.ref tt, .int vr])), (tt, .inr (5, [.ref xa, .ref la, .int (nI vn)])), (xa, .inl (cI, 3, .inl vs)), (la, .inl (cI, 3, .inl vl)), (o, .inr (5, [.ref xb, .ref lb, .int (nI un)])), (xb, .inl (cI, 3, .inl us)), (lb, .inl (cI, 3, .inl ul)), (pe, .inr (1, [.ref ka, .ref sa, .int (nI n)])), (ka, .inl (cI, 9, .inl kd)), (sa, .inl (cI, 9, .inl sd)), (ro, .inr (4, [.ref ca, .int ln, .int (nI L)])), (ca, .inl (cI, 60, .inl f))] H) (hD : va_D A [(h, .inr (3, [.ref tt, .int vr])), (tt, .inr (5, [.ref xa, .ref la, .int (nI vn)])), (xa, .inl (cI, 3, .inl vs)), (la, .inl (cI, 3, .inl vl)), (o, .inr (5, [.ref xb, .ref lb, .int (nI un)])), (xb, .inl (cI, 3, .inl us)), (lb, .inl (cI, 3, .inl ul)), (pe, .inr (1, [.ref ka, .ref sa, .int (nI n)])), (ka, .inl (cI, 9, .inl kd)), (sa, .inl (cI, 9, .inl sd)), (ro, .inr (4, [.ref ca, .int ln, .int (nI L)])), (ca, .inl (cI, 60, .inl f))]) (hS : va_S A s.heap H locs) (ls : Array Slot) (hl : lv_has ls 9 [(0, .ref h), (1, .ref o), (2, .ref pe), (3, .ref ro), (4, .int (nI a0)), (5, .int (nI k)), (6, .int (nI i))]), W p l e (headSpec wsX3_play ({ frames := 4, cells := 0, slots := 0, locals := 89 } : Room)).room s m ([.ref h, .ref o, .ref pe, .ref ro, .int (nI a0), .int (nI k)]).toArray below meth c H locs 0 0 (MQ below (va_Qi (S := Nat × (Nat → Int32) × (Nat → Int32) × Int32) (fun r u => r = (plW n kd sd f a0 k 0 (un, cpF us ts 3, cpF ul tl 3, 0)).1 ∧ u.1 = (plW n kd sd f a0 k 0 (un, cpF us ts 3, cpF ul tl 3, 0)).2.1 ∧ u.2.1 = (plW n kd sd f a0 k 0 (un, cpF us ts 3, cpF ul tl 3, 0)).2.2.1 ∧ u.2.2.1 = (plW n kd sd f a0 k 0 (un, cpF us ts 3, cpF ul tl 3, 0)).2.2.2.1 ∧ u.2.2.2 = (plW n kd sd f a0 k 0 (un, cpF us ts 3, cpF ul tl 3, 0)).2.2.2.2) (fun u t => va_P D vwCl [(h, .inr (3, [.ref tt, .int u.2.2.2])), (tt, .inr (5, [.ref xa, .ref la, .int (nI u.1)])), (xa, .inl (cI, 3, .inl u.2.1)), (la, .inl (cI, 3, .inl u.2.2.1)), (o, .inr (5, [.ref xb, .ref lb, .int (nI un)])), (xb, .inl (cI, 3, .inl us)), (lb, .inl (cI, 3, .inl ul)), (pe, .inr (1, [.ref ka, .ref sa, .int (nI n)])), (ka, .inl (cI, 9, .inl kd)), (sa, .inl (cI, 9, .inl sd)), (ro, .inr (4, [.ref ca, .int ln, .int (nI L)])), (ca, .inl (cI, 60, .inl f))] t.heap ∧ va_K D vwCl (tyL cI cO) t ∧ va_D A [(h, .inr (3, [.ref tt, .int u.2.2.2])), (tt, .inr (5, [.ref xa, .ref la, .int (nI u.1)])), (xa, .inl (cI, 3, .inl u.2.1)), (la, .inl (cI, 3, .inl u.2.2.1)), (o, .inr (5, [.ref xb, .ref lb, .int (nI un)])), (xb, .inl (cI, 3, .inl us)), (lb, .inl (cI, 3, .inl ul)), (pe, .inr (1, [.ref ka, .ref sa, .int (nI n)])), (ka, .inl (cI, 9, .inl kd)), (sa, .inl (cI, 9, .inl sd)), (ro, .inr (4, [.ref ca, .int ln, .int (nI L)])), (ca, .inl (cI, 60, .inl f))]) A) ([.ref h, .ref o, .ref pe, .ref ro, .int (nI a0), .int (nI k)]).toArray s 0 0 A) (F0 m 16 ls []) := by
    intro fu16
    induction fu16 with
    | zero =>
      intros; omega
    | succ fu16 ih16 =>
      intro i vn vs vl vr hi hv3 hq hm16 H locs hP hD hS ls hl
      refine lv_iload hx hb dX3_play_16 (lv_at hl 6 rfl) ?_
      refine lv_iload hx hb dX3_play_18 (lv_at hl 5 rfl) ?_
      refine lv_icmp_ge (tgt := 80) hx hb dX3_play_20 (by decide) (fun c20 => ?_) (fun c20 => ?_)
      · -- t20
        have e20 : i = k := by have q := ge_n (by omega) (by omega) c20; omega
        rw [e20] at hl
        refine lv_bipush (v := -9) hx hb dX3_play_80 (by decide) ?_
        exact W.iret (v := -9) hx hb hr (fun t ht hW => ⟨⟨_, (vn, vs, vl, vr), rfl, by rw [show plW n kd sd f a0 k 0 (un, cpF us ts 3, cpF ul tl 3, 0) = (-9, (vn, vs, vl, vr)) from by rw [← hq, e20, Nat.sub_self]; rfl]; exact ⟨rfl, rfl, rfl, rfl, rfl⟩, by rw [ht]; exact hP, va_K.moved hW.alike hK, hD⟩, hS.F ht⟩) hS.2.2 dX3_play_82
      · -- f20
        have l20 : i < k := lt_n (by omega) (by omega) c20
        obtain ⟨a, ha9, ea⟩ := hf i l20
        refine lv_aload_n hx hb dX3_play_23 rfl (lv_at hl 3 rfl) ?_
        refine lv_iload hx hb dX3_play_24 (lv_at hl 4 rfl) ?_
        refine lv_iconst (v := 2) hx hb dX3_play_26 (by decide) ?_
        refine lv_iload hx hb dX3_play_27 (lv_at hl 6 rfl) ?_
        refine lv_imul hx hb dX3_play_29 ?_
        refine lv_iadd hx hb dX3_play_30 ?_
        refine tp_i (y := nI (a0 + 2 * i)) (ix2 _ _) ?_
        have hPc := hP.sub (ws' := [(ro, .inr (4, [.ref ca, .int ln, .int (nI L)])), (ca, .inl (cI, 60, .inl f))]) [10, 11] rfl
        refine vp_callSi (va_Run.run (va_runV (As := [.int (nI (a0 + 2 * i))]) (rest := []) ⟨hx, hb, hml, hown, hts⟩ (c_X4_at l D cI cO ro ca ln L f (a0 + 2 * i) (by assumption) (by omega)) (cwV 1 hts gX3_play_X4_at rfl rfl rfl (by decide +kernel) ⟨Nat.le_of_ble_eq_true rfl, Nat.le_of_ble_eq_true rfl⟩) (preVR hPc hK hNw (va_recv hK hPc (ci := 4) (q0 := 0) rfl rfl)) rfl rfl hl.1 rfl (lv_room (Nat.le_of_ble_eq_true rfl)) dX3_play_31 ⟨Nat.zero_le _, Nat.zero_le _⟩)) (fun r31 w31 => ?_)
        obtain rfl := w31
        refine tp_i (y := nI a) (ea) ?_
        refine lv_istore (lv' := [(7, .int (nI a)), (0, .ref h), (1, .ref o), (2, .ref pe), (3, .ref ro), (4, .int (nI a0)), (5, .int (nI k)), (6, .int (nI i))]) hx hb dX3_play_34 hl (by decide) rfl (fun ls hl => ?_)
        refine lv_aload_n hx hb dX3_play_36 rfl (lv_at hl 4 rfl) ?_
        refine lv_iload hx hb dX3_play_37 (lv_at hl 5 rfl) ?_
        refine lv_iconst (v := 2) hx hb dX3_play_39 (by decide) ?_
        refine lv_iload hx hb dX3_play_40 (lv_at hl 7 rfl) ?_
        refine lv_imul hx hb dX3_play_42 ?_
        refine lv_iadd hx hb dX3_play_43 ?_
        refine lv_iconst (v := 1) hx hb dX3_play_44 (by decide) ?_
        refine lv_iadd hx hb dX3_play_45 ?_
        refine tp_i (y := nI (a0 + 2 * i + 1)) (ix21 _ _) ?_
        have hPc := hP.sub (ws' := [(ro, .inr (4, [.ref ca, .int ln, .int (nI L)])), (ca, .inl (cI, 60, .inl f))]) [10, 11] rfl
        refine vp_callSi (va_Run.run (va_runV (As := [.int (nI (a0 + 2 * i + 1))]) (rest := []) ⟨hx, hb, hml, hown, hts⟩ (c_X4_at l D cI cO ro ca ln L f (a0 + 2 * i + 1) (by assumption) (by omega)) (cwV 1 hts gX3_play_X4_at rfl rfl rfl (by decide +kernel) ⟨Nat.le_of_ble_eq_true rfl, Nat.le_of_ble_eq_true rfl⟩) (preVR hPc hK hNw (va_recv hK hPc (ci := 4) (q0 := 0) rfl rfl)) rfl rfl hl.1 rfl (lv_room (Nat.le_of_ble_eq_true rfl)) dX3_play_46 ⟨Nat.zero_le _, Nat.zero_le _⟩)) (fun r46 w46 => ?_)
        obtain rfl := w46
        refine lv_istore (lv' := [(8, .int (f (a0 + 2 * i + 1))), (7, .int (nI a)), (0, .ref h), (1, .ref o), (2, .ref pe), (3, .ref ro), (4, .int (nI a0)), (5, .int (nI k)), (6, .int (nI i))]) hx hb dX3_play_49 hl (by decide) rfl (fun ls hl => ?_)
        refine lv_aload_n hx hb dX3_play_51 rfl (lv_at hl 2 rfl) ?_
        refine lv_iload hx hb dX3_play_52 (lv_at hl 1 rfl) ?_
        refine lv_iload hx hb dX3_play_54 (lv_at hl 0 rfl) ?_
        have hPc := hP.sub (ws' := [(h, .inr (3, [.ref tt, .int vr])), (tt, .inr (5, [.ref xa, .ref la, .int (nI vn)])), (la, .inl (cI, 3, .inl vl))]) [0, 1, 3] rfl
        refine vp_callSi (va_Run.run (va_runV (As := [.int (nI a), .int (f (a0 + 2 * i + 1))]) (rest := []) ⟨hx, hb, hml, hown, hts⟩ (c_X3_canBe l D cI cO h tt vr xa la vn vl a (f (a0 + 2 * i + 1)) (by assumption) (by omega)) (cwV 2 hts gX3_play_X3_canBe rfl rfl rfl (by decide +kernel) ⟨Nat.le_of_ble_eq_true rfl, Nat.le_of_ble_eq_true rfl⟩) (preVR hPc hK hNw (va_recv hK hPc (ci := 3) (q0 := 0) rfl rfl)) rfl rfl hl.1 rfl (lv_room (Nat.le_of_ble_eq_true rfl)) dX3_play_56 ⟨Nat.zero_le _, Nat.zero_le _⟩)) (fun r56 w56 => ?_)
        by_cases b56 : canB vn vl a (f (a0 + 2 * i + 1)) = true
        · -- y56
          obtain rfl := w56.1 b56
          refine lv_if_ne (tgt := 65) hx hb dX3_play_59 (by decide) (fun _ => ?_) (fun h => absurd h (by decide))
          refine lv_aload_n hx hb dX3_play_65 rfl (lv_at hl 2 rfl) ?_
          refine lv_aload_n hx hb dX3_play_66 rfl (lv_at hl 4 rfl) ?_
          refine lv_iload hx hb dX3_play_67 (lv_at hl 1 rfl) ?_
          refine lv_iload hx hb dX3_play_69 (lv_at hl 0 rfl) ?_
          have hPc := hP.sub (ws' := [(h, .inr (3, [.ref tt, .int vr])), (tt, .inr (5, [.ref xa, .ref la, .int (nI vn)])), (xa, .inl (cI, 3, .inl vs)), (la, .inl (cI, 3, .inl vl)), (pe, .inr (1, [.ref ka, .ref sa, .int (nI n)])), (ka, .inl (cI, 9, .inl kd)), (sa, .inl (cI, 9, .inl sd))]) [0, 1, 2, 3, 7, 8, 9] rfl
          have hDc := hD.sub (ws' := [(h, .inr (3, [.ref tt, .int vr])), (tt, .inr (5, [.ref xa, .ref la, .int (nI vn)])), (xa, .inl (cI, 3, .inl vs)), (la, .inl (cI, 3, .inl vl)), (pe, .inr (1, [.ref ka, .ref sa, .int (nI n)])), (ka, .inl (cI, 9, .inl kd)), (sa, .inl (cI, 9, .inl sd))]) [0, 1, 2, 3, 7, 8, 9] (by decide) rfl
          have hFc := va_free (wc := [(h, .inr (3, [.ref tt, .int vr])), (tt, .inr (5, [.ref xa, .ref la, .int (nI vn)])), (xa, .inl (cI, 3, .inl vs)), (la, .inl (cI, 3, .inl vl)), (pe, .inr (1, [.ref ka, .ref sa, .int (nI n)])), (ka, .inl (cI, 9, .inl kd)), (sa, .inl (cI, 9, .inl sd))]) hD hS hA [0, 1, 2, 3, 7, 8, 9] rfl
          refine va_callv (va_runV (As := [.ref pe, .int (nI a), .int (f (a0 + 2 * i + 1))]) (rest := []) ⟨hx, hb, hml, hown, hts⟩ (c_X3_perform l D cI cO h tt vr xa la vn vs vl pe ka sa n kd sd a (f (a0 + 2 * i + 1)) _ (by assumption) (by assumption) (by omega) (by assumption)) (cwV 3 hts gX3_play_X3_perform rfl rfl rfl (by decide +kernel) ⟨Nat.le_of_ble_eq_true rfl, Nat.le_of_ble_eq_true rfl⟩) (preVW hPc hK hNw hDc (va_recv hK hPc (ci := 3) (q0 := 0) rfl rfl)) rfl rfl hl.1 rfl (lv_room (Nat.le_of_ble_eq_true rfl)) dX3_play_71 ⟨Nat.zero_le _, Nat.zero_le _⟩) hS (fun q _ h => hFc q h) hFc (fun u t H1 locs ht hvm w71 hB hz1 hk1 hS => ?_)
          obtain ⟨tn1_71, ts1_71, tl1_71, rg1_71⟩ := u
          obtain ⟨hP1, hK1, hD1⟩ := hB
          rw [ht] at hP1
          try dsimp only at w71
          obtain ⟨hP, hD⟩ := va_join (wr := [(o, .inr (5, [.ref xb, .ref lb, .int (nI un)])), (xb, .inl (cI, 3, .inl us)), (lb, .inl (cI, 3, .inl ul)), (ro, .inr (4, [.ref ca, .int ln, .int (nI L)])), (ca, .inl (cI, 60, .inl f))]) (w1 := [(h, .inr (3, [.ref tt, .int rg1_71])), (tt, .inr (5, [.ref xa, .ref la, .int (nI tn1_71)])), (xa, .inl (cI, 3, .inl ts1_71)), (la, .inl (cI, 3, .inl tl1_71)), (pe, .inr (1, [.ref ka, .ref sa, .int (nI n)])), (ka, .inl (cI, 9, .inl kd)), (sa, .inl (cI, 9, .inl sd))]) hP hD [0, 1, 2, 3, 7, 8, 9] [4, 5, 6, 10, 11] rfl rfl (by decide) (by decide) hk1 hFc hP1 hD1
          generalize H1 = H at hP hS ⊢
          have hP := hP.sub (ws' := [(h, .inr (3, [.ref tt, .int rg1_71])), (tt, .inr (5, [.ref xa, .ref la, .int (nI tn1_71)])), (xa, .inl (cI, 3, .inl ts1_71)), (la, .inl (cI, 3, .inl tl1_71)), (o, .inr (5, [.ref xb, .ref lb, .int (nI un)])), (xb, .inl (cI, 3, .inl us)), (lb, .inl (cI, 3, .inl ul)), (pe, .inr (1, [.ref ka, .ref sa, .int (nI n)])), (ka, .inl (cI, 9, .inl kd)), (sa, .inl (cI, 9, .inl sd)), (ro, .inr (4, [.ref ca, .int ln, .int (nI L)])), (ca, .inl (cI, 60, .inl f))]) [5, 6, 7, 8, 0, 1, 2, 9, 10, 11, 3, 4] rfl
          have hD := hD.sub (ws' := [(h, .inr (3, [.ref tt, .int rg1_71])), (tt, .inr (5, [.ref xa, .ref la, .int (nI tn1_71)])), (xa, .inl (cI, 3, .inl ts1_71)), (la, .inl (cI, 3, .inl tl1_71)), (o, .inr (5, [.ref xb, .ref lb, .int (nI un)])), (xb, .inl (cI, 3, .inl us)), (lb, .inl (cI, 3, .inl ul)), (pe, .inr (1, [.ref ka, .ref sa, .int (nI n)])), (ka, .inl (cI, 9, .inl kd)), (sa, .inl (cI, 9, .inl sd)), (ro, .inr (4, [.ref ca, .int ln, .int (nI L)])), (ca, .inl (cI, 60, .inl f))]) [5, 6, 7, 8, 0, 1, 2, 9, 10, 11, 3, 4] (by decide) rfl
          obtain ⟨rfl, rfl, rfl, rfl⟩ := w71
          refine lv_iinc (v := nI (i + 1)) (lv' := [(6, .int (nI (i + 1))), (8, .int (f (a0 + 2 * i + 1))), (7, .int (nI a)), (0, .ref h), (1, .ref o), (2, .ref pe), (3, .ref ro), (4, .int (nI a0)), (5, .int (nI k))]) hx hb dX3_play_74 hl (k := 8) rfl (nI_1 _) (by decide) rfl (fun ls hl => ?_)
          refine lv_goto (tgt := 16) hx hb dX3_play_77 (by decide) ?_
          exact ih16 (i + 1) ((pfm n kd sd a (f (a0 + 2 * i + 1)) (vn, vs, vl, vr)).1) ((pfm n kd sd a (f (a0 + 2 * i + 1)) (vn, vs, vl, vr)).2.1) ((pfm n kd sd a (f (a0 + 2 * i + 1)) (vn, vs, vl, vr)).2.2.1) ((pfm n kd sd a (f (a0 + 2 * i + 1)) (vn, vs, vl, vr)).2.2.2) (by omega) (Nat.le_trans (pfm_le _ _ _ _ _ _) hv3) (by rw [← hq, show k - i = (k - (i + 1)) + 1 by omega, plW, if_pos (by rw [ea, nI_clamp (n := a) (by omega)]; exact b56), ea, nI_clamp (n := a) (by omega)]) (by omega) _ _ hP hD hS _ (lv_sub hl [3, 4, 5, 6, 7, 8, 0] rfl)
        · -- n56
          obtain rfl := w56.2 b56
          refine lv_if_ne (tgt := 65) hx hb dX3_play_59 (by decide) (fun h => absurd (by decide) h) (fun _ => ?_)
          refine lv_iload hx hb dX3_play_62 (lv_at hl 8 rfl) ?_
          exact W.iret (v := nI i) hx hb hr (fun t ht hW => ⟨⟨_, (vn, vs, vl, vr), rfl, by rw [show plW n kd sd f a0 k 0 (un, cpF us ts 3, cpF ul tl 3, 0) = (nI i, (vn, vs, vl, vr)) from by rw [← hq, show k - i = (k - (i + 1)) + 1 by omega, plW, if_neg (by rw [ea, nI_clamp (n := a) (by omega)]; exact b56)]]; exact ⟨rfl, rfl, rfl, rfl, rfl⟩, by rw [ht]; exact hP, va_K.moved hW.alike hK, hD⟩, hS.F ht⟩) hS.2.2 dX3_play_64
  exact lp16 _ 0 un (cpF us ts 3) (cpF ul tl 3) 0 (Nat.zero_le _) (by assumption) (rfl) (Nat.lt_succ_self _) _ _ hP hD hS _ (lv_sub hl [1, 2, 3, 4, 5, 6, 0] rfl)
