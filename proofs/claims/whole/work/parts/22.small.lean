set_option maxHeartbeats 4000000 in
set_option maxRecDepth 100000 in
theorem c_X4_isNothing (l : Launch) (D : va_G) (cI cO : ClassId) (h : Nat) (ca : Nat) (ln : Int32) (le : Int32) : Met l yX4_isNothing wsX4_isNothing ({ frames := 0, cells := 0, slots := 0, locals := 0 } : Room) (va_Pc [.ref h] (wdR D cI cO [(h, .inr (4, [.ref ca, .int ln, .int le]))])) (vp_Si (fun r => ((le = -1) → r = 1) ∧ (¬ (le = -1) → r = 0))) 0 0 (fun _ => False) := by
  refine Met.ofW (cc := cX4_isNothing) (maxL := 1) (ret := (some .boolean)) (by decide) rfl ?_
  intro p e s m args below meth c s₁ B hml hv
  obtain ⟨rfl, hP, hK, hNw⟩ := hv
  have hx := B.exec
  have hb := B.bytes
  have hr := B.returns
  have hts := atoms_spec (ws := wsX4_isNothing) B.pre
  have hown : s.vm.findClass RX4 = some m.cls := findClass_of_methodNamed B.named
  have hlocks := B.notSynchronized
  have f19 := hts (.fieldLink RX4 19 "StruckThrees$Sheet" "length" "I") (by decide +kernel)
  have iX4 : ∀ w ∈ wsX40, w ∈ wsX4_isNothing := by decide +kernel
  have hP : va_P D vwCl [(h, .inr (4, [.ref ca, .int ln, .int le]))] s.heap := hP
  have hl := lv_entry ([.ref h]) (n := 1) (Nat.le_of_ble_eq_true rfl)
  rw [lg_entry_eq]
  generalize (lg_sl ([.ref h]) ++ List.replicate (1 - (lg_sl ([.ref h])).length) Slot.unset).toArray = ls at hl ⊢
  have hl : lv_has ls 1 [(0, .ref h)] := hl
  refine lv_aload_n hx hb dX4_isNothing_0 rfl (lv_at hl 0 rfl) ?_
  refine va_get (D := D) (ci := 4) (v := .int le) (C := RX4) (T := TX4) (N := 3) hx hb hts iX4 hown hK hP 0 rfl rfl 2 (by decide) f19 (fun _ h9 => h9) rfl dX4_isNothing_1 ?_
  refine lv_iconst (v := -1) hx hb dX4_isNothing_4 (by decide) ?_
  refine lv_icmp_ne (tgt := 12) hx hb dX4_isNothing_5 (by decide) (fun c5 => ?_) (fun c5 => ?_)
  · -- t5
    refine lv_iconst (v := 0) hx hb dX4_isNothing_12 (by decide) ?_
    exact W.zret (v := 0) (ty := .boolean) hx hb hr rfl (fun t ht hW => ⟨_, rfl, by exact ⟨fun h => by first | rfl | (exfalso; simp_all; done), fun h => by first | rfl | (exfalso; simp_all; done)⟩, ht⟩) (fun _ h => absurd h List.not_mem_nil) dX4_isNothing_13
  · -- f5
    refine lv_iconst (v := 1) hx hb dX4_isNothing_8 (by decide) ?_
    refine lv_goto (tgt := 13) hx hb dX4_isNothing_9 (by decide) ?_
    exact W.zret (v := 1) (ty := .boolean) hx hb hr rfl (fun t ht hW => ⟨_, rfl, by exact ⟨fun h => by first | rfl | (exfalso; simp_all; done), fun h => by first | rfl | (exfalso; simp_all; done)⟩, ht⟩) (fun _ h => absurd h List.not_mem_nil) dX4_isNothing_13

set_option maxHeartbeats 4000000 in
set_option maxRecDepth 100000 in
theorem c_X4_empty (l : Launch) (D : va_G) (cI cO : ClassId) (h : Nat) (ca : Nat) (ln : Int32) (le : Int32) (sz : Nat) : Met l yX4_empty wsX4_empty ({ frames := 0, cells := 0, slots := 0, locals := 0 } : Room) (va_Pc [.ref h] (wdW D cI cO [(h, .inr (4, [.ref ca, .int ln, .int le]))] sz)) (va_Qv (S := Unit) (fun u => True) (fun u t => va_P D vwCl [(h, .inr (4, [.ref ca, .int ln, .int (-1)]))] t.heap ∧ va_K D vwCl (tyL cI cO) t ∧ va_D (va_A [(h, .inr (4, [.ref ca, .int ln, .int le]))] sz) [(h, .inr (4, [.ref ca, .int ln, .int (-1)]))]) (va_A [(h, .inr (4, [.ref ca, .int ln, .int le]))] sz)) 0 0 (va_A [(h, .inr (4, [.ref ca, .int ln, .int le]))] sz) := by
  refine Met.ofW (cc := cX4_empty) (maxL := 1) (ret := none) (by decide) rfl ?_
  intro p e s m args below meth c s₁ B hml hv
  obtain ⟨rfl, hsz, hP, hK, hNw, hD0⟩ := hv
  have hx := B.exec
  have hb := B.bytes
  have hr := B.returns
  have hts := atoms_spec (ws := wsX4_empty) B.pre
  have hown : s.vm.findClass RX4 = some m.cls := findClass_of_methodNamed B.named
  have hlocks := B.notSynchronized
  have f19 := hts (.fieldLink RX4 19 "StruckThrees$Sheet" "length" "I") (by decide +kernel)
  have iX4 : ∀ w ∈ wsX40, w ∈ wsX4_empty := by decide +kernel
  subst hsz
  have hD := hD0.self (sz := s.heap.size)
  generalize hAe : va_A [(h, .inr (4, [.ref ca, .int ln, .int le]))] s.heap.size = A at hD ⊢
  have hA : ∀ q : Nat, s.heap.size ≤ q → A q := fun q h => by rw [← hAe]; exact Or.inr h
  have hS : va_S A s.heap s.heap [] := va_S.rf
  have hP : va_P D vwCl [(h, .inr (4, [.ref ca, .int ln, .int le]))] s.heap := hP
  have hl := lv_entry ([.ref h]) (n := 1) (Nat.le_of_ble_eq_true rfl)
  rw [lg_entry_eq]
  generalize (lg_sl ([.ref h]) ++ List.replicate (1 - (lg_sl ([.ref h])).length) Slot.unset).toArray = ls at hl ⊢
  have hl : lv_has ls 1 [(0, .ref h)] := hl
  refine lv_aload_n hx hb dX4_empty_0 rfl (lv_at hl 0 rfl) ?_
  refine lv_iconst (v := -1) hx hb dX4_empty_1 (by decide) ?_
  refine va_put (D := D) (ci := 4) (v := .int (-1)) (ty := .int) (C := RX4) (T := TX4) (N := 3) hx hb hts iX4 tyX4 tyX4_ok nmX4 hown hK hP hD hS 0 rfl rfl 2 (by decide) f19 (fun _ h9 => h9) rfl (by decide +kernel) rfl rfl (Nat.le_of_ble_eq_true rfl) dX4_empty_2 (fun H locs hP hD hS => ?_)
  have hP : va_P D vwCl [(h, .inr (4, [.ref ca, .int ln, .int (-1)]))] H := hP
  have hD : va_D A [(h, .inr (4, [.ref ca, .int ln, .int (-1)]))] := hD
  exact W.vret hx hb hr (fun t ht hW => ⟨⟨(), rfl, by trivial, by rw [ht]; exact hP, va_K.moved hW.alike hK, hD⟩, hS.F ht⟩) hS.2.2 dX4_empty_5

set_option maxHeartbeats 4000000 in
set_option maxRecDepth 100000 in
theorem c_X4_renew (l : Launch) (D : va_G) (cI cO : ClassId) (h : Nat) (ca : Nat) (ln : Int32) (le : Int32) (f : Nat → Int32) (nl : Int32) (L : Nat) (sz : Nat) (hL : L ≤ 60) : Met l yX4_renew wsX4_renew ({ frames := 1, cells := 0, slots := 0, locals := 21 } : Room) (va_Pc [.ref h, .int nl, .int (nI L)] (wdW D cI cO [(h, .inr (4, [.ref ca, .int ln, .int le])), (ca, .inl (cI, 60, .inl f))] sz)) (va_Qv (S := (Nat → Int32)) (fun u => u = zeroF f 60) (fun u t => va_P D vwCl [(h, .inr (4, [.ref ca, .int nl, .int (nI L)])), (ca, .inl (cI, 60, .inl u))] t.heap ∧ va_K D vwCl (tyL cI cO) t ∧ va_D (va_A [(h, .inr (4, [.ref ca, .int ln, .int le])), (ca, .inl (cI, 60, .inl f))] sz) [(h, .inr (4, [.ref ca, .int nl, .int (nI L)])), (ca, .inl (cI, 60, .inl u))]) (va_A [(h, .inr (4, [.ref ca, .int ln, .int le])), (ca, .inl (cI, 60, .inl f))] sz)) 0 0 (va_A [(h, .inr (4, [.ref ca, .int ln, .int le])), (ca, .inl (cI, 60, .inl f))] sz) := by
  refine Met.ofW (cc := cX4_renew) (maxL := 4) (ret := none) (by decide) rfl ?_
  intro p e s m args below meth c s₁ B hml hv
  obtain ⟨rfl, hsz, hP, hK, hNw, hD0⟩ := hv
  have hx := B.exec
  have hb := B.bytes
  have hr := B.returns
  have hts := atoms_spec (ws := wsX4_renew) B.pre
  have hown : s.vm.findClass RX4 = some m.cls := findClass_of_methodNamed B.named
  have hlocks := B.notSynchronized
  have f11 := hts (.fieldLink RX4 11 "StruckThrees$Sheet" "cells" "[I") (by decide +kernel)
  have f15 := hts (.fieldLink RX4 15 "StruckThrees$Sheet" "lane" "I") (by decide +kernel)
  have f19 := hts (.fieldLink RX4 19 "StruckThrees$Sheet" "length" "I") (by decide +kernel)
  have iX4 : ∀ w ∈ wsX40, w ∈ wsX4_renew := by decide +kernel
  subst hsz
  have hD := hD0.self (sz := s.heap.size)
  generalize hAe : va_A [(h, .inr (4, [.ref ca, .int ln, .int le])), (ca, .inl (cI, 60, .inl f))] s.heap.size = A at hD ⊢
  have hA : ∀ q : Nat, s.heap.size ≤ q → A q := fun q h => by rw [← hAe]; exact Or.inr h
  have hS : va_S A s.heap s.heap [] := va_S.rf
  have hP : va_P D vwCl [(h, .inr (4, [.ref ca, .int ln, .int le])), (ca, .inl (cI, 60, .inl f))] s.heap := hP
  have hl := lv_entry ([.ref h, .int nl, .int (nI L)]) (n := 4) (Nat.le_of_ble_eq_true rfl)
  rw [lg_entry_eq]
  generalize (lg_sl ([.ref h, .int nl, .int (nI L)]) ++ List.replicate (4 - (lg_sl ([.ref h, .int nl, .int (nI L)])).length) Slot.unset).toArray = ls at hl ⊢
  have hl : lv_has ls 4 [(0, .ref h), (1, .int nl), (2, .int (nI L))] := hl
  refine lv_aload_n hx hb dX4_renew_0 rfl (lv_at hl 0 rfl) ?_
  refine lv_iload_n hx hb dX4_renew_1 rfl (lv_at hl 1 rfl) ?_
  refine va_put (D := D) (ci := 4) (v := .int nl) (ty := .int) (C := RX4) (T := TX4) (N := 3) hx hb hts iX4 tyX4 tyX4_ok nmX4 hown hK hP hD hS 0 rfl rfl 1 (by decide) f15 (fun _ h9 => h9) rfl (by decide +kernel) rfl rfl (Nat.le_of_ble_eq_true rfl) dX4_renew_2 (fun H locs hP hD hS => ?_)
  have hP : va_P D vwCl [(h, .inr (4, [.ref ca, .int nl, .int le])), (ca, .inl (cI, 60, .inl f))] H := hP
  have hD : va_D A [(h, .inr (4, [.ref ca, .int nl, .int le])), (ca, .inl (cI, 60, .inl f))] := hD
  refine lv_aload_n hx hb dX4_renew_5 rfl (lv_at hl 0 rfl) ?_
  refine lv_iconst (v := 0) hx hb dX4_renew_6 (by decide) ?_
  refine lv_iload_n hx hb dX4_renew_7 rfl (lv_at hl 2 rfl) ?_
  refine lv_bipush (v := 60) hx hb dX4_renew_8 (by decide) ?_
  refine va_mmin hx hb (hml.trans hl.1.symm) hown (hts (.methodLink RX4 22 Lib.Math.min.name) (by decide +kernel)) (hts (.static Lib.Math.min.name) (by decide +kernel)) (hts (.initialized "java/lang/Math") (by decide +kernel)) (hts (.code Lib.Math.min.name Lib.Math.min.code 2 (some .int)) (by decide +kernel)) (Nat.le_of_ble_eq_true rfl) (Nat.le_of_ble_eq_true rfl) (Nat.zero_le _) (Nat.zero_le _) dX4_renew_10 ?_
  refine tp_i (y := nI L) (if_neg (nI_nlt (a := 60) (by omega) (by decide))) ?_
  refine va_mmax hx hb (hml.trans hl.1.symm) hown (hts (.methodLink RX4 28 Lib.Math.max.name) (by decide +kernel)) (hts (.static Lib.Math.max.name) (by decide +kernel)) (hts (.initialized "java/lang/Math") (by decide +kernel)) (hts (.code Lib.Math.max.name Lib.Math.max.code 2 (some .int)) (by decide +kernel)) (Nat.le_of_ble_eq_true rfl) (Nat.le_of_ble_eq_true rfl) (Nat.zero_le _) (Nat.zero_le _) dX4_renew_13 ?_
  refine tp_i (y := nI L) (max0 (by omega)) ?_
  refine va_put (D := D) (ci := 4) (v := .int (nI L)) (ty := .int) (C := RX4) (T := TX4) (N := 3) hx hb hts iX4 tyX4 tyX4_ok nmX4 hown hK hP hD hS 0 rfl rfl 2 (by decide) f19 (fun _ h9 => h9) rfl (by decide +kernel) rfl rfl (Nat.le_of_ble_eq_true rfl) dX4_renew_16 (fun H locs hP hD hS => ?_)
  have hP : va_P D vwCl [(h, .inr (4, [.ref ca, .int nl, .int (nI L)])), (ca, .inl (cI, 60, .inl f))] H := hP
  have hD : va_D A [(h, .inr (4, [.ref ca, .int nl, .int (nI L)])), (ca, .inl (cI, 60, .inl f))] := hD
  refine lv_iconst (v := 0) hx hb dX4_renew_19 (by decide) ?_
  refine lv_istore_n (lv' := [(3, .int 0), (0, .ref h), (1, .int nl), (2, .int (nI L))]) hx hb dX4_renew_20 rfl hl (by decide) rfl (fun ls hl => ?_)
  have lp21 : ∀ (fu21 : Nat) (i : Nat) (hi : i ≤ 60) (hm21 : 60 - i < fu21) (H : Heap) (locs : List Loc) (hP : va_P D vwCl [(h, .inr (4, [.ref ca, .int nl, .int (nI L)])), (ca, .inl (cI, 60, .inl (zeroF f i)))] H) (hD : va_D A [(h, .inr (4, [.ref ca, .int nl, .int (nI L)])), (ca, .inl (cI, 60, .inl (zeroF f i)))]) (hS : va_S A s.heap H locs) (ls : Array Slot) (hl : lv_has ls 4 [(0, .ref h), (3, .int (nI i))]), W p l e (headSpec wsX4_renew ({ frames := 1, cells := 0, slots := 0, locals := 21 } : Room)).room s m ([.ref h, .int nl, .int (nI L)]).toArray below meth c H locs 0 0 (MQ below (va_Qv (S := (Nat → Int32)) (fun u => u = zeroF f 60) (fun u t => va_P D vwCl [(h, .inr (4, [.ref ca, .int nl, .int (nI L)])), (ca, .inl (cI, 60, .inl u))] t.heap ∧ va_K D vwCl (tyL cI cO) t ∧ va_D A [(h, .inr (4, [.ref ca, .int nl, .int (nI L)])), (ca, .inl (cI, 60, .inl u))]) A) ([.ref h, .int nl, .int (nI L)]).toArray s 0 0 A) (F0 m 21 ls []) := by
    intro fu21
    induction fu21 with
    | zero =>
      intros; omega
    | succ fu21 ih21 =>
      intro i hi hm21 H locs hP hD hS ls hl
      refine lv_iload_n hx hb dX4_renew_21 rfl (lv_at hl 1 rfl) ?_
      refine lv_bipush (v := 60) hx hb dX4_renew_22 (by decide) ?_
      refine lv_icmp_ge (tgt := 40) hx hb dX4_renew_24 (by decide) (fun c24 => ?_) (fun c24 => ?_)
      · -- t24
        have e24 : i = 60 := by have q := ge_n (n := 60) (by omega) (by omega) c24; omega
        rw [e24] at hl
        rw [e24] at hP hD
        exact W.vret hx hb hr (fun t ht hW => ⟨⟨(zeroF f 60), rfl, by rfl, by rw [ht]; exact hP, va_K.moved hW.alike hK, hD⟩, hS.F ht⟩) hS.2.2 dX4_renew_40
      · -- f24
        have l24 : i < 60 := lt_n (n := 60) (by omega) (by omega) c24
        refine lv_aload_n hx hb dX4_renew_27 rfl (lv_at hl 0 rfl) ?_
        refine va_get (D := D) (ci := 4) (v := .ref ca) (C := RX4) (T := TX4) (N := 3) hx hb hts iX4 hown hK hP 0 rfl rfl 0 (by decide) f11 (fun _ h9 => h9) rfl dX4_renew_28 ?_
        refine lv_iload_n hx hb dX4_renew_31 rfl (lv_at hl 1 rfl) ?_
        refine lv_iconst (v := 0) hx hb dX4_renew_32 (by decide) ?_
        refine va_iast hx hb hK hP hD hS 1 0 rfl rfl (vp_in_nI (by omega) (by decide)) dX4_renew_33 (fun H locs hP hD hS => ?_)
        rw [nI_clamp (n := i) (by omega)] at hP hD
        have hP : va_P D vwCl [(h, .inr (4, [.ref ca, .int nl, .int (nI L)])), (ca, .inl (cI, 60, .inl (upd (zeroF f i) i 0)))] H := hP
        have hD : va_D A [(h, .inr (4, [.ref ca, .int nl, .int (nI L)])), (ca, .inl (cI, 60, .inl (upd (zeroF f i) i 0)))] := hD
        refine lv_iinc (v := nI (i + 1)) (lv' := [(3, .int (nI (i + 1))), (0, .ref h)]) hx hb dX4_renew_34 hl (k := 1) rfl (nI_1 _) (by decide) rfl (fun ls hl => ?_)
        refine lv_goto (tgt := 21) hx hb dX4_renew_37 (by decide) ?_
        have ew21_1_0 : upd (zeroF f i) i 0 = zeroF f (i + 1) := by exact zeroF_s f i
        have hP : va_P D vwCl [(h, .inr (4, [.ref ca, .int nl, .int (nI L)])), (ca, .inl (cI, 60, .inl (zeroF f (i + 1))))] H := by rw [← ew21_1_0]; exact hP
        have hD : va_D A [(h, .inr (4, [.ref ca, .int nl, .int (nI L)])), (ca, .inl (cI, 60, .inl (zeroF f (i + 1))))] := by rw [← ew21_1_0]; exact hD
        exact ih21 (i + 1) (by omega) (by omega) _ _ hP hD hS _ (lv_sub hl [1, 0] rfl)
  have ew21_1_0 : f = zeroF f 0 := by exact (zeroF_0 f).symm
  have hP : va_P D vwCl [(h, .inr (4, [.ref ca, .int nl, .int (nI L)])), (ca, .inl (cI, 60, .inl (zeroF f 0)))] H := by rw [← ew21_1_0]; exact hP
  have hD : va_D A [(h, .inr (4, [.ref ca, .int nl, .int (nI L)])), (ca, .inl (cI, 60, .inl (zeroF f 0)))] := by rw [← ew21_1_0]; exact hD
  exact lp21 _ 0 (Nat.zero_le _) (Nat.lt_succ_self _) _ _ hP hD hS _ (lv_sub hl [1, 0] rfl)

set_option maxHeartbeats 4000000 in
set_option maxRecDepth 100000 in
theorem c_X4_has (l : Launch) (D : va_G) (cI cO : ClassId) (h : Nat) (ca : Nat) (ln : Int32) (le : Int32) (ii : Int32) : Met l yX4_has wsX4_has ({ frames := 0, cells := 0, slots := 0, locals := 0 } : Room) (va_Pc [.ref h, .int ii] (wdR D cI cO [(h, .inr (4, [.ref ca, .int ln, .int le]))])) (vp_Si (fun r => ((¬ ii < 0 ∧ ¬ le ≤ ii) → r = 1) ∧ (¬ (¬ ii < 0 ∧ ¬ le ≤ ii) → r = 0))) 0 0 (fun _ => False) := by
  refine Met.ofW (cc := cX4_has) (maxL := 2) (ret := (some .boolean)) (by decide) rfl ?_
  intro p e s m args below meth c s₁ B hml hv
  obtain ⟨rfl, hP, hK, hNw⟩ := hv
  have hx := B.exec
  have hb := B.bytes
  have hr := B.returns
  have hts := atoms_spec (ws := wsX4_has) B.pre
  have hown : s.vm.findClass RX4 = some m.cls := findClass_of_methodNamed B.named
  have hlocks := B.notSynchronized
  have f19 := hts (.fieldLink RX4 19 "StruckThrees$Sheet" "length" "I") (by decide +kernel)
  have iX4 : ∀ w ∈ wsX40, w ∈ wsX4_has := by decide +kernel
  have hP : va_P D vwCl [(h, .inr (4, [.ref ca, .int ln, .int le]))] s.heap := hP
  have hl := lv_entry ([.ref h, .int ii]) (n := 2) (Nat.le_of_ble_eq_true rfl)
  rw [lg_entry_eq]
  generalize (lg_sl ([.ref h, .int ii]) ++ List.replicate (2 - (lg_sl ([.ref h, .int ii])).length) Slot.unset).toArray = ls at hl ⊢
  have hl : lv_has ls 2 [(0, .ref h), (1, .int ii)] := hl
  refine lv_iload_n hx hb dX4_has_0 rfl (lv_at hl 1 rfl) ?_
  refine lv_if_lt (tgt := 16) hx hb dX4_has_1 (by decide) (fun c1 => ?_) (fun c1 => ?_)
  · -- t1
    refine lv_iconst (v := 0) hx hb dX4_has_16 (by decide) ?_
    exact W.zret (v := 0) (ty := .boolean) hx hb hr rfl (fun t ht hW => ⟨_, rfl, by exact ⟨fun h => by first | rfl | (exfalso; simp_all; done), fun h => by first | rfl | (exfalso; simp_all; done)⟩, ht⟩) (fun _ h => absurd h List.not_mem_nil) dX4_has_17
  · -- f1
    refine lv_iload_n hx hb dX4_has_4 rfl (lv_at hl 1 rfl) ?_
    refine lv_aload_n hx hb dX4_has_5 rfl (lv_at hl 0 rfl) ?_
    refine va_get (D := D) (ci := 4) (v := .int le) (C := RX4) (T := TX4) (N := 3) hx hb hts iX4 hown hK hP 0 rfl rfl 2 (by decide) f19 (fun _ h9 => h9) rfl dX4_has_6 ?_
    refine lv_icmp_ge (tgt := 16) hx hb dX4_has_9 (by decide) (fun c9 => ?_) (fun c9 => ?_)
    · -- t9
      refine lv_iconst (v := 0) hx hb dX4_has_16 (by decide) ?_
      exact W.zret (v := 0) (ty := .boolean) hx hb hr rfl (fun t ht hW => ⟨_, rfl, by exact ⟨fun h => by first | rfl | (exfalso; simp_all; done), fun h => by first | rfl | (exfalso; simp_all; done)⟩, ht⟩) (fun _ h => absurd h List.not_mem_nil) dX4_has_17
    · -- f9
      refine lv_iconst (v := 1) hx hb dX4_has_12 (by decide) ?_
      refine lv_goto (tgt := 17) hx hb dX4_has_13 (by decide) ?_
      exact W.zret (v := 1) (ty := .boolean) hx hb hr rfl (fun t ht hW => ⟨_, rfl, by exact ⟨fun h => by first | rfl | (exfalso; simp_all; done), fun h => by first | rfl | (exfalso; simp_all; done)⟩, ht⟩) (fun _ h => absurd h List.not_mem_nil) dX4_has_17

set_option maxHeartbeats 4000000 in
set_option maxRecDepth 100000 in
theorem c_X4_at (l : Launch) (D : va_G) (cI cO : ClassId) (h : Nat) (ca : Nat) (ln : Int32) (L : Nat) (f : Nat → Int32) (j : Nat) (hL : L ≤ 60) (hj : j < L) : Met l yX4_at wsX4_at ({ frames := 1, cells := 0, slots := 0, locals := 21 } : Room) (va_Pc [.ref h, .int (nI j)] (wdR D cI cO [(h, .inr (4, [.ref ca, .int ln, .int (nI L)])), (ca, .inl (cI, 60, .inl f))])) (vp_Si (fun r => r = f j)) 0 0 (fun _ => False) := by
  refine Met.ofW (cc := cX4_at) (maxL := 2) (ret := (some .int)) (by decide) rfl ?_
  intro p e s m args below meth c s₁ B hml hv
  obtain ⟨rfl, hP, hK, hNw⟩ := hv
  have hx := B.exec
  have hb := B.bytes
  have hr := B.returns
  have hts := atoms_spec (ws := wsX4_at) B.pre
  have hown : s.vm.findClass RX4 = some m.cls := findClass_of_methodNamed B.named
  have hlocks := B.notSynchronized
  have f11 := hts (.fieldLink RX4 11 "StruckThrees$Sheet" "cells" "[I") (by decide +kernel)
  have iX4 : ∀ w ∈ wsX40, w ∈ wsX4_at := by decide +kernel
  have hP : va_P D vwCl [(h, .inr (4, [.ref ca, .int ln, .int (nI L)])), (ca, .inl (cI, 60, .inl f))] s.heap := hP
  have hl := lv_entry ([.ref h, .int (nI j)]) (n := 2) (Nat.le_of_ble_eq_true rfl)
  rw [lg_entry_eq]
  generalize (lg_sl ([.ref h, .int (nI j)]) ++ List.replicate (2 - (lg_sl ([.ref h, .int (nI j)])).length) Slot.unset).toArray = ls at hl ⊢
  have hl : lv_has ls 2 [(0, .ref h), (1, .int (nI j))] := hl
  refine lv_aload_n hx hb dX4_at_0 rfl (lv_at hl 0 rfl) ?_
  refine lv_iload_n hx hb dX4_at_1 rfl (lv_at hl 1 rfl) ?_
  have hPc := hP.sub (ws' := [(h, .inr (4, [.ref ca, .int ln, .int (nI L)]))]) [0] rfl
  refine vp_callSi (va_Run.run (va_runV (As := [.int (nI j)]) (rest := []) ⟨hx, hb, hml, hown, hts⟩ (c_X4_has l D cI cO h ca ln (nI L) (nI j)) (cwV 1 hts gX4_at_X4_has rfl rfl rfl (by decide +kernel) ⟨Nat.le_of_ble_eq_true rfl, Nat.le_of_ble_eq_true rfl⟩) (preVR hPc hK hNw (va_recv hK hPc (ci := 4) (q0 := 0) rfl rfl)) rfl rfl hl.1 rfl (lv_room (Nat.le_of_ble_eq_true rfl)) dX4_at_2 ⟨Nat.zero_le _, Nat.zero_le _⟩)) (fun r2 w2 => ?_)
  by_cases b2 : ¬ (nI j) < 0 ∧ ¬ (nI L) ≤ (nI j)
  · -- y2
    obtain rfl := w2.1 b2
    refine lv_if_eq (tgt := 17) hx hb dX4_at_5 (by decide) (fun h => absurd h (by decide)) (fun _ => ?_)
    refine lv_aload_n hx hb dX4_at_8 rfl (lv_at hl 0 rfl) ?_
    refine va_get (D := D) (ci := 4) (v := .ref ca) (C := RX4) (T := TX4) (N := 3) hx hb hts iX4 hown hK hP 0 rfl rfl 0 (by decide) f11 (fun _ h9 => h9) rfl dX4_at_9 ?_
    refine lv_iload_n hx hb dX4_at_12 rfl (lv_at hl 1 rfl) ?_
    refine va_iald hx hb hK hP 1 0 rfl rfl (vp_in_nI (by omega) (by decide)) dX4_at_13 ?_
    refine tp_i (y := f j) (by rw [nI_clamp (n := j) (by omega)]) ?_
    refine lv_goto (tgt := 18) hx hb dX4_at_14 (by decide) ?_
    exact W.iret (v := f j) hx hb hr (fun t ht hW => ⟨_, rfl, by rfl, ht⟩) (fun _ h => absurd h List.not_mem_nil) dX4_at_18
  · -- n2
    obtain rfl := w2.2 b2
    exact absurd (nin_nI hj (by omega)) b2

set_option maxHeartbeats 4000000 in
set_option maxRecDepth 100000 in
theorem c_X4_become (l : Launch) (D : va_G) (cI cO : ClassId) (h : Nat) (ca : Nat) (ln : Int32) (L : Nat) (f : Nat → Int32) (j : Nat) (v : Int32) (sz : Nat) (hL : L ≤ 60) (hj : j < L) : Met l yX4_become wsX4_become ({ frames := 1, cells := 0, slots := 0, locals := 21 } : Room) (va_Pc [.ref h, .int (nI j), .int v] (wdW D cI cO [(h, .inr (4, [.ref ca, .int ln, .int (nI L)])), (ca, .inl (cI, 60, .inl f))] sz)) (va_Qv (S := (Nat → Int32)) (fun u => u = upd f j (cutI ln v)) (fun u t => va_P D vwCl [(h, .inr (4, [.ref ca, .int ln, .int (nI L)])), (ca, .inl (cI, 60, .inl u))] t.heap ∧ va_K D vwCl (tyL cI cO) t ∧ va_D (va_A [(h, .inr (4, [.ref ca, .int ln, .int (nI L)])), (ca, .inl (cI, 60, .inl f))] sz) [(h, .inr (4, [.ref ca, .int ln, .int (nI L)])), (ca, .inl (cI, 60, .inl u))]) (va_A [(h, .inr (4, [.ref ca, .int ln, .int (nI L)])), (ca, .inl (cI, 60, .inl f))] sz)) 0 0 (va_A [(h, .inr (4, [.ref ca, .int ln, .int (nI L)])), (ca, .inl (cI, 60, .inl f))] sz) := by
  refine Met.ofW (cc := cX4_become) (maxL := 3) (ret := none) (by decide) rfl ?_
  intro p e s m args below meth c s₁ B hml hv
  obtain ⟨rfl, hsz, hP, hK, hNw, hD0⟩ := hv
  have hx := B.exec
  have hb := B.bytes
  have hr := B.returns
  have hts := atoms_spec (ws := wsX4_become) B.pre
  have hown : s.vm.findClass RX4 = some m.cls := findClass_of_methodNamed B.named
  have hlocks := B.notSynchronized
  have f11 := hts (.fieldLink RX4 11 "StruckThrees$Sheet" "cells" "[I") (by decide +kernel)
  have f15 := hts (.fieldLink RX4 15 "StruckThrees$Sheet" "lane" "I") (by decide +kernel)
  have iX4 : ∀ w ∈ wsX40, w ∈ wsX4_become := by decide +kernel
  subst hsz
  have hD := hD0.self (sz := s.heap.size)
  generalize hAe : va_A [(h, .inr (4, [.ref ca, .int ln, .int (nI L)])), (ca, .inl (cI, 60, .inl f))] s.heap.size = A at hD ⊢
  have hA : ∀ q : Nat, s.heap.size ≤ q → A q := fun q h => by rw [← hAe]; exact Or.inr h
  have hS : va_S A s.heap s.heap [] := va_S.rf
  have hP : va_P D vwCl [(h, .inr (4, [.ref ca, .int ln, .int (nI L)])), (ca, .inl (cI, 60, .inl f))] s.heap := hP
  have hl := lv_entry ([.ref h, .int (nI j), .int v]) (n := 3) (Nat.le_of_ble_eq_true rfl)
  rw [lg_entry_eq]
  generalize (lg_sl ([.ref h, .int (nI j), .int v]) ++ List.replicate (3 - (lg_sl ([.ref h, .int (nI j), .int v])).length) Slot.unset).toArray = ls at hl ⊢
  have hl : lv_has ls 3 [(0, .ref h), (1, .int (nI j)), (2, .int v)] := hl
  refine lv_aload_n hx hb dX4_become_0 rfl (lv_at hl 0 rfl) ?_
  refine lv_iload_n hx hb dX4_become_1 rfl (lv_at hl 1 rfl) ?_
  have hPc := hP.sub (ws' := [(h, .inr (4, [.ref ca, .int ln, .int (nI L)]))]) [0] rfl
  refine vp_callSi (va_Run.run (va_runV (As := [.int (nI j)]) (rest := []) ⟨hx, hb, hml, hown, hts⟩ (c_X4_has l D cI cO h ca ln (nI L) (nI j)) (cwV 1 hts gX4_become_X4_has rfl rfl rfl (by decide +kernel) ⟨Nat.le_of_ble_eq_true rfl, Nat.le_of_ble_eq_true rfl⟩) (preVR hPc hK hNw (va_recv hK hPc (ci := 4) (q0 := 0) rfl rfl)) rfl rfl hl.1 rfl (lv_room (Nat.le_of_ble_eq_true rfl)) dX4_become_2 ⟨Nat.zero_le _, Nat.zero_le _⟩)) (fun r2 w2 => ?_)
  by_cases b2 : ¬ (nI j) < 0 ∧ ¬ (nI L) ≤ (nI j)
  · -- y2
    obtain rfl := w2.1 b2
    refine lv_if_ne (tgt := 9) hx hb dX4_become_5 (by decide) (fun _ => ?_) (fun h => absurd h (by decide))
    refine lv_aload_n hx hb dX4_become_9 rfl (lv_at hl 0 rfl) ?_
    refine va_get (D := D) (ci := 4) (v := .int ln) (C := RX4) (T := TX4) (N := 3) hx hb hts iX4 hown hK hP 0 rfl rfl 1 (by decide) f15 (fun _ h9 => h9) rfl dX4_become_10 ?_
    by_cases k13_0 : ln = 0
    · -- case 0
      refine lv_lookup (off := 27) (tgt := 40) hx hb dX4_become_13 (by decide) (by rw [k13_0]; decide) (by decide) ?_
      refine lv_aload_n hx hb dX4_become_40 rfl (lv_at hl 0 rfl) ?_
      refine va_get (D := D) (ci := 4) (v := .ref ca) (C := RX4) (T := TX4) (N := 3) hx hb hts iX4 hown hK hP 0 rfl rfl 0 (by decide) f11 (fun _ h9 => h9) rfl dX4_become_41 ?_
      refine lv_iload_n hx hb dX4_become_44 rfl (lv_at hl 1 rfl) ?_
      refine lv_iload_n hx hb dX4_become_45 rfl (lv_at hl 2 rfl) ?_
      refine lv_i2b hx hb dX4_become_46 rfl ?_
      refine va_iast hx hb hK hP hD hS 1 0 rfl rfl (vp_in_nI (by omega) (by decide)) dX4_become_47 (fun H locs hP hD hS => ?_)
      rw [nI_clamp (n := j) (by omega)] at hP hD
      have hP : va_P D vwCl [(h, .inr (4, [.ref ca, .int ln, .int (nI L)])), (ca, .inl (cI, 60, .inl (upd f j v.toInt8.toInt32)))] H := hP
      have hD : va_D A [(h, .inr (4, [.ref ca, .int ln, .int (nI L)])), (ca, .inl (cI, 60, .inl (upd f j v.toInt8.toInt32)))] := hD
      refine lv_goto (tgt := 69) hx hb dX4_become_48 (by decide) ?_
      exact W.vret hx hb hr (fun t ht hW => ⟨⟨(upd f j v.toInt8.toInt32), rfl, by simp [cutI, *], by rw [ht]; exact hP, va_K.moved hW.alike hK, hD⟩, hS.F ht⟩) hS.2.2 dX4_become_69
    by_cases k13_1 : ln = 1
    · -- case 1
      refine lv_lookup (off := 38) (tgt := 51) hx hb dX4_become_13 (by decide) (by rw [k13_1]; decide) (by decide) ?_
      refine lv_aload_n hx hb dX4_become_51 rfl (lv_at hl 0 rfl) ?_
      refine va_get (D := D) (ci := 4) (v := .ref ca) (C := RX4) (T := TX4) (N := 3) hx hb hts iX4 hown hK hP 0 rfl rfl 0 (by decide) f11 (fun _ h9 => h9) rfl dX4_become_52 ?_
      refine lv_iload_n hx hb dX4_become_55 rfl (lv_at hl 1 rfl) ?_
      refine lv_iload_n hx hb dX4_become_56 rfl (lv_at hl 2 rfl) ?_
      refine lv_i2s hx hb dX4_become_57 rfl ?_
      refine va_iast hx hb hK hP hD hS 1 0 rfl rfl (vp_in_nI (by omega) (by decide)) dX4_become_58 (fun H locs hP hD hS => ?_)
      rw [nI_clamp (n := j) (by omega)] at hP hD
      have hP : va_P D vwCl [(h, .inr (4, [.ref ca, .int ln, .int (nI L)])), (ca, .inl (cI, 60, .inl (upd f j v.toInt16.toInt32)))] H := hP
      have hD : va_D A [(h, .inr (4, [.ref ca, .int ln, .int (nI L)])), (ca, .inl (cI, 60, .inl (upd f j v.toInt16.toInt32)))] := hD
      refine lv_goto (tgt := 69) hx hb dX4_become_59 (by decide) ?_
      exact W.vret hx hb hr (fun t ht hW => ⟨⟨(upd f j v.toInt16.toInt32), rfl, by simp [cutI, *], by rw [ht]; exact hP, va_K.moved hW.alike hK, hD⟩, hS.F ht⟩) hS.2.2 dX4_become_69
    refine lv_lookup (off := 49) (tgt := 62) hx hb dX4_become_13 (by decide) (by show Op.lookupswitch.offset [(0, 27), (1, 38)] 49 _ = _; rw [lv_osw (k := 0) k13_0 (by decide), lv_osw (k := 1) k13_1 (by decide)]; rfl) (by decide) ?_
    refine lv_aload_n hx hb dX4_become_62 rfl (lv_at hl 0 rfl) ?_
    refine va_get (D := D) (ci := 4) (v := .ref ca) (C := RX4) (T := TX4) (N := 3) hx hb hts iX4 hown hK hP 0 rfl rfl 0 (by decide) f11 (fun _ h9 => h9) rfl dX4_become_63 ?_
    refine lv_iload_n hx hb dX4_become_66 rfl (lv_at hl 1 rfl) ?_
    refine lv_iload_n hx hb dX4_become_67 rfl (lv_at hl 2 rfl) ?_
    refine va_iast hx hb hK hP hD hS 1 0 rfl rfl (vp_in_nI (by omega) (by decide)) dX4_become_68 (fun H locs hP hD hS => ?_)
    rw [nI_clamp (n := j) (by omega)] at hP hD
    have hP : va_P D vwCl [(h, .inr (4, [.ref ca, .int ln, .int (nI L)])), (ca, .inl (cI, 60, .inl (upd f j v)))] H := hP
    have hD : va_D A [(h, .inr (4, [.ref ca, .int ln, .int (nI L)])), (ca, .inl (cI, 60, .inl (upd f j v)))] := hD
    exact W.vret hx hb hr (fun t ht hW => ⟨⟨(upd f j v), rfl, by simp [cutI, *], by rw [ht]; exact hP, va_K.moved hW.alike hK, hD⟩, hS.F ht⟩) hS.2.2 dX4_become_69
  · -- n2
    obtain rfl := w2.2 b2
    exact absurd (nin_nI hj (by omega)) b2

set_option maxHeartbeats 4000000 in
set_option maxRecDepth 100000 in
theorem c_X4_faultAs (l : Launch) (D : va_G) (cI cO : ClassId) (h : Nat) (ca : Nat) (ln : Int32) (le : Int32) (wa : Int32) : Met l yX4_faultAs wsX4_faultAs ({ frames := 1, cells := 0, slots := 0, locals := 20 } : Room) (va_Pc [.ref h, .int wa] (wdR D cI cO [(h, .inr (4, [.ref ca, .int ln, .int le]))])) (vp_Si (fun r => r = fasI le ln wa)) 0 0 (fun _ => False) := by
  refine Met.ofW (cc := cX4_faultAs) (maxL := 2) (ret := (some .int)) (by decide) rfl ?_
  intro p e s m args below meth c s₁ B hml hv
  obtain ⟨rfl, hP, hK, hNw⟩ := hv
  have hx := B.exec
  have hb := B.bytes
  have hr := B.returns
  have hts := atoms_spec (ws := wsX4_faultAs) B.pre
  have hown : s.vm.findClass RX4 = some m.cls := findClass_of_methodNamed B.named
  have hlocks := B.notSynchronized
  have f15 := hts (.fieldLink RX4 15 "StruckThrees$Sheet" "lane" "I") (by decide +kernel)
  have iX4 : ∀ w ∈ wsX40, w ∈ wsX4_faultAs := by decide +kernel
  have hP : va_P D vwCl [(h, .inr (4, [.ref ca, .int ln, .int le]))] s.heap := hP
  have hl := lv_entry ([.ref h, .int wa]) (n := 2) (Nat.le_of_ble_eq_true rfl)
  rw [lg_entry_eq]
  generalize (lg_sl ([.ref h, .int wa]) ++ List.replicate (2 - (lg_sl ([.ref h, .int wa])).length) Slot.unset).toArray = ls at hl ⊢
  have hl : lv_has ls 2 [(0, .ref h), (1, .int wa)] := hl
  refine lv_aload_n hx hb dX4_faultAs_0 rfl (lv_at hl 0 rfl) ?_
  have hPc := hP.sub (ws' := [(h, .inr (4, [.ref ca, .int ln, .int le]))]) [0] rfl
  refine vp_callSi (va_Run.run (va_runV (As := []) (rest := []) ⟨hx, hb, hml, hown, hts⟩ (c_X4_isNothing l D cI cO h ca ln le) (cwV 0 hts gX4_faultAs_X4_isNothing rfl rfl rfl (by decide +kernel) ⟨Nat.le_of_ble_eq_true rfl, Nat.le_of_ble_eq_true rfl⟩) (preVR hPc hK hNw (va_recv hK hPc (ci := 4) (q0 := 0) rfl rfl)) rfl rfl hl.1 rfl (lv_room (Nat.le_of_ble_eq_true rfl)) dX4_faultAs_1 ⟨Nat.zero_le _, Nat.zero_le _⟩)) (fun r1 w1 => ?_)
  by_cases b1 : le = -1
  · -- y1
    obtain rfl := w1.1 b1
    refine lv_if_eq (tgt := 9) hx hb dX4_faultAs_4 (by decide) (fun h => absurd h (by decide)) (fun _ => ?_)
    refine lv_iconst (v := 1) hx hb dX4_faultAs_7 (by decide) ?_
    exact W.iret (v := 1) hx hb hr (fun t ht hW => ⟨_, rfl, by simp [fasI, *], ht⟩) (fun _ h => absurd h List.not_mem_nil) dX4_faultAs_8
  · -- n1
    obtain rfl := w1.2 b1
    refine lv_if_eq (tgt := 9) hx hb dX4_faultAs_4 (by decide) (fun _ => ?_) (fun h => absurd (by decide) h)
    refine lv_aload_n hx hb dX4_faultAs_9 rfl (lv_at hl 0 rfl) ?_
    refine va_get (D := D) (ci := 4) (v := .int ln) (C := RX4) (T := TX4) (N := 3) hx hb hts iX4 hown hK hP 0 rfl rfl 1 (by decide) f15 (fun _ h9 => h9) rfl dX4_faultAs_10 ?_
    refine lv_iload_n hx hb dX4_faultAs_13 rfl (lv_at hl 1 rfl) ?_
    refine lv_icmp_ne (tgt := 21) hx hb dX4_faultAs_14 (by decide) (fun c14 => ?_) (fun c14 => ?_)
    · -- t14
      refine lv_iconst (v := 2) hx hb dX4_faultAs_21 (by decide) ?_
      exact W.iret (v := 2) hx hb hr (fun t ht hW => ⟨_, rfl, by simp [fasI, *], ht⟩) (fun _ h => absurd h List.not_mem_nil) dX4_faultAs_22
    · -- f14
      refine lv_iconst (v := 0) hx hb dX4_faultAs_17 (by decide) ?_
      refine lv_goto (tgt := 22) hx hb dX4_faultAs_18 (by decide) ?_
      exact W.iret (v := 0) hx hb hr (fun t ht hW => ⟨_, rfl, by simp [fasI, *], ht⟩) (fun _ h => absurd h List.not_mem_nil) dX4_faultAs_22

set_option maxHeartbeats 4000000 in
set_option maxRecDepth 100000 in
theorem c_X4_faultOfCells (l : Launch) (D : va_G) (cI cO : ClassId) (h : Nat) (ca : Nat) (ln : Int32) (le : Int32) (fr : Int32) (mn : Int32) : Met l yX4_faultOfCells wsX4_faultOfCells ({ frames := 0, cells := 0, slots := 0, locals := 0 } : Room) (va_Pc [.ref h, .int fr, .int mn] (wdR D cI cO [(h, .inr (4, [.ref ca, .int ln, .int le]))])) (vp_Si (fun r => r = focI le fr mn)) 0 0 (fun _ => False) := by
  refine Met.ofW (cc := cX4_faultOfCells) (maxL := 3) (ret := (some .int)) (by decide) rfl ?_
  intro p e s m args below meth c s₁ B hml hv
  obtain ⟨rfl, hP, hK, hNw⟩ := hv
  have hx := B.exec
  have hb := B.bytes
  have hr := B.returns
  have hts := atoms_spec (ws := wsX4_faultOfCells) B.pre
  have hown : s.vm.findClass RX4 = some m.cls := findClass_of_methodNamed B.named
  have hlocks := B.notSynchronized
  have f19 := hts (.fieldLink RX4 19 "StruckThrees$Sheet" "length" "I") (by decide +kernel)
  have iX4 : ∀ w ∈ wsX40, w ∈ wsX4_faultOfCells := by decide +kernel
  have hP : va_P D vwCl [(h, .inr (4, [.ref ca, .int ln, .int le]))] s.heap := hP
  have hl := lv_entry ([.ref h, .int fr, .int mn]) (n := 3) (Nat.le_of_ble_eq_true rfl)
  rw [lg_entry_eq]
  generalize (lg_sl ([.ref h, .int fr, .int mn]) ++ List.replicate (3 - (lg_sl ([.ref h, .int fr, .int mn])).length) Slot.unset).toArray = ls at hl ⊢
  have hl : lv_has ls 3 [(0, .ref h), (1, .int fr), (2, .int mn)] := hl
  refine lv_iload_n hx hb dX4_faultOfCells_0 rfl (lv_at hl 1 rfl) ?_
  refine lv_if_lt (tgt := 16) hx hb dX4_faultOfCells_1 (by decide) (fun c1 => ?_) (fun c1 => ?_)
  · -- t1
    refine lv_iconst (v := 3) hx hb dX4_faultOfCells_16 (by decide) ?_
    exact W.iret (v := 3) hx hb hr (fun t ht hW => ⟨_, rfl, by simp [focI, *], ht⟩) (fun _ h => absurd h List.not_mem_nil) dX4_faultOfCells_17
  · -- f1
    refine lv_iload_n hx hb dX4_faultOfCells_4 rfl (lv_at hl 1 rfl) ?_
    refine lv_aload_n hx hb dX4_faultOfCells_5 rfl (lv_at hl 0 rfl) ?_
    refine va_get (D := D) (ci := 4) (v := .int le) (C := RX4) (T := TX4) (N := 3) hx hb hts iX4 hown hK hP 0 rfl rfl 2 (by decide) f19 (fun _ h9 => h9) rfl dX4_faultOfCells_6 ?_
    refine lv_icmp_gt (tgt := 16) hx hb dX4_faultOfCells_9 (by decide) (fun c9 => ?_) (fun c9 => ?_)
    · -- t9
      refine lv_iconst (v := 3) hx hb dX4_faultOfCells_16 (by decide) ?_
      exact W.iret (v := 3) hx hb hr (fun t ht hW => ⟨_, rfl, by simp [focI, *], ht⟩) (fun _ h => absurd h List.not_mem_nil) dX4_faultOfCells_17
    · -- f9
      refine lv_iload_n hx hb dX4_faultOfCells_12 rfl (lv_at hl 2 rfl) ?_
      refine lv_if_ge (tgt := 18) hx hb dX4_faultOfCells_13 (by decide) (fun c13 => ?_) (fun c13 => ?_)
      · -- t13
        refine lv_iload_n hx hb dX4_faultOfCells_18 rfl (lv_at hl 2 rfl) ?_
        refine lv_aload_n hx hb dX4_faultOfCells_19 rfl (lv_at hl 0 rfl) ?_
        refine va_get (D := D) (ci := 4) (v := .int le) (C := RX4) (T := TX4) (N := 3) hx hb hts iX4 hown hK hP 0 rfl rfl 2 (by decide) f19 (fun _ h9 => h9) rfl dX4_faultOfCells_20 ?_
        refine lv_iload_n hx hb dX4_faultOfCells_23 rfl (lv_at hl 1 rfl) ?_
        refine lv_isub hx hb dX4_faultOfCells_24 ?_
        refine lv_icmp_le (tgt := 32) hx hb dX4_faultOfCells_25 (by decide) (fun c25 => ?_) (fun c25 => ?_)
        · -- t25
          refine lv_iconst (v := 0) hx hb dX4_faultOfCells_32 (by decide) ?_
          exact W.iret (v := 0) hx hb hr (fun t ht hW => ⟨_, rfl, by simp [focI, *], ht⟩) (fun _ h => absurd h List.not_mem_nil) dX4_faultOfCells_33
        · -- f25
          refine lv_iconst (v := 3) hx hb dX4_faultOfCells_28 (by decide) ?_
          refine lv_goto (tgt := 33) hx hb dX4_faultOfCells_29 (by decide) ?_
          exact W.iret (v := 3) hx hb hr (fun t ht hW => ⟨_, rfl, by simp [focI, *], ht⟩) (fun _ h => absurd h List.not_mem_nil) dX4_faultOfCells_33
      · -- f13
        refine lv_iconst (v := 3) hx hb dX4_faultOfCells_16 (by decide) ?_
        exact W.iret (v := 3) hx hb hr (fun t ht hW => ⟨_, rfl, by simp [focI, *], ht⟩) (fun _ h => absurd h List.not_mem_nil) dX4_faultOfCells_17

set_option maxHeartbeats 4000000 in
set_option maxRecDepth 100000 in
theorem c_X5_clear (l : Launch) (D : va_G) (cI cO : ClassId) (h : Nat) (xa : Nat) (la : Nat) (tn : Nat) (sz : Nat) : Met l yX5_clear wsX5_clear ({ frames := 0, cells := 0, slots := 0, locals := 0 } : Room) (va_Pc [.ref h] (wdW D cI cO [(h, .inr (5, [.ref xa, .ref la, .int (nI tn)]))] sz)) (va_Qv (S := Unit) (fun u => True) (fun u t => va_P D vwCl [(h, .inr (5, [.ref xa, .ref la, .int (nI 0)]))] t.heap ∧ va_K D vwCl (tyL cI cO) t ∧ va_D (va_A [(h, .inr (5, [.ref xa, .ref la, .int (nI tn)]))] sz) [(h, .inr (5, [.ref xa, .ref la, .int (nI 0)]))]) (va_A [(h, .inr (5, [.ref xa, .ref la, .int (nI tn)]))] sz)) 0 0 (va_A [(h, .inr (5, [.ref xa, .ref la, .int (nI tn)]))] sz) := by
  refine Met.ofW (cc := cX5_clear) (maxL := 1) (ret := none) (by decide) rfl ?_
  intro p e s m args below meth c s₁ B hml hv
  obtain ⟨rfl, hsz, hP, hK, hNw, hD0⟩ := hv
  have hx := B.exec
  have hb := B.bytes
  have hr := B.returns
  have hts := atoms_spec (ws := wsX5_clear) B.pre
  have hown : s.vm.findClass RX5 = some m.cls := findClass_of_methodNamed B.named
  have hlocks := B.notSynchronized
  have f18 := hts (.fieldLink RX5 18 "StruckThrees$Threes" "count" "I") (by decide +kernel)
  have iX5 : ∀ w ∈ wsX50, w ∈ wsX5_clear := by decide +kernel
  subst hsz
  have hD := hD0.self (sz := s.heap.size)
  generalize hAe : va_A [(h, .inr (5, [.ref xa, .ref la, .int (nI tn)]))] s.heap.size = A at hD ⊢
  have hA : ∀ q : Nat, s.heap.size ≤ q → A q := fun q h => by rw [← hAe]; exact Or.inr h
  have hS : va_S A s.heap s.heap [] := va_S.rf
  have hP : va_P D vwCl [(h, .inr (5, [.ref xa, .ref la, .int (nI tn)]))] s.heap := hP
  have hl := lv_entry ([.ref h]) (n := 1) (Nat.le_of_ble_eq_true rfl)
  rw [lg_entry_eq]
  generalize (lg_sl ([.ref h]) ++ List.replicate (1 - (lg_sl ([.ref h])).length) Slot.unset).toArray = ls at hl ⊢
  have hl : lv_has ls 1 [(0, .ref h)] := hl
  refine lv_aload_n hx hb dX5_clear_0 rfl (lv_at hl 0 rfl) ?_
  refine lv_iconst (v := 0) hx hb dX5_clear_1 (by decide) ?_
  refine va_put (D := D) (ci := 5) (v := .int 0) (ty := .int) (C := RX5) (T := TX5) (N := 3) hx hb hts iX5 tyX5 tyX5_ok nmX5 hown hK hP hD hS 0 rfl rfl 2 (by decide) f18 (fun _ h9 => h9) rfl (by decide +kernel) rfl rfl (Nat.le_of_ble_eq_true rfl) dX5_clear_2 (fun H locs hP hD hS => ?_)
  have hP : va_P D vwCl [(h, .inr (5, [.ref xa, .ref la, .int 0]))] H := hP
  have hD : va_D A [(h, .inr (5, [.ref xa, .ref la, .int 0]))] := hD
  exact W.vret hx hb hr (fun t ht hW => ⟨⟨(), rfl, by trivial, by rw [ht]; exact hP, va_K.moved hW.alike hK, hD⟩, hS.F ht⟩) hS.2.2 dX5_clear_5

set_option maxHeartbeats 4000000 in
set_option maxRecDepth 100000 in
theorem c_X5_has (l : Launch) (D : va_G) (cI cO : ClassId) (h : Nat) (xa : Nat) (la : Nat) (tn : Nat) (pp : Int32) : Met l yX5_has wsX5_has ({ frames := 0, cells := 0, slots := 0, locals := 0 } : Room) (va_Pc [.ref h, .int pp] (wdR D cI cO [(h, .inr (5, [.ref xa, .ref la, .int (nI tn)]))])) (vp_Si (fun r => ((¬ pp < 0 ∧ ¬ nI tn ≤ pp) → r = 1) ∧ (¬ (¬ pp < 0 ∧ ¬ nI tn ≤ pp) → r = 0))) 0 0 (fun _ => False) := by
  refine Met.ofW (cc := cX5_has) (maxL := 2) (ret := (some .boolean)) (by decide) rfl ?_
  intro p e s m args below meth c s₁ B hml hv
  obtain ⟨rfl, hP, hK, hNw⟩ := hv
  have hx := B.exec
  have hb := B.bytes
  have hr := B.returns
  have hts := atoms_spec (ws := wsX5_has) B.pre
  have hown : s.vm.findClass RX5 = some m.cls := findClass_of_methodNamed B.named
  have hlocks := B.notSynchronized
  have f18 := hts (.fieldLink RX5 18 "StruckThrees$Threes" "count" "I") (by decide +kernel)
  have iX5 : ∀ w ∈ wsX50, w ∈ wsX5_has := by decide +kernel
  have hP : va_P D vwCl [(h, .inr (5, [.ref xa, .ref la, .int (nI tn)]))] s.heap := hP
  have hl := lv_entry ([.ref h, .int pp]) (n := 2) (Nat.le_of_ble_eq_true rfl)
  rw [lg_entry_eq]
  generalize (lg_sl ([.ref h, .int pp]) ++ List.replicate (2 - (lg_sl ([.ref h, .int pp])).length) Slot.unset).toArray = ls at hl ⊢
  have hl : lv_has ls 2 [(0, .ref h), (1, .int pp)] := hl
  refine lv_iload_n hx hb dX5_has_0 rfl (lv_at hl 1 rfl) ?_
  refine lv_if_lt (tgt := 16) hx hb dX5_has_1 (by decide) (fun c1 => ?_) (fun c1 => ?_)
  · -- t1
    refine lv_iconst (v := 0) hx hb dX5_has_16 (by decide) ?_
    exact W.zret (v := 0) (ty := .boolean) hx hb hr rfl (fun t ht hW => ⟨_, rfl, by exact ⟨fun h => by first | rfl | (exfalso; simp_all; done), fun h => by first | rfl | (exfalso; simp_all; done)⟩, ht⟩) (fun _ h => absurd h List.not_mem_nil) dX5_has_17
  · -- f1
    refine lv_iload_n hx hb dX5_has_4 rfl (lv_at hl 1 rfl) ?_
    refine lv_aload_n hx hb dX5_has_5 rfl (lv_at hl 0 rfl) ?_
    refine va_get (D := D) (ci := 5) (v := .int (nI tn)) (C := RX5) (T := TX5) (N := 3) hx hb hts iX5 hown hK hP 0 rfl rfl 2 (by decide) f18 (fun _ h9 => h9) rfl dX5_has_6 ?_
    refine lv_icmp_ge (tgt := 16) hx hb dX5_has_9 (by decide) (fun c9 => ?_) (fun c9 => ?_)
    · -- t9
      refine lv_iconst (v := 0) hx hb dX5_has_16 (by decide) ?_
      exact W.zret (v := 0) (ty := .boolean) hx hb hr rfl (fun t ht hW => ⟨_, rfl, by exact ⟨fun h => by first | rfl | (exfalso; simp_all; done), fun h => by first | rfl | (exfalso; simp_all; done)⟩, ht⟩) (fun _ h => absurd h List.not_mem_nil) dX5_has_17
    · -- f9
      refine lv_iconst (v := 1) hx hb dX5_has_12 (by decide) ?_
      refine lv_goto (tgt := 17) hx hb dX5_has_13 (by decide) ?_
      exact W.zret (v := 1) (ty := .boolean) hx hb hr rfl (fun t ht hW => ⟨_, rfl, by exact ⟨fun h => by first | rfl | (exfalso; simp_all; done), fun h => by first | rfl | (exfalso; simp_all; done)⟩, ht⟩) (fun _ h => absurd h List.not_mem_nil) dX5_has_17

set_option maxHeartbeats 4000000 in
set_option maxRecDepth 100000 in
theorem c_X5_setOf (l : Launch) (D : va_G) (cI cO : ClassId) (h : Nat) (xa : Nat) (la : Nat) (tn : Nat) (ts : Nat → Int32) (j : Nat) (ht3 : tn ≤ 3) (hj : j < tn) : Met l yX5_setOf wsX5_setOf ({ frames := 1, cells := 0, slots := 0, locals := 21 } : Room) (va_Pc [.ref h, .int (nI j)] (wdR D cI cO [(h, .inr (5, [.ref xa, .ref la, .int (nI tn)])), (xa, .inl (cI, 3, .inl ts))])) (vp_Si (fun r => r = ts j)) 0 0 (fun _ => False) := by
  refine Met.ofW (cc := cX5_setOf) (maxL := 2) (ret := (some .int)) (by decide) rfl ?_
  intro p e s m args below meth c s₁ B hml hv
  obtain ⟨rfl, hP, hK, hNw⟩ := hv
  have hx := B.exec
  have hb := B.bytes
  have hr := B.returns
  have hts := atoms_spec (ws := wsX5_setOf) B.pre
  have hown : s.vm.findClass RX5 = some m.cls := findClass_of_methodNamed B.named
  have hlocks := B.notSynchronized
  have f11 := hts (.fieldLink RX5 11 "StruckThrees$Threes" "sets" "[I") (by decide +kernel)
  have iX5 : ∀ w ∈ wsX50, w ∈ wsX5_setOf := by decide +kernel
  have hP : va_P D vwCl [(h, .inr (5, [.ref xa, .ref la, .int (nI tn)])), (xa, .inl (cI, 3, .inl ts))] s.heap := hP
  have hl := lv_entry ([.ref h, .int (nI j)]) (n := 2) (Nat.le_of_ble_eq_true rfl)
  rw [lg_entry_eq]
  generalize (lg_sl ([.ref h, .int (nI j)]) ++ List.replicate (2 - (lg_sl ([.ref h, .int (nI j)])).length) Slot.unset).toArray = ls at hl ⊢
  have hl : lv_has ls 2 [(0, .ref h), (1, .int (nI j))] := hl
  refine lv_aload_n hx hb dX5_setOf_0 rfl (lv_at hl 0 rfl) ?_
  refine lv_iload_n hx hb dX5_setOf_1 rfl (lv_at hl 1 rfl) ?_
  have hPc := hP.sub (ws' := [(h, .inr (5, [.ref xa, .ref la, .int (nI tn)]))]) [0] rfl
  refine vp_callSi (va_Run.run (va_runV (As := [.int (nI j)]) (rest := []) ⟨hx, hb, hml, hown, hts⟩ (c_X5_has l D cI cO h xa la tn (nI j)) (cwV 1 hts gX5_setOf_X5_has rfl rfl rfl (by decide +kernel) ⟨Nat.le_of_ble_eq_true rfl, Nat.le_of_ble_eq_true rfl⟩) (preVR hPc hK hNw (va_recv hK hPc (ci := 5) (q0 := 0) rfl rfl)) rfl rfl hl.1 rfl (lv_room (Nat.le_of_ble_eq_true rfl)) dX5_setOf_2 ⟨Nat.zero_le _, Nat.zero_le _⟩)) (fun r2 w2 => ?_)
  by_cases b2 : ¬ (nI j) < 0 ∧ ¬ nI tn ≤ (nI j)
  · -- y2
    obtain rfl := w2.1 b2
    refine lv_if_eq (tgt := 17) hx hb dX5_setOf_5 (by decide) (fun h => absurd h (by decide)) (fun _ => ?_)
    refine lv_aload_n hx hb dX5_setOf_8 rfl (lv_at hl 0 rfl) ?_
    refine va_get (D := D) (ci := 5) (v := .ref xa) (C := RX5) (T := TX5) (N := 3) hx hb hts iX5 hown hK hP 0 rfl rfl 0 (by decide) f11 (fun _ h9 => h9) rfl dX5_setOf_9 ?_
    refine lv_iload_n hx hb dX5_setOf_12 rfl (lv_at hl 1 rfl) ?_
    refine va_iald hx hb hK hP 1 0 rfl rfl (vp_in_nI (by omega) (by decide)) dX5_setOf_13 ?_
    refine tp_i (y := ts j) (by rw [nI_clamp (n := j) (by omega)]) ?_
    refine lv_goto (tgt := 18) hx hb dX5_setOf_14 (by decide) ?_
    exact W.iret (v := ts j) hx hb hr (fun t ht hW => ⟨_, rfl, by rfl, ht⟩) (fun _ h => absurd h List.not_mem_nil) dX5_setOf_18
  · -- n2
    obtain rfl := w2.2 b2
    exact absurd (nin_nI hj (by omega)) b2

set_option maxHeartbeats 4000000 in
set_option maxRecDepth 100000 in
theorem c_X5_leftOf (l : Launch) (D : va_G) (cI cO : ClassId) (h : Nat) (xa : Nat) (la : Nat) (tn : Nat) (tl : Nat → Int32) (j : Nat) (ht3 : tn ≤ 3) (hj : j < tn) : Met l yX5_leftOf wsX5_leftOf ({ frames := 1, cells := 0, slots := 0, locals := 21 } : Room) (va_Pc [.ref h, .int (nI j)] (wdR D cI cO [(h, .inr (5, [.ref xa, .ref la, .int (nI tn)])), (la, .inl (cI, 3, .inl tl))])) (vp_Si (fun r => r = tl j)) 0 0 (fun _ => False) := by
  refine Met.ofW (cc := cX5_leftOf) (maxL := 2) (ret := (some .int)) (by decide) rfl ?_
  intro p e s m args below meth c s₁ B hml hv
  obtain ⟨rfl, hP, hK, hNw⟩ := hv
  have hx := B.exec
  have hb := B.bytes
  have hr := B.returns
  have hts := atoms_spec (ws := wsX5_leftOf) B.pre
  have hown : s.vm.findClass RX5 = some m.cls := findClass_of_methodNamed B.named
  have hlocks := B.notSynchronized
  have f15 := hts (.fieldLink RX5 15 "StruckThrees$Threes" "left" "[I") (by decide +kernel)
  have iX5 : ∀ w ∈ wsX50, w ∈ wsX5_leftOf := by decide +kernel
  have hP : va_P D vwCl [(h, .inr (5, [.ref xa, .ref la, .int (nI tn)])), (la, .inl (cI, 3, .inl tl))] s.heap := hP
  have hl := lv_entry ([.ref h, .int (nI j)]) (n := 2) (Nat.le_of_ble_eq_true rfl)
  rw [lg_entry_eq]
  generalize (lg_sl ([.ref h, .int (nI j)]) ++ List.replicate (2 - (lg_sl ([.ref h, .int (nI j)])).length) Slot.unset).toArray = ls at hl ⊢
  have hl : lv_has ls 2 [(0, .ref h), (1, .int (nI j))] := hl
  refine lv_aload_n hx hb dX5_leftOf_0 rfl (lv_at hl 0 rfl) ?_
  refine lv_iload_n hx hb dX5_leftOf_1 rfl (lv_at hl 1 rfl) ?_
  have hPc := hP.sub (ws' := [(h, .inr (5, [.ref xa, .ref la, .int (nI tn)]))]) [0] rfl
  refine vp_callSi (va_Run.run (va_runV (As := [.int (nI j)]) (rest := []) ⟨hx, hb, hml, hown, hts⟩ (c_X5_has l D cI cO h xa la tn (nI j)) (cwV 1 hts gX5_leftOf_X5_has rfl rfl rfl (by decide +kernel) ⟨Nat.le_of_ble_eq_true rfl, Nat.le_of_ble_eq_true rfl⟩) (preVR hPc hK hNw (va_recv hK hPc (ci := 5) (q0 := 0) rfl rfl)) rfl rfl hl.1 rfl (lv_room (Nat.le_of_ble_eq_true rfl)) dX5_leftOf_2 ⟨Nat.zero_le _, Nat.zero_le _⟩)) (fun r2 w2 => ?_)
  by_cases b2 : ¬ (nI j) < 0 ∧ ¬ nI tn ≤ (nI j)
  · -- y2
    obtain rfl := w2.1 b2
    refine lv_if_eq (tgt := 17) hx hb dX5_leftOf_5 (by decide) (fun h => absurd h (by decide)) (fun _ => ?_)
    refine lv_aload_n hx hb dX5_leftOf_8 rfl (lv_at hl 0 rfl) ?_
    refine va_get (D := D) (ci := 5) (v := .ref la) (C := RX5) (T := TX5) (N := 3) hx hb hts iX5 hown hK hP 0 rfl rfl 1 (by decide) f15 (fun _ h9 => h9) rfl dX5_leftOf_9 ?_
    refine lv_iload_n hx hb dX5_leftOf_12 rfl (lv_at hl 1 rfl) ?_
    refine va_iald hx hb hK hP 1 0 rfl rfl (vp_in_nI (by omega) (by decide)) dX5_leftOf_13 ?_
    refine tp_i (y := tl j) (by rw [nI_clamp (n := j) (by omega)]) ?_
    refine lv_goto (tgt := 18) hx hb dX5_leftOf_14 (by decide) ?_
    exact W.iret (v := tl j) hx hb hr (fun t ht hW => ⟨_, rfl, by rfl, ht⟩) (fun _ h => absurd h List.not_mem_nil) dX5_leftOf_18
  · -- n2
    obtain rfl := w2.2 b2
    exact absurd (nin_nI hj (by omega)) b2

set_option maxHeartbeats 4000000 in
set_option maxRecDepth 100000 in
theorem c_X5_threeOf (l : Launch) (D : va_G) (cI cO : ClassId) (h : Nat) (xa : Nat) (la : Nat) (tn : Nat) (ts : Nat → Int32) (j : Nat) (ht3 : tn ≤ 3) (hj : j < 32) : Met l yX5_threeOf wsX5_threeOf ({ frames := 0, cells := 0, slots := 0, locals := 0 } : Room) (va_Pc [.ref h, .int (nI j)] (wdR D cI cO [(h, .inr (5, [.ref xa, .ref la, .int (nI tn)])), (xa, .inl (cI, 3, .inl ts))])) (vp_Si (fun r => r = thrW ts j tn 0)) 0 0 (fun _ => False) := by
  refine Met.ofW (cc := cX5_threeOf) (maxL := 3) (ret := (some .int)) (by decide) rfl ?_
  intro p e s m args below meth c s₁ B hml hv
  obtain ⟨rfl, hP, hK, hNw⟩ := hv
  have hx := B.exec
  have hb := B.bytes
  have hr := B.returns
  have hts := atoms_spec (ws := wsX5_threeOf) B.pre
  have hown : s.vm.findClass RX5 = some m.cls := findClass_of_methodNamed B.named
  have hlocks := B.notSynchronized
  have f11 := hts (.fieldLink RX5 11 "StruckThrees$Threes" "sets" "[I") (by decide +kernel)
  have f18 := hts (.fieldLink RX5 18 "StruckThrees$Threes" "count" "I") (by decide +kernel)
  have iX5 : ∀ w ∈ wsX50, w ∈ wsX5_threeOf := by decide +kernel
  have hP : va_P D vwCl [(h, .inr (5, [.ref xa, .ref la, .int (nI tn)])), (xa, .inl (cI, 3, .inl ts))] s.heap := hP
  have hl := lv_entry ([.ref h, .int (nI j)]) (n := 3) (Nat.le_of_ble_eq_true rfl)
  rw [lg_entry_eq]
  generalize (lg_sl ([.ref h, .int (nI j)]) ++ List.replicate (3 - (lg_sl ([.ref h, .int (nI j)])).length) Slot.unset).toArray = ls at hl ⊢
  have hl : lv_has ls 3 [(0, .ref h), (1, .int (nI j))] := hl
  refine lv_iconst (v := 0) hx hb dX5_threeOf_0 (by decide) ?_
  refine lv_istore_n (lv' := [(2, .int 0), (0, .ref h), (1, .int (nI j))]) hx hb dX5_threeOf_1 rfl hl (by decide) rfl (fun ls hl => ?_)
  have lp2 : ∀ (fu2 : Nat) (i : Nat) (hi : i ≤ tn) (hq : thrW ts j (tn - i) i = thrW ts j tn 0) (hm2 : tn - i < fu2) (ls : Array Slot) (hl : lv_has ls 3 [(0, .ref h), (1, .int (nI j)), (2, .int (nI i))]), W p l e (headSpec wsX5_threeOf ({ frames := 0, cells := 0, slots := 0, locals := 0 } : Room)).room s m ([.ref h, .int (nI j)]).toArray below meth c s.heap [] 0 0 (MQ below (vp_Si (fun r => r = thrW ts j tn 0)) ([.ref h, .int (nI j)]).toArray s 0 0 (fun _ => False)) (F0 m 2 ls []) := by
    intro fu2
    induction fu2 with
    | zero =>
      intros; omega
    | succ fu2 ih2 =>
      intro i hi hq hm2 ls hl
      refine lv_iload_n hx hb dX5_threeOf_2 rfl (lv_at hl 2 rfl) ?_
      refine lv_aload_n hx hb dX5_threeOf_3 rfl (lv_at hl 0 rfl) ?_
      refine va_get (D := D) (ci := 5) (v := .int (nI tn)) (C := RX5) (T := TX5) (N := 3) hx hb hts iX5 hown hK hP 0 rfl rfl 2 (by decide) f18 (fun _ h9 => h9) rfl dX5_threeOf_4 ?_
      refine lv_icmp_ge (tgt := 31) hx hb dX5_threeOf_7 (by decide) (fun c7 => ?_) (fun c7 => ?_)
      · -- t7
        have e7 : i = tn := by have q := ge_n (by omega) (by omega) c7; omega
        rw [e7] at hl
        refine lv_bipush (v := -9) hx hb dX5_threeOf_31 (by decide) ?_
        exact W.iret (v := -9) hx hb hr (fun t ht hW => ⟨_, rfl, by rw [← hq, e7, Nat.sub_self]; rfl, ht⟩) (fun _ h => absurd h List.not_mem_nil) dX5_threeOf_33
      · -- f7
        have l7 : i < tn := lt_n (by omega) (by omega) c7
        refine lv_aload_n hx hb dX5_threeOf_10 rfl (lv_at hl 0 rfl) ?_
        refine va_get (D := D) (ci := 5) (v := .ref xa) (C := RX5) (T := TX5) (N := 3) hx hb hts iX5 hown hK hP 0 rfl rfl 0 (by decide) f11 (fun _ h9 => h9) rfl dX5_threeOf_11 ?_
        refine lv_iload_n hx hb dX5_threeOf_14 rfl (lv_at hl 2 rfl) ?_
        refine va_iald hx hb hK hP 1 0 rfl rfl (vp_in_nI (by omega) (by decide)) dX5_threeOf_15 ?_
        refine tp_i (y := ts i) (by rw [nI_clamp (n := i) (by omega)]) ?_
        refine lv_iconst (v := 1) hx hb dX5_threeOf_16 (by decide) ?_
        refine lv_iload_n hx hb dX5_threeOf_17 rfl (lv_at hl 1 rfl) ?_
        refine lv_ishl hx hb dX5_threeOf_18 ?_
        refine lv_iand hx hb dX5_threeOf_19 ?_
        refine lv_if_eq (tgt := 25) hx hb dX5_threeOf_20 (by decide) (fun c20 => ?_) (fun c20 => ?_)
        · -- t20
          have cb20 : bt (ts i) j = false := (bt_and0 (ts i) (by omega)).mp c20
          refine lv_iinc (v := nI (i + 1)) (lv' := [(2, .int (nI (i + 1))), (0, .ref h), (1, .int (nI j))]) hx hb dX5_threeOf_25 hl (k := 2) rfl (nI_1 _) (by decide) rfl (fun ls hl => ?_)
          refine lv_goto (tgt := 2) hx hb dX5_threeOf_28 (by decide) ?_
          exact ih2 (i + 1) (by omega) (by rw [← hq, show tn - i = (tn - (i + 1)) + 1 by omega]; simp [thrW, cb20]) (by omega) _ (lv_sub hl [1, 2, 0] rfl)
        · -- f20
          have cb20 : bt (ts i) j = true := by rw [← Bool.not_eq_false]; exact mt (bt_and0 (ts i) (by omega)).mpr c20
          refine lv_iload_n hx hb dX5_threeOf_23 rfl (lv_at hl 2 rfl) ?_
          exact W.iret (v := nI i) hx hb hr (fun t ht hW => ⟨_, rfl, by rw [← hq, show tn - i = (tn - (i + 1)) + 1 by omega]; simp [thrW, cb20], ht⟩) (fun _ h => absurd h List.not_mem_nil) dX5_threeOf_24
  exact lp2 _ 0 (Nat.zero_le _) (rfl) (Nat.lt_succ_self _) _ (lv_sub hl [1, 2, 0] rfl)

set_option maxHeartbeats 4000000 in
set_option maxRecDepth 100000 in
theorem c_X5_allHung (l : Launch) (D : va_G) (cI cO : ClassId) (h : Nat) (xa : Nat) (la : Nat) (tn : Nat) (ts : Nat → Int32) (ht3 : tn ≤ 3) : Met l yX5_allHung wsX5_allHung ({ frames := 0, cells := 0, slots := 0, locals := 0 } : Room) (va_Pc [.ref h] (wdR D cI cO [(h, .inr (5, [.ref xa, .ref la, .int (nI tn)])), (xa, .inl (cI, 3, .inl ts))])) (vp_Si (fun r => r = orW ts tn)) 0 0 (fun _ => False) := by
  refine Met.ofW (cc := cX5_allHung) (maxL := 3) (ret := (some .int)) (by decide) rfl ?_
  intro p e s m args below meth c s₁ B hml hv
  obtain ⟨rfl, hP, hK, hNw⟩ := hv
  have hx := B.exec
  have hb := B.bytes
  have hr := B.returns
  have hts := atoms_spec (ws := wsX5_allHung) B.pre
  have hown : s.vm.findClass RX5 = some m.cls := findClass_of_methodNamed B.named
  have hlocks := B.notSynchronized
  have f11 := hts (.fieldLink RX5 11 "StruckThrees$Threes" "sets" "[I") (by decide +kernel)
  have f18 := hts (.fieldLink RX5 18 "StruckThrees$Threes" "count" "I") (by decide +kernel)
  have iX5 : ∀ w ∈ wsX50, w ∈ wsX5_allHung := by decide +kernel
  have hP : va_P D vwCl [(h, .inr (5, [.ref xa, .ref la, .int (nI tn)])), (xa, .inl (cI, 3, .inl ts))] s.heap := hP
  have hl := lv_entry ([.ref h]) (n := 3) (Nat.le_of_ble_eq_true rfl)
  rw [lg_entry_eq]
  generalize (lg_sl ([.ref h]) ++ List.replicate (3 - (lg_sl ([.ref h])).length) Slot.unset).toArray = ls at hl ⊢
  have hl : lv_has ls 3 [(0, .ref h)] := hl
  refine lv_iconst (v := 0) hx hb dX5_allHung_0 (by decide) ?_
  refine lv_istore_n (lv' := [(1, .int 0), (0, .ref h)]) hx hb dX5_allHung_1 rfl hl (by decide) rfl (fun ls hl => ?_)
  refine lv_iconst (v := 0) hx hb dX5_allHung_2 (by decide) ?_
  refine lv_istore_n (lv' := [(2, .int 0), (1, .int 0), (0, .ref h)]) hx hb dX5_allHung_3 rfl hl (by decide) rfl (fun ls hl => ?_)
  have lp4 : ∀ (fu4 : Nat) (i : Nat) (hi : i ≤ tn) (hm4 : tn - i < fu4) (ls : Array Slot) (hl : lv_has ls 3 [(0, .ref h), (1, .int (orW ts i)), (2, .int (nI i))]), W p l e (headSpec wsX5_allHung ({ frames := 0, cells := 0, slots := 0, locals := 0 } : Room)).room s m ([.ref h]).toArray below meth c s.heap [] 0 0 (MQ below (vp_Si (fun r => r = orW ts tn)) ([.ref h]).toArray s 0 0 (fun _ => False)) (F0 m 4 ls []) := by
    intro fu4
    induction fu4 with
    | zero =>
      intros; omega
    | succ fu4 ih4 =>
      intro i hi hm4 ls hl
      refine lv_iload_n hx hb dX5_allHung_4 rfl (lv_at hl 2 rfl) ?_
      refine lv_aload_n hx hb dX5_allHung_5 rfl (lv_at hl 0 rfl) ?_
      refine va_get (D := D) (ci := 5) (v := .int (nI tn)) (C := RX5) (T := TX5) (N := 3) hx hb hts iX5 hown hK hP 0 rfl rfl 2 (by decide) f18 (fun _ h9 => h9) rfl dX5_allHung_6 ?_
      refine lv_icmp_ge (tgt := 27) hx hb dX5_allHung_9 (by decide) (fun c9 => ?_) (fun c9 => ?_)
      · -- t9
        have e9 : i = tn := by have q := ge_n (by omega) (by omega) c9; omega
        rw [e9] at hl
        refine lv_iload_n hx hb dX5_allHung_27 rfl (lv_at hl 1 rfl) ?_
        exact W.iret (v := orW ts tn) hx hb hr (fun t ht hW => ⟨_, rfl, by rfl, ht⟩) (fun _ h => absurd h List.not_mem_nil) dX5_allHung_28
      · -- f9
        have l9 : i < tn := lt_n (by omega) (by omega) c9
        refine lv_iload_n hx hb dX5_allHung_12 rfl (lv_at hl 1 rfl) ?_
        refine lv_aload_n hx hb dX5_allHung_13 rfl (lv_at hl 0 rfl) ?_
        refine va_get (D := D) (ci := 5) (v := .ref xa) (C := RX5) (T := TX5) (N := 3) hx hb hts iX5 hown hK hP 0 rfl rfl 0 (by decide) f11 (fun _ h9 => h9) rfl dX5_allHung_14 ?_
        refine lv_iload_n hx hb dX5_allHung_17 rfl (lv_at hl 2 rfl) ?_
        refine va_iald hx hb hK hP 1 0 rfl rfl (vp_in_nI (by omega) (by decide)) dX5_allHung_18 ?_
        refine tp_i (y := ts i) (by rw [nI_clamp (n := i) (by omega)]) ?_
        refine lv_ior hx hb dX5_allHung_19 ?_
        refine lv_istore_n (lv' := [(1, .int ((orW ts i) ||| (ts i))), (0, .ref h), (2, .int (nI i))]) hx hb dX5_allHung_20 rfl hl (by decide) rfl (fun ls hl => ?_)
        refine lv_iinc (v := nI (i + 1)) (lv' := [(2, .int (nI (i + 1))), (1, .int ((orW ts i) ||| (ts i))), (0, .ref h)]) hx hb dX5_allHung_21 hl (k := 2) rfl (nI_1 _) (by decide) rfl (fun ls hl => ?_)
        refine lv_goto (tgt := 4) hx hb dX5_allHung_24 (by decide) ?_
        have e4_1 : (orW ts i) ||| (ts i) = orW ts (i + 1) := by rfl
        have hl : lv_has ls 3 [(2, .int (nI (i + 1))), (1, .int (orW ts (i + 1))), (0, .ref h)] := by rw [← e4_1]; exact hl
        exact ih4 (i + 1) (by omega) (by omega) _ (lv_sub hl [2, 1, 0] rfl)
  exact lp4 _ 0 (Nat.zero_le _) (Nat.lt_succ_self _) _ (lv_sub hl [2, 1, 0] rfl)

set_option maxHeartbeats 4000000 in
set_option maxRecDepth 100000 in
theorem c_X5_leftTogether (l : Launch) (D : va_G) (cI cO : ClassId) (h : Nat) (xa : Nat) (la : Nat) (tn : Nat) (tl : Nat → Int32) (ht3 : tn ≤ 3) : Met l yX5_leftTogether wsX5_leftTogether ({ frames := 0, cells := 0, slots := 0, locals := 0 } : Room) (va_Pc [.ref h] (wdR D cI cO [(h, .inr (5, [.ref xa, .ref la, .int (nI tn)])), (la, .inl (cI, 3, .inl tl))])) (vp_Si (fun r => r = addW tl tn)) 0 0 (fun _ => False) := by
  refine Met.ofW (cc := cX5_leftTogether) (maxL := 3) (ret := (some .int)) (by decide) rfl ?_
  intro p e s m args below meth c s₁ B hml hv
  obtain ⟨rfl, hP, hK, hNw⟩ := hv
  have hx := B.exec
  have hb := B.bytes
  have hr := B.returns
  have hts := atoms_spec (ws := wsX5_leftTogether) B.pre
  have hown : s.vm.findClass RX5 = some m.cls := findClass_of_methodNamed B.named
  have hlocks := B.notSynchronized
  have f15 := hts (.fieldLink RX5 15 "StruckThrees$Threes" "left" "[I") (by decide +kernel)
  have f18 := hts (.fieldLink RX5 18 "StruckThrees$Threes" "count" "I") (by decide +kernel)
  have iX5 : ∀ w ∈ wsX50, w ∈ wsX5_leftTogether := by decide +kernel
  have hP : va_P D vwCl [(h, .inr (5, [.ref xa, .ref la, .int (nI tn)])), (la, .inl (cI, 3, .inl tl))] s.heap := hP
  have hl := lv_entry ([.ref h]) (n := 3) (Nat.le_of_ble_eq_true rfl)
  rw [lg_entry_eq]
  generalize (lg_sl ([.ref h]) ++ List.replicate (3 - (lg_sl ([.ref h])).length) Slot.unset).toArray = ls at hl ⊢
  have hl : lv_has ls 3 [(0, .ref h)] := hl
  refine lv_iconst (v := 0) hx hb dX5_leftTogether_0 (by decide) ?_
  refine lv_istore_n (lv' := [(1, .int 0), (0, .ref h)]) hx hb dX5_leftTogether_1 rfl hl (by decide) rfl (fun ls hl => ?_)
  refine lv_iconst (v := 0) hx hb dX5_leftTogether_2 (by decide) ?_
  refine lv_istore_n (lv' := [(2, .int 0), (1, .int 0), (0, .ref h)]) hx hb dX5_leftTogether_3 rfl hl (by decide) rfl (fun ls hl => ?_)
  have lp4 : ∀ (fu4 : Nat) (i : Nat) (hi : i ≤ tn) (hm4 : tn - i < fu4) (ls : Array Slot) (hl : lv_has ls 3 [(0, .ref h), (1, .int (addW tl i)), (2, .int (nI i))]), W p l e (headSpec wsX5_leftTogether ({ frames := 0, cells := 0, slots := 0, locals := 0 } : Room)).room s m ([.ref h]).toArray below meth c s.heap [] 0 0 (MQ below (vp_Si (fun r => r = addW tl tn)) ([.ref h]).toArray s 0 0 (fun _ => False)) (F0 m 4 ls []) := by
    intro fu4
    induction fu4 with
    | zero =>
      intros; omega
    | succ fu4 ih4 =>
      intro i hi hm4 ls hl
      refine lv_iload_n hx hb dX5_leftTogether_4 rfl (lv_at hl 2 rfl) ?_
      refine lv_aload_n hx hb dX5_leftTogether_5 rfl (lv_at hl 0 rfl) ?_
      refine va_get (D := D) (ci := 5) (v := .int (nI tn)) (C := RX5) (T := TX5) (N := 3) hx hb hts iX5 hown hK hP 0 rfl rfl 2 (by decide) f18 (fun _ h9 => h9) rfl dX5_leftTogether_6 ?_
      refine lv_icmp_ge (tgt := 27) hx hb dX5_leftTogether_9 (by decide) (fun c9 => ?_) (fun c9 => ?_)
      · -- t9
        have e9 : i = tn := by have q := ge_n (by omega) (by omega) c9; omega
        rw [e9] at hl
        refine lv_iload_n hx hb dX5_leftTogether_27 rfl (lv_at hl 1 rfl) ?_
        exact W.iret (v := addW tl tn) hx hb hr (fun t ht hW => ⟨_, rfl, by rfl, ht⟩) (fun _ h => absurd h List.not_mem_nil) dX5_leftTogether_28
      · -- f9
        have l9 : i < tn := lt_n (by omega) (by omega) c9
        refine lv_iload_n hx hb dX5_leftTogether_12 rfl (lv_at hl 1 rfl) ?_
        refine lv_aload_n hx hb dX5_leftTogether_13 rfl (lv_at hl 0 rfl) ?_
        refine va_get (D := D) (ci := 5) (v := .ref la) (C := RX5) (T := TX5) (N := 3) hx hb hts iX5 hown hK hP 0 rfl rfl 1 (by decide) f15 (fun _ h9 => h9) rfl dX5_leftTogether_14 ?_
        refine lv_iload_n hx hb dX5_leftTogether_17 rfl (lv_at hl 2 rfl) ?_
        refine va_iald hx hb hK hP 1 0 rfl rfl (vp_in_nI (by omega) (by decide)) dX5_leftTogether_18 ?_
        refine tp_i (y := tl i) (by rw [nI_clamp (n := i) (by omega)]) ?_
        refine lv_iadd hx hb dX5_leftTogether_19 ?_
        refine lv_istore_n (lv' := [(1, .int ((addW tl i) + (tl i))), (0, .ref h), (2, .int (nI i))]) hx hb dX5_leftTogether_20 rfl hl (by decide) rfl (fun ls hl => ?_)
        refine lv_iinc (v := nI (i + 1)) (lv' := [(2, .int (nI (i + 1))), (1, .int ((addW tl i) + (tl i))), (0, .ref h)]) hx hb dX5_leftTogether_21 hl (k := 2) rfl (nI_1 _) (by decide) rfl (fun ls hl => ?_)
        refine lv_goto (tgt := 4) hx hb dX5_leftTogether_24 (by decide) ?_
        have e4_1 : (addW tl i) + (tl i) = addW tl (i + 1) := by rfl
        have hl : lv_has ls 3 [(2, .int (nI (i + 1))), (1, .int (addW tl (i + 1))), (0, .ref h)] := by rw [← e4_1]; exact hl
        exact ih4 (i + 1) (by omega) (by omega) _ (lv_sub hl [2, 1, 0] rfl)
  exact lp4 _ 0 (Nat.zero_le _) (Nat.lt_succ_self _) _ (lv_sub hl [2, 1, 0] rfl)

set_option maxHeartbeats 4000000 in
set_option maxRecDepth 100000 in
theorem c_X5_ringing (l : Launch) (D : va_G) (cI cO : ClassId) (h : Nat) (xa : Nat) (la : Nat) (tn : Nat) (tl : Nat → Int32) (ht3 : tn ≤ 3) : Met l yX5_ringing wsX5_ringing ({ frames := 0, cells := 0, slots := 0, locals := 0 } : Room) (va_Pc [.ref h] (wdR D cI cO [(h, .inr (5, [.ref xa, .ref la, .int (nI tn)])), (la, .inl (cI, 3, .inl tl))])) (vp_Si (fun r => r = cntW tl tn)) 0 0 (fun _ => False) := by
  refine Met.ofW (cc := cX5_ringing) (maxL := 3) (ret := (some .int)) (by decide) rfl ?_
  intro p e s m args below meth c s₁ B hml hv
  obtain ⟨rfl, hP, hK, hNw⟩ := hv
  have hx := B.exec
  have hb := B.bytes
  have hr := B.returns
  have hts := atoms_spec (ws := wsX5_ringing) B.pre
  have hown : s.vm.findClass RX5 = some m.cls := findClass_of_methodNamed B.named
  have hlocks := B.notSynchronized
  have f15 := hts (.fieldLink RX5 15 "StruckThrees$Threes" "left" "[I") (by decide +kernel)
  have f18 := hts (.fieldLink RX5 18 "StruckThrees$Threes" "count" "I") (by decide +kernel)
  have iX5 : ∀ w ∈ wsX50, w ∈ wsX5_ringing := by decide +kernel
  have hP : va_P D vwCl [(h, .inr (5, [.ref xa, .ref la, .int (nI tn)])), (la, .inl (cI, 3, .inl tl))] s.heap := hP
  have hl := lv_entry ([.ref h]) (n := 3) (Nat.le_of_ble_eq_true rfl)
  rw [lg_entry_eq]
  generalize (lg_sl ([.ref h]) ++ List.replicate (3 - (lg_sl ([.ref h])).length) Slot.unset).toArray = ls at hl ⊢
  have hl : lv_has ls 3 [(0, .ref h)] := hl
  refine lv_iconst (v := 0) hx hb dX5_ringing_0 (by decide) ?_
  refine lv_istore_n (lv' := [(1, .int 0), (0, .ref h)]) hx hb dX5_ringing_1 rfl hl (by decide) rfl (fun ls hl => ?_)
  refine lv_iconst (v := 0) hx hb dX5_ringing_2 (by decide) ?_
  refine lv_istore_n (lv' := [(2, .int 0), (1, .int 0), (0, .ref h)]) hx hb dX5_ringing_3 rfl hl (by decide) rfl (fun ls hl => ?_)
  have lp4 : ∀ (fu4 : Nat) (i : Nat) (hi : i ≤ tn) (hm4 : tn - i < fu4) (ls : Array Slot) (hl : lv_has ls 3 [(0, .ref h), (1, .int (cntW tl i)), (2, .int (nI i))]), W p l e (headSpec wsX5_ringing ({ frames := 0, cells := 0, slots := 0, locals := 0 } : Room)).room s m ([.ref h]).toArray below meth c s.heap [] 0 0 (MQ below (vp_Si (fun r => r = cntW tl tn)) ([.ref h]).toArray s 0 0 (fun _ => False)) (F0 m 4 ls []) := by
    intro fu4
    induction fu4 with
    | zero =>
      intros; omega
    | succ fu4 ih4 =>
      intro i hi hm4 ls hl
      refine lv_iload_n hx hb dX5_ringing_4 rfl (lv_at hl 2 rfl) ?_
      refine lv_aload_n hx hb dX5_ringing_5 rfl (lv_at hl 0 rfl) ?_
      refine va_get (D := D) (ci := 5) (v := .int (nI tn)) (C := RX5) (T := TX5) (N := 3) hx hb hts iX5 hown hK hP 0 rfl rfl 2 (by decide) f18 (fun _ h9 => h9) rfl dX5_ringing_6 ?_
      refine lv_icmp_ge (tgt := 30) hx hb dX5_ringing_9 (by decide) (fun c9 => ?_) (fun c9 => ?_)
      · -- t9
        have e9 : i = tn := by have q := ge_n (by omega) (by omega) c9; omega
        rw [e9] at hl
        refine lv_iload_n hx hb dX5_ringing_30 rfl (lv_at hl 1 rfl) ?_
        exact W.iret (v := cntW tl tn) hx hb hr (fun t ht hW => ⟨_, rfl, by rfl, ht⟩) (fun _ h => absurd h List.not_mem_nil) dX5_ringing_31
      · -- f9
        have l9 : i < tn := lt_n (by omega) (by omega) c9
        refine lv_aload_n hx hb dX5_ringing_12 rfl (lv_at hl 0 rfl) ?_
        refine va_get (D := D) (ci := 5) (v := .ref la) (C := RX5) (T := TX5) (N := 3) hx hb hts iX5 hown hK hP 0 rfl rfl 1 (by decide) f15 (fun _ h9 => h9) rfl dX5_ringing_13 ?_
        refine lv_iload_n hx hb dX5_ringing_16 rfl (lv_at hl 2 rfl) ?_
        refine va_iald hx hb hK hP 1 0 rfl rfl (vp_in_nI (by omega) (by decide)) dX5_ringing_17 ?_
        refine tp_i (y := tl i) (by rw [nI_clamp (n := i) (by omega)]) ?_
        refine lv_if_le (tgt := 24) hx hb dX5_ringing_18 (by decide) (fun c18 => ?_) (fun c18 => ?_)
        · -- t18
          refine lv_iinc (v := nI (i + 1)) (lv' := [(2, .int (nI (i + 1))), (0, .ref h), (1, .int (cntW tl i))]) hx hb dX5_ringing_24 hl (k := 2) rfl (nI_1 _) (by decide) rfl (fun ls hl => ?_)
          refine lv_goto (tgt := 4) hx hb dX5_ringing_27 (by decide) ?_
          have e4_1 : cntW tl i = cntW tl (i + 1) := by simp [cntW, c18]
          have hl : lv_has ls 3 [(2, .int (nI (i + 1))), (0, .ref h), (1, .int (cntW tl (i + 1)))] := by rw [← e4_1]; exact hl
          exact ih4 (i + 1) (by omega) (by omega) _ (lv_sub hl [1, 2, 0] rfl)
        · -- f18
          refine lv_iinc (v := (cntW tl i) + 1) (lv' := [(1, .int ((cntW tl i) + 1)), (0, .ref h), (2, .int (nI i))]) hx hb dX5_ringing_21 hl (k := 1) rfl (rfl) (by decide) rfl (fun ls hl => ?_)
          refine lv_iinc (v := nI (i + 1)) (lv' := [(2, .int (nI (i + 1))), (1, .int ((cntW tl i) + 1)), (0, .ref h)]) hx hb dX5_ringing_24 hl (k := 2) rfl (nI_1 _) (by decide) rfl (fun ls hl => ?_)
          refine lv_goto (tgt := 4) hx hb dX5_ringing_27 (by decide) ?_
          have e4_1 : (cntW tl i) + 1 = cntW tl (i + 1) := by simp [cntW, c18]
          have hl : lv_has ls 3 [(2, .int (nI (i + 1))), (1, .int (cntW tl (i + 1))), (0, .ref h)] := by rw [← e4_1]; exact hl
          exact ih4 (i + 1) (by omega) (by omega) _ (lv_sub hl [2, 1, 0] rfl)
  exact lp4 _ 0 (Nat.zero_le _) (Nat.lt_succ_self _) _ (lv_sub hl [2, 1, 0] rfl)

set_option maxHeartbeats 4000000 in
set_option maxRecDepth 100000 in
theorem c_X5_add (l : Launch) (D : va_G) (cI cO : ClassId) (h : Nat) (xa : Nat) (la : Nat) (tn : Nat) (ts : Nat → Int32) (tl : Nat → Int32) (set : Int32) (sz : Nat) (hj : tn < 3) : Met l yX5_add wsX5_add ({ frames := 0, cells := 0, slots := 0, locals := 0 } : Room) (va_Pc [.ref h, .int set] (wdW D cI cO [(h, .inr (5, [.ref xa, .ref la, .int (nI tn)])), (xa, .inl (cI, 3, .inl ts)), (la, .inl (cI, 3, .inl tl))] sz)) (va_Qi (S := (Nat → Int32) × (Nat → Int32)) (fun r u => r = nI tn ∧ u.1 = upd ts tn set ∧ u.2 = upd tl tn 0) (fun u t => va_P D vwCl [(h, .inr (5, [.ref xa, .ref la, .int (nI (tn + 1))])), (xa, .inl (cI, 3, .inl u.1)), (la, .inl (cI, 3, .inl u.2))] t.heap ∧ va_K D vwCl (tyL cI cO) t ∧ va_D (va_A [(h, .inr (5, [.ref xa, .ref la, .int (nI tn)])), (xa, .inl (cI, 3, .inl ts)), (la, .inl (cI, 3, .inl tl))] sz) [(h, .inr (5, [.ref xa, .ref la, .int (nI (tn + 1))])), (xa, .inl (cI, 3, .inl u.1)), (la, .inl (cI, 3, .inl u.2))]) (va_A [(h, .inr (5, [.ref xa, .ref la, .int (nI tn)])), (xa, .inl (cI, 3, .inl ts)), (la, .inl (cI, 3, .inl tl))] sz)) 0 0 (va_A [(h, .inr (5, [.ref xa, .ref la, .int (nI tn)])), (xa, .inl (cI, 3, .inl ts)), (la, .inl (cI, 3, .inl tl))] sz) := by
  refine Met.ofW (cc := cX5_add) (maxL := 2) (ret := (some .int)) (by decide) rfl ?_
  intro p e s m args below meth c s₁ B hml hv
  obtain ⟨rfl, hsz, hP, hK, hNw, hD0⟩ := hv
  have hx := B.exec
  have hb := B.bytes
  have hr := B.returns
  have hts := atoms_spec (ws := wsX5_add) B.pre
  have hown : s.vm.findClass RX5 = some m.cls := findClass_of_methodNamed B.named
  have hlocks := B.notSynchronized
  have f11 := hts (.fieldLink RX5 11 "StruckThrees$Threes" "sets" "[I") (by decide +kernel)
  have f15 := hts (.fieldLink RX5 15 "StruckThrees$Threes" "left" "[I") (by decide +kernel)
  have f18 := hts (.fieldLink RX5 18 "StruckThrees$Threes" "count" "I") (by decide +kernel)
  have iX5 : ∀ w ∈ wsX50, w ∈ wsX5_add := by decide +kernel
  subst hsz
  have hD := hD0.self (sz := s.heap.size)
  generalize hAe : va_A [(h, .inr (5, [.ref xa, .ref la, .int (nI tn)])), (xa, .inl (cI, 3, .inl ts)), (la, .inl (cI, 3, .inl tl))] s.heap.size = A at hD ⊢
  have hA : ∀ q : Nat, s.heap.size ≤ q → A q := fun q h => by rw [← hAe]; exact Or.inr h
  have hS : va_S A s.heap s.heap [] := va_S.rf
  have hP : va_P D vwCl [(h, .inr (5, [.ref xa, .ref la, .int (nI tn)])), (xa, .inl (cI, 3, .inl ts)), (la, .inl (cI, 3, .inl tl))] s.heap := hP
  have hl := lv_entry ([.ref h, .int set]) (n := 2) (Nat.le_of_ble_eq_true rfl)
  rw [lg_entry_eq]
  generalize (lg_sl ([.ref h, .int set]) ++ List.replicate (2 - (lg_sl ([.ref h, .int set])).length) Slot.unset).toArray = ls at hl ⊢
  have hl : lv_has ls 2 [(0, .ref h), (1, .int set)] := hl
  refine lv_aload_n hx hb dX5_add_0 rfl (lv_at hl 0 rfl) ?_
  refine va_get (D := D) (ci := 5) (v := .int (nI tn)) (C := RX5) (T := TX5) (N := 3) hx hb hts iX5 hown hK hP 0 rfl rfl 2 (by decide) f18 (fun _ h9 => h9) rfl dX5_add_1 ?_
  refine lv_iconst (v := 3) hx hb dX5_add_4 (by decide) ?_
  refine lv_icmp_lt (tgt := 11) hx hb dX5_add_5 (by decide) (fun c5 => ?_) (fun c5 => ?_)
  · -- t5
    refine lv_aload_n hx hb dX5_add_11 rfl (lv_at hl 0 rfl) ?_
    refine va_get (D := D) (ci := 5) (v := .ref xa) (C := RX5) (T := TX5) (N := 3) hx hb hts iX5 hown hK hP 0 rfl rfl 0 (by decide) f11 (fun _ h9 => h9) rfl dX5_add_12 ?_
    refine lv_aload_n hx hb dX5_add_15 rfl (lv_at hl 0 rfl) ?_
    refine va_get (D := D) (ci := 5) (v := .int (nI tn)) (C := RX5) (T := TX5) (N := 3) hx hb hts iX5 hown hK hP 0 rfl rfl 2 (by decide) f18 (fun _ h9 => h9) rfl dX5_add_16 ?_
    refine lv_iload_n hx hb dX5_add_19 rfl (lv_at hl 1 rfl) ?_
    refine va_iast hx hb hK hP hD hS 1 0 rfl rfl (vp_in_nI (by omega) (by decide)) dX5_add_20 (fun H locs hP hD hS => ?_)
    rw [nI_clamp (n := tn) (by omega)] at hP hD
    have hP : va_P D vwCl [(h, .inr (5, [.ref xa, .ref la, .int (nI tn)])), (xa, .inl (cI, 3, .inl (upd ts tn set))), (la, .inl (cI, 3, .inl tl))] H := hP
    have hD : va_D A [(h, .inr (5, [.ref xa, .ref la, .int (nI tn)])), (xa, .inl (cI, 3, .inl (upd ts tn set))), (la, .inl (cI, 3, .inl tl))] := hD
    refine lv_aload_n hx hb dX5_add_21 rfl (lv_at hl 0 rfl) ?_
    refine va_get (D := D) (ci := 5) (v := .ref la) (C := RX5) (T := TX5) (N := 3) hx hb hts iX5 hown hK hP 0 rfl rfl 1 (by decide) f15 (fun _ h9 => h9) rfl dX5_add_22 ?_
    refine lv_aload_n hx hb dX5_add_25 rfl (lv_at hl 0 rfl) ?_
    refine va_get (D := D) (ci := 5) (v := .int (nI tn)) (C := RX5) (T := TX5) (N := 3) hx hb hts iX5 hown hK hP 0 rfl rfl 2 (by decide) f18 (fun _ h9 => h9) rfl dX5_add_26 ?_
    refine lv_iconst (v := 0) hx hb dX5_add_29 (by decide) ?_
    refine va_iast hx hb hK hP hD hS 2 0 rfl rfl (vp_in_nI (by omega) (by decide)) dX5_add_30 (fun H locs hP hD hS => ?_)
    rw [nI_clamp (n := tn) (by omega)] at hP hD
    have hP : va_P D vwCl [(h, .inr (5, [.ref xa, .ref la, .int (nI tn)])), (xa, .inl (cI, 3, .inl (upd ts tn set))), (la, .inl (cI, 3, .inl (upd tl tn 0)))] H := hP
    have hD : va_D A [(h, .inr (5, [.ref xa, .ref la, .int (nI tn)])), (xa, .inl (cI, 3, .inl (upd ts tn set))), (la, .inl (cI, 3, .inl (upd tl tn 0)))] := hD
    refine lv_aload_n hx hb dX5_add_31 rfl (lv_at hl 0 rfl) ?_
    refine lv_dup hx hb dX5_add_32 rfl ?_
    refine va_get (D := D) (ci := 5) (v := .int (nI tn)) (C := RX5) (T := TX5) (N := 3) hx hb hts iX5 hown hK hP 0 rfl rfl 2 (by decide) f18 (fun _ h9 => h9) rfl dX5_add_33 ?_
    refine lv_iconst (v := 1) hx hb dX5_add_36 (by decide) ?_
    refine lv_iadd hx hb dX5_add_37 ?_
    refine tp_i (y := nI (tn + 1)) (nI_1 _) ?_
    refine va_put (D := D) (ci := 5) (v := .int (nI (tn + 1))) (ty := .int) (C := RX5) (T := TX5) (N := 3) hx hb hts iX5 tyX5 tyX5_ok nmX5 hown hK hP hD hS 0 rfl rfl 2 (by decide) f18 (fun _ h9 => h9) rfl (by decide +kernel) rfl rfl (Nat.le_of_ble_eq_true rfl) dX5_add_38 (fun H locs hP hD hS => ?_)
    have hP : va_P D vwCl [(h, .inr (5, [.ref xa, .ref la, .int (nI (tn + 1))])), (xa, .inl (cI, 3, .inl (upd ts tn set))), (la, .inl (cI, 3, .inl (upd tl tn 0)))] H := hP
    have hD : va_D A [(h, .inr (5, [.ref xa, .ref la, .int (nI (tn + 1))])), (xa, .inl (cI, 3, .inl (upd ts tn set))), (la, .inl (cI, 3, .inl (upd tl tn 0)))] := hD
    refine lv_aload_n hx hb dX5_add_41 rfl (lv_at hl 0 rfl) ?_
    refine va_get (D := D) (ci := 5) (v := .int (nI (tn + 1))) (C := RX5) (T := TX5) (N := 3) hx hb hts iX5 hown hK hP 0 rfl rfl 2 (by decide) f18 (fun _ h9 => h9) rfl dX5_add_42 ?_
    refine lv_iconst (v := 1) hx hb dX5_add_45 (by decide) ?_
    refine lv_isub hx hb dX5_add_46 ?_
    exact W.iret (v := (nI (tn + 1)) - 1) hx hb hr (fun t ht hW => ⟨⟨_, (upd ts tn set, upd tl tn 0), rfl, by exact ⟨nI_pred _, rfl, rfl⟩, by rw [ht]; exact hP, va_K.moved hW.alike hK, hD⟩, hS.F ht⟩) hS.2.2 dX5_add_47
  · -- f5
    exact absurd (nI_lt (b := 3) hj (by decide)) c5

set_option maxHeartbeats 4000000 in
set_option maxRecDepth 100000 in
theorem c_X5_ringFor (l : Launch) (D : va_G) (cI cO : ClassId) (h : Nat) (xa : Nat) (la : Nat) (tn : Nat) (tl : Nat → Int32) (j : Nat) (v : Int32) (sz : Nat) (ht3 : tn ≤ 3) (hj : j < tn) : Met l yX5_ringFor wsX5_ringFor ({ frames := 1, cells := 0, slots := 0, locals := 21 } : Room) (va_Pc [.ref h, .int (nI j), .int v] (wdW D cI cO [(h, .inr (5, [.ref xa, .ref la, .int (nI tn)])), (la, .inl (cI, 3, .inl tl))] sz)) (va_Qv (S := (Nat → Int32)) (fun u => u = upd tl j v) (fun u t => va_P D vwCl [(h, .inr (5, [.ref xa, .ref la, .int (nI tn)])), (la, .inl (cI, 3, .inl u))] t.heap ∧ va_K D vwCl (tyL cI cO) t ∧ va_D (va_A [(h, .inr (5, [.ref xa, .ref la, .int (nI tn)])), (la, .inl (cI, 3, .inl tl))] sz) [(h, .inr (5, [.ref xa, .ref la, .int (nI tn)])), (la, .inl (cI, 3, .inl u))]) (va_A [(h, .inr (5, [.ref xa, .ref la, .int (nI tn)])), (la, .inl (cI, 3, .inl tl))] sz)) 0 0 (va_A [(h, .inr (5, [.ref xa, .ref la, .int (nI tn)])), (la, .inl (cI, 3, .inl tl))] sz) := by
  refine Met.ofW (cc := cX5_ringFor) (maxL := 3) (ret := none) (by decide) rfl ?_
  intro p e s m args below meth c s₁ B hml hv
  obtain ⟨rfl, hsz, hP, hK, hNw, hD0⟩ := hv
  have hx := B.exec
  have hb := B.bytes
  have hr := B.returns
  have hts := atoms_spec (ws := wsX5_ringFor) B.pre
  have hown : s.vm.findClass RX5 = some m.cls := findClass_of_methodNamed B.named
  have hlocks := B.notSynchronized
  have f15 := hts (.fieldLink RX5 15 "StruckThrees$Threes" "left" "[I") (by decide +kernel)
  have iX5 : ∀ w ∈ wsX50, w ∈ wsX5_ringFor := by decide +kernel
  subst hsz
  have hD := hD0.self (sz := s.heap.size)
  generalize hAe : va_A [(h, .inr (5, [.ref xa, .ref la, .int (nI tn)])), (la, .inl (cI, 3, .inl tl))] s.heap.size = A at hD ⊢
  have hA : ∀ q : Nat, s.heap.size ≤ q → A q := fun q h => by rw [← hAe]; exact Or.inr h
  have hS : va_S A s.heap s.heap [] := va_S.rf
  have hP : va_P D vwCl [(h, .inr (5, [.ref xa, .ref la, .int (nI tn)])), (la, .inl (cI, 3, .inl tl))] s.heap := hP
  have hl := lv_entry ([.ref h, .int (nI j), .int v]) (n := 3) (Nat.le_of_ble_eq_true rfl)
  rw [lg_entry_eq]
  generalize (lg_sl ([.ref h, .int (nI j), .int v]) ++ List.replicate (3 - (lg_sl ([.ref h, .int (nI j), .int v])).length) Slot.unset).toArray = ls at hl ⊢
  have hl : lv_has ls 3 [(0, .ref h), (1, .int (nI j)), (2, .int v)] := hl
  refine lv_aload_n hx hb dX5_ringFor_0 rfl (lv_at hl 0 rfl) ?_
  refine lv_iload_n hx hb dX5_ringFor_1 rfl (lv_at hl 1 rfl) ?_
  have hPc := hP.sub (ws' := [(h, .inr (5, [.ref xa, .ref la, .int (nI tn)]))]) [0] rfl
  refine vp_callSi (va_Run.run (va_runV (As := [.int (nI j)]) (rest := []) ⟨hx, hb, hml, hown, hts⟩ (c_X5_has l D cI cO h xa la tn (nI j)) (cwV 1 hts gX5_ringFor_X5_has rfl rfl rfl (by decide +kernel) ⟨Nat.le_of_ble_eq_true rfl, Nat.le_of_ble_eq_true rfl⟩) (preVR hPc hK hNw (va_recv hK hPc (ci := 5) (q0 := 0) rfl rfl)) rfl rfl hl.1 rfl (lv_room (Nat.le_of_ble_eq_true rfl)) dX5_ringFor_2 ⟨Nat.zero_le _, Nat.zero_le _⟩)) (fun r2 w2 => ?_)
  by_cases b2 : ¬ (nI j) < 0 ∧ ¬ nI tn ≤ (nI j)
  · -- y2
    obtain rfl := w2.1 b2
    refine lv_if_eq (tgt := 15) hx hb dX5_ringFor_5 (by decide) (fun h => absurd h (by decide)) (fun _ => ?_)
    refine lv_aload_n hx hb dX5_ringFor_8 rfl (lv_at hl 0 rfl) ?_
    refine va_get (D := D) (ci := 5) (v := .ref la) (C := RX5) (T := TX5) (N := 3) hx hb hts iX5 hown hK hP 0 rfl rfl 1 (by decide) f15 (fun _ h9 => h9) rfl dX5_ringFor_9 ?_
    refine lv_iload_n hx hb dX5_ringFor_12 rfl (lv_at hl 1 rfl) ?_
    refine lv_iload_n hx hb dX5_ringFor_13 rfl (lv_at hl 2 rfl) ?_
    refine va_iast hx hb hK hP hD hS 1 0 rfl rfl (vp_in_nI (by omega) (by decide)) dX5_ringFor_14 (fun H locs hP hD hS => ?_)
    rw [nI_clamp (n := j) (by omega)] at hP hD
    have hP : va_P D vwCl [(h, .inr (5, [.ref xa, .ref la, .int (nI tn)])), (la, .inl (cI, 3, .inl (upd tl j v)))] H := hP
    have hD : va_D A [(h, .inr (5, [.ref xa, .ref la, .int (nI tn)])), (la, .inl (cI, 3, .inl (upd tl j v)))] := hD
    exact W.vret hx hb hr (fun t ht hW => ⟨⟨(upd tl j v), rfl, by rfl, by rw [ht]; exact hP, va_K.moved hW.alike hK, hD⟩, hS.F ht⟩) hS.2.2 dX5_ringFor_15
  · -- n2
    obtain rfl := w2.2 b2
    exact absurd (nin_nI hj (by omega)) b2

set_option maxHeartbeats 4000000 in
set_option maxRecDepth 100000 in
theorem c_X5_goBy (l : Launch) (D : va_G) (cI cO : ClassId) (h : Nat) (xa : Nat) (la : Nat) (tn : Nat) (tl : Nat → Int32) (b : Int32) (sz : Nat) (ht3 : tn ≤ 3) : Met l yX5_goBy wsX5_goBy ({ frames := 1, cells := 0, slots := 0, locals := 21 } : Room) (va_Pc [.ref h, .int b] (wdW D cI cO [(h, .inr (5, [.ref xa, .ref la, .int (nI tn)])), (la, .inl (cI, 3, .inl tl))] sz)) (va_Qv (S := (Nat → Int32)) (fun u => u = goF tl b tn) (fun u t => va_P D vwCl [(h, .inr (5, [.ref xa, .ref la, .int (nI tn)])), (la, .inl (cI, 3, .inl u))] t.heap ∧ va_K D vwCl (tyL cI cO) t ∧ va_D (va_A [(h, .inr (5, [.ref xa, .ref la, .int (nI tn)])), (la, .inl (cI, 3, .inl tl))] sz) [(h, .inr (5, [.ref xa, .ref la, .int (nI tn)])), (la, .inl (cI, 3, .inl u))]) (va_A [(h, .inr (5, [.ref xa, .ref la, .int (nI tn)])), (la, .inl (cI, 3, .inl tl))] sz)) 0 0 (va_A [(h, .inr (5, [.ref xa, .ref la, .int (nI tn)])), (la, .inl (cI, 3, .inl tl))] sz) := by
  refine Met.ofW (cc := cX5_goBy) (maxL := 3) (ret := none) (by decide) rfl ?_
  intro p e s m args below meth c s₁ B hml hv
  obtain ⟨rfl, hsz, hP, hK, hNw, hD0⟩ := hv
  have hx := B.exec
  have hb := B.bytes
  have hr := B.returns
  have hts := atoms_spec (ws := wsX5_goBy) B.pre
  have hown : s.vm.findClass RX5 = some m.cls := findClass_of_methodNamed B.named
  have hlocks := B.notSynchronized
  have f15 := hts (.fieldLink RX5 15 "StruckThrees$Threes" "left" "[I") (by decide +kernel)
  have f18 := hts (.fieldLink RX5 18 "StruckThrees$Threes" "count" "I") (by decide +kernel)
  have iX5 : ∀ w ∈ wsX50, w ∈ wsX5_goBy := by decide +kernel
  subst hsz
  have hD := hD0.self (sz := s.heap.size)
  generalize hAe : va_A [(h, .inr (5, [.ref xa, .ref la, .int (nI tn)])), (la, .inl (cI, 3, .inl tl))] s.heap.size = A at hD ⊢
  have hA : ∀ q : Nat, s.heap.size ≤ q → A q := fun q h => by rw [← hAe]; exact Or.inr h
  have hS : va_S A s.heap s.heap [] := va_S.rf
  have hP : va_P D vwCl [(h, .inr (5, [.ref xa, .ref la, .int (nI tn)])), (la, .inl (cI, 3, .inl tl))] s.heap := hP
  have hl := lv_entry ([.ref h, .int b]) (n := 3) (Nat.le_of_ble_eq_true rfl)
  rw [lg_entry_eq]
  generalize (lg_sl ([.ref h, .int b]) ++ List.replicate (3 - (lg_sl ([.ref h, .int b])).length) Slot.unset).toArray = ls at hl ⊢
  have hl : lv_has ls 3 [(0, .ref h), (1, .int b)] := hl
  refine lv_iconst (v := 0) hx hb dX5_goBy_0 (by decide) ?_
  refine lv_istore_n (lv' := [(2, .int 0), (0, .ref h), (1, .int b)]) hx hb dX5_goBy_1 rfl hl (by decide) rfl (fun ls hl => ?_)
  have lp2 : ∀ (fu2 : Nat) (i : Nat) (hi : i ≤ tn) (hm2 : tn - i < fu2) (H : Heap) (locs : List Loc) (hP : va_P D vwCl [(h, .inr (5, [.ref xa, .ref la, .int (nI tn)])), (la, .inl (cI, 3, .inl (goF tl b i)))] H) (hD : va_D A [(h, .inr (5, [.ref xa, .ref la, .int (nI tn)])), (la, .inl (cI, 3, .inl (goF tl b i)))]) (hS : va_S A s.heap H locs) (ls : Array Slot) (hl : lv_has ls 3 [(0, .ref h), (1, .int b), (2, .int (nI i))]), W p l e (headSpec wsX5_goBy ({ frames := 1, cells := 0, slots := 0, locals := 21 } : Room)).room s m ([.ref h, .int b]).toArray below meth c H locs 0 0 (MQ below (va_Qv (S := (Nat → Int32)) (fun u => u = goF tl b tn) (fun u t => va_P D vwCl [(h, .inr (5, [.ref xa, .ref la, .int (nI tn)])), (la, .inl (cI, 3, .inl u))] t.heap ∧ va_K D vwCl (tyL cI cO) t ∧ va_D A [(h, .inr (5, [.ref xa, .ref la, .int (nI tn)])), (la, .inl (cI, 3, .inl u))]) A) ([.ref h, .int b]).toArray s 0 0 A) (F0 m 2 ls []) := by
    intro fu2
    induction fu2 with
    | zero =>
      intros; omega
    | succ fu2 ih2 =>
      intro i hi hm2 H locs hP hD hS ls hl
      refine lv_iload_n hx hb dX5_goBy_2 rfl (lv_at hl 2 rfl) ?_
      refine lv_aload_n hx hb dX5_goBy_3 rfl (lv_at hl 0 rfl) ?_
      refine va_get (D := D) (ci := 5) (v := .int (nI tn)) (C := RX5) (T := TX5) (N := 3) hx hb hts iX5 hown hK hP 0 rfl rfl 2 (by decide) f18 (fun _ h9 => h9) rfl dX5_goBy_4 ?_
      refine lv_icmp_ge (tgt := 34) hx hb dX5_goBy_7 (by decide) (fun c7 => ?_) (fun c7 => ?_)
      · -- t7
        have e7 : i = tn := by have q := ge_n (by omega) (by omega) c7; omega
        rw [e7] at hl
        rw [e7] at hP hD
        exact W.vret hx hb hr (fun t ht hW => ⟨⟨(goF tl b tn), rfl, by rfl, by rw [ht]; exact hP, va_K.moved hW.alike hK, hD⟩, hS.F ht⟩) hS.2.2 dX5_goBy_34
      · -- f7
        have l7 : i < tn := lt_n (by omega) (by omega) c7
        refine lv_aload_n hx hb dX5_goBy_10 rfl (lv_at hl 0 rfl) ?_
        refine va_get (D := D) (ci := 5) (v := .ref la) (C := RX5) (T := TX5) (N := 3) hx hb hts iX5 hown hK hP 0 rfl rfl 1 (by decide) f15 (fun _ h9 => h9) rfl dX5_goBy_11 ?_
        refine lv_iload_n hx hb dX5_goBy_14 rfl (lv_at hl 2 rfl) ?_
        refine lv_iconst (v := 0) hx hb dX5_goBy_15 (by decide) ?_
        refine lv_aload_n hx hb dX5_goBy_16 rfl (lv_at hl 0 rfl) ?_
        refine va_get (D := D) (ci := 5) (v := .ref la) (C := RX5) (T := TX5) (N := 3) hx hb hts iX5 hown hK hP 0 rfl rfl 1 (by decide) f15 (fun _ h9 => h9) rfl dX5_goBy_17 ?_
        refine lv_iload_n hx hb dX5_goBy_20 rfl (lv_at hl 2 rfl) ?_
        refine va_iald hx hb hK hP 1 0 rfl rfl (vp_in_nI (by omega) (by decide)) dX5_goBy_21 ?_
        refine tp_i (y := (goF tl b i) i) (by rw [nI_clamp (n := i) (by omega)]) ?_
        refine lv_iload_n hx hb dX5_goBy_22 rfl (lv_at hl 1 rfl) ?_
        refine lv_isub hx hb dX5_goBy_23 ?_
        refine va_mmax hx hb (hml.trans hl.1.symm) hown (hts (.methodLink RX5 26 Lib.Math.max.name) (by decide +kernel)) (hts (.static Lib.Math.max.name) (by decide +kernel)) (hts (.initialized "java/lang/Math") (by decide +kernel)) (hts (.code Lib.Math.max.name Lib.Math.max.code 2 (some .int)) (by decide +kernel)) (Nat.le_of_ble_eq_true rfl) (Nat.le_of_ble_eq_true rfl) (Nat.zero_le _) (Nat.zero_le _) dX5_goBy_24 ?_
        refine va_iast hx hb hK hP hD hS 1 0 rfl rfl (vp_in_nI (by omega) (by decide)) dX5_goBy_27 (fun H locs hP hD hS => ?_)
        rw [nI_clamp (n := i) (by omega)] at hP hD
        have hP : va_P D vwCl [(h, .inr (5, [.ref xa, .ref la, .int (nI tn)])), (la, .inl (cI, 3, .inl (upd (goF tl b i) i (if 0 < (((goF tl b i) i) - b) then (((goF tl b i) i) - b) else 0))))] H := hP
        have hD : va_D A [(h, .inr (5, [.ref xa, .ref la, .int (nI tn)])), (la, .inl (cI, 3, .inl (upd (goF tl b i) i (if 0 < (((goF tl b i) i) - b) then (((goF tl b i) i) - b) else 0))))] := hD
        refine lv_iinc (v := nI (i + 1)) (lv' := [(2, .int (nI (i + 1))), (0, .ref h), (1, .int b)]) hx hb dX5_goBy_28 hl (k := 2) rfl (nI_1 _) (by decide) rfl (fun ls hl => ?_)
        refine lv_goto (tgt := 2) hx hb dX5_goBy_31 (by decide) ?_
        have ew2_1_0 : upd (goF tl b i) i (if 0 < (((goF tl b i) i) - b) then (((goF tl b i) i) - b) else 0) = goF tl b (i + 1) := by exact goF_s tl b i
        have hP : va_P D vwCl [(h, .inr (5, [.ref xa, .ref la, .int (nI tn)])), (la, .inl (cI, 3, .inl (goF tl b (i + 1))))] H := by rw [← ew2_1_0]; exact hP
        have hD : va_D A [(h, .inr (5, [.ref xa, .ref la, .int (nI tn)])), (la, .inl (cI, 3, .inl (goF tl b (i + 1))))] := by rw [← ew2_1_0]; exact hD
        exact ih2 (i + 1) (by omega) (by omega) _ _ hP hD hS _ (lv_sub hl [1, 2, 0] rfl)
  have ew2_1_0 : tl = goF tl b 0 := by exact (goF_0 tl b).symm
  have hP : va_P D vwCl [(h, .inr (5, [.ref xa, .ref la, .int (nI tn)])), (la, .inl (cI, 3, .inl (goF tl b 0)))] s.heap := by rw [← ew2_1_0]; exact hP
  have hD : va_D A [(h, .inr (5, [.ref xa, .ref la, .int (nI tn)])), (la, .inl (cI, 3, .inl (goF tl b 0)))] := by rw [← ew2_1_0]; exact hD
  exact lp2 _ 0 (Nat.zero_le _) (Nat.lt_succ_self _) _ _ hP hD hS _ (lv_sub hl [1, 2, 0] rfl)

set_option maxHeartbeats 4000000 in
set_option maxRecDepth 100000 in
theorem c_X5_drop (l : Launch) (D : va_G) (cI cO : ClassId) (h : Nat) (xa : Nat) (la : Nat) (tn : Nat) (ts : Nat → Int32) (tl : Nat → Int32) (j : Nat) (sz : Nat) (ht3 : tn ≤ 3) (hj : j < tn) : Met l yX5_drop wsX5_drop ({ frames := 1, cells := 0, slots := 0, locals := 21 } : Room) (va_Pc [.ref h, .int (nI j)] (wdW D cI cO [(h, .inr (5, [.ref xa, .ref la, .int (nI tn)])), (xa, .inl (cI, 3, .inl ts)), (la, .inl (cI, 3, .inl tl))] sz)) (va_Qv (S := (Nat → Int32) × (Nat → Int32)) (fun u => u.1 = shF ts j tn ∧ u.2 = shF tl j tn) (fun u t => va_P D vwCl [(h, .inr (5, [.ref xa, .ref la, .int (nI (tn - 1))])), (xa, .inl (cI, 3, .inl u.1)), (la, .inl (cI, 3, .inl u.2))] t.heap ∧ va_K D vwCl (tyL cI cO) t ∧ va_D (va_A [(h, .inr (5, [.ref xa, .ref la, .int (nI tn)])), (xa, .inl (cI, 3, .inl ts)), (la, .inl (cI, 3, .inl tl))] sz) [(h, .inr (5, [.ref xa, .ref la, .int (nI (tn - 1))])), (xa, .inl (cI, 3, .inl u.1)), (la, .inl (cI, 3, .inl u.2))]) (va_A [(h, .inr (5, [.ref xa, .ref la, .int (nI tn)])), (xa, .inl (cI, 3, .inl ts)), (la, .inl (cI, 3, .inl tl))] sz)) 0 0 (va_A [(h, .inr (5, [.ref xa, .ref la, .int (nI tn)])), (xa, .inl (cI, 3, .inl ts)), (la, .inl (cI, 3, .inl tl))] sz) := by
  refine Met.ofW (cc := cX5_drop) (maxL := 3) (ret := none) (by decide) rfl ?_
  intro p e s m args below meth c s₁ B hml hv
  obtain ⟨rfl, hsz, hP, hK, hNw, hD0⟩ := hv
  have hx := B.exec
  have hb := B.bytes
  have hr := B.returns
  have hts := atoms_spec (ws := wsX5_drop) B.pre
  have hown : s.vm.findClass RX5 = some m.cls := findClass_of_methodNamed B.named
  have hlocks := B.notSynchronized
  have f11 := hts (.fieldLink RX5 11 "StruckThrees$Threes" "sets" "[I") (by decide +kernel)
  have f15 := hts (.fieldLink RX5 15 "StruckThrees$Threes" "left" "[I") (by decide +kernel)
  have f18 := hts (.fieldLink RX5 18 "StruckThrees$Threes" "count" "I") (by decide +kernel)
  have iX5 : ∀ w ∈ wsX50, w ∈ wsX5_drop := by decide +kernel
  subst hsz
  have hD := hD0.self (sz := s.heap.size)
  generalize hAe : va_A [(h, .inr (5, [.ref xa, .ref la, .int (nI tn)])), (xa, .inl (cI, 3, .inl ts)), (la, .inl (cI, 3, .inl tl))] s.heap.size = A at hD ⊢
  have hA : ∀ q : Nat, s.heap.size ≤ q → A q := fun q h => by rw [← hAe]; exact Or.inr h
  have hS : va_S A s.heap s.heap [] := va_S.rf
  have hP : va_P D vwCl [(h, .inr (5, [.ref xa, .ref la, .int (nI tn)])), (xa, .inl (cI, 3, .inl ts)), (la, .inl (cI, 3, .inl tl))] s.heap := hP
  have hl := lv_entry ([.ref h, .int (nI j)]) (n := 3) (Nat.le_of_ble_eq_true rfl)
  rw [lg_entry_eq]
  generalize (lg_sl ([.ref h, .int (nI j)]) ++ List.replicate (3 - (lg_sl ([.ref h, .int (nI j)])).length) Slot.unset).toArray = ls at hl ⊢
  have hl : lv_has ls 3 [(0, .ref h), (1, .int (nI j))] := hl
  refine lv_aload_n hx hb dX5_drop_0 rfl (lv_at hl 0 rfl) ?_
  refine lv_iload_n hx hb dX5_drop_1 rfl (lv_at hl 1 rfl) ?_
  have hPc := hP.sub (ws' := [(h, .inr (5, [.ref xa, .ref la, .int (nI tn)]))]) [0] rfl
  refine vp_callSi (va_Run.run (va_runV (As := [.int (nI j)]) (rest := []) ⟨hx, hb, hml, hown, hts⟩ (c_X5_has l D cI cO h xa la tn (nI j)) (cwV 1 hts gX5_drop_X5_has rfl rfl rfl (by decide +kernel) ⟨Nat.le_of_ble_eq_true rfl, Nat.le_of_ble_eq_true rfl⟩) (preVR hPc hK hNw (va_recv hK hPc (ci := 5) (q0 := 0) rfl rfl)) rfl rfl hl.1 rfl (lv_room (Nat.le_of_ble_eq_true rfl)) dX5_drop_2 ⟨Nat.zero_le _, Nat.zero_le _⟩)) (fun r2 w2 => ?_)
  by_cases b2 : ¬ (nI j) < 0 ∧ ¬ nI tn ≤ (nI j)
  · -- y2
    obtain rfl := w2.1 b2
    refine lv_if_ne (tgt := 9) hx hb dX5_drop_5 (by decide) (fun _ => ?_) (fun h => absurd h (by decide))
    refine lv_iload_n hx hb dX5_drop_9 rfl (lv_at hl 1 rfl) ?_
    refine lv_istore_n (lv' := [(2, .int (nI j)), (0, .ref h), (1, .int (nI j))]) hx hb dX5_drop_10 rfl hl (by decide) rfl (fun ls hl => ?_)
    have lp11 : ∀ (fu11 : Nat) (i : Nat) (hi : i + 1 ≤ tn) (hji : j ≤ i) (hm11 : tn - i < fu11) (H : Heap) (locs : List Loc) (hP : va_P D vwCl [(h, .inr (5, [.ref xa, .ref la, .int (nI tn)])), (xa, .inl (cI, 3, .inl (shF ts j (i + 1)))), (la, .inl (cI, 3, .inl (shF tl j (i + 1))))] H) (hD : va_D A [(h, .inr (5, [.ref xa, .ref la, .int (nI tn)])), (xa, .inl (cI, 3, .inl (shF ts j (i + 1)))), (la, .inl (cI, 3, .inl (shF tl j (i + 1))))]) (hS : va_S A s.heap H locs) (ls : Array Slot) (hl : lv_has ls 3 [(0, .ref h), (2, .int (nI i))]), W p l e (headSpec wsX5_drop ({ frames := 1, cells := 0, slots := 0, locals := 21 } : Room)).room s m ([.ref h, .int (nI j)]).toArray below meth c H locs 0 0 (MQ below (va_Qv (S := (Nat → Int32) × (Nat → Int32)) (fun u => u.1 = shF ts j tn ∧ u.2 = shF tl j tn) (fun u t => va_P D vwCl [(h, .inr (5, [.ref xa, .ref la, .int (nI (tn - 1))])), (xa, .inl (cI, 3, .inl u.1)), (la, .inl (cI, 3, .inl u.2))] t.heap ∧ va_K D vwCl (tyL cI cO) t ∧ va_D A [(h, .inr (5, [.ref xa, .ref la, .int (nI (tn - 1))])), (xa, .inl (cI, 3, .inl u.1)), (la, .inl (cI, 3, .inl u.2))]) A) ([.ref h, .int (nI j)]).toArray s 0 0 A) (F0 m 11 ls []) := by
      intro fu11
      induction fu11 with
      | zero =>
        intros; omega
      | succ fu11 ih11 =>
        intro i hi hji hm11 H locs hP hD hS ls hl
        refine lv_iload_n hx hb dX5_drop_11 rfl (lv_at hl 1 rfl) ?_
        refine lv_iconst (v := 1) hx hb dX5_drop_12 (by decide) ?_
        refine lv_iadd hx hb dX5_drop_13 ?_
        refine tp_i (y := nI (i + 1)) (nI_1 _) ?_
        refine lv_aload_n hx hb dX5_drop_14 rfl (lv_at hl 0 rfl) ?_
        refine va_get (D := D) (ci := 5) (v := .int (nI tn)) (C := RX5) (T := TX5) (N := 3) hx hb hts iX5 hown hK hP 0 rfl rfl 2 (by decide) f18 (fun _ h9 => h9) rfl dX5_drop_15 ?_
        refine lv_icmp_ge (tgt := 55) hx hb dX5_drop_18 (by decide) (fun c18 => ?_) (fun c18 => ?_)
        · -- t18
          have e18 : i + 1 = tn := by have q := ge_n (by omega) (by omega) c18; omega
          rw [e18] at hP hD
          refine lv_aload_n hx hb dX5_drop_55 rfl (lv_at hl 0 rfl) ?_
          refine lv_dup hx hb dX5_drop_56 rfl ?_
          refine va_get (D := D) (ci := 5) (v := .int (nI tn)) (C := RX5) (T := TX5) (N := 3) hx hb hts iX5 hown hK hP 0 rfl rfl 2 (by decide) f18 (fun _ h9 => h9) rfl dX5_drop_57 ?_
          refine lv_iconst (v := 1) hx hb dX5_drop_60 (by decide) ?_
          refine lv_isub hx hb dX5_drop_61 ?_
          refine tp_i (y := nI (tn - 1)) ((pk_sub (b := 1) (by omega))) ?_
          refine va_put (D := D) (ci := 5) (v := .int (nI (tn - 1))) (ty := .int) (C := RX5) (T := TX5) (N := 3) hx hb hts iX5 tyX5 tyX5_ok nmX5 hown hK hP hD hS 0 rfl rfl 2 (by decide) f18 (fun _ h9 => h9) rfl (by decide +kernel) rfl rfl (Nat.le_of_ble_eq_true rfl) dX5_drop_62 (fun H locs hP hD hS => ?_)
          have hP : va_P D vwCl [(h, .inr (5, [.ref xa, .ref la, .int (nI (tn - 1))])), (xa, .inl (cI, 3, .inl (shF ts j tn))), (la, .inl (cI, 3, .inl (shF tl j tn)))] H := hP
          have hD : va_D A [(h, .inr (5, [.ref xa, .ref la, .int (nI (tn - 1))])), (xa, .inl (cI, 3, .inl (shF ts j tn))), (la, .inl (cI, 3, .inl (shF tl j tn)))] := hD
          exact W.vret hx hb hr (fun t ht hW => ⟨⟨(shF ts j tn, shF tl j tn), rfl, by exact ⟨rfl, rfl⟩, by rw [ht]; exact hP, va_K.moved hW.alike hK, hD⟩, hS.F ht⟩) hS.2.2 dX5_drop_65
        · -- f18
          have l18 : i + 1 < tn := lt_n (by omega) (by omega) c18
          refine lv_aload_n hx hb dX5_drop_21 rfl (lv_at hl 0 rfl) ?_
          refine va_get (D := D) (ci := 5) (v := .ref xa) (C := RX5) (T := TX5) (N := 3) hx hb hts iX5 hown hK hP 0 rfl rfl 0 (by decide) f11 (fun _ h9 => h9) rfl dX5_drop_22 ?_
          refine lv_iload_n hx hb dX5_drop_25 rfl (lv_at hl 1 rfl) ?_
          refine lv_aload_n hx hb dX5_drop_26 rfl (lv_at hl 0 rfl) ?_
          refine va_get (D := D) (ci := 5) (v := .ref xa) (C := RX5) (T := TX5) (N := 3) hx hb hts iX5 hown hK hP 0 rfl rfl 0 (by decide) f11 (fun _ h9 => h9) rfl dX5_drop_27 ?_
          refine lv_iload_n hx hb dX5_drop_30 rfl (lv_at hl 1 rfl) ?_
          refine lv_iconst (v := 1) hx hb dX5_drop_31 (by decide) ?_
          refine lv_iadd hx hb dX5_drop_32 ?_
          refine tp_i (y := nI (i + 1)) (nI_1 _) ?_
          refine va_iald hx hb hK hP 1 0 rfl rfl (vp_in_nI (by omega) (by decide)) dX5_drop_33 ?_
          refine tp_i (y := (shF ts j (i + 1)) (i + 1)) (by rw [nI_clamp (n := (i + 1)) (by omega)]) ?_
          refine va_iast hx hb hK hP hD hS 1 0 rfl rfl (vp_in_nI (by omega) (by decide)) dX5_drop_34 (fun H locs hP hD hS => ?_)
          rw [nI_clamp (n := i) (by omega)] at hP hD
          have hP : va_P D vwCl [(h, .inr (5, [.ref xa, .ref la, .int (nI tn)])), (xa, .inl (cI, 3, .inl (upd (shF ts j (i + 1)) i ((shF ts j (i + 1)) (i + 1))))), (la, .inl (cI, 3, .inl (shF tl j (i + 1))))] H := hP
          have hD : va_D A [(h, .inr (5, [.ref xa, .ref la, .int (nI tn)])), (xa, .inl (cI, 3, .inl (upd (shF ts j (i + 1)) i ((shF ts j (i + 1)) (i + 1))))), (la, .inl (cI, 3, .inl (shF tl j (i + 1))))] := hD
          refine lv_aload_n hx hb dX5_drop_35 rfl (lv_at hl 0 rfl) ?_
          refine va_get (D := D) (ci := 5) (v := .ref la) (C := RX5) (T := TX5) (N := 3) hx hb hts iX5 hown hK hP 0 rfl rfl 1 (by decide) f15 (fun _ h9 => h9) rfl dX5_drop_36 ?_
          refine lv_iload_n hx hb dX5_drop_39 rfl (lv_at hl 1 rfl) ?_
          refine lv_aload_n hx hb dX5_drop_40 rfl (lv_at hl 0 rfl) ?_
          refine va_get (D := D) (ci := 5) (v := .ref la) (C := RX5) (T := TX5) (N := 3) hx hb hts iX5 hown hK hP 0 rfl rfl 1 (by decide) f15 (fun _ h9 => h9) rfl dX5_drop_41 ?_
          refine lv_iload_n hx hb dX5_drop_44 rfl (lv_at hl 1 rfl) ?_
          refine lv_iconst (v := 1) hx hb dX5_drop_45 (by decide) ?_
          refine lv_iadd hx hb dX5_drop_46 ?_
          refine tp_i (y := nI (i + 1)) (nI_1 _) ?_
          refine va_iald hx hb hK hP 2 0 rfl rfl (vp_in_nI (by omega) (by decide)) dX5_drop_47 ?_
          refine tp_i (y := (shF tl j (i + 1)) (i + 1)) (by rw [nI_clamp (n := (i + 1)) (by omega)]) ?_
          refine va_iast hx hb hK hP hD hS 2 0 rfl rfl (vp_in_nI (by omega) (by decide)) dX5_drop_48 (fun H locs hP hD hS => ?_)
          rw [nI_clamp (n := i) (by omega)] at hP hD
          have hP : va_P D vwCl [(h, .inr (5, [.ref xa, .ref la, .int (nI tn)])), (xa, .inl (cI, 3, .inl (upd (shF ts j (i + 1)) i ((shF ts j (i + 1)) (i + 1))))), (la, .inl (cI, 3, .inl (upd (shF tl j (i + 1)) i ((shF tl j (i + 1)) (i + 1)))))] H := hP
          have hD : va_D A [(h, .inr (5, [.ref xa, .ref la, .int (nI tn)])), (xa, .inl (cI, 3, .inl (upd (shF ts j (i + 1)) i ((shF ts j (i + 1)) (i + 1))))), (la, .inl (cI, 3, .inl (upd (shF tl j (i + 1)) i ((shF tl j (i + 1)) (i + 1)))))] := hD
          refine lv_iinc (v := nI (i + 1)) (lv' := [(2, .int (nI (i + 1))), (0, .ref h)]) hx hb dX5_drop_49 hl (k := 1) rfl (nI_1 _) (by decide) rfl (fun ls hl => ?_)
          refine lv_goto (tgt := 11) hx hb dX5_drop_52 (by decide) ?_
          have ew11_1_0 : upd (shF ts j (i + 1)) i ((shF ts j (i + 1)) (i + 1)) = shF ts j ((i + 1) + 1) := by exact shF_s ts hji
          have hP : va_P D vwCl [(h, .inr (5, [.ref xa, .ref la, .int (nI tn)])), (xa, .inl (cI, 3, .inl (shF ts j ((i + 1) + 1)))), (la, .inl (cI, 3, .inl (upd (shF tl j (i + 1)) i ((shF tl j (i + 1)) (i + 1)))))] H := by rw [← ew11_1_0]; exact hP
          have hD : va_D A [(h, .inr (5, [.ref xa, .ref la, .int (nI tn)])), (xa, .inl (cI, 3, .inl (shF ts j ((i + 1) + 1)))), (la, .inl (cI, 3, .inl (upd (shF tl j (i + 1)) i ((shF tl j (i + 1)) (i + 1)))))] := by rw [← ew11_1_0]; exact hD
          have ew11_2_0 : upd (shF tl j (i + 1)) i ((shF tl j (i + 1)) (i + 1)) = shF tl j ((i + 1) + 1) := by exact shF_s tl hji
          have hP : va_P D vwCl [(h, .inr (5, [.ref xa, .ref la, .int (nI tn)])), (xa, .inl (cI, 3, .inl (shF ts j ((i + 1) + 1)))), (la, .inl (cI, 3, .inl (shF tl j ((i + 1) + 1))))] H := by rw [← ew11_2_0]; exact hP
          have hD : va_D A [(h, .inr (5, [.ref xa, .ref la, .int (nI tn)])), (xa, .inl (cI, 3, .inl (shF ts j ((i + 1) + 1)))), (la, .inl (cI, 3, .inl (shF tl j ((i + 1) + 1))))] := by rw [← ew11_2_0]; exact hD
          exact ih11 (i + 1) (by omega) (by omega) (by omega) _ _ hP hD hS _ (lv_sub hl [1, 0] rfl)
    have ew11_1_0 : ts = shF ts j (j + 1) := by exact (shF_0 ts j).symm
    have hP : va_P D vwCl [(h, .inr (5, [.ref xa, .ref la, .int (nI tn)])), (xa, .inl (cI, 3, .inl (shF ts j (j + 1)))), (la, .inl (cI, 3, .inl tl))] s.heap := by rw [← ew11_1_0]; exact hP
    have hD : va_D A [(h, .inr (5, [.ref xa, .ref la, .int (nI tn)])), (xa, .inl (cI, 3, .inl (shF ts j (j + 1)))), (la, .inl (cI, 3, .inl tl))] := by rw [← ew11_1_0]; exact hD
    have ew11_2_0 : tl = shF tl j (j + 1) := by exact (shF_0 tl j).symm
    have hP : va_P D vwCl [(h, .inr (5, [.ref xa, .ref la, .int (nI tn)])), (xa, .inl (cI, 3, .inl (shF ts j (j + 1)))), (la, .inl (cI, 3, .inl (shF tl j (j + 1))))] s.heap := by rw [← ew11_2_0]; exact hP
    have hD : va_D A [(h, .inr (5, [.ref xa, .ref la, .int (nI tn)])), (xa, .inl (cI, 3, .inl (shF ts j (j + 1)))), (la, .inl (cI, 3, .inl (shF tl j (j + 1))))] := by rw [← ew11_2_0]; exact hD
    exact lp11 _ j (by omega) (Nat.le_refl _) (Nat.lt_succ_self _) _ _ hP hD hS _ (lv_sub hl [1, 0] rfl)
  · -- n2
    obtain rfl := w2.2 b2
    exact absurd (nin_nI hj (by omega)) b2

set_option maxHeartbeats 4000000 in
set_option maxRecDepth 100000 in
theorem c_X5_become (l : Launch) (D : va_G) (cI cO : ClassId) (h : Nat) (xa : Nat) (la : Nat) (tn : Nat) (ts : Nat → Int32) (tl : Nat → Int32) (o : Nat) (xb : Nat) (lb : Nat) (un : Nat) (us : Nat → Int32) (ul : Nat → Int32) (sz : Nat) : Met l yX5_become wsX5_become ({ frames := 0, cells := 0, slots := 0, locals := 0 } : Room) (va_Pc [.ref h, .ref o] (wdW D cI cO [(h, .inr (5, [.ref xa, .ref la, .int (nI tn)])), (xa, .inl (cI, 3, .inl ts)), (la, .inl (cI, 3, .inl tl)), (o, .inr (5, [.ref xb, .ref lb, .int (nI un)])), (xb, .inl (cI, 3, .inl us)), (lb, .inl (cI, 3, .inl ul))] sz)) (va_Qv (S := (Nat → Int32) × (Nat → Int32)) (fun u => u.1 = cpF us ts 3 ∧ u.2 = cpF ul tl 3) (fun u t => va_P D vwCl [(h, .inr (5, [.ref xa, .ref la, .int (nI un)])), (xa, .inl (cI, 3, .inl u.1)), (la, .inl (cI, 3, .inl u.2)), (o, .inr (5, [.ref xb, .ref lb, .int (nI un)])), (xb, .inl (cI, 3, .inl us)), (lb, .inl (cI, 3, .inl ul))] t.heap ∧ va_K D vwCl (tyL cI cO) t ∧ va_D (va_A [(h, .inr (5, [.ref xa, .ref la, .int (nI tn)])), (xa, .inl (cI, 3, .inl ts)), (la, .inl (cI, 3, .inl tl)), (o, .inr (5, [.ref xb, .ref lb, .int (nI un)])), (xb, .inl (cI, 3, .inl us)), (lb, .inl (cI, 3, .inl ul))] sz) [(h, .inr (5, [.ref xa, .ref la, .int (nI un)])), (xa, .inl (cI, 3, .inl u.1)), (la, .inl (cI, 3, .inl u.2)), (o, .inr (5, [.ref xb, .ref lb, .int (nI un)])), (xb, .inl (cI, 3, .inl us)), (lb, .inl (cI, 3, .inl ul))]) (va_A [(h, .inr (5, [.ref xa, .ref la, .int (nI tn)])), (xa, .inl (cI, 3, .inl ts)), (la, .inl (cI, 3, .inl tl)), (o, .inr (5, [.ref xb, .ref lb, .int (nI un)])), (xb, .inl (cI, 3, .inl us)), (lb, .inl (cI, 3, .inl ul))] sz)) 0 0 (va_A [(h, .inr (5, [.ref xa, .ref la, .int (nI tn)])), (xa, .inl (cI, 3, .inl ts)), (la, .inl (cI, 3, .inl tl)), (o, .inr (5, [.ref xb, .ref lb, .int (nI un)])), (xb, .inl (cI, 3, .inl us)), (lb, .inl (cI, 3, .inl ul))] sz) := by
  refine Met.ofW (cc := cX5_become) (maxL := 3) (ret := none) (by decide) rfl ?_
  intro p e s m args below meth c s₁ B hml hv
  obtain ⟨rfl, hsz, hP, hK, hNw, hD0⟩ := hv
  have hx := B.exec
  have hb := B.bytes
  have hr := B.returns
  have hts := atoms_spec (ws := wsX5_become) B.pre
  have hown : s.vm.findClass RX5 = some m.cls := findClass_of_methodNamed B.named
  have hlocks := B.notSynchronized
  have f11 := hts (.fieldLink RX5 11 "StruckThrees$Threes" "sets" "[I") (by decide +kernel)
  have f15 := hts (.fieldLink RX5 15 "StruckThrees$Threes" "left" "[I") (by decide +kernel)
  have f18 := hts (.fieldLink RX5 18 "StruckThrees$Threes" "count" "I") (by decide +kernel)
  have iX5 : ∀ w ∈ wsX50, w ∈ wsX5_become := by decide +kernel
  subst hsz
  have hD := hD0.self (sz := s.heap.size)
  generalize hAe : va_A [(h, .inr (5, [.ref xa, .ref la, .int (nI tn)])), (xa, .inl (cI, 3, .inl ts)), (la, .inl (cI, 3, .inl tl)), (o, .inr (5, [.ref xb, .ref lb, .int (nI un)])), (xb, .inl (cI, 3, .inl us)), (lb, .inl (cI, 3, .inl ul))] s.heap.size = A at hD ⊢
  have hA : ∀ q : Nat, s.heap.size ≤ q → A q := fun q h => by rw [← hAe]; exact Or.inr h
  have hS : va_S A s.heap s.heap [] := va_S.rf
  have hP : va_P D vwCl [(h, .inr (5, [.ref xa, .ref la, .int (nI tn)])), (xa, .inl (cI, 3, .inl ts)), (la, .inl (cI, 3, .inl tl)), (o, .inr (5, [.ref xb, .ref lb, .int (nI un)])), (xb, .inl (cI, 3, .inl us)), (lb, .inl (cI, 3, .inl ul))] s.heap := hP
  have hl := lv_entry ([.ref h, .ref o]) (n := 3) (Nat.le_of_ble_eq_true rfl)
  rw [lg_entry_eq]
  generalize (lg_sl ([.ref h, .ref o]) ++ List.replicate (3 - (lg_sl ([.ref h, .ref o])).length) Slot.unset).toArray = ls at hl ⊢
  have hl : lv_has ls 3 [(0, .ref h), (1, .ref o)] := hl
  refine lv_aload_n hx hb dX5_become_0 rfl (lv_at hl 0 rfl) ?_
  refine lv_aload_n hx hb dX5_become_1 rfl (lv_at hl 1 rfl) ?_
  refine va_get (D := D) (ci := 5) (v := .int (nI un)) (C := RX5) (T := TX5) (N := 3) hx hb hts iX5 hown hK hP 3 rfl rfl 2 (by decide) f18 (fun _ h9 => h9) rfl dX5_become_2 ?_
  refine va_put (D := D) (ci := 5) (v := .int (nI un)) (ty := .int) (C := RX5) (T := TX5) (N := 3) hx hb hts iX5 tyX5 tyX5_ok nmX5 hown hK hP hD hS 0 rfl rfl 2 (by decide) f18 (fun _ h9 => h9) rfl (by decide +kernel) rfl rfl (Nat.le_of_ble_eq_true rfl) dX5_become_5 (fun H locs hP hD hS => ?_)
  have hP : va_P D vwCl [(h, .inr (5, [.ref xa, .ref la, .int (nI un)])), (xa, .inl (cI, 3, .inl ts)), (la, .inl (cI, 3, .inl tl)), (o, .inr (5, [.ref xb, .ref lb, .int (nI un)])), (xb, .inl (cI, 3, .inl us)), (lb, .inl (cI, 3, .inl ul))] H := hP
  have hD : va_D A [(h, .inr (5, [.ref xa, .ref la, .int (nI un)])), (xa, .inl (cI, 3, .inl ts)), (la, .inl (cI, 3, .inl tl)), (o, .inr (5, [.ref xb, .ref lb, .int (nI un)])), (xb, .inl (cI, 3, .inl us)), (lb, .inl (cI, 3, .inl ul))] := hD
  refine lv_iconst (v := 0) hx hb dX5_become_8 (by decide) ?_
  refine lv_istore_n (lv' := [(2, .int 0), (0, .ref h), (1, .ref o)]) hx hb dX5_become_9 rfl hl (by decide) rfl (fun ls hl => ?_)
  have lp10 : ∀ (fu10 : Nat) (i : Nat) (hi : i ≤ 3) (hm10 : 3 - i < fu10) (H : Heap) (locs : List Loc) (hP : va_P D vwCl [(h, .inr (5, [.ref xa, .ref la, .int (nI un)])), (xa, .inl (cI, 3, .inl (cpF us ts i))), (la, .inl (cI, 3, .inl (cpF ul tl i))), (o, .inr (5, [.ref xb, .ref lb, .int (nI un)])), (xb, .inl (cI, 3, .inl us)), (lb, .inl (cI, 3, .inl ul))] H) (hD : va_D A [(h, .inr (5, [.ref xa, .ref la, .int (nI un)])), (xa, .inl (cI, 3, .inl (cpF us ts i))), (la, .inl (cI, 3, .inl (cpF ul tl i))), (o, .inr (5, [.ref xb, .ref lb, .int (nI un)])), (xb, .inl (cI, 3, .inl us)), (lb, .inl (cI, 3, .inl ul))]) (hS : va_S A s.heap H locs) (ls : Array Slot) (hl : lv_has ls 3 [(0, .ref h), (1, .ref o), (2, .int (nI i))]), W p l e (headSpec wsX5_become ({ frames := 0, cells := 0, slots := 0, locals := 0 } : Room)).room s m ([.ref h, .ref o]).toArray below meth c H locs 0 0 (MQ below (va_Qv (S := (Nat → Int32) × (Nat → Int32)) (fun u => u.1 = cpF us ts 3 ∧ u.2 = cpF ul tl 3) (fun u t => va_P D vwCl [(h, .inr (5, [.ref xa, .ref la, .int (nI un)])), (xa, .inl (cI, 3, .inl u.1)), (la, .inl (cI, 3, .inl u.2)), (o, .inr (5, [.ref xb, .ref lb, .int (nI un)])), (xb, .inl (cI, 3, .inl us)), (lb, .inl (cI, 3, .inl ul))] t.heap ∧ va_K D vwCl (tyL cI cO) t ∧ va_D A [(h, .inr (5, [.ref xa, .ref la, .int (nI un)])), (xa, .inl (cI, 3, .inl u.1)), (la, .inl (cI, 3, .inl u.2)), (o, .inr (5, [.ref xb, .ref lb, .int (nI un)])), (xb, .inl (cI, 3, .inl us)), (lb, .inl (cI, 3, .inl ul))]) A) ([.ref h, .ref o]).toArray s 0 0 A) (F0 m 10 ls []) := by
    intro fu10
    induction fu10 with
    | zero =>
      intros; omega
    | succ fu10 ih10 =>
      intro i hi hm10 H locs hP hD hS ls hl
      refine lv_iload_n hx hb dX5_become_10 rfl (lv_at hl 2 rfl) ?_
      refine lv_iconst (v := 3) hx hb dX5_become_11 (by decide) ?_
      refine lv_icmp_ge (tgt := 45) hx hb dX5_become_12 (by decide) (fun c12 => ?_) (fun c12 => ?_)
      · -- t12
        have e12 : i = 3 := by have q := ge_n (n := 3) (by omega) (by omega) c12; omega
        rw [e12] at hl
        rw [e12] at hP hD
        exact W.vret hx hb hr (fun t ht hW => ⟨⟨(cpF us ts 3, cpF ul tl 3), rfl, by exact ⟨rfl, rfl⟩, by rw [ht]; exact hP, va_K.moved hW.alike hK, hD⟩, hS.F ht⟩) hS.2.2 dX5_become_45
      · -- f12
        have l12 : i < 3 := lt_n (n := 3) (by omega) (by omega) c12
        refine lv_aload_n hx hb dX5_become_15 rfl (lv_at hl 0 rfl) ?_
        refine va_get (D := D) (ci := 5) (v := .ref xa) (C := RX5) (T := TX5) (N := 3) hx hb hts iX5 hown hK hP 0 rfl rfl 0 (by decide) f11 (fun _ h9 => h9) rfl dX5_become_16 ?_
        refine lv_iload_n hx hb dX5_become_19 rfl (lv_at hl 2 rfl) ?_
        refine lv_aload_n hx hb dX5_become_20 rfl (lv_at hl 1 rfl) ?_
        refine va_get (D := D) (ci := 5) (v := .ref xb) (C := RX5) (T := TX5) (N := 3) hx hb hts iX5 hown hK hP 3 rfl rfl 0 (by decide) f11 (fun _ h9 => h9) rfl dX5_become_21 ?_
        refine lv_iload_n hx hb dX5_become_24 rfl (lv_at hl 2 rfl) ?_
        refine va_iald hx hb hK hP 4 0 rfl rfl (vp_in_nI (by omega) (by decide)) dX5_become_25 ?_
        refine tp_i (y := us i) (by rw [nI_clamp (n := i) (by omega)]) ?_
        refine va_iast hx hb hK hP hD hS 1 0 rfl rfl (vp_in_nI (by omega) (by decide)) dX5_become_26 (fun H locs hP hD hS => ?_)
        rw [nI_clamp (n := i) (by omega)] at hP hD
        have hP : va_P D vwCl [(h, .inr (5, [.ref xa, .ref la, .int (nI un)])), (xa, .inl (cI, 3, .inl (upd (cpF us ts i) i (us i)))), (la, .inl (cI, 3, .inl (cpF ul tl i))), (o, .inr (5, [.ref xb, .ref lb, .int (nI un)])), (xb, .inl (cI, 3, .inl us)), (lb, .inl (cI, 3, .inl ul))] H := hP
        have hD : va_D A [(h, .inr (5, [.ref xa, .ref la, .int (nI un)])), (xa, .inl (cI, 3, .inl (upd (cpF us ts i) i (us i)))), (la, .inl (cI, 3, .inl (cpF ul tl i))), (o, .inr (5, [.ref xb, .ref lb, .int (nI un)])), (xb, .inl (cI, 3, .inl us)), (lb, .inl (cI, 3, .inl ul))] := hD
        refine lv_aload_n hx hb dX5_become_27 rfl (lv_at hl 0 rfl) ?_
        refine va_get (D := D) (ci := 5) (v := .ref la) (C := RX5) (T := TX5) (N := 3) hx hb hts iX5 hown hK hP 0 rfl rfl 1 (by decide) f15 (fun _ h9 => h9) rfl dX5_become_28 ?_
        refine lv_iload_n hx hb dX5_become_31 rfl (lv_at hl 2 rfl) ?_
        refine lv_aload_n hx hb dX5_become_32 rfl (lv_at hl 1 rfl) ?_
        refine va_get (D := D) (ci := 5) (v := .ref lb) (C := RX5) (T := TX5) (N := 3) hx hb hts iX5 hown hK hP 3 rfl rfl 1 (by decide) f15 (fun _ h9 => h9) rfl dX5_become_33 ?_
        refine lv_iload_n hx hb dX5_become_36 rfl (lv_at hl 2 rfl) ?_
        refine va_iald hx hb hK hP 5 0 rfl rfl (vp_in_nI (by omega) (by decide)) dX5_become_37 ?_
        refine tp_i (y := ul i) (by rw [nI_clamp (n := i) (by omega)]) ?_
        refine va_iast hx hb hK hP hD hS 2 0 rfl rfl (vp_in_nI (by omega) (by decide)) dX5_become_38 (fun H locs hP hD hS => ?_)
        rw [nI_clamp (n := i) (by omega)] at hP hD
        have hP : va_P D vwCl [(h, .inr (5, [.ref xa, .ref la, .int (nI un)])), (xa, .inl (cI, 3, .inl (upd (cpF us ts i) i (us i)))), (la, .inl (cI, 3, .inl (upd (cpF ul tl i) i (ul i)))), (o, .inr (5, [.ref xb, .ref lb, .int (nI un)])), (xb, .inl (cI, 3, .inl us)), (lb, .inl (cI, 3, .inl ul))] H := hP
        have hD : va_D A [(h, .inr (5, [.ref xa, .ref la, .int (nI un)])), (xa, .inl (cI, 3, .inl (upd (cpF us ts i) i (us i)))), (la, .inl (cI, 3, .inl (upd (cpF ul tl i) i (ul i)))), (o, .inr (5, [.ref xb, .ref lb, .int (nI un)])), (xb, .inl (cI, 3, .inl us)), (lb, .inl (cI, 3, .inl ul))] := hD
        refine lv_iinc (v := nI (i + 1)) (lv' := [(2, .int (nI (i + 1))), (0, .ref h), (1, .ref o)]) hx hb dX5_become_39 hl (k := 2) rfl (nI_1 _) (by decide) rfl (fun ls hl => ?_)
        refine lv_goto (tgt := 10) hx hb dX5_become_42 (by decide) ?_
        have ew10_1_0 : upd (cpF us ts i) i (us i) = cpF us ts (i + 1) := by exact cpF_s us ts i
        have hP : va_P D vwCl [(h, .inr (5, [.ref xa, .ref la, .int (nI un)])), (xa, .inl (cI, 3, .inl (cpF us ts (i + 1)))), (la, .inl (cI, 3, .inl (upd (cpF ul tl i) i (ul i)))), (o, .inr (5, [.ref xb, .ref lb, .int (nI un)])), (xb, .inl (cI, 3, .inl us)), (lb, .inl (cI, 3, .inl ul))] H := by rw [← ew10_1_0]; exact hP
        have hD : va_D A [(h, .inr (5, [.ref xa, .ref la, .int (nI un)])), (xa, .inl (cI, 3, .inl (cpF us ts (i + 1)))), (la, .inl (cI, 3, .inl (upd (cpF ul tl i) i (ul i)))), (o, .inr (5, [.ref xb, .ref lb, .int (nI un)])), (xb, .inl (cI, 3, .inl us)), (lb, .inl (cI, 3, .inl ul))] := by rw [← ew10_1_0]; exact hD
        have ew10_2_0 : upd (cpF ul tl i) i (ul i) = cpF ul tl (i + 1) := by exact cpF_s ul tl i
        have hP : va_P D vwCl [(h, .inr (5, [.ref xa, .ref la, .int (nI un)])), (xa, .inl (cI, 3, .inl (cpF us ts (i + 1)))), (la, .inl (cI, 3, .inl (cpF ul tl (i + 1)))), (o, .inr (5, [.ref xb, .ref lb, .int (nI un)])), (xb, .inl (cI, 3, .inl us)), (lb, .inl (cI, 3, .inl ul))] H := by rw [← ew10_2_0]; exact hP
        have hD : va_D A [(h, .inr (5, [.ref xa, .ref la, .int (nI un)])), (xa, .inl (cI, 3, .inl (cpF us ts (i + 1)))), (la, .inl (cI, 3, .inl (cpF ul tl (i + 1)))), (o, .inr (5, [.ref xb, .ref lb, .int (nI un)])), (xb, .inl (cI, 3, .inl us)), (lb, .inl (cI, 3, .inl ul))] := by rw [← ew10_2_0]; exact hD
        exact ih10 (i + 1) (by omega) (by omega) _ _ hP hD hS _ (lv_sub hl [1, 2, 0] rfl)
  have ew10_1_0 : ts = cpF us ts 0 := by exact (cpF_0 us ts).symm
  have hP : va_P D vwCl [(h, .inr (5, [.ref xa, .ref la, .int (nI un)])), (xa, .inl (cI, 3, .inl (cpF us ts 0))), (la, .inl (cI, 3, .inl tl)), (o, .inr (5, [.ref xb, .ref lb, .int (nI un)])), (xb, .inl (cI, 3, .inl us)), (lb, .inl (cI, 3, .inl ul))] H := by rw [← ew10_1_0]; exact hP
  have hD : va_D A [(h, .inr (5, [.ref xa, .ref la, .int (nI un)])), (xa, .inl (cI, 3, .inl (cpF us ts 0))), (la, .inl (cI, 3, .inl tl)), (o, .inr (5, [.ref xb, .ref lb, .int (nI un)])), (xb, .inl (cI, 3, .inl us)), (lb, .inl (cI, 3, .inl ul))] := by rw [← ew10_1_0]; exact hD
  have ew10_2_0 : tl = cpF ul tl 0 := by exact (cpF_0 ul tl).symm
  have hP : va_P D vwCl [(h, .inr (5, [.ref xa, .ref la, .int (nI un)])), (xa, .inl (cI, 3, .inl (cpF us ts 0))), (la, .inl (cI, 3, .inl (cpF ul tl 0))), (o, .inr (5, [.ref xb, .ref lb, .int (nI un)])), (xb, .inl (cI, 3, .inl us)), (lb, .inl (cI, 3, .inl ul))] H := by rw [← ew10_2_0]; exact hP
  have hD : va_D A [(h, .inr (5, [.ref xa, .ref la, .int (nI un)])), (xa, .inl (cI, 3, .inl (cpF us ts 0))), (la, .inl (cI, 3, .inl (cpF ul tl 0))), (o, .inr (5, [.ref xb, .ref lb, .int (nI un)])), (xb, .inl (cI, 3, .inl us)), (lb, .inl (cI, 3, .inl ul))] := by rw [← ew10_2_0]; exact hD
  exact lp10 _ 0 (Nat.zero_le _) (Nat.lt_succ_self _) _ _ hP hD hS _ (lv_sub hl [1, 2, 0] rfl)

set_option maxHeartbeats 4000000 in
set_option maxRecDepth 100000 in
theorem c_X1_settle (l : Launch) (D : va_G) (cI cO : ClassId) (h : Nat) (ka : Nat) (sa : Nat) (n : Nat) (kd : Nat → Int32) (sd : Nat → Int32) (ro : Nat) (ca : Nat) (ln : Int32) (L : Nat) (f : Nat → Int32) (a0 : Nat) (k : Nat) (mm : Nat) (sz : Nat) (hL : L ≤ 60) (hk : k = 3 * mm + 1) (hm9 : mm ≤ 9) (ha : a0 + k ≤ L) : Met l yX1_settle wsX1_settle ({ frames := 2, cells := 0, slots := 0, locals := 42 } : Room) (va_Pc [.ref h, .ref ro, .int (nI a0), .int (nI k)] (wdW D cI cO [(h, .inr (1, [.ref ka, .ref sa, .int (nI n)])), (ka, .inl (cI, 9, .inl kd)), (sa, .inl (cI, 9, .inl sd)), (ro, .inr (4, [.ref ca, .int ln, .int (nI L)])), (ca, .inl (cI, 60, .inl f))] sz)) (va_Qv (S := (Nat → Int32) × (Nat → Int32)) (fun u => u.1 = setK f a0 kd mm ∧ u.2 = setS f a0 sd mm) (fun u t => va_P D vwCl [(h, .inr (1, [.ref ka, .ref sa, .int (nI mm)])), (ka, .inl (cI, 9, .inl u.1)), (sa, .inl (cI, 9, .inl u.2)), (ro, .inr (4, [.ref ca, .int ln, .int (nI L)])), (ca, .inl (cI, 60, .inl f))] t.heap ∧ va_K D vwCl (tyL cI cO) t ∧ va_D (va_A [(h, .inr (1, [.ref ka, .ref sa, .int (nI n)])), (ka, .inl (cI, 9, .inl kd)), (sa, .inl (cI, 9, .inl sd)), (ro, .inr (4, [.ref ca, .int ln, .int (nI L)])), (ca, .inl (cI, 60, .inl f))] sz) [(h, .inr (1, [.ref ka, .ref sa, .int (nI mm)])), (ka, .inl (cI, 9, .inl u.1)), (sa, .inl (cI, 9, .inl u.2)), (ro, .inr (4, [.ref ca, .int ln, .int (nI L)])), (ca, .inl (cI, 60, .inl f))]) (va_A [(h, .inr (1, [.ref ka, .ref sa, .int (nI n)])), (ka, .inl (cI, 9, .inl kd)), (sa, .inl (cI, 9, .inl sd)), (ro, .inr (4, [.ref ca, .int ln, .int (nI L)])), (ca, .inl (cI, 60, .inl f))] sz)) 0 0 (va_A [(h, .inr (1, [.ref ka, .ref sa, .int (nI n)])), (ka, .inl (cI, 9, .inl kd)), (sa, .inl (cI, 9, .inl sd)), (ro, .inr (4, [.ref ca, .int ln, .int (nI L)])), (ca, .inl (cI, 60, .inl f))] sz) := by
  refine Met.ofW (cc := cX1_settle) (maxL := 5) (ret := none) (by decide) rfl ?_
  intro p e s m args below meth c s₁ B hml hv
  obtain ⟨rfl, hsz, hP, hK, hNw, hD0⟩ := hv
  have hx := B.exec
  have hb := B.bytes
  have hr := B.returns
  have hts := atoms_spec (ws := wsX1_settle) B.pre
  have hown : s.vm.findClass RX1 = some m.cls := findClass_of_methodNamed B.named
  have hlocks := B.notSynchronized
  have f11 := hts (.fieldLink RX1 11 "StruckThrees$People" "kinds" "[I") (by decide +kernel)
  have f15 := hts (.fieldLink RX1 15 "StruckThrees$People" "sides" "[I") (by decide +kernel)
  have f18 := hts (.fieldLink RX1 18 "StruckThrees$People" "count" "I") (by decide +kernel)
  have iX1 : ∀ w ∈ wsX10, w ∈ wsX1_settle := by decide +kernel
  subst hsz
  have hD := hD0.self (sz := s.heap.size)
  generalize hAe : va_A [(h, .inr (1, [.ref ka, .ref sa, .int (nI n)])), (ka, .inl (cI, 9, .inl kd)), (sa, .inl (cI, 9, .inl sd)), (ro, .inr (4, [.ref ca, .int ln, .int (nI L)])), (ca, .inl (cI, 60, .inl f))] s.heap.size = A at hD ⊢
  have hA : ∀ q : Nat, s.heap.size ≤ q → A q := fun q h => by rw [← hAe]; exact Or.inr h
  have hS : va_S A s.heap s.heap [] := va_S.rf
  have hP : va_P D vwCl [(h, .inr (1, [.ref ka, .ref sa, .int (nI n)])), (ka, .inl (cI, 9, .inl kd)), (sa, .inl (cI, 9, .inl sd)), (ro, .inr (4, [.ref ca, .int ln, .int (nI L)])), (ca, .inl (cI, 60, .inl f))] s.heap := hP
  have hl := lv_entry ([.ref h, .ref ro, .int (nI a0), .int (nI k)]) (n := 5) (Nat.le_of_ble_eq_true rfl)
  rw [lg_entry_eq]
  generalize (lg_sl ([.ref h, .ref ro, .int (nI a0), .int (nI k)]) ++ List.replicate (5 - (lg_sl ([.ref h, .ref ro, .int (nI a0), .int (nI k)])).length) Slot.unset).toArray = ls at hl ⊢
  have hl : lv_has ls 5 [(0, .ref h), (1, .ref ro), (2, .int (nI a0)), (3, .int (nI k))] := hl
  refine lv_aload_n hx hb dX1_settle_0 rfl (lv_at hl 0 rfl) ?_
  refine lv_iconst (v := 0) hx hb dX1_settle_1 (by decide) ?_
  refine lv_iload_n hx hb dX1_settle_2 rfl (lv_at hl 3 rfl) ?_
  refine lv_iconst (v := 1) hx hb dX1_settle_3 (by decide) ?_
  refine lv_isub hx hb dX1_settle_4 ?_
  refine lv_iconst (v := 3) hx hb dX1_settle_5 (by decide) ?_
  refine lv_idiv hx hb dX1_settle_6 (by decide) ?_
  refine tp_i (y := nI mm) (by rw [hk]; exact div3 (by omega)) ?_
  refine lv_bipush (v := 9) hx hb dX1_settle_7 (by decide) ?_
  refine va_mmin hx hb (hml.trans hl.1.symm) hown (hts (.methodLink RX1 22 Lib.Math.min.name) (by decide +kernel)) (hts (.static Lib.Math.min.name) (by decide +kernel)) (hts (.initialized "java/lang/Math") (by decide +kernel)) (hts (.code Lib.Math.min.name Lib.Math.min.code 2 (some .int)) (by decide +kernel)) (Nat.le_of_ble_eq_true rfl) (Nat.le_of_ble_eq_true rfl) (Nat.zero_le _) (Nat.zero_le _) dX1_settle_9 ?_
  refine tp_i (y := nI mm) (if_neg (nI_nlt (a := 9) hm9 (by decide))) ?_
  refine va_mmax hx hb (hml.trans hl.1.symm) hown (hts (.methodLink RX1 28 Lib.Math.max.name) (by decide +kernel)) (hts (.static Lib.Math.max.name) (by decide +kernel)) (hts (.initialized "java/lang/Math") (by decide +kernel)) (hts (.code Lib.Math.max.name Lib.Math.max.code 2 (some .int)) (by decide +kernel)) (Nat.le_of_ble_eq_true rfl) (Nat.le_of_ble_eq_true rfl) (Nat.zero_le _) (Nat.zero_le _) dX1_settle_12 ?_
  refine tp_i (y := nI mm) (max0 (by omega)) ?_
  refine va_put (D := D) (ci := 1) (v := .int (nI mm)) (ty := .int) (C := RX1) (T := TX1) (N := 3) hx hb hts iX1 tyX1 tyX1_ok nmX1 hown hK hP hD hS 0 rfl rfl 2 (by decide) f18 (fun _ h9 => h9) rfl (by decide +kernel) rfl rfl (Nat.le_of_ble_eq_true rfl) dX1_settle_15 (fun H locs hP hD hS => ?_)
  have hP : va_P D vwCl [(h, .inr (1, [.ref ka, .ref sa, .int (nI mm)])), (ka, .inl (cI, 9, .inl kd)), (sa, .inl (cI, 9, .inl sd)), (ro, .inr (4, [.ref ca, .int ln, .int (nI L)])), (ca, .inl (cI, 60, .inl f))] H := hP
  have hD : va_D A [(h, .inr (1, [.ref ka, .ref sa, .int (nI mm)])), (ka, .inl (cI, 9, .inl kd)), (sa, .inl (cI, 9, .inl sd)), (ro, .inr (4, [.ref ca, .int ln, .int (nI L)])), (ca, .inl (cI, 60, .inl f))] := hD
  refine lv_iconst (v := 0) hx hb dX1_settle_18 (by decide) ?_
  refine lv_istore (lv' := [(4, .int 0), (0, .ref h), (1, .ref ro), (2, .int (nI a0)), (3, .int (nI k))]) hx hb dX1_settle_19 hl (by decide) rfl (fun ls hl => ?_)
  have lp21 : ∀ (fu21 : Nat) (i : Nat) (hi : i ≤ mm) (hm21 : mm - i < fu21) (H : Heap) (locs : List Loc) (hP : va_P D vwCl [(h, .inr (1, [.ref ka, .ref sa, .int (nI mm)])), (ka, .inl (cI, 9, .inl (setK f a0 kd i))), (sa, .inl (cI, 9, .inl (setS f a0 sd i))), (ro, .inr (4, [.ref ca, .int ln, .int (nI L)])), (ca, .inl (cI, 60, .inl f))] H) (hD : va_D A [(h, .inr (1, [.ref ka, .ref sa, .int (nI mm)])), (ka, .inl (cI, 9, .inl (setK f a0 kd i))), (sa, .inl (cI, 9, .inl (setS f a0 sd i))), (ro, .inr (4, [.ref ca, .int ln, .int (nI L)])), (ca, .inl (cI, 60, .inl f))]) (hS : va_S A s.heap H locs) (ls : Array Slot) (hl : lv_has ls 5 [(0, .ref h), (1, .ref ro), (2, .int (nI a0)), (4, .int (nI i))]), W p l e (headSpec wsX1_settle ({ frames := 2, cells := 0, slots := 0, locals := 42 } : Room)).room s m ([.ref h, .ref ro, .int (nI a0), .int (nI k)]).toArray below meth c H locs 0 0 (MQ below (va_Qv (S := (Nat → Int32) × (Nat → Int32)) (fun u => u.1 = setK f a0 kd mm ∧ u.2 = setS f a0 sd mm) (fun u t => va_P D vwCl [(h, .inr (1, [.ref ka, .ref sa, .int (nI mm)])), (ka, .inl (cI, 9, .inl u.1)), (sa, .inl (cI, 9, .inl u.2)), (ro, .inr (4, [.ref ca, .int ln, .int (nI L)])), (ca, .inl (cI, 60, .inl f))] t.heap ∧ va_K D vwCl (tyL cI cO) t ∧ va_D A [(h, .inr (1, [.ref ka, .ref sa, .int (nI mm)])), (ka, .inl (cI, 9, .inl u.1)), (sa, .inl (cI, 9, .inl u.2)), (ro, .inr (4, [.ref ca, .int ln, .int (nI L)])), (ca, .inl (cI, 60, .inl f))]) A) ([.ref h, .ref ro, .int (nI a0), .int (nI k)]).toArray s 0 0 A) (F0 m 21 ls []) := by
    intro fu21
    induction fu21 with
    | zero =>
      intros; omega
    | succ fu21 ih21 =>
      intro i hi hm21 H locs hP hD hS ls hl
      refine lv_iload hx hb dX1_settle_21 (lv_at hl 3 rfl) ?_
      refine lv_aload_n hx hb dX1_settle_23 rfl (lv_at hl 0 rfl) ?_
      refine va_get (D := D) (ci := 1) (v := .int (nI mm)) (C := RX1) (T := TX1) (N := 3) hx hb hts iX1 hown hK hP 0 rfl rfl 2 (by decide) f18 (fun _ h9 => h9) rfl dX1_settle_24 ?_
      refine lv_icmp_ge (tgt := 80) hx hb dX1_settle_27 (by decide) (fun c27 => ?_) (fun c27 => ?_)
      · -- t27
        have e27 : i = mm := by have q := ge_n (by omega) (by omega) c27; omega
        rw [e27] at hl
        rw [e27] at hP hD
        exact W.vret hx hb hr (fun t ht hW => ⟨⟨(setK f a0 kd mm, setS f a0 sd mm), rfl, by exact ⟨rfl, rfl⟩, by rw [ht]; exact hP, va_K.moved hW.alike hK, hD⟩, hS.F ht⟩) hS.2.2 dX1_settle_80
      · -- f27
        have l27 : i < mm := lt_n (by omega) (by omega) c27
        refine lv_aload_n hx hb dX1_settle_30 rfl (lv_at hl 0 rfl) ?_
        refine va_get (D := D) (ci := 1) (v := .ref ka) (C := RX1) (T := TX1) (N := 3) hx hb hts iX1 hown hK hP 0 rfl rfl 0 (by decide) f11 (fun _ h9 => h9) rfl dX1_settle_31 ?_
        refine lv_iload hx hb dX1_settle_34 (lv_at hl 3 rfl) ?_
        refine lv_aload_n hx hb dX1_settle_36 rfl (lv_at hl 1 rfl) ?_
        refine lv_iload_n hx hb dX1_settle_37 rfl (lv_at hl 2 rfl) ?_
        refine lv_iconst (v := 3) hx hb dX1_settle_38 (by decide) ?_
        refine lv_iload hx hb dX1_settle_39 (lv_at hl 3 rfl) ?_
        refine lv_imul hx hb dX1_settle_41 ?_
        refine lv_iadd hx hb dX1_settle_42 ?_
        refine lv_iconst (v := 2) hx hb dX1_settle_43 (by decide) ?_
        refine lv_iadd hx hb dX1_settle_44 ?_
        refine tp_i (y := nI (a0 + 3 * i + 2)) (ix3 _ _ 2) ?_
        have hPc := hP.sub (ws' := [(ro, .inr (4, [.ref ca, .int ln, .int (nI L)])), (ca, .inl (cI, 60, .inl f))]) [3, 4] rfl
        refine vp_callSi (va_Run.run (va_runV (As := [.int (nI (a0 + 3 * i + 2))]) (rest := [.int (nI i), .ref ka]) ⟨hx, hb, hml, hown, hts⟩ (c_X4_at l D cI cO ro ca ln L f (a0 + 3 * i + 2) (by assumption) (by omega)) (cwV 1 hts gX1_settle_X4_at rfl rfl rfl (by decide +kernel) ⟨Nat.le_of_ble_eq_true rfl, Nat.le_of_ble_eq_true rfl⟩) (preVR hPc hK hNw (va_recv hK hPc (ci := 4) (q0 := 0) rfl rfl)) rfl rfl hl.1 rfl (lv_room (Nat.le_of_ble_eq_true rfl)) dX1_settle_45 ⟨Nat.zero_le _, Nat.zero_le _⟩)) (fun r45 w45 => ?_)
        obtain rfl := w45
        have hPc := hP.sub (ws' := []) [] rfl
        refine vp_callSi (va_Run.run (va_runS (As := [.int (f (a0 + 3 * i + 2))]) (rest := [.int (nI i), .ref ka]) ⟨hx, hb, hml, hown, hts⟩ (c_X1_kindBy l D cI cO (f (a0 + 3 * i + 2))) (va_cwS 1 hts gX1_settle_X1_kindBy rfl rfl rfl (by decide +kernel) ⟨Nat.le_of_ble_eq_true rfl, Nat.le_of_ble_eq_true rfl⟩) (preSR hPc hK hNw) rfl rfl hl.1 rfl (lv_room (Nat.le_of_ble_eq_true rfl)) dX1_settle_48 ⟨Nat.zero_le _, Nat.zero_le _⟩)) (fun r48 w48 => ?_)
        obtain rfl := w48
        refine va_iast hx hb hK hP hD hS 1 0 rfl rfl (vp_in_nI (by omega) (by decide)) dX1_settle_51 (fun H locs hP hD hS => ?_)
        rw [nI_clamp (n := i) (by omega)] at hP hD
        have hP : va_P D vwCl [(h, .inr (1, [.ref ka, .ref sa, .int (nI mm)])), (ka, .inl (cI, 9, .inl (upd (setK f a0 kd i) i (kindI (f (a0 + 3 * i + 2)))))), (sa, .inl (cI, 9, .inl (setS f a0 sd i))), (ro, .inr (4, [.ref ca, .int ln, .int (nI L)])), (ca, .inl (cI, 60, .inl f))] H := hP
        have hD : va_D A [(h, .inr (1, [.ref ka, .ref sa, .int (nI mm)])), (ka, .inl (cI, 9, .inl (upd (setK f a0 kd i) i (kindI (f (a0 + 3 * i + 2)))))), (sa, .inl (cI, 9, .inl (setS f a0 sd i))), (ro, .inr (4, [.ref ca, .int ln, .int (nI L)])), (ca, .inl (cI, 60, .inl f))] := hD
        refine lv_aload_n hx hb dX1_settle_52 rfl (lv_at hl 0 rfl) ?_
        refine va_get (D := D) (ci := 1) (v := .ref sa) (C := RX1) (T := TX1) (N := 3) hx hb hts iX1 hown hK hP 0 rfl rfl 1 (by decide) f15 (fun _ h9 => h9) rfl dX1_settle_53 ?_
        refine lv_iload hx hb dX1_settle_56 (lv_at hl 3 rfl) ?_
        refine lv_aload_n hx hb dX1_settle_58 rfl (lv_at hl 1 rfl) ?_
        refine lv_iload_n hx hb dX1_settle_59 rfl (lv_at hl 2 rfl) ?_
        refine lv_iconst (v := 3) hx hb dX1_settle_60 (by decide) ?_
        refine lv_iload hx hb dX1_settle_61 (lv_at hl 3 rfl) ?_
        refine lv_imul hx hb dX1_settle_63 ?_
        refine lv_iadd hx hb dX1_settle_64 ?_
        refine lv_iconst (v := 3) hx hb dX1_settle_65 (by decide) ?_
        refine lv_iadd hx hb dX1_settle_66 ?_
        refine tp_i (y := nI (a0 + 3 * i + 3)) (ix3 _ _ 3) ?_
        have hPc := hP.sub (ws' := [(ro, .inr (4, [.ref ca, .int ln, .int (nI L)])), (ca, .inl (cI, 60, .inl f))]) [3, 4] rfl
        refine vp_callSi (va_Run.run (va_runV (As := [.int (nI (a0 + 3 * i + 3))]) (rest := [.int (nI i), .ref sa]) ⟨hx, hb, hml, hown, hts⟩ (c_X4_at l D cI cO ro ca ln L f (a0 + 3 * i + 3) (by assumption) (by omega)) (cwV 1 hts gX1_settle_X4_at rfl rfl rfl (by decide +kernel) ⟨Nat.le_of_ble_eq_true rfl, Nat.le_of_ble_eq_true rfl⟩) (preVR hPc hK hNw (va_recv hK hPc (ci := 4) (q0 := 0) rfl rfl)) rfl rfl hl.1 rfl (lv_room (Nat.le_of_ble_eq_true rfl)) dX1_settle_67 ⟨Nat.zero_le _, Nat.zero_le _⟩)) (fun r67 w67 => ?_)
        obtain rfl := w67
        refine lv_bipush (v := 48) hx hb dX1_settle_70 (by decide) ?_
        refine lv_isub hx hb dX1_settle_72 ?_
        refine va_iast hx hb hK hP hD hS 2 0 rfl rfl (vp_in_nI (by omega) (by decide)) dX1_settle_73 (fun H locs hP hD hS => ?_)
        rw [nI_clamp (n := i) (by omega)] at hP hD
        have hP : va_P D vwCl [(h, .inr (1, [.ref ka, .ref sa, .int (nI mm)])), (ka, .inl (cI, 9, .inl (upd (setK f a0 kd i) i (kindI (f (a0 + 3 * i + 2)))))), (sa, .inl (cI, 9, .inl (upd (setS f a0 sd i) i ((f (a0 + 3 * i + 3)) - 48)))), (ro, .inr (4, [.ref ca, .int ln, .int (nI L)])), (ca, .inl (cI, 60, .inl f))] H := hP
        have hD : va_D A [(h, .inr (1, [.ref ka, .ref sa, .int (nI mm)])), (ka, .inl (cI, 9, .inl (upd (setK f a0 kd i) i (kindI (f (a0 + 3 * i + 2)))))), (sa, .inl (cI, 9, .inl (upd (setS f a0 sd i) i ((f (a0 + 3 * i + 3)) - 48)))), (ro, .inr (4, [.ref ca, .int ln, .int (nI L)])), (ca, .inl (cI, 60, .inl f))] := hD
        refine lv_iinc (v := nI (i + 1)) (lv' := [(4, .int (nI (i + 1))), (0, .ref h), (1, .ref ro), (2, .int (nI a0))]) hx hb dX1_settle_74 hl (k := 3) rfl (nI_1 _) (by decide) rfl (fun ls hl => ?_)
        refine lv_goto (tgt := 21) hx hb dX1_settle_77 (by decide) ?_
        have ew21_1_0 : upd (setK f a0 kd i) i (kindI (f (a0 + 3 * i + 2))) = setK f a0 kd (i + 1) := by exact cp_s _ kd i
        have hP : va_P D vwCl [(h, .inr (1, [.ref ka, .ref sa, .int (nI mm)])), (ka, .inl (cI, 9, .inl (setK f a0 kd (i + 1)))), (sa, .inl (cI, 9, .inl (upd (setS f a0 sd i) i ((f (a0 + 3 * i + 3)) - 48)))), (ro, .inr (4, [.ref ca, .int ln, .int (nI L)])), (ca, .inl (cI, 60, .inl f))] H := by rw [← ew21_1_0]; exact hP
        have hD : va_D A [(h, .inr (1, [.ref ka, .ref sa, .int (nI mm)])), (ka, .inl (cI, 9, .inl (setK f a0 kd (i + 1)))), (sa, .inl (cI, 9, .inl (upd (setS f a0 sd i) i ((f (a0 + 3 * i + 3)) - 48)))), (ro, .inr (4, [.ref ca, .int ln, .int (nI L)])), (ca, .inl (cI, 60, .inl f))] := by rw [← ew21_1_0]; exact hD
        have ew21_2_0 : upd (setS f a0 sd i) i ((f (a0 + 3 * i + 3)) - 48) = setS f a0 sd (i + 1) := by exact cp_s _ sd i
        have hP : va_P D vwCl [(h, .inr (1, [.ref ka, .ref sa, .int (nI mm)])), (ka, .inl (cI, 9, .inl (setK f a0 kd (i + 1)))), (sa, .inl (cI, 9, .inl (setS f a0 sd (i + 1)))), (ro, .inr (4, [.ref ca, .int ln, .int (nI L)])), (ca, .inl (cI, 60, .inl f))] H := by rw [← ew21_2_0]; exact hP
        have hD : va_D A [(h, .inr (1, [.ref ka, .ref sa, .int (nI mm)])), (ka, .inl (cI, 9, .inl (setK f a0 kd (i + 1)))), (sa, .inl (cI, 9, .inl (setS f a0 sd (i + 1)))), (ro, .inr (4, [.ref ca, .int ln, .int (nI L)])), (ca, .inl (cI, 60, .inl f))] := by rw [← ew21_2_0]; exact hD
        exact ih21 (i + 1) (by omega) (by omega) _ _ hP hD hS _ (lv_sub hl [1, 2, 3, 0] rfl)
  have ew21_1_0 : kd = setK f a0 kd 0 := by exact (cp_0 _ kd).symm
  have hP : va_P D vwCl [(h, .inr (1, [.ref ka, .ref sa, .int (nI mm)])), (ka, .inl (cI, 9, .inl (setK f a0 kd 0))), (sa, .inl (cI, 9, .inl sd)), (ro, .inr (4, [.ref ca, .int ln, .int (nI L)])), (ca, .inl (cI, 60, .inl f))] H := by rw [← ew21_1_0]; exact hP
  have hD : va_D A [(h, .inr (1, [.ref ka, .ref sa, .int (nI mm)])), (ka, .inl (cI, 9, .inl (setK f a0 kd 0))), (sa, .inl (cI, 9, .inl sd)), (ro, .inr (4, [.ref ca, .int ln, .int (nI L)])), (ca, .inl (cI, 60, .inl f))] := by rw [← ew21_1_0]; exact hD
  have ew21_2_0 : sd = setS f a0 sd 0 := by exact (cp_0 _ sd).symm
  have hP : va_P D vwCl [(h, .inr (1, [.ref ka, .ref sa, .int (nI mm)])), (ka, .inl (cI, 9, .inl (setK f a0 kd 0))), (sa, .inl (cI, 9, .inl (setS f a0 sd 0))), (ro, .inr (4, [.ref ca, .int ln, .int (nI L)])), (ca, .inl (cI, 60, .inl f))] H := by rw [← ew21_2_0]; exact hP
  have hD : va_D A [(h, .inr (1, [.ref ka, .ref sa, .int (nI mm)])), (ka, .inl (cI, 9, .inl (setK f a0 kd 0))), (sa, .inl (cI, 9, .inl (setS f a0 sd 0))), (ro, .inr (4, [.ref ca, .int ln, .int (nI L)])), (ca, .inl (cI, 60, .inl f))] := by rw [← ew21_2_0]; exact hD
  exact lp21 _ 0 (Nat.zero_le _) (Nat.lt_succ_self _) _ _ hP hD hS _ (lv_sub hl [1, 2, 3, 0] rfl)
