set_option maxHeartbeats 4000000 in
set_option maxRecDepth 100000 in
theorem c_X7_isSign (l : Launch) (D : va_G) (cI cO : ClassId) (x : Nat) (fa : Int32) (tr : Int32) (so : Nat) (sl : Nat) (ce : Nat) (n : Nat) (bar : Int32) (tn : Nat) (ki : Nat) (si : Nat) (th : Nat) (ri : Nat) (rk : Nat) (rs : Nat) (kt : Nat) (kr : Nat) (kn : Int32) (rg : Int32) (ab : Nat) (am : Int32) (bh : Nat) (bm : Int32) (br : Int32) (rn : Nat) (wa : Nat) (ra : Nat) (tz : Nat) (p_ : Nat) (cv : Nat → Int32) (e_ : Nat) (cd : Int32) (sz : Nat) (he : e_ ≤ 240) (ht : tz ≤ 240) : Met l yX7_isSign wsX7_isSign ({ frames := 0, cells := 0, slots := 0, locals := 0 } : Room) (va_Pc [.ref x, .int (nI e_), .int cd] (wdW D cI cO [(x, .inr (7, [.int fa, .int tr, .ref so, .ref sl, .ref ce, .int (nI n), .int bar, .int (nI tn), .ref ki, .ref si, .ref th, .ref ri, .int (nI tz), .int (nI p_), .ref rk, .ref rs, .ref kt, .ref kr, .int kn, .int rg, .ref ab, .int am, .ref bh, .int bm, .int br, .int (nI rn), .ref wa, .ref ra])), (ce, .inl (cI, 240, .inl cv))] sz)) (va_Qi (S := Nat) (fun r u => ((tz < e_ ∧ cv tz = cd) → r = 1 ∧ u = (tz + 1)) ∧ (¬ (tz < e_ ∧ cv tz = cd) → r = 0 ∧ u = tz)) (fun u t => va_P D vwCl [(x, .inr (7, [.int fa, .int tr, .ref so, .ref sl, .ref ce, .int (nI n), .int bar, .int (nI tn), .ref ki, .ref si, .ref th, .ref ri, .int (nI u), .int (nI p_), .ref rk, .ref rs, .ref kt, .ref kr, .int kn, .int rg, .ref ab, .int am, .ref bh, .int bm, .int br, .int (nI rn), .ref wa, .ref ra])), (ce, .inl (cI, 240, .inl cv))] t.heap ∧ va_K D vwCl (tyL cI cO) t ∧ va_D (va_A [(x, .inr (7, [.int fa, .int tr, .ref so, .ref sl, .ref ce, .int (nI n), .int bar, .int (nI tn), .ref ki, .ref si, .ref th, .ref ri, .int (nI tz), .int (nI p_), .ref rk, .ref rs, .ref kt, .ref kr, .int kn, .int rg, .ref ab, .int am, .ref bh, .int bm, .int br, .int (nI rn), .ref wa, .ref ra])), (ce, .inl (cI, 240, .inl cv))] sz) [(x, .inr (7, [.int fa, .int tr, .ref so, .ref sl, .ref ce, .int (nI n), .int bar, .int (nI tn), .ref ki, .ref si, .ref th, .ref ri, .int (nI u), .int (nI p_), .ref rk, .ref rs, .ref kt, .ref kr, .int kn, .int rg, .ref ab, .int am, .ref bh, .int bm, .int br, .int (nI rn), .ref wa, .ref ra])), (ce, .inl (cI, 240, .inl cv))]) (va_A [(x, .inr (7, [.int fa, .int tr, .ref so, .ref sl, .ref ce, .int (nI n), .int bar, .int (nI tn), .ref ki, .ref si, .ref th, .ref ri, .int (nI tz), .int (nI p_), .ref rk, .ref rs, .ref kt, .ref kr, .int kn, .int rg, .ref ab, .int am, .ref bh, .int bm, .int br, .int (nI rn), .ref wa, .ref ra])), (ce, .inl (cI, 240, .inl cv))] sz)) 0 0 (va_A [(x, .inr (7, [.int fa, .int tr, .ref so, .ref sl, .ref ce, .int (nI n), .int bar, .int (nI tn), .ref ki, .ref si, .ref th, .ref ri, .int (nI tz), .int (nI p_), .ref rk, .ref rs, .ref kt, .ref kr, .int kn, .int rg, .ref ab, .int am, .ref bh, .int bm, .int br, .int (nI rn), .ref wa, .ref ra])), (ce, .inl (cI, 240, .inl cv))] sz) := by
  refine Met.ofW (cc := cX7_isSign) (maxL := 3) (ret := (some .boolean)) (by decide) rfl ?_
  intro p e s m args below meth c s₁ B hml hv
  obtain ⟨rfl, hsz, hP, hK, hNw, hD0⟩ := hv
  have hx := B.exec
  have hb := B.bytes
  have hr := B.returns
  have hts := atoms_spec (ws := wsX7_isSign) B.pre
  have hown : s.vm.findClass RX7 = some m.cls := findClass_of_methodNamed B.named
  have hlocks := B.notSynchronized
  have f16 := hts (.fieldLink RX7 16 "StruckThreesModel" "cells" "[I") (by decide +kernel)
  have f71 := hts (.fieldLink RX7 71 "StruckThreesModel" "at" "I") (by decide +kernel)
  have iX7 : ∀ w ∈ wsX70, w ∈ wsX7_isSign := by decide +kernel
  subst hsz
  have hD := hD0.self (sz := s.heap.size)
  generalize hAe : va_A [(x, .inr (7, [.int fa, .int tr, .ref so, .ref sl, .ref ce, .int (nI n), .int bar, .int (nI tn), .ref ki, .ref si, .ref th, .ref ri, .int (nI tz), .int (nI p_), .ref rk, .ref rs, .ref kt, .ref kr, .int kn, .int rg, .ref ab, .int am, .ref bh, .int bm, .int br, .int (nI rn), .ref wa, .ref ra])), (ce, .inl (cI, 240, .inl cv))] s.heap.size = A at hD ⊢
  have hA : ∀ q : Nat, s.heap.size ≤ q → A q := fun q h => by rw [← hAe]; exact Or.inr h
  have hS : va_S A s.heap s.heap [] := va_S.rf
  have hP : va_P D vwCl [(x, .inr (7, [.int fa, .int tr, .ref so, .ref sl, .ref ce, .int (nI n), .int bar, .int (nI tn), .ref ki, .ref si, .ref th, .ref ri, .int (nI tz), .int (nI p_), .ref rk, .ref rs, .ref kt, .ref kr, .int kn, .int rg, .ref ab, .int am, .ref bh, .int bm, .int br, .int (nI rn), .ref wa, .ref ra])), (ce, .inl (cI, 240, .inl cv))] s.heap := hP
  have hl := lv_entry ([.ref x, .int (nI e_), .int cd]) (n := 3) (Nat.le_of_ble_eq_true rfl)
  rw [lg_entry_eq]
  generalize (lg_sl ([.ref x, .int (nI e_), .int cd]) ++ List.replicate (3 - (lg_sl ([.ref x, .int (nI e_), .int cd])).length) Slot.unset).toArray = ls at hl ⊢
  have hl : lv_has ls 3 [(0, .ref x), (1, .int (nI e_)), (2, .int cd)] := hl
  refine lv_aload_n hx hb dX7_isSign_0 rfl (lv_at hl 0 rfl) ?_
  refine va_get (D := D) (ci := 7) (v := .int (nI tz)) (C := RX7) (T := TX7) (N := 28) hx hb hts iX7 hown hK hP 0 rfl rfl 12 (by decide) f71 (fun _ h9 => h9) rfl dX7_isSign_1 ?_
  refine lv_iload_n hx hb dX7_isSign_4 rfl (lv_at hl 1 rfl) ?_
  refine lv_icmp_ge (tgt := 21) hx hb dX7_isSign_5 (by decide) (fun c5 => ?_) (fun c5 => ?_)
  · -- t5
    have z5 : ¬ tz < e_ := fun q => absurd c5 (nI_ge q (by omega))
    refine lv_iconst (v := 0) hx hb dX7_isSign_21 (by decide) ?_
    exact W.zret (v := 0) (ty := .boolean) hx hb hr rfl (fun t ht hW => ⟨⟨_, tz, rfl, by exact ⟨fun q => by first | exact absurd q.1 z5 | exact absurd q.2 c18, fun _ => ⟨rfl, rfl⟩⟩, by rw [ht]; exact hP, va_K.moved hW.alike hK, hD⟩, hS.F ht⟩) hS.2.2 dX7_isSign_22
  · -- f5
    have z5 : tz < e_ := lt_n (by omega) (by omega) c5
    refine lv_aload_n hx hb dX7_isSign_8 rfl (lv_at hl 0 rfl) ?_
    refine va_get (D := D) (ci := 7) (v := .ref ce) (C := RX7) (T := TX7) (N := 28) hx hb hts iX7 hown hK hP 0 rfl rfl 4 (by decide) f16 (fun _ h9 => h9) rfl dX7_isSign_9 ?_
    refine lv_aload_n hx hb dX7_isSign_12 rfl (lv_at hl 0 rfl) ?_
    refine va_get (D := D) (ci := 7) (v := .int (nI tz)) (C := RX7) (T := TX7) (N := 28) hx hb hts iX7 hown hK hP 0 rfl rfl 12 (by decide) f71 (fun _ h9 => h9) rfl dX7_isSign_13 ?_
    refine va_iald hx hb hK hP 1 0 rfl rfl (vp_in_nI (by omega) (by decide)) dX7_isSign_16 ?_
    refine tp_i (y := cv tz) (by rw [nI_clamp (n := tz) (by omega)]) ?_
    refine lv_iload_n hx hb dX7_isSign_17 rfl (lv_at hl 2 rfl) ?_
    refine lv_icmp_eq (tgt := 23) hx hb dX7_isSign_18 (by decide) (fun c18 => ?_) (fun c18 => ?_)
    · -- t18
      refine lv_aload_n hx hb dX7_isSign_23 rfl (lv_at hl 0 rfl) ?_
      refine lv_dup hx hb dX7_isSign_24 rfl ?_
      refine va_get (D := D) (ci := 7) (v := .int (nI tz)) (C := RX7) (T := TX7) (N := 28) hx hb hts iX7 hown hK hP 0 rfl rfl 12 (by decide) f71 (fun _ h9 => h9) rfl dX7_isSign_25 ?_
      refine lv_iconst (v := 1) hx hb dX7_isSign_28 (by decide) ?_
      refine lv_iadd hx hb dX7_isSign_29 ?_
      refine tp_i (y := nI (tz + 1)) (nI_1 _) ?_
      refine va_put (D := D) (ci := 7) (v := .int (nI (tz + 1))) (ty := .int) (C := RX7) (T := TX7) (N := 28) hx hb hts iX7 tyX7 tyX7_ok nmX7 hown hK hP hD hS 0 rfl rfl 12 (by decide) f71 (fun _ h9 => h9) rfl (by decide +kernel) rfl rfl (Nat.le_of_ble_eq_true rfl) dX7_isSign_30 (fun H locs hP hD hS => ?_)
      have hP : va_P D vwCl [(x, .inr (7, [.int fa, .int tr, .ref so, .ref sl, .ref ce, .int (nI n), .int bar, .int (nI tn), .ref ki, .ref si, .ref th, .ref ri, .int (nI (tz + 1)), .int (nI p_), .ref rk, .ref rs, .ref kt, .ref kr, .int kn, .int rg, .ref ab, .int am, .ref bh, .int bm, .int br, .int (nI rn), .ref wa, .ref ra])), (ce, .inl (cI, 240, .inl cv))] H := hP
      have hD : va_D A [(x, .inr (7, [.int fa, .int tr, .ref so, .ref sl, .ref ce, .int (nI n), .int bar, .int (nI tn), .ref ki, .ref si, .ref th, .ref ri, .int (nI (tz + 1)), .int (nI p_), .ref rk, .ref rs, .ref kt, .ref kr, .int kn, .int rg, .ref ab, .int am, .ref bh, .int bm, .int br, .int (nI rn), .ref wa, .ref ra])), (ce, .inl (cI, 240, .inl cv))] := hD
      refine lv_iconst (v := 1) hx hb dX7_isSign_33 (by decide) ?_
      exact W.zret (v := 1) (ty := .boolean) hx hb hr rfl (fun t ht hW => ⟨⟨_, (tz + 1), rfl, by exact ⟨fun _ => ⟨rfl, rfl⟩, fun q => absurd ⟨z5, c18⟩ q⟩, by rw [ht]; exact hP, va_K.moved hW.alike hK, hD⟩, hS.F ht⟩) hS.2.2 dX7_isSign_34
    · -- f18
      refine lv_iconst (v := 0) hx hb dX7_isSign_21 (by decide) ?_
      exact W.zret (v := 0) (ty := .boolean) hx hb hr rfl (fun t ht hW => ⟨⟨_, tz, rfl, by exact ⟨fun q => by first | exact absurd q.1 z5 | exact absurd q.2 c18, fun _ => ⟨rfl, rfl⟩⟩, by rw [ht]; exact hP, va_K.moved hW.alike hK, hD⟩, hS.F ht⟩) hS.2.2 dX7_isSign_22

set_option maxHeartbeats 4000000 in
set_option maxRecDepth 100000 in
theorem c_X7_readPerson (l : Launch) (D : va_G) (cI cO : ClassId) (x : Nat) (fa : Int32) (tr : Int32) (so : Nat) (sl : Nat) (ce : Nat) (n : Nat) (bar : Int32) (tn : Nat) (ki : Nat) (si : Nat) (th : Nat) (ri : Nat) (rk : Nat) (rs : Nat) (kt : Nat) (kr : Nat) (kn : Int32) (rg : Int32) (ab : Nat) (am : Int32) (bh : Nat) (bm : Int32) (br : Int32) (rn : Nat) (wa : Nat) (ra : Nat) (tz : Nat) (p_ : Nat) (kv : Nat → Int32) (sw : Nat → Int32) (cv : Nat → Int32) (e_ : Nat) (sz : Nat) (he : e_ ≤ 240) (ht : tz ≤ 240) (hp9 : p_ < 9) : Met l yX7_readPerson wsX7_readPerson ({ frames := 1, cells := 0, slots := 0, locals := 22 } : Room) (va_Pc [.ref x, .int (nI e_)] (wdW D cI cO [(x, .inr (7, [.int fa, .int tr, .ref so, .ref sl, .ref ce, .int (nI n), .int bar, .int (nI tn), .ref ki, .ref si, .ref th, .ref ri, .int (nI tz), .int (nI p_), .ref rk, .ref rs, .ref kt, .ref kr, .int kn, .int rg, .ref ab, .int am, .ref bh, .int bm, .int br, .int (nI rn), .ref wa, .ref ra])), (rk, .inl (cI, 9, .inl kv)), (rs, .inl (cI, 9, .inl sw)), (ce, .inl (cI, 240, .inl cv))] sz)) (va_Qi (S := Nat × Nat × (Nat → Int32) × (Nat → Int32)) (fun r u => ((tz < e_ ∧ ¬ kindI (cv tz) = -9 ∧ tz + 1 < e_ ∧ lstT (cv (tz + 1)) 49 57 = true) → r = 1 ∧ u.1 = (tz + 1 + 1) ∧ u.2.1 = (p_ + 1) ∧ u.2.2.1 = (upd kv p_ (kindI (cv tz))) ∧ u.2.2.2 = (upd sw p_ (cv (tz + 1) - 48))) ∧ (¬ (tz < e_ ∧ ¬ kindI (cv tz) = -9 ∧ tz + 1 < e_ ∧ lstT (cv (tz + 1)) 49 57 = true) → r = 0 ∧ u.1 = (if tz < e_ ∧ ¬ kindI (cv tz) = -9 then tz + 1 else tz) ∧ u.2.1 = p_ ∧ u.2.2.1 = (upd kv p_ (if tz < e_ then kindI (cv tz) else -9)) ∧ u.2.2.2 = sw)) (fun u t => va_P D vwCl [(x, .inr (7, [.int fa, .int tr, .ref so, .ref sl, .ref ce, .int (nI n), .int bar, .int (nI tn), .ref ki, .ref si, .ref th, .ref ri, .int (nI u.1), .int (nI u.2.1), .ref rk, .ref rs, .ref kt, .ref kr, .int kn, .int rg, .ref ab, .int am, .ref bh, .int bm, .int br, .int (nI rn), .ref wa, .ref ra])), (rk, .inl (cI, 9, .inl u.2.2.1)), (rs, .inl (cI, 9, .inl u.2.2.2)), (ce, .inl (cI, 240, .inl cv))] t.heap ∧ va_K D vwCl (tyL cI cO) t ∧ va_D (va_A [(x, .inr (7, [.int fa, .int tr, .ref so, .ref sl, .ref ce, .int (nI n), .int bar, .int (nI tn), .ref ki, .ref si, .ref th, .ref ri, .int (nI tz), .int (nI p_), .ref rk, .ref rs, .ref kt, .ref kr, .int kn, .int rg, .ref ab, .int am, .ref bh, .int bm, .int br, .int (nI rn), .ref wa, .ref ra])), (rk, .inl (cI, 9, .inl kv)), (rs, .inl (cI, 9, .inl sw)), (ce, .inl (cI, 240, .inl cv))] sz) [(x, .inr (7, [.int fa, .int tr, .ref so, .ref sl, .ref ce, .int (nI n), .int bar, .int (nI tn), .ref ki, .ref si, .ref th, .ref ri, .int (nI u.1), .int (nI u.2.1), .ref rk, .ref rs, .ref kt, .ref kr, .int kn, .int rg, .ref ab, .int am, .ref bh, .int bm, .int br, .int (nI rn), .ref wa, .ref ra])), (rk, .inl (cI, 9, .inl u.2.2.1)), (rs, .inl (cI, 9, .inl u.2.2.2)), (ce, .inl (cI, 240, .inl cv))]) (va_A [(x, .inr (7, [.int fa, .int tr, .ref so, .ref sl, .ref ce, .int (nI n), .int bar, .int (nI tn), .ref ki, .ref si, .ref th, .ref ri, .int (nI tz), .int (nI p_), .ref rk, .ref rs, .ref kt, .ref kr, .int kn, .int rg, .ref ab, .int am, .ref bh, .int bm, .int br, .int (nI rn), .ref wa, .ref ra])), (rk, .inl (cI, 9, .inl kv)), (rs, .inl (cI, 9, .inl sw)), (ce, .inl (cI, 240, .inl cv))] sz)) 0 0 (va_A [(x, .inr (7, [.int fa, .int tr, .ref so, .ref sl, .ref ce, .int (nI n), .int bar, .int (nI tn), .ref ki, .ref si, .ref th, .ref ri, .int (nI tz), .int (nI p_), .ref rk, .ref rs, .ref kt, .ref kr, .int kn, .int rg, .ref ab, .int am, .ref bh, .int bm, .int br, .int (nI rn), .ref wa, .ref ra])), (rk, .inl (cI, 9, .inl kv)), (rs, .inl (cI, 9, .inl sw)), (ce, .inl (cI, 240, .inl cv))] sz) := by
  refine Met.ofW (cc := cX7_readPerson) (maxL := 3) (ret := (some .boolean)) (by decide) rfl ?_
  intro p e s m args below meth c s₁ B hml hv
  obtain ⟨rfl, hsz, hP, hK, hNw, hD0⟩ := hv
  have hx := B.exec
  have hb := B.bytes
  have hr := B.returns
  have hts := atoms_spec (ws := wsX7_readPerson) B.pre
  have hown : s.vm.findClass RX7 = some m.cls := findClass_of_methodNamed B.named
  have hlocks := B.notSynchronized
  have f16 := hts (.fieldLink RX7 16 "StruckThreesModel" "cells" "[I") (by decide +kernel)
  have f31 := hts (.fieldLink RX7 31 "StruckThreesModel" "readKind" "[I") (by decide +kernel)
  have f34 := hts (.fieldLink RX7 34 "StruckThreesModel" "readSide" "[I") (by decide +kernel)
  have f71 := hts (.fieldLink RX7 71 "StruckThreesModel" "at" "I") (by decide +kernel)
  have f92 := hts (.fieldLink RX7 92 "StruckThreesModel" "readPeople" "I") (by decide +kernel)
  have iX7 : ∀ w ∈ wsX70, w ∈ wsX7_readPerson := by decide +kernel
  subst hsz
  have hD := hD0.self (sz := s.heap.size)
  generalize hAe : va_A [(x, .inr (7, [.int fa, .int tr, .ref so, .ref sl, .ref ce, .int (nI n), .int bar, .int (nI tn), .ref ki, .ref si, .ref th, .ref ri, .int (nI tz), .int (nI p_), .ref rk, .ref rs, .ref kt, .ref kr, .int kn, .int rg, .ref ab, .int am, .ref bh, .int bm, .int br, .int (nI rn), .ref wa, .ref ra])), (rk, .inl (cI, 9, .inl kv)), (rs, .inl (cI, 9, .inl sw)), (ce, .inl (cI, 240, .inl cv))] s.heap.size = A at hD ⊢
  have hA : ∀ q : Nat, s.heap.size ≤ q → A q := fun q h => by rw [← hAe]; exact Or.inr h
  have hS : va_S A s.heap s.heap [] := va_S.rf
  have hP : va_P D vwCl [(x, .inr (7, [.int fa, .int tr, .ref so, .ref sl, .ref ce, .int (nI n), .int bar, .int (nI tn), .ref ki, .ref si, .ref th, .ref ri, .int (nI tz), .int (nI p_), .ref rk, .ref rs, .ref kt, .ref kr, .int kn, .int rg, .ref ab, .int am, .ref bh, .int bm, .int br, .int (nI rn), .ref wa, .ref ra])), (rk, .inl (cI, 9, .inl kv)), (rs, .inl (cI, 9, .inl sw)), (ce, .inl (cI, 240, .inl cv))] s.heap := hP
  have hl := lv_entry ([.ref x, .int (nI e_)]) (n := 3) (Nat.le_of_ble_eq_true rfl)
  rw [lg_entry_eq]
  generalize (lg_sl ([.ref x, .int (nI e_)]) ++ List.replicate (3 - (lg_sl ([.ref x, .int (nI e_)])).length) Slot.unset).toArray = ls at hl ⊢
  have hl : lv_has ls 3 [(0, .ref x), (1, .int (nI e_))] := hl
  refine lv_aload_n hx hb dX7_readPerson_0 rfl (lv_at hl 0 rfl) ?_
  refine va_get (D := D) (ci := 7) (v := .int (nI tz)) (C := RX7) (T := TX7) (N := 28) hx hb hts iX7 hown hK hP 0 rfl rfl 12 (by decide) f71 (fun _ h9 => h9) rfl dX7_readPerson_1 ?_
  refine lv_iload_n hx hb dX7_readPerson_4 rfl (lv_at hl 1 rfl) ?_
  refine lv_icmp_ge (tgt := 20) hx hb dX7_readPerson_5 (by decide) (fun c5 => ?_) (fun c5 => ?_)
  · -- t5
    have z5 : ¬ tz < e_ := fun q => absurd c5 (nI_ge q (by omega))
    refine lv_iconst (v := 0) hx hb dX7_readPerson_20 (by decide) ?_
    refine lv_istore_n (lv' := [(2, .int 0), (0, .ref x), (1, .int (nI e_))]) hx hb dX7_readPerson_21 rfl hl (by decide) rfl (fun ls hl => ?_)
    refine lv_aload_n hx hb dX7_readPerson_22 rfl (lv_at hl 1 rfl) ?_
    refine va_get (D := D) (ci := 7) (v := .ref rk) (C := RX7) (T := TX7) (N := 28) hx hb hts iX7 hown hK hP 0 rfl rfl 14 (by decide) f31 (fun _ h9 => h9) rfl dX7_readPerson_23 ?_
    refine lv_aload_n hx hb dX7_readPerson_26 rfl (lv_at hl 1 rfl) ?_
    refine va_get (D := D) (ci := 7) (v := .int (nI p_)) (C := RX7) (T := TX7) (N := 28) hx hb hts iX7 hown hK hP 0 rfl rfl 13 (by decide) f92 (fun _ h9 => h9) rfl dX7_readPerson_27 ?_
    refine lv_iload_n hx hb dX7_readPerson_30 rfl (lv_at hl 0 rfl) ?_
    refine lv_bipush (v := 115) hx hb dX7_readPerson_31 (by decide) ?_
    refine lv_icmp_ne (tgt := 40) hx hb dX7_readPerson_33 (by decide) (fun _ => ?_) (fun h => absurd h (by decide))
    refine lv_iload_n hx hb dX7_readPerson_40 rfl (lv_at hl 0 rfl) ?_
    refine lv_bipush (v := 119) hx hb dX7_readPerson_41 (by decide) ?_
    refine lv_icmp_ne (tgt := 50) hx hb dX7_readPerson_43 (by decide) (fun _ => ?_) (fun h => absurd h (by decide))
    refine lv_iload_n hx hb dX7_readPerson_50 rfl (lv_at hl 0 rfl) ?_
    refine lv_bipush (v := 98) hx hb dX7_readPerson_51 (by decide) ?_
    refine lv_icmp_ne (tgt := 60) hx hb dX7_readPerson_53 (by decide) (fun _ => ?_) (fun h => absurd h (by decide))
    refine lv_bipush (v := -9) hx hb dX7_readPerson_60 (by decide) ?_
    refine va_iast hx hb hK hP hD hS 1 0 rfl rfl (vp_in_nI (by omega) (by decide)) dX7_readPerson_62 (fun H locs hP hD hS => ?_)
    rw [nI_clamp (n := p_) (by omega)] at hP hD
    have hP : va_P D vwCl [(x, .inr (7, [.int fa, .int tr, .ref so, .ref sl, .ref ce, .int (nI n), .int bar, .int (nI tn), .ref ki, .ref si, .ref th, .ref ri, .int (nI tz), .int (nI p_), .ref rk, .ref rs, .ref kt, .ref kr, .int kn, .int rg, .ref ab, .int am, .ref bh, .int bm, .int br, .int (nI rn), .ref wa, .ref ra])), (rk, .inl (cI, 9, .inl (upd kv p_ (-9)))), (rs, .inl (cI, 9, .inl sw)), (ce, .inl (cI, 240, .inl cv))] H := hP
    have hD : va_D A [(x, .inr (7, [.int fa, .int tr, .ref so, .ref sl, .ref ce, .int (nI n), .int bar, .int (nI tn), .ref ki, .ref si, .ref th, .ref ri, .int (nI tz), .int (nI p_), .ref rk, .ref rs, .ref kt, .ref kr, .int kn, .int rg, .ref ab, .int am, .ref bh, .int bm, .int br, .int (nI rn), .ref wa, .ref ra])), (rk, .inl (cI, 9, .inl (upd kv p_ (-9)))), (rs, .inl (cI, 9, .inl sw)), (ce, .inl (cI, 240, .inl cv))] := hD
    refine lv_aload_n hx hb dX7_readPerson_63 rfl (lv_at hl 1 rfl) ?_
    refine va_get (D := D) (ci := 7) (v := .ref rk) (C := RX7) (T := TX7) (N := 28) hx hb hts iX7 hown hK hP 0 rfl rfl 14 (by decide) f31 (fun _ h9 => h9) rfl dX7_readPerson_64 ?_
    refine lv_aload_n hx hb dX7_readPerson_67 rfl (lv_at hl 1 rfl) ?_
    refine va_get (D := D) (ci := 7) (v := .int (nI p_)) (C := RX7) (T := TX7) (N := 28) hx hb hts iX7 hown hK hP 0 rfl rfl 13 (by decide) f92 (fun _ h9 => h9) rfl dX7_readPerson_68 ?_
    refine va_iald hx hb hK hP 1 0 rfl rfl (vp_in_nI (by omega) (by decide)) dX7_readPerson_71 ?_
    refine tp_i (y := (upd kv p_ (-9)) p_) (by rw [nI_clamp (n := p_) (by omega)]) ?_
    refine tp_i (y := -9) (by unfold upd; rw [if_pos rfl]) ?_
    refine lv_bipush (v := -9) hx hb dX7_readPerson_72 (by decide) ?_
    refine lv_icmp_ne (tgt := 79) hx hb dX7_readPerson_74 (by decide) (fun h => absurd (by decide) h) (fun _ => ?_)
    refine lv_iconst (v := 0) hx hb dX7_readPerson_77 (by decide) ?_
    exact W.zret (v := 0) (ty := .boolean) hx hb hr rfl (fun t ht hW => ⟨⟨_, (tz, p_, upd kv p_ (-9), sw), rfl, by exact ⟨fun q => absurd q.1 z5, fun _ => by simp [z5]⟩, by rw [ht]; exact hP, va_K.moved hW.alike hK, hD⟩, hS.F ht⟩) hS.2.2 dX7_readPerson_78
  · -- f5
    have z5 : tz < e_ := lt_n (by omega) (by omega) c5
    refine lv_aload_n hx hb dX7_readPerson_8 rfl (lv_at hl 0 rfl) ?_
    refine va_get (D := D) (ci := 7) (v := .ref ce) (C := RX7) (T := TX7) (N := 28) hx hb hts iX7 hown hK hP 0 rfl rfl 4 (by decide) f16 (fun _ h9 => h9) rfl dX7_readPerson_9 ?_
    refine lv_aload_n hx hb dX7_readPerson_12 rfl (lv_at hl 0 rfl) ?_
    refine va_get (D := D) (ci := 7) (v := .int (nI tz)) (C := RX7) (T := TX7) (N := 28) hx hb hts iX7 hown hK hP 0 rfl rfl 12 (by decide) f71 (fun _ h9 => h9) rfl dX7_readPerson_13 ?_
    refine va_iald hx hb hK hP 3 0 rfl rfl (vp_in_nI (by omega) (by decide)) dX7_readPerson_16 ?_
    refine tp_i (y := cv tz) (by rw [nI_clamp (n := tz) (by omega)]) ?_
    refine lv_goto (tgt := 21) hx hb dX7_readPerson_17 (by decide) ?_
    refine lv_istore_n (lv' := [(2, .int (cv tz)), (0, .ref x), (1, .int (nI e_))]) hx hb dX7_readPerson_21 rfl hl (by decide) rfl (fun ls hl => ?_)
    refine lv_aload_n hx hb dX7_readPerson_22 rfl (lv_at hl 1 rfl) ?_
    refine va_get (D := D) (ci := 7) (v := .ref rk) (C := RX7) (T := TX7) (N := 28) hx hb hts iX7 hown hK hP 0 rfl rfl 14 (by decide) f31 (fun _ h9 => h9) rfl dX7_readPerson_23 ?_
    refine lv_aload_n hx hb dX7_readPerson_26 rfl (lv_at hl 1 rfl) ?_
    refine va_get (D := D) (ci := 7) (v := .int (nI p_)) (C := RX7) (T := TX7) (N := 28) hx hb hts iX7 hown hK hP 0 rfl rfl 13 (by decide) f92 (fun _ h9 => h9) rfl dX7_readPerson_27 ?_
    refine lv_iload_n hx hb dX7_readPerson_30 rfl (lv_at hl 0 rfl) ?_
    refine lv_bipush (v := 115) hx hb dX7_readPerson_31 (by decide) ?_
    refine lv_icmp_ne (tgt := 40) hx hb dX7_readPerson_33 (by decide) (fun c33 => ?_) (fun c33 => ?_)
    · -- t33
      refine lv_iload_n hx hb dX7_readPerson_40 rfl (lv_at hl 0 rfl) ?_
      refine lv_bipush (v := 119) hx hb dX7_readPerson_41 (by decide) ?_
      refine lv_icmp_ne (tgt := 50) hx hb dX7_readPerson_43 (by decide) (fun c43 => ?_) (fun c43 => ?_)
      · -- t43
        refine lv_iload_n hx hb dX7_readPerson_50 rfl (lv_at hl 0 rfl) ?_
        refine lv_bipush (v := 98) hx hb dX7_readPerson_51 (by decide) ?_
        refine lv_icmp_ne (tgt := 60) hx hb dX7_readPerson_53 (by decide) (fun c53 => ?_) (fun c53 => ?_)
        · -- t53
          refine lv_bipush (v := -9) hx hb dX7_readPerson_60 (by decide) ?_
          refine tp_i (y := kindI (cv tz)) (by simp [kindI, *]) ?_
          refine va_iast hx hb hK hP hD hS 1 0 rfl rfl (vp_in_nI (by omega) (by decide)) dX7_readPerson_62 (fun H locs hP hD hS => ?_)
          rw [nI_clamp (n := p_) (by omega)] at hP hD
          have hP : va_P D vwCl [(x, .inr (7, [.int fa, .int tr, .ref so, .ref sl, .ref ce, .int (nI n), .int bar, .int (nI tn), .ref ki, .ref si, .ref th, .ref ri, .int (nI tz), .int (nI p_), .ref rk, .ref rs, .ref kt, .ref kr, .int kn, .int rg, .ref ab, .int am, .ref bh, .int bm, .int br, .int (nI rn), .ref wa, .ref ra])), (rk, .inl (cI, 9, .inl (upd kv p_ (kindI (cv tz))))), (rs, .inl (cI, 9, .inl sw)), (ce, .inl (cI, 240, .inl cv))] H := hP
          have hD : va_D A [(x, .inr (7, [.int fa, .int tr, .ref so, .ref sl, .ref ce, .int (nI n), .int bar, .int (nI tn), .ref ki, .ref si, .ref th, .ref ri, .int (nI tz), .int (nI p_), .ref rk, .ref rs, .ref kt, .ref kr, .int kn, .int rg, .ref ab, .int am, .ref bh, .int bm, .int br, .int (nI rn), .ref wa, .ref ra])), (rk, .inl (cI, 9, .inl (upd kv p_ (kindI (cv tz))))), (rs, .inl (cI, 9, .inl sw)), (ce, .inl (cI, 240, .inl cv))] := hD
          refine lv_aload_n hx hb dX7_readPerson_63 rfl (lv_at hl 1 rfl) ?_
          refine va_get (D := D) (ci := 7) (v := .ref rk) (C := RX7) (T := TX7) (N := 28) hx hb hts iX7 hown hK hP 0 rfl rfl 14 (by decide) f31 (fun _ h9 => h9) rfl dX7_readPerson_64 ?_
          refine lv_aload_n hx hb dX7_readPerson_67 rfl (lv_at hl 1 rfl) ?_
          refine va_get (D := D) (ci := 7) (v := .int (nI p_)) (C := RX7) (T := TX7) (N := 28) hx hb hts iX7 hown hK hP 0 rfl rfl 13 (by decide) f92 (fun _ h9 => h9) rfl dX7_readPerson_68 ?_
          refine va_iald hx hb hK hP 1 0 rfl rfl (vp_in_nI (by omega) (by decide)) dX7_readPerson_71 ?_
          refine tp_i (y := (upd kv p_ (kindI (cv tz))) p_) (by rw [nI_clamp (n := p_) (by omega)]) ?_
          refine tp_i (y := kindI (cv tz)) (by unfold upd; rw [if_pos rfl]) ?_
          refine lv_bipush (v := -9) hx hb dX7_readPerson_72 (by decide) ?_
          refine lv_icmp_ne (tgt := 79) hx hb dX7_readPerson_74 (by decide) (fun c74 => ?_) (fun c74 => ?_)
          · -- t74
            refine lv_aload_n hx hb dX7_readPerson_79 rfl (lv_at hl 1 rfl) ?_
            refine lv_dup hx hb dX7_readPerson_80 rfl ?_
            refine va_get (D := D) (ci := 7) (v := .int (nI tz)) (C := RX7) (T := TX7) (N := 28) hx hb hts iX7 hown hK hP 0 rfl rfl 12 (by decide) f71 (fun _ h9 => h9) rfl dX7_readPerson_81 ?_
            refine lv_iconst (v := 1) hx hb dX7_readPerson_84 (by decide) ?_
            refine lv_iadd hx hb dX7_readPerson_85 ?_
            refine tp_i (y := nI (tz + 1)) (nI_1 _) ?_
            refine va_put (D := D) (ci := 7) (v := .int (nI (tz + 1))) (ty := .int) (C := RX7) (T := TX7) (N := 28) hx hb hts iX7 tyX7 tyX7_ok nmX7 hown hK hP hD hS 0 rfl rfl 12 (by decide) f71 (fun _ h9 => h9) rfl (by decide +kernel) rfl rfl (Nat.le_of_ble_eq_true rfl) dX7_readPerson_86 (fun H locs hP hD hS => ?_)
            have hP : va_P D vwCl [(x, .inr (7, [.int fa, .int tr, .ref so, .ref sl, .ref ce, .int (nI n), .int bar, .int (nI tn), .ref ki, .ref si, .ref th, .ref ri, .int (nI (tz + 1)), .int (nI p_), .ref rk, .ref rs, .ref kt, .ref kr, .int kn, .int rg, .ref ab, .int am, .ref bh, .int bm, .int br, .int (nI rn), .ref wa, .ref ra])), (rk, .inl (cI, 9, .inl (upd kv p_ (kindI (cv tz))))), (rs, .inl (cI, 9, .inl sw)), (ce, .inl (cI, 240, .inl cv))] H := hP
            have hD : va_D A [(x, .inr (7, [.int fa, .int tr, .ref so, .ref sl, .ref ce, .int (nI n), .int bar, .int (nI tn), .ref ki, .ref si, .ref th, .ref ri, .int (nI (tz + 1)), .int (nI p_), .ref rk, .ref rs, .ref kt, .ref kr, .int kn, .int rg, .ref ab, .int am, .ref bh, .int bm, .int br, .int (nI rn), .ref wa, .ref ra])), (rk, .inl (cI, 9, .inl (upd kv p_ (kindI (cv tz))))), (rs, .inl (cI, 9, .inl sw)), (ce, .inl (cI, 240, .inl cv))] := hD
            refine lv_aload_n hx hb dX7_readPerson_89 rfl (lv_at hl 1 rfl) ?_
            refine va_get (D := D) (ci := 7) (v := .int (nI (tz + 1))) (C := RX7) (T := TX7) (N := 28) hx hb hts iX7 hown hK hP 0 rfl rfl 12 (by decide) f71 (fun _ h9 => h9) rfl dX7_readPerson_90 ?_
            refine lv_iload_n hx hb dX7_readPerson_93 rfl (lv_at hl 2 rfl) ?_
            refine lv_icmp_ge (tgt := 116) hx hb dX7_readPerson_94 (by decide) (fun c94 => ?_) (fun c94 => ?_)
            · -- t94
              have z94 : ¬ tz + 1 < e_ := fun q => absurd c94 (nI_ge q (by omega))
              refine lv_iconst (v := 0) hx hb dX7_readPerson_116 (by decide) ?_
              exact W.zret (v := 0) (ty := .boolean) hx hb hr rfl (fun t ht hW => ⟨⟨_, ((tz + 1), p_, upd kv p_ (kindI (cv tz)), sw), rfl, by exact ⟨fun q => by first | exact absurd q.2.2.1 z94 | exact absurd q.2.2.2 b110, fun _ => by simp [z5, c74]⟩, by rw [ht]; exact hP, va_K.moved hW.alike hK, hD⟩, hS.F ht⟩) hS.2.2 dX7_readPerson_117
            · -- f94
              have z94 : tz + 1 < e_ := lt_n (by omega) (by omega) c94
              refine lv_aload_n hx hb dX7_readPerson_97 rfl (lv_at hl 1 rfl) ?_
              refine va_get (D := D) (ci := 7) (v := .ref ce) (C := RX7) (T := TX7) (N := 28) hx hb hts iX7 hown hK hP 0 rfl rfl 4 (by decide) f16 (fun _ h9 => h9) rfl dX7_readPerson_98 ?_
              refine lv_aload_n hx hb dX7_readPerson_101 rfl (lv_at hl 1 rfl) ?_
              refine va_get (D := D) (ci := 7) (v := .int (nI (tz + 1))) (C := RX7) (T := TX7) (N := 28) hx hb hts iX7 hown hK hP 0 rfl rfl 12 (by decide) f71 (fun _ h9 => h9) rfl dX7_readPerson_102 ?_
              refine va_iald hx hb hK hP 3 0 rfl rfl (vp_in_nI (by omega) (by decide)) dX7_readPerson_105 ?_
              refine tp_i (y := cv (tz + 1)) (by rw [nI_clamp (n := (tz + 1)) (by omega)]) ?_
              refine lv_bipush (v := 49) hx hb dX7_readPerson_106 (by decide) ?_
              refine lv_bipush (v := 57) hx hb dX7_readPerson_108 (by decide) ?_
              have hPc := hP.sub (ws' := []) [] rfl
              refine vp_callSi (va_Run.run (va_runS (As := [.int (cv (tz + 1)), .int 49, .int 57]) (rest := []) ⟨hx, hb, hml, hown, hts⟩ (c_X7_within l D cI cO (cv (tz + 1)) 49 57) (va_cwS 3 hts gX7_readPerson_X7_within rfl rfl rfl (by decide +kernel) ⟨Nat.le_of_ble_eq_true rfl, Nat.le_of_ble_eq_true rfl⟩) (preSR hPc hK hNw) rfl rfl hl.1 rfl (lv_room (Nat.le_of_ble_eq_true rfl)) dX7_readPerson_110 ⟨Nat.zero_le _, Nat.zero_le _⟩)) (fun r110 w110 => ?_)
              by_cases b110 : lstT (cv (tz + 1)) 49 57 = true
              · -- y110
                obtain rfl := w110.1 b110
                refine lv_if_ne (tgt := 118) hx hb dX7_readPerson_113 (by decide) (fun _ => ?_) (fun h => absurd h (by decide))
                refine lv_aload_n hx hb dX7_readPerson_118 rfl (lv_at hl 1 rfl) ?_
                refine va_get (D := D) (ci := 7) (v := .ref rs) (C := RX7) (T := TX7) (N := 28) hx hb hts iX7 hown hK hP 0 rfl rfl 15 (by decide) f34 (fun _ h9 => h9) rfl dX7_readPerson_119 ?_
                refine lv_aload_n hx hb dX7_readPerson_122 rfl (lv_at hl 1 rfl) ?_
                refine va_get (D := D) (ci := 7) (v := .int (nI p_)) (C := RX7) (T := TX7) (N := 28) hx hb hts iX7 hown hK hP 0 rfl rfl 13 (by decide) f92 (fun _ h9 => h9) rfl dX7_readPerson_123 ?_
                refine lv_aload_n hx hb dX7_readPerson_126 rfl (lv_at hl 1 rfl) ?_
                refine va_get (D := D) (ci := 7) (v := .ref ce) (C := RX7) (T := TX7) (N := 28) hx hb hts iX7 hown hK hP 0 rfl rfl 4 (by decide) f16 (fun _ h9 => h9) rfl dX7_readPerson_127 ?_
                refine lv_aload_n hx hb dX7_readPerson_130 rfl (lv_at hl 1 rfl) ?_
                refine va_get (D := D) (ci := 7) (v := .int (nI (tz + 1))) (C := RX7) (T := TX7) (N := 28) hx hb hts iX7 hown hK hP 0 rfl rfl 12 (by decide) f71 (fun _ h9 => h9) rfl dX7_readPerson_131 ?_
                refine va_iald hx hb hK hP 3 0 rfl rfl (vp_in_nI (by omega) (by decide)) dX7_readPerson_134 ?_
                refine tp_i (y := cv (tz + 1)) (by rw [nI_clamp (n := (tz + 1)) (by omega)]) ?_
                refine lv_bipush (v := 48) hx hb dX7_readPerson_135 (by decide) ?_
                refine lv_isub hx hb dX7_readPerson_137 ?_
                refine va_iast hx hb hK hP hD hS 2 0 rfl rfl (vp_in_nI (by omega) (by decide)) dX7_readPerson_138 (fun H locs hP hD hS => ?_)
                rw [nI_clamp (n := p_) (by omega)] at hP hD
                have hP : va_P D vwCl [(x, .inr (7, [.int fa, .int tr, .ref so, .ref sl, .ref ce, .int (nI n), .int bar, .int (nI tn), .ref ki, .ref si, .ref th, .ref ri, .int (nI (tz + 1)), .int (nI p_), .ref rk, .ref rs, .ref kt, .ref kr, .int kn, .int rg, .ref ab, .int am, .ref bh, .int bm, .int br, .int (nI rn), .ref wa, .ref ra])), (rk, .inl (cI, 9, .inl (upd kv p_ (kindI (cv tz))))), (rs, .inl (cI, 9, .inl (upd sw p_ ((cv (tz + 1)) - 48)))), (ce, .inl (cI, 240, .inl cv))] H := hP
                have hD : va_D A [(x, .inr (7, [.int fa, .int tr, .ref so, .ref sl, .ref ce, .int (nI n), .int bar, .int (nI tn), .ref ki, .ref si, .ref th, .ref ri, .int (nI (tz + 1)), .int (nI p_), .ref rk, .ref rs, .ref kt, .ref kr, .int kn, .int rg, .ref ab, .int am, .ref bh, .int bm, .int br, .int (nI rn), .ref wa, .ref ra])), (rk, .inl (cI, 9, .inl (upd kv p_ (kindI (cv tz))))), (rs, .inl (cI, 9, .inl (upd sw p_ ((cv (tz + 1)) - 48)))), (ce, .inl (cI, 240, .inl cv))] := hD
                refine lv_aload_n hx hb dX7_readPerson_139 rfl (lv_at hl 1 rfl) ?_
                refine lv_dup hx hb dX7_readPerson_140 rfl ?_
                refine va_get (D := D) (ci := 7) (v := .int (nI (tz + 1))) (C := RX7) (T := TX7) (N := 28) hx hb hts iX7 hown hK hP 0 rfl rfl 12 (by decide) f71 (fun _ h9 => h9) rfl dX7_readPerson_141 ?_
                refine lv_iconst (v := 1) hx hb dX7_readPerson_144 (by decide) ?_
                refine lv_iadd hx hb dX7_readPerson_145 ?_
                refine tp_i (y := nI (tz + 1 + 1)) (nI_1 _) ?_
                refine va_put (D := D) (ci := 7) (v := .int (nI (tz + 1 + 1))) (ty := .int) (C := RX7) (T := TX7) (N := 28) hx hb hts iX7 tyX7 tyX7_ok nmX7 hown hK hP hD hS 0 rfl rfl 12 (by decide) f71 (fun _ h9 => h9) rfl (by decide +kernel) rfl rfl (Nat.le_of_ble_eq_true rfl) dX7_readPerson_146 (fun H locs hP hD hS => ?_)
                have hP : va_P D vwCl [(x, .inr (7, [.int fa, .int tr, .ref so, .ref sl, .ref ce, .int (nI n), .int bar, .int (nI tn), .ref ki, .ref si, .ref th, .ref ri, .int (nI (tz + 1 + 1)), .int (nI p_), .ref rk, .ref rs, .ref kt, .ref kr, .int kn, .int rg, .ref ab, .int am, .ref bh, .int bm, .int br, .int (nI rn), .ref wa, .ref ra])), (rk, .inl (cI, 9, .inl (upd kv p_ (kindI (cv tz))))), (rs, .inl (cI, 9, .inl (upd sw p_ ((cv (tz + 1)) - 48)))), (ce, .inl (cI, 240, .inl cv))] H := hP
                have hD : va_D A [(x, .inr (7, [.int fa, .int tr, .ref so, .ref sl, .ref ce, .int (nI n), .int bar, .int (nI tn), .ref ki, .ref si, .ref th, .ref ri, .int (nI (tz + 1 + 1)), .int (nI p_), .ref rk, .ref rs, .ref kt, .ref kr, .int kn, .int rg, .ref ab, .int am, .ref bh, .int bm, .int br, .int (nI rn), .ref wa, .ref ra])), (rk, .inl (cI, 9, .inl (upd kv p_ (kindI (cv tz))))), (rs, .inl (cI, 9, .inl (upd sw p_ ((cv (tz + 1)) - 48)))), (ce, .inl (cI, 240, .inl cv))] := hD
                refine lv_aload_n hx hb dX7_readPerson_149 rfl (lv_at hl 1 rfl) ?_
                refine lv_dup hx hb dX7_readPerson_150 rfl ?_
                refine va_get (D := D) (ci := 7) (v := .int (nI p_)) (C := RX7) (T := TX7) (N := 28) hx hb hts iX7 hown hK hP 0 rfl rfl 13 (by decide) f92 (fun _ h9 => h9) rfl dX7_readPerson_151 ?_
                refine lv_iconst (v := 1) hx hb dX7_readPerson_154 (by decide) ?_
                refine lv_iadd hx hb dX7_readPerson_155 ?_
                refine tp_i (y := nI (p_ + 1)) (nI_1 _) ?_
                refine va_put (D := D) (ci := 7) (v := .int (nI (p_ + 1))) (ty := .int) (C := RX7) (T := TX7) (N := 28) hx hb hts iX7 tyX7 tyX7_ok nmX7 hown hK hP hD hS 0 rfl rfl 13 (by decide) f92 (fun _ h9 => h9) rfl (by decide +kernel) rfl rfl (Nat.le_of_ble_eq_true rfl) dX7_readPerson_156 (fun H locs hP hD hS => ?_)
                have hP : va_P D vwCl [(x, .inr (7, [.int fa, .int tr, .ref so, .ref sl, .ref ce, .int (nI n), .int bar, .int (nI tn), .ref ki, .ref si, .ref th, .ref ri, .int (nI (tz + 1 + 1)), .int (nI (p_ + 1)), .ref rk, .ref rs, .ref kt, .ref kr, .int kn, .int rg, .ref ab, .int am, .ref bh, .int bm, .int br, .int (nI rn), .ref wa, .ref ra])), (rk, .inl (cI, 9, .inl (upd kv p_ (kindI (cv tz))))), (rs, .inl (cI, 9, .inl (upd sw p_ ((cv (tz + 1)) - 48)))), (ce, .inl (cI, 240, .inl cv))] H := hP
                have hD : va_D A [(x, .inr (7, [.int fa, .int tr, .ref so, .ref sl, .ref ce, .int (nI n), .int bar, .int (nI tn), .ref ki, .ref si, .ref th, .ref ri, .int (nI (tz + 1 + 1)), .int (nI (p_ + 1)), .ref rk, .ref rs, .ref kt, .ref kr, .int kn, .int rg, .ref ab, .int am, .ref bh, .int bm, .int br, .int (nI rn), .ref wa, .ref ra])), (rk, .inl (cI, 9, .inl (upd kv p_ (kindI (cv tz))))), (rs, .inl (cI, 9, .inl (upd sw p_ ((cv (tz + 1)) - 48)))), (ce, .inl (cI, 240, .inl cv))] := hD
                refine lv_iconst (v := 1) hx hb dX7_readPerson_159 (by decide) ?_
                exact W.zret (v := 1) (ty := .boolean) hx hb hr rfl (fun t ht hW => ⟨⟨_, ((tz + 1 + 1), (p_ + 1), upd kv p_ (kindI (cv tz)), upd sw p_ ((cv (tz + 1)) - 48)), rfl, by exact ⟨fun _ => ⟨rfl, rfl, rfl, rfl, rfl⟩, fun q => absurd ⟨z5, c74, z94, b110⟩ q⟩, by rw [ht]; exact hP, va_K.moved hW.alike hK, hD⟩, hS.F ht⟩) hS.2.2 dX7_readPerson_160
              · -- n110
                obtain rfl := w110.2 b110
                refine lv_if_ne (tgt := 118) hx hb dX7_readPerson_113 (by decide) (fun h => absurd (by decide) h) (fun _ => ?_)
                refine lv_iconst (v := 0) hx hb dX7_readPerson_116 (by decide) ?_
                exact W.zret (v := 0) (ty := .boolean) hx hb hr rfl (fun t ht hW => ⟨⟨_, ((tz + 1), p_, upd kv p_ (kindI (cv tz)), sw), rfl, by exact ⟨fun q => by first | exact absurd q.2.2.1 z94 | exact absurd q.2.2.2 b110, fun _ => by simp [z5, c74]⟩, by rw [ht]; exact hP, va_K.moved hW.alike hK, hD⟩, hS.F ht⟩) hS.2.2 dX7_readPerson_117
          · -- f74
            refine lv_iconst (v := 0) hx hb dX7_readPerson_77 (by decide) ?_
            exact W.zret (v := 0) (ty := .boolean) hx hb hr rfl (fun t ht hW => ⟨⟨_, (tz, p_, upd kv p_ (kindI (cv tz)), sw), rfl, by exact ⟨fun q => absurd c74 q.2.1, fun _ => by simp [z5, c74]⟩, by rw [ht]; exact hP, va_K.moved hW.alike hK, hD⟩, hS.F ht⟩) hS.2.2 dX7_readPerson_78
        · -- f53
          refine lv_iconst (v := 2) hx hb dX7_readPerson_56 (by decide) ?_
          refine lv_goto (tgt := 62) hx hb dX7_readPerson_57 (by decide) ?_
          refine tp_i (y := kindI (cv tz)) (by simp [kindI, *]) ?_
          refine va_iast hx hb hK hP hD hS 1 0 rfl rfl (vp_in_nI (by omega) (by decide)) dX7_readPerson_62 (fun H locs hP hD hS => ?_)
          rw [nI_clamp (n := p_) (by omega)] at hP hD
          have hP : va_P D vwCl [(x, .inr (7, [.int fa, .int tr, .ref so, .ref sl, .ref ce, .int (nI n), .int bar, .int (nI tn), .ref ki, .ref si, .ref th, .ref ri, .int (nI tz), .int (nI p_), .ref rk, .ref rs, .ref kt, .ref kr, .int kn, .int rg, .ref ab, .int am, .ref bh, .int bm, .int br, .int (nI rn), .ref wa, .ref ra])), (rk, .inl (cI, 9, .inl (upd kv p_ (kindI (cv tz))))), (rs, .inl (cI, 9, .inl sw)), (ce, .inl (cI, 240, .inl cv))] H := hP
          have hD : va_D A [(x, .inr (7, [.int fa, .int tr, .ref so, .ref sl, .ref ce, .int (nI n), .int bar, .int (nI tn), .ref ki, .ref si, .ref th, .ref ri, .int (nI tz), .int (nI p_), .ref rk, .ref rs, .ref kt, .ref kr, .int kn, .int rg, .ref ab, .int am, .ref bh, .int bm, .int br, .int (nI rn), .ref wa, .ref ra])), (rk, .inl (cI, 9, .inl (upd kv p_ (kindI (cv tz))))), (rs, .inl (cI, 9, .inl sw)), (ce, .inl (cI, 240, .inl cv))] := hD
          refine lv_aload_n hx hb dX7_readPerson_63 rfl (lv_at hl 1 rfl) ?_
          refine va_get (D := D) (ci := 7) (v := .ref rk) (C := RX7) (T := TX7) (N := 28) hx hb hts iX7 hown hK hP 0 rfl rfl 14 (by decide) f31 (fun _ h9 => h9) rfl dX7_readPerson_64 ?_
          refine lv_aload_n hx hb dX7_readPerson_67 rfl (lv_at hl 1 rfl) ?_
          refine va_get (D := D) (ci := 7) (v := .int (nI p_)) (C := RX7) (T := TX7) (N := 28) hx hb hts iX7 hown hK hP 0 rfl rfl 13 (by decide) f92 (fun _ h9 => h9) rfl dX7_readPerson_68 ?_
          refine va_iald hx hb hK hP 1 0 rfl rfl (vp_in_nI (by omega) (by decide)) dX7_readPerson_71 ?_
          refine tp_i (y := (upd kv p_ (kindI (cv tz))) p_) (by rw [nI_clamp (n := p_) (by omega)]) ?_
          refine tp_i (y := kindI (cv tz)) (by unfold upd; rw [if_pos rfl]) ?_
          refine lv_bipush (v := -9) hx hb dX7_readPerson_72 (by decide) ?_
          refine lv_icmp_ne (tgt := 79) hx hb dX7_readPerson_74 (by decide) (fun c74 => ?_) (fun c74 => ?_)
          · -- t74
            refine lv_aload_n hx hb dX7_readPerson_79 rfl (lv_at hl 1 rfl) ?_
            refine lv_dup hx hb dX7_readPerson_80 rfl ?_
            refine va_get (D := D) (ci := 7) (v := .int (nI tz)) (C := RX7) (T := TX7) (N := 28) hx hb hts iX7 hown hK hP 0 rfl rfl 12 (by decide) f71 (fun _ h9 => h9) rfl dX7_readPerson_81 ?_
            refine lv_iconst (v := 1) hx hb dX7_readPerson_84 (by decide) ?_
            refine lv_iadd hx hb dX7_readPerson_85 ?_
            refine tp_i (y := nI (tz + 1)) (nI_1 _) ?_
            refine va_put (D := D) (ci := 7) (v := .int (nI (tz + 1))) (ty := .int) (C := RX7) (T := TX7) (N := 28) hx hb hts iX7 tyX7 tyX7_ok nmX7 hown hK hP hD hS 0 rfl rfl 12 (by decide) f71 (fun _ h9 => h9) rfl (by decide +kernel) rfl rfl (Nat.le_of_ble_eq_true rfl) dX7_readPerson_86 (fun H locs hP hD hS => ?_)
            have hP : va_P D vwCl [(x, .inr (7, [.int fa, .int tr, .ref so, .ref sl, .ref ce, .int (nI n), .int bar, .int (nI tn), .ref ki, .ref si, .ref th, .ref ri, .int (nI (tz + 1)), .int (nI p_), .ref rk, .ref rs, .ref kt, .ref kr, .int kn, .int rg, .ref ab, .int am, .ref bh, .int bm, .int br, .int (nI rn), .ref wa, .ref ra])), (rk, .inl (cI, 9, .inl (upd kv p_ (kindI (cv tz))))), (rs, .inl (cI, 9, .inl sw)), (ce, .inl (cI, 240, .inl cv))] H := hP
            have hD : va_D A [(x, .inr (7, [.int fa, .int tr, .ref so, .ref sl, .ref ce, .int (nI n), .int bar, .int (nI tn), .ref ki, .ref si, .ref th, .ref ri, .int (nI (tz + 1)), .int (nI p_), .ref rk, .ref rs, .ref kt, .ref kr, .int kn, .int rg, .ref ab, .int am, .ref bh, .int bm, .int br, .int (nI rn), .ref wa, .ref ra])), (rk, .inl (cI, 9, .inl (upd kv p_ (kindI (cv tz))))), (rs, .inl (cI, 9, .inl sw)), (ce, .inl (cI, 240, .inl cv))] := hD
            refine lv_aload_n hx hb dX7_readPerson_89 rfl (lv_at hl 1 rfl) ?_
            refine va_get (D := D) (ci := 7) (v := .int (nI (tz + 1))) (C := RX7) (T := TX7) (N := 28) hx hb hts iX7 hown hK hP 0 rfl rfl 12 (by decide) f71 (fun _ h9 => h9) rfl dX7_readPerson_90 ?_
            refine lv_iload_n hx hb dX7_readPerson_93 rfl (lv_at hl 2 rfl) ?_
            refine lv_icmp_ge (tgt := 116) hx hb dX7_readPerson_94 (by decide) (fun c94 => ?_) (fun c94 => ?_)
            · -- t94
              have z94 : ¬ tz + 1 < e_ := fun q => absurd c94 (nI_ge q (by omega))
              refine lv_iconst (v := 0) hx hb dX7_readPerson_116 (by decide) ?_
              exact W.zret (v := 0) (ty := .boolean) hx hb hr rfl (fun t ht hW => ⟨⟨_, ((tz + 1), p_, upd kv p_ (kindI (cv tz)), sw), rfl, by exact ⟨fun q => by first | exact absurd q.2.2.1 z94 | exact absurd q.2.2.2 b110, fun _ => by simp [z5, c74]⟩, by rw [ht]; exact hP, va_K.moved hW.alike hK, hD⟩, hS.F ht⟩) hS.2.2 dX7_readPerson_117
            · -- f94
              have z94 : tz + 1 < e_ := lt_n (by omega) (by omega) c94
              refine lv_aload_n hx hb dX7_readPerson_97 rfl (lv_at hl 1 rfl) ?_
              refine va_get (D := D) (ci := 7) (v := .ref ce) (C := RX7) (T := TX7) (N := 28) hx hb hts iX7 hown hK hP 0 rfl rfl 4 (by decide) f16 (fun _ h9 => h9) rfl dX7_readPerson_98 ?_
              refine lv_aload_n hx hb dX7_readPerson_101 rfl (lv_at hl 1 rfl) ?_
              refine va_get (D := D) (ci := 7) (v := .int (nI (tz + 1))) (C := RX7) (T := TX7) (N := 28) hx hb hts iX7 hown hK hP 0 rfl rfl 12 (by decide) f71 (fun _ h9 => h9) rfl dX7_readPerson_102 ?_
              refine va_iald hx hb hK hP 3 0 rfl rfl (vp_in_nI (by omega) (by decide)) dX7_readPerson_105 ?_
              refine tp_i (y := cv (tz + 1)) (by rw [nI_clamp (n := (tz + 1)) (by omega)]) ?_
              refine lv_bipush (v := 49) hx hb dX7_readPerson_106 (by decide) ?_
              refine lv_bipush (v := 57) hx hb dX7_readPerson_108 (by decide) ?_
              have hPc := hP.sub (ws' := []) [] rfl
              refine vp_callSi (va_Run.run (va_runS (As := [.int (cv (tz + 1)), .int 49, .int 57]) (rest := []) ⟨hx, hb, hml, hown, hts⟩ (c_X7_within l D cI cO (cv (tz + 1)) 49 57) (va_cwS 3 hts gX7_readPerson_X7_within rfl rfl rfl (by decide +kernel) ⟨Nat.le_of_ble_eq_true rfl, Nat.le_of_ble_eq_true rfl⟩) (preSR hPc hK hNw) rfl rfl hl.1 rfl (lv_room (Nat.le_of_ble_eq_true rfl)) dX7_readPerson_110 ⟨Nat.zero_le _, Nat.zero_le _⟩)) (fun r110 w110 => ?_)
              by_cases b110 : lstT (cv (tz + 1)) 49 57 = true
              · -- y110
                obtain rfl := w110.1 b110
                refine lv_if_ne (tgt := 118) hx hb dX7_readPerson_113 (by decide) (fun _ => ?_) (fun h => absurd h (by decide))
                refine lv_aload_n hx hb dX7_readPerson_118 rfl (lv_at hl 1 rfl) ?_
                refine va_get (D := D) (ci := 7) (v := .ref rs) (C := RX7) (T := TX7) (N := 28) hx hb hts iX7 hown hK hP 0 rfl rfl 15 (by decide) f34 (fun _ h9 => h9) rfl dX7_readPerson_119 ?_
                refine lv_aload_n hx hb dX7_readPerson_122 rfl (lv_at hl 1 rfl) ?_
                refine va_get (D := D) (ci := 7) (v := .int (nI p_)) (C := RX7) (T := TX7) (N := 28) hx hb hts iX7 hown hK hP 0 rfl rfl 13 (by decide) f92 (fun _ h9 => h9) rfl dX7_readPerson_123 ?_
                refine lv_aload_n hx hb dX7_readPerson_126 rfl (lv_at hl 1 rfl) ?_
                refine va_get (D := D) (ci := 7) (v := .ref ce) (C := RX7) (T := TX7) (N := 28) hx hb hts iX7 hown hK hP 0 rfl rfl 4 (by decide) f16 (fun _ h9 => h9) rfl dX7_readPerson_127 ?_
                refine lv_aload_n hx hb dX7_readPerson_130 rfl (lv_at hl 1 rfl) ?_
                refine va_get (D := D) (ci := 7) (v := .int (nI (tz + 1))) (C := RX7) (T := TX7) (N := 28) hx hb hts iX7 hown hK hP 0 rfl rfl 12 (by decide) f71 (fun _ h9 => h9) rfl dX7_readPerson_131 ?_
                refine va_iald hx hb hK hP 3 0 rfl rfl (vp_in_nI (by omega) (by decide)) dX7_readPerson_134 ?_
                refine tp_i (y := cv (tz + 1)) (by rw [nI_clamp (n := (tz + 1)) (by omega)]) ?_
                refine lv_bipush (v := 48) hx hb dX7_readPerson_135 (by decide) ?_
                refine lv_isub hx hb dX7_readPerson_137 ?_
                refine va_iast hx hb hK hP hD hS 2 0 rfl rfl (vp_in_nI (by omega) (by decide)) dX7_readPerson_138 (fun H locs hP hD hS => ?_)
                rw [nI_clamp (n := p_) (by omega)] at hP hD
                have hP : va_P D vwCl [(x, .inr (7, [.int fa, .int tr, .ref so, .ref sl, .ref ce, .int (nI n), .int bar, .int (nI tn), .ref ki, .ref si, .ref th, .ref ri, .int (nI (tz + 1)), .int (nI p_), .ref rk, .ref rs, .ref kt, .ref kr, .int kn, .int rg, .ref ab, .int am, .ref bh, .int bm, .int br, .int (nI rn), .ref wa, .ref ra])), (rk, .inl (cI, 9, .inl (upd kv p_ (kindI (cv tz))))), (rs, .inl (cI, 9, .inl (upd sw p_ ((cv (tz + 1)) - 48)))), (ce, .inl (cI, 240, .inl cv))] H := hP
                have hD : va_D A [(x, .inr (7, [.int fa, .int tr, .ref so, .ref sl, .ref ce, .int (nI n), .int bar, .int (nI tn), .ref ki, .ref si, .ref th, .ref ri, .int (nI (tz + 1)), .int (nI p_), .ref rk, .ref rs, .ref kt, .ref kr, .int kn, .int rg, .ref ab, .int am, .ref bh, .int bm, .int br, .int (nI rn), .ref wa, .ref ra])), (rk, .inl (cI, 9, .inl (upd kv p_ (kindI (cv tz))))), (rs, .inl (cI, 9, .inl (upd sw p_ ((cv (tz + 1)) - 48)))), (ce, .inl (cI, 240, .inl cv))] := hD
                refine lv_aload_n hx hb dX7_readPerson_139 rfl (lv_at hl 1 rfl) ?_
                refine lv_dup hx hb dX7_readPerson_140 rfl ?_
                refine va_get (D := D) (ci := 7) (v := .int (nI (tz + 1))) (C := RX7) (T := TX7) (N := 28) hx hb hts iX7 hown hK hP 0 rfl rfl 12 (by decide) f71 (fun _ h9 => h9) rfl dX7_readPerson_141 ?_
                refine lv_iconst (v := 1) hx hb dX7_readPerson_144 (by decide) ?_
                refine lv_iadd hx hb dX7_readPerson_145 ?_
                refine tp_i (y := nI (tz + 1 + 1)) (nI_1 _) ?_
                refine va_put (D := D) (ci := 7) (v := .int (nI (tz + 1 + 1))) (ty := .int) (C := RX7) (T := TX7) (N := 28) hx hb hts iX7 tyX7 tyX7_ok nmX7 hown hK hP hD hS 0 rfl rfl 12 (by decide) f71 (fun _ h9 => h9) rfl (by decide +kernel) rfl rfl (Nat.le_of_ble_eq_true rfl) dX7_readPerson_146 (fun H locs hP hD hS => ?_)
                have hP : va_P D vwCl [(x, .inr (7, [.int fa, .int tr, .ref so, .ref sl, .ref ce, .int (nI n), .int bar, .int (nI tn), .ref ki, .ref si, .ref th, .ref ri, .int (nI (tz + 1 + 1)), .int (nI p_), .ref rk, .ref rs, .ref kt, .ref kr, .int kn, .int rg, .ref ab, .int am, .ref bh, .int bm, .int br, .int (nI rn), .ref wa, .ref ra])), (rk, .inl (cI, 9, .inl (upd kv p_ (kindI (cv tz))))), (rs, .inl (cI, 9, .inl (upd sw p_ ((cv (tz + 1)) - 48)))), (ce, .inl (cI, 240, .inl cv))] H := hP
                have hD : va_D A [(x, .inr (7, [.int fa, .int tr, .ref so, .ref sl, .ref ce, .int (nI n), .int bar, .int (nI tn), .ref ki, .ref si, .ref th, .ref ri, .int (nI (tz + 1 + 1)), .int (nI p_), .ref rk, .ref rs, .ref kt, .ref kr, .int kn, .int rg, .ref ab, .int am, .ref bh, .int bm, .int br, .int (nI rn), .ref wa, .ref ra])), (rk, .inl (cI, 9, .inl (upd kv p_ (kindI (cv tz))))), (rs, .inl (cI, 9, .inl (upd sw p_ ((cv (tz + 1)) - 48)))), (ce, .inl (cI, 240, .inl cv))] := hD
                refine lv_aload_n hx hb dX7_readPerson_149 rfl (lv_at hl 1 rfl) ?_
                refine lv_dup hx hb dX7_readPerson_150 rfl ?_
                refine va_get (D := D) (ci := 7) (v := .int (nI p_)) (C := RX7) (T := TX7) (N := 28) hx hb hts iX7 hown hK hP 0 rfl rfl 13 (by decide) f92 (fun _ h9 => h9) rfl dX7_readPerson_151 ?_
                refine lv_iconst (v := 1) hx hb dX7_readPerson_154 (by decide) ?_
                refine lv_iadd hx hb dX7_readPerson_155 ?_
                refine tp_i (y := nI (p_ + 1)) (nI_1 _) ?_
                refine va_put (D := D) (ci := 7) (v := .int (nI (p_ + 1))) (ty := .int) (C := RX7) (T := TX7) (N := 28) hx hb hts iX7 tyX7 tyX7_ok nmX7 hown hK hP hD hS 0 rfl rfl 13 (by decide) f92 (fun _ h9 => h9) rfl (by decide +kernel) rfl rfl (Nat.le_of_ble_eq_true rfl) dX7_readPerson_156 (fun H locs hP hD hS => ?_)
                have hP : va_P D vwCl [(x, .inr (7, [.int fa, .int tr, .ref so, .ref sl, .ref ce, .int (nI n), .int bar, .int (nI tn), .ref ki, .ref si, .ref th, .ref ri, .int (nI (tz + 1 + 1)), .int (nI (p_ + 1)), .ref rk, .ref rs, .ref kt, .ref kr, .int kn, .int rg, .ref ab, .int am, .ref bh, .int bm, .int br, .int (nI rn), .ref wa, .ref ra])), (rk, .inl (cI, 9, .inl (upd kv p_ (kindI (cv tz))))), (rs, .inl (cI, 9, .inl (upd sw p_ ((cv (tz + 1)) - 48)))), (ce, .inl (cI, 240, .inl cv))] H := hP
                have hD : va_D A [(x, .inr (7, [.int fa, .int tr, .ref so, .ref sl, .ref ce, .int (nI n), .int bar, .int (nI tn), .ref ki, .ref si, .ref th, .ref ri, .int (nI (tz + 1 + 1)), .int (nI (p_ + 1)), .ref rk, .ref rs, .ref kt, .ref kr, .int kn, .int rg, .ref ab, .int am, .ref bh, .int bm, .int br, .int (nI rn), .ref wa, .ref ra])), (rk, .inl (cI, 9, .inl (upd kv p_ (kindI (cv tz))))), (rs, .inl (cI, 9, .inl (upd sw p_ ((cv (tz + 1)) - 48)))), (ce, .inl (cI, 240, .inl cv))] := hD
                refine lv_iconst (v := 1) hx hb dX7_readPerson_159 (by decide) ?_
                exact W.zret (v := 1) (ty := .boolean) hx hb hr rfl (fun t ht hW => ⟨⟨_, ((tz + 1 + 1), (p_ + 1), upd kv p_ (kindI (cv tz)), upd sw p_ ((cv (tz + 1)) - 48)), rfl, by exact ⟨fun _ => ⟨rfl, rfl, rfl, rfl, rfl⟩, fun q => absurd ⟨z5, c74, z94, b110⟩ q⟩, by rw [ht]; exact hP, va_K.moved hW.alike hK, hD⟩, hS.F ht⟩) hS.2.2 dX7_readPerson_160
              · -- n110
                obtain rfl := w110.2 b110
                refine lv_if_ne (tgt := 118) hx hb dX7_readPerson_113 (by decide) (fun h => absurd (by decide) h) (fun _ => ?_)
                refine lv_iconst (v := 0) hx hb dX7_readPerson_116 (by decide) ?_
                exact W.zret (v := 0) (ty := .boolean) hx hb hr rfl (fun t ht hW => ⟨⟨_, ((tz + 1), p_, upd kv p_ (kindI (cv tz)), sw), rfl, by exact ⟨fun q => by first | exact absurd q.2.2.1 z94 | exact absurd q.2.2.2 b110, fun _ => by simp [z5, c74]⟩, by rw [ht]; exact hP, va_K.moved hW.alike hK, hD⟩, hS.F ht⟩) hS.2.2 dX7_readPerson_117
          · -- f74
            refine lv_iconst (v := 0) hx hb dX7_readPerson_77 (by decide) ?_
            exact W.zret (v := 0) (ty := .boolean) hx hb hr rfl (fun t ht hW => ⟨⟨_, (tz, p_, upd kv p_ (kindI (cv tz)), sw), rfl, by exact ⟨fun q => absurd c74 q.2.1, fun _ => by simp [z5, c74]⟩, by rw [ht]; exact hP, va_K.moved hW.alike hK, hD⟩, hS.F ht⟩) hS.2.2 dX7_readPerson_78
      · -- f43
        refine lv_iconst (v := 1) hx hb dX7_readPerson_46 (by decide) ?_
        refine lv_goto (tgt := 62) hx hb dX7_readPerson_47 (by decide) ?_
        refine tp_i (y := kindI (cv tz)) (by simp [kindI, *]) ?_
        refine va_iast hx hb hK hP hD hS 1 0 rfl rfl (vp_in_nI (by omega) (by decide)) dX7_readPerson_62 (fun H locs hP hD hS => ?_)
        rw [nI_clamp (n := p_) (by omega)] at hP hD
        have hP : va_P D vwCl [(x, .inr (7, [.int fa, .int tr, .ref so, .ref sl, .ref ce, .int (nI n), .int bar, .int (nI tn), .ref ki, .ref si, .ref th, .ref ri, .int (nI tz), .int (nI p_), .ref rk, .ref rs, .ref kt, .ref kr, .int kn, .int rg, .ref ab, .int am, .ref bh, .int bm, .int br, .int (nI rn), .ref wa, .ref ra])), (rk, .inl (cI, 9, .inl (upd kv p_ (kindI (cv tz))))), (rs, .inl (cI, 9, .inl sw)), (ce, .inl (cI, 240, .inl cv))] H := hP
        have hD : va_D A [(x, .inr (7, [.int fa, .int tr, .ref so, .ref sl, .ref ce, .int (nI n), .int bar, .int (nI tn), .ref ki, .ref si, .ref th, .ref ri, .int (nI tz), .int (nI p_), .ref rk, .ref rs, .ref kt, .ref kr, .int kn, .int rg, .ref ab, .int am, .ref bh, .int bm, .int br, .int (nI rn), .ref wa, .ref ra])), (rk, .inl (cI, 9, .inl (upd kv p_ (kindI (cv tz))))), (rs, .inl (cI, 9, .inl sw)), (ce, .inl (cI, 240, .inl cv))] := hD
        refine lv_aload_n hx hb dX7_readPerson_63 rfl (lv_at hl 1 rfl) ?_
        refine va_get (D := D) (ci := 7) (v := .ref rk) (C := RX7) (T := TX7) (N := 28) hx hb hts iX7 hown hK hP 0 rfl rfl 14 (by decide) f31 (fun _ h9 => h9) rfl dX7_readPerson_64 ?_
        refine lv_aload_n hx hb dX7_readPerson_67 rfl (lv_at hl 1 rfl) ?_
        refine va_get (D := D) (ci := 7) (v := .int (nI p_)) (C := RX7) (T := TX7) (N := 28) hx hb hts iX7 hown hK hP 0 rfl rfl 13 (by decide) f92 (fun _ h9 => h9) rfl dX7_readPerson_68 ?_
        refine va_iald hx hb hK hP 1 0 rfl rfl (vp_in_nI (by omega) (by decide)) dX7_readPerson_71 ?_
        refine tp_i (y := (upd kv p_ (kindI (cv tz))) p_) (by rw [nI_clamp (n := p_) (by omega)]) ?_
        refine tp_i (y := kindI (cv tz)) (by unfold upd; rw [if_pos rfl]) ?_
        refine lv_bipush (v := -9) hx hb dX7_readPerson_72 (by decide) ?_
        refine lv_icmp_ne (tgt := 79) hx hb dX7_readPerson_74 (by decide) (fun c74 => ?_) (fun c74 => ?_)
        · -- t74
          refine lv_aload_n hx hb dX7_readPerson_79 rfl (lv_at hl 1 rfl) ?_
          refine lv_dup hx hb dX7_readPerson_80 rfl ?_
          refine va_get (D := D) (ci := 7) (v := .int (nI tz)) (C := RX7) (T := TX7) (N := 28) hx hb hts iX7 hown hK hP 0 rfl rfl 12 (by decide) f71 (fun _ h9 => h9) rfl dX7_readPerson_81 ?_
          refine lv_iconst (v := 1) hx hb dX7_readPerson_84 (by decide) ?_
          refine lv_iadd hx hb dX7_readPerson_85 ?_
          refine tp_i (y := nI (tz + 1)) (nI_1 _) ?_
          refine va_put (D := D) (ci := 7) (v := .int (nI (tz + 1))) (ty := .int) (C := RX7) (T := TX7) (N := 28) hx hb hts iX7 tyX7 tyX7_ok nmX7 hown hK hP hD hS 0 rfl rfl 12 (by decide) f71 (fun _ h9 => h9) rfl (by decide +kernel) rfl rfl (Nat.le_of_ble_eq_true rfl) dX7_readPerson_86 (fun H locs hP hD hS => ?_)
          have hP : va_P D vwCl [(x, .inr (7, [.int fa, .int tr, .ref so, .ref sl, .ref ce, .int (nI n), .int bar, .int (nI tn), .ref ki, .ref si, .ref th, .ref ri, .int (nI (tz + 1)), .int (nI p_), .ref rk, .ref rs, .ref kt, .ref kr, .int kn, .int rg, .ref ab, .int am, .ref bh, .int bm, .int br, .int (nI rn), .ref wa, .ref ra])), (rk, .inl (cI, 9, .inl (upd kv p_ (kindI (cv tz))))), (rs, .inl (cI, 9, .inl sw)), (ce, .inl (cI, 240, .inl cv))] H := hP
          have hD : va_D A [(x, .inr (7, [.int fa, .int tr, .ref so, .ref sl, .ref ce, .int (nI n), .int bar, .int (nI tn), .ref ki, .ref si, .ref th, .ref ri, .int (nI (tz + 1)), .int (nI p_), .ref rk, .ref rs, .ref kt, .ref kr, .int kn, .int rg, .ref ab, .int am, .ref bh, .int bm, .int br, .int (nI rn), .ref wa, .ref ra])), (rk, .inl (cI, 9, .inl (upd kv p_ (kindI (cv tz))))), (rs, .inl (cI, 9, .inl sw)), (ce, .inl (cI, 240, .inl cv))] := hD
          refine lv_aload_n hx hb dX7_readPerson_89 rfl (lv_at hl 1 rfl) ?_
          refine va_get (D := D) (ci := 7) (v := .int (nI (tz + 1))) (C := RX7) (T := TX7) (N := 28) hx hb hts iX7 hown hK hP 0 rfl rfl 12 (by decide) f71 (fun _ h9 => h9) rfl dX7_readPerson_90 ?_
          refine lv_iload_n hx hb dX7_readPerson_93 rfl (lv_at hl 2 rfl) ?_
          refine lv_icmp_ge (tgt := 116) hx hb dX7_readPerson_94 (by decide) (fun c94 => ?_) (fun c94 => ?_)
          · -- t94
            have z94 : ¬ tz + 1 < e_ := fun q => absurd c94 (nI_ge q (by omega))
            refine lv_iconst (v := 0) hx hb dX7_readPerson_116 (by decide) ?_
            exact W.zret (v := 0) (ty := .boolean) hx hb hr rfl (fun t ht hW => ⟨⟨_, ((tz + 1), p_, upd kv p_ (kindI (cv tz)), sw), rfl, by exact ⟨fun q => by first | exact absurd q.2.2.1 z94 | exact absurd q.2.2.2 b110, fun _ => by simp [z5, c74]⟩, by rw [ht]; exact hP, va_K.moved hW.alike hK, hD⟩, hS.F ht⟩) hS.2.2 dX7_readPerson_117
          · -- f94
            have z94 : tz + 1 < e_ := lt_n (by omega) (by omega) c94
            refine lv_aload_n hx hb dX7_readPerson_97 rfl (lv_at hl 1 rfl) ?_
            refine va_get (D := D) (ci := 7) (v := .ref ce) (C := RX7) (T := TX7) (N := 28) hx hb hts iX7 hown hK hP 0 rfl rfl 4 (by decide) f16 (fun _ h9 => h9) rfl dX7_readPerson_98 ?_
            refine lv_aload_n hx hb dX7_readPerson_101 rfl (lv_at hl 1 rfl) ?_
            refine va_get (D := D) (ci := 7) (v := .int (nI (tz + 1))) (C := RX7) (T := TX7) (N := 28) hx hb hts iX7 hown hK hP 0 rfl rfl 12 (by decide) f71 (fun _ h9 => h9) rfl dX7_readPerson_102 ?_
            refine va_iald hx hb hK hP 3 0 rfl rfl (vp_in_nI (by omega) (by decide)) dX7_readPerson_105 ?_
            refine tp_i (y := cv (tz + 1)) (by rw [nI_clamp (n := (tz + 1)) (by omega)]) ?_
            refine lv_bipush (v := 49) hx hb dX7_readPerson_106 (by decide) ?_
            refine lv_bipush (v := 57) hx hb dX7_readPerson_108 (by decide) ?_
            have hPc := hP.sub (ws' := []) [] rfl
            refine vp_callSi (va_Run.run (va_runS (As := [.int (cv (tz + 1)), .int 49, .int 57]) (rest := []) ⟨hx, hb, hml, hown, hts⟩ (c_X7_within l D cI cO (cv (tz + 1)) 49 57) (va_cwS 3 hts gX7_readPerson_X7_within rfl rfl rfl (by decide +kernel) ⟨Nat.le_of_ble_eq_true rfl, Nat.le_of_ble_eq_true rfl⟩) (preSR hPc hK hNw) rfl rfl hl.1 rfl (lv_room (Nat.le_of_ble_eq_true rfl)) dX7_readPerson_110 ⟨Nat.zero_le _, Nat.zero_le _⟩)) (fun r110 w110 => ?_)
            by_cases b110 : lstT (cv (tz + 1)) 49 57 = true
            · -- y110
              obtain rfl := w110.1 b110
              refine lv_if_ne (tgt := 118) hx hb dX7_readPerson_113 (by decide) (fun _ => ?_) (fun h => absurd h (by decide))
              refine lv_aload_n hx hb dX7_readPerson_118 rfl (lv_at hl 1 rfl) ?_
              refine va_get (D := D) (ci := 7) (v := .ref rs) (C := RX7) (T := TX7) (N := 28) hx hb hts iX7 hown hK hP 0 rfl rfl 15 (by decide) f34 (fun _ h9 => h9) rfl dX7_readPerson_119 ?_
              refine lv_aload_n hx hb dX7_readPerson_122 rfl (lv_at hl 1 rfl) ?_
              refine va_get (D := D) (ci := 7) (v := .int (nI p_)) (C := RX7) (T := TX7) (N := 28) hx hb hts iX7 hown hK hP 0 rfl rfl 13 (by decide) f92 (fun _ h9 => h9) rfl dX7_readPerson_123 ?_
              refine lv_aload_n hx hb dX7_readPerson_126 rfl (lv_at hl 1 rfl) ?_
              refine va_get (D := D) (ci := 7) (v := .ref ce) (C := RX7) (T := TX7) (N := 28) hx hb hts iX7 hown hK hP 0 rfl rfl 4 (by decide) f16 (fun _ h9 => h9) rfl dX7_readPerson_127 ?_
              refine lv_aload_n hx hb dX7_readPerson_130 rfl (lv_at hl 1 rfl) ?_
              refine va_get (D := D) (ci := 7) (v := .int (nI (tz + 1))) (C := RX7) (T := TX7) (N := 28) hx hb hts iX7 hown hK hP 0 rfl rfl 12 (by decide) f71 (fun _ h9 => h9) rfl dX7_readPerson_131 ?_
              refine va_iald hx hb hK hP 3 0 rfl rfl (vp_in_nI (by omega) (by decide)) dX7_readPerson_134 ?_
              refine tp_i (y := cv (tz + 1)) (by rw [nI_clamp (n := (tz + 1)) (by omega)]) ?_
              refine lv_bipush (v := 48) hx hb dX7_readPerson_135 (by decide) ?_
              refine lv_isub hx hb dX7_readPerson_137 ?_
              refine va_iast hx hb hK hP hD hS 2 0 rfl rfl (vp_in_nI (by omega) (by decide)) dX7_readPerson_138 (fun H locs hP hD hS => ?_)
              rw [nI_clamp (n := p_) (by omega)] at hP hD
              have hP : va_P D vwCl [(x, .inr (7, [.int fa, .int tr, .ref so, .ref sl, .ref ce, .int (nI n), .int bar, .int (nI tn), .ref ki, .ref si, .ref th, .ref ri, .int (nI (tz + 1)), .int (nI p_), .ref rk, .ref rs, .ref kt, .ref kr, .int kn, .int rg, .ref ab, .int am, .ref bh, .int bm, .int br, .int (nI rn), .ref wa, .ref ra])), (rk, .inl (cI, 9, .inl (upd kv p_ (kindI (cv tz))))), (rs, .inl (cI, 9, .inl (upd sw p_ ((cv (tz + 1)) - 48)))), (ce, .inl (cI, 240, .inl cv))] H := hP
              have hD : va_D A [(x, .inr (7, [.int fa, .int tr, .ref so, .ref sl, .ref ce, .int (nI n), .int bar, .int (nI tn), .ref ki, .ref si, .ref th, .ref ri, .int (nI (tz + 1)), .int (nI p_), .ref rk, .ref rs, .ref kt, .ref kr, .int kn, .int rg, .ref ab, .int am, .ref bh, .int bm, .int br, .int (nI rn), .ref wa, .ref ra])), (rk, .inl (cI, 9, .inl (upd kv p_ (kindI (cv tz))))), (rs, .inl (cI, 9, .inl (upd sw p_ ((cv (tz + 1)) - 48)))), (ce, .inl (cI, 240, .inl cv))] := hD
              refine lv_aload_n hx hb dX7_readPerson_139 rfl (lv_at hl 1 rfl) ?_
              refine lv_dup hx hb dX7_readPerson_140 rfl ?_
              refine va_get (D := D) (ci := 7) (v := .int (nI (tz + 1))) (C := RX7) (T := TX7) (N := 28) hx hb hts iX7 hown hK hP 0 rfl rfl 12 (by decide) f71 (fun _ h9 => h9) rfl dX7_readPerson_141 ?_
              refine lv_iconst (v := 1) hx hb dX7_readPerson_144 (by decide) ?_
              refine lv_iadd hx hb dX7_readPerson_145 ?_
              refine tp_i (y := nI (tz + 1 + 1)) (nI_1 _) ?_
              refine va_put (D := D) (ci := 7) (v := .int (nI (tz + 1 + 1))) (ty := .int) (C := RX7) (T := TX7) (N := 28) hx hb hts iX7 tyX7 tyX7_ok nmX7 hown hK hP hD hS 0 rfl rfl 12 (by decide) f71 (fun _ h9 => h9) rfl (by decide +kernel) rfl rfl (Nat.le_of_ble_eq_true rfl) dX7_readPerson_146 (fun H locs hP hD hS => ?_)
              have hP : va_P D vwCl [(x, .inr (7, [.int fa, .int tr, .ref so, .ref sl, .ref ce, .int (nI n), .int bar, .int (nI tn), .ref ki, .ref si, .ref th, .ref ri, .int (nI (tz + 1 + 1)), .int (nI p_), .ref rk, .ref rs, .ref kt, .ref kr, .int kn, .int rg, .ref ab, .int am, .ref bh, .int bm, .int br, .int (nI rn), .ref wa, .ref ra])), (rk, .inl (cI, 9, .inl (upd kv p_ (kindI (cv tz))))), (rs, .inl (cI, 9, .inl (upd sw p_ ((cv (tz + 1)) - 48)))), (ce, .inl (cI, 240, .inl cv))] H := hP
              have hD : va_D A [(x, .inr (7, [.int fa, .int tr, .ref so, .ref sl, .ref ce, .int (nI n), .int bar, .int (nI tn), .ref ki, .ref si, .ref th, .ref ri, .int (nI (tz + 1 + 1)), .int (nI p_), .ref rk, .ref rs, .ref kt, .ref kr, .int kn, .int rg, .ref ab, .int am, .ref bh, .int bm, .int br, .int (nI rn), .ref wa, .ref ra])), (rk, .inl (cI, 9, .inl (upd kv p_ (kindI (cv tz))))), (rs, .inl (cI, 9, .inl (upd sw p_ ((cv (tz + 1)) - 48)))), (ce, .inl (cI, 240, .inl cv))] := hD
              refine lv_aload_n hx hb dX7_readPerson_149 rfl (lv_at hl 1 rfl) ?_
              refine lv_dup hx hb dX7_readPerson_150 rfl ?_
              refine va_get (D := D) (ci := 7) (v := .int (nI p_)) (C := RX7) (T := TX7) (N := 28) hx hb hts iX7 hown hK hP 0 rfl rfl 13 (by decide) f92 (fun _ h9 => h9) rfl dX7_readPerson_151 ?_
              refine lv_iconst (v := 1) hx hb dX7_readPerson_154 (by decide) ?_
              refine lv_iadd hx hb dX7_readPerson_155 ?_
              refine tp_i (y := nI (p_ + 1)) (nI_1 _) ?_
              refine va_put (D := D) (ci := 7) (v := .int (nI (p_ + 1))) (ty := .int) (C := RX7) (T := TX7) (N := 28) hx hb hts iX7 tyX7 tyX7_ok nmX7 hown hK hP hD hS 0 rfl rfl 13 (by decide) f92 (fun _ h9 => h9) rfl (by decide +kernel) rfl rfl (Nat.le_of_ble_eq_true rfl) dX7_readPerson_156 (fun H locs hP hD hS => ?_)
              have hP : va_P D vwCl [(x, .inr (7, [.int fa, .int tr, .ref so, .ref sl, .ref ce, .int (nI n), .int bar, .int (nI tn), .ref ki, .ref si, .ref th, .ref ri, .int (nI (tz + 1 + 1)), .int (nI (p_ + 1)), .ref rk, .ref rs, .ref kt, .ref kr, .int kn, .int rg, .ref ab, .int am, .ref bh, .int bm, .int br, .int (nI rn), .ref wa, .ref ra])), (rk, .inl (cI, 9, .inl (upd kv p_ (kindI (cv tz))))), (rs, .inl (cI, 9, .inl (upd sw p_ ((cv (tz + 1)) - 48)))), (ce, .inl (cI, 240, .inl cv))] H := hP
              have hD : va_D A [(x, .inr (7, [.int fa, .int tr, .ref so, .ref sl, .ref ce, .int (nI n), .int bar, .int (nI tn), .ref ki, .ref si, .ref th, .ref ri, .int (nI (tz + 1 + 1)), .int (nI (p_ + 1)), .ref rk, .ref rs, .ref kt, .ref kr, .int kn, .int rg, .ref ab, .int am, .ref bh, .int bm, .int br, .int (nI rn), .ref wa, .ref ra])), (rk, .inl (cI, 9, .inl (upd kv p_ (kindI (cv tz))))), (rs, .inl (cI, 9, .inl (upd sw p_ ((cv (tz + 1)) - 48)))), (ce, .inl (cI, 240, .inl cv))] := hD
              refine lv_iconst (v := 1) hx hb dX7_readPerson_159 (by decide) ?_
              exact W.zret (v := 1) (ty := .boolean) hx hb hr rfl (fun t ht hW => ⟨⟨_, ((tz + 1 + 1), (p_ + 1), upd kv p_ (kindI (cv tz)), upd sw p_ ((cv (tz + 1)) - 48)), rfl, by exact ⟨fun _ => ⟨rfl, rfl, rfl, rfl, rfl⟩, fun q => absurd ⟨z5, c74, z94, b110⟩ q⟩, by rw [ht]; exact hP, va_K.moved hW.alike hK, hD⟩, hS.F ht⟩) hS.2.2 dX7_readPerson_160
            · -- n110
              obtain rfl := w110.2 b110
              refine lv_if_ne (tgt := 118) hx hb dX7_readPerson_113 (by decide) (fun h => absurd (by decide) h) (fun _ => ?_)
              refine lv_iconst (v := 0) hx hb dX7_readPerson_116 (by decide) ?_
              exact W.zret (v := 0) (ty := .boolean) hx hb hr rfl (fun t ht hW => ⟨⟨_, ((tz + 1), p_, upd kv p_ (kindI (cv tz)), sw), rfl, by exact ⟨fun q => by first | exact absurd q.2.2.1 z94 | exact absurd q.2.2.2 b110, fun _ => by simp [z5, c74]⟩, by rw [ht]; exact hP, va_K.moved hW.alike hK, hD⟩, hS.F ht⟩) hS.2.2 dX7_readPerson_117
        · -- f74
          refine lv_iconst (v := 0) hx hb dX7_readPerson_77 (by decide) ?_
          exact W.zret (v := 0) (ty := .boolean) hx hb hr rfl (fun t ht hW => ⟨⟨_, (tz, p_, upd kv p_ (kindI (cv tz)), sw), rfl, by exact ⟨fun q => absurd c74 q.2.1, fun _ => by simp [z5, c74]⟩, by rw [ht]; exact hP, va_K.moved hW.alike hK, hD⟩, hS.F ht⟩) hS.2.2 dX7_readPerson_78
    · -- f33
      refine lv_iconst (v := 0) hx hb dX7_readPerson_36 (by decide) ?_
      refine lv_goto (tgt := 62) hx hb dX7_readPerson_37 (by decide) ?_
      refine tp_i (y := kindI (cv tz)) (by simp [kindI, *]) ?_
      refine va_iast hx hb hK hP hD hS 1 0 rfl rfl (vp_in_nI (by omega) (by decide)) dX7_readPerson_62 (fun H locs hP hD hS => ?_)
      rw [nI_clamp (n := p_) (by omega)] at hP hD
      have hP : va_P D vwCl [(x, .inr (7, [.int fa, .int tr, .ref so, .ref sl, .ref ce, .int (nI n), .int bar, .int (nI tn), .ref ki, .ref si, .ref th, .ref ri, .int (nI tz), .int (nI p_), .ref rk, .ref rs, .ref kt, .ref kr, .int kn, .int rg, .ref ab, .int am, .ref bh, .int bm, .int br, .int (nI rn), .ref wa, .ref ra])), (rk, .inl (cI, 9, .inl (upd kv p_ (kindI (cv tz))))), (rs, .inl (cI, 9, .inl sw)), (ce, .inl (cI, 240, .inl cv))] H := hP
      have hD : va_D A [(x, .inr (7, [.int fa, .int tr, .ref so, .ref sl, .ref ce, .int (nI n), .int bar, .int (nI tn), .ref ki, .ref si, .ref th, .ref ri, .int (nI tz), .int (nI p_), .ref rk, .ref rs, .ref kt, .ref kr, .int kn, .int rg, .ref ab, .int am, .ref bh, .int bm, .int br, .int (nI rn), .ref wa, .ref ra])), (rk, .inl (cI, 9, .inl (upd kv p_ (kindI (cv tz))))), (rs, .inl (cI, 9, .inl sw)), (ce, .inl (cI, 240, .inl cv))] := hD
      refine lv_aload_n hx hb dX7_readPerson_63 rfl (lv_at hl 1 rfl) ?_
      refine va_get (D := D) (ci := 7) (v := .ref rk) (C := RX7) (T := TX7) (N := 28) hx hb hts iX7 hown hK hP 0 rfl rfl 14 (by decide) f31 (fun _ h9 => h9) rfl dX7_readPerson_64 ?_
      refine lv_aload_n hx hb dX7_readPerson_67 rfl (lv_at hl 1 rfl) ?_
      refine va_get (D := D) (ci := 7) (v := .int (nI p_)) (C := RX7) (T := TX7) (N := 28) hx hb hts iX7 hown hK hP 0 rfl rfl 13 (by decide) f92 (fun _ h9 => h9) rfl dX7_readPerson_68 ?_
      refine va_iald hx hb hK hP 1 0 rfl rfl (vp_in_nI (by omega) (by decide)) dX7_readPerson_71 ?_
      refine tp_i (y := (upd kv p_ (kindI (cv tz))) p_) (by rw [nI_clamp (n := p_) (by omega)]) ?_
      refine tp_i (y := kindI (cv tz)) (by unfold upd; rw [if_pos rfl]) ?_
      refine lv_bipush (v := -9) hx hb dX7_readPerson_72 (by decide) ?_
      refine lv_icmp_ne (tgt := 79) hx hb dX7_readPerson_74 (by decide) (fun c74 => ?_) (fun c74 => ?_)
      · -- t74
        refine lv_aload_n hx hb dX7_readPerson_79 rfl (lv_at hl 1 rfl) ?_
        refine lv_dup hx hb dX7_readPerson_80 rfl ?_
        refine va_get (D := D) (ci := 7) (v := .int (nI tz)) (C := RX7) (T := TX7) (N := 28) hx hb hts iX7 hown hK hP 0 rfl rfl 12 (by decide) f71 (fun _ h9 => h9) rfl dX7_readPerson_81 ?_
        refine lv_iconst (v := 1) hx hb dX7_readPerson_84 (by decide) ?_
        refine lv_iadd hx hb dX7_readPerson_85 ?_
        refine tp_i (y := nI (tz + 1)) (nI_1 _) ?_
        refine va_put (D := D) (ci := 7) (v := .int (nI (tz + 1))) (ty := .int) (C := RX7) (T := TX7) (N := 28) hx hb hts iX7 tyX7 tyX7_ok nmX7 hown hK hP hD hS 0 rfl rfl 12 (by decide) f71 (fun _ h9 => h9) rfl (by decide +kernel) rfl rfl (Nat.le_of_ble_eq_true rfl) dX7_readPerson_86 (fun H locs hP hD hS => ?_)
        have hP : va_P D vwCl [(x, .inr (7, [.int fa, .int tr, .ref so, .ref sl, .ref ce, .int (nI n), .int bar, .int (nI tn), .ref ki, .ref si, .ref th, .ref ri, .int (nI (tz + 1)), .int (nI p_), .ref rk, .ref rs, .ref kt, .ref kr, .int kn, .int rg, .ref ab, .int am, .ref bh, .int bm, .int br, .int (nI rn), .ref wa, .ref ra])), (rk, .inl (cI, 9, .inl (upd kv p_ (kindI (cv tz))))), (rs, .inl (cI, 9, .inl sw)), (ce, .inl (cI, 240, .inl cv))] H := hP
        have hD : va_D A [(x, .inr (7, [.int fa, .int tr, .ref so, .ref sl, .ref ce, .int (nI n), .int bar, .int (nI tn), .ref ki, .ref si, .ref th, .ref ri, .int (nI (tz + 1)), .int (nI p_), .ref rk, .ref rs, .ref kt, .ref kr, .int kn, .int rg, .ref ab, .int am, .ref bh, .int bm, .int br, .int (nI rn), .ref wa, .ref ra])), (rk, .inl (cI, 9, .inl (upd kv p_ (kindI (cv tz))))), (rs, .inl (cI, 9, .inl sw)), (ce, .inl (cI, 240, .inl cv))] := hD
        refine lv_aload_n hx hb dX7_readPerson_89 rfl (lv_at hl 1 rfl) ?_
        refine va_get (D := D) (ci := 7) (v := .int (nI (tz + 1))) (C := RX7) (T := TX7) (N := 28) hx hb hts iX7 hown hK hP 0 rfl rfl 12 (by decide) f71 (fun _ h9 => h9) rfl dX7_readPerson_90 ?_
        refine lv_iload_n hx hb dX7_readPerson_93 rfl (lv_at hl 2 rfl) ?_
        refine lv_icmp_ge (tgt := 116) hx hb dX7_readPerson_94 (by decide) (fun c94 => ?_) (fun c94 => ?_)
        · -- t94
          have z94 : ¬ tz + 1 < e_ := fun q => absurd c94 (nI_ge q (by omega))
          refine lv_iconst (v := 0) hx hb dX7_readPerson_116 (by decide) ?_
          exact W.zret (v := 0) (ty := .boolean) hx hb hr rfl (fun t ht hW => ⟨⟨_, ((tz + 1), p_, upd kv p_ (kindI (cv tz)), sw), rfl, by exact ⟨fun q => by first | exact absurd q.2.2.1 z94 | exact absurd q.2.2.2 b110, fun _ => by simp [z5, c74]⟩, by rw [ht]; exact hP, va_K.moved hW.alike hK, hD⟩, hS.F ht⟩) hS.2.2 dX7_readPerson_117
        · -- f94
          have z94 : tz + 1 < e_ := lt_n (by omega) (by omega) c94
          refine lv_aload_n hx hb dX7_readPerson_97 rfl (lv_at hl 1 rfl) ?_
          refine va_get (D := D) (ci := 7) (v := .ref ce) (C := RX7) (T := TX7) (N := 28) hx hb hts iX7 hown hK hP 0 rfl rfl 4 (by decide) f16 (fun _ h9 => h9) rfl dX7_readPerson_98 ?_
          refine lv_aload_n hx hb dX7_readPerson_101 rfl (lv_at hl 1 rfl) ?_
          refine va_get (D := D) (ci := 7) (v := .int (nI (tz + 1))) (C := RX7) (T := TX7) (N := 28) hx hb hts iX7 hown hK hP 0 rfl rfl 12 (by decide) f71 (fun _ h9 => h9) rfl dX7_readPerson_102 ?_
          refine va_iald hx hb hK hP 3 0 rfl rfl (vp_in_nI (by omega) (by decide)) dX7_readPerson_105 ?_
          refine tp_i (y := cv (tz + 1)) (by rw [nI_clamp (n := (tz + 1)) (by omega)]) ?_
          refine lv_bipush (v := 49) hx hb dX7_readPerson_106 (by decide) ?_
          refine lv_bipush (v := 57) hx hb dX7_readPerson_108 (by decide) ?_
          have hPc := hP.sub (ws' := []) [] rfl
          refine vp_callSi (va_Run.run (va_runS (As := [.int (cv (tz + 1)), .int 49, .int 57]) (rest := []) ⟨hx, hb, hml, hown, hts⟩ (c_X7_within l D cI cO (cv (tz + 1)) 49 57) (va_cwS 3 hts gX7_readPerson_X7_within rfl rfl rfl (by decide +kernel) ⟨Nat.le_of_ble_eq_true rfl, Nat.le_of_ble_eq_true rfl⟩) (preSR hPc hK hNw) rfl rfl hl.1 rfl (lv_room (Nat.le_of_ble_eq_true rfl)) dX7_readPerson_110 ⟨Nat.zero_le _, Nat.zero_le _⟩)) (fun r110 w110 => ?_)
          by_cases b110 : lstT (cv (tz + 1)) 49 57 = true
          · -- y110
            obtain rfl := w110.1 b110
            refine lv_if_ne (tgt := 118) hx hb dX7_readPerson_113 (by decide) (fun _ => ?_) (fun h => absurd h (by decide))
            refine lv_aload_n hx hb dX7_readPerson_118 rfl (lv_at hl 1 rfl) ?_
            refine va_get (D := D) (ci := 7) (v := .ref rs) (C := RX7) (T := TX7) (N := 28) hx hb hts iX7 hown hK hP 0 rfl rfl 15 (by decide) f34 (fun _ h9 => h9) rfl dX7_readPerson_119 ?_
            refine lv_aload_n hx hb dX7_readPerson_122 rfl (lv_at hl 1 rfl) ?_
            refine va_get (D := D) (ci := 7) (v := .int (nI p_)) (C := RX7) (T := TX7) (N := 28) hx hb hts iX7 hown hK hP 0 rfl rfl 13 (by decide) f92 (fun _ h9 => h9) rfl dX7_readPerson_123 ?_
            refine lv_aload_n hx hb dX7_readPerson_126 rfl (lv_at hl 1 rfl) ?_
            refine va_get (D := D) (ci := 7) (v := .ref ce) (C := RX7) (T := TX7) (N := 28) hx hb hts iX7 hown hK hP 0 rfl rfl 4 (by decide) f16 (fun _ h9 => h9) rfl dX7_readPerson_127 ?_
            refine lv_aload_n hx hb dX7_readPerson_130 rfl (lv_at hl 1 rfl) ?_
            refine va_get (D := D) (ci := 7) (v := .int (nI (tz + 1))) (C := RX7) (T := TX7) (N := 28) hx hb hts iX7 hown hK hP 0 rfl rfl 12 (by decide) f71 (fun _ h9 => h9) rfl dX7_readPerson_131 ?_
            refine va_iald hx hb hK hP 3 0 rfl rfl (vp_in_nI (by omega) (by decide)) dX7_readPerson_134 ?_
            refine tp_i (y := cv (tz + 1)) (by rw [nI_clamp (n := (tz + 1)) (by omega)]) ?_
            refine lv_bipush (v := 48) hx hb dX7_readPerson_135 (by decide) ?_
            refine lv_isub hx hb dX7_readPerson_137 ?_
            refine va_iast hx hb hK hP hD hS 2 0 rfl rfl (vp_in_nI (by omega) (by decide)) dX7_readPerson_138 (fun H locs hP hD hS => ?_)
            rw [nI_clamp (n := p_) (by omega)] at hP hD
            have hP : va_P D vwCl [(x, .inr (7, [.int fa, .int tr, .ref so, .ref sl, .ref ce, .int (nI n), .int bar, .int (nI tn), .ref ki, .ref si, .ref th, .ref ri, .int (nI (tz + 1)), .int (nI p_), .ref rk, .ref rs, .ref kt, .ref kr, .int kn, .int rg, .ref ab, .int am, .ref bh, .int bm, .int br, .int (nI rn), .ref wa, .ref ra])), (rk, .inl (cI, 9, .inl (upd kv p_ (kindI (cv tz))))), (rs, .inl (cI, 9, .inl (upd sw p_ ((cv (tz + 1)) - 48)))), (ce, .inl (cI, 240, .inl cv))] H := hP
            have hD : va_D A [(x, .inr (7, [.int fa, .int tr, .ref so, .ref sl, .ref ce, .int (nI n), .int bar, .int (nI tn), .ref ki, .ref si, .ref th, .ref ri, .int (nI (tz + 1)), .int (nI p_), .ref rk, .ref rs, .ref kt, .ref kr, .int kn, .int rg, .ref ab, .int am, .ref bh, .int bm, .int br, .int (nI rn), .ref wa, .ref ra])), (rk, .inl (cI, 9, .inl (upd kv p_ (kindI (cv tz))))), (rs, .inl (cI, 9, .inl (upd sw p_ ((cv (tz + 1)) - 48)))), (ce, .inl (cI, 240, .inl cv))] := hD
            refine lv_aload_n hx hb dX7_readPerson_139 rfl (lv_at hl 1 rfl) ?_
            refine lv_dup hx hb dX7_readPerson_140 rfl ?_
            refine va_get (D := D) (ci := 7) (v := .int (nI (tz + 1))) (C := RX7) (T := TX7) (N := 28) hx hb hts iX7 hown hK hP 0 rfl rfl 12 (by decide) f71 (fun _ h9 => h9) rfl dX7_readPerson_141 ?_
            refine lv_iconst (v := 1) hx hb dX7_readPerson_144 (by decide) ?_
            refine lv_iadd hx hb dX7_readPerson_145 ?_
            refine tp_i (y := nI (tz + 1 + 1)) (nI_1 _) ?_
            refine va_put (D := D) (ci := 7) (v := .int (nI (tz + 1 + 1))) (ty := .int) (C := RX7) (T := TX7) (N := 28) hx hb hts iX7 tyX7 tyX7_ok nmX7 hown hK hP hD hS 0 rfl rfl 12 (by decide) f71 (fun _ h9 => h9) rfl (by decide +kernel) rfl rfl (Nat.le_of_ble_eq_true rfl) dX7_readPerson_146 (fun H locs hP hD hS => ?_)
            have hP : va_P D vwCl [(x, .inr (7, [.int fa, .int tr, .ref so, .ref sl, .ref ce, .int (nI n), .int bar, .int (nI tn), .ref ki, .ref si, .ref th, .ref ri, .int (nI (tz + 1 + 1)), .int (nI p_), .ref rk, .ref rs, .ref kt, .ref kr, .int kn, .int rg, .ref ab, .int am, .ref bh, .int bm, .int br, .int (nI rn), .ref wa, .ref ra])), (rk, .inl (cI, 9, .inl (upd kv p_ (kindI (cv tz))))), (rs, .inl (cI, 9, .inl (upd sw p_ ((cv (tz + 1)) - 48)))), (ce, .inl (cI, 240, .inl cv))] H := hP
            have hD : va_D A [(x, .inr (7, [.int fa, .int tr, .ref so, .ref sl, .ref ce, .int (nI n), .int bar, .int (nI tn), .ref ki, .ref si, .ref th, .ref ri, .int (nI (tz + 1 + 1)), .int (nI p_), .ref rk, .ref rs, .ref kt, .ref kr, .int kn, .int rg, .ref ab, .int am, .ref bh, .int bm, .int br, .int (nI rn), .ref wa, .ref ra])), (rk, .inl (cI, 9, .inl (upd kv p_ (kindI (cv tz))))), (rs, .inl (cI, 9, .inl (upd sw p_ ((cv (tz + 1)) - 48)))), (ce, .inl (cI, 240, .inl cv))] := hD
            refine lv_aload_n hx hb dX7_readPerson_149 rfl (lv_at hl 1 rfl) ?_
            refine lv_dup hx hb dX7_readPerson_150 rfl ?_
            refine va_get (D := D) (ci := 7) (v := .int (nI p_)) (C := RX7) (T := TX7) (N := 28) hx hb hts iX7 hown hK hP 0 rfl rfl 13 (by decide) f92 (fun _ h9 => h9) rfl dX7_readPerson_151 ?_
            refine lv_iconst (v := 1) hx hb dX7_readPerson_154 (by decide) ?_
            refine lv_iadd hx hb dX7_readPerson_155 ?_
            refine tp_i (y := nI (p_ + 1)) (nI_1 _) ?_
            refine va_put (D := D) (ci := 7) (v := .int (nI (p_ + 1))) (ty := .int) (C := RX7) (T := TX7) (N := 28) hx hb hts iX7 tyX7 tyX7_ok nmX7 hown hK hP hD hS 0 rfl rfl 13 (by decide) f92 (fun _ h9 => h9) rfl (by decide +kernel) rfl rfl (Nat.le_of_ble_eq_true rfl) dX7_readPerson_156 (fun H locs hP hD hS => ?_)
            have hP : va_P D vwCl [(x, .inr (7, [.int fa, .int tr, .ref so, .ref sl, .ref ce, .int (nI n), .int bar, .int (nI tn), .ref ki, .ref si, .ref th, .ref ri, .int (nI (tz + 1 + 1)), .int (nI (p_ + 1)), .ref rk, .ref rs, .ref kt, .ref kr, .int kn, .int rg, .ref ab, .int am, .ref bh, .int bm, .int br, .int (nI rn), .ref wa, .ref ra])), (rk, .inl (cI, 9, .inl (upd kv p_ (kindI (cv tz))))), (rs, .inl (cI, 9, .inl (upd sw p_ ((cv (tz + 1)) - 48)))), (ce, .inl (cI, 240, .inl cv))] H := hP
            have hD : va_D A [(x, .inr (7, [.int fa, .int tr, .ref so, .ref sl, .ref ce, .int (nI n), .int bar, .int (nI tn), .ref ki, .ref si, .ref th, .ref ri, .int (nI (tz + 1 + 1)), .int (nI (p_ + 1)), .ref rk, .ref rs, .ref kt, .ref kr, .int kn, .int rg, .ref ab, .int am, .ref bh, .int bm, .int br, .int (nI rn), .ref wa, .ref ra])), (rk, .inl (cI, 9, .inl (upd kv p_ (kindI (cv tz))))), (rs, .inl (cI, 9, .inl (upd sw p_ ((cv (tz + 1)) - 48)))), (ce, .inl (cI, 240, .inl cv))] := hD
            refine lv_iconst (v := 1) hx hb dX7_readPerson_159 (by decide) ?_
            exact W.zret (v := 1) (ty := .boolean) hx hb hr rfl (fun t ht hW => ⟨⟨_, ((tz + 1 + 1), (p_ + 1), upd kv p_ (kindI (cv tz)), upd sw p_ ((cv (tz + 1)) - 48)), rfl, by exact ⟨fun _ => ⟨rfl, rfl, rfl, rfl, rfl⟩, fun q => absurd ⟨z5, c74, z94, b110⟩ q⟩, by rw [ht]; exact hP, va_K.moved hW.alike hK, hD⟩, hS.F ht⟩) hS.2.2 dX7_readPerson_160
          · -- n110
            obtain rfl := w110.2 b110
            refine lv_if_ne (tgt := 118) hx hb dX7_readPerson_113 (by decide) (fun h => absurd (by decide) h) (fun _ => ?_)
            refine lv_iconst (v := 0) hx hb dX7_readPerson_116 (by decide) ?_
            exact W.zret (v := 0) (ty := .boolean) hx hb hr rfl (fun t ht hW => ⟨⟨_, ((tz + 1), p_, upd kv p_ (kindI (cv tz)), sw), rfl, by exact ⟨fun q => by first | exact absurd q.2.2.1 z94 | exact absurd q.2.2.2 b110, fun _ => by simp [z5, c74]⟩, by rw [ht]; exact hP, va_K.moved hW.alike hK, hD⟩, hS.F ht⟩) hS.2.2 dX7_readPerson_117
      · -- f74
        refine lv_iconst (v := 0) hx hb dX7_readPerson_77 (by decide) ?_
        exact W.zret (v := 0) (ty := .boolean) hx hb hr rfl (fun t ht hW => ⟨⟨_, (tz, p_, upd kv p_ (kindI (cv tz)), sw), rfl, by exact ⟨fun q => absurd c74 q.2.1, fun _ => by simp [z5, c74]⟩, by rw [ht]; exact hP, va_K.moved hW.alike hK, hD⟩, hS.F ht⟩) hS.2.2 dX7_readPerson_78

set_option maxHeartbeats 4000000 in
set_option maxRecDepth 100000 in
theorem c_X7_readTown (l : Launch) (D : va_G) (cI cO : ClassId) (x : Nat) (fa : Int32) (tr : Int32) (so : Nat) (sl : Nat) (ce : Nat) (n : Nat) (bar : Int32) (tn : Nat) (ki : Nat) (si : Nat) (th : Nat) (ri : Nat) (rp : Int32) (rk : Nat) (rs : Nat) (kt : Nat) (kr : Nat) (kn : Int32) (rg : Int32) (ab : Nat) (am : Int32) (bh : Nat) (bm : Int32) (br : Int32) (rn : Nat) (wa : Nat) (ra : Nat) (tz : Nat) (kv : Nat → Int32) (sw : Nat → Int32) (cv : Nat → Int32) (e_ : Nat) (sz : Nat) (he : e_ ≤ 240) (ht : tz ≤ e_) : Met l yX7_readTown wsX7_readTown ({ frames := 2, cells := 0, slots := 0, locals := 44 } : Room) (va_Pc [.ref x, .int (nI e_)] (wdW D cI cO [(x, .inr (7, [.int fa, .int tr, .ref so, .ref sl, .ref ce, .int (nI n), .int bar, .int (nI tn), .ref ki, .ref si, .ref th, .ref ri, .int (nI tz), .int rp, .ref rk, .ref rs, .ref kt, .ref kr, .int kn, .int rg, .ref ab, .int am, .ref bh, .int bm, .int br, .int (nI rn), .ref wa, .ref ra])), (rk, .inl (cI, 9, .inl kv)), (rs, .inl (cI, 9, .inl sw)), (ce, .inl (cI, 240, .inl cv))] sz)) (va_Qi (S := Nat × Nat × (Nat → Int32) × (Nat → Int32)) (fun r u => ((r = 1 ∧ ffW cv tz (e_ - tz) (e_ - tz) 0 = -9 ∧ 3 * u.2.1 + 1 = e_ - tz ∧ u.2.1 ≤ 9 ∧ (∀ k, k < u.2.1 → u.2.2.1 k = kindI (cv (tz + 3 * k + 2)) ∧ u.2.2.2 k = cv (tz + 3 * k + 3) - 48)) ∨ (r = 0 ∧ tz ≤ u.1 ∧ u.1 ≤ 240 ∧ ¬ ffW cv tz (e_ - tz) (e_ - tz) 0 = -9 ∧ ffW cv tz (e_ - tz) (e_ - tz) 0 = nI (u.1 - tz)))) (fun u t => va_P D vwCl [(x, .inr (7, [.int fa, .int tr, .ref so, .ref sl, .ref ce, .int (nI n), .int bar, .int (nI tn), .ref ki, .ref si, .ref th, .ref ri, .int (nI u.1), .int (nI u.2.1), .ref rk, .ref rs, .ref kt, .ref kr, .int kn, .int rg, .ref ab, .int am, .ref bh, .int bm, .int br, .int (nI rn), .ref wa, .ref ra])), (rk, .inl (cI, 9, .inl u.2.2.1)), (rs, .inl (cI, 9, .inl u.2.2.2)), (ce, .inl (cI, 240, .inl cv))] t.heap ∧ va_K D vwCl (tyL cI cO) t ∧ va_D (va_A [(x, .inr (7, [.int fa, .int tr, .ref so, .ref sl, .ref ce, .int (nI n), .int bar, .int (nI tn), .ref ki, .ref si, .ref th, .ref ri, .int (nI tz), .int rp, .ref rk, .ref rs, .ref kt, .ref kr, .int kn, .int rg, .ref ab, .int am, .ref bh, .int bm, .int br, .int (nI rn), .ref wa, .ref ra])), (rk, .inl (cI, 9, .inl kv)), (rs, .inl (cI, 9, .inl sw)), (ce, .inl (cI, 240, .inl cv))] sz) [(x, .inr (7, [.int fa, .int tr, .ref so, .ref sl, .ref ce, .int (nI n), .int bar, .int (nI tn), .ref ki, .ref si, .ref th, .ref ri, .int (nI u.1), .int (nI u.2.1), .ref rk, .ref rs, .ref kt, .ref kr, .int kn, .int rg, .ref ab, .int am, .ref bh, .int bm, .int br, .int (nI rn), .ref wa, .ref ra])), (rk, .inl (cI, 9, .inl u.2.2.1)), (rs, .inl (cI, 9, .inl u.2.2.2)), (ce, .inl (cI, 240, .inl cv))]) (va_A [(x, .inr (7, [.int fa, .int tr, .ref so, .ref sl, .ref ce, .int (nI n), .int bar, .int (nI tn), .ref ki, .ref si, .ref th, .ref ri, .int (nI tz), .int rp, .ref rk, .ref rs, .ref kt, .ref kr, .int kn, .int rg, .ref ab, .int am, .ref bh, .int bm, .int br, .int (nI rn), .ref wa, .ref ra])), (rk, .inl (cI, 9, .inl kv)), (rs, .inl (cI, 9, .inl sw)), (ce, .inl (cI, 240, .inl cv))] sz)) 0 0 (va_A [(x, .inr (7, [.int fa, .int tr, .ref so, .ref sl, .ref ce, .int (nI n), .int bar, .int (nI tn), .ref ki, .ref si, .ref th, .ref ri, .int (nI tz), .int rp, .ref rk, .ref rs, .ref kt, .ref kr, .int kn, .int rg, .ref ab, .int am, .ref bh, .int bm, .int br, .int (nI rn), .ref wa, .ref ra])), (rk, .inl (cI, 9, .inl kv)), (rs, .inl (cI, 9, .inl sw)), (ce, .inl (cI, 240, .inl cv))] sz) := by
  refine Met.ofW (cc := cX7_readTown) (maxL := 2) (ret := (some .boolean)) (by decide) rfl ?_
  intro p e s m args below meth c s₁ B hml hv
  obtain ⟨rfl, hsz, hP, hK, hNw, hD0⟩ := hv
  have hx := B.exec
  have hb := B.bytes
  have hr := B.returns
  have hts := atoms_spec (ws := wsX7_readTown) B.pre
  have hown : s.vm.findClass RX7 = some m.cls := findClass_of_methodNamed B.named
  have hlocks := B.notSynchronized
  have f71 := hts (.fieldLink RX7 71 "StruckThreesModel" "at" "I") (by decide +kernel)
  have f92 := hts (.fieldLink RX7 92 "StruckThreesModel" "readPeople" "I") (by decide +kernel)
  have iX7 : ∀ w ∈ wsX70, w ∈ wsX7_readTown := by decide +kernel
  subst hsz
  have hD := hD0.self (sz := s.heap.size)
  generalize hAe : va_A [(x, .inr (7, [.int fa, .int tr, .ref so, .ref sl, .ref ce, .int (nI n), .int bar, .int (nI tn), .ref ki, .ref si, .ref th, .ref ri, .int (nI tz), .int rp, .ref rk, .ref rs, .ref kt, .ref kr, .int kn, .int rg, .ref ab, .int am, .ref bh, .int bm, .int br, .int (nI rn), .ref wa, .ref ra])), (rk, .inl (cI, 9, .inl kv)), (rs, .inl (cI, 9, .inl sw)), (ce, .inl (cI, 240, .inl cv))] s.heap.size = A at hD ⊢
  have hA : ∀ q : Nat, s.heap.size ≤ q → A q := fun q h => by rw [← hAe]; exact Or.inr h
  have hS : va_S A s.heap s.heap [] := va_S.rf
  have hP : va_P D vwCl [(x, .inr (7, [.int fa, .int tr, .ref so, .ref sl, .ref ce, .int (nI n), .int bar, .int (nI tn), .ref ki, .ref si, .ref th, .ref ri, .int (nI tz), .int rp, .ref rk, .ref rs, .ref kt, .ref kr, .int kn, .int rg, .ref ab, .int am, .ref bh, .int bm, .int br, .int (nI rn), .ref wa, .ref ra])), (rk, .inl (cI, 9, .inl kv)), (rs, .inl (cI, 9, .inl sw)), (ce, .inl (cI, 240, .inl cv))] s.heap := hP
  have hl := lv_entry ([.ref x, .int (nI e_)]) (n := 2) (Nat.le_of_ble_eq_true rfl)
  rw [lg_entry_eq]
  generalize (lg_sl ([.ref x, .int (nI e_)]) ++ List.replicate (2 - (lg_sl ([.ref x, .int (nI e_)])).length) Slot.unset).toArray = ls at hl ⊢
  have hl : lv_has ls 2 [(0, .ref x), (1, .int (nI e_))] := hl
  refine lv_aload_n hx hb dX7_readTown_0 rfl (lv_at hl 0 rfl) ?_
  refine lv_iconst (v := 0) hx hb dX7_readTown_1 (by decide) ?_
  refine va_put (D := D) (ci := 7) (v := .int 0) (ty := .int) (C := RX7) (T := TX7) (N := 28) hx hb hts iX7 tyX7 tyX7_ok nmX7 hown hK hP hD hS 0 rfl rfl 13 (by decide) f92 (fun _ h9 => h9) rfl (by decide +kernel) rfl rfl (Nat.le_of_ble_eq_true rfl) dX7_readTown_2 (fun H locs hP hD hS => ?_)
  have hP : va_P D vwCl [(x, .inr (7, [.int fa, .int tr, .ref so, .ref sl, .ref ce, .int (nI n), .int bar, .int (nI tn), .ref ki, .ref si, .ref th, .ref ri, .int (nI tz), .int 0, .ref rk, .ref rs, .ref kt, .ref kr, .int kn, .int rg, .ref ab, .int am, .ref bh, .int bm, .int br, .int (nI rn), .ref wa, .ref ra])), (rk, .inl (cI, 9, .inl kv)), (rs, .inl (cI, 9, .inl sw)), (ce, .inl (cI, 240, .inl cv))] H := hP
  have hD : va_D A [(x, .inr (7, [.int fa, .int tr, .ref so, .ref sl, .ref ce, .int (nI n), .int bar, .int (nI tn), .ref ki, .ref si, .ref th, .ref ri, .int (nI tz), .int 0, .ref rk, .ref rs, .ref kt, .ref kr, .int kn, .int rg, .ref ab, .int am, .ref bh, .int bm, .int br, .int (nI rn), .ref wa, .ref ra])), (rk, .inl (cI, 9, .inl kv)), (rs, .inl (cI, 9, .inl sw)), (ce, .inl (cI, 240, .inl cv))] := hD
  have hP : va_P D vwCl [(x, .inr (7, [.int fa, .int tr, .ref so, .ref sl, .ref ce, .int (nI n), .int bar, .int (nI tn), .ref ki, .ref si, .ref th, .ref ri, .int (nI tz), .int (nI 0), .ref rk, .ref rs, .ref kt, .ref kr, .int kn, .int rg, .ref ab, .int am, .ref bh, .int bm, .int br, .int (nI rn), .ref wa, .ref ra])), (rk, .inl (cI, 9, .inl kv)), (rs, .inl (cI, 9, .inl sw)), (ce, .inl (cI, 240, .inl cv))] H := by exact hP
  have hD : va_D A [(x, .inr (7, [.int fa, .int tr, .ref so, .ref sl, .ref ce, .int (nI n), .int bar, .int (nI tn), .ref ki, .ref si, .ref th, .ref ri, .int (nI tz), .int (nI 0), .ref rk, .ref rs, .ref kt, .ref kr, .int kn, .int rg, .ref ab, .int am, .ref bh, .int bm, .int br, .int (nI rn), .ref wa, .ref ra])), (rk, .inl (cI, 9, .inl kv)), (rs, .inl (cI, 9, .inl sw)), (ce, .inl (cI, 240, .inl cv))] := by exact hD
  refine lv_aload_n hx hb dX7_readTown_5 rfl (lv_at hl 0 rfl) ?_
  refine lv_iload_n hx hb dX7_readTown_6 rfl (lv_at hl 1 rfl) ?_
  refine lv_bipush (v := 116) hx hb dX7_readTown_7 (by decide) ?_
  have hPc := hP.sub (ws' := [(x, .inr (7, [.int fa, .int tr, .ref so, .ref sl, .ref ce, .int (nI n), .int bar, .int (nI tn), .ref ki, .ref si, .ref th, .ref ri, .int (nI tz), .int (nI 0), .ref rk, .ref rs, .ref kt, .ref kr, .int kn, .int rg, .ref ab, .int am, .ref bh, .int bm, .int br, .int (nI rn), .ref wa, .ref ra])), (ce, .inl (cI, 240, .inl cv))]) [0, 3] rfl
  have hDc := hD.sub (ws' := [(x, .inr (7, [.int fa, .int tr, .ref so, .ref sl, .ref ce, .int (nI n), .int bar, .int (nI tn), .ref ki, .ref si, .ref th, .ref ri, .int (nI tz), .int (nI 0), .ref rk, .ref rs, .ref kt, .ref kr, .int kn, .int rg, .ref ab, .int am, .ref bh, .int bm, .int br, .int (nI rn), .ref wa, .ref ra])), (ce, .inl (cI, 240, .inl cv))]) [0, 3] (by decide) rfl
  have hFc := va_free (wc := [(x, .inr (7, [.int fa, .int tr, .ref so, .ref sl, .ref ce, .int (nI n), .int bar, .int (nI tn), .ref ki, .ref si, .ref th, .ref ri, .int (nI tz), .int (nI 0), .ref rk, .ref rs, .ref kt, .ref kr, .int kn, .int rg, .ref ab, .int am, .ref bh, .int bm, .int br, .int (nI rn), .ref wa, .ref ra])), (ce, .inl (cI, 240, .inl cv))]) hD hS hA [0, 3] rfl
  refine va_calli (va_runV (As := [.int (nI e_), .int 116]) (rest := []) ⟨hx, hb, hml, hown, hts⟩ (c_X7_isSign l D cI cO x fa tr so sl ce n bar tn ki si th ri rk rs kt kr kn rg ab am bh bm br rn wa ra tz 0 cv e_ 116 _ (by omega) (by omega)) (cwV 2 hts gX7_readTown_X7_isSign rfl rfl rfl (by decide +kernel) ⟨Nat.le_of_ble_eq_true rfl, Nat.le_of_ble_eq_true rfl⟩) (preVW hPc hK hNw hDc (va_recv hK hPc (ci := 7) (q0 := 0) rfl rfl)) rfl rfl hl.1 rfl (lv_room (Nat.le_of_ble_eq_true rfl)) dX7_readTown_9 ⟨Nat.zero_le _, Nat.zero_le _⟩) hS (fun q _ h => hFc q h) hFc (fun r9 u t H1 locs ht hvm w9 hB hz1 hk1 hS => ?_)
  obtain ⟨t1_9, rfl⟩ : ∃ z, z = u := ⟨_, rfl⟩
  obtain ⟨hP1, hK1, hD1⟩ := hB
  rw [ht] at hP1
  try dsimp only at w9
  obtain ⟨hP, hD⟩ := va_join (wr := [(rk, .inl (cI, 9, .inl kv)), (rs, .inl (cI, 9, .inl sw))]) (w1 := [(x, .inr (7, [.int fa, .int tr, .ref so, .ref sl, .ref ce, .int (nI n), .int bar, .int (nI tn), .ref ki, .ref si, .ref th, .ref ri, .int (nI t1_9), .int (nI 0), .ref rk, .ref rs, .ref kt, .ref kr, .int kn, .int rg, .ref ab, .int am, .ref bh, .int bm, .int br, .int (nI rn), .ref wa, .ref ra])), (ce, .inl (cI, 240, .inl cv))]) hP hD [0, 3] [1, 2] rfl rfl (by decide) (by decide) hk1 hFc hP1 hD1
  generalize H1 = H at hP hS ⊢
  have hP := hP.sub (ws' := [(x, .inr (7, [.int fa, .int tr, .ref so, .ref sl, .ref ce, .int (nI n), .int bar, .int (nI tn), .ref ki, .ref si, .ref th, .ref ri, .int (nI t1_9), .int (nI 0), .ref rk, .ref rs, .ref kt, .ref kr, .int kn, .int rg, .ref ab, .int am, .ref bh, .int bm, .int br, .int (nI rn), .ref wa, .ref ra])), (rk, .inl (cI, 9, .inl kv)), (rs, .inl (cI, 9, .inl sw)), (ce, .inl (cI, 240, .inl cv))]) [2, 0, 1, 3] rfl
  have hD := hD.sub (ws' := [(x, .inr (7, [.int fa, .int tr, .ref so, .ref sl, .ref ce, .int (nI n), .int bar, .int (nI tn), .ref ki, .ref si, .ref th, .ref ri, .int (nI t1_9), .int (nI 0), .ref rk, .ref rs, .ref kt, .ref kr, .int kn, .int rg, .ref ab, .int am, .ref bh, .int bm, .int br, .int (nI rn), .ref wa, .ref ra])), (rk, .inl (cI, 9, .inl kv)), (rs, .inl (cI, 9, .inl sw)), (ce, .inl (cI, 240, .inl cv))]) [2, 0, 1, 3] (by decide) rfl
  by_cases b9 : tz < e_ ∧ cv tz = 116
  · -- y9
    obtain ⟨rfl, rfl⟩ := w9.1 b9
    have hg1 : ∀ j, j < 1 + 3 * 0 → goB j (cv (tz + j)) = true := fun j hj => by rw [show j = 0 by omega]; unfold goB; rw [if_pos rfl]; exact decide_eq_true b9.2
    refine lv_if_ne (tgt := 17) hx hb dX7_readTown_12 (by decide) (fun _ => ?_) (fun h => absurd h (by decide))
    have lp17 : ∀ (fu17 : Nat) (pq : Nat) (kw : Nat → Int32) (sx : Nat → Int32) (hp9 : pq ≤ 9) (hg : ∀ j, j < 1 + 3 * pq → goB j (cv (tz + j)) = true) (hle : tz + 1 + 3 * pq ≤ e_) (hkv : ∀ k, k < pq → kw k = kindI (cv (tz + 3 * k + 2)) ∧ sx k = cv (tz + 3 * k + 3) - 48) (hm17 : 9 - pq < fu17) (H : Heap) (locs : List Loc) (hP : va_P D vwCl [(x, .inr (7, [.int fa, .int tr, .ref so, .ref sl, .ref ce, .int (nI n), .int bar, .int (nI tn), .ref ki, .ref si, .ref th, .ref ri, .int (nI (tz + 1 + 3 * pq)), .int (nI pq), .ref rk, .ref rs, .ref kt, .ref kr, .int kn, .int rg, .ref ab, .int am, .ref bh, .int bm, .int br, .int (nI rn), .ref wa, .ref ra])), (rk, .inl (cI, 9, .inl kw)), (rs, .inl (cI, 9, .inl sx)), (ce, .inl (cI, 240, .inl cv))] H) (hD : va_D A [(x, .inr (7, [.int fa, .int tr, .ref so, .ref sl, .ref ce, .int (nI n), .int bar, .int (nI tn), .ref ki, .ref si, .ref th, .ref ri, .int (nI (tz + 1 + 3 * pq)), .int (nI pq), .ref rk, .ref rs, .ref kt, .ref kr, .int kn, .int rg, .ref ab, .int am, .ref bh, .int bm, .int br, .int (nI rn), .ref wa, .ref ra])), (rk, .inl (cI, 9, .inl kw)), (rs, .inl (cI, 9, .inl sx)), (ce, .inl (cI, 240, .inl cv))]) (hS : va_S A s.heap H locs) (ls : Array Slot) (hl : lv_has ls 2 [(0, .ref x), (1, .int (nI e_))]), W p l e (headSpec wsX7_readTown ({ frames := 2, cells := 0, slots := 0, locals := 44 } : Room)).room s m ([.ref x, .int (nI e_)]).toArray below meth c H locs 0 0 (MQ below (va_Qi (S := Nat × Nat × (Nat → Int32) × (Nat → Int32)) (fun r u => ((r = 1 ∧ ffW cv tz (e_ - tz) (e_ - tz) 0 = -9 ∧ 3 * u.2.1 + 1 = e_ - tz ∧ u.2.1 ≤ 9 ∧ (∀ k, k < u.2.1 → u.2.2.1 k = kindI (cv (tz + 3 * k + 2)) ∧ u.2.2.2 k = cv (tz + 3 * k + 3) - 48)) ∨ (r = 0 ∧ tz ≤ u.1 ∧ u.1 ≤ 240 ∧ ¬ ffW cv tz (e_ - tz) (e_ - tz) 0 = -9 ∧ ffW cv tz (e_ - tz) (e_ - tz) 0 = nI (u.1 - tz)))) (fun u t => va_P D vwCl [(x, .inr (7, [.int fa, .int tr, .ref so, .ref sl, .ref ce, .int (nI n), .int bar, .int (nI tn), .ref ki, .ref si, .ref th, .ref ri, .int (nI u.1), .int (nI u.2.1), .ref rk, .ref rs, .ref kt, .ref kr, .int kn, .int rg, .ref ab, .int am, .ref bh, .int bm, .int br, .int (nI rn), .ref wa, .ref ra])), (rk, .inl (cI, 9, .inl u.2.2.1)), (rs, .inl (cI, 9, .inl u.2.2.2)), (ce, .inl (cI, 240, .inl cv))] t.heap ∧ va_K D vwCl (tyL cI cO) t ∧ va_D A [(x, .inr (7, [.int fa, .int tr, .ref so, .ref sl, .ref ce, .int (nI n), .int bar, .int (nI tn), .ref ki, .ref si, .ref th, .ref ri, .int (nI u.1), .int (nI u.2.1), .ref rk, .ref rs, .ref kt, .ref kr, .int kn, .int rg, .ref ab, .int am, .ref bh, .int bm, .int br, .int (nI rn), .ref wa, .ref ra])), (rk, .inl (cI, 9, .inl u.2.2.1)), (rs, .inl (cI, 9, .inl u.2.2.2)), (ce, .inl (cI, 240, .inl cv))]) A) ([.ref x, .int (nI e_)]).toArray s 0 0 A) (F0 m 17 ls []) := by
      intro fu17
      induction fu17 with
      | zero =>
        intros; omega
      | succ fu17 ih17 =>
        intro pq kw sx hp9 hg hle hkv hm17 H locs hP hD hS ls hl
        refine lv_aload_n hx hb dX7_readTown_17 rfl (lv_at hl 0 rfl) ?_
        refine va_get (D := D) (ci := 7) (v := .int (nI pq)) (C := RX7) (T := TX7) (N := 28) hx hb hts iX7 hown hK hP 0 rfl rfl 13 (by decide) f92 (fun _ h9 => h9) rfl dX7_readTown_18 ?_
        refine lv_iconst (v := 3) hx hb dX7_readTown_21 (by decide) ?_
        refine lv_icmp_lt (tgt := 42) hx hb dX7_readTown_22 (by decide) (fun c22 => ?_) (fun c22 => ?_)
        · -- t22
          have z22 : pq < 3 := (nI_ltI (b := 3) (by omega) (by decide)).mp c22
          have hcase : pq < 9 ∧ (pq < 3 ∨ tz + 1 + 3 * pq < e_) := ⟨by omega, Or.inl z22⟩
          refine lv_aload_n hx hb dX7_readTown_42 rfl (lv_at hl 0 rfl) ?_
          refine lv_iload_n hx hb dX7_readTown_43 rfl (lv_at hl 1 rfl) ?_
          refine lv_bipush (v := 59) hx hb dX7_readTown_44 (by decide) ?_
          have hPc := hP.sub (ws' := [(x, .inr (7, [.int fa, .int tr, .ref so, .ref sl, .ref ce, .int (nI n), .int bar, .int (nI tn), .ref ki, .ref si, .ref th, .ref ri, .int (nI (tz + 1 + 3 * pq)), .int (nI pq), .ref rk, .ref rs, .ref kt, .ref kr, .int kn, .int rg, .ref ab, .int am, .ref bh, .int bm, .int br, .int (nI rn), .ref wa, .ref ra])), (ce, .inl (cI, 240, .inl cv))]) [0, 3] rfl
          have hDc := hD.sub (ws' := [(x, .inr (7, [.int fa, .int tr, .ref so, .ref sl, .ref ce, .int (nI n), .int bar, .int (nI tn), .ref ki, .ref si, .ref th, .ref ri, .int (nI (tz + 1 + 3 * pq)), .int (nI pq), .ref rk, .ref rs, .ref kt, .ref kr, .int kn, .int rg, .ref ab, .int am, .ref bh, .int bm, .int br, .int (nI rn), .ref wa, .ref ra])), (ce, .inl (cI, 240, .inl cv))]) [0, 3] (by decide) rfl
          have hFc := va_free (wc := [(x, .inr (7, [.int fa, .int tr, .ref so, .ref sl, .ref ce, .int (nI n), .int bar, .int (nI tn), .ref ki, .ref si, .ref th, .ref ri, .int (nI (tz + 1 + 3 * pq)), .int (nI pq), .ref rk, .ref rs, .ref kt, .ref kr, .int kn, .int rg, .ref ab, .int am, .ref bh, .int bm, .int br, .int (nI rn), .ref wa, .ref ra])), (ce, .inl (cI, 240, .inl cv))]) hD hS hA [0, 3] rfl
          refine va_calli (va_runV (As := [.int (nI e_), .int 59]) (rest := []) ⟨hx, hb, hml, hown, hts⟩ (c_X7_isSign l D cI cO x fa tr so sl ce n bar tn ki si th ri rk rs kt kr kn rg ab am bh bm br rn wa ra (tz + 1 + 3 * pq) pq cv e_ 59 _ (by omega) (by omega)) (cwV 2 hts gX7_readTown_X7_isSign rfl rfl rfl (by decide +kernel) ⟨Nat.le_of_ble_eq_true rfl, Nat.le_of_ble_eq_true rfl⟩) (preVW hPc hK hNw hDc (va_recv hK hPc (ci := 7) (q0 := 0) rfl rfl)) rfl rfl hl.1 rfl (lv_room (Nat.le_of_ble_eq_true rfl)) dX7_readTown_46 ⟨Nat.zero_le _, Nat.zero_le _⟩) hS (fun q _ h => hFc q h) hFc (fun r46 u t H1 locs ht hvm w46 hB hz1 hk1 hS => ?_)
          obtain ⟨t1_46, rfl⟩ : ∃ z, z = u := ⟨_, rfl⟩
          obtain ⟨hP1, hK1, hD1⟩ := hB
          rw [ht] at hP1
          try dsimp only at w46
          obtain ⟨hP, hD⟩ := va_join (wr := [(rk, .inl (cI, 9, .inl kw)), (rs, .inl (cI, 9, .inl sx))]) (w1 := [(x, .inr (7, [.int fa, .int tr, .ref so, .ref sl, .ref ce, .int (nI n), .int bar, .int (nI tn), .ref ki, .ref si, .ref th, .ref ri, .int (nI t1_46), .int (nI pq), .ref rk, .ref rs, .ref kt, .ref kr, .int kn, .int rg, .ref ab, .int am, .ref bh, .int bm, .int br, .int (nI rn), .ref wa, .ref ra])), (ce, .inl (cI, 240, .inl cv))]) hP hD [0, 3] [1, 2] rfl rfl (by decide) (by decide) hk1 hFc hP1 hD1
          generalize H1 = H at hP hS ⊢
          have hP := hP.sub (ws' := [(x, .inr (7, [.int fa, .int tr, .ref so, .ref sl, .ref ce, .int (nI n), .int bar, .int (nI tn), .ref ki, .ref si, .ref th, .ref ri, .int (nI t1_46), .int (nI pq), .ref rk, .ref rs, .ref kt, .ref kr, .int kn, .int rg, .ref ab, .int am, .ref bh, .int bm, .int br, .int (nI rn), .ref wa, .ref ra])), (rk, .inl (cI, 9, .inl kw)), (rs, .inl (cI, 9, .inl sx)), (ce, .inl (cI, 240, .inl cv))]) [2, 0, 1, 3] rfl
          have hD := hD.sub (ws' := [(x, .inr (7, [.int fa, .int tr, .ref so, .ref sl, .ref ce, .int (nI n), .int bar, .int (nI tn), .ref ki, .ref si, .ref th, .ref ri, .int (nI t1_46), .int (nI pq), .ref rk, .ref rs, .ref kt, .ref kr, .int kn, .int rg, .ref ab, .int am, .ref bh, .int bm, .int br, .int (nI rn), .ref wa, .ref ra])), (rk, .inl (cI, 9, .inl kw)), (rs, .inl (cI, 9, .inl sx)), (ce, .inl (cI, 240, .inl cv))]) [2, 0, 1, 3] (by decide) rfl
          by_cases b46 : (tz + 1 + 3 * pq) < e_ ∧ cv (tz + 1 + 3 * pq) = 59
          · -- y46
            obtain ⟨rfl, rfl⟩ := w46.1 b46
            have hg2 := go_more hg (by rw [go_semi hcase.1]; exact decide_eq_true (by rw [show tz + (1 + 3 * pq) = tz + 1 + 3 * pq by omega]; exact b46.2))
            refine lv_if_eq (tgt := 60) hx hb dX7_readTown_49 (by decide) (fun h => absurd h (by decide)) (fun _ => ?_)
            refine lv_aload_n hx hb dX7_readTown_52 rfl (lv_at hl 0 rfl) ?_
            refine lv_iload_n hx hb dX7_readTown_53 rfl (lv_at hl 1 rfl) ?_
            have hPc := hP.sub (ws' := [(x, .inr (7, [.int fa, .int tr, .ref so, .ref sl, .ref ce, .int (nI n), .int bar, .int (nI tn), .ref ki, .ref si, .ref th, .ref ri, .int (nI ((tz + 1 + 3 * pq) + 1)), .int (nI pq), .ref rk, .ref rs, .ref kt, .ref kr, .int kn, .int rg, .ref ab, .int am, .ref bh, .int bm, .int br, .int (nI rn), .ref wa, .ref ra])), (rk, .inl (cI, 9, .inl kw)), (rs, .inl (cI, 9, .inl sx)), (ce, .inl (cI, 240, .inl cv))]) [0, 1, 2, 3] rfl
            have hDc := hD.sub (ws' := [(x, .inr (7, [.int fa, .int tr, .ref so, .ref sl, .ref ce, .int (nI n), .int bar, .int (nI tn), .ref ki, .ref si, .ref th, .ref ri, .int (nI ((tz + 1 + 3 * pq) + 1)), .int (nI pq), .ref rk, .ref rs, .ref kt, .ref kr, .int kn, .int rg, .ref ab, .int am, .ref bh, .int bm, .int br, .int (nI rn), .ref wa, .ref ra])), (rk, .inl (cI, 9, .inl kw)), (rs, .inl (cI, 9, .inl sx)), (ce, .inl (cI, 240, .inl cv))]) [0, 1, 2, 3] (by decide) rfl
            have hFc := va_free (wc := [(x, .inr (7, [.int fa, .int tr, .ref so, .ref sl, .ref ce, .int (nI n), .int bar, .int (nI tn), .ref ki, .ref si, .ref th, .ref ri, .int (nI ((tz + 1 + 3 * pq) + 1)), .int (nI pq), .ref rk, .ref rs, .ref kt, .ref kr, .int kn, .int rg, .ref ab, .int am, .ref bh, .int bm, .int br, .int (nI rn), .ref wa, .ref ra])), (rk, .inl (cI, 9, .inl kw)), (rs, .inl (cI, 9, .inl sx)), (ce, .inl (cI, 240, .inl cv))]) hD hS hA [0, 1, 2, 3] rfl
            refine va_calli (va_runV (As := [.int (nI e_)]) (rest := []) ⟨hx, hb, hml, hown, hts⟩ (c_X7_readPerson l D cI cO x fa tr so sl ce n bar tn ki si th ri rk rs kt kr kn rg ab am bh bm br rn wa ra ((tz + 1 + 3 * pq) + 1) pq kw sx cv e_ _ (by omega) (by omega) (by omega)) (cwV 1 hts gX7_readTown_X7_readPerson rfl rfl rfl (by decide +kernel) ⟨Nat.le_of_ble_eq_true rfl, Nat.le_of_ble_eq_true rfl⟩) (preVW hPc hK hNw hDc (va_recv hK hPc (ci := 7) (q0 := 0) rfl rfl)) rfl rfl hl.1 rfl (lv_room (Nat.le_of_ble_eq_true rfl)) dX7_readTown_54 ⟨Nat.zero_le _, Nat.zero_le _⟩) hS (fun q _ h => hFc q h) hFc (fun r54 u t H1 locs ht hvm w54 hB hz1 hk1 hS => ?_)
            obtain ⟨t1_54, p1_54, kv1_54, sw1_54⟩ := u
            obtain ⟨hP1, hK1, hD1⟩ := hB
            rw [ht] at hP1
            try dsimp only at w54
            obtain ⟨hP, hD⟩ := va_join (wr := []) (w1 := [(x, .inr (7, [.int fa, .int tr, .ref so, .ref sl, .ref ce, .int (nI n), .int bar, .int (nI tn), .ref ki, .ref si, .ref th, .ref ri, .int (nI t1_54), .int (nI p1_54), .ref rk, .ref rs, .ref kt, .ref kr, .int kn, .int rg, .ref ab, .int am, .ref bh, .int bm, .int br, .int (nI rn), .ref wa, .ref ra])), (rk, .inl (cI, 9, .inl kv1_54)), (rs, .inl (cI, 9, .inl sw1_54)), (ce, .inl (cI, 240, .inl cv))]) hP hD [0, 1, 2, 3] [] rfl rfl (by decide) (by decide) hk1 hFc hP1 hD1
            generalize H1 = H at hP hS ⊢
            have hP := hP.sub (ws' := [(x, .inr (7, [.int fa, .int tr, .ref so, .ref sl, .ref ce, .int (nI n), .int bar, .int (nI tn), .ref ki, .ref si, .ref th, .ref ri, .int (nI t1_54), .int (nI p1_54), .ref rk, .ref rs, .ref kt, .ref kr, .int kn, .int rg, .ref ab, .int am, .ref bh, .int bm, .int br, .int (nI rn), .ref wa, .ref ra])), (rk, .inl (cI, 9, .inl kv1_54)), (rs, .inl (cI, 9, .inl sw1_54)), (ce, .inl (cI, 240, .inl cv))]) [0, 1, 2, 3] rfl
            have hD := hD.sub (ws' := [(x, .inr (7, [.int fa, .int tr, .ref so, .ref sl, .ref ce, .int (nI n), .int bar, .int (nI tn), .ref ki, .ref si, .ref th, .ref ri, .int (nI t1_54), .int (nI p1_54), .ref rk, .ref rs, .ref kt, .ref kr, .int kn, .int rg, .ref ab, .int am, .ref bh, .int bm, .int br, .int (nI rn), .ref wa, .ref ra])), (rk, .inl (cI, 9, .inl kv1_54)), (rs, .inl (cI, 9, .inl sw1_54)), (ce, .inl (cI, 240, .inl cv))]) [0, 1, 2, 3] (by decide) rfl
            by_cases b54 : ((tz + 1 + 3 * pq) + 1) < e_ ∧ ¬ kindI (cv ((tz + 1 + 3 * pq) + 1)) = -9 ∧ ((tz + 1 + 3 * pq) + 1) + 1 < e_ ∧ lstT (cv (((tz + 1 + 3 * pq) + 1) + 1)) 49 57 = true
            · -- y54
              obtain ⟨rfl, rfl, rfl, rfl, rfl⟩ := w54.1 b54
              have hg3 := go_more hg2 (by rw [go_let hcase.1]; exact decide_eq_true (by rw [show tz + (1 + 3 * pq + 1) = tz + 1 + 3 * pq + 1 by omega]; exact b54.2.1))
              have hg4 := go_more hg3 (by rw [go_dig hcase.1]; exact decide_eq_true (by rw [show tz + (1 + 3 * pq + 1 + 1) = tz + 1 + 3 * pq + 1 + 1 by omega]; exact of_decide_eq_true b54.2.2.2))
              refine lv_if_ne (tgt := 17) hx hb dX7_readTown_57 (by decide) (fun _ => ?_) (fun h => absurd h (by decide))
              have ew17_0_0 : (nI (((tz + 1 + 3 * pq) + 1) + 1 + 1)) = nI (tz + 1 + 3 * (pq + 1)) := by congr 1
              have hP : va_P D vwCl [(x, .inr (7, [.int fa, .int tr, .ref so, .ref sl, .ref ce, .int (nI n), .int bar, .int (nI tn), .ref ki, .ref si, .ref th, .ref ri, .int (nI (tz + 1 + 3 * (pq + 1))), .int (nI (pq + 1)), .ref rk, .ref rs, .ref kt, .ref kr, .int kn, .int rg, .ref ab, .int am, .ref bh, .int bm, .int br, .int (nI rn), .ref wa, .ref ra])), (rk, .inl (cI, 9, .inl (upd kw pq (kindI (cv ((tz + 1 + 3 * pq) + 1)))))), (rs, .inl (cI, 9, .inl (upd sx pq (cv (((tz + 1 + 3 * pq) + 1) + 1) - 48)))), (ce, .inl (cI, 240, .inl cv))] H := by rw [← ew17_0_0]; exact hP
              have hD : va_D A [(x, .inr (7, [.int fa, .int tr, .ref so, .ref sl, .ref ce, .int (nI n), .int bar, .int (nI tn), .ref ki, .ref si, .ref th, .ref ri, .int (nI (tz + 1 + 3 * (pq + 1))), .int (nI (pq + 1)), .ref rk, .ref rs, .ref kt, .ref kr, .int kn, .int rg, .ref ab, .int am, .ref bh, .int bm, .int br, .int (nI rn), .ref wa, .ref ra])), (rk, .inl (cI, 9, .inl (upd kw pq (kindI (cv ((tz + 1 + 3 * pq) + 1)))))), (rs, .inl (cI, 9, .inl (upd sx pq (cv (((tz + 1 + 3 * pq) + 1) + 1) - 48)))), (ce, .inl (cI, 240, .inl cv))] := by rw [← ew17_0_0]; exact hD
              have ew17_1_0 : (upd kw pq (kindI (cv ((tz + 1 + 3 * pq) + 1)))) = (upd kw pq (kindI (cv (tz + 1 + 3 * pq + 1)))) := by rfl
              have hP : va_P D vwCl [(x, .inr (7, [.int fa, .int tr, .ref so, .ref sl, .ref ce, .int (nI n), .int bar, .int (nI tn), .ref ki, .ref si, .ref th, .ref ri, .int (nI (tz + 1 + 3 * (pq + 1))), .int (nI (pq + 1)), .ref rk, .ref rs, .ref kt, .ref kr, .int kn, .int rg, .ref ab, .int am, .ref bh, .int bm, .int br, .int (nI rn), .ref wa, .ref ra])), (rk, .inl (cI, 9, .inl (upd kw pq (kindI (cv (tz + 1 + 3 * pq + 1)))))), (rs, .inl (cI, 9, .inl (upd sx pq (cv (((tz + 1 + 3 * pq) + 1) + 1) - 48)))), (ce, .inl (cI, 240, .inl cv))] H := by rw [← ew17_1_0]; exact hP
              have hD : va_D A [(x, .inr (7, [.int fa, .int tr, .ref so, .ref sl, .ref ce, .int (nI n), .int bar, .int (nI tn), .ref ki, .ref si, .ref th, .ref ri, .int (nI (tz + 1 + 3 * (pq + 1))), .int (nI (pq + 1)), .ref rk, .ref rs, .ref kt, .ref kr, .int kn, .int rg, .ref ab, .int am, .ref bh, .int bm, .int br, .int (nI rn), .ref wa, .ref ra])), (rk, .inl (cI, 9, .inl (upd kw pq (kindI (cv (tz + 1 + 3 * pq + 1)))))), (rs, .inl (cI, 9, .inl (upd sx pq (cv (((tz + 1 + 3 * pq) + 1) + 1) - 48)))), (ce, .inl (cI, 240, .inl cv))] := by rw [← ew17_1_0]; exact hD
              have ew17_2_0 : (upd sx pq (cv (((tz + 1 + 3 * pq) + 1) + 1) - 48)) = (upd sx pq (cv (tz + 1 + 3 * pq + 1 + 1) - 48)) := by rfl
              have hP : va_P D vwCl [(x, .inr (7, [.int fa, .int tr, .ref so, .ref sl, .ref ce, .int (nI n), .int bar, .int (nI tn), .ref ki, .ref si, .ref th, .ref ri, .int (nI (tz + 1 + 3 * (pq + 1))), .int (nI (pq + 1)), .ref rk, .ref rs, .ref kt, .ref kr, .int kn, .int rg, .ref ab, .int am, .ref bh, .int bm, .int br, .int (nI rn), .ref wa, .ref ra])), (rk, .inl (cI, 9, .inl (upd kw pq (kindI (cv (tz + 1 + 3 * pq + 1)))))), (rs, .inl (cI, 9, .inl (upd sx pq (cv (tz + 1 + 3 * pq + 1 + 1) - 48)))), (ce, .inl (cI, 240, .inl cv))] H := by rw [← ew17_2_0]; exact hP
              have hD : va_D A [(x, .inr (7, [.int fa, .int tr, .ref so, .ref sl, .ref ce, .int (nI n), .int bar, .int (nI tn), .ref ki, .ref si, .ref th, .ref ri, .int (nI (tz + 1 + 3 * (pq + 1))), .int (nI (pq + 1)), .ref rk, .ref rs, .ref kt, .ref kr, .int kn, .int rg, .ref ab, .int am, .ref bh, .int bm, .int br, .int (nI rn), .ref wa, .ref ra])), (rk, .inl (cI, 9, .inl (upd kw pq (kindI (cv (tz + 1 + 3 * pq + 1)))))), (rs, .inl (cI, 9, .inl (upd sx pq (cv (tz + 1 + 3 * pq + 1 + 1) - 48)))), (ce, .inl (cI, 240, .inl cv))] := by rw [← ew17_2_0]; exact hD
              exact ih17 (pq + 1) (upd kw pq (kindI (cv (tz + 1 + 3 * pq + 1)))) (upd sx pq (cv (tz + 1 + 3 * pq + 1 + 1) - 48)) (by omega) (fun j hj => hg4 j (by omega)) (by omega) (fun k hk => kv_s hkv hk) (by omega) _ _ hP hD hS _ (lv_sub hl [0, 1] rfl)
            · -- n54
              obtain ⟨rfl, rfl, q_p1_54, rfl, q_sw1_54⟩ := w54.2 b54
              subst p1_54
              subst sw1_54
              have hff : tz ≤ (if tz + 1 + 3 * pq + 1 < e_ ∧ ¬ kindI (cv (tz + 1 + 3 * pq + 1)) = -9 then tz + 1 + 3 * pq + 1 + 1 else tz + 1 + 3 * pq + 1) ∧ (if tz + 1 + 3 * pq + 1 < e_ ∧ ¬ kindI (cv (tz + 1 + 3 * pq + 1)) = -9 then tz + 1 + 3 * pq + 1 + 1 else tz + 1 + 3 * pq + 1) ≤ 240 ∧ ffW cv tz (e_ - tz) (e_ - tz) 0 = nI ((if tz + 1 + 3 * pq + 1 < e_ ∧ ¬ kindI (cv (tz + 1 + 3 * pq + 1)) = -9 then tz + 1 + 3 * pq + 1 + 1 else tz + 1 + 3 * pq + 1) - tz) := rt_no hcase.1 he b46.1 hg2 b54
              refine lv_if_ne (tgt := 17) hx hb dX7_readTown_57 (by decide) (fun h => absurd (by decide) h) (fun _ => ?_)
              refine lv_iconst (v := 0) hx hb dX7_readTown_60 (by decide) ?_
              exact W.zret (v := 0) (ty := .boolean) hx hb hr rfl (fun t ht hW => ⟨⟨_, ((if ((tz + 1 + 3 * pq) + 1) < e_ ∧ ¬ kindI (cv ((tz + 1 + 3 * pq) + 1)) = -9 then ((tz + 1 + 3 * pq) + 1) + 1 else ((tz + 1 + 3 * pq) + 1)), pq, (upd kw pq (if ((tz + 1 + 3 * pq) + 1) < e_ then kindI (cv ((tz + 1 + 3 * pq) + 1)) else -9)), sx), rfl, by first | exact Or.inr ⟨rfl, hff.1, hff.2.1, by rw [hff.2.2]; exact nI_nm9 (by have q := hff.2.1; omega), hff.2.2⟩ | exact Or.inr ⟨rfl, by omega, by omega, by rw [hff]; exact nI_nm9 (by omega), hff⟩, by rw [ht]; exact hP, va_K.moved hW.alike hK, hD⟩, hS.F ht⟩) hS.2.2 dX7_readTown_61
          · -- n46
            obtain ⟨rfl, rfl⟩ := w46.2 b46
            have hff : ffW cv tz (e_ - tz) (e_ - tz) 0 = nI (tz + 1 + 3 * pq - tz) := by rw [show tz + 1 + 3 * pq - tz = 1 + 3 * pq by omega]; exact ff_stop hg (by omega) (fun q => by rw [go_semi hcase.1]; exact decide_eq_false (fun z => b46 ⟨by omega, by rw [show tz + 1 + 3 * pq = tz + (1 + 3 * pq) by omega]; exact z⟩)) (fun q => by rcases hcase.2 with z | z <;> omega)
            refine lv_if_eq (tgt := 60) hx hb dX7_readTown_49 (by decide) (fun _ => ?_) (fun h => absurd (by decide) h)
            refine lv_iconst (v := 0) hx hb dX7_readTown_60 (by decide) ?_
            exact W.zret (v := 0) (ty := .boolean) hx hb hr rfl (fun t ht hW => ⟨⟨_, ((tz + 1 + 3 * pq), pq, kw, sx), rfl, by first | exact Or.inr ⟨rfl, hff.1, hff.2.1, by rw [hff.2.2]; exact nI_nm9 (by have q := hff.2.1; omega), hff.2.2⟩ | exact Or.inr ⟨rfl, by omega, by omega, by rw [hff]; exact nI_nm9 (by omega), hff⟩, by rw [ht]; exact hP, va_K.moved hW.alike hK, hD⟩, hS.F ht⟩) hS.2.2 dX7_readTown_61
        · -- f22
          have z22 : ¬ pq < 3 := fun q => c22 (nI_lt (b := 3) q (by decide))
          refine lv_aload_n hx hb dX7_readTown_25 rfl (lv_at hl 0 rfl) ?_
          refine va_get (D := D) (ci := 7) (v := .int (nI pq)) (C := RX7) (T := TX7) (N := 28) hx hb hts iX7 hown hK hP 0 rfl rfl 13 (by decide) f92 (fun _ h9 => h9) rfl dX7_readTown_26 ?_
          refine lv_bipush (v := 9) hx hb dX7_readTown_29 (by decide) ?_
          refine lv_icmp_ge (tgt := 62) hx hb dX7_readTown_31 (by decide) (fun c31 => ?_) (fun c31 => ?_)
          · -- t31
            have z31 : pq = 9 := by have q := (nI_leI (a := 9) (by decide) (by omega)).mp c31; omega
            refine lv_aload_n hx hb dX7_readTown_62 rfl (lv_at hl 0 rfl) ?_
            refine va_get (D := D) (ci := 7) (v := .int (nI (tz + 1 + 3 * pq))) (C := RX7) (T := TX7) (N := 28) hx hb hts iX7 hown hK hP 0 rfl rfl 12 (by decide) f71 (fun _ h9 => h9) rfl dX7_readTown_63 ?_
            refine lv_iload_n hx hb dX7_readTown_66 rfl (lv_at hl 1 rfl) ?_
            refine lv_icmp_ne (tgt := 74) hx hb dX7_readTown_67 (by decide) (fun c67 => ?_) (fun c67 => ?_)
            · -- t67
              have z67 : ¬ tz + 1 + 3 * pq = e_ := fun q => c67 (by rw [q])
              refine lv_iconst (v := 0) hx hb dX7_readTown_74 (by decide) ?_
              exact W.zret (v := 0) (ty := .boolean) hx hb hr rfl (fun t ht hW => ⟨⟨_, ((tz + 1 + 3 * pq), pq, kw, sx), rfl, by first | exact absurd z39 z67 | exact (fun hff : ffW cv tz (e_ - tz) (e_ - tz) 0 = nI (tz + 1 + 3 * pq - tz) => Or.inr ⟨rfl, by omega, by omega, by rw [hff]; exact nI_nm9 (by omega), hff⟩) (by rw [show tz + 1 + 3 * pq - tz = 28 by omega]; exact ff_stop (fun j hj => hg j (by omega)) (by omega) (fun _ => go_28) (fun q => by omega)), by rw [ht]; exact hP, va_K.moved hW.alike hK, hD⟩, hS.F ht⟩) hS.2.2 dX7_readTown_75
            · -- f67
              have z67 : tz + 1 + 3 * pq = e_ := (nI_eq (by omega) (by omega)).mp c67
              refine lv_iconst (v := 1) hx hb dX7_readTown_70 (by decide) ?_
              refine lv_goto (tgt := 75) hx hb dX7_readTown_71 (by decide) ?_
              exact W.zret (v := 1) (ty := .boolean) hx hb hr rfl (fun t ht hW => ⟨⟨_, ((tz + 1 + 3 * pq), pq, kw, sx), rfl, by exact Or.inl ⟨rfl, ff_ok (fun j hj => hg j (by omega)) ⟨by omega, by omega⟩, (show 3 * pq + 1 = e_ - tz by omega), hp9, hkv⟩, by rw [ht]; exact hP, va_K.moved hW.alike hK, hD⟩, hS.F ht⟩) hS.2.2 dX7_readTown_75
          · -- f31
            have z31 : pq < 9 := by have q := mt (nI_leI (a := 9) (by decide) (by omega)).mpr c31; omega
            refine lv_aload_n hx hb dX7_readTown_34 rfl (lv_at hl 0 rfl) ?_
            refine va_get (D := D) (ci := 7) (v := .int (nI (tz + 1 + 3 * pq))) (C := RX7) (T := TX7) (N := 28) hx hb hts iX7 hown hK hP 0 rfl rfl 12 (by decide) f71 (fun _ h9 => h9) rfl dX7_readTown_35 ?_
            refine lv_iload_n hx hb dX7_readTown_38 rfl (lv_at hl 1 rfl) ?_
            refine lv_icmp_ge (tgt := 62) hx hb dX7_readTown_39 (by decide) (fun c39 => ?_) (fun c39 => ?_)
            · -- t39
              have z39 : tz + 1 + 3 * pq = e_ := by have q := ge_n (by omega) (by omega) c39; omega
              refine lv_aload_n hx hb dX7_readTown_62 rfl (lv_at hl 0 rfl) ?_
              refine va_get (D := D) (ci := 7) (v := .int (nI (tz + 1 + 3 * pq))) (C := RX7) (T := TX7) (N := 28) hx hb hts iX7 hown hK hP 0 rfl rfl 12 (by decide) f71 (fun _ h9 => h9) rfl dX7_readTown_63 ?_
              refine lv_iload_n hx hb dX7_readTown_66 rfl (lv_at hl 1 rfl) ?_
              refine lv_icmp_ne (tgt := 74) hx hb dX7_readTown_67 (by decide) (fun c67 => ?_) (fun c67 => ?_)
              · -- t67
                have z67 : ¬ tz + 1 + 3 * pq = e_ := fun q => c67 (by rw [q])
                refine lv_iconst (v := 0) hx hb dX7_readTown_74 (by decide) ?_
                exact W.zret (v := 0) (ty := .boolean) hx hb hr rfl (fun t ht hW => ⟨⟨_, ((tz + 1 + 3 * pq), pq, kw, sx), rfl, by first | exact absurd z39 z67 | exact (fun hff : ffW cv tz (e_ - tz) (e_ - tz) 0 = nI (tz + 1 + 3 * pq - tz) => Or.inr ⟨rfl, by omega, by omega, by rw [hff]; exact nI_nm9 (by omega), hff⟩) (by rw [show tz + 1 + 3 * pq - tz = 28 by omega]; exact ff_stop (fun j hj => hg j (by omega)) (by omega) (fun _ => go_28) (fun q => by omega)), by rw [ht]; exact hP, va_K.moved hW.alike hK, hD⟩, hS.F ht⟩) hS.2.2 dX7_readTown_75
              · -- f67
                have z67 : tz + 1 + 3 * pq = e_ := (nI_eq (by omega) (by omega)).mp c67
                refine lv_iconst (v := 1) hx hb dX7_readTown_70 (by decide) ?_
                refine lv_goto (tgt := 75) hx hb dX7_readTown_71 (by decide) ?_
                exact W.zret (v := 1) (ty := .boolean) hx hb hr rfl (fun t ht hW => ⟨⟨_, ((tz + 1 + 3 * pq), pq, kw, sx), rfl, by exact Or.inl ⟨rfl, ff_ok (fun j hj => hg j (by omega)) ⟨by omega, by omega⟩, (show 3 * pq + 1 = e_ - tz by omega), hp9, hkv⟩, by rw [ht]; exact hP, va_K.moved hW.alike hK, hD⟩, hS.F ht⟩) hS.2.2 dX7_readTown_75
            · -- f39
              have z39 : tz + 1 + 3 * pq < e_ := lt_n (by omega) (by omega) c39
              have hcase : pq < 9 ∧ (pq < 3 ∨ tz + 1 + 3 * pq < e_) := ⟨z31, Or.inr z39⟩
              refine lv_aload_n hx hb dX7_readTown_42 rfl (lv_at hl 0 rfl) ?_
              refine lv_iload_n hx hb dX7_readTown_43 rfl (lv_at hl 1 rfl) ?_
              refine lv_bipush (v := 59) hx hb dX7_readTown_44 (by decide) ?_
              have hPc := hP.sub (ws' := [(x, .inr (7, [.int fa, .int tr, .ref so, .ref sl, .ref ce, .int (nI n), .int bar, .int (nI tn), .ref ki, .ref si, .ref th, .ref ri, .int (nI (tz + 1 + 3 * pq)), .int (nI pq), .ref rk, .ref rs, .ref kt, .ref kr, .int kn, .int rg, .ref ab, .int am, .ref bh, .int bm, .int br, .int (nI rn), .ref wa, .ref ra])), (ce, .inl (cI, 240, .inl cv))]) [0, 3] rfl
              have hDc := hD.sub (ws' := [(x, .inr (7, [.int fa, .int tr, .ref so, .ref sl, .ref ce, .int (nI n), .int bar, .int (nI tn), .ref ki, .ref si, .ref th, .ref ri, .int (nI (tz + 1 + 3 * pq)), .int (nI pq), .ref rk, .ref rs, .ref kt, .ref kr, .int kn, .int rg, .ref ab, .int am, .ref bh, .int bm, .int br, .int (nI rn), .ref wa, .ref ra])), (ce, .inl (cI, 240, .inl cv))]) [0, 3] (by decide) rfl
              have hFc := va_free (wc := [(x, .inr (7, [.int fa, .int tr, .ref so, .ref sl, .ref ce, .int (nI n), .int bar, .int (nI tn), .ref ki, .ref si, .ref th, .ref ri, .int (nI (tz + 1 + 3 * pq)), .int (nI pq), .ref rk, .ref rs, .ref kt, .ref kr, .int kn, .int rg, .ref ab, .int am, .ref bh, .int bm, .int br, .int (nI rn), .ref wa, .ref ra])), (ce, .inl (cI, 240, .inl cv))]) hD hS hA [0, 3] rfl
              refine va_calli (va_runV (As := [.int (nI e_), .int 59]) (rest := []) ⟨hx, hb, hml, hown, hts⟩ (c_X7_isSign l D cI cO x fa tr so sl ce n bar tn ki si th ri rk rs kt kr kn rg ab am bh bm br rn wa ra (tz + 1 + 3 * pq) pq cv e_ 59 _ (by omega) (by omega)) (cwV 2 hts gX7_readTown_X7_isSign rfl rfl rfl (by decide +kernel) ⟨Nat.le_of_ble_eq_true rfl, Nat.le_of_ble_eq_true rfl⟩) (preVW hPc hK hNw hDc (va_recv hK hPc (ci := 7) (q0 := 0) rfl rfl)) rfl rfl hl.1 rfl (lv_room (Nat.le_of_ble_eq_true rfl)) dX7_readTown_46 ⟨Nat.zero_le _, Nat.zero_le _⟩) hS (fun q _ h => hFc q h) hFc (fun r46 u t H1 locs ht hvm w46 hB hz1 hk1 hS => ?_)
              obtain ⟨t1_46, rfl⟩ : ∃ z, z = u := ⟨_, rfl⟩
              obtain ⟨hP1, hK1, hD1⟩ := hB
              rw [ht] at hP1
              try dsimp only at w46
              obtain ⟨hP, hD⟩ := va_join (wr := [(rk, .inl (cI, 9, .inl kw)), (rs, .inl (cI, 9, .inl sx))]) (w1 := [(x, .inr (7, [.int fa, .int tr, .ref so, .ref sl, .ref ce, .int (nI n), .int bar, .int (nI tn), .ref ki, .ref si, .ref th, .ref ri, .int (nI t1_46), .int (nI pq), .ref rk, .ref rs, .ref kt, .ref kr, .int kn, .int rg, .ref ab, .int am, .ref bh, .int bm, .int br, .int (nI rn), .ref wa, .ref ra])), (ce, .inl (cI, 240, .inl cv))]) hP hD [0, 3] [1, 2] rfl rfl (by decide) (by decide) hk1 hFc hP1 hD1
              generalize H1 = H at hP hS ⊢
              have hP := hP.sub (ws' := [(x, .inr (7, [.int fa, .int tr, .ref so, .ref sl, .ref ce, .int (nI n), .int bar, .int (nI tn), .ref ki, .ref si, .ref th, .ref ri, .int (nI t1_46), .int (nI pq), .ref rk, .ref rs, .ref kt, .ref kr, .int kn, .int rg, .ref ab, .int am, .ref bh, .int bm, .int br, .int (nI rn), .ref wa, .ref ra])), (rk, .inl (cI, 9, .inl kw)), (rs, .inl (cI, 9, .inl sx)), (ce, .inl (cI, 240, .inl cv))]) [2, 0, 1, 3] rfl
              have hD := hD.sub (ws' := [(x, .inr (7, [.int fa, .int tr, .ref so, .ref sl, .ref ce, .int (nI n), .int bar, .int (nI tn), .ref ki, .ref si, .ref th, .ref ri, .int (nI t1_46), .int (nI pq), .ref rk, .ref rs, .ref kt, .ref kr, .int kn, .int rg, .ref ab, .int am, .ref bh, .int bm, .int br, .int (nI rn), .ref wa, .ref ra])), (rk, .inl (cI, 9, .inl kw)), (rs, .inl (cI, 9, .inl sx)), (ce, .inl (cI, 240, .inl cv))]) [2, 0, 1, 3] (by decide) rfl
              by_cases b46 : (tz + 1 + 3 * pq) < e_ ∧ cv (tz + 1 + 3 * pq) = 59
              · -- y46
                obtain ⟨rfl, rfl⟩ := w46.1 b46
                have hg2 := go_more hg (by rw [go_semi hcase.1]; exact decide_eq_true (by rw [show tz + (1 + 3 * pq) = tz + 1 + 3 * pq by omega]; exact b46.2))
                refine lv_if_eq (tgt := 60) hx hb dX7_readTown_49 (by decide) (fun h => absurd h (by decide)) (fun _ => ?_)
                refine lv_aload_n hx hb dX7_readTown_52 rfl (lv_at hl 0 rfl) ?_
                refine lv_iload_n hx hb dX7_readTown_53 rfl (lv_at hl 1 rfl) ?_
                have hPc := hP.sub (ws' := [(x, .inr (7, [.int fa, .int tr, .ref so, .ref sl, .ref ce, .int (nI n), .int bar, .int (nI tn), .ref ki, .ref si, .ref th, .ref ri, .int (nI ((tz + 1 + 3 * pq) + 1)), .int (nI pq), .ref rk, .ref rs, .ref kt, .ref kr, .int kn, .int rg, .ref ab, .int am, .ref bh, .int bm, .int br, .int (nI rn), .ref wa, .ref ra])), (rk, .inl (cI, 9, .inl kw)), (rs, .inl (cI, 9, .inl sx)), (ce, .inl (cI, 240, .inl cv))]) [0, 1, 2, 3] rfl
                have hDc := hD.sub (ws' := [(x, .inr (7, [.int fa, .int tr, .ref so, .ref sl, .ref ce, .int (nI n), .int bar, .int (nI tn), .ref ki, .ref si, .ref th, .ref ri, .int (nI ((tz + 1 + 3 * pq) + 1)), .int (nI pq), .ref rk, .ref rs, .ref kt, .ref kr, .int kn, .int rg, .ref ab, .int am, .ref bh, .int bm, .int br, .int (nI rn), .ref wa, .ref ra])), (rk, .inl (cI, 9, .inl kw)), (rs, .inl (cI, 9, .inl sx)), (ce, .inl (cI, 240, .inl cv))]) [0, 1, 2, 3] (by decide) rfl
                have hFc := va_free (wc := [(x, .inr (7, [.int fa, .int tr, .ref so, .ref sl, .ref ce, .int (nI n), .int bar, .int (nI tn), .ref ki, .ref si, .ref th, .ref ri, .int (nI ((tz + 1 + 3 * pq) + 1)), .int (nI pq), .ref rk, .ref rs, .ref kt, .ref kr, .int kn, .int rg, .ref ab, .int am, .ref bh, .int bm, .int br, .int (nI rn), .ref wa, .ref ra])), (rk, .inl (cI, 9, .inl kw)), (rs, .inl (cI, 9, .inl sx)), (ce, .inl (cI, 240, .inl cv))]) hD hS hA [0, 1, 2, 3] rfl
                refine va_calli (va_runV (As := [.int (nI e_)]) (rest := []) ⟨hx, hb, hml, hown, hts⟩ (c_X7_readPerson l D cI cO x fa tr so sl ce n bar tn ki si th ri rk rs kt kr kn rg ab am bh bm br rn wa ra ((tz + 1 + 3 * pq) + 1) pq kw sx cv e_ _ (by omega) (by omega) (by omega)) (cwV 1 hts gX7_readTown_X7_readPerson rfl rfl rfl (by decide +kernel) ⟨Nat.le_of_ble_eq_true rfl, Nat.le_of_ble_eq_true rfl⟩) (preVW hPc hK hNw hDc (va_recv hK hPc (ci := 7) (q0 := 0) rfl rfl)) rfl rfl hl.1 rfl (lv_room (Nat.le_of_ble_eq_true rfl)) dX7_readTown_54 ⟨Nat.zero_le _, Nat.zero_le _⟩) hS (fun q _ h => hFc q h) hFc (fun r54 u t H1 locs ht hvm w54 hB hz1 hk1 hS => ?_)
                obtain ⟨t1_54, p1_54, kv1_54, sw1_54⟩ := u
                obtain ⟨hP1, hK1, hD1⟩ := hB
                rw [ht] at hP1
                try dsimp only at w54
                obtain ⟨hP, hD⟩ := va_join (wr := []) (w1 := [(x, .inr (7, [.int fa, .int tr, .ref so, .ref sl, .ref ce, .int (nI n), .int bar, .int (nI tn), .ref ki, .ref si, .ref th, .ref ri, .int (nI t1_54), .int (nI p1_54), .ref rk, .ref rs, .ref kt, .ref kr, .int kn, .int rg, .ref ab, .int am, .ref bh, .int bm, .int br, .int (nI rn), .ref wa, .ref ra])), (rk, .inl (cI, 9, .inl kv1_54)), (rs, .inl (cI, 9, .inl sw1_54)), (ce, .inl (cI, 240, .inl cv))]) hP hD [0, 1, 2, 3] [] rfl rfl (by decide) (by decide) hk1 hFc hP1 hD1
                generalize H1 = H at hP hS ⊢
                have hP := hP.sub (ws' := [(x, .inr (7, [.int fa, .int tr, .ref so, .ref sl, .ref ce, .int (nI n), .int bar, .int (nI tn), .ref ki, .ref si, .ref th, .ref ri, .int (nI t1_54), .int (nI p1_54), .ref rk, .ref rs, .ref kt, .ref kr, .int kn, .int rg, .ref ab, .int am, .ref bh, .int bm, .int br, .int (nI rn), .ref wa, .ref ra])), (rk, .inl (cI, 9, .inl kv1_54)), (rs, .inl (cI, 9, .inl sw1_54)), (ce, .inl (cI, 240, .inl cv))]) [0, 1, 2, 3] rfl
                have hD := hD.sub (ws' := [(x, .inr (7, [.int fa, .int tr, .ref so, .ref sl, .ref ce, .int (nI n), .int bar, .int (nI tn), .ref ki, .ref si, .ref th, .ref ri, .int (nI t1_54), .int (nI p1_54), .ref rk, .ref rs, .ref kt, .ref kr, .int kn, .int rg, .ref ab, .int am, .ref bh, .int bm, .int br, .int (nI rn), .ref wa, .ref ra])), (rk, .inl (cI, 9, .inl kv1_54)), (rs, .inl (cI, 9, .inl sw1_54)), (ce, .inl (cI, 240, .inl cv))]) [0, 1, 2, 3] (by decide) rfl
                by_cases b54 : ((tz + 1 + 3 * pq) + 1) < e_ ∧ ¬ kindI (cv ((tz + 1 + 3 * pq) + 1)) = -9 ∧ ((tz + 1 + 3 * pq) + 1) + 1 < e_ ∧ lstT (cv (((tz + 1 + 3 * pq) + 1) + 1)) 49 57 = true
                · -- y54
                  obtain ⟨rfl, rfl, rfl, rfl, rfl⟩ := w54.1 b54
                  have hg3 := go_more hg2 (by rw [go_let hcase.1]; exact decide_eq_true (by rw [show tz + (1 + 3 * pq + 1) = tz + 1 + 3 * pq + 1 by omega]; exact b54.2.1))
                  have hg4 := go_more hg3 (by rw [go_dig hcase.1]; exact decide_eq_true (by rw [show tz + (1 + 3 * pq + 1 + 1) = tz + 1 + 3 * pq + 1 + 1 by omega]; exact of_decide_eq_true b54.2.2.2))
                  refine lv_if_ne (tgt := 17) hx hb dX7_readTown_57 (by decide) (fun _ => ?_) (fun h => absurd h (by decide))
                  have ew17_0_0 : (nI (((tz + 1 + 3 * pq) + 1) + 1 + 1)) = nI (tz + 1 + 3 * (pq + 1)) := by congr 1
                  have hP : va_P D vwCl [(x, .inr (7, [.int fa, .int tr, .ref so, .ref sl, .ref ce, .int (nI n), .int bar, .int (nI tn), .ref ki, .ref si, .ref th, .ref ri, .int (nI (tz + 1 + 3 * (pq + 1))), .int (nI (pq + 1)), .ref rk, .ref rs, .ref kt, .ref kr, .int kn, .int rg, .ref ab, .int am, .ref bh, .int bm, .int br, .int (nI rn), .ref wa, .ref ra])), (rk, .inl (cI, 9, .inl (upd kw pq (kindI (cv ((tz + 1 + 3 * pq) + 1)))))), (rs, .inl (cI, 9, .inl (upd sx pq (cv (((tz + 1 + 3 * pq) + 1) + 1) - 48)))), (ce, .inl (cI, 240, .inl cv))] H := by rw [← ew17_0_0]; exact hP
                  have hD : va_D A [(x, .inr (7, [.int fa, .int tr, .ref so, .ref sl, .ref ce, .int (nI n), .int bar, .int (nI tn), .ref ki, .ref si, .ref th, .ref ri, .int (nI (tz + 1 + 3 * (pq + 1))), .int (nI (pq + 1)), .ref rk, .ref rs, .ref kt, .ref kr, .int kn, .int rg, .ref ab, .int am, .ref bh, .int bm, .int br, .int (nI rn), .ref wa, .ref ra])), (rk, .inl (cI, 9, .inl (upd kw pq (kindI (cv ((tz + 1 + 3 * pq) + 1)))))), (rs, .inl (cI, 9, .inl (upd sx pq (cv (((tz + 1 + 3 * pq) + 1) + 1) - 48)))), (ce, .inl (cI, 240, .inl cv))] := by rw [← ew17_0_0]; exact hD
                  have ew17_1_0 : (upd kw pq (kindI (cv ((tz + 1 + 3 * pq) + 1)))) = (upd kw pq (kindI (cv (tz + 1 + 3 * pq + 1)))) := by rfl
                  have hP : va_P D vwCl [(x, .inr (7, [.int fa, .int tr, .ref so, .ref sl, .ref ce, .int (nI n), .int bar, .int (nI tn), .ref ki, .ref si, .ref th, .ref ri, .int (nI (tz + 1 + 3 * (pq + 1))), .int (nI (pq + 1)), .ref rk, .ref rs, .ref kt, .ref kr, .int kn, .int rg, .ref ab, .int am, .ref bh, .int bm, .int br, .int (nI rn), .ref wa, .ref ra])), (rk, .inl (cI, 9, .inl (upd kw pq (kindI (cv (tz + 1 + 3 * pq + 1)))))), (rs, .inl (cI, 9, .inl (upd sx pq (cv (((tz + 1 + 3 * pq) + 1) + 1) - 48)))), (ce, .inl (cI, 240, .inl cv))] H := by rw [← ew17_1_0]; exact hP
                  have hD : va_D A [(x, .inr (7, [.int fa, .int tr, .ref so, .ref sl, .ref ce, .int (nI n), .int bar, .int (nI tn), .ref ki, .ref si, .ref th, .ref ri, .int (nI (tz + 1 + 3 * (pq + 1))), .int (nI (pq + 1)), .ref rk, .ref rs, .ref kt, .ref kr, .int kn, .int rg, .ref ab, .int am, .ref bh, .int bm, .int br, .int (nI rn), .ref wa, .ref ra])), (rk, .inl (cI, 9, .inl (upd kw pq (kindI (cv (tz + 1 + 3 * pq + 1)))))), (rs, .inl (cI, 9, .inl (upd sx pq (cv (((tz + 1 + 3 * pq) + 1) + 1) - 48)))), (ce, .inl (cI, 240, .inl cv))] := by rw [← ew17_1_0]; exact hD
                  have ew17_2_0 : (upd sx pq (cv (((tz + 1 + 3 * pq) + 1) + 1) - 48)) = (upd sx pq (cv (tz + 1 + 3 * pq + 1 + 1) - 48)) := by rfl
                  have hP : va_P D vwCl [(x, .inr (7, [.int fa, .int tr, .ref so, .ref sl, .ref ce, .int (nI n), .int bar, .int (nI tn), .ref ki, .ref si, .ref th, .ref ri, .int (nI (tz + 1 + 3 * (pq + 1))), .int (nI (pq + 1)), .ref rk, .ref rs, .ref kt, .ref kr, .int kn, .int rg, .ref ab, .int am, .ref bh, .int bm, .int br, .int (nI rn), .ref wa, .ref ra])), (rk, .inl (cI, 9, .inl (upd kw pq (kindI (cv (tz + 1 + 3 * pq + 1)))))), (rs, .inl (cI, 9, .inl (upd sx pq (cv (tz + 1 + 3 * pq + 1 + 1) - 48)))), (ce, .inl (cI, 240, .inl cv))] H := by rw [← ew17_2_0]; exact hP
                  have hD : va_D A [(x, .inr (7, [.int fa, .int tr, .ref so, .ref sl, .ref ce, .int (nI n), .int bar, .int (nI tn), .ref ki, .ref si, .ref th, .ref ri, .int (nI (tz + 1 + 3 * (pq + 1))), .int (nI (pq + 1)), .ref rk, .ref rs, .ref kt, .ref kr, .int kn, .int rg, .ref ab, .int am, .ref bh, .int bm, .int br, .int (nI rn), .ref wa, .ref ra])), (rk, .inl (cI, 9, .inl (upd kw pq (kindI (cv (tz + 1 + 3 * pq + 1)))))), (rs, .inl (cI, 9, .inl (upd sx pq (cv (tz + 1 + 3 * pq + 1 + 1) - 48)))), (ce, .inl (cI, 240, .inl cv))] := by rw [← ew17_2_0]; exact hD
                  exact ih17 (pq + 1) (upd kw pq (kindI (cv (tz + 1 + 3 * pq + 1)))) (upd sx pq (cv (tz + 1 + 3 * pq + 1 + 1) - 48)) (by omega) (fun j hj => hg4 j (by omega)) (by omega) (fun k hk => kv_s hkv hk) (by omega) _ _ hP hD hS _ (lv_sub hl [0, 1] rfl)
                · -- n54
                  obtain ⟨rfl, rfl, q_p1_54, rfl, q_sw1_54⟩ := w54.2 b54
                  subst p1_54
                  subst sw1_54
                  have hff : tz ≤ (if tz + 1 + 3 * pq + 1 < e_ ∧ ¬ kindI (cv (tz + 1 + 3 * pq + 1)) = -9 then tz + 1 + 3 * pq + 1 + 1 else tz + 1 + 3 * pq + 1) ∧ (if tz + 1 + 3 * pq + 1 < e_ ∧ ¬ kindI (cv (tz + 1 + 3 * pq + 1)) = -9 then tz + 1 + 3 * pq + 1 + 1 else tz + 1 + 3 * pq + 1) ≤ 240 ∧ ffW cv tz (e_ - tz) (e_ - tz) 0 = nI ((if tz + 1 + 3 * pq + 1 < e_ ∧ ¬ kindI (cv (tz + 1 + 3 * pq + 1)) = -9 then tz + 1 + 3 * pq + 1 + 1 else tz + 1 + 3 * pq + 1) - tz) := rt_no hcase.1 he b46.1 hg2 b54
                  refine lv_if_ne (tgt := 17) hx hb dX7_readTown_57 (by decide) (fun h => absurd (by decide) h) (fun _ => ?_)
                  refine lv_iconst (v := 0) hx hb dX7_readTown_60 (by decide) ?_
                  exact W.zret (v := 0) (ty := .boolean) hx hb hr rfl (fun t ht hW => ⟨⟨_, ((if ((tz + 1 + 3 * pq) + 1) < e_ ∧ ¬ kindI (cv ((tz + 1 + 3 * pq) + 1)) = -9 then ((tz + 1 + 3 * pq) + 1) + 1 else ((tz + 1 + 3 * pq) + 1)), pq, (upd kw pq (if ((tz + 1 + 3 * pq) + 1) < e_ then kindI (cv ((tz + 1 + 3 * pq) + 1)) else -9)), sx), rfl, by first | exact Or.inr ⟨rfl, hff.1, hff.2.1, by rw [hff.2.2]; exact nI_nm9 (by have q := hff.2.1; omega), hff.2.2⟩ | exact Or.inr ⟨rfl, by omega, by omega, by rw [hff]; exact nI_nm9 (by omega), hff⟩, by rw [ht]; exact hP, va_K.moved hW.alike hK, hD⟩, hS.F ht⟩) hS.2.2 dX7_readTown_61
              · -- n46
                obtain ⟨rfl, rfl⟩ := w46.2 b46
                have hff : ffW cv tz (e_ - tz) (e_ - tz) 0 = nI (tz + 1 + 3 * pq - tz) := by rw [show tz + 1 + 3 * pq - tz = 1 + 3 * pq by omega]; exact ff_stop hg (by omega) (fun q => by rw [go_semi hcase.1]; exact decide_eq_false (fun z => b46 ⟨by omega, by rw [show tz + 1 + 3 * pq = tz + (1 + 3 * pq) by omega]; exact z⟩)) (fun q => by rcases hcase.2 with z | z <;> omega)
                refine lv_if_eq (tgt := 60) hx hb dX7_readTown_49 (by decide) (fun _ => ?_) (fun h => absurd (by decide) h)
                refine lv_iconst (v := 0) hx hb dX7_readTown_60 (by decide) ?_
                exact W.zret (v := 0) (ty := .boolean) hx hb hr rfl (fun t ht hW => ⟨⟨_, ((tz + 1 + 3 * pq), pq, kw, sx), rfl, by first | exact Or.inr ⟨rfl, hff.1, hff.2.1, by rw [hff.2.2]; exact nI_nm9 (by have q := hff.2.1; omega), hff.2.2⟩ | exact Or.inr ⟨rfl, by omega, by omega, by rw [hff]; exact nI_nm9 (by omega), hff⟩, by rw [ht]; exact hP, va_K.moved hW.alike hK, hD⟩, hS.F ht⟩) hS.2.2 dX7_readTown_61
    exact lp17 _ 0 kv sw (by omega) (hg1) (by omega) (fun k hk => absurd hk (Nat.not_lt_zero k)) (Nat.lt_succ_self _) _ _ hP hD hS _ (lv_sub hl [0, 1] rfl)
  · -- n9
    obtain ⟨rfl, q_t1_9⟩ := w9.2 b9
    subst t1_9
    have hff : ffW cv tz (e_ - tz) (e_ - tz) 0 = nI (tz - tz) := by rw [Nat.sub_self]; exact ff_stop (fun j hj => absurd hj (Nat.not_lt_zero j)) (Nat.zero_le _) (fun q => by unfold goB; rw [if_pos rfl]; exact decide_eq_false (fun z => b9 ⟨by omega, z⟩)) (fun q => by omega)
    refine lv_if_ne (tgt := 17) hx hb dX7_readTown_12 (by decide) (fun h => absurd (by decide) h) (fun _ => ?_)
    refine lv_iconst (v := 0) hx hb dX7_readTown_15 (by decide) ?_
    exact W.zret (v := 0) (ty := .boolean) hx hb hr rfl (fun t ht hW => ⟨⟨_, (tz, 0, kv, sw), rfl, by exact Or.inr ⟨rfl, Nat.le_refl _, by omega, by rw [hff]; exact nI_nm9 (by omega), hff⟩, by rw [ht]; exact hP, va_K.moved hW.alike hK, hD⟩, hS.F ht⟩) hS.2.2 dX7_readTown_16

set_option maxHeartbeats 4000000 in
set_option maxRecDepth 100000 in
theorem c_X7_town (l : Launch) (D : va_G) (cI cO : ClassId) (x : Nat) (fa : Int32) (tr : Int32) (so : Nat) (sl : Nat) (ce : Nat) (n : Nat) (bar : Int32) (tn : Nat) (ki : Nat) (si : Nat) (th : Nat) (ri : Nat) (rk : Nat) (rs : Nat) (kt : Nat) (kr : Nat) (kn : Int32) (rg : Int32) (ab : Nat) (am : Int32) (bh : Nat) (bm : Int32) (br : Int32) (rn : Nat) (wa : Nat) (ra : Nat) (at_ : Int32) (rp : Int32) (sv : Nat → Int32) (lv : Nat → Int32) (cv : Nat → Int32) (kd : Nat → Int32) (sd : Nat → Int32) (kv : Nat → Int32) (sw : Nat → Int32) (kq : Int32) (w : Int32) (i : Int32) (v : Int32) (sz : Nat) (hom : okM sv lv) : Met l yX7_town wsX7_town ({ frames := 3, cells := 0, slots := 0, locals := 65 } : Room) (va_Pc [.ref x, .int kq, .int w, .int i, .int v] (wdW D cI cO [(x, .inr (7, [.int fa, .int tr, .ref so, .ref sl, .ref ce, .int (nI n), .int bar, .int (nI tn), .ref ki, .ref si, .ref th, .ref ri, .int at_, .int rp, .ref rk, .ref rs, .ref kt, .ref kr, .int kn, .int rg, .ref ab, .int am, .ref bh, .int bm, .int br, .int (nI rn), .ref wa, .ref ra])), (so, .inl (cI, 4, .inl sv)), (sl, .inl (cI, 4, .inl lv)), (ce, .inl (cI, 240, .inl cv)), (ki, .inl (cI, 9, .inl kd)), (si, .inl (cI, 9, .inl sd)), (rk, .inl (cI, 9, .inl kv)), (rs, .inl (cI, 9, .inl sw))] sz)) (va_Qi (S := Int32 × Int32 × Nat × (Nat → Int32) × (Nat → Int32) × Nat × Nat × Int32 × Int32 × (Nat → Int32) × (Nat → Int32)) (fun r u => r = (towM kq w (sv kq.toNatClampNeg) (lv kq.toNatClampNeg) cv i v).1 ∧ u.1 = (tkn (towM kq w (sv kq.toNatClampNeg) (lv kq.toNatClampNeg) cv i v).2.2 0 bar) ∧ u.2.1 = (towM kq w (sv kq.toNatClampNeg) (lv kq.toNatClampNeg) cv i v).2.1 ∧ u.2.2.1 = (tkn (towM kq w (sv kq.toNatClampNeg) (lv kq.toNatClampNeg) cv i v).2.2 (towM kq w (sv kq.toNatClampNeg) (lv kq.toNatClampNeg) cv i v).2.2 n) ∧ u.2.2.2.1 = (tkn (towM kq w (sv kq.toNatClampNeg) (lv kq.toNatClampNeg) cv i v).2.2 (setK cv (60 * kq.toNatClampNeg + i.toNatClampNeg) kd (towM kq w (sv kq.toNatClampNeg) (lv kq.toNatClampNeg) cv i v).2.2) kd) ∧ u.2.2.2.2.1 = (tkn (towM kq w (sv kq.toNatClampNeg) (lv kq.toNatClampNeg) cv i v).2.2 (setS cv (60 * kq.toNatClampNeg + i.toNatClampNeg) sd (towM kq w (sv kq.toNatClampNeg) (lv kq.toNatClampNeg) cv i v).2.2) sd) ∧ u.2.2.2.2.2.1 = (tkn (towM kq w (sv kq.toNatClampNeg) (lv kq.toNatClampNeg) cv i v).2.2 0 tn) ∧ u.2.2.2.2.2.2.1 = (tkn (towM kq w (sv kq.toNatClampNeg) (lv kq.toNatClampNeg) cv i v).2.2 0 rn)) (fun u t => va_P D vwCl [(x, .inr (7, [.int u.2.1, .int tr, .ref so, .ref sl, .ref ce, .int (nI u.2.2.1), .int u.1, .int (nI u.2.2.2.2.2.1), .ref ki, .ref si, .ref th, .ref ri, .int u.2.2.2.2.2.2.2.1, .int u.2.2.2.2.2.2.2.2.1, .ref rk, .ref rs, .ref kt, .ref kr, .int kn, .int rg, .ref ab, .int am, .ref bh, .int bm, .int br, .int (nI u.2.2.2.2.2.2.1), .ref wa, .ref ra])), (so, .inl (cI, 4, .inl sv)), (sl, .inl (cI, 4, .inl lv)), (ce, .inl (cI, 240, .inl cv)), (ki, .inl (cI, 9, .inl u.2.2.2.1)), (si, .inl (cI, 9, .inl u.2.2.2.2.1)), (rk, .inl (cI, 9, .inl u.2.2.2.2.2.2.2.2.2.1)), (rs, .inl (cI, 9, .inl u.2.2.2.2.2.2.2.2.2.2))] t.heap ∧ va_K D vwCl (tyL cI cO) t ∧ va_D (va_A [(x, .inr (7, [.int fa, .int tr, .ref so, .ref sl, .ref ce, .int (nI n), .int bar, .int (nI tn), .ref ki, .ref si, .ref th, .ref ri, .int at_, .int rp, .ref rk, .ref rs, .ref kt, .ref kr, .int kn, .int rg, .ref ab, .int am, .ref bh, .int bm, .int br, .int (nI rn), .ref wa, .ref ra])), (so, .inl (cI, 4, .inl sv)), (sl, .inl (cI, 4, .inl lv)), (ce, .inl (cI, 240, .inl cv)), (ki, .inl (cI, 9, .inl kd)), (si, .inl (cI, 9, .inl sd)), (rk, .inl (cI, 9, .inl kv)), (rs, .inl (cI, 9, .inl sw))] sz) [(x, .inr (7, [.int u.2.1, .int tr, .ref so, .ref sl, .ref ce, .int (nI u.2.2.1), .int u.1, .int (nI u.2.2.2.2.2.1), .ref ki, .ref si, .ref th, .ref ri, .int u.2.2.2.2.2.2.2.1, .int u.2.2.2.2.2.2.2.2.1, .ref rk, .ref rs, .ref kt, .ref kr, .int kn, .int rg, .ref ab, .int am, .ref bh, .int bm, .int br, .int (nI u.2.2.2.2.2.2.1), .ref wa, .ref ra])), (so, .inl (cI, 4, .inl sv)), (sl, .inl (cI, 4, .inl lv)), (ce, .inl (cI, 240, .inl cv)), (ki, .inl (cI, 9, .inl u.2.2.2.1)), (si, .inl (cI, 9, .inl u.2.2.2.2.1)), (rk, .inl (cI, 9, .inl u.2.2.2.2.2.2.2.2.2.1)), (rs, .inl (cI, 9, .inl u.2.2.2.2.2.2.2.2.2.2))]) (va_A [(x, .inr (7, [.int fa, .int tr, .ref so, .ref sl, .ref ce, .int (nI n), .int bar, .int (nI tn), .ref ki, .ref si, .ref th, .ref ri, .int at_, .int rp, .ref rk, .ref rs, .ref kt, .ref kr, .int kn, .int rg, .ref ab, .int am, .ref bh, .int bm, .int br, .int (nI rn), .ref wa, .ref ra])), (so, .inl (cI, 4, .inl sv)), (sl, .inl (cI, 4, .inl lv)), (ce, .inl (cI, 240, .inl cv)), (ki, .inl (cI, 9, .inl kd)), (si, .inl (cI, 9, .inl sd)), (rk, .inl (cI, 9, .inl kv)), (rs, .inl (cI, 9, .inl sw))] sz)) 0 0 (va_A [(x, .inr (7, [.int fa, .int tr, .ref so, .ref sl, .ref ce, .int (nI n), .int bar, .int (nI tn), .ref ki, .ref si, .ref th, .ref ri, .int at_, .int rp, .ref rk, .ref rs, .ref kt, .ref kr, .int kn, .int rg, .ref ab, .int am, .ref bh, .int bm, .int br, .int (nI rn), .ref wa, .ref ra])), (so, .inl (cI, 4, .inl sv)), (sl, .inl (cI, 4, .inl lv)), (ce, .inl (cI, 240, .inl cv)), (ki, .inl (cI, 9, .inl kd)), (si, .inl (cI, 9, .inl sd)), (rk, .inl (cI, 9, .inl kv)), (rs, .inl (cI, 9, .inl sw))] sz) := by
  refine Met.ofW (cc := cX7_town) (maxL := 8) (ret := (some .int)) (by decide) rfl ?_
  intro p e s m args below meth c s₁ B hml hv
  obtain ⟨rfl, hsz, hP, hK, hNw, hD0⟩ := hv
  have hx := B.exec
  have hb := B.bytes
  have hr := B.returns
  have hts := atoms_spec (ws := wsX7_town) B.pre
  have hown : s.vm.findClass RX7 = some m.cls := findClass_of_methodNamed B.named
  have hlocks := B.notSynchronized
  have f19 := hts (.fieldLink RX7 19 "StruckThreesModel" "kind" "[I") (by decide +kernel)
  have f22 := hts (.fieldLink RX7 22 "StruckThreesModel" "side" "[I") (by decide +kernel)
  have f31 := hts (.fieldLink RX7 31 "StruckThreesModel" "readKind" "[I") (by decide +kernel)
  have f34 := hts (.fieldLink RX7 34 "StruckThreesModel" "readSide" "[I") (by decide +kernel)
  have f55 := hts (.fieldLink RX7 55 "StruckThreesModel" "fault" "I") (by decide +kernel)
  have f65 := hts (.fieldLink RX7 65 "StruckThreesModel" "people" "I") (by decide +kernel)
  have f68 := hts (.fieldLink RX7 68 "StruckThreesModel" "threes" "I") (by decide +kernel)
  have f71 := hts (.fieldLink RX7 71 "StruckThreesModel" "at" "I") (by decide +kernel)
  have f92 := hts (.fieldLink RX7 92 "StruckThreesModel" "readPeople" "I") (by decide +kernel)
  have f95 := hts (.fieldLink RX7 95 "StruckThreesModel" "bar" "I") (by decide +kernel)
  have f98 := hts (.fieldLink RX7 98 "StruckThreesModel" "readings" "I") (by decide +kernel)
  have iX7 : ∀ w ∈ wsX70, w ∈ wsX7_town := by decide +kernel
  subst hsz
  have hD := hD0.self (sz := s.heap.size)
  generalize hAe : va_A [(x, .inr (7, [.int fa, .int tr, .ref so, .ref sl, .ref ce, .int (nI n), .int bar, .int (nI tn), .ref ki, .ref si, .ref th, .ref ri, .int at_, .int rp, .ref rk, .ref rs, .ref kt, .ref kr, .int kn, .int rg, .ref ab, .int am, .ref bh, .int bm, .int br, .int (nI rn), .ref wa, .ref ra])), (so, .inl (cI, 4, .inl sv)), (sl, .inl (cI, 4, .inl lv)), (ce, .inl (cI, 240, .inl cv)), (ki, .inl (cI, 9, .inl kd)), (si, .inl (cI, 9, .inl sd)), (rk, .inl (cI, 9, .inl kv)), (rs, .inl (cI, 9, .inl sw))] s.heap.size = A at hD ⊢
  have hA : ∀ q : Nat, s.heap.size ≤ q → A q := fun q h => by rw [← hAe]; exact Or.inr h
  have hS : va_S A s.heap s.heap [] := va_S.rf
  have hP : va_P D vwCl [(x, .inr (7, [.int fa, .int tr, .ref so, .ref sl, .ref ce, .int (nI n), .int bar, .int (nI tn), .ref ki, .ref si, .ref th, .ref ri, .int at_, .int rp, .ref rk, .ref rs, .ref kt, .ref kr, .int kn, .int rg, .ref ab, .int am, .ref bh, .int bm, .int br, .int (nI rn), .ref wa, .ref ra])), (so, .inl (cI, 4, .inl sv)), (sl, .inl (cI, 4, .inl lv)), (ce, .inl (cI, 240, .inl cv)), (ki, .inl (cI, 9, .inl kd)), (si, .inl (cI, 9, .inl sd)), (rk, .inl (cI, 9, .inl kv)), (rs, .inl (cI, 9, .inl sw))] s.heap := hP
  have hl := lv_entry ([.ref x, .int kq, .int w, .int i, .int v]) (n := 8) (Nat.le_of_ble_eq_true rfl)
  rw [lg_entry_eq]
  generalize (lg_sl ([.ref x, .int kq, .int w, .int i, .int v]) ++ List.replicate (8 - (lg_sl ([.ref x, .int kq, .int w, .int i, .int v])).length) Slot.unset).toArray = ls at hl ⊢
  have hl : lv_has ls 8 [(0, .ref x), (1, .int kq), (2, .int w), (3, .int i), (4, .int v)] := hl
  refine lv_aload_n hx hb dX7_town_0 rfl (lv_at hl 0 rfl) ?_
  refine lv_iconst (v := 0) hx hb dX7_town_1 (by decide) ?_
  refine va_put (D := D) (ci := 7) (v := .int 0) (ty := .int) (C := RX7) (T := TX7) (N := 28) hx hb hts iX7 tyX7 tyX7_ok nmX7 hown hK hP hD hS 0 rfl rfl 0 (by decide) f55 (fun _ h9 => h9) rfl (by decide +kernel) rfl rfl (Nat.le_of_ble_eq_true rfl) dX7_town_2 (fun H locs hP hD hS => ?_)
  have hP : va_P D vwCl [(x, .inr (7, [.int 0, .int tr, .ref so, .ref sl, .ref ce, .int (nI n), .int bar, .int (nI tn), .ref ki, .ref si, .ref th, .ref ri, .int at_, .int rp, .ref rk, .ref rs, .ref kt, .ref kr, .int kn, .int rg, .ref ab, .int am, .ref bh, .int bm, .int br, .int (nI rn), .ref wa, .ref ra])), (so, .inl (cI, 4, .inl sv)), (sl, .inl (cI, 4, .inl lv)), (ce, .inl (cI, 240, .inl cv)), (ki, .inl (cI, 9, .inl kd)), (si, .inl (cI, 9, .inl sd)), (rk, .inl (cI, 9, .inl kv)), (rs, .inl (cI, 9, .inl sw))] H := hP
  have hD : va_D A [(x, .inr (7, [.int 0, .int tr, .ref so, .ref sl, .ref ce, .int (nI n), .int bar, .int (nI tn), .ref ki, .ref si, .ref th, .ref ri, .int at_, .int rp, .ref rk, .ref rs, .ref kt, .ref kr, .int kn, .int rg, .ref ab, .int am, .ref bh, .int bm, .int br, .int (nI rn), .ref wa, .ref ra])), (so, .inl (cI, 4, .inl sv)), (sl, .inl (cI, 4, .inl lv)), (ce, .inl (cI, 240, .inl cv)), (ki, .inl (cI, 9, .inl kd)), (si, .inl (cI, 9, .inl sd)), (rk, .inl (cI, 9, .inl kv)), (rs, .inl (cI, 9, .inl sw))] := hD
  refine lv_iload_n hx hb dX7_town_5 rfl (lv_at hl 1 rfl) ?_
  have hPc := hP.sub (ws' := []) [] rfl
  refine vp_callSi (va_Run.run (va_runS (As := [.int kq]) (rest := []) ⟨hx, hb, hml, hown, hts⟩ (c_X7_isSheet l D cI cO kq) (va_cwS 1 hts gX7_town_X7_isSheet rfl rfl rfl (by decide +kernel) ⟨Nat.le_of_ble_eq_true rfl, Nat.le_of_ble_eq_true rfl⟩) (preSR hPc hK hNw) rfl rfl hl.1 rfl (lv_room (Nat.le_of_ble_eq_true rfl)) dX7_town_6 ⟨Nat.zero_le _, Nat.zero_le _⟩)) (fun r6 w6 => ?_)
  by_cases b6 : ¬ kq < 0 ∧ kq < 4
  · -- y6
    obtain rfl := w6.1 b6
    obtain ⟨q, hq4, rfl⟩ := vp_in_of (in4 b6.1 b6.2) (by decide)
    have cq := nI_clamp (n := q) (by omega)
    have hk := b6
    refine lv_if_ne (tgt := 14) hx hb dX7_town_9 (by decide) (fun _ => ?_) (fun h => absurd h (by decide))
    refine lv_iload_n hx hb dX7_town_14 rfl (lv_at hl 2 rfl) ?_
    have hPc := hP.sub (ws' := []) [] rfl
    refine vp_callSi (va_Run.run (va_runS (As := [.int w]) (rest := []) ⟨hx, hb, hml, hown, hts⟩ (c_X7_isSort l D cI cO w) (va_cwS 1 hts gX7_town_X7_isSort rfl rfl rfl (by decide +kernel) ⟨Nat.le_of_ble_eq_true rfl, Nat.le_of_ble_eq_true rfl⟩) (preSR hPc hK hNw) rfl rfl hl.1 rfl (lv_room (Nat.le_of_ble_eq_true rfl)) dX7_town_15 ⟨Nat.zero_le _, Nat.zero_le _⟩)) (fun r15 w15 => ?_)
    by_cases b15 : lstT w 0 2 = true
    · -- y15
      obtain rfl := w15.1 b15
      refine lv_if_ne (tgt := 24) hx hb dX7_town_18 (by decide) (fun _ => ?_) (fun h => absurd h (by decide))
      refine lv_aload_n hx hb dX7_town_24 rfl (lv_at hl 0 rfl) ?_
      refine lv_iload_n hx hb dX7_town_25 rfl (lv_at hl 1 rfl) ?_
      refine lv_iload_n hx hb dX7_town_26 rfl (lv_at hl 2 rfl) ?_
      refine lv_iload_n hx hb dX7_town_27 rfl (lv_at hl 3 rfl) ?_
      refine lv_iload hx hb dX7_town_28 (lv_at hl 4 rfl) ?_
      have hPc := hP.sub (ws' := [(x, .inr (7, [.int 0, .int tr, .ref so, .ref sl, .ref ce, .int (nI n), .int bar, .int (nI tn), .ref ki, .ref si, .ref th, .ref ri, .int at_, .int rp, .ref rk, .ref rs, .ref kt, .ref kr, .int kn, .int rg, .ref ab, .int am, .ref bh, .int bm, .int br, .int (nI rn), .ref wa, .ref ra])), (so, .inl (cI, 4, .inl sv)), (sl, .inl (cI, 4, .inl lv))]) [0, 1, 2] rfl
      refine vp_callSi (va_Run.run (va_runV (As := [.int (nI q), .int w, .int i, .int v]) (rest := []) ⟨hx, hb, hml, hown, hts⟩ (c_X7_against l D cI cO x 0 tr so sl ce n bar tn ki si th ri at_ rp rk rs kt kr kn rg ab am bh bm br rn wa ra sv lv q w i v (by omega)) (cwV 4 hts gX7_town_X7_against rfl rfl rfl (by decide +kernel) ⟨Nat.le_of_ble_eq_true rfl, Nat.le_of_ble_eq_true rfl⟩) (preVR hPc hK hNw (va_recv hK hPc (ci := 7) (q0 := 0) rfl rfl)) rfl rfl hl.1 rfl (lv_room (Nat.le_of_ble_eq_true rfl)) dX7_town_30 ⟨Nat.zero_le _, Nat.zero_le _⟩)) (fun r30 w30 => ?_)
      obtain rfl := w30
      refine lv_istore (lv' := [(5, .int (agI (sv q) (lv q) w i v)), (0, .ref x), (1, .int (nI q)), (2, .int w), (3, .int i), (4, .int v)]) hx hb dX7_town_33 hl (by decide) rfl (fun ls hl => ?_)
      refine lv_iload hx hb dX7_town_35 (lv_at hl 0 rfl) ?_
      refine lv_if_eq (tgt := 47) hx hb dX7_town_37 (by decide) (fun c37 => ?_) (fun c37 => ?_)
      · -- t37
        obtain ⟨L, hL, eL⟩ := hom q hq4 (ag9 c37)
        have c38 := c37
        rw [eL] at c38
        obtain ⟨hs9, hsw, a0, k, rfl, rfl, hak⟩ := ag0 hL c38
        have ca := nI_clamp (n := a0) (by omega)
        have ck := nI_clamp (n := k) (by omega)
        refine lv_bipush (v := 60) hx hb dX7_town_47 (by decide) ?_
        refine lv_iload_n hx hb dX7_town_49 rfl (lv_at hl 2 rfl) ?_
        refine lv_imul hx hb dX7_town_50 ?_
        refine lv_iload_n hx hb dX7_town_51 rfl (lv_at hl 4 rfl) ?_
        refine lv_iadd hx hb dX7_town_52 ?_
        refine tp_i (y := nI (60 * q + a0)) (ix60_i _ _) ?_
        refine lv_istore (lv' := [(6, .int (nI (60 * q + a0))), (5, .int (agI (sv q) (lv q) w (nI a0) (nI k))), (0, .ref x), (1, .int (nI q)), (2, .int w), (3, .int (nI a0)), (4, .int (nI k))]) hx hb dX7_town_53 hl (by decide) rfl (fun ls hl => ?_)
        refine lv_aload_n hx hb dX7_town_55 rfl (lv_at hl 2 rfl) ?_
        refine lv_iload hx hb dX7_town_56 (lv_at hl 0 rfl) ?_
        refine va_put (D := D) (ci := 7) (v := .int (nI (60 * q + a0))) (ty := .int) (C := RX7) (T := TX7) (N := 28) hx hb hts iX7 tyX7 tyX7_ok nmX7 hown hK hP hD hS 0 rfl rfl 12 (by decide) f71 (fun _ h9 => h9) rfl (by decide +kernel) rfl rfl (Nat.le_of_ble_eq_true rfl) dX7_town_58 (fun H locs hP hD hS => ?_)
        have hP : va_P D vwCl [(x, .inr (7, [.int 0, .int tr, .ref so, .ref sl, .ref ce, .int (nI n), .int bar, .int (nI tn), .ref ki, .ref si, .ref th, .ref ri, .int (nI (60 * q + a0)), .int rp, .ref rk, .ref rs, .ref kt, .ref kr, .int kn, .int rg, .ref ab, .int am, .ref bh, .int bm, .int br, .int (nI rn), .ref wa, .ref ra])), (so, .inl (cI, 4, .inl sv)), (sl, .inl (cI, 4, .inl lv)), (ce, .inl (cI, 240, .inl cv)), (ki, .inl (cI, 9, .inl kd)), (si, .inl (cI, 9, .inl sd)), (rk, .inl (cI, 9, .inl kv)), (rs, .inl (cI, 9, .inl sw))] H := hP
        have hD : va_D A [(x, .inr (7, [.int 0, .int tr, .ref so, .ref sl, .ref ce, .int (nI n), .int bar, .int (nI tn), .ref ki, .ref si, .ref th, .ref ri, .int (nI (60 * q + a0)), .int rp, .ref rk, .ref rs, .ref kt, .ref kr, .int kn, .int rg, .ref ab, .int am, .ref bh, .int bm, .int br, .int (nI rn), .ref wa, .ref ra])), (so, .inl (cI, 4, .inl sv)), (sl, .inl (cI, 4, .inl lv)), (ce, .inl (cI, 240, .inl cv)), (ki, .inl (cI, 9, .inl kd)), (si, .inl (cI, 9, .inl sd)), (rk, .inl (cI, 9, .inl kv)), (rs, .inl (cI, 9, .inl sw))] := hD
        refine lv_aload_n hx hb dX7_town_61 rfl (lv_at hl 2 rfl) ?_
        refine lv_iload hx hb dX7_town_62 (lv_at hl 0 rfl) ?_
        refine lv_iload hx hb dX7_town_64 (lv_at hl 6 rfl) ?_
        refine lv_iadd hx hb dX7_town_66 ?_
        refine tp_i (y := nI (60 * q + a0 + k)) (nI_add _ _) ?_
        have hPc := hP.sub (ws' := [(x, .inr (7, [.int 0, .int tr, .ref so, .ref sl, .ref ce, .int (nI n), .int bar, .int (nI tn), .ref ki, .ref si, .ref th, .ref ri, .int (nI (60 * q + a0)), .int rp, .ref rk, .ref rs, .ref kt, .ref kr, .int kn, .int rg, .ref ab, .int am, .ref bh, .int bm, .int br, .int (nI rn), .ref wa, .ref ra])), (rk, .inl (cI, 9, .inl kv)), (rs, .inl (cI, 9, .inl sw)), (ce, .inl (cI, 240, .inl cv))]) [0, 6, 7, 3] rfl
        have hDc := hD.sub (ws' := [(x, .inr (7, [.int 0, .int tr, .ref so, .ref sl, .ref ce, .int (nI n), .int bar, .int (nI tn), .ref ki, .ref si, .ref th, .ref ri, .int (nI (60 * q + a0)), .int rp, .ref rk, .ref rs, .ref kt, .ref kr, .int kn, .int rg, .ref ab, .int am, .ref bh, .int bm, .int br, .int (nI rn), .ref wa, .ref ra])), (rk, .inl (cI, 9, .inl kv)), (rs, .inl (cI, 9, .inl sw)), (ce, .inl (cI, 240, .inl cv))]) [0, 6, 7, 3] (by decide) rfl
        have hFc := va_free (wc := [(x, .inr (7, [.int 0, .int tr, .ref so, .ref sl, .ref ce, .int (nI n), .int bar, .int (nI tn), .ref ki, .ref si, .ref th, .ref ri, .int (nI (60 * q + a0)), .int rp, .ref rk, .ref rs, .ref kt, .ref kr, .int kn, .int rg, .ref ab, .int am, .ref bh, .int bm, .int br, .int (nI rn), .ref wa, .ref ra])), (rk, .inl (cI, 9, .inl kv)), (rs, .inl (cI, 9, .inl sw)), (ce, .inl (cI, 240, .inl cv))]) hD hS hA [0, 6, 7, 3] rfl
        refine va_calli (va_runV (As := [.int (nI (60 * q + a0 + k))]) (rest := []) ⟨hx, hb, hml, hown, hts⟩ (c_X7_readTown l D cI cO x 0 tr so sl ce n bar tn ki si th ri rp rk rs kt kr kn rg ab am bh bm br rn wa ra (60 * q + a0) kv sw cv (60 * q + a0 + k) _ (by omega) (by omega)) (cwV 1 hts gX7_town_X7_readTown rfl rfl rfl (by decide +kernel) ⟨Nat.le_of_ble_eq_true rfl, Nat.le_of_ble_eq_true rfl⟩) (preVW hPc hK hNw hDc (va_recv hK hPc (ci := 7) (q0 := 0) rfl rfl)) rfl rfl hl.1 rfl (lv_room (Nat.le_of_ble_eq_true rfl)) dX7_town_67 ⟨Nat.zero_le _, Nat.zero_le _⟩) hS (fun q _ h => hFc q h) hFc (fun r67 u t H1 locs ht hvm w67 hB hz1 hk1 hS => ?_)
        obtain ⟨t1_67, p1_67, kv1_67, sw1_67⟩ := u
        obtain ⟨hP1, hK1, hD1⟩ := hB
        rw [ht] at hP1
        try dsimp only at w67
        obtain ⟨hP, hD⟩ := va_join (wr := [(so, .inl (cI, 4, .inl sv)), (sl, .inl (cI, 4, .inl lv)), (ki, .inl (cI, 9, .inl kd)), (si, .inl (cI, 9, .inl sd))]) (w1 := [(x, .inr (7, [.int 0, .int tr, .ref so, .ref sl, .ref ce, .int (nI n), .int bar, .int (nI tn), .ref ki, .ref si, .ref th, .ref ri, .int (nI t1_67), .int (nI p1_67), .ref rk, .ref rs, .ref kt, .ref kr, .int kn, .int rg, .ref ab, .int am, .ref bh, .int bm, .int br, .int (nI rn), .ref wa, .ref ra])), (rk, .inl (cI, 9, .inl kv1_67)), (rs, .inl (cI, 9, .inl sw1_67)), (ce, .inl (cI, 240, .inl cv))]) hP hD [0, 6, 7, 3] [1, 2, 4, 5] rfl rfl (by decide) (by decide) hk1 hFc hP1 hD1
        generalize H1 = H at hP hS ⊢
        have hP := hP.sub (ws' := [(x, .inr (7, [.int 0, .int tr, .ref so, .ref sl, .ref ce, .int (nI n), .int bar, .int (nI tn), .ref ki, .ref si, .ref th, .ref ri, .int (nI t1_67), .int (nI p1_67), .ref rk, .ref rs, .ref kt, .ref kr, .int kn, .int rg, .ref ab, .int am, .ref bh, .int bm, .int br, .int (nI rn), .ref wa, .ref ra])), (so, .inl (cI, 4, .inl sv)), (sl, .inl (cI, 4, .inl lv)), (ce, .inl (cI, 240, .inl cv)), (ki, .inl (cI, 9, .inl kd)), (si, .inl (cI, 9, .inl sd)), (rk, .inl (cI, 9, .inl kv1_67)), (rs, .inl (cI, 9, .inl sw1_67))]) [4, 0, 1, 7, 2, 3, 5, 6] rfl
        have hD := hD.sub (ws' := [(x, .inr (7, [.int 0, .int tr, .ref so, .ref sl, .ref ce, .int (nI n), .int bar, .int (nI tn), .ref ki, .ref si, .ref th, .ref ri, .int (nI t1_67), .int (nI p1_67), .ref rk, .ref rs, .ref kt, .ref kr, .int kn, .int rg, .ref ab, .int am, .ref bh, .int bm, .int br, .int (nI rn), .ref wa, .ref ra])), (so, .inl (cI, 4, .inl sv)), (sl, .inl (cI, 4, .inl lv)), (ce, .inl (cI, 240, .inl cv)), (ki, .inl (cI, 9, .inl kd)), (si, .inl (cI, 9, .inl sd)), (rk, .inl (cI, 9, .inl kv1_67)), (rs, .inl (cI, 9, .inl sw1_67))]) [4, 0, 1, 7, 2, 3, 5, 6] (by decide) rfl
        rcases w67 with ⟨hr1, hff, hpn, hp9, hkv⟩ | ⟨hr0, hta, htb, hfn, hff⟩
        · -- read
          refine tp_i (y := 1) (hr1) ?_
          have ek : 60 * q + a0 + k - (60 * q + a0) = k := by omega
          rw [ek] at hff hpn
          have hmk : (k - 1) / 3 = p1_67 := by omega
          have hm3 := ffW_m (by omega) hff
          refine lv_if_ne (tgt := 84) hx hb dX7_town_70 (by decide) (fun _ => ?_) (fun h => absurd h (by decide))
          refine lv_aload_n hx hb dX7_town_84 rfl (lv_at hl 2 rfl) ?_
          refine lv_aload_n hx hb dX7_town_85 rfl (lv_at hl 2 rfl) ?_
          refine va_get (D := D) (ci := 7) (v := .int (nI p1_67)) (C := RX7) (T := TX7) (N := 28) hx hb hts iX7 hown hK hP 0 rfl rfl 13 (by decide) f92 (fun _ h9 => h9) rfl dX7_town_86 ?_
          refine va_put (D := D) (ci := 7) (v := .int (nI p1_67)) (ty := .int) (C := RX7) (T := TX7) (N := 28) hx hb hts iX7 tyX7 tyX7_ok nmX7 hown hK hP hD hS 0 rfl rfl 5 (by decide) f65 (fun _ h9 => h9) rfl (by decide +kernel) rfl rfl (Nat.le_of_ble_eq_true rfl) dX7_town_89 (fun H locs hP hD hS => ?_)
          have hP : va_P D vwCl [(x, .inr (7, [.int 0, .int tr, .ref so, .ref sl, .ref ce, .int (nI p1_67), .int bar, .int (nI tn), .ref ki, .ref si, .ref th, .ref ri, .int (nI t1_67), .int (nI p1_67), .ref rk, .ref rs, .ref kt, .ref kr, .int kn, .int rg, .ref ab, .int am, .ref bh, .int bm, .int br, .int (nI rn), .ref wa, .ref ra])), (so, .inl (cI, 4, .inl sv)), (sl, .inl (cI, 4, .inl lv)), (ce, .inl (cI, 240, .inl cv)), (ki, .inl (cI, 9, .inl kd)), (si, .inl (cI, 9, .inl sd)), (rk, .inl (cI, 9, .inl kv1_67)), (rs, .inl (cI, 9, .inl sw1_67))] H := hP
          have hD : va_D A [(x, .inr (7, [.int 0, .int tr, .ref so, .ref sl, .ref ce, .int (nI p1_67), .int bar, .int (nI tn), .ref ki, .ref si, .ref th, .ref ri, .int (nI t1_67), .int (nI p1_67), .ref rk, .ref rs, .ref kt, .ref kr, .int kn, .int rg, .ref ab, .int am, .ref bh, .int bm, .int br, .int (nI rn), .ref wa, .ref ra])), (so, .inl (cI, 4, .inl sv)), (sl, .inl (cI, 4, .inl lv)), (ce, .inl (cI, 240, .inl cv)), (ki, .inl (cI, 9, .inl kd)), (si, .inl (cI, 9, .inl sd)), (rk, .inl (cI, 9, .inl kv1_67)), (rs, .inl (cI, 9, .inl sw1_67))] := hD
          refine lv_iconst (v := 0) hx hb dX7_town_92 (by decide) ?_
          refine lv_istore (lv' := [(7, .int 0), (6, .int (nI (60 * q + a0))), (5, .int (agI (sv q) (lv q) w (nI a0) (nI k))), (0, .ref x), (1, .int (nI q)), (2, .int w), (3, .int (nI a0)), (4, .int (nI k))]) hx hb dX7_town_93 hl (by decide) rfl (fun ls hl => ?_)
          have lp95 : ∀ (fu95 : Nat) (u_ : Nat) (hu : u_ ≤ p1_67) (hm95 : p1_67 - u_ < fu95) (H : Heap) (locs : List Loc) (hP : va_P D vwCl [(x, .inr (7, [.int 0, .int tr, .ref so, .ref sl, .ref ce, .int (nI p1_67), .int bar, .int (nI tn), .ref ki, .ref si, .ref th, .ref ri, .int (nI t1_67), .int (nI p1_67), .ref rk, .ref rs, .ref kt, .ref kr, .int kn, .int rg, .ref ab, .int am, .ref bh, .int bm, .int br, .int (nI rn), .ref wa, .ref ra])), (so, .inl (cI, 4, .inl sv)), (sl, .inl (cI, 4, .inl lv)), (ce, .inl (cI, 240, .inl cv)), (ki, .inl (cI, 9, .inl (setK cv (60 * q + a0) kd u_))), (si, .inl (cI, 9, .inl (setS cv (60 * q + a0) sd u_))), (rk, .inl (cI, 9, .inl kv1_67)), (rs, .inl (cI, 9, .inl sw1_67))] H) (hD : va_D A [(x, .inr (7, [.int 0, .int tr, .ref so, .ref sl, .ref ce, .int (nI p1_67), .int bar, .int (nI tn), .ref ki, .ref si, .ref th, .ref ri, .int (nI t1_67), .int (nI p1_67), .ref rk, .ref rs, .ref kt, .ref kr, .int kn, .int rg, .ref ab, .int am, .ref bh, .int bm, .int br, .int (nI rn), .ref wa, .ref ra])), (so, .inl (cI, 4, .inl sv)), (sl, .inl (cI, 4, .inl lv)), (ce, .inl (cI, 240, .inl cv)), (ki, .inl (cI, 9, .inl (setK cv (60 * q + a0) kd u_))), (si, .inl (cI, 9, .inl (setS cv (60 * q + a0) sd u_))), (rk, .inl (cI, 9, .inl kv1_67)), (rs, .inl (cI, 9, .inl sw1_67))]) (hS : va_S A s.heap H locs) (ls : Array Slot) (hl : lv_has ls 8 [(0, .ref x), (7, .int (nI u_))]), W p l e (headSpec wsX7_town ({ frames := 3, cells := 0, slots := 0, locals := 65 } : Room)).room s m ([.ref x, .int (nI q), .int w, .int (nI a0), .int (nI k)]).toArray below meth c H locs 0 0 (MQ below (va_Qi (S := Int32 × Int32 × Nat × (Nat → Int32) × (Nat → Int32) × Nat × Nat × Int32 × Int32 × (Nat → Int32) × (Nat → Int32)) (fun r u => r = (towM (nI q) w (sv (nI q).toNatClampNeg) (lv (nI q).toNatClampNeg) cv (nI a0) (nI k)).1 ∧ u.1 = (tkn (towM (nI q) w (sv (nI q).toNatClampNeg) (lv (nI q).toNatClampNeg) cv (nI a0) (nI k)).2.2 0 bar) ∧ u.2.1 = (towM (nI q) w (sv (nI q).toNatClampNeg) (lv (nI q).toNatClampNeg) cv (nI a0) (nI k)).2.1 ∧ u.2.2.1 = (tkn (towM (nI q) w (sv (nI q).toNatClampNeg) (lv (nI q).toNatClampNeg) cv (nI a0) (nI k)).2.2 (towM (nI q) w (sv (nI q).toNatClampNeg) (lv (nI q).toNatClampNeg) cv (nI a0) (nI k)).2.2 n) ∧ u.2.2.2.1 = (tkn (towM (nI q) w (sv (nI q).toNatClampNeg) (lv (nI q).toNatClampNeg) cv (nI a0) (nI k)).2.2 (setK cv (60 * (nI q).toNatClampNeg + (nI a0).toNatClampNeg) kd (towM (nI q) w (sv (nI q).toNatClampNeg) (lv (nI q).toNatClampNeg) cv (nI a0) (nI k)).2.2) kd) ∧ u.2.2.2.2.1 = (tkn (towM (nI q) w (sv (nI q).toNatClampNeg) (lv (nI q).toNatClampNeg) cv (nI a0) (nI k)).2.2 (setS cv (60 * (nI q).toNatClampNeg + (nI a0).toNatClampNeg) sd (towM (nI q) w (sv (nI q).toNatClampNeg) (lv (nI q).toNatClampNeg) cv (nI a0) (nI k)).2.2) sd) ∧ u.2.2.2.2.2.1 = (tkn (towM (nI q) w (sv (nI q).toNatClampNeg) (lv (nI q).toNatClampNeg) cv (nI a0) (nI k)).2.2 0 tn) ∧ u.2.2.2.2.2.2.1 = (tkn (towM (nI q) w (sv (nI q).toNatClampNeg) (lv (nI q).toNatClampNeg) cv (nI a0) (nI k)).2.2 0 rn)) (fun u t => va_P D vwCl [(x, .inr (7, [.int u.2.1, .int tr, .ref so, .ref sl, .ref ce, .int (nI u.2.2.1), .int u.1, .int (nI u.2.2.2.2.2.1), .ref ki, .ref si, .ref th, .ref ri, .int u.2.2.2.2.2.2.2.1, .int u.2.2.2.2.2.2.2.2.1, .ref rk, .ref rs, .ref kt, .ref kr, .int kn, .int rg, .ref ab, .int am, .ref bh, .int bm, .int br, .int (nI u.2.2.2.2.2.2.1), .ref wa, .ref ra])), (so, .inl (cI, 4, .inl sv)), (sl, .inl (cI, 4, .inl lv)), (ce, .inl (cI, 240, .inl cv)), (ki, .inl (cI, 9, .inl u.2.2.2.1)), (si, .inl (cI, 9, .inl u.2.2.2.2.1)), (rk, .inl (cI, 9, .inl u.2.2.2.2.2.2.2.2.2.1)), (rs, .inl (cI, 9, .inl u.2.2.2.2.2.2.2.2.2.2))] t.heap ∧ va_K D vwCl (tyL cI cO) t ∧ va_D A [(x, .inr (7, [.int u.2.1, .int tr, .ref so, .ref sl, .ref ce, .int (nI u.2.2.1), .int u.1, .int (nI u.2.2.2.2.2.1), .ref ki, .ref si, .ref th, .ref ri, .int u.2.2.2.2.2.2.2.1, .int u.2.2.2.2.2.2.2.2.1, .ref rk, .ref rs, .ref kt, .ref kr, .int kn, .int rg, .ref ab, .int am, .ref bh, .int bm, .int br, .int (nI u.2.2.2.2.2.2.1), .ref wa, .ref ra])), (so, .inl (cI, 4, .inl sv)), (sl, .inl (cI, 4, .inl lv)), (ce, .inl (cI, 240, .inl cv)), (ki, .inl (cI, 9, .inl u.2.2.2.1)), (si, .inl (cI, 9, .inl u.2.2.2.2.1)), (rk, .inl (cI, 9, .inl u.2.2.2.2.2.2.2.2.2.1)), (rs, .inl (cI, 9, .inl u.2.2.2.2.2.2.2.2.2.2))]) A) ([.ref x, .int (nI q), .int w, .int (nI a0), .int (nI k)]).toArray s 0 0 A) (F0 m 95 ls []) := by
            intro fu95
            induction fu95 with
            | zero =>
              intros; omega
            | succ fu95 ih95 =>
              intro u_ hu hm95 H locs hP hD hS ls hl
              refine lv_iload hx hb dX7_town_95 (lv_at hl 1 rfl) ?_
              refine lv_aload_n hx hb dX7_town_97 rfl (lv_at hl 0 rfl) ?_
              refine va_get (D := D) (ci := 7) (v := .int (nI p1_67)) (C := RX7) (T := TX7) (N := 28) hx hb hts iX7 hown hK hP 0 rfl rfl 5 (by decide) f65 (fun _ h9 => h9) rfl dX7_town_98 ?_
              refine lv_icmp_ge (tgt := 138) hx hb dX7_town_101 (by decide) (fun c101 => ?_) (fun c101 => ?_)
              · -- t101
                have e101 : u_ = p1_67 := by have q := ge_n (by omega) (by omega) c101; omega
                rw [e101] at hl
                rw [e101] at hP hD
                refine lv_aload_n hx hb dX7_town_138 rfl (lv_at hl 0 rfl) ?_
                refine lv_iconst (v := 0) hx hb dX7_town_139 (by decide) ?_
                refine va_put (D := D) (ci := 7) (v := .int 0) (ty := .int) (C := RX7) (T := TX7) (N := 28) hx hb hts iX7 tyX7 tyX7_ok nmX7 hown hK hP hD hS 0 rfl rfl 6 (by decide) f95 (fun _ h9 => h9) rfl (by decide +kernel) rfl rfl (Nat.le_of_ble_eq_true rfl) dX7_town_140 (fun H locs hP hD hS => ?_)
                have hP : va_P D vwCl [(x, .inr (7, [.int 0, .int tr, .ref so, .ref sl, .ref ce, .int (nI p1_67), .int 0, .int (nI tn), .ref ki, .ref si, .ref th, .ref ri, .int (nI t1_67), .int (nI p1_67), .ref rk, .ref rs, .ref kt, .ref kr, .int kn, .int rg, .ref ab, .int am, .ref bh, .int bm, .int br, .int (nI rn), .ref wa, .ref ra])), (so, .inl (cI, 4, .inl sv)), (sl, .inl (cI, 4, .inl lv)), (ce, .inl (cI, 240, .inl cv)), (ki, .inl (cI, 9, .inl (setK cv (60 * q + a0) kd p1_67))), (si, .inl (cI, 9, .inl (setS cv (60 * q + a0) sd p1_67))), (rk, .inl (cI, 9, .inl kv1_67)), (rs, .inl (cI, 9, .inl sw1_67))] H := hP
                have hD : va_D A [(x, .inr (7, [.int 0, .int tr, .ref so, .ref sl, .ref ce, .int (nI p1_67), .int 0, .int (nI tn), .ref ki, .ref si, .ref th, .ref ri, .int (nI t1_67), .int (nI p1_67), .ref rk, .ref rs, .ref kt, .ref kr, .int kn, .int rg, .ref ab, .int am, .ref bh, .int bm, .int br, .int (nI rn), .ref wa, .ref ra])), (so, .inl (cI, 4, .inl sv)), (sl, .inl (cI, 4, .inl lv)), (ce, .inl (cI, 240, .inl cv)), (ki, .inl (cI, 9, .inl (setK cv (60 * q + a0) kd p1_67))), (si, .inl (cI, 9, .inl (setS cv (60 * q + a0) sd p1_67))), (rk, .inl (cI, 9, .inl kv1_67)), (rs, .inl (cI, 9, .inl sw1_67))] := hD
                refine lv_aload_n hx hb dX7_town_143 rfl (lv_at hl 0 rfl) ?_
                refine lv_iconst (v := 0) hx hb dX7_town_144 (by decide) ?_
                refine va_put (D := D) (ci := 7) (v := .int 0) (ty := .int) (C := RX7) (T := TX7) (N := 28) hx hb hts iX7 tyX7 tyX7_ok nmX7 hown hK hP hD hS 0 rfl rfl 7 (by decide) f68 (fun _ h9 => h9) rfl (by decide +kernel) rfl rfl (Nat.le_of_ble_eq_true rfl) dX7_town_145 (fun H locs hP hD hS => ?_)
                have hP : va_P D vwCl [(x, .inr (7, [.int 0, .int tr, .ref so, .ref sl, .ref ce, .int (nI p1_67), .int 0, .int 0, .ref ki, .ref si, .ref th, .ref ri, .int (nI t1_67), .int (nI p1_67), .ref rk, .ref rs, .ref kt, .ref kr, .int kn, .int rg, .ref ab, .int am, .ref bh, .int bm, .int br, .int (nI rn), .ref wa, .ref ra])), (so, .inl (cI, 4, .inl sv)), (sl, .inl (cI, 4, .inl lv)), (ce, .inl (cI, 240, .inl cv)), (ki, .inl (cI, 9, .inl (setK cv (60 * q + a0) kd p1_67))), (si, .inl (cI, 9, .inl (setS cv (60 * q + a0) sd p1_67))), (rk, .inl (cI, 9, .inl kv1_67)), (rs, .inl (cI, 9, .inl sw1_67))] H := hP
                have hD : va_D A [(x, .inr (7, [.int 0, .int tr, .ref so, .ref sl, .ref ce, .int (nI p1_67), .int 0, .int 0, .ref ki, .ref si, .ref th, .ref ri, .int (nI t1_67), .int (nI p1_67), .ref rk, .ref rs, .ref kt, .ref kr, .int kn, .int rg, .ref ab, .int am, .ref bh, .int bm, .int br, .int (nI rn), .ref wa, .ref ra])), (so, .inl (cI, 4, .inl sv)), (sl, .inl (cI, 4, .inl lv)), (ce, .inl (cI, 240, .inl cv)), (ki, .inl (cI, 9, .inl (setK cv (60 * q + a0) kd p1_67))), (si, .inl (cI, 9, .inl (setS cv (60 * q + a0) sd p1_67))), (rk, .inl (cI, 9, .inl kv1_67)), (rs, .inl (cI, 9, .inl sw1_67))] := hD
                refine lv_aload_n hx hb dX7_town_148 rfl (lv_at hl 0 rfl) ?_
                refine lv_iconst (v := 0) hx hb dX7_town_149 (by decide) ?_
                refine va_put (D := D) (ci := 7) (v := .int 0) (ty := .int) (C := RX7) (T := TX7) (N := 28) hx hb hts iX7 tyX7 tyX7_ok nmX7 hown hK hP hD hS 0 rfl rfl 25 (by decide) f98 (fun _ h9 => h9) rfl (by decide +kernel) rfl rfl (Nat.le_of_ble_eq_true rfl) dX7_town_150 (fun H locs hP hD hS => ?_)
                have hP : va_P D vwCl [(x, .inr (7, [.int 0, .int tr, .ref so, .ref sl, .ref ce, .int (nI p1_67), .int 0, .int 0, .ref ki, .ref si, .ref th, .ref ri, .int (nI t1_67), .int (nI p1_67), .ref rk, .ref rs, .ref kt, .ref kr, .int kn, .int rg, .ref ab, .int am, .ref bh, .int bm, .int br, .int 0, .ref wa, .ref ra])), (so, .inl (cI, 4, .inl sv)), (sl, .inl (cI, 4, .inl lv)), (ce, .inl (cI, 240, .inl cv)), (ki, .inl (cI, 9, .inl (setK cv (60 * q + a0) kd p1_67))), (si, .inl (cI, 9, .inl (setS cv (60 * q + a0) sd p1_67))), (rk, .inl (cI, 9, .inl kv1_67)), (rs, .inl (cI, 9, .inl sw1_67))] H := hP
                have hD : va_D A [(x, .inr (7, [.int 0, .int tr, .ref so, .ref sl, .ref ce, .int (nI p1_67), .int 0, .int 0, .ref ki, .ref si, .ref th, .ref ri, .int (nI t1_67), .int (nI p1_67), .ref rk, .ref rs, .ref kt, .ref kr, .int kn, .int rg, .ref ab, .int am, .ref bh, .int bm, .int br, .int 0, .ref wa, .ref ra])), (so, .inl (cI, 4, .inl sv)), (sl, .inl (cI, 4, .inl lv)), (ce, .inl (cI, 240, .inl cv)), (ki, .inl (cI, 9, .inl (setK cv (60 * q + a0) kd p1_67))), (si, .inl (cI, 9, .inl (setS cv (60 * q + a0) sd p1_67))), (rk, .inl (cI, 9, .inl kv1_67)), (rs, .inl (cI, 9, .inl sw1_67))] := hD
                refine lv_aload_n hx hb dX7_town_153 rfl (lv_at hl 0 rfl) ?_
                refine va_get (D := D) (ci := 7) (v := .int (nI p1_67)) (C := RX7) (T := TX7) (N := 28) hx hb hts iX7 hown hK hP 0 rfl rfl 5 (by decide) f65 (fun _ h9 => h9) rfl dX7_town_154 ?_
                exact W.iret (v := nI p1_67) hx hb hr (fun t ht hW => ⟨⟨_, (0, 0, p1_67, setK cv (60 * q + a0) kd p1_67, setS cv (60 * q + a0) sd p1_67, 0, 0, nI t1_67, nI p1_67, kv1_67, sw1_67), rfl, by rw [cq, ca]; rw [show towM (nI q) w (sv q) (lv q) cv (nI a0) (nI k) = (nI p1_67, 0, p1_67) from by unfold towM; rw [if_pos hk, if_pos b15, if_pos c37, cq, ca, ck, if_pos hff, hmk]]; unfold tkn; simp [show ¬ p1_67 = 0 by omega], by rw [ht]; exact hP, va_K.moved hW.alike hK, hD⟩, hS.F ht⟩) hS.2.2 dX7_town_157
              · -- f101
                have l101 : u_ < p1_67 := lt_n (by omega) (by omega) c101
                refine lv_aload_n hx hb dX7_town_104 rfl (lv_at hl 0 rfl) ?_
                refine va_get (D := D) (ci := 7) (v := .ref ki) (C := RX7) (T := TX7) (N := 28) hx hb hts iX7 hown hK hP 0 rfl rfl 8 (by decide) f19 (fun _ h9 => h9) rfl dX7_town_105 ?_
                refine lv_iload hx hb dX7_town_108 (lv_at hl 1 rfl) ?_
                refine lv_aload_n hx hb dX7_town_110 rfl (lv_at hl 0 rfl) ?_
                refine va_get (D := D) (ci := 7) (v := .ref rk) (C := RX7) (T := TX7) (N := 28) hx hb hts iX7 hown hK hP 0 rfl rfl 14 (by decide) f31 (fun _ h9 => h9) rfl dX7_town_111 ?_
                refine lv_iload hx hb dX7_town_114 (lv_at hl 1 rfl) ?_
                refine va_iald hx hb hK hP 6 0 rfl rfl (vp_in_nI (by omega) (by decide)) dX7_town_116 ?_
                refine tp_i (y := kv1_67 u_) (by rw [nI_clamp (n := u_) (by omega)]) ?_
                refine va_iast hx hb hK hP hD hS 4 0 rfl rfl (vp_in_nI (by omega) (by decide)) dX7_town_117 (fun H locs hP hD hS => ?_)
                rw [nI_clamp (n := u_) (by omega)] at hP hD
                have hP : va_P D vwCl [(x, .inr (7, [.int 0, .int tr, .ref so, .ref sl, .ref ce, .int (nI p1_67), .int bar, .int (nI tn), .ref ki, .ref si, .ref th, .ref ri, .int (nI t1_67), .int (nI p1_67), .ref rk, .ref rs, .ref kt, .ref kr, .int kn, .int rg, .ref ab, .int am, .ref bh, .int bm, .int br, .int (nI rn), .ref wa, .ref ra])), (so, .inl (cI, 4, .inl sv)), (sl, .inl (cI, 4, .inl lv)), (ce, .inl (cI, 240, .inl cv)), (ki, .inl (cI, 9, .inl (upd (setK cv (60 * q + a0) kd u_) u_ (kv1_67 u_)))), (si, .inl (cI, 9, .inl (setS cv (60 * q + a0) sd u_))), (rk, .inl (cI, 9, .inl kv1_67)), (rs, .inl (cI, 9, .inl sw1_67))] H := hP
                have hD : va_D A [(x, .inr (7, [.int 0, .int tr, .ref so, .ref sl, .ref ce, .int (nI p1_67), .int bar, .int (nI tn), .ref ki, .ref si, .ref th, .ref ri, .int (nI t1_67), .int (nI p1_67), .ref rk, .ref rs, .ref kt, .ref kr, .int kn, .int rg, .ref ab, .int am, .ref bh, .int bm, .int br, .int (nI rn), .ref wa, .ref ra])), (so, .inl (cI, 4, .inl sv)), (sl, .inl (cI, 4, .inl lv)), (ce, .inl (cI, 240, .inl cv)), (ki, .inl (cI, 9, .inl (upd (setK cv (60 * q + a0) kd u_) u_ (kv1_67 u_)))), (si, .inl (cI, 9, .inl (setS cv (60 * q + a0) sd u_))), (rk, .inl (cI, 9, .inl kv1_67)), (rs, .inl (cI, 9, .inl sw1_67))] := hD
                refine lv_aload_n hx hb dX7_town_118 rfl (lv_at hl 0 rfl) ?_
                refine va_get (D := D) (ci := 7) (v := .ref si) (C := RX7) (T := TX7) (N := 28) hx hb hts iX7 hown hK hP 0 rfl rfl 9 (by decide) f22 (fun _ h9 => h9) rfl dX7_town_119 ?_
                refine lv_iload hx hb dX7_town_122 (lv_at hl 1 rfl) ?_
                refine lv_aload_n hx hb dX7_town_124 rfl (lv_at hl 0 rfl) ?_
                refine va_get (D := D) (ci := 7) (v := .ref rs) (C := RX7) (T := TX7) (N := 28) hx hb hts iX7 hown hK hP 0 rfl rfl 15 (by decide) f34 (fun _ h9 => h9) rfl dX7_town_125 ?_
                refine lv_iload hx hb dX7_town_128 (lv_at hl 1 rfl) ?_
                refine va_iald hx hb hK hP 7 0 rfl rfl (vp_in_nI (by omega) (by decide)) dX7_town_130 ?_
                refine tp_i (y := sw1_67 u_) (by rw [nI_clamp (n := u_) (by omega)]) ?_
                refine va_iast hx hb hK hP hD hS 5 0 rfl rfl (vp_in_nI (by omega) (by decide)) dX7_town_131 (fun H locs hP hD hS => ?_)
                rw [nI_clamp (n := u_) (by omega)] at hP hD
                have hP : va_P D vwCl [(x, .inr (7, [.int 0, .int tr, .ref so, .ref sl, .ref ce, .int (nI p1_67), .int bar, .int (nI tn), .ref ki, .ref si, .ref th, .ref ri, .int (nI t1_67), .int (nI p1_67), .ref rk, .ref rs, .ref kt, .ref kr, .int kn, .int rg, .ref ab, .int am, .ref bh, .int bm, .int br, .int (nI rn), .ref wa, .ref ra])), (so, .inl (cI, 4, .inl sv)), (sl, .inl (cI, 4, .inl lv)), (ce, .inl (cI, 240, .inl cv)), (ki, .inl (cI, 9, .inl (upd (setK cv (60 * q + a0) kd u_) u_ (kv1_67 u_)))), (si, .inl (cI, 9, .inl (upd (setS cv (60 * q + a0) sd u_) u_ (sw1_67 u_)))), (rk, .inl (cI, 9, .inl kv1_67)), (rs, .inl (cI, 9, .inl sw1_67))] H := hP
                have hD : va_D A [(x, .inr (7, [.int 0, .int tr, .ref so, .ref sl, .ref ce, .int (nI p1_67), .int bar, .int (nI tn), .ref ki, .ref si, .ref th, .ref ri, .int (nI t1_67), .int (nI p1_67), .ref rk, .ref rs, .ref kt, .ref kr, .int kn, .int rg, .ref ab, .int am, .ref bh, .int bm, .int br, .int (nI rn), .ref wa, .ref ra])), (so, .inl (cI, 4, .inl sv)), (sl, .inl (cI, 4, .inl lv)), (ce, .inl (cI, 240, .inl cv)), (ki, .inl (cI, 9, .inl (upd (setK cv (60 * q + a0) kd u_) u_ (kv1_67 u_)))), (si, .inl (cI, 9, .inl (upd (setS cv (60 * q + a0) sd u_) u_ (sw1_67 u_)))), (rk, .inl (cI, 9, .inl kv1_67)), (rs, .inl (cI, 9, .inl sw1_67))] := hD
                refine lv_iinc (v := nI (u_ + 1)) (lv' := [(7, .int (nI (u_ + 1))), (0, .ref x)]) hx hb dX7_town_132 hl (k := 1) rfl (nI_1 _) (by decide) rfl (fun ls hl => ?_)
                refine lv_goto (tgt := 95) hx hb dX7_town_135 (by decide) ?_
                have ew95_4_0 : (upd (setK cv (60 * q + a0) kd u_) u_ (kv1_67 u_)) = setK cv (60 * q + a0) kd (u_ + 1) := by rw [(hkv u_ l101).1]; exact cp_s _ kd u_
                have hP : va_P D vwCl [(x, .inr (7, [.int 0, .int tr, .ref so, .ref sl, .ref ce, .int (nI p1_67), .int bar, .int (nI tn), .ref ki, .ref si, .ref th, .ref ri, .int (nI t1_67), .int (nI p1_67), .ref rk, .ref rs, .ref kt, .ref kr, .int kn, .int rg, .ref ab, .int am, .ref bh, .int bm, .int br, .int (nI rn), .ref wa, .ref ra])), (so, .inl (cI, 4, .inl sv)), (sl, .inl (cI, 4, .inl lv)), (ce, .inl (cI, 240, .inl cv)), (ki, .inl (cI, 9, .inl (setK cv (60 * q + a0) kd (u_ + 1)))), (si, .inl (cI, 9, .inl (upd (setS cv (60 * q + a0) sd u_) u_ (sw1_67 u_)))), (rk, .inl (cI, 9, .inl kv1_67)), (rs, .inl (cI, 9, .inl sw1_67))] H := by rw [← ew95_4_0]; exact hP
                have hD : va_D A [(x, .inr (7, [.int 0, .int tr, .ref so, .ref sl, .ref ce, .int (nI p1_67), .int bar, .int (nI tn), .ref ki, .ref si, .ref th, .ref ri, .int (nI t1_67), .int (nI p1_67), .ref rk, .ref rs, .ref kt, .ref kr, .int kn, .int rg, .ref ab, .int am, .ref bh, .int bm, .int br, .int (nI rn), .ref wa, .ref ra])), (so, .inl (cI, 4, .inl sv)), (sl, .inl (cI, 4, .inl lv)), (ce, .inl (cI, 240, .inl cv)), (ki, .inl (cI, 9, .inl (setK cv (60 * q + a0) kd (u_ + 1)))), (si, .inl (cI, 9, .inl (upd (setS cv (60 * q + a0) sd u_) u_ (sw1_67 u_)))), (rk, .inl (cI, 9, .inl kv1_67)), (rs, .inl (cI, 9, .inl sw1_67))] := by rw [← ew95_4_0]; exact hD
                have ew95_5_0 : (upd (setS cv (60 * q + a0) sd u_) u_ (sw1_67 u_)) = setS cv (60 * q + a0) sd (u_ + 1) := by rw [(hkv u_ l101).2]; exact cp_s _ sd u_
                have hP : va_P D vwCl [(x, .inr (7, [.int 0, .int tr, .ref so, .ref sl, .ref ce, .int (nI p1_67), .int bar, .int (nI tn), .ref ki, .ref si, .ref th, .ref ri, .int (nI t1_67), .int (nI p1_67), .ref rk, .ref rs, .ref kt, .ref kr, .int kn, .int rg, .ref ab, .int am, .ref bh, .int bm, .int br, .int (nI rn), .ref wa, .ref ra])), (so, .inl (cI, 4, .inl sv)), (sl, .inl (cI, 4, .inl lv)), (ce, .inl (cI, 240, .inl cv)), (ki, .inl (cI, 9, .inl (setK cv (60 * q + a0) kd (u_ + 1)))), (si, .inl (cI, 9, .inl (setS cv (60 * q + a0) sd (u_ + 1)))), (rk, .inl (cI, 9, .inl kv1_67)), (rs, .inl (cI, 9, .inl sw1_67))] H := by rw [← ew95_5_0]; exact hP
                have hD : va_D A [(x, .inr (7, [.int 0, .int tr, .ref so, .ref sl, .ref ce, .int (nI p1_67), .int bar, .int (nI tn), .ref ki, .ref si, .ref th, .ref ri, .int (nI t1_67), .int (nI p1_67), .ref rk, .ref rs, .ref kt, .ref kr, .int kn, .int rg, .ref ab, .int am, .ref bh, .int bm, .int br, .int (nI rn), .ref wa, .ref ra])), (so, .inl (cI, 4, .inl sv)), (sl, .inl (cI, 4, .inl lv)), (ce, .inl (cI, 240, .inl cv)), (ki, .inl (cI, 9, .inl (setK cv (60 * q + a0) kd (u_ + 1)))), (si, .inl (cI, 9, .inl (setS cv (60 * q + a0) sd (u_ + 1)))), (rk, .inl (cI, 9, .inl kv1_67)), (rs, .inl (cI, 9, .inl sw1_67))] := by rw [← ew95_5_0]; exact hD
                exact ih95 (u_ + 1) (by omega) (by omega) _ _ hP hD hS _ (lv_sub hl [1, 0] rfl)
          have ew95_4_0 : kd = setK cv (60 * q + a0) kd 0 := by exact (cp_0 _ kd).symm
          have hP : va_P D vwCl [(x, .inr (7, [.int 0, .int tr, .ref so, .ref sl, .ref ce, .int (nI p1_67), .int bar, .int (nI tn), .ref ki, .ref si, .ref th, .ref ri, .int (nI t1_67), .int (nI p1_67), .ref rk, .ref rs, .ref kt, .ref kr, .int kn, .int rg, .ref ab, .int am, .ref bh, .int bm, .int br, .int (nI rn), .ref wa, .ref ra])), (so, .inl (cI, 4, .inl sv)), (sl, .inl (cI, 4, .inl lv)), (ce, .inl (cI, 240, .inl cv)), (ki, .inl (cI, 9, .inl (setK cv (60 * q + a0) kd 0))), (si, .inl (cI, 9, .inl sd)), (rk, .inl (cI, 9, .inl kv1_67)), (rs, .inl (cI, 9, .inl sw1_67))] H := by rw [← ew95_4_0]; exact hP
          have hD : va_D A [(x, .inr (7, [.int 0, .int tr, .ref so, .ref sl, .ref ce, .int (nI p1_67), .int bar, .int (nI tn), .ref ki, .ref si, .ref th, .ref ri, .int (nI t1_67), .int (nI p1_67), .ref rk, .ref rs, .ref kt, .ref kr, .int kn, .int rg, .ref ab, .int am, .ref bh, .int bm, .int br, .int (nI rn), .ref wa, .ref ra])), (so, .inl (cI, 4, .inl sv)), (sl, .inl (cI, 4, .inl lv)), (ce, .inl (cI, 240, .inl cv)), (ki, .inl (cI, 9, .inl (setK cv (60 * q + a0) kd 0))), (si, .inl (cI, 9, .inl sd)), (rk, .inl (cI, 9, .inl kv1_67)), (rs, .inl (cI, 9, .inl sw1_67))] := by rw [← ew95_4_0]; exact hD
          have ew95_5_0 : sd = setS cv (60 * q + a0) sd 0 := by exact (cp_0 _ sd).symm
          have hP : va_P D vwCl [(x, .inr (7, [.int 0, .int tr, .ref so, .ref sl, .ref ce, .int (nI p1_67), .int bar, .int (nI tn), .ref ki, .ref si, .ref th, .ref ri, .int (nI t1_67), .int (nI p1_67), .ref rk, .ref rs, .ref kt, .ref kr, .int kn, .int rg, .ref ab, .int am, .ref bh, .int bm, .int br, .int (nI rn), .ref wa, .ref ra])), (so, .inl (cI, 4, .inl sv)), (sl, .inl (cI, 4, .inl lv)), (ce, .inl (cI, 240, .inl cv)), (ki, .inl (cI, 9, .inl (setK cv (60 * q + a0) kd 0))), (si, .inl (cI, 9, .inl (setS cv (60 * q + a0) sd 0))), (rk, .inl (cI, 9, .inl kv1_67)), (rs, .inl (cI, 9, .inl sw1_67))] H := by rw [← ew95_5_0]; exact hP
          have hD : va_D A [(x, .inr (7, [.int 0, .int tr, .ref so, .ref sl, .ref ce, .int (nI p1_67), .int bar, .int (nI tn), .ref ki, .ref si, .ref th, .ref ri, .int (nI t1_67), .int (nI p1_67), .ref rk, .ref rs, .ref kt, .ref kr, .int kn, .int rg, .ref ab, .int am, .ref bh, .int bm, .int br, .int (nI rn), .ref wa, .ref ra])), (so, .inl (cI, 4, .inl sv)), (sl, .inl (cI, 4, .inl lv)), (ce, .inl (cI, 240, .inl cv)), (ki, .inl (cI, 9, .inl (setK cv (60 * q + a0) kd 0))), (si, .inl (cI, 9, .inl (setS cv (60 * q + a0) sd 0))), (rk, .inl (cI, 9, .inl kv1_67)), (rs, .inl (cI, 9, .inl sw1_67))] := by rw [← ew95_5_0]; exact hD
          exact lp95 _ 0 (Nat.zero_le _) (Nat.lt_succ_self _) _ _ hP hD hS _ (lv_sub hl [3, 0] rfl)
        · -- not
          refine tp_i (y := 0) (hr0) ?_
          have ek : 60 * q + a0 + k - (60 * q + a0) = k := by omega
          rw [ek] at hff hfn
          refine lv_if_ne (tgt := 84) hx hb dX7_town_70 (by decide) (fun h => absurd (by decide) h) (fun _ => ?_)
          refine lv_bipush (v := -100) hx hb dX7_town_73 (by decide) ?_
          refine lv_aload_n hx hb dX7_town_75 rfl (lv_at hl 2 rfl) ?_
          refine va_get (D := D) (ci := 7) (v := .int (nI t1_67)) (C := RX7) (T := TX7) (N := 28) hx hb hts iX7 hown hK hP 0 rfl rfl 12 (by decide) f71 (fun _ h9 => h9) rfl dX7_town_76 ?_
          refine lv_iload hx hb dX7_town_79 (lv_at hl 0 rfl) ?_
          refine lv_isub hx hb dX7_town_81 ?_
          refine tp_i (y := ffW cv (60 * q + a0) k k 0) (by rw [pk_sub hta, hff]) ?_
          refine lv_isub hx hb dX7_town_82 ?_
          exact W.iret (v := (-100) - (ffW cv (60 * q + a0) k k 0)) hx hb hr (fun t ht hW => ⟨⟨_, (bar, 0, n, kd, sd, tn, rn, nI t1_67, nI p1_67, kv1_67, sw1_67), rfl, by rw [cq]; rw [show towM (nI q) w (sv q) (lv q) cv (nI a0) (nI k) = (-100 - ffW cv (60 * q + a0) k k 0, 0, 0) from by unfold towM; rw [if_pos hk, if_pos b15, if_pos c37, cq, ca, ck, if_neg hfn]]; exact ⟨rfl, rfl, rfl, rfl, rfl, rfl, rfl, rfl⟩, by rw [ht]; exact hP, va_K.moved hW.alike hK, hD⟩, hS.F ht⟩) hS.2.2 dX7_town_83
      · -- f37
        refine lv_aload_n hx hb dX7_town_40 rfl (lv_at hl 1 rfl) ?_
        refine lv_iload hx hb dX7_town_41 (lv_at hl 0 rfl) ?_
        have hPc := hP.sub (ws' := [(x, .inr (7, [.int 0, .int tr, .ref so, .ref sl, .ref ce, .int (nI n), .int bar, .int (nI tn), .ref ki, .ref si, .ref th, .ref ri, .int at_, .int rp, .ref rk, .ref rs, .ref kt, .ref kr, .int kn, .int rg, .ref ab, .int am, .ref bh, .int bm, .int br, .int (nI rn), .ref wa, .ref ra]))]) [0] rfl
        have hDc := hD.sub (ws' := [(x, .inr (7, [.int 0, .int tr, .ref so, .ref sl, .ref ce, .int (nI n), .int bar, .int (nI tn), .ref ki, .ref si, .ref th, .ref ri, .int at_, .int rp, .ref rk, .ref rs, .ref kt, .ref kr, .int kn, .int rg, .ref ab, .int am, .ref bh, .int bm, .int br, .int (nI rn), .ref wa, .ref ra]))]) [0] (by decide) rfl
        have hFc := va_free (wc := [(x, .inr (7, [.int 0, .int tr, .ref so, .ref sl, .ref ce, .int (nI n), .int bar, .int (nI tn), .ref ki, .ref si, .ref th, .ref ri, .int at_, .int rp, .ref rk, .ref rs, .ref kt, .ref kr, .int kn, .int rg, .ref ab, .int am, .ref bh, .int bm, .int br, .int (nI rn), .ref wa, .ref ra]))]) hD hS hA [0] rfl
        refine va_calli (va_runV (As := [.int (agI (sv q) (lv q) w i v)]) (rest := []) ⟨hx, hb, hml, hown, hts⟩ (c_X7_fails l D cI cO x 0 tr so sl ce n bar tn ki si th ri at_ rp rk rs kt kr kn rg ab am bh bm br rn wa ra (agI (sv q) (lv q) w i v) _) (cwV 1 hts gX7_town_X7_fails rfl rfl rfl (by decide +kernel) ⟨Nat.le_of_ble_eq_true rfl, Nat.le_of_ble_eq_true rfl⟩) (preVW hPc hK hNw hDc (va_recv hK hPc (ci := 7) (q0 := 0) rfl rfl)) rfl rfl hl.1 rfl (lv_room (Nat.le_of_ble_eq_true rfl)) dX7_town_43 ⟨Nat.zero_le _, Nat.zero_le _⟩) hS (fun q _ h => hFc q h) hFc (fun r43 u t H1 locs ht hvm w43 hB hz1 hk1 hS => ?_)
        obtain ⟨hP1, hK1, hD1⟩ := hB
        rw [ht] at hP1
        try dsimp only at w43
        obtain ⟨hP, hD⟩ := va_join (wr := [(so, .inl (cI, 4, .inl sv)), (sl, .inl (cI, 4, .inl lv)), (ce, .inl (cI, 240, .inl cv)), (ki, .inl (cI, 9, .inl kd)), (si, .inl (cI, 9, .inl sd)), (rk, .inl (cI, 9, .inl kv)), (rs, .inl (cI, 9, .inl sw))]) (w1 := [(x, .inr (7, [.int (agI (sv q) (lv q) w i v), .int tr, .ref so, .ref sl, .ref ce, .int (nI n), .int bar, .int (nI tn), .ref ki, .ref si, .ref th, .ref ri, .int at_, .int rp, .ref rk, .ref rs, .ref kt, .ref kr, .int kn, .int rg, .ref ab, .int am, .ref bh, .int bm, .int br, .int (nI rn), .ref wa, .ref ra]))]) hP hD [0] [1, 2, 3, 4, 5, 6, 7] rfl rfl (by decide) (by decide) hk1 hFc hP1 hD1
        generalize H1 = H at hP hS ⊢
        have hP := hP.sub (ws' := [(x, .inr (7, [.int (agI (sv q) (lv q) w i v), .int tr, .ref so, .ref sl, .ref ce, .int (nI n), .int bar, .int (nI tn), .ref ki, .ref si, .ref th, .ref ri, .int at_, .int rp, .ref rk, .ref rs, .ref kt, .ref kr, .int kn, .int rg, .ref ab, .int am, .ref bh, .int bm, .int br, .int (nI rn), .ref wa, .ref ra])), (so, .inl (cI, 4, .inl sv)), (sl, .inl (cI, 4, .inl lv)), (ce, .inl (cI, 240, .inl cv)), (ki, .inl (cI, 9, .inl kd)), (si, .inl (cI, 9, .inl sd)), (rk, .inl (cI, 9, .inl kv)), (rs, .inl (cI, 9, .inl sw))]) [7, 0, 1, 2, 3, 4, 5, 6] rfl
        have hD := hD.sub (ws' := [(x, .inr (7, [.int (agI (sv q) (lv q) w i v), .int tr, .ref so, .ref sl, .ref ce, .int (nI n), .int bar, .int (nI tn), .ref ki, .ref si, .ref th, .ref ri, .int at_, .int rp, .ref rk, .ref rs, .ref kt, .ref kr, .int kn, .int rg, .ref ab, .int am, .ref bh, .int bm, .int br, .int (nI rn), .ref wa, .ref ra])), (so, .inl (cI, 4, .inl sv)), (sl, .inl (cI, 4, .inl lv)), (ce, .inl (cI, 240, .inl cv)), (ki, .inl (cI, 9, .inl kd)), (si, .inl (cI, 9, .inl sd)), (rk, .inl (cI, 9, .inl kv)), (rs, .inl (cI, 9, .inl sw))]) [7, 0, 1, 2, 3, 4, 5, 6] (by decide) rfl
        obtain rfl := w43
        exact W.iret (v := -10 - (agI (sv q) (lv q) w i v)) hx hb hr (fun t ht hW => ⟨⟨_, (bar, (agI (sv q) (lv q) w i v), n, kd, sd, tn, rn, at_, rp, kv, sw), rfl, by rw [cq]; rw [show towM (nI q) w (sv q) (lv q) cv i v = (-10 - agI (sv q) (lv q) w i v, agI (sv q) (lv q) w i v, 0) from by unfold towM; rw [if_pos hk, if_pos b15, if_neg c37]]; exact ⟨rfl, rfl, rfl, rfl, rfl, rfl, rfl, rfl⟩, by rw [ht]; exact hP, va_K.moved hW.alike hK, hD⟩, hS.F ht⟩) hS.2.2 dX7_town_46
    · -- n15
      obtain rfl := w15.2 b15
      refine lv_if_ne (tgt := 24) hx hb dX7_town_18 (by decide) (fun h => absurd (by decide) h) (fun _ => ?_)
      refine lv_bipush (v := -2) hx hb dX7_town_21 (by decide) ?_
      exact W.iret (v := -2) hx hb hr (fun t ht hW => ⟨⟨_, (bar, 0, n, kd, sd, tn, rn, at_, rp, kv, sw), rfl, by rw [show towM (nI q) w (sv (nI q).toNatClampNeg) (lv (nI q).toNatClampNeg) cv i v = (-2, 0, 0) from by unfold towM; rw [if_pos hk, if_neg b15]]; exact ⟨rfl, rfl, rfl, rfl, rfl, rfl, rfl, rfl⟩, by rw [ht]; exact hP, va_K.moved hW.alike hK, hD⟩, hS.F ht⟩) hS.2.2 dX7_town_23
  · -- n6
    obtain rfl := w6.2 b6
    have hk := b6
    refine lv_if_ne (tgt := 14) hx hb dX7_town_9 (by decide) (fun h => absurd (by decide) h) (fun _ => ?_)
    refine lv_iconst (v := -1) hx hb dX7_town_12 (by decide) ?_
    exact W.iret (v := -1) hx hb hr (fun t ht hW => ⟨⟨_, (bar, 0, n, kd, sd, tn, rn, at_, rp, kv, sw), rfl, by rw [show towM kq w (sv kq.toNatClampNeg) (lv kq.toNatClampNeg) cv i v = (-1, 0, 0) from if_neg hk]; exact ⟨rfl, rfl, rfl, rfl, rfl, rfl, rfl, rfl⟩, by rw [ht]; exact hP, va_K.moved hW.alike hK, hD⟩, hS.F ht⟩) hS.2.2 dX7_town_13
