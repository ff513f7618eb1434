set_option maxHeartbeats 4000000 in
set_option maxRecDepth 100000 in
theorem c_X7_goSeason (l : Launch) (D : va_G) (cI cO : ClassId) (x : Nat) (fa : Int32) (tr : Int32) (so : Nat) (sl : Nat) (ce : Nat) (n : Nat) (bar : Int32) (tn : Nat) (ki : Nat) (si : Nat) (th : Nat) (ri : Nat) (at_ : Int32) (rp : Int32) (rk : Nat) (rs : Nat) (kt : Nat) (kr : Nat) (kn : Int32) (rg : Int32) (ab : Nat) (am : Int32) (bh : Nat) (bm : Int32) (br : Int32) (rn : Nat) (wa : Nat) (ra : Nat) (kd : Nat → Int32) (sd : Nat → Int32) (ts : Nat → Int32) (tl : Nat → Int32) (cv : Nat → Int32) (a0 : Nat) (k : Nat) (sz : Nat) (hn : n ≤ 9) (hk3 : ∀ j, j < n → kd j = 0 ∨ kd j = 1 ∨ kd j = 2) (hos : okS n sd) (ht3 : tn ≤ 3) (hnn : nnT tl tn) (hf : ∀ i, i < k → ∃ a, a ≤ 9 ∧ cv (a0 + 2 * i) = nI a) (hac : ∀ i, i < k → cv (a0 + 2 * i + 1) = 0 ∨ cv (a0 + 2 * i + 1) = 1 ∨ cv (a0 + 2 * i + 1) = 2 ∨ cv (a0 + 2 * i + 1) = 3) (hb : a0 + 2 * k ≤ 240) : Met l yX7_goSeason wsX7_goSeason ({ frames := 3, cells := 0, slots := 0, locals := 67 } : Room) (va_Pc [.ref x, .int (nI a0), .int (nI k)] (wdW D cI cO [(x, .inr (7, [.int fa, .int tr, .ref so, .ref sl, .ref ce, .int (nI n), .int bar, .int (nI tn), .ref ki, .ref si, .ref th, .ref ri, .int at_, .int rp, .ref rk, .ref rs, .ref kt, .ref kr, .int kn, .int rg, .ref ab, .int am, .ref bh, .int bm, .int br, .int (nI rn), .ref wa, .ref ra])), (ki, .inl (cI, 9, .inl kd)), (si, .inl (cI, 9, .inl sd)), (th, .inl (cI, 3, .inl ts)), (ri, .inl (cI, 3, .inl tl)), (ce, .inl (cI, 240, .inl cv))] sz)) (va_Qi (S := Nat × (Nat → Int32) × (Nat → Int32) × Int32) (fun r u => r = (plW n kd sd cv a0 k 0 (tn, ts, tl, 0)).1 ∧ u.1 = (plW n kd sd cv a0 k 0 (tn, ts, tl, 0)).2.1 ∧ u.2.1 = (plW n kd sd cv a0 k 0 (tn, ts, tl, 0)).2.2.1 ∧ u.2.2.1 = (plW n kd sd cv a0 k 0 (tn, ts, tl, 0)).2.2.2.1 ∧ u.2.2.2 = (plW n kd sd cv a0 k 0 (tn, ts, tl, 0)).2.2.2.2) (fun u t => va_P D vwCl [(x, .inr (7, [.int fa, .int tr, .ref so, .ref sl, .ref ce, .int (nI n), .int bar, .int (nI u.1), .ref ki, .ref si, .ref th, .ref ri, .int at_, .int rp, .ref rk, .ref rs, .ref kt, .ref kr, .int kn, .int u.2.2.2, .ref ab, .int am, .ref bh, .int bm, .int br, .int (nI rn), .ref wa, .ref ra])), (ki, .inl (cI, 9, .inl kd)), (si, .inl (cI, 9, .inl sd)), (th, .inl (cI, 3, .inl u.2.1)), (ri, .inl (cI, 3, .inl u.2.2.1)), (ce, .inl (cI, 240, .inl cv))] t.heap ∧ va_K D vwCl (tyL cI cO) t ∧ va_D (va_A [(x, .inr (7, [.int fa, .int tr, .ref so, .ref sl, .ref ce, .int (nI n), .int bar, .int (nI tn), .ref ki, .ref si, .ref th, .ref ri, .int at_, .int rp, .ref rk, .ref rs, .ref kt, .ref kr, .int kn, .int rg, .ref ab, .int am, .ref bh, .int bm, .int br, .int (nI rn), .ref wa, .ref ra])), (ki, .inl (cI, 9, .inl kd)), (si, .inl (cI, 9, .inl sd)), (th, .inl (cI, 3, .inl ts)), (ri, .inl (cI, 3, .inl tl)), (ce, .inl (cI, 240, .inl cv))] sz) [(x, .inr (7, [.int fa, .int tr, .ref so, .ref sl, .ref ce, .int (nI n), .int bar, .int (nI u.1), .ref ki, .ref si, .ref th, .ref ri, .int at_, .int rp, .ref rk, .ref rs, .ref kt, .ref kr, .int kn, .int u.2.2.2, .ref ab, .int am, .ref bh, .int bm, .int br, .int (nI rn), .ref wa, .ref ra])), (ki, .inl (cI, 9, .inl kd)), (si, .inl (cI, 9, .inl sd)), (th, .inl (cI, 3, .inl u.2.1)), (ri, .inl (cI, 3, .inl u.2.2.1)), (ce, .inl (cI, 240, .inl cv))]) (va_A [(x, .inr (7, [.int fa, .int tr, .ref so, .ref sl, .ref ce, .int (nI n), .int bar, .int (nI tn), .ref ki, .ref si, .ref th, .ref ri, .int at_, .int rp, .ref rk, .ref rs, .ref kt, .ref kr, .int kn, .int rg, .ref ab, .int am, .ref bh, .int bm, .int br, .int (nI rn), .ref wa, .ref ra])), (ki, .inl (cI, 9, .inl kd)), (si, .inl (cI, 9, .inl sd)), (th, .inl (cI, 3, .inl ts)), (ri, .inl (cI, 3, .inl tl)), (ce, .inl (cI, 240, .inl cv))] sz)) 0 0 (va_A [(x, .inr (7, [.int fa, .int tr, .ref so, .ref sl, .ref ce, .int (nI n), .int bar, .int (nI tn), .ref ki, .ref si, .ref th, .ref ri, .int at_, .int rp, .ref rk, .ref rs, .ref kt, .ref kr, .int kn, .int rg, .ref ab, .int am, .ref bh, .int bm, .int br, .int (nI rn), .ref wa, .ref ra])), (ki, .inl (cI, 9, .inl kd)), (si, .inl (cI, 9, .inl sd)), (th, .inl (cI, 3, .inl ts)), (ri, .inl (cI, 3, .inl tl)), (ce, .inl (cI, 240, .inl cv))] sz) := by
  refine Met.ofW (cc := cX7_goSeason) (maxL := 4) (ret := (some .int)) (by decide) rfl ?_
  intro p e s m args below meth c s₁ B hml hv
  obtain ⟨rfl, hsz, hP, hK, hNw, hD0⟩ := hv
  have hx := B.exec
  have hb := B.bytes
  have hr := B.returns
  have hts := atoms_spec (ws := wsX7_goSeason) B.pre
  have hown : s.vm.findClass RX7 = some m.cls := findClass_of_methodNamed B.named
  have hlocks := B.notSynchronized
  have f16 := hts (.fieldLink RX7 16 "StruckThreesModel" "cells" "[I") (by decide +kernel)
  have f158 := hts (.fieldLink RX7 158 "StruckThreesModel" "rang" "I") (by decide +kernel)
  have iX7 : ∀ w ∈ wsX70, w ∈ wsX7_goSeason := by decide +kernel
  subst hsz
  have hD := hD0.self (sz := s.heap.size)
  generalize hAe : va_A [(x, .inr (7, [.int fa, .int tr, .ref so, .ref sl, .ref ce, .int (nI n), .int bar, .int (nI tn), .ref ki, .ref si, .ref th, .ref ri, .int at_, .int rp, .ref rk, .ref rs, .ref kt, .ref kr, .int kn, .int rg, .ref ab, .int am, .ref bh, .int bm, .int br, .int (nI rn), .ref wa, .ref ra])), (ki, .inl (cI, 9, .inl kd)), (si, .inl (cI, 9, .inl sd)), (th, .inl (cI, 3, .inl ts)), (ri, .inl (cI, 3, .inl tl)), (ce, .inl (cI, 240, .inl cv))] s.heap.size = A at hD ⊢
  have hA : ∀ q : Nat, s.heap.size ≤ q → A q := fun q h => by rw [← hAe]; exact Or.inr h
  have hS : va_S A s.heap s.heap [] := va_S.rf
  have hP : va_P D vwCl [(x, .inr (7, [.int fa, .int tr, .ref so, .ref sl, .ref ce, .int (nI n), .int bar, .int (nI tn), .ref ki, .ref si, .ref th, .ref ri, .int at_, .int rp, .ref rk, .ref rs, .ref kt, .ref kr, .int kn, .int rg, .ref ab, .int am, .ref bh, .int bm, .int br, .int (nI rn), .ref wa, .ref ra])), (ki, .inl (cI, 9, .inl kd)), (si, .inl (cI, 9, .inl sd)), (th, .inl (cI, 3, .inl ts)), (ri, .inl (cI, 3, .inl tl)), (ce, .inl (cI, 240, .inl cv))] s.heap := hP
  have hl := lv_entry ([.ref x, .int (nI a0), .int (nI k)]) (n := 4) (Nat.le_of_ble_eq_true rfl)
  rw [lg_entry_eq]
  generalize (lg_sl ([.ref x, .int (nI a0), .int (nI k)]) ++ List.replicate (4 - (lg_sl ([.ref x, .int (nI a0), .int (nI k)])).length) Slot.unset).toArray = ls at hl ⊢
  have hl : lv_has ls 4 [(0, .ref x), (1, .int (nI a0)), (2, .int (nI k))] := hl
  refine lv_aload_n hx hb dX7_goSeason_0 rfl (lv_at hl 0 rfl) ?_
  refine lv_iconst (v := 0) hx hb dX7_goSeason_1 (by decide) ?_
  refine va_put (D := D) (ci := 7) (v := .int 0) (ty := .int) (C := RX7) (T := TX7) (N := 28) hx hb hts iX7 tyX7 tyX7_ok nmX7 hown hK hP hD hS 0 rfl rfl 19 (by decide) f158 (fun _ h9 => h9) rfl (by decide +kernel) rfl rfl (Nat.le_of_ble_eq_true rfl) dX7_goSeason_2 (fun H locs hP hD hS => ?_)
  have hP : va_P D vwCl [(x, .inr (7, [.int fa, .int tr, .ref so, .ref sl, .ref ce, .int (nI n), .int bar, .int (nI tn), .ref ki, .ref si, .ref th, .ref ri, .int at_, .int rp, .ref rk, .ref rs, .ref kt, .ref kr, .int kn, .int 0, .ref ab, .int am, .ref bh, .int bm, .int br, .int (nI rn), .ref wa, .ref ra])), (ki, .inl (cI, 9, .inl kd)), (si, .inl (cI, 9, .inl sd)), (th, .inl (cI, 3, .inl ts)), (ri, .inl (cI, 3, .inl tl)), (ce, .inl (cI, 240, .inl cv))] H := hP
  have hD : va_D A [(x, .inr (7, [.int fa, .int tr, .ref so, .ref sl, .ref ce, .int (nI n), .int bar, .int (nI tn), .ref ki, .ref si, .ref th, .ref ri, .int at_, .int rp, .ref rk, .ref rs, .ref kt, .ref kr, .int kn, .int 0, .ref ab, .int am, .ref bh, .int bm, .int br, .int (nI rn), .ref wa, .ref ra])), (ki, .inl (cI, 9, .inl kd)), (si, .inl (cI, 9, .inl sd)), (th, .inl (cI, 3, .inl ts)), (ri, .inl (cI, 3, .inl tl)), (ce, .inl (cI, 240, .inl cv))] := hD
  refine lv_iconst (v := 0) hx hb dX7_goSeason_5 (by decide) ?_
  refine lv_istore_n (lv' := [(3, .int 0), (0, .ref x), (1, .int (nI a0)), (2, .int (nI k))]) hx hb dX7_goSeason_6 rfl hl (by decide) rfl (fun ls hl => ?_)
  have lp7 : ∀ (fu7 : Nat) (i : Nat) (vn : Nat) (vs : Nat → Int32) (vl : Nat → Int32) (vr : Int32) (hi : i ≤ k) (hv3 : vn ≤ 3) (hvn : nnT vl vn) (hq : plW n kd sd cv a0 (k - i) i (vn, vs, vl, vr) = plW n kd sd cv a0 k 0 (tn, ts, tl, 0)) (hm7 : k - i < fu7) (H : Heap) (locs : List Loc) (hP : va_P D vwCl [(x, .inr (7, [.int fa, .int tr, .ref so, .ref sl, .ref ce, .int (nI n), .int bar, .int (nI vn), .ref ki, .ref si, .ref th, .ref ri, .int at_, .int rp, .ref rk, .ref rs, .ref kt, .ref kr, .int kn, .int vr, .ref ab, .int am, .ref bh, .int bm, .int br, .int (nI rn), .ref wa, .ref ra])), (ki, .inl (cI, 9, .inl kd)), (si, .inl (cI, 9, .inl sd)), (th, .inl (cI, 3, .inl vs)), (ri, .inl (cI, 3, .inl vl)), (ce, .inl (cI, 240, .inl cv))] H) (hD : va_D A [(x, .inr (7, [.int fa, .int tr, .ref so, .ref sl, .ref ce, .int (nI n), .int bar, .int (nI vn), .ref ki, .ref si, .ref th, .ref ri, .int at_, .int rp, .ref rk, .ref rs, .ref kt, .ref kr, .int kn, .int vr, .ref ab, .int am, .ref bh, .int bm, .int br, .int (nI rn), .ref wa, .ref ra])), (ki, .inl (cI, 9, .inl kd)), (si, .inl (cI, 9, .inl sd)), (th, .inl (cI, 3, .inl vs)), (ri, .inl (cI, 3, .inl vl)), (ce, .inl (cI, 240, .inl cv))]) (hS : va_S A s.heap H locs) (ls : Array Slot) (hl : lv_has ls 4 [(0, .ref x), (1, .int (nI a0)), (2, .int (nI k)), (3, .int (nI i))]), W p l e (headSpec wsX7_goSeason ({ frames := 3, cells := 0, slots := 0, locals := 67 } : Room)).room s m ([.ref x, .int (nI a0), .int (nI k)]).toArray below meth c H locs 0 0 (MQ below (va_Qi (S := Nat × (Nat → Int32) × (Nat → Int32) × Int32) (fun r u => r = (plW n kd sd cv a0 k 0 (tn, ts, tl, 0)).1 ∧ u.1 = (plW n kd sd cv a0 k 0 (tn, ts, tl, 0)).2.1 ∧ u.2.1 = (plW n kd sd cv a0 k 0 (tn, ts, tl, 0)).2.2.1 ∧ u.2.2.1 = (plW n kd sd cv a0 k 0 (tn, ts, tl, 0)).2.2.2.1 ∧ u.2.2.2 = (plW n kd sd cv a0 k 0 (tn, ts, tl, 0)).2.2.2.2) (fun u t => va_P D vwCl [(x, .inr (7, [.int fa, .int tr, .ref so, .ref sl, .ref ce, .int (nI n), .int bar, .int (nI u.1), .ref ki, .ref si, .ref th, .ref ri, .int at_, .int rp, .ref rk, .ref rs, .ref kt, .ref kr, .int kn, .int u.2.2.2, .ref ab, .int am, .ref bh, .int bm, .int br, .int (nI rn), .ref wa, .ref ra])), (ki, .inl (cI, 9, .inl kd)), (si, .inl (cI, 9, .inl sd)), (th, .inl (cI, 3, .inl u.2.1)), (ri, .inl (cI, 3, .inl u.2.2.1)), (ce, .inl (cI, 240, .inl cv))] t.heap ∧ va_K D vwCl (tyL cI cO) t ∧ va_D A [(x, .inr (7, [.int fa, .int tr, .ref so, .ref sl, .ref ce, .int (nI n), .int bar, .int (nI u.1), .ref ki, .ref si, .ref th, .ref ri, .int at_, .int rp, .ref rk, .ref rs, .ref kt, .ref kr, .int kn, .int u.2.2.2, .ref ab, .int am, .ref bh, .int bm, .int br, .int (nI rn), .ref wa, .ref ra])), (ki, .inl (cI, 9, .inl kd)), (si, .inl (cI, 9, .inl sd)), (th, .inl (cI, 3, .inl u.2.1)), (ri, .inl (cI, 3, .inl u.2.2.1)), (ce, .inl (cI, 240, .inl cv))]) A) ([.ref x, .int (nI a0), .int (nI k)]).toArray s 0 0 A) (F0 m 7 ls []) := by
    intro fu7
    induction fu7 with
    | zero =>
      intros; omega
    | succ fu7 ih7 =>
      intro i vn vs vl vr hi hv3 hvn hq hm7 H locs hP hD hS ls hl
      refine lv_iload_n hx hb dX7_goSeason_7 rfl (lv_at hl 3 rfl) ?_
      refine lv_iload_n hx hb dX7_goSeason_8 rfl (lv_at hl 2 rfl) ?_
      refine lv_icmp_ge (tgt := 49) hx hb dX7_goSeason_9 (by decide) (fun c9 => ?_) (fun c9 => ?_)
      · -- t9
        have e9 : i = k := by have q := ge_n (by omega) (by omega) c9; omega
        rw [e9] at hl
        refine lv_bipush (v := -9) hx hb dX7_goSeason_49 (by decide) ?_
        exact W.iret (v := -9) hx hb hr (fun t ht hW => ⟨⟨_, (vn, vs, vl, vr), rfl, by rw [show plW n kd sd cv a0 k 0 (tn, ts, tl, 0) = (-9, vn, vs, vl, vr) from by rw [← hq, e9, Nat.sub_self]; rfl]; exact ⟨rfl, rfl, rfl, rfl, rfl⟩, by rw [ht]; exact hP, va_K.moved hW.alike hK, hD⟩, hS.F ht⟩) hS.2.2 dX7_goSeason_51
      · -- f9
        have l9 : i < k := lt_n (by omega) (by omega) c9
        obtain ⟨a, ha9, ea⟩ := hf i l9
        refine lv_aload_n hx hb dX7_goSeason_12 rfl (lv_at hl 0 rfl) ?_
        refine lv_aload_n hx hb dX7_goSeason_13 rfl (lv_at hl 0 rfl) ?_
        refine va_get (D := D) (ci := 7) (v := .ref ce) (C := RX7) (T := TX7) (N := 28) hx hb hts iX7 hown hK hP 0 rfl rfl 4 (by decide) f16 (fun _ h9 => h9) rfl dX7_goSeason_14 ?_
        refine lv_iload_n hx hb dX7_goSeason_17 rfl (lv_at hl 1 rfl) ?_
        refine lv_iconst (v := 2) hx hb dX7_goSeason_18 (by decide) ?_
        refine lv_iload_n hx hb dX7_goSeason_19 rfl (lv_at hl 3 rfl) ?_
        refine lv_imul hx hb dX7_goSeason_20 ?_
        refine lv_iadd hx hb dX7_goSeason_21 ?_
        refine tp_i (y := nI (a0 + 2 * i)) (ix2 _ _) ?_
        refine va_iald hx hb hK hP 5 0 rfl rfl (vp_in_nI (by omega) (by decide)) dX7_goSeason_22 ?_
        refine tp_i (y := cv (a0 + 2 * i)) (by rw [nI_clamp (n := (a0 + 2 * i)) (by omega)]) ?_
        refine tp_i (y := nI a) (ea) ?_
        refine lv_aload_n hx hb dX7_goSeason_23 rfl (lv_at hl 0 rfl) ?_
        refine va_get (D := D) (ci := 7) (v := .ref ce) (C := RX7) (T := TX7) (N := 28) hx hb hts iX7 hown hK hP 0 rfl rfl 4 (by decide) f16 (fun _ h9 => h9) rfl dX7_goSeason_24 ?_
        refine lv_iload_n hx hb dX7_goSeason_27 rfl (lv_at hl 1 rfl) ?_
        refine lv_iconst (v := 2) hx hb dX7_goSeason_28 (by decide) ?_
        refine lv_iload_n hx hb dX7_goSeason_29 rfl (lv_at hl 3 rfl) ?_
        refine lv_imul hx hb dX7_goSeason_30 ?_
        refine lv_iadd hx hb dX7_goSeason_31 ?_
        refine lv_iconst (v := 1) hx hb dX7_goSeason_32 (by decide) ?_
        refine lv_iadd hx hb dX7_goSeason_33 ?_
        refine tp_i (y := nI (a0 + 2 * i + 1)) (ix21 _ _) ?_
        refine va_iald hx hb hK hP 5 0 rfl rfl (vp_in_nI (by omega) (by decide)) dX7_goSeason_34 ?_
        refine tp_i (y := cv (a0 + 2 * i + 1)) (by rw [nI_clamp (n := (a0 + 2 * i + 1)) (by omega)]) ?_
        have hPc := hP.sub (ws' := [(x, .inr (7, [.int fa, .int tr, .ref so, .ref sl, .ref ce, .int (nI n), .int bar, .int (nI vn), .ref ki, .ref si, .ref th, .ref ri, .int at_, .int rp, .ref rk, .ref rs, .ref kt, .ref kr, .int kn, .int vr, .ref ab, .int am, .ref bh, .int bm, .int br, .int (nI rn), .ref wa, .ref ra])), (ki, .inl (cI, 9, .inl kd)), (si, .inl (cI, 9, .inl sd)), (th, .inl (cI, 3, .inl vs)), (ri, .inl (cI, 3, .inl vl))]) [0, 1, 2, 3, 4] rfl
        have hDc := hD.sub (ws' := [(x, .inr (7, [.int fa, .int tr, .ref so, .ref sl, .ref ce, .int (nI n), .int bar, .int (nI vn), .ref ki, .ref si, .ref th, .ref ri, .int at_, .int rp, .ref rk, .ref rs, .ref kt, .ref kr, .int kn, .int vr, .ref ab, .int am, .ref bh, .int bm, .int br, .int (nI rn), .ref wa, .ref ra])), (ki, .inl (cI, 9, .inl kd)), (si, .inl (cI, 9, .inl sd)), (th, .inl (cI, 3, .inl vs)), (ri, .inl (cI, 3, .inl vl))]) [0, 1, 2, 3, 4] (by decide) rfl
        have hFc := va_free (wc := [(x, .inr (7, [.int fa, .int tr, .ref so, .ref sl, .ref ce, .int (nI n), .int bar, .int (nI vn), .ref ki, .ref si, .ref th, .ref ri, .int at_, .int rp, .ref rk, .ref rs, .ref kt, .ref kr, .int kn, .int vr, .ref ab, .int am, .ref bh, .int bm, .int br, .int (nI rn), .ref wa, .ref ra])), (ki, .inl (cI, 9, .inl kd)), (si, .inl (cI, 9, .inl sd)), (th, .inl (cI, 3, .inl vs)), (ri, .inl (cI, 3, .inl vl))]) hD hS hA [0, 1, 2, 3, 4] rfl
        refine va_calli (va_runV (As := [.int (nI a), .int (cv (a0 + 2 * i + 1))]) (rest := []) ⟨hx, hb, hml, hown, hts⟩ (c_X7_does l D cI cO x fa tr so sl ce n bar vn ki si th ri at_ rp rk rs kt kr kn vr ab am bh bm br rn wa ra kd sd vs vl a (cv (a0 + 2 * i + 1)) _ (by assumption) (by assumption) (hv3) (hvn) (by omega) (hac i l9)) (cwV 2 hts gX7_goSeason_X7_does rfl rfl rfl (by decide +kernel) ⟨Nat.le_of_ble_eq_true rfl, Nat.le_of_ble_eq_true rfl⟩) (preVW hPc hK hNw hDc (va_recv hK hPc (ci := 7) (q0 := 0) rfl rfl)) rfl rfl hl.1 rfl (lv_room (Nat.le_of_ble_eq_true rfl)) dX7_goSeason_35 ⟨Nat.zero_le _, Nat.zero_le _⟩) hS (fun q _ h => hFc q h) hFc (fun r35 u t H1 locs ht hvm w35 hB hz1 hk1 hS => ?_)
        obtain ⟨tn1_35, ts1_35, tl1_35, rg1_35⟩ := u
        obtain ⟨hP1, hK1, hD1⟩ := hB
        rw [ht] at hP1
        try dsimp only at w35
        obtain ⟨hP, hD⟩ := va_join (wr := [(ce, .inl (cI, 240, .inl cv))]) (w1 := [(x, .inr (7, [.int fa, .int tr, .ref so, .ref sl, .ref ce, .int (nI n), .int bar, .int (nI tn1_35), .ref ki, .ref si, .ref th, .ref ri, .int at_, .int rp, .ref rk, .ref rs, .ref kt, .ref kr, .int kn, .int rg1_35, .ref ab, .int am, .ref bh, .int bm, .int br, .int (nI rn), .ref wa, .ref ra])), (ki, .inl (cI, 9, .inl kd)), (si, .inl (cI, 9, .inl sd)), (th, .inl (cI, 3, .inl ts1_35)), (ri, .inl (cI, 3, .inl tl1_35))]) hP hD [0, 1, 2, 3, 4] [5] rfl rfl (by decide) (by decide) hk1 hFc hP1 hD1
        generalize H1 = H at hP hS ⊢
        have hP := hP.sub (ws' := [(x, .inr (7, [.int fa, .int tr, .ref so, .ref sl, .ref ce, .int (nI n), .int bar, .int (nI tn1_35), .ref ki, .ref si, .ref th, .ref ri, .int at_, .int rp, .ref rk, .ref rs, .ref kt, .ref kr, .int kn, .int rg1_35, .ref ab, .int am, .ref bh, .int bm, .int br, .int (nI rn), .ref wa, .ref ra])), (ki, .inl (cI, 9, .inl kd)), (si, .inl (cI, 9, .inl sd)), (th, .inl (cI, 3, .inl ts1_35)), (ri, .inl (cI, 3, .inl tl1_35)), (ce, .inl (cI, 240, .inl cv))]) [1, 2, 3, 4, 5, 0] rfl
        have hD := hD.sub (ws' := [(x, .inr (7, [.int fa, .int tr, .ref so, .ref sl, .ref ce, .int (nI n), .int bar, .int (nI tn1_35), .ref ki, .ref si, .ref th, .ref ri, .int at_, .int rp, .ref rk, .ref rs, .ref kt, .ref kr, .int kn, .int rg1_35, .ref ab, .int am, .ref bh, .int bm, .int br, .int (nI rn), .ref wa, .ref ra])), (ki, .inl (cI, 9, .inl kd)), (si, .inl (cI, 9, .inl sd)), (th, .inl (cI, 3, .inl ts1_35)), (ri, .inl (cI, 3, .inl tl1_35)), (ce, .inl (cI, 240, .inl cv))]) [1, 2, 3, 4, 5, 0] (by decide) rfl
        by_cases b35 : canB vn vl a (cv (a0 + 2 * i + 1)) = true
        · -- y35
          obtain ⟨rfl, rfl, rfl, rfl, rfl⟩ := w35.1 b35
          refine lv_if_ne (tgt := 43) hx hb dX7_goSeason_38 (by decide) (fun _ => ?_) (fun h => absurd h (by decide))
          refine lv_iinc (v := nI (i + 1)) (lv' := [(3, .int (nI (i + 1))), (0, .ref x), (1, .int (nI a0)), (2, .int (nI k))]) hx hb dX7_goSeason_43 hl (k := 3) rfl (nI_1 _) (by decide) rfl (fun ls hl => ?_)
          refine lv_goto (tgt := 7) hx hb dX7_goSeason_46 (by decide) ?_
          exact ih7 (i + 1) (pfm n kd sd a (cv (a0 + 2 * i + 1)) (vn, vs, vl, vr)).1 (pfm n kd sd a (cv (a0 + 2 * i + 1)) (vn, vs, vl, vr)).2.1 (pfm n kd sd a (cv (a0 + 2 * i + 1)) (vn, vs, vl, vr)).2.2.1 (pfm n kd sd a (cv (a0 + 2 * i + 1)) (vn, vs, vl, vr)).2.2.2 (by omega) (Nat.le_trans (pfm_le _ _ _ _ _ _) hv3) (pfm_nn hn hk3 hos hvn) (by rw [← hq, show k - i = (k - (i + 1)) + 1 by omega, plW, if_pos (by rw [ea, nI_clamp (n := a) (by omega)]; exact b35), ea, nI_clamp (n := a) (by omega)]) (by omega) _ _ hP hD hS _ (lv_sub hl [1, 2, 3, 0] rfl)
        · -- n35
          obtain ⟨rfl, q_tn1_35, q_ts1_35, q_tl1_35, q_rg1_35⟩ := w35.2 b35
          subst tn1_35
          subst ts1_35
          subst tl1_35
          subst rg1_35
          refine lv_if_ne (tgt := 43) hx hb dX7_goSeason_38 (by decide) (fun h => absurd (by decide) h) (fun _ => ?_)
          refine lv_iload_n hx hb dX7_goSeason_41 rfl (lv_at hl 3 rfl) ?_
          exact W.iret (v := nI i) hx hb hr (fun t ht hW => ⟨⟨_, (vn, vs, vl, vr), rfl, by rw [show plW n kd sd cv a0 k 0 (tn, ts, tl, 0) = (nI i, vn, vs, vl, vr) from by rw [← hq, show k - i = (k - (i + 1)) + 1 by omega, plW, if_neg (by rw [ea, nI_clamp (n := a) (by omega)]; exact b35)]]; exact ⟨rfl, rfl, rfl, rfl, rfl⟩, by rw [ht]; exact hP, va_K.moved hW.alike hK, hD⟩, hS.F ht⟩) hS.2.2 dX7_goSeason_42
  exact lp7 _ 0 tn ts tl 0 (Nat.zero_le _) (ht3) (hnn) (rfl) (Nat.lt_succ_self _) _ _ hP hD hS _ (lv_sub hl [1, 2, 3, 0] rfl)

set_option maxHeartbeats 4000000 in
set_option maxRecDepth 100000 in
theorem c_X7_season (l : Launch) (D : va_G) (cI cO : ClassId) (x : Nat) (fa : Int32) (tr : Int32) (so : Nat) (sl : Nat) (ce : Nat) (n : Nat) (bar : Int32) (tn : Nat) (ki : Nat) (si : Nat) (th : Nat) (ri : Nat) (at_ : Int32) (rp : Int32) (rk : Nat) (rs : Nat) (kt : Nat) (kr : Nat) (kn : Int32) (rg : Int32) (ab : Nat) (am : Int32) (bh : Nat) (bm : Int32) (br : Int32) (rn : Nat) (wa : Nat) (ra : Nat) (sv : Nat → Int32) (lv : Nat → Int32) (cv : Nat → Int32) (kd : Nat → Int32) (sd : Nat → Int32) (ts : Nat → Int32) (tl : Nat → Int32) (tk : Nat → Int32) (rq : Nat → Int32) (kq : Int32) (w : Int32) (i : Int32) (v : Int32) (y : Int32) (sz : Nat) (hom : okM sv lv) (hn : n ≤ 9) (hk3 : ∀ j, j < n → kd j = 0 ∨ kd j = 1 ∨ kd j = 2) (hos : okS n sd) (ht3 : tn ≤ 3) (hnn : nnT tl tn) : Met l yX7_season wsX7_season ({ frames := 4, cells := 0, slots := 0, locals := 90 } : Room) (va_Pc [.ref x, .int kq, .int w, .int i, .int v, .int y] (wdW D cI cO [(x, .inr (7, [.int fa, .int tr, .ref so, .ref sl, .ref ce, .int (nI n), .int bar, .int (nI tn), .ref ki, .ref si, .ref th, .ref ri, .int at_, .int rp, .ref rk, .ref rs, .ref kt, .ref kr, .int kn, .int rg, .ref ab, .int am, .ref bh, .int bm, .int br, .int (nI rn), .ref wa, .ref ra])), (so, .inl (cI, 4, .inl sv)), (sl, .inl (cI, 4, .inl lv)), (ce, .inl (cI, 240, .inl cv)), (ki, .inl (cI, 9, .inl kd)), (si, .inl (cI, 9, .inl sd)), (th, .inl (cI, 3, .inl ts)), (ri, .inl (cI, 3, .inl tl)), (kt, .inl (cI, 3, .inl tk)), (kr, .inl (cI, 3, .inl rq))] sz)) (va_Qi (S := Int32 × Int32 × Int32 × (Nat → Int32) × (Nat → Int32)) (fun r u => r = (ifb (seaM n kq w (sv kq.toNatClampNeg) (lv kq.toNatClampNeg) cv i v y).2.2 (seaR y (seaPM n kd sd tn ts tl cv kq i v)) (seaM n kq w (sv kq.toNatClampNeg) (lv kq.toNatClampNeg) cv i v y).1) ∧ u.1 = (seaM n kq w (sv kq.toNatClampNeg) (lv kq.toNatClampNeg) cv i v y).2.1) (fun u t => va_P D vwCl [(x, .inr (7, [.int u.1, .int tr, .ref so, .ref sl, .ref ce, .int (nI n), .int bar, .int (nI tn), .ref ki, .ref si, .ref th, .ref ri, .int at_, .int rp, .ref rk, .ref rs, .ref kt, .ref kr, .int u.2.1, .int u.2.2.1, .ref ab, .int am, .ref bh, .int bm, .int br, .int (nI rn), .ref wa, .ref ra])), (so, .inl (cI, 4, .inl sv)), (sl, .inl (cI, 4, .inl lv)), (ce, .inl (cI, 240, .inl cv)), (ki, .inl (cI, 9, .inl kd)), (si, .inl (cI, 9, .inl sd)), (th, .inl (cI, 3, .inl ts)), (ri, .inl (cI, 3, .inl tl)), (kt, .inl (cI, 3, .inl u.2.2.2.1)), (kr, .inl (cI, 3, .inl u.2.2.2.2))] t.heap ∧ va_K D vwCl (tyL cI cO) t ∧ va_D (va_A [(x, .inr (7, [.int fa, .int tr, .ref so, .ref sl, .ref ce, .int (nI n), .int bar, .int (nI tn), .ref ki, .ref si, .ref th, .ref ri, .int at_, .int rp, .ref rk, .ref rs, .ref kt, .ref kr, .int kn, .int rg, .ref ab, .int am, .ref bh, .int bm, .int br, .int (nI rn), .ref wa, .ref ra])), (so, .inl (cI, 4, .inl sv)), (sl, .inl (cI, 4, .inl lv)), (ce, .inl (cI, 240, .inl cv)), (ki, .inl (cI, 9, .inl kd)), (si, .inl (cI, 9, .inl sd)), (th, .inl (cI, 3, .inl ts)), (ri, .inl (cI, 3, .inl tl)), (kt, .inl (cI, 3, .inl tk)), (kr, .inl (cI, 3, .inl rq))] sz) [(x, .inr (7, [.int u.1, .int tr, .ref so, .ref sl, .ref ce, .int (nI n), .int bar, .int (nI tn), .ref ki, .ref si, .ref th, .ref ri, .int at_, .int rp, .ref rk, .ref rs, .ref kt, .ref kr, .int u.2.1, .int u.2.2.1, .ref ab, .int am, .ref bh, .int bm, .int br, .int (nI rn), .ref wa, .ref ra])), (so, .inl (cI, 4, .inl sv)), (sl, .inl (cI, 4, .inl lv)), (ce, .inl (cI, 240, .inl cv)), (ki, .inl (cI, 9, .inl kd)), (si, .inl (cI, 9, .inl sd)), (th, .inl (cI, 3, .inl ts)), (ri, .inl (cI, 3, .inl tl)), (kt, .inl (cI, 3, .inl u.2.2.2.1)), (kr, .inl (cI, 3, .inl u.2.2.2.2))]) (va_A [(x, .inr (7, [.int fa, .int tr, .ref so, .ref sl, .ref ce, .int (nI n), .int bar, .int (nI tn), .ref ki, .ref si, .ref th, .ref ri, .int at_, .int rp, .ref rk, .ref rs, .ref kt, .ref kr, .int kn, .int rg, .ref ab, .int am, .ref bh, .int bm, .int br, .int (nI rn), .ref wa, .ref ra])), (so, .inl (cI, 4, .inl sv)), (sl, .inl (cI, 4, .inl lv)), (ce, .inl (cI, 240, .inl cv)), (ki, .inl (cI, 9, .inl kd)), (si, .inl (cI, 9, .inl sd)), (th, .inl (cI, 3, .inl ts)), (ri, .inl (cI, 3, .inl tl)), (kt, .inl (cI, 3, .inl tk)), (kr, .inl (cI, 3, .inl rq))] sz)) 0 0 (va_A [(x, .inr (7, [.int fa, .int tr, .ref so, .ref sl, .ref ce, .int (nI n), .int bar, .int (nI tn), .ref ki, .ref si, .ref th, .ref ri, .int at_, .int rp, .ref rk, .ref rs, .ref kt, .ref kr, .int kn, .int rg, .ref ab, .int am, .ref bh, .int bm, .int br, .int (nI rn), .ref wa, .ref ra])), (so, .inl (cI, 4, .inl sv)), (sl, .inl (cI, 4, .inl lv)), (ce, .inl (cI, 240, .inl cv)), (ki, .inl (cI, 9, .inl kd)), (si, .inl (cI, 9, .inl sd)), (th, .inl (cI, 3, .inl ts)), (ri, .inl (cI, 3, .inl tl)), (kt, .inl (cI, 3, .inl tk)), (kr, .inl (cI, 3, .inl rq))] sz) := by
  refine Met.ofW (cc := cX7_season) (maxL := 10) (ret := (some .int)) (by decide) rfl ?_
  intro p e s m args below meth c s₁ B hml hv
  obtain ⟨rfl, hsz, hP, hK, hNw, hD0⟩ := hv
  have hx := B.exec
  have hb := B.bytes
  have hr := B.returns
  have hts := atoms_spec (ws := wsX7_season) B.pre
  have hown : s.vm.findClass RX7 = some m.cls := findClass_of_methodNamed B.named
  have hlocks := B.notSynchronized
  have f16 := hts (.fieldLink RX7 16 "StruckThreesModel" "cells" "[I") (by decide +kernel)
  have f55 := hts (.fieldLink RX7 55 "StruckThreesModel" "fault" "I") (by decide +kernel)
  have f65 := hts (.fieldLink RX7 65 "StruckThreesModel" "people" "I") (by decide +kernel)
  have iX7 : ∀ w ∈ wsX70, w ∈ wsX7_season := by decide +kernel
  subst hsz
  have hD := hD0.self (sz := s.heap.size)
  generalize hAe : va_A [(x, .inr (7, [.int fa, .int tr, .ref so, .ref sl, .ref ce, .int (nI n), .int bar, .int (nI tn), .ref ki, .ref si, .ref th, .ref ri, .int at_, .int rp, .ref rk, .ref rs, .ref kt, .ref kr, .int kn, .int rg, .ref ab, .int am, .ref bh, .int bm, .int br, .int (nI rn), .ref wa, .ref ra])), (so, .inl (cI, 4, .inl sv)), (sl, .inl (cI, 4, .inl lv)), (ce, .inl (cI, 240, .inl cv)), (ki, .inl (cI, 9, .inl kd)), (si, .inl (cI, 9, .inl sd)), (th, .inl (cI, 3, .inl ts)), (ri, .inl (cI, 3, .inl tl)), (kt, .inl (cI, 3, .inl tk)), (kr, .inl (cI, 3, .inl rq))] s.heap.size = A at hD ⊢
  have hA : ∀ q : Nat, s.heap.size ≤ q → A q := fun q h => by rw [← hAe]; exact Or.inr h
  have hS : va_S A s.heap s.heap [] := va_S.rf
  have hP : va_P D vwCl [(x, .inr (7, [.int fa, .int tr, .ref so, .ref sl, .ref ce, .int (nI n), .int bar, .int (nI tn), .ref ki, .ref si, .ref th, .ref ri, .int at_, .int rp, .ref rk, .ref rs, .ref kt, .ref kr, .int kn, .int rg, .ref ab, .int am, .ref bh, .int bm, .int br, .int (nI rn), .ref wa, .ref ra])), (so, .inl (cI, 4, .inl sv)), (sl, .inl (cI, 4, .inl lv)), (ce, .inl (cI, 240, .inl cv)), (ki, .inl (cI, 9, .inl kd)), (si, .inl (cI, 9, .inl sd)), (th, .inl (cI, 3, .inl ts)), (ri, .inl (cI, 3, .inl tl)), (kt, .inl (cI, 3, .inl tk)), (kr, .inl (cI, 3, .inl rq))] s.heap := hP
  have hl := lv_entry ([.ref x, .int kq, .int w, .int i, .int v, .int y]) (n := 10) (Nat.le_of_ble_eq_true rfl)
  rw [lg_entry_eq]
  generalize (lg_sl ([.ref x, .int kq, .int w, .int i, .int v, .int y]) ++ List.replicate (10 - (lg_sl ([.ref x, .int kq, .int w, .int i, .int v, .int y])).length) Slot.unset).toArray = ls at hl ⊢
  have hl : lv_has ls 10 [(0, .ref x), (1, .int kq), (2, .int w), (3, .int i), (4, .int v), (5, .int y)] := hl
  refine lv_aload_n hx hb dX7_season_0 rfl (lv_at hl 0 rfl) ?_
  refine lv_iconst (v := 0) hx hb dX7_season_1 (by decide) ?_
  refine va_put (D := D) (ci := 7) (v := .int 0) (ty := .int) (C := RX7) (T := TX7) (N := 28) hx hb hts iX7 tyX7 tyX7_ok nmX7 hown hK hP hD hS 0 rfl rfl 0 (by decide) f55 (fun _ h9 => h9) rfl (by decide +kernel) rfl rfl (Nat.le_of_ble_eq_true rfl) dX7_season_2 (fun H locs hP hD hS => ?_)
  have hP : va_P D vwCl [(x, .inr (7, [.int 0, .int tr, .ref so, .ref sl, .ref ce, .int (nI n), .int bar, .int (nI tn), .ref ki, .ref si, .ref th, .ref ri, .int at_, .int rp, .ref rk, .ref rs, .ref kt, .ref kr, .int kn, .int rg, .ref ab, .int am, .ref bh, .int bm, .int br, .int (nI rn), .ref wa, .ref ra])), (so, .inl (cI, 4, .inl sv)), (sl, .inl (cI, 4, .inl lv)), (ce, .inl (cI, 240, .inl cv)), (ki, .inl (cI, 9, .inl kd)), (si, .inl (cI, 9, .inl sd)), (th, .inl (cI, 3, .inl ts)), (ri, .inl (cI, 3, .inl tl)), (kt, .inl (cI, 3, .inl tk)), (kr, .inl (cI, 3, .inl rq))] H := hP
  have hD : va_D A [(x, .inr (7, [.int 0, .int tr, .ref so, .ref sl, .ref ce, .int (nI n), .int bar, .int (nI tn), .ref ki, .ref si, .ref th, .ref ri, .int at_, .int rp, .ref rk, .ref rs, .ref kt, .ref kr, .int kn, .int rg, .ref ab, .int am, .ref bh, .int bm, .int br, .int (nI rn), .ref wa, .ref ra])), (so, .inl (cI, 4, .inl sv)), (sl, .inl (cI, 4, .inl lv)), (ce, .inl (cI, 240, .inl cv)), (ki, .inl (cI, 9, .inl kd)), (si, .inl (cI, 9, .inl sd)), (th, .inl (cI, 3, .inl ts)), (ri, .inl (cI, 3, .inl tl)), (kt, .inl (cI, 3, .inl tk)), (kr, .inl (cI, 3, .inl rq))] := hD
  refine lv_iload_n hx hb dX7_season_5 rfl (lv_at hl 1 rfl) ?_
  have hPc := hP.sub (ws' := []) [] rfl
  refine vp_callSi (va_Run.run (va_runS (As := [.int kq]) (rest := []) ⟨hx, hb, hml, hown, hts⟩ (c_X7_isSheet l D cI cO kq) (va_cwS 1 hts gX7_season_X7_isSheet rfl rfl rfl (by decide +kernel) ⟨Nat.le_of_ble_eq_true rfl, Nat.le_of_ble_eq_true rfl⟩) (preSR hPc hK hNw) rfl rfl hl.1 rfl (lv_room (Nat.le_of_ble_eq_true rfl)) dX7_season_6 ⟨Nat.zero_le _, Nat.zero_le _⟩)) (fun r6 w6 => ?_)
  by_cases b6 : ¬ kq < 0 ∧ kq < 4
  · -- y6
    obtain rfl := w6.1 b6
    obtain ⟨q, hq4, rfl⟩ := vp_in_of (in4 b6.1 b6.2) (by decide)
    have cq := nI_clamp (n := q) (by omega)
    have hk := b6
    refine lv_if_ne (tgt := 14) hx hb dX7_season_9 (by decide) (fun _ => ?_) (fun h => absurd h (by decide))
    refine lv_iload_n hx hb dX7_season_14 rfl (lv_at hl 2 rfl) ?_
    have hPc := hP.sub (ws' := []) [] rfl
    refine vp_callSi (va_Run.run (va_runS (As := [.int w]) (rest := []) ⟨hx, hb, hml, hown, hts⟩ (c_X7_isSort l D cI cO w) (va_cwS 1 hts gX7_season_X7_isSort rfl rfl rfl (by decide +kernel) ⟨Nat.le_of_ble_eq_true rfl, Nat.le_of_ble_eq_true rfl⟩) (preSR hPc hK hNw) rfl rfl hl.1 rfl (lv_room (Nat.le_of_ble_eq_true rfl)) dX7_season_15 ⟨Nat.zero_le _, Nat.zero_le _⟩)) (fun r15 w15 => ?_)
    by_cases b15 : lstT w 0 2 = true
    · -- y15
      obtain rfl := w15.1 b15
      refine lv_if_eq (tgt := 42) hx hb dX7_season_18 (by decide) (fun h => absurd h (by decide)) (fun _ => ?_)
      refine lv_iload hx hb dX7_season_21 (lv_at hl 4 rfl) ?_
      refine lv_iconst (v := 0) hx hb dX7_season_23 (by decide) ?_
      refine lv_bipush (v := 20) hx hb dX7_season_24 (by decide) ?_
      have hPc := hP.sub (ws' := []) [] rfl
      refine vp_callSi (va_Run.run (va_runS (As := [.int v, .int 0, .int 20]) (rest := []) ⟨hx, hb, hml, hown, hts⟩ (c_X7_within l D cI cO v 0 20) (va_cwS 3 hts gX7_season_X7_within rfl rfl rfl (by decide +kernel) ⟨Nat.le_of_ble_eq_true rfl, Nat.le_of_ble_eq_true rfl⟩) (preSR hPc hK hNw) rfl rfl hl.1 rfl (lv_room (Nat.le_of_ble_eq_true rfl)) dX7_season_26 ⟨Nat.zero_le _, Nat.zero_le _⟩)) (fun r26 w26 => ?_)
      by_cases b26 : lstT v 0 20 = true
      · -- y26
        obtain rfl := w26.1 b26
        refine lv_if_eq (tgt := 42) hx hb dX7_season_29 (by decide) (fun h => absurd h (by decide)) (fun _ => ?_)
        refine lv_iload hx hb dX7_season_32 (lv_at hl 5 rfl) ?_
        refine lv_iconst (v := 0) hx hb dX7_season_34 (by decide) ?_
        refine lv_iconst (v := 4) hx hb dX7_season_35 (by decide) ?_
        have hPc := hP.sub (ws' := []) [] rfl
        refine vp_callSi (va_Run.run (va_runS (As := [.int y, .int 0, .int 4]) (rest := []) ⟨hx, hb, hml, hown, hts⟩ (c_X7_within l D cI cO y 0 4) (va_cwS 3 hts gX7_season_X7_within rfl rfl rfl (by decide +kernel) ⟨Nat.le_of_ble_eq_true rfl, Nat.le_of_ble_eq_true rfl⟩) (preSR hPc hK hNw) rfl rfl hl.1 rfl (lv_room (Nat.le_of_ble_eq_true rfl)) dX7_season_36 ⟨Nat.zero_le _, Nat.zero_le _⟩)) (fun r36 w36 => ?_)
        by_cases b36 : lstT y 0 4 = true
        · -- y36
          obtain rfl := w36.1 b36
          have hok2 : seaOk w v y = true := by unfold seaOk; rw [b15, decide_eq_true (show ¬ v < 0 ∧ ¬ 20 < v ∧ ¬ y < 0 ∧ y ≤ 4 from ⟨(of_decide_eq_true b26).1, (of_decide_eq_true b26).2, (of_decide_eq_true b36).1, (lst_in b36).2⟩)]; rfl
          obtain ⟨k, hk20, rfl⟩ := nI_of2 (M := 20) (n := 20) rfl (of_decide_eq_true b26).1 (lst_in b26).2
          have ck := nI_clamp (n := k) (by omega)
          refine lv_if_ne (tgt := 45) hx hb dX7_season_39 (by decide) (fun _ => ?_) (fun h => absurd h (by decide))
          refine lv_aload_n hx hb dX7_season_45 rfl (lv_at hl 0 rfl) ?_
          refine lv_iload_n hx hb dX7_season_46 rfl (lv_at hl 1 rfl) ?_
          refine lv_iload_n hx hb dX7_season_47 rfl (lv_at hl 2 rfl) ?_
          refine lv_iload_n hx hb dX7_season_48 rfl (lv_at hl 3 rfl) ?_
          refine lv_iconst (v := 2) hx hb dX7_season_49 (by decide) ?_
          refine lv_iload hx hb dX7_season_50 (lv_at hl 4 rfl) ?_
          refine lv_imul hx hb dX7_season_52 ?_
          have hPc := hP.sub (ws' := [(x, .inr (7, [.int 0, .int tr, .ref so, .ref sl, .ref ce, .int (nI n), .int bar, .int (nI tn), .ref ki, .ref si, .ref th, .ref ri, .int at_, .int rp, .ref rk, .ref rs, .ref kt, .ref kr, .int kn, .int rg, .ref ab, .int am, .ref bh, .int bm, .int br, .int (nI rn), .ref wa, .ref ra])), (so, .inl (cI, 4, .inl sv)), (sl, .inl (cI, 4, .inl lv))]) [0, 1, 2] rfl
          refine vp_callSi (va_Run.run (va_runV (As := [.int (nI q), .int w, .int i, .int (2 * (nI k))]) (rest := []) ⟨hx, hb, hml, hown, hts⟩ (c_X7_against l D cI cO x 0 tr so sl ce n bar tn ki si th ri at_ rp rk rs kt kr kn rg ab am bh bm br rn wa ra sv lv q w i (2 * (nI k)) (by omega)) (cwV 4 hts gX7_season_X7_against rfl rfl rfl (by decide +kernel) ⟨Nat.le_of_ble_eq_true rfl, Nat.le_of_ble_eq_true rfl⟩) (preVR hPc hK hNw (va_recv hK hPc (ci := 7) (q0 := 0) rfl rfl)) rfl rfl hl.1 rfl (lv_room (Nat.le_of_ble_eq_true rfl)) dX7_season_53 ⟨Nat.zero_le _, Nat.zero_le _⟩)) (fun r53 w53 => ?_)
          obtain rfl := w53
          refine lv_istore (lv' := [(6, .int (agI (sv q) (lv q) w i (2 * (nI k)))), (0, .ref x), (1, .int (nI q)), (2, .int w), (3, .int i), (4, .int (nI k)), (5, .int y)]) hx hb dX7_season_56 hl (by decide) rfl (fun ls hl => ?_)
          refine lv_iload hx hb dX7_season_58 (lv_at hl 0 rfl) ?_
          refine lv_if_eq (tgt := 70) hx hb dX7_season_60 (by decide) (fun c60 => ?_) (fun c60 => ?_)
          · -- t60
            obtain ⟨L, hL, eL⟩ := hom q hq4 (ag9 c60)
            have c61 := c60
            rw [eL] at c61
            obtain ⟨hs9, hsw, a0, k2, rfl, ek2, hak⟩ := ag0 hL c61
            have ek3 : 2 * k = k2 := by rw [show (2 : Int32) = nI 2 from rfl, pk_mul] at ek2; exact (nI_eq (by omega) (by omega)).mp ek2
            have ca := nI_clamp (n := a0) (by omega)
            refine lv_aload_n hx hb dX7_season_70 rfl (lv_at hl 1 rfl) ?_
            refine va_get (D := D) (ci := 7) (v := .int (nI n)) (C := RX7) (T := TX7) (N := 28) hx hb hts iX7 hown hK hP 0 rfl rfl 5 (by decide) f65 (fun _ h9 => h9) rfl dX7_season_71 ?_
            refine lv_if_ne (tgt := 80) hx hb dX7_season_74 (by decide) (fun c74 => ?_) (fun c74 => ?_)
            · -- t74
              refine lv_bipush (v := 60) hx hb dX7_season_80 (by decide) ?_
              refine lv_iload_n hx hb dX7_season_82 rfl (lv_at hl 2 rfl) ?_
              refine lv_imul hx hb dX7_season_83 ?_
              refine lv_iload_n hx hb dX7_season_84 rfl (lv_at hl 4 rfl) ?_
              refine lv_iadd hx hb dX7_season_85 ?_
              refine tp_i (y := nI (60 * q + a0)) (ix60_i _ _) ?_
              refine lv_istore (lv' := [(7, .int (nI (60 * q + a0))), (6, .int (agI (sv q) (lv q) w (nI a0) (2 * (nI k)))), (0, .ref x), (1, .int (nI q)), (2, .int w), (3, .int (nI a0)), (4, .int (nI k)), (5, .int y)]) hx hb dX7_season_86 hl (by decide) rfl (fun ls hl => ?_)
              refine lv_iconst (v := 0) hx hb dX7_season_88 (by decide) ?_
              refine lv_istore (lv' := [(8, .int 0), (7, .int (nI (60 * q + a0))), (6, .int (agI (sv q) (lv q) w (nI a0) (2 * (nI k)))), (0, .ref x), (1, .int (nI q)), (2, .int w), (3, .int (nI a0)), (4, .int (nI k)), (5, .int y)]) hx hb dX7_season_89 hl (by decide) rfl (fun ls hl => ?_)
              have lp91 : ∀ (fu91 : Nat) (t_ : Nat) (hi : t_ ≤ k) (hq : toldW cv (60 * q + a0) (k - t_) t_ = toldW cv (60 * q + a0) k 0) (hm91 : k - t_ < fu91) (H : Heap) (locs : List Loc) (hP : va_P D vwCl [(x, .inr (7, [.int 0, .int tr, .ref so, .ref sl, .ref ce, .int (nI n), .int bar, .int (nI tn), .ref ki, .ref si, .ref th, .ref ri, .int at_, .int rp, .ref rk, .ref rs, .ref kt, .ref kr, .int kn, .int rg, .ref ab, .int am, .ref bh, .int bm, .int br, .int (nI rn), .ref wa, .ref ra])), (so, .inl (cI, 4, .inl sv)), (sl, .inl (cI, 4, .inl lv)), (ce, .inl (cI, 240, .inl cv)), (ki, .inl (cI, 9, .inl kd)), (si, .inl (cI, 9, .inl sd)), (th, .inl (cI, 3, .inl ts)), (ri, .inl (cI, 3, .inl tl)), (kt, .inl (cI, 3, .inl tk)), (kr, .inl (cI, 3, .inl rq))] H) (hD : va_D A [(x, .inr (7, [.int 0, .int tr, .ref so, .ref sl, .ref ce, .int (nI n), .int bar, .int (nI tn), .ref ki, .ref si, .ref th, .ref ri, .int at_, .int rp, .ref rk, .ref rs, .ref kt, .ref kr, .int kn, .int rg, .ref ab, .int am, .ref bh, .int bm, .int br, .int (nI rn), .ref wa, .ref ra])), (so, .inl (cI, 4, .inl sv)), (sl, .inl (cI, 4, .inl lv)), (ce, .inl (cI, 240, .inl cv)), (ki, .inl (cI, 9, .inl kd)), (si, .inl (cI, 9, .inl sd)), (th, .inl (cI, 3, .inl ts)), (ri, .inl (cI, 3, .inl tl)), (kt, .inl (cI, 3, .inl tk)), (kr, .inl (cI, 3, .inl rq))]) (hS : va_S A s.heap H locs) (ls : Array Slot) (hl : lv_has ls 10 [(0, .ref x), (4, .int (nI k)), (5, .int y), (7, .int (nI (60 * q + a0))), (8, .int (nI t_))]), W p l e (headSpec wsX7_season ({ frames := 4, cells := 0, slots := 0, locals := 90 } : Room)).room s m ([.ref x, .int (nI q), .int w, .int (nI a0), .int (nI k), .int y]).toArray below meth c H locs 0 0 (MQ below (va_Qi (S := Int32 × Int32 × Int32 × (Nat → Int32) × (Nat → Int32)) (fun r u => r = (ifb (seaM n (nI q) w (sv (nI q).toNatClampNeg) (lv (nI q).toNatClampNeg) cv (nI a0) (nI k) y).2.2 (seaR y (seaPM n kd sd tn ts tl cv (nI q) (nI a0) (nI k))) (seaM n (nI q) w (sv (nI q).toNatClampNeg) (lv (nI q).toNatClampNeg) cv (nI a0) (nI k) y).1) ∧ u.1 = (seaM n (nI q) w (sv (nI q).toNatClampNeg) (lv (nI q).toNatClampNeg) cv (nI a0) (nI k) y).2.1) (fun u t => va_P D vwCl [(x, .inr (7, [.int u.1, .int tr, .ref so, .ref sl, .ref ce, .int (nI n), .int bar, .int (nI tn), .ref ki, .ref si, .ref th, .ref ri, .int at_, .int rp, .ref rk, .ref rs, .ref kt, .ref kr, .int u.2.1, .int u.2.2.1, .ref ab, .int am, .ref bh, .int bm, .int br, .int (nI rn), .ref wa, .ref ra])), (so, .inl (cI, 4, .inl sv)), (sl, .inl (cI, 4, .inl lv)), (ce, .inl (cI, 240, .inl cv)), (ki, .inl (cI, 9, .inl kd)), (si, .inl (cI, 9, .inl sd)), (th, .inl (cI, 3, .inl ts)), (ri, .inl (cI, 3, .inl tl)), (kt, .inl (cI, 3, .inl u.2.2.2.1)), (kr, .inl (cI, 3, .inl u.2.2.2.2))] t.heap ∧ va_K D vwCl (tyL cI cO) t ∧ va_D A [(x, .inr (7, [.int u.1, .int tr, .ref so, .ref sl, .ref ce, .int (nI n), .int bar, .int (nI tn), .ref ki, .ref si, .ref th, .ref ri, .int at_, .int rp, .ref rk, .ref rs, .ref kt, .ref kr, .int u.2.1, .int u.2.2.1, .ref ab, .int am, .ref bh, .int bm, .int br, .int (nI rn), .ref wa, .ref ra])), (so, .inl (cI, 4, .inl sv)), (sl, .inl (cI, 4, .inl lv)), (ce, .inl (cI, 240, .inl cv)), (ki, .inl (cI, 9, .inl kd)), (si, .inl (cI, 9, .inl sd)), (th, .inl (cI, 3, .inl ts)), (ri, .inl (cI, 3, .inl tl)), (kt, .inl (cI, 3, .inl u.2.2.2.1)), (kr, .inl (cI, 3, .inl u.2.2.2.2))]) A) ([.ref x, .int (nI q), .int w, .int (nI a0), .int (nI k), .int y]).toArray s 0 0 A) (F0 m 91 ls []) := by
                intro fu91
                induction fu91 with
                | zero =>
                  intros; omega
                | succ fu91 ih91 =>
                  intro t_ hi hq hm91 H locs hP hD hS ls hl
                  refine lv_iload hx hb dX7_season_91 (lv_at hl 4 rfl) ?_
                  refine lv_iload hx hb dX7_season_93 (lv_at hl 1 rfl) ?_
                  refine lv_icmp_ge (tgt := 164) hx hb dX7_season_95 (by decide) (fun c95 => ?_) (fun c95 => ?_)
                  · -- t95
                    have e95 : t_ = k := by have q := ge_n (by omega) (by omega) c95; omega
                    rw [e95] at hl
                    have htd : toldW cv (60 * q + a0) k 0 = true := by rw [← hq, e95, Nat.sub_self]; rfl
                    have hsc : seaM n (nI q) w (sv q) (lv q) cv (nI a0) (nI k) y = (0, 0, true) := by unfold seaM; rw [if_pos hk, if_pos hok2, if_pos c60, if_neg c74, cq, ca, ck, if_pos htd]
                    have hf9 : ∀ i, i < k → ∃ a, a ≤ 9 ∧ cv (60 * q + a0 + 2 * i) = nI a := fun i hi => tld_9 (told_f k 0 htd i (Nat.zero_le _) (by omega))
                    have hac : ∀ i, i < k → cv (60 * q + a0 + 2 * i + 1) = 0 ∨ cv (60 * q + a0 + 2 * i + 1) = 1 ∨ cv (60 * q + a0 + 2 * i + 1) = 2 ∨ cv (60 * q + a0 + 2 * i + 1) = 3 := fun i hi => tld_act (told_f k 0 htd i (Nat.zero_le _) (by omega))
                    refine lv_aload_n hx hb dX7_season_164 rfl (lv_at hl 0 rfl) ?_
                    have hPc := hP.sub (ws' := [(x, .inr (7, [.int 0, .int tr, .ref so, .ref sl, .ref ce, .int (nI n), .int bar, .int (nI tn), .ref ki, .ref si, .ref th, .ref ri, .int at_, .int rp, .ref rk, .ref rs, .ref kt, .ref kr, .int kn, .int rg, .ref ab, .int am, .ref bh, .int bm, .int br, .int (nI rn), .ref wa, .ref ra])), (th, .inl (cI, 3, .inl ts)), (ri, .inl (cI, 3, .inl tl)), (kt, .inl (cI, 3, .inl tk)), (kr, .inl (cI, 3, .inl rq))]) [0, 6, 7, 8, 9] rfl
                    have hDc := hD.sub (ws' := [(x, .inr (7, [.int 0, .int tr, .ref so, .ref sl, .ref ce, .int (nI n), .int bar, .int (nI tn), .ref ki, .ref si, .ref th, .ref ri, .int at_, .int rp, .ref rk, .ref rs, .ref kt, .ref kr, .int kn, .int rg, .ref ab, .int am, .ref bh, .int bm, .int br, .int (nI rn), .ref wa, .ref ra])), (th, .inl (cI, 3, .inl ts)), (ri, .inl (cI, 3, .inl tl)), (kt, .inl (cI, 3, .inl tk)), (kr, .inl (cI, 3, .inl rq))]) [0, 6, 7, 8, 9] (by decide) rfl
                    have hFc := va_free (wc := [(x, .inr (7, [.int 0, .int tr, .ref so, .ref sl, .ref ce, .int (nI n), .int bar, .int (nI tn), .ref ki, .ref si, .ref th, .ref ri, .int at_, .int rp, .ref rk, .ref rs, .ref kt, .ref kr, .int kn, .int rg, .ref ab, .int am, .ref bh, .int bm, .int br, .int (nI rn), .ref wa, .ref ra])), (th, .inl (cI, 3, .inl ts)), (ri, .inl (cI, 3, .inl tl)), (kt, .inl (cI, 3, .inl tk)), (kr, .inl (cI, 3, .inl rq))]) hD hS hA [0, 6, 7, 8, 9] rfl
                    refine va_callv (va_runV (As := []) (rest := []) ⟨hx, hb, hml, hown, hts⟩ (c_X7_keep l D cI cO x 0 tr so sl ce n bar tn ki si th ri at_ rp rk rs kt kr kn rg ab am bh bm br rn wa ra ts tl tk rq _) (cwV 0 hts gX7_season_X7_keep rfl rfl rfl (by decide +kernel) ⟨Nat.le_of_ble_eq_true rfl, Nat.le_of_ble_eq_true rfl⟩) (preVW hPc hK hNw hDc (va_recv hK hPc (ci := 7) (q0 := 0) rfl rfl)) rfl rfl hl.1 rfl (lv_room (Nat.le_of_ble_eq_true rfl)) dX7_season_165 ⟨Nat.zero_le _, Nat.zero_le _⟩) hS (fun q _ h => hFc q h) hFc (fun u t H1 locs ht hvm w165 hB hz1 hk1 hS => ?_)
                    obtain ⟨tk1_165, rq1_165⟩ := u
                    obtain ⟨hP1, hK1, hD1⟩ := hB
                    rw [ht] at hP1
                    try dsimp only at w165
                    obtain ⟨hP, hD⟩ := va_join (wr := [(so, .inl (cI, 4, .inl sv)), (sl, .inl (cI, 4, .inl lv)), (ce, .inl (cI, 240, .inl cv)), (ki, .inl (cI, 9, .inl kd)), (si, .inl (cI, 9, .inl sd))]) (w1 := [(x, .inr (7, [.int 0, .int tr, .ref so, .ref sl, .ref ce, .int (nI n), .int bar, .int (nI tn), .ref ki, .ref si, .ref th, .ref ri, .int at_, .int rp, .ref rk, .ref rs, .ref kt, .ref kr, .int (nI tn), .int rg, .ref ab, .int am, .ref bh, .int bm, .int br, .int (nI rn), .ref wa, .ref ra])), (th, .inl (cI, 3, .inl ts)), (ri, .inl (cI, 3, .inl tl)), (kt, .inl (cI, 3, .inl tk1_165)), (kr, .inl (cI, 3, .inl rq1_165))]) hP hD [0, 6, 7, 8, 9] [1, 2, 3, 4, 5] rfl rfl (by decide) (by decide) hk1 hFc hP1 hD1
                    generalize H1 = H at hP hS ⊢
                    have hP := hP.sub (ws' := [(x, .inr (7, [.int 0, .int tr, .ref so, .ref sl, .ref ce, .int (nI n), .int bar, .int (nI tn), .ref ki, .ref si, .ref th, .ref ri, .int at_, .int rp, .ref rk, .ref rs, .ref kt, .ref kr, .int (nI tn), .int rg, .ref ab, .int am, .ref bh, .int bm, .int br, .int (nI rn), .ref wa, .ref ra])), (so, .inl (cI, 4, .inl sv)), (sl, .inl (cI, 4, .inl lv)), (ce, .inl (cI, 240, .inl cv)), (ki, .inl (cI, 9, .inl kd)), (si, .inl (cI, 9, .inl sd)), (th, .inl (cI, 3, .inl ts)), (ri, .inl (cI, 3, .inl tl)), (kt, .inl (cI, 3, .inl tk1_165)), (kr, .inl (cI, 3, .inl rq1_165))]) [5, 0, 1, 2, 3, 4, 6, 7, 8, 9] rfl
                    have hD := hD.sub (ws' := [(x, .inr (7, [.int 0, .int tr, .ref so, .ref sl, .ref ce, .int (nI n), .int bar, .int (nI tn), .ref ki, .ref si, .ref th, .ref ri, .int at_, .int rp, .ref rk, .ref rs, .ref kt, .ref kr, .int (nI tn), .int rg, .ref ab, .int am, .ref bh, .int bm, .int br, .int (nI rn), .ref wa, .ref ra])), (so, .inl (cI, 4, .inl sv)), (sl, .inl (cI, 4, .inl lv)), (ce, .inl (cI, 240, .inl cv)), (ki, .inl (cI, 9, .inl kd)), (si, .inl (cI, 9, .inl sd)), (th, .inl (cI, 3, .inl ts)), (ri, .inl (cI, 3, .inl tl)), (kt, .inl (cI, 3, .inl tk1_165)), (kr, .inl (cI, 3, .inl rq1_165))]) [5, 0, 1, 2, 3, 4, 6, 7, 8, 9] (by decide) rfl
                    obtain ⟨rfl, rfl⟩ := w165
                    refine lv_aload_n hx hb dX7_season_168 rfl (lv_at hl 0 rfl) ?_
                    refine lv_iload hx hb dX7_season_169 (lv_at hl 3 rfl) ?_
                    refine lv_iload hx hb dX7_season_171 (lv_at hl 1 rfl) ?_
                    have hPc := hP.sub (ws' := [(x, .inr (7, [.int 0, .int tr, .ref so, .ref sl, .ref ce, .int (nI n), .int bar, .int (nI tn), .ref ki, .ref si, .ref th, .ref ri, .int at_, .int rp, .ref rk, .ref rs, .ref kt, .ref kr, .int (nI tn), .int rg, .ref ab, .int am, .ref bh, .int bm, .int br, .int (nI rn), .ref wa, .ref ra])), (ki, .inl (cI, 9, .inl kd)), (si, .inl (cI, 9, .inl sd)), (th, .inl (cI, 3, .inl ts)), (ri, .inl (cI, 3, .inl tl)), (ce, .inl (cI, 240, .inl cv))]) [0, 4, 5, 6, 7, 3] rfl
                    have hDc := hD.sub (ws' := [(x, .inr (7, [.int 0, .int tr, .ref so, .ref sl, .ref ce, .int (nI n), .int bar, .int (nI tn), .ref ki, .ref si, .ref th, .ref ri, .int at_, .int rp, .ref rk, .ref rs, .ref kt, .ref kr, .int (nI tn), .int rg, .ref ab, .int am, .ref bh, .int bm, .int br, .int (nI rn), .ref wa, .ref ra])), (ki, .inl (cI, 9, .inl kd)), (si, .inl (cI, 9, .inl sd)), (th, .inl (cI, 3, .inl ts)), (ri, .inl (cI, 3, .inl tl)), (ce, .inl (cI, 240, .inl cv))]) [0, 4, 5, 6, 7, 3] (by decide) rfl
                    have hFc := va_free (wc := [(x, .inr (7, [.int 0, .int tr, .ref so, .ref sl, .ref ce, .int (nI n), .int bar, .int (nI tn), .ref ki, .ref si, .ref th, .ref ri, .int at_, .int rp, .ref rk, .ref rs, .ref kt, .ref kr, .int (nI tn), .int rg, .ref ab, .int am, .ref bh, .int bm, .int br, .int (nI rn), .ref wa, .ref ra])), (ki, .inl (cI, 9, .inl kd)), (si, .inl (cI, 9, .inl sd)), (th, .inl (cI, 3, .inl ts)), (ri, .inl (cI, 3, .inl tl)), (ce, .inl (cI, 240, .inl cv))]) hD hS hA [0, 4, 5, 6, 7, 3] rfl
                    refine va_calli (va_runV (As := [.int (nI (60 * q + a0)), .int (nI k)]) (rest := []) ⟨hx, hb, hml, hown, hts⟩ (c_X7_goSeason l D cI cO x 0 tr so sl ce n bar tn ki si th ri at_ rp rk rs kt kr (nI tn) rg ab am bh bm br rn wa ra kd sd ts tl cv (60 * q + a0) k _ (by assumption) (by assumption) (by assumption) (by assumption) (by assumption) (hf9) (hac) (by omega)) (cwV 2 hts gX7_season_X7_goSeason rfl rfl rfl (by decide +kernel) ⟨Nat.le_of_ble_eq_true rfl, Nat.le_of_ble_eq_true rfl⟩) (preVW hPc hK hNw hDc (va_recv hK hPc (ci := 7) (q0 := 0) rfl rfl)) rfl rfl hl.1 rfl (lv_room (Nat.le_of_ble_eq_true rfl)) dX7_season_173 ⟨Nat.zero_le _, Nat.zero_le _⟩) hS (fun q _ h => hFc q h) hFc (fun r173 u t H1 locs ht hvm w173 hB hz1 hk1 hS => ?_)
                    obtain ⟨tn1_173, ts1_173, tl1_173, rg1_173⟩ := u
                    obtain ⟨hP1, hK1, hD1⟩ := hB
                    rw [ht] at hP1
                    try dsimp only at w173
                    obtain ⟨hP, hD⟩ := va_join (wr := [(so, .inl (cI, 4, .inl sv)), (sl, .inl (cI, 4, .inl lv)), (kt, .inl (cI, 3, .inl (cpF ts tk 3))), (kr, .inl (cI, 3, .inl (cpF tl rq 3)))]) (w1 := [(x, .inr (7, [.int 0, .int tr, .ref so, .ref sl, .ref ce, .int (nI n), .int bar, .int (nI tn1_173), .ref ki, .ref si, .ref th, .ref ri, .int at_, .int rp, .ref rk, .ref rs, .ref kt, .ref kr, .int (nI tn), .int rg1_173, .ref ab, .int am, .ref bh, .int bm, .int br, .int (nI rn), .ref wa, .ref ra])), (ki, .inl (cI, 9, .inl kd)), (si, .inl (cI, 9, .inl sd)), (th, .inl (cI, 3, .inl ts1_173)), (ri, .inl (cI, 3, .inl tl1_173)), (ce, .inl (cI, 240, .inl cv))]) hP hD [0, 4, 5, 6, 7, 3] [1, 2, 8, 9] rfl rfl (by decide) (by decide) hk1 hFc hP1 hD1
                    generalize H1 = H at hP hS ⊢
                    have hP := hP.sub (ws' := [(x, .inr (7, [.int 0, .int tr, .ref so, .ref sl, .ref ce, .int (nI n), .int bar, .int (nI tn1_173), .ref ki, .ref si, .ref th, .ref ri, .int at_, .int rp, .ref rk, .ref rs, .ref kt, .ref kr, .int (nI tn), .int rg1_173, .ref ab, .int am, .ref bh, .int bm, .int br, .int (nI rn), .ref wa, .ref ra])), (so, .inl (cI, 4, .inl sv)), (sl, .inl (cI, 4, .inl lv)), (ce, .inl (cI, 240, .inl cv)), (ki, .inl (cI, 9, .inl kd)), (si, .inl (cI, 9, .inl sd)), (th, .inl (cI, 3, .inl ts1_173)), (ri, .inl (cI, 3, .inl tl1_173)), (kt, .inl (cI, 3, .inl (cpF ts tk 3))), (kr, .inl (cI, 3, .inl (cpF tl rq 3)))]) [4, 0, 1, 9, 5, 6, 7, 8, 2, 3] rfl
                    have hD := hD.sub (ws' := [(x, .inr (7, [.int 0, .int tr, .ref so, .ref sl, .ref ce, .int (nI n), .int bar, .int (nI tn1_173), .ref ki, .ref si, .ref th, .ref ri, .int at_, .int rp, .ref rk, .ref rs, .ref kt, .ref kr, .int (nI tn), .int rg1_173, .ref ab, .int am, .ref bh, .int bm, .int br, .int (nI rn), .ref wa, .ref ra])), (so, .inl (cI, 4, .inl sv)), (sl, .inl (cI, 4, .inl lv)), (ce, .inl (cI, 240, .inl cv)), (ki, .inl (cI, 9, .inl kd)), (si, .inl (cI, 9, .inl sd)), (th, .inl (cI, 3, .inl ts1_173)), (ri, .inl (cI, 3, .inl tl1_173)), (kt, .inl (cI, 3, .inl (cpF ts tk 3))), (kr, .inl (cI, 3, .inl (cpF tl rq 3)))]) [4, 0, 1, 9, 5, 6, 7, 8, 2, 3] (by decide) rfl
                    obtain ⟨rfl, rfl, rfl, rfl, rfl⟩ := w173
                    have hz3 := plW_le n kd sd cv (60 * q + a0) k 0 (tn, ts, tl, 0)
                    have hsz : seaPM n kd sd tn ts tl cv (nI q) (nI a0) (nI k) = plW n kd sd cv (60 * q + a0) k 0 (tn, ts, tl, 0) := by unfold seaPM; rw [cq, ca, ck]
                    generalize plW n kd sd cv (60 * q + a0) k 0 (tn, ts, tl, 0) = zz at hP hD hz3 hsz ⊢
                    have hz3 : zz.2.1 ≤ 3 := Nat.le_trans hz3 ht3
                    refine lv_istore (lv' := [(8, .int zz.1), (0, .ref x), (4, .int (nI k)), (5, .int y), (7, .int (nI (60 * q + a0)))]) hx hb dX7_season_176 hl (by decide) rfl (fun ls hl => ?_)
                    refine lv_aload_n hx hb dX7_season_178 rfl (lv_at hl 1 rfl) ?_
                    refine lv_iload hx hb dX7_season_179 (lv_at hl 3 rfl) ?_
                    have hPc := hP.sub (ws' := [(x, .inr (7, [.int 0, .int tr, .ref so, .ref sl, .ref ce, .int (nI n), .int bar, .int (nI zz.2.1), .ref ki, .ref si, .ref th, .ref ri, .int at_, .int rp, .ref rk, .ref rs, .ref kt, .ref kr, .int (nI tn), .int zz.2.2.2.2, .ref ab, .int am, .ref bh, .int bm, .int br, .int (nI rn), .ref wa, .ref ra])), (th, .inl (cI, 3, .inl zz.2.2.1)), (ri, .inl (cI, 3, .inl zz.2.2.2.1))]) [0, 6, 7] rfl
                    refine vp_callSi (va_Run.run (va_runV (As := [.int y]) (rest := []) ⟨hx, hb, hml, hown, hts⟩ (c_X7_tellSeason l D cI cO x 0 tr so sl ce n bar zz.2.1 ki si th ri at_ rp rk rs kt kr (nI tn) zz.2.2.2.2 ab am bh bm br rn wa ra zz.2.2.1 zz.2.2.2.1 y (hz3)) (cwV 1 hts gX7_season_X7_tellSeason rfl rfl rfl (by decide +kernel) ⟨Nat.le_of_ble_eq_true rfl, Nat.le_of_ble_eq_true rfl⟩) (preVR hPc hK hNw (va_recv hK hPc (ci := 7) (q0 := 0) rfl rfl)) rfl rfl hl.1 rfl (lv_room (Nat.le_of_ble_eq_true rfl)) dX7_season_181 ⟨Nat.zero_le _, Nat.zero_le _⟩)) (fun r181 w181 => ?_)
                    obtain rfl := w181
                    refine lv_istore (lv' := [(9, .int (if y = 0 then cntW zz.2.2.2.1 zz.2.1 else if y = 2 then zz.2.2.2.2 else if y = 3 then orW zz.2.2.1 zz.2.1 else addW zz.2.2.2.1 zz.2.1)), (8, .int zz.1), (0, .ref x), (4, .int (nI k)), (5, .int y), (7, .int (nI (60 * q + a0)))]) hx hb dX7_season_184 hl (by decide) rfl (fun ls hl => ?_)
                    refine lv_aload_n hx hb dX7_season_186 rfl (lv_at hl 2 rfl) ?_
                    have hPc := hP.sub (ws' := [(x, .inr (7, [.int 0, .int tr, .ref so, .ref sl, .ref ce, .int (nI n), .int bar, .int (nI zz.2.1), .ref ki, .ref si, .ref th, .ref ri, .int at_, .int rp, .ref rk, .ref rs, .ref kt, .ref kr, .int (nI tn), .int zz.2.2.2.2, .ref ab, .int am, .ref bh, .int bm, .int br, .int (nI rn), .ref wa, .ref ra])), (th, .inl (cI, 3, .inl zz.2.2.1)), (ri, .inl (cI, 3, .inl zz.2.2.2.1)), (kt, .inl (cI, 3, .inl (cpF ts tk 3))), (kr, .inl (cI, 3, .inl (cpF tl rq 3)))]) [0, 6, 7, 8, 9] rfl
                    have hDc := hD.sub (ws' := [(x, .inr (7, [.int 0, .int tr, .ref so, .ref sl, .ref ce, .int (nI n), .int bar, .int (nI zz.2.1), .ref ki, .ref si, .ref th, .ref ri, .int at_, .int rp, .ref rk, .ref rs, .ref kt, .ref kr, .int (nI tn), .int zz.2.2.2.2, .ref ab, .int am, .ref bh, .int bm, .int br, .int (nI rn), .ref wa, .ref ra])), (th, .inl (cI, 3, .inl zz.2.2.1)), (ri, .inl (cI, 3, .inl zz.2.2.2.1)), (kt, .inl (cI, 3, .inl (cpF ts tk 3))), (kr, .inl (cI, 3, .inl (cpF tl rq 3)))]) [0, 6, 7, 8, 9] (by decide) rfl
                    have hFc := va_free (wc := [(x, .inr (7, [.int 0, .int tr, .ref so, .ref sl, .ref ce, .int (nI n), .int bar, .int (nI zz.2.1), .ref ki, .ref si, .ref th, .ref ri, .int at_, .int rp, .ref rk, .ref rs, .ref kt, .ref kr, .int (nI tn), .int zz.2.2.2.2, .ref ab, .int am, .ref bh, .int bm, .int br, .int (nI rn), .ref wa, .ref ra])), (th, .inl (cI, 3, .inl zz.2.2.1)), (ri, .inl (cI, 3, .inl zz.2.2.2.1)), (kt, .inl (cI, 3, .inl (cpF ts tk 3))), (kr, .inl (cI, 3, .inl (cpF tl rq 3)))]) hD hS hA [0, 6, 7, 8, 9] rfl
                    refine va_callv (va_runV (As := []) (rest := []) ⟨hx, hb, hml, hown, hts⟩ (c_X7_putBack l D cI cO x 0 tr so sl ce n bar zz.2.1 ki si th ri at_ rp rk rs kt kr zz.2.2.2.2 ab am bh bm br rn wa ra tn zz.2.2.1 zz.2.2.2.1 (cpF ts tk 3) (cpF tl rq 3) _) (cwV 0 hts gX7_season_X7_putBack rfl rfl rfl (by decide +kernel) ⟨Nat.le_of_ble_eq_true rfl, Nat.le_of_ble_eq_true rfl⟩) (preVW hPc hK hNw hDc (va_recv hK hPc (ci := 7) (q0 := 0) rfl rfl)) rfl rfl hl.1 rfl (lv_room (Nat.le_of_ble_eq_true rfl)) dX7_season_187 ⟨Nat.zero_le _, Nat.zero_le _⟩) hS (fun q _ h => hFc q h) hFc (fun u t H1 locs ht hvm w187 hB hz1 hk1 hS => ?_)
                    obtain ⟨ts1_187, tl1_187⟩ := u
                    obtain ⟨hP1, hK1, hD1⟩ := hB
                    rw [ht] at hP1
                    try dsimp only at w187
                    obtain ⟨hP, hD⟩ := va_join (wr := [(so, .inl (cI, 4, .inl sv)), (sl, .inl (cI, 4, .inl lv)), (ce, .inl (cI, 240, .inl cv)), (ki, .inl (cI, 9, .inl kd)), (si, .inl (cI, 9, .inl sd))]) (w1 := [(x, .inr (7, [.int 0, .int tr, .ref so, .ref sl, .ref ce, .int (nI n), .int bar, .int (nI tn), .ref ki, .ref si, .ref th, .ref ri, .int at_, .int rp, .ref rk, .ref rs, .ref kt, .ref kr, .int (nI tn), .int zz.2.2.2.2, .ref ab, .int am, .ref bh, .int bm, .int br, .int (nI rn), .ref wa, .ref ra])), (th, .inl (cI, 3, .inl ts1_187)), (ri, .inl (cI, 3, .inl tl1_187)), (kt, .inl (cI, 3, .inl (cpF ts tk 3))), (kr, .inl (cI, 3, .inl (cpF tl rq 3)))]) hP hD [0, 6, 7, 8, 9] [1, 2, 3, 4, 5] rfl rfl (by decide) (by decide) hk1 hFc hP1 hD1
                    generalize H1 = H at hP hS ⊢
                    have hP := hP.sub (ws' := [(x, .inr (7, [.int 0, .int tr, .ref so, .ref sl, .ref ce, .int (nI n), .int bar, .int (nI tn), .ref ki, .ref si, .ref th, .ref ri, .int at_, .int rp, .ref rk, .ref rs, .ref kt, .ref kr, .int (nI tn), .int zz.2.2.2.2, .ref ab, .int am, .ref bh, .int bm, .int br, .int (nI rn), .ref wa, .ref ra])), (so, .inl (cI, 4, .inl sv)), (sl, .inl (cI, 4, .inl lv)), (ce, .inl (cI, 240, .inl cv)), (ki, .inl (cI, 9, .inl kd)), (si, .inl (cI, 9, .inl sd)), (th, .inl (cI, 3, .inl ts1_187)), (ri, .inl (cI, 3, .inl tl1_187)), (kt, .inl (cI, 3, .inl (cpF ts tk 3))), (kr, .inl (cI, 3, .inl (cpF tl rq 3)))]) [5, 0, 1, 2, 3, 4, 6, 7, 8, 9] rfl
                    have hD := hD.sub (ws' := [(x, .inr (7, [.int 0, .int tr, .ref so, .ref sl, .ref ce, .int (nI n), .int bar, .int (nI tn), .ref ki, .ref si, .ref th, .ref ri, .int at_, .int rp, .ref rk, .ref rs, .ref kt, .ref kr, .int (nI tn), .int zz.2.2.2.2, .ref ab, .int am, .ref bh, .int bm, .int br, .int (nI rn), .ref wa, .ref ra])), (so, .inl (cI, 4, .inl sv)), (sl, .inl (cI, 4, .inl lv)), (ce, .inl (cI, 240, .inl cv)), (ki, .inl (cI, 9, .inl kd)), (si, .inl (cI, 9, .inl sd)), (th, .inl (cI, 3, .inl ts1_187)), (ri, .inl (cI, 3, .inl tl1_187)), (kt, .inl (cI, 3, .inl (cpF ts tk 3))), (kr, .inl (cI, 3, .inl (cpF tl rq 3)))]) [5, 0, 1, 2, 3, 4, 6, 7, 8, 9] (by decide) rfl
                    obtain ⟨rfl, rfl⟩ := w187
                    have hP := va_cg (g := ts) (k := 6) hP rfl (fun j hj => by unfold cpF; rw [if_pos hj, if_pos hj])
                    have hD := hD.set (p := 6) (e := .inl (cI, 3, .inl ts)) rfl
                    have hP : va_P D vwCl [(x, .inr (7, [.int 0, .int tr, .ref so, .ref sl, .ref ce, .int (nI n), .int bar, .int (nI tn), .ref ki, .ref si, .ref th, .ref ri, .int at_, .int rp, .ref rk, .ref rs, .ref kt, .ref kr, .int (nI tn), .int zz.2.2.2.2, .ref ab, .int am, .ref bh, .int bm, .int br, .int (nI rn), .ref wa, .ref ra])), (so, .inl (cI, 4, .inl sv)), (sl, .inl (cI, 4, .inl lv)), (ce, .inl (cI, 240, .inl cv)), (ki, .inl (cI, 9, .inl kd)), (si, .inl (cI, 9, .inl sd)), (th, .inl (cI, 3, .inl ts)), (ri, .inl (cI, 3, .inl (cpF (cpF tl rq 3) zz.2.2.2.1 3))), (kt, .inl (cI, 3, .inl (cpF ts tk 3))), (kr, .inl (cI, 3, .inl (cpF tl rq 3)))] H := hP
                    have hD : va_D A [(x, .inr (7, [.int 0, .int tr, .ref so, .ref sl, .ref ce, .int (nI n), .int bar, .int (nI tn), .ref ki, .ref si, .ref th, .ref ri, .int at_, .int rp, .ref rk, .ref rs, .ref kt, .ref kr, .int (nI tn), .int zz.2.2.2.2, .ref ab, .int am, .ref bh, .int bm, .int br, .int (nI rn), .ref wa, .ref ra])), (so, .inl (cI, 4, .inl sv)), (sl, .inl (cI, 4, .inl lv)), (ce, .inl (cI, 240, .inl cv)), (ki, .inl (cI, 9, .inl kd)), (si, .inl (cI, 9, .inl sd)), (th, .inl (cI, 3, .inl ts)), (ri, .inl (cI, 3, .inl (cpF (cpF tl rq 3) zz.2.2.2.1 3))), (kt, .inl (cI, 3, .inl (cpF ts tk 3))), (kr, .inl (cI, 3, .inl (cpF tl rq 3)))] := hD
                    have hP := va_cg (g := tl) (k := 7) hP rfl (fun j hj => by unfold cpF; rw [if_pos hj, if_pos hj])
                    have hD := hD.set (p := 7) (e := .inl (cI, 3, .inl tl)) rfl
                    have hP : va_P D vwCl [(x, .inr (7, [.int 0, .int tr, .ref so, .ref sl, .ref ce, .int (nI n), .int bar, .int (nI tn), .ref ki, .ref si, .ref th, .ref ri, .int at_, .int rp, .ref rk, .ref rs, .ref kt, .ref kr, .int (nI tn), .int zz.2.2.2.2, .ref ab, .int am, .ref bh, .int bm, .int br, .int (nI rn), .ref wa, .ref ra])), (so, .inl (cI, 4, .inl sv)), (sl, .inl (cI, 4, .inl lv)), (ce, .inl (cI, 240, .inl cv)), (ki, .inl (cI, 9, .inl kd)), (si, .inl (cI, 9, .inl sd)), (th, .inl (cI, 3, .inl ts)), (ri, .inl (cI, 3, .inl tl)), (kt, .inl (cI, 3, .inl (cpF ts tk 3))), (kr, .inl (cI, 3, .inl (cpF tl rq 3)))] H := hP
                    have hD : va_D A [(x, .inr (7, [.int 0, .int tr, .ref so, .ref sl, .ref ce, .int (nI n), .int bar, .int (nI tn), .ref ki, .ref si, .ref th, .ref ri, .int at_, .int rp, .ref rk, .ref rs, .ref kt, .ref kr, .int (nI tn), .int zz.2.2.2.2, .ref ab, .int am, .ref bh, .int bm, .int br, .int (nI rn), .ref wa, .ref ra])), (so, .inl (cI, 4, .inl sv)), (sl, .inl (cI, 4, .inl lv)), (ce, .inl (cI, 240, .inl cv)), (ki, .inl (cI, 9, .inl kd)), (si, .inl (cI, 9, .inl sd)), (th, .inl (cI, 3, .inl ts)), (ri, .inl (cI, 3, .inl tl)), (kt, .inl (cI, 3, .inl (cpF ts tk 3))), (kr, .inl (cI, 3, .inl (cpF tl rq 3)))] := hD
                    refine lv_iload hx hb dX7_season_190 (lv_at hl 4 rfl) ?_
                    refine lv_iconst (v := 1) hx hb dX7_season_192 (by decide) ?_
                    refine lv_icmp_ne (tgt := 201) hx hb dX7_season_193 (by decide) (fun c193 => ?_) (fun c193 => ?_)
                    · -- t193
                      refine lv_iload hx hb dX7_season_201 (lv_at hl 1 rfl) ?_
                      refine lv_bipush (v := -9) hx hb dX7_season_203 (by decide) ?_
                      refine lv_icmp_ne (tgt := 213) hx hb dX7_season_205 (by decide) (fun c205 => ?_) (fun c205 => ?_)
                      · -- t205
                        refine lv_bipush (v := -100) hx hb dX7_season_213 (by decide) ?_
                        refine lv_iload hx hb dX7_season_215 (lv_at hl 1 rfl) ?_
                        refine lv_isub hx hb dX7_season_217 ?_
                        exact W.iret (v := (-100) - zz.1) hx hb hr (fun t ht hW => ⟨⟨_, (0, nI tn, zz.2.2.2.2, (cpF ts tk 3), (cpF tl rq 3)), rfl, by rw [cq, hsc, hsz]; simp [ifb, seaR, *], by rw [ht]; exact hP, va_K.moved hW.alike hK, hD⟩, hS.F ht⟩) hS.2.2 dX7_season_218
                      · -- f205
                        refine lv_iload hx hb dX7_season_208 (lv_at hl 0 rfl) ?_
                        refine lv_goto (tgt := 218) hx hb dX7_season_210 (by decide) ?_
                        exact W.iret (v := if y = 0 then cntW zz.2.2.2.1 zz.2.1 else if y = 2 then zz.2.2.2.2 else if y = 3 then orW zz.2.2.1 zz.2.1 else addW zz.2.2.2.1 zz.2.1) hx hb hr (fun t ht hW => ⟨⟨_, (0, nI tn, zz.2.2.2.2, (cpF ts tk 3), (cpF tl rq 3)), rfl, by rw [cq, hsc, hsz]; simp [ifb, seaR, *], by rw [ht]; exact hP, va_K.moved hW.alike hK, hD⟩, hS.F ht⟩) hS.2.2 dX7_season_218
                    · -- f193
                      refine lv_iload hx hb dX7_season_196 (lv_at hl 1 rfl) ?_
                      refine lv_goto (tgt := 218) hx hb dX7_season_198 (by decide) ?_
                      exact W.iret (v := zz.1) hx hb hr (fun t ht hW => ⟨⟨_, (0, nI tn, zz.2.2.2.2, (cpF ts tk 3), (cpF tl rq 3)), rfl, by rw [cq, hsc, hsz]; simp [ifb, seaR, *], by rw [ht]; exact hP, va_K.moved hW.alike hK, hD⟩, hS.F ht⟩) hS.2.2 dX7_season_218
                  · -- f95
                    have l95 : t_ < k := lt_n (by omega) (by omega) c95
                    refine lv_aload_n hx hb dX7_season_98 rfl (lv_at hl 0 rfl) ?_
                    refine va_get (D := D) (ci := 7) (v := .ref ce) (C := RX7) (T := TX7) (N := 28) hx hb hts iX7 hown hK hP 0 rfl rfl 4 (by decide) f16 (fun _ h9 => h9) rfl dX7_season_99 ?_
                    refine lv_iload hx hb dX7_season_102 (lv_at hl 3 rfl) ?_
                    refine lv_iconst (v := 2) hx hb dX7_season_104 (by decide) ?_
                    refine lv_iload hx hb dX7_season_105 (lv_at hl 4 rfl) ?_
                    refine lv_imul hx hb dX7_season_107 ?_
                    refine lv_iadd hx hb dX7_season_108 ?_
                    refine lv_iconst (v := 1) hx hb dX7_season_109 (by decide) ?_
                    refine lv_iadd hx hb dX7_season_110 ?_
                    refine tp_i (y := nI (60 * q + a0 + 2 * t_ + 1)) (ix21 _ _) ?_
                    refine va_iald hx hb hK hP 3 0 rfl rfl (vp_in_nI (by omega) (by decide)) dX7_season_111 ?_
                    refine tp_i (y := cv (60 * q + a0 + 2 * t_ + 1)) (by rw [nI_clamp (n := (60 * q + a0 + 2 * t_ + 1)) (by omega)]) ?_
                    refine lv_istore (lv' := [(9, .int (cv (60 * q + a0 + 2 * t_ + 1))), (0, .ref x), (4, .int (nI k)), (5, .int y), (7, .int (nI (60 * q + a0))), (8, .int (nI t_))]) hx hb dX7_season_112 hl (by decide) rfl (fun ls hl => ?_)
                    refine lv_iload hx hb dX7_season_114 (lv_at hl 0 rfl) ?_
                    refine lv_iconst (v := 0) hx hb dX7_season_116 (by decide) ?_
                    refine lv_iconst (v := 3) hx hb dX7_season_117 (by decide) ?_
                    have hPc := hP.sub (ws' := []) [] rfl
                    refine vp_callSi (va_Run.run (va_runS (As := [.int (cv (60 * q + a0 + 2 * t_ + 1)), .int 0, .int 3]) (rest := []) ⟨hx, hb, hml, hown, hts⟩ (c_X7_within l D cI cO (cv (60 * q + a0 + 2 * t_ + 1)) 0 3) (va_cwS 3 hts gX7_season_X7_within rfl rfl rfl (by decide +kernel) ⟨Nat.le_of_ble_eq_true rfl, Nat.le_of_ble_eq_true rfl⟩) (preSR hPc hK hNw) rfl rfl hl.1 rfl (lv_room (Nat.le_of_ble_eq_true rfl)) dX7_season_118 ⟨Nat.zero_le _, Nat.zero_le _⟩)) (fun r118 w118 => ?_)
                    by_cases b118 : lstT (cv (60 * q + a0 + 2 * t_ + 1)) 0 3 = true
                    · -- y118
                      obtain rfl := w118.1 b118
                      refine lv_if_eq (tgt := 155) hx hb dX7_season_121 (by decide) (fun h => absurd h (by decide)) (fun _ => ?_)
                      refine lv_aload_n hx hb dX7_season_124 rfl (lv_at hl 1 rfl) ?_
                      refine va_get (D := D) (ci := 7) (v := .ref ce) (C := RX7) (T := TX7) (N := 28) hx hb hts iX7 hown hK hP 0 rfl rfl 4 (by decide) f16 (fun _ h9 => h9) rfl dX7_season_125 ?_
                      refine lv_iload hx hb dX7_season_128 (lv_at hl 4 rfl) ?_
                      refine lv_iconst (v := 2) hx hb dX7_season_130 (by decide) ?_
                      refine lv_iload hx hb dX7_season_131 (lv_at hl 5 rfl) ?_
                      refine lv_imul hx hb dX7_season_133 ?_
                      refine lv_iadd hx hb dX7_season_134 ?_
                      refine tp_i (y := nI (60 * q + a0 + 2 * t_)) (ix2 _ _) ?_
                      refine va_iald hx hb hK hP 3 0 rfl rfl (vp_in_nI (by omega) (by decide)) dX7_season_135 ?_
                      refine tp_i (y := cv (60 * q + a0 + 2 * t_)) (by rw [nI_clamp (n := (60 * q + a0 + 2 * t_)) (by omega)]) ?_
                      refine lv_iconst (v := 0) hx hb dX7_season_136 (by decide) ?_
                      refine lv_iload hx hb dX7_season_137 (lv_at hl 0 rfl) ?_
                      refine lv_iconst (v := 2) hx hb dX7_season_139 (by decide) ?_
                      refine lv_icmp_ne (tgt := 148) hx hb dX7_season_140 (by decide) (fun c140 => ?_) (fun c140 => ?_)
                      · -- t140
                        refine lv_iconst (v := 2) hx hb dX7_season_148 (by decide) ?_
                        have hPc := hP.sub (ws' := []) [] rfl
                        refine vp_callSi (va_Run.run (va_runS (As := [.int (cv (60 * q + a0 + 2 * t_)), .int 0, .int 2]) (rest := []) ⟨hx, hb, hml, hown, hts⟩ (c_X7_within l D cI cO (cv (60 * q + a0 + 2 * t_)) 0 2) (va_cwS 3 hts gX7_season_X7_within rfl rfl rfl (by decide +kernel) ⟨Nat.le_of_ble_eq_true rfl, Nat.le_of_ble_eq_true rfl⟩) (preSR hPc hK hNw) rfl rfl hl.1 rfl (lv_room (Nat.le_of_ble_eq_true rfl)) dX7_season_149 ⟨Nat.zero_le _, Nat.zero_le _⟩)) (fun r149 w149 => ?_)
                        by_cases b149 : lstT (cv (60 * q + a0 + 2 * t_)) 0 2 = true
                        · -- y149
                          obtain rfl := w149.1 b149
                          refine lv_if_ne (tgt := 158) hx hb dX7_season_152 (by decide) (fun _ => ?_) (fun h => absurd h (by decide))
                          refine lv_iinc (v := nI (t_ + 1)) (lv' := [(8, .int (nI (t_ + 1))), (9, .int (cv (60 * q + a0 + 2 * t_ + 1))), (0, .ref x), (4, .int (nI k)), (5, .int y), (7, .int (nI (60 * q + a0)))]) hx hb dX7_season_158 hl (k := 5) rfl (nI_1 _) (by decide) rfl (fun ls hl => ?_)
                          refine lv_goto (tgt := 91) hx hb dX7_season_161 (by decide) ?_
                          exact ih91 (t_ + 1) (by omega) (by rw [← hq, show k - t_ = (k - (t_ + 1)) + 1 by omega, toldW, if_pos (by have q1 := of_decide_eq_true b118; have q2 := lst_in b149; exact decide_eq_true ⟨q1.1, q1.2, q2.1, by first | (rw [if_pos c140]; exact q2.2) | (rw [if_neg c140]; exact q2.2)⟩)]) (by omega) _ _ hP hD hS _ (lv_sub hl [2, 3, 4, 5, 0] rfl)
                        · -- n149
                          obtain rfl := w149.2 b149
                          refine lv_if_ne (tgt := 158) hx hb dX7_season_152 (by decide) (fun h => absurd (by decide) h) (fun _ => ?_)
                          refine lv_bipush (v := -2) hx hb dX7_season_155 (by decide) ?_
                          exact W.iret (v := -2) hx hb hr (fun t ht hW => ⟨⟨_, (0, kn, rg, tk, rq), rfl, by rw [cq]; rw [show seaM n (nI q) w (sv q) (lv q) cv (nI a0) (nI k) y = (-2, 0, false) from by unfold seaM; rw [if_pos hk, if_pos hok2, if_pos c60, if_neg c74, cq, ca, ck, if_neg (by rw [← hq, show k - t_ = (k - (t_ + 1)) + 1 by omega, toldW, if_neg (fun z => by have z := of_decide_eq_true z; first | exact b118 (decide_eq_true ⟨z.1, z.2.1⟩) | exact b149 (decide_eq_true ⟨z.2.2.1, fun zz => le_nlt (by have z4 := z.2.2.2; first | (rw [if_pos c140] at z4; exact z4) | (rw [if_neg c140] at z4; exact z4)) zz⟩))]; decide)]]; exact ⟨rfl, rfl⟩, by rw [ht]; exact hP, va_K.moved hW.alike hK, hD⟩, hS.F ht⟩) hS.2.2 dX7_season_157
                      · -- f140
                        refine lv_bipush (v := 9) hx hb dX7_season_143 (by decide) ?_
                        refine lv_goto (tgt := 149) hx hb dX7_season_145 (by decide) ?_
                        have hPc := hP.sub (ws' := []) [] rfl
                        refine vp_callSi (va_Run.run (va_runS (As := [.int (cv (60 * q + a0 + 2 * t_)), .int 0, .int 9]) (rest := []) ⟨hx, hb, hml, hown, hts⟩ (c_X7_within l D cI cO (cv (60 * q + a0 + 2 * t_)) 0 9) (va_cwS 3 hts gX7_season_X7_within rfl rfl rfl (by decide +kernel) ⟨Nat.le_of_ble_eq_true rfl, Nat.le_of_ble_eq_true rfl⟩) (preSR hPc hK hNw) rfl rfl hl.1 rfl (lv_room (Nat.le_of_ble_eq_true rfl)) dX7_season_149 ⟨Nat.zero_le _, Nat.zero_le _⟩)) (fun r149 w149 => ?_)
                        by_cases b149 : lstT (cv (60 * q + a0 + 2 * t_)) 0 9 = true
                        · -- y149
                          obtain rfl := w149.1 b149
                          refine lv_if_ne (tgt := 158) hx hb dX7_season_152 (by decide) (fun _ => ?_) (fun h => absurd h (by decide))
                          refine lv_iinc (v := nI (t_ + 1)) (lv' := [(8, .int (nI (t_ + 1))), (9, .int (cv (60 * q + a0 + 2 * t_ + 1))), (0, .ref x), (4, .int (nI k)), (5, .int y), (7, .int (nI (60 * q + a0)))]) hx hb dX7_season_158 hl (k := 5) rfl (nI_1 _) (by decide) rfl (fun ls hl => ?_)
                          refine lv_goto (tgt := 91) hx hb dX7_season_161 (by decide) ?_
                          exact ih91 (t_ + 1) (by omega) (by rw [← hq, show k - t_ = (k - (t_ + 1)) + 1 by omega, toldW, if_pos (by have q1 := of_decide_eq_true b118; have q2 := lst_in b149; exact decide_eq_true ⟨q1.1, q1.2, q2.1, by first | (rw [if_pos c140]; exact q2.2) | (rw [if_neg c140]; exact q2.2)⟩)]) (by omega) _ _ hP hD hS _ (lv_sub hl [2, 3, 4, 5, 0] rfl)
                        · -- n149
                          obtain rfl := w149.2 b149
                          refine lv_if_ne (tgt := 158) hx hb dX7_season_152 (by decide) (fun h => absurd (by decide) h) (fun _ => ?_)
                          refine lv_bipush (v := -2) hx hb dX7_season_155 (by decide) ?_
                          exact W.iret (v := -2) hx hb hr (fun t ht hW => ⟨⟨_, (0, kn, rg, tk, rq), rfl, by rw [cq]; rw [show seaM n (nI q) w (sv q) (lv q) cv (nI a0) (nI k) y = (-2, 0, false) from by unfold seaM; rw [if_pos hk, if_pos hok2, if_pos c60, if_neg c74, cq, ca, ck, if_neg (by rw [← hq, show k - t_ = (k - (t_ + 1)) + 1 by omega, toldW, if_neg (fun z => by have z := of_decide_eq_true z; first | exact b118 (decide_eq_true ⟨z.1, z.2.1⟩) | exact b149 (decide_eq_true ⟨z.2.2.1, fun zz => le_nlt (by have z4 := z.2.2.2; first | (rw [if_pos c140] at z4; exact z4) | (rw [if_neg c140] at z4; exact z4)) zz⟩))]; decide)]]; exact ⟨rfl, rfl⟩, by rw [ht]; exact hP, va_K.moved hW.alike hK, hD⟩, hS.F ht⟩) hS.2.2 dX7_season_157
                    · -- n118
                      obtain rfl := w118.2 b118
                      refine lv_if_eq (tgt := 155) hx hb dX7_season_121 (by decide) (fun _ => ?_) (fun h => absurd (by decide) h)
                      refine lv_bipush (v := -2) hx hb dX7_season_155 (by decide) ?_
                      exact W.iret (v := -2) hx hb hr (fun t ht hW => ⟨⟨_, (0, kn, rg, tk, rq), rfl, by rw [cq]; rw [show seaM n (nI q) w (sv q) (lv q) cv (nI a0) (nI k) y = (-2, 0, false) from by unfold seaM; rw [if_pos hk, if_pos hok2, if_pos c60, if_neg c74, cq, ca, ck, if_neg (by rw [← hq, show k - t_ = (k - (t_ + 1)) + 1 by omega, toldW, if_neg (fun z => by have z := of_decide_eq_true z; first | exact b118 (decide_eq_true ⟨z.1, z.2.1⟩) | exact b149 (decide_eq_true ⟨z.2.2.1, fun zz => le_nlt (by have z4 := z.2.2.2; first | (rw [if_pos c140] at z4; exact z4) | (rw [if_neg c140] at z4; exact z4)) zz⟩))]; decide)]]; exact ⟨rfl, rfl⟩, by rw [ht]; exact hP, va_K.moved hW.alike hK, hD⟩, hS.F ht⟩) hS.2.2 dX7_season_157
              exact lp91 _ 0 (Nat.zero_le _) (rfl) (Nat.lt_succ_self _) _ _ hP hD hS _ (lv_sub hl [3, 7, 8, 1, 0] rfl)
            · -- f74
              refine lv_bipush (v := -3) hx hb dX7_season_77 (by decide) ?_
              exact W.iret (v := -3) hx hb hr (fun t ht hW => ⟨⟨_, (0, kn, rg, tk, rq), rfl, by rw [cq]; rw [show seaM n (nI q) w (sv q) (lv q) cv (nI a0) (nI k) y = (-3, 0, false) from by unfold seaM; rw [if_pos hk, if_pos hok2, if_pos c60, if_pos c74]]; exact ⟨rfl, rfl⟩, by rw [ht]; exact hP, va_K.moved hW.alike hK, hD⟩, hS.F ht⟩) hS.2.2 dX7_season_79
          · -- f60
            refine lv_aload_n hx hb dX7_season_63 rfl (lv_at hl 1 rfl) ?_
            refine lv_iload hx hb dX7_season_64 (lv_at hl 0 rfl) ?_
            have hPc := hP.sub (ws' := [(x, .inr (7, [.int 0, .int tr, .ref so, .ref sl, .ref ce, .int (nI n), .int bar, .int (nI tn), .ref ki, .ref si, .ref th, .ref ri, .int at_, .int rp, .ref rk, .ref rs, .ref kt, .ref kr, .int kn, .int rg, .ref ab, .int am, .ref bh, .int bm, .int br, .int (nI rn), .ref wa, .ref ra]))]) [0] rfl
            have hDc := hD.sub (ws' := [(x, .inr (7, [.int 0, .int tr, .ref so, .ref sl, .ref ce, .int (nI n), .int bar, .int (nI tn), .ref ki, .ref si, .ref th, .ref ri, .int at_, .int rp, .ref rk, .ref rs, .ref kt, .ref kr, .int kn, .int rg, .ref ab, .int am, .ref bh, .int bm, .int br, .int (nI rn), .ref wa, .ref ra]))]) [0] (by decide) rfl
            have hFc := va_free (wc := [(x, .inr (7, [.int 0, .int tr, .ref so, .ref sl, .ref ce, .int (nI n), .int bar, .int (nI tn), .ref ki, .ref si, .ref th, .ref ri, .int at_, .int rp, .ref rk, .ref rs, .ref kt, .ref kr, .int kn, .int rg, .ref ab, .int am, .ref bh, .int bm, .int br, .int (nI rn), .ref wa, .ref ra]))]) hD hS hA [0] rfl
            refine va_calli (va_runV (As := [.int (agI (sv q) (lv q) w i (2 * (nI k)))]) (rest := []) ⟨hx, hb, hml, hown, hts⟩ (c_X7_fails l D cI cO x 0 tr so sl ce n bar tn ki si th ri at_ rp rk rs kt kr kn rg ab am bh bm br rn wa ra (agI (sv q) (lv q) w i (2 * (nI k))) _) (cwV 1 hts gX7_season_X7_fails rfl rfl rfl (by decide +kernel) ⟨Nat.le_of_ble_eq_true rfl, Nat.le_of_ble_eq_true rfl⟩) (preVW hPc hK hNw hDc (va_recv hK hPc (ci := 7) (q0 := 0) rfl rfl)) rfl rfl hl.1 rfl (lv_room (Nat.le_of_ble_eq_true rfl)) dX7_season_66 ⟨Nat.zero_le _, Nat.zero_le _⟩) hS (fun q _ h => hFc q h) hFc (fun r66 u t H1 locs ht hvm w66 hB hz1 hk1 hS => ?_)
            obtain ⟨hP1, hK1, hD1⟩ := hB
            rw [ht] at hP1
            try dsimp only at w66
            obtain ⟨hP, hD⟩ := va_join (wr := [(so, .inl (cI, 4, .inl sv)), (sl, .inl (cI, 4, .inl lv)), (ce, .inl (cI, 240, .inl cv)), (ki, .inl (cI, 9, .inl kd)), (si, .inl (cI, 9, .inl sd)), (th, .inl (cI, 3, .inl ts)), (ri, .inl (cI, 3, .inl tl)), (kt, .inl (cI, 3, .inl tk)), (kr, .inl (cI, 3, .inl rq))]) (w1 := [(x, .inr (7, [.int (agI (sv q) (lv q) w i (2 * (nI k))), .int tr, .ref so, .ref sl, .ref ce, .int (nI n), .int bar, .int (nI tn), .ref ki, .ref si, .ref th, .ref ri, .int at_, .int rp, .ref rk, .ref rs, .ref kt, .ref kr, .int kn, .int rg, .ref ab, .int am, .ref bh, .int bm, .int br, .int (nI rn), .ref wa, .ref ra]))]) hP hD [0] [1, 2, 3, 4, 5, 6, 7, 8, 9] rfl rfl (by decide) (by decide) hk1 hFc hP1 hD1
            generalize H1 = H at hP hS ⊢
            have hP := hP.sub (ws' := [(x, .inr (7, [.int (agI (sv q) (lv q) w i (2 * (nI k))), .int tr, .ref so, .ref sl, .ref ce, .int (nI n), .int bar, .int (nI tn), .ref ki, .ref si, .ref th, .ref ri, .int at_, .int rp, .ref rk, .ref rs, .ref kt, .ref kr, .int kn, .int rg, .ref ab, .int am, .ref bh, .int bm, .int br, .int (nI rn), .ref wa, .ref ra])), (so, .inl (cI, 4, .inl sv)), (sl, .inl (cI, 4, .inl lv)), (ce, .inl (cI, 240, .inl cv)), (ki, .inl (cI, 9, .inl kd)), (si, .inl (cI, 9, .inl sd)), (th, .inl (cI, 3, .inl ts)), (ri, .inl (cI, 3, .inl tl)), (kt, .inl (cI, 3, .inl tk)), (kr, .inl (cI, 3, .inl rq))]) [9, 0, 1, 2, 3, 4, 5, 6, 7, 8] rfl
            have hD := hD.sub (ws' := [(x, .inr (7, [.int (agI (sv q) (lv q) w i (2 * (nI k))), .int tr, .ref so, .ref sl, .ref ce, .int (nI n), .int bar, .int (nI tn), .ref ki, .ref si, .ref th, .ref ri, .int at_, .int rp, .ref rk, .ref rs, .ref kt, .ref kr, .int kn, .int rg, .ref ab, .int am, .ref bh, .int bm, .int br, .int (nI rn), .ref wa, .ref ra])), (so, .inl (cI, 4, .inl sv)), (sl, .inl (cI, 4, .inl lv)), (ce, .inl (cI, 240, .inl cv)), (ki, .inl (cI, 9, .inl kd)), (si, .inl (cI, 9, .inl sd)), (th, .inl (cI, 3, .inl ts)), (ri, .inl (cI, 3, .inl tl)), (kt, .inl (cI, 3, .inl tk)), (kr, .inl (cI, 3, .inl rq))]) [9, 0, 1, 2, 3, 4, 5, 6, 7, 8] (by decide) rfl
            obtain rfl := w66
            exact W.iret (v := -10 - (agI (sv q) (lv q) w i (2 * (nI k)))) hx hb hr (fun t ht hW => ⟨⟨_, ((agI (sv q) (lv q) w i (2 * (nI k))), kn, rg, tk, rq), rfl, by rw [cq]; rw [show seaM n (nI q) w (sv q) (lv q) cv i (nI k) y = (-10 - agI (sv q) (lv q) w i (2 * nI k), agI (sv q) (lv q) w i (2 * nI k), false) from by unfold seaM; rw [if_pos hk, if_pos hok2, if_neg c60]]; exact ⟨rfl, rfl⟩, by rw [ht]; exact hP, va_K.moved hW.alike hK, hD⟩, hS.F ht⟩) hS.2.2 dX7_season_69
        · -- n36
          obtain rfl := w36.2 b36
          have hokn : ¬ seaOk w v y = true := fun q => by unfold seaOk at q; rw [Bool.and_eq_true] at q; have q2 := of_decide_eq_true q.2; exact b36 (decide_eq_true ⟨q2.2.2.1, fun z => le_nlt q2.2.2.2 z⟩)
          refine lv_if_ne (tgt := 45) hx hb dX7_season_39 (by decide) (fun h => absurd (by decide) h) (fun _ => ?_)
          refine lv_bipush (v := -2) hx hb dX7_season_42 (by decide) ?_
          exact W.iret (v := -2) hx hb hr (fun t ht hW => ⟨⟨_, (0, kn, rg, tk, rq), rfl, by rw [show seaM n (nI q) w (sv (nI q).toNatClampNeg) (lv (nI q).toNatClampNeg) cv i v y = (-2, 0, false) from by unfold seaM; rw [if_pos hk, if_neg hokn]]; exact ⟨rfl, rfl⟩, by rw [ht]; exact hP, va_K.moved hW.alike hK, hD⟩, hS.F ht⟩) hS.2.2 dX7_season_44
      · -- n26
        obtain rfl := w26.2 b26
        have hokn : ¬ seaOk w v y = true := fun q => by unfold seaOk at q; rw [Bool.and_eq_true] at q; have q2 := of_decide_eq_true q.2; exact b26 (decide_eq_true ⟨q2.1, q2.2.1⟩)
        refine lv_if_eq (tgt := 42) hx hb dX7_season_29 (by decide) (fun _ => ?_) (fun h => absurd (by decide) h)
        refine lv_bipush (v := -2) hx hb dX7_season_42 (by decide) ?_
        exact W.iret (v := -2) hx hb hr (fun t ht hW => ⟨⟨_, (0, kn, rg, tk, rq), rfl, by rw [show seaM n (nI q) w (sv (nI q).toNatClampNeg) (lv (nI q).toNatClampNeg) cv i v y = (-2, 0, false) from by unfold seaM; rw [if_pos hk, if_neg hokn]]; exact ⟨rfl, rfl⟩, by rw [ht]; exact hP, va_K.moved hW.alike hK, hD⟩, hS.F ht⟩) hS.2.2 dX7_season_44
    · -- n15
      obtain rfl := w15.2 b15
      have hokn : ¬ seaOk w v y = true := by unfold seaOk; rw [Bool.not_eq_true] at b15; rw [b15]; simp
      refine lv_if_eq (tgt := 42) hx hb dX7_season_18 (by decide) (fun _ => ?_) (fun h => absurd (by decide) h)
      refine lv_bipush (v := -2) hx hb dX7_season_42 (by decide) ?_
      exact W.iret (v := -2) hx hb hr (fun t ht hW => ⟨⟨_, (0, kn, rg, tk, rq), rfl, by rw [show seaM n (nI q) w (sv (nI q).toNatClampNeg) (lv (nI q).toNatClampNeg) cv i v y = (-2, 0, false) from by unfold seaM; rw [if_pos hk, if_neg hokn]]; exact ⟨rfl, rfl⟩, by rw [ht]; exact hP, va_K.moved hW.alike hK, hD⟩, hS.F ht⟩) hS.2.2 dX7_season_44
  · -- n6
    obtain rfl := w6.2 b6
    have hk := b6
    refine lv_if_ne (tgt := 14) hx hb dX7_season_9 (by decide) (fun h => absurd (by decide) h) (fun _ => ?_)
    refine lv_iconst (v := -1) hx hb dX7_season_12 (by decide) ?_
    exact W.iret (v := -1) hx hb hr (fun t ht hW => ⟨⟨_, (0, kn, rg, tk, rq), rfl, by rw [show seaM n kq w (sv kq.toNatClampNeg) (lv kq.toNatClampNeg) cv i v y = (-1, 0, false) from by exact if_neg hk]; exact ⟨rfl, rfl⟩, by rw [ht]; exact hP, va_K.moved hW.alike hK, hD⟩, hS.F ht⟩) hS.2.2 dX7_season_13

set_option maxHeartbeats 4000000 in
set_option maxRecDepth 100000 in
theorem c_X7_areStruck (l : Launch) (D : va_G) (cI cO : ClassId) (x : Nat) (fa : Int32) (tr : Int32) (so : Nat) (sl : Nat) (ce : Nat) (n : Nat) (bar : Int32) (tn : Nat) (ki : Nat) (si : Nat) (th : Nat) (ri : Nat) (at_ : Int32) (rp : Int32) (rk : Nat) (rs : Nat) (kt : Nat) (kr : Nat) (kn : Int32) (rg : Int32) (ab : Nat) (am : Int32) (bh : Nat) (bm : Int32) (br : Int32) (rn : Nat) (wa : Nat) (ra : Nat) (cv : Nat → Int32) (sd : Nat → Int32) (ts : Nat → Int32) (a0 : Nat) (w : Int32) (hn : n ≤ 9) (ht3 : tn ≤ 3) (hpd : ∀ t, t < tn → ∃ d : Nat, 1 ≤ d ∧ d ≤ 81 ∧ sumW sd (ts t) n = nI d) (hb : a0 + tn ≤ 240) : Met l yX7_areStruck wsX7_areStruck ({ frames := 2, cells := 0, slots := 0, locals := 44 } : Room) (va_Pc [.ref x, .int (nI a0), .int w] (wdR D cI cO [(x, .inr (7, [.int fa, .int tr, .ref so, .ref sl, .ref ce, .int (nI n), .int bar, .int (nI tn), .ref ki, .ref si, .ref th, .ref ri, .int at_, .int rp, .ref rk, .ref rs, .ref kt, .ref kr, .int kn, .int rg, .ref ab, .int am, .ref bh, .int bm, .int br, .int (nI rn), .ref wa, .ref ra])), (ce, .inl (cI, 240, .inl cv)), (si, .inl (cI, 9, .inl sd)), (th, .inl (cI, 3, .inl ts))])) (vp_Si (fun r => ((stkW n sd ts cv a0 w tn 0 = true) → r = 1) ∧ (¬ (stkW n sd ts cv a0 w tn 0 = true) → r = 0))) 0 0 (fun _ => False) := by
  refine Met.ofW (cc := cX7_areStruck) (maxL := 5) (ret := (some .boolean)) (by decide) rfl ?_
  intro p e s m args below meth c s₁ B hml hv
  obtain ⟨rfl, hP, hK, hNw⟩ := hv
  have hx := B.exec
  have hb := B.bytes
  have hr := B.returns
  have hts := atoms_spec (ws := wsX7_areStruck) B.pre
  have hown : s.vm.findClass RX7 = some m.cls := findClass_of_methodNamed B.named
  have hlocks := B.notSynchronized
  have f16 := hts (.fieldLink RX7 16 "StruckThreesModel" "cells" "[I") (by decide +kernel)
  have f25 := hts (.fieldLink RX7 25 "StruckThreesModel" "three" "[I") (by decide +kernel)
  have f68 := hts (.fieldLink RX7 68 "StruckThreesModel" "threes" "I") (by decide +kernel)
  have iX7 : ∀ w ∈ wsX70, w ∈ wsX7_areStruck := by decide +kernel
  have hP : va_P D vwCl [(x, .inr (7, [.int fa, .int tr, .ref so, .ref sl, .ref ce, .int (nI n), .int bar, .int (nI tn), .ref ki, .ref si, .ref th, .ref ri, .int at_, .int rp, .ref rk, .ref rs, .ref kt, .ref kr, .int kn, .int rg, .ref ab, .int am, .ref bh, .int bm, .int br, .int (nI rn), .ref wa, .ref ra])), (ce, .inl (cI, 240, .inl cv)), (si, .inl (cI, 9, .inl sd)), (th, .inl (cI, 3, .inl ts))] s.heap := hP
  have hl := lv_entry ([.ref x, .int (nI a0), .int w]) (n := 5) (Nat.le_of_ble_eq_true rfl)
  rw [lg_entry_eq]
  generalize (lg_sl ([.ref x, .int (nI a0), .int w]) ++ List.replicate (5 - (lg_sl ([.ref x, .int (nI a0), .int w])).length) Slot.unset).toArray = ls at hl ⊢
  have hl : lv_has ls 5 [(0, .ref x), (1, .int (nI a0)), (2, .int w)] := hl
  refine lv_iconst (v := 0) hx hb dX7_areStruck_0 (by decide) ?_
  refine lv_istore_n (lv' := [(3, .int 0), (0, .ref x), (1, .int (nI a0)), (2, .int w)]) hx hb dX7_areStruck_1 rfl hl (by decide) rfl (fun ls hl => ?_)
  have lp2 : ∀ (fu2 : Nat) (i : Nat) (hi : i ≤ tn) (hq : stkW n sd ts cv a0 w (tn - i) i = stkW n sd ts cv a0 w tn 0) (hm2 : tn - i < fu2) (ls : Array Slot) (hl : lv_has ls 5 [(0, .ref x), (1, .int (nI a0)), (2, .int w), (3, .int (nI i))]), W p l e (headSpec wsX7_areStruck ({ frames := 2, cells := 0, slots := 0, locals := 44 } : Room)).room s m ([.ref x, .int (nI a0), .int w]).toArray below meth c s.heap [] 0 0 (MQ below (vp_Si (fun r => ((stkW n sd ts cv a0 w tn 0 = true) → r = 1) ∧ (¬ (stkW n sd ts cv a0 w tn 0 = true) → r = 0))) ([.ref x, .int (nI a0), .int w]).toArray s 0 0 (fun _ => False)) (F0 m 2 ls []) := by
    intro fu2
    induction fu2 with
    | zero =>
      intros; omega
    | succ fu2 ih2 =>
      intro i hi hq hm2 ls hl
      refine lv_iload_n hx hb dX7_areStruck_2 rfl (lv_at hl 3 rfl) ?_
      refine lv_aload_n hx hb dX7_areStruck_3 rfl (lv_at hl 0 rfl) ?_
      refine va_get (D := D) (ci := 7) (v := .int (nI tn)) (C := RX7) (T := TX7) (N := 28) hx hb hts iX7 hown hK hP 0 rfl rfl 7 (by decide) f68 (fun _ h9 => h9) rfl dX7_areStruck_4 ?_
      refine lv_icmp_ge (tgt := 51) hx hb dX7_areStruck_7 (by decide) (fun c7 => ?_) (fun c7 => ?_)
      · -- t7
        have e7 : i = tn := by have q := ge_n (by omega) (by omega) c7; omega
        rw [e7] at hl
        refine lv_iconst (v := 1) hx hb dX7_areStruck_51 (by decide) ?_
        exact W.zret (v := 1) (ty := .boolean) hx hb hr rfl (fun t ht hW => ⟨_, rfl, by exact so_yes (by rw [← hq, e7, Nat.sub_self]; rfl), ht⟩) (fun _ h => absurd h List.not_mem_nil) dX7_areStruck_52
      · -- f7
        have l7 : i < tn := lt_n (by omega) (by omega) c7
        obtain ⟨d, hd1, hd81, ed⟩ := hpd i l7
        have hpz : ¬ sumW sd (ts i) n ≤ 0 := by rw [ed]; exact nI_nle (by omega) (by omega)
        refine lv_iload_n hx hb dX7_areStruck_10 rfl (lv_at hl 2 rfl) ?_
        refine lv_aload_n hx hb dX7_areStruck_11 rfl (lv_at hl 0 rfl) ?_
        refine va_get (D := D) (ci := 7) (v := .ref ce) (C := RX7) (T := TX7) (N := 28) hx hb hts iX7 hown hK hP 0 rfl rfl 4 (by decide) f16 (fun _ h9 => h9) rfl dX7_areStruck_12 ?_
        refine lv_iload_n hx hb dX7_areStruck_15 rfl (lv_at hl 1 rfl) ?_
        refine lv_iload_n hx hb dX7_areStruck_16 rfl (lv_at hl 3 rfl) ?_
        refine lv_iadd hx hb dX7_areStruck_17 ?_
        refine tp_i (y := nI (a0 + i)) (nI_add _ _) ?_
        refine va_iald hx hb hK hP 1 0 rfl rfl (vp_in_nI (by omega) (by decide)) dX7_areStruck_18 ?_
        refine tp_i (y := cv (a0 + i)) (by rw [nI_clamp (n := (a0 + i)) (by omega)]) ?_
        refine lv_isub hx hb dX7_areStruck_19 ?_
        refine lv_istore (lv' := [(4, .int (w - (cv (a0 + i)))), (0, .ref x), (1, .int (nI a0)), (2, .int w), (3, .int (nI i))]) hx hb dX7_areStruck_20 hl (by decide) rfl (fun ls hl => ?_)
        refine lv_iload hx hb dX7_areStruck_22 (lv_at hl 0 rfl) ?_
        refine lv_if_lt (tgt := 43) hx hb dX7_areStruck_24 (by decide) (fun c24 => ?_) (fun c24 => ?_)
        · -- t24
          refine lv_iconst (v := 0) hx hb dX7_areStruck_43 (by decide) ?_
          exact W.zret (v := 0) (ty := .boolean) hx hb hr rfl (fun t ht hW => ⟨_, rfl, by exact so_no (by rw [← hq, show tn - i = (tn - (i + 1)) + 1 by omega, stkW, if_neg (fun z => by first | exact z.1 c24 | exact c40 z.2.2)]), ht⟩) (fun _ h => absurd h List.not_mem_nil) dX7_areStruck_44
        · -- f24
          refine lv_iload hx hb dX7_areStruck_27 (lv_at hl 0 rfl) ?_
          refine lv_aload_n hx hb dX7_areStruck_29 rfl (lv_at hl 1 rfl) ?_
          refine lv_aload_n hx hb dX7_areStruck_30 rfl (lv_at hl 1 rfl) ?_
          refine va_get (D := D) (ci := 7) (v := .ref th) (C := RX7) (T := TX7) (N := 28) hx hb hts iX7 hown hK hP 0 rfl rfl 10 (by decide) f25 (fun _ h9 => h9) rfl dX7_areStruck_31 ?_
          refine lv_iload_n hx hb dX7_areStruck_34 rfl (lv_at hl 4 rfl) ?_
          refine va_iald hx hb hK hP 3 0 rfl rfl (vp_in_nI (by omega) (by decide)) dX7_areStruck_35 ?_
          refine tp_i (y := ts i) (by rw [nI_clamp (n := i) (by omega)]) ?_
          have hPc := hP.sub (ws' := [(x, .inr (7, [.int fa, .int tr, .ref so, .ref sl, .ref ce, .int (nI n), .int bar, .int (nI tn), .ref ki, .ref si, .ref th, .ref ri, .int at_, .int rp, .ref rk, .ref rs, .ref kt, .ref kr, .int kn, .int rg, .ref ab, .int am, .ref bh, .int bm, .int br, .int (nI rn), .ref wa, .ref ra])), (si, .inl (cI, 9, .inl sd))]) [0, 2] rfl
          refine vp_callSi (va_Run.run (va_runV (As := [.int (ts i)]) (rest := [.int (w - (cv (a0 + i)))]) ⟨hx, hb, hml, hown, hts⟩ (c_X7_pitchOf l D cI cO x fa tr so sl ce n bar tn ki si th ri at_ rp rk rs kt kr kn rg ab am bh bm br rn wa ra sd (ts i) (by assumption)) (cwV 1 hts gX7_areStruck_X7_pitchOf rfl rfl rfl (by decide +kernel) ⟨Nat.le_of_ble_eq_true rfl, Nat.le_of_ble_eq_true rfl⟩) (preVR hPc hK hNw (va_recv hK hPc (ci := 7) (q0 := 0) rfl rfl)) rfl rfl hl.1 rfl (lv_room (Nat.le_of_ble_eq_true rfl)) dX7_areStruck_36 ⟨Nat.zero_le _, Nat.zero_le _⟩)) (fun r36 w36 => ?_)
          obtain rfl := w36
          refine lv_irem hx hb dX7_areStruck_39 (fun z => hpz (by rw [z]; decide)) ?_
          refine lv_if_eq (tgt := 45) hx hb dX7_areStruck_40 (by decide) (fun c40 => ?_) (fun c40 => ?_)
          · -- t40
            refine lv_iinc (v := nI (i + 1)) (lv' := [(3, .int (nI (i + 1))), (4, .int (w - (cv (a0 + i)))), (0, .ref x), (1, .int (nI a0)), (2, .int w)]) hx hb dX7_areStruck_45 hl (k := 4) rfl (nI_1 _) (by decide) rfl (fun ls hl => ?_)
            refine lv_goto (tgt := 2) hx hb dX7_areStruck_48 (by decide) ?_
            exact ih2 (i + 1) (by omega) (by rw [← hq, show tn - i = (tn - (i + 1)) + 1 by omega, stkW, if_pos ⟨c24, hpz, c40⟩]) (by omega) _ (lv_sub hl [2, 3, 4, 0] rfl)
          · -- f40
            refine lv_iconst (v := 0) hx hb dX7_areStruck_43 (by decide) ?_
            exact W.zret (v := 0) (ty := .boolean) hx hb hr rfl (fun t ht hW => ⟨_, rfl, by exact so_no (by rw [← hq, show tn - i = (tn - (i + 1)) + 1 by omega, stkW, if_neg (fun z => by first | exact z.1 c24 | exact c40 z.2.2)]), ht⟩) (fun _ h => absurd h List.not_mem_nil) dX7_areStruck_44
  exact lp2 _ 0 (Nat.zero_le _) (rfl) (Nat.lt_succ_self _) _ (lv_sub hl [1, 2, 3, 0] rfl)

set_option maxHeartbeats 4000000 in
set_option maxRecDepth 100000 in
theorem c_X7_together (l : Launch) (D : va_G) (cI cO : ClassId) (x : Nat) (fa : Int32) (tr : Int32) (so : Nat) (sl : Nat) (ce : Nat) (n : Nat) (bar : Int32) (tn : Nat) (ki : Nat) (si : Nat) (th : Nat) (ri : Nat) (at_ : Int32) (rp : Int32) (rk : Nat) (rs : Nat) (kt : Nat) (kr : Nat) (kn : Int32) (rg : Int32) (ab : Nat) (am : Int32) (bh : Nat) (bm : Int32) (br : Int32) (rn : Nat) (wa : Nat) (ra : Nat) (sv : Nat → Int32) (lv : Nat → Int32) (cv : Nat → Int32) (sd : Nat → Int32) (ts : Nat → Int32) (kq : Int32) (w : Int32) (i : Int32) (sz : Nat) (hom : okM sv lv) (hn : n ≤ 9) (ht3 : tn ≤ 3) (hpd : ∀ t, t < tn → ∃ d : Nat, 1 ≤ d ∧ d ≤ 81 ∧ sumW sd (ts t) n = nI d) : Met l yX7_together wsX7_together ({ frames := 3, cells := 0, slots := 0, locals := 68 } : Room) (va_Pc [.ref x, .int kq, .int w, .int i] (wdW D cI cO [(x, .inr (7, [.int fa, .int tr, .ref so, .ref sl, .ref ce, .int (nI n), .int bar, .int (nI tn), .ref ki, .ref si, .ref th, .ref ri, .int at_, .int rp, .ref rk, .ref rs, .ref kt, .ref kr, .int kn, .int rg, .ref ab, .int am, .ref bh, .int bm, .int br, .int (nI rn), .ref wa, .ref ra])), (so, .inl (cI, 4, .inl sv)), (sl, .inl (cI, 4, .inl lv)), (ce, .inl (cI, 240, .inl cv)), (si, .inl (cI, 9, .inl sd)), (th, .inl (cI, 3, .inl ts))] sz)) (va_Qi (S := Int32) (fun r u => r = (tgM n sd tn ts kq w (sv kq.toNatClampNeg) (lv kq.toNatClampNeg) cv i).1 ∧ u = (tgM n sd tn ts kq w (sv kq.toNatClampNeg) (lv kq.toNatClampNeg) cv i).2) (fun u t => va_P D vwCl [(x, .inr (7, [.int u, .int tr, .ref so, .ref sl, .ref ce, .int (nI n), .int bar, .int (nI tn), .ref ki, .ref si, .ref th, .ref ri, .int at_, .int rp, .ref rk, .ref rs, .ref kt, .ref kr, .int kn, .int rg, .ref ab, .int am, .ref bh, .int bm, .int br, .int (nI rn), .ref wa, .ref ra])), (so, .inl (cI, 4, .inl sv)), (sl, .inl (cI, 4, .inl lv)), (ce, .inl (cI, 240, .inl cv)), (si, .inl (cI, 9, .inl sd)), (th, .inl (cI, 3, .inl ts))] t.heap ∧ va_K D vwCl (tyL cI cO) t ∧ va_D (va_A [(x, .inr (7, [.int fa, .int tr, .ref so, .ref sl, .ref ce, .int (nI n), .int bar, .int (nI tn), .ref ki, .ref si, .ref th, .ref ri, .int at_, .int rp, .ref rk, .ref rs, .ref kt, .ref kr, .int kn, .int rg, .ref ab, .int am, .ref bh, .int bm, .int br, .int (nI rn), .ref wa, .ref ra])), (so, .inl (cI, 4, .inl sv)), (sl, .inl (cI, 4, .inl lv)), (ce, .inl (cI, 240, .inl cv)), (si, .inl (cI, 9, .inl sd)), (th, .inl (cI, 3, .inl ts))] sz) [(x, .inr (7, [.int u, .int tr, .ref so, .ref sl, .ref ce, .int (nI n), .int bar, .int (nI tn), .ref ki, .ref si, .ref th, .ref ri, .int at_, .int rp, .ref rk, .ref rs, .ref kt, .ref kr, .int kn, .int rg, .ref ab, .int am, .ref bh, .int bm, .int br, .int (nI rn), .ref wa, .ref ra])), (so, .inl (cI, 4, .inl sv)), (sl, .inl (cI, 4, .inl lv)), (ce, .inl (cI, 240, .inl cv)), (si, .inl (cI, 9, .inl sd)), (th, .inl (cI, 3, .inl ts))]) (va_A [(x, .inr (7, [.int fa, .int tr, .ref so, .ref sl, .ref ce, .int (nI n), .int bar, .int (nI tn), .ref ki, .ref si, .ref th, .ref ri, .int at_, .int rp, .ref rk, .ref rs, .ref kt, .ref kr, .int kn, .int rg, .ref ab, .int am, .ref bh, .int bm, .int br, .int (nI rn), .ref wa, .ref ra])), (so, .inl (cI, 4, .inl sv)), (sl, .inl (cI, 4, .inl lv)), (ce, .inl (cI, 240, .inl cv)), (si, .inl (cI, 9, .inl sd)), (th, .inl (cI, 3, .inl ts))] sz)) 0 0 (va_A [(x, .inr (7, [.int fa, .int tr, .ref so, .ref sl, .ref ce, .int (nI n), .int bar, .int (nI tn), .ref ki, .ref si, .ref th, .ref ri, .int at_, .int rp, .ref rk, .ref rs, .ref kt, .ref kr, .int kn, .int rg, .ref ab, .int am, .ref bh, .int bm, .int br, .int (nI rn), .ref wa, .ref ra])), (so, .inl (cI, 4, .inl sv)), (sl, .inl (cI, 4, .inl lv)), (ce, .inl (cI, 240, .inl cv)), (si, .inl (cI, 9, .inl sd)), (th, .inl (cI, 3, .inl ts))] sz) := by
  refine Met.ofW (cc := cX7_together) (maxL := 7) (ret := (some .int)) (by decide) rfl ?_
  intro p e s m args below meth c s₁ B hml hv
  obtain ⟨rfl, hsz, hP, hK, hNw, hD0⟩ := hv
  have hx := B.exec
  have hb := B.bytes
  have hr := B.returns
  have hts := atoms_spec (ws := wsX7_together) B.pre
  have hown : s.vm.findClass RX7 = some m.cls := findClass_of_methodNamed B.named
  have hlocks := B.notSynchronized
  have f16 := hts (.fieldLink RX7 16 "StruckThreesModel" "cells" "[I") (by decide +kernel)
  have f55 := hts (.fieldLink RX7 55 "StruckThreesModel" "fault" "I") (by decide +kernel)
  have f68 := hts (.fieldLink RX7 68 "StruckThreesModel" "threes" "I") (by decide +kernel)
  have iX7 : ∀ w ∈ wsX70, w ∈ wsX7_together := by decide +kernel
  subst hsz
  have hD := hD0.self (sz := s.heap.size)
  generalize hAe : va_A [(x, .inr (7, [.int fa, .int tr, .ref so, .ref sl, .ref ce, .int (nI n), .int bar, .int (nI tn), .ref ki, .ref si, .ref th, .ref ri, .int at_, .int rp, .ref rk, .ref rs, .ref kt, .ref kr, .int kn, .int rg, .ref ab, .int am, .ref bh, .int bm, .int br, .int (nI rn), .ref wa, .ref ra])), (so, .inl (cI, 4, .inl sv)), (sl, .inl (cI, 4, .inl lv)), (ce, .inl (cI, 240, .inl cv)), (si, .inl (cI, 9, .inl sd)), (th, .inl (cI, 3, .inl ts))] s.heap.size = A at hD ⊢
  have hA : ∀ q : Nat, s.heap.size ≤ q → A q := fun q h => by rw [← hAe]; exact Or.inr h
  have hS : va_S A s.heap s.heap [] := va_S.rf
  have hP : va_P D vwCl [(x, .inr (7, [.int fa, .int tr, .ref so, .ref sl, .ref ce, .int (nI n), .int bar, .int (nI tn), .ref ki, .ref si, .ref th, .ref ri, .int at_, .int rp, .ref rk, .ref rs, .ref kt, .ref kr, .int kn, .int rg, .ref ab, .int am, .ref bh, .int bm, .int br, .int (nI rn), .ref wa, .ref ra])), (so, .inl (cI, 4, .inl sv)), (sl, .inl (cI, 4, .inl lv)), (ce, .inl (cI, 240, .inl cv)), (si, .inl (cI, 9, .inl sd)), (th, .inl (cI, 3, .inl ts))] s.heap := hP
  have hl := lv_entry ([.ref x, .int kq, .int w, .int i]) (n := 7) (Nat.le_of_ble_eq_true rfl)
  rw [lg_entry_eq]
  generalize (lg_sl ([.ref x, .int kq, .int w, .int i]) ++ List.replicate (7 - (lg_sl ([.ref x, .int kq, .int w, .int i])).length) Slot.unset).toArray = ls at hl ⊢
  have hl : lv_has ls 7 [(0, .ref x), (1, .int kq), (2, .int w), (3, .int i)] := hl
  refine lv_aload_n hx hb dX7_together_0 rfl (lv_at hl 0 rfl) ?_
  refine lv_iconst (v := 0) hx hb dX7_together_1 (by decide) ?_
  refine va_put (D := D) (ci := 7) (v := .int 0) (ty := .int) (C := RX7) (T := TX7) (N := 28) hx hb hts iX7 tyX7 tyX7_ok nmX7 hown hK hP hD hS 0 rfl rfl 0 (by decide) f55 (fun _ h9 => h9) rfl (by decide +kernel) rfl rfl (Nat.le_of_ble_eq_true rfl) dX7_together_2 (fun H locs hP hD hS => ?_)
  have hP : va_P D vwCl [(x, .inr (7, [.int 0, .int tr, .ref so, .ref sl, .ref ce, .int (nI n), .int bar, .int (nI tn), .ref ki, .ref si, .ref th, .ref ri, .int at_, .int rp, .ref rk, .ref rs, .ref kt, .ref kr, .int kn, .int rg, .ref ab, .int am, .ref bh, .int bm, .int br, .int (nI rn), .ref wa, .ref ra])), (so, .inl (cI, 4, .inl sv)), (sl, .inl (cI, 4, .inl lv)), (ce, .inl (cI, 240, .inl cv)), (si, .inl (cI, 9, .inl sd)), (th, .inl (cI, 3, .inl ts))] H := hP
  have hD : va_D A [(x, .inr (7, [.int 0, .int tr, .ref so, .ref sl, .ref ce, .int (nI n), .int bar, .int (nI tn), .ref ki, .ref si, .ref th, .ref ri, .int at_, .int rp, .ref rk, .ref rs, .ref kt, .ref kr, .int kn, .int rg, .ref ab, .int am, .ref bh, .int bm, .int br, .int (nI rn), .ref wa, .ref ra])), (so, .inl (cI, 4, .inl sv)), (sl, .inl (cI, 4, .inl lv)), (ce, .inl (cI, 240, .inl cv)), (si, .inl (cI, 9, .inl sd)), (th, .inl (cI, 3, .inl ts))] := hD
  refine lv_iload_n hx hb dX7_together_5 rfl (lv_at hl 1 rfl) ?_
  have hPc := hP.sub (ws' := []) [] rfl
  refine vp_callSi (va_Run.run (va_runS (As := [.int kq]) (rest := []) ⟨hx, hb, hml, hown, hts⟩ (c_X7_isSheet l D cI cO kq) (va_cwS 1 hts gX7_together_X7_isSheet rfl rfl rfl (by decide +kernel) ⟨Nat.le_of_ble_eq_true rfl, Nat.le_of_ble_eq_true rfl⟩) (preSR hPc hK hNw) rfl rfl hl.1 rfl (lv_room (Nat.le_of_ble_eq_true rfl)) dX7_together_6 ⟨Nat.zero_le _, Nat.zero_le _⟩)) (fun r6 w6 => ?_)
  by_cases b6 : ¬ kq < 0 ∧ kq < 4
  · -- y6
    obtain rfl := w6.1 b6
    obtain ⟨q, hq4, rfl⟩ := vp_in_of (in4 b6.1 b6.2) (by decide)
    have cq := nI_clamp (n := q) (by omega)
    have hk := b6
    refine lv_if_ne (tgt := 14) hx hb dX7_together_9 (by decide) (fun _ => ?_) (fun h => absurd h (by decide))
    refine lv_iload_n hx hb dX7_together_14 rfl (lv_at hl 2 rfl) ?_
    have hPc := hP.sub (ws' := []) [] rfl
    refine vp_callSi (va_Run.run (va_runS (As := [.int w]) (rest := []) ⟨hx, hb, hml, hown, hts⟩ (c_X7_isSort l D cI cO w) (va_cwS 1 hts gX7_together_X7_isSort rfl rfl rfl (by decide +kernel) ⟨Nat.le_of_ble_eq_true rfl, Nat.le_of_ble_eq_true rfl⟩) (preSR hPc hK hNw) rfl rfl hl.1 rfl (lv_room (Nat.le_of_ble_eq_true rfl)) dX7_together_15 ⟨Nat.zero_le _, Nat.zero_le _⟩)) (fun r15 w15 => ?_)
    by_cases b15 : lstT w 0 2 = true
    · -- y15
      obtain rfl := w15.1 b15
      refine lv_if_ne (tgt := 24) hx hb dX7_together_18 (by decide) (fun _ => ?_) (fun h => absurd h (by decide))
      refine lv_aload_n hx hb dX7_together_24 rfl (lv_at hl 0 rfl) ?_
      refine va_get (D := D) (ci := 7) (v := .int (nI tn)) (C := RX7) (T := TX7) (N := 28) hx hb hts iX7 hown hK hP 0 rfl rfl 7 (by decide) f68 (fun _ h9 => h9) rfl dX7_together_25 ?_
      refine lv_if_ne (tgt := 34) hx hb dX7_together_28 (by decide) (fun c28 => ?_) (fun c28 => ?_)
      · -- t28
        refine lv_aload_n hx hb dX7_together_34 rfl (lv_at hl 0 rfl) ?_
        refine lv_iload_n hx hb dX7_together_35 rfl (lv_at hl 1 rfl) ?_
        refine lv_iload_n hx hb dX7_together_36 rfl (lv_at hl 2 rfl) ?_
        refine lv_iload_n hx hb dX7_together_37 rfl (lv_at hl 3 rfl) ?_
        refine lv_aload_n hx hb dX7_together_38 rfl (lv_at hl 0 rfl) ?_
        refine va_get (D := D) (ci := 7) (v := .int (nI tn)) (C := RX7) (T := TX7) (N := 28) hx hb hts iX7 hown hK hP 0 rfl rfl 7 (by decide) f68 (fun _ h9 => h9) rfl dX7_together_39 ?_
        have hPc := hP.sub (ws' := [(x, .inr (7, [.int 0, .int tr, .ref so, .ref sl, .ref ce, .int (nI n), .int bar, .int (nI tn), .ref ki, .ref si, .ref th, .ref ri, .int at_, .int rp, .ref rk, .ref rs, .ref kt, .ref kr, .int kn, .int rg, .ref ab, .int am, .ref bh, .int bm, .int br, .int (nI rn), .ref wa, .ref ra])), (so, .inl (cI, 4, .inl sv)), (sl, .inl (cI, 4, .inl lv))]) [0, 1, 2] rfl
        refine vp_callSi (va_Run.run (va_runV (As := [.int (nI q), .int w, .int i, .int (nI tn)]) (rest := []) ⟨hx, hb, hml, hown, hts⟩ (c_X7_against l D cI cO x 0 tr so sl ce n bar tn ki si th ri at_ rp rk rs kt kr kn rg ab am bh bm br rn wa ra sv lv q w i (nI tn) (by omega)) (cwV 4 hts gX7_together_X7_against rfl rfl rfl (by decide +kernel) ⟨Nat.le_of_ble_eq_true rfl, Nat.le_of_ble_eq_true rfl⟩) (preVR hPc hK hNw (va_recv hK hPc (ci := 7) (q0 := 0) rfl rfl)) rfl rfl hl.1 rfl (lv_room (Nat.le_of_ble_eq_true rfl)) dX7_together_42 ⟨Nat.zero_le _, Nat.zero_le _⟩)) (fun r42 w42 => ?_)
        obtain rfl := w42
        refine lv_istore (lv' := [(4, .int (agI (sv q) (lv q) w i (nI tn))), (0, .ref x), (1, .int (nI q)), (2, .int w), (3, .int i)]) hx hb dX7_together_45 hl (by decide) rfl (fun ls hl => ?_)
        refine lv_iload hx hb dX7_together_47 (lv_at hl 0 rfl) ?_
        refine lv_if_eq (tgt := 59) hx hb dX7_together_49 (by decide) (fun c49 => ?_) (fun c49 => ?_)
        · -- t49
          obtain ⟨L, hL, eL⟩ := hom q hq4 (ag9 c49)
          have c50 := c49
          rw [eL] at c50
          obtain ⟨hs9, hsw, a0, k2, rfl, ek2, hak⟩ := ag0 hL c50
          have ek3 : tn = k2 := (nI_eq (by omega) (by omega)).mp ek2
          have ca := nI_clamp (n := a0) (by omega)
          refine lv_bipush (v := 60) hx hb dX7_together_59 (by decide) ?_
          refine lv_iload_n hx hb dX7_together_61 rfl (lv_at hl 2 rfl) ?_
          refine lv_imul hx hb dX7_together_62 ?_
          refine lv_iload_n hx hb dX7_together_63 rfl (lv_at hl 4 rfl) ?_
          refine lv_iadd hx hb dX7_together_64 ?_
          refine tp_i (y := nI (60 * q + a0)) (ix60_i _ _) ?_
          refine lv_istore (lv' := [(5, .int (nI (60 * q + a0))), (4, .int (agI (sv q) (lv q) w (nI a0) (nI tn))), (0, .ref x), (1, .int (nI q)), (2, .int w), (3, .int (nI a0))]) hx hb dX7_together_65 hl (by decide) rfl (fun ls hl => ?_)
          refine lv_iconst (v := 0) hx hb dX7_together_67 (by decide) ?_
          refine lv_istore (lv' := [(6, .int 0), (5, .int (nI (60 * q + a0))), (4, .int (agI (sv q) (lv q) w (nI a0) (nI tn))), (0, .ref x), (1, .int (nI q)), (2, .int w), (3, .int (nI a0))]) hx hb dX7_together_68 hl (by decide) rfl (fun ls hl => ?_)
          have lp70 : ∀ (fu70 : Nat) (t_ : Nat) (hi : t_ ≤ tn) (hq : in99 cv (60 * q + a0) (tn - t_) t_ = in99 cv (60 * q + a0) tn 0) (hm70 : tn - t_ < fu70) (H : Heap) (locs : List Loc) (hP : va_P D vwCl [(x, .inr (7, [.int 0, .int tr, .ref so, .ref sl, .ref ce, .int (nI n), .int bar, .int (nI tn), .ref ki, .ref si, .ref th, .ref ri, .int at_, .int rp, .ref rk, .ref rs, .ref kt, .ref kr, .int kn, .int rg, .ref ab, .int am, .ref bh, .int bm, .int br, .int (nI rn), .ref wa, .ref ra])), (so, .inl (cI, 4, .inl sv)), (sl, .inl (cI, 4, .inl lv)), (ce, .inl (cI, 240, .inl cv)), (si, .inl (cI, 9, .inl sd)), (th, .inl (cI, 3, .inl ts))] H) (hD : va_D A [(x, .inr (7, [.int 0, .int tr, .ref so, .ref sl, .ref ce, .int (nI n), .int bar, .int (nI tn), .ref ki, .ref si, .ref th, .ref ri, .int at_, .int rp, .ref rk, .ref rs, .ref kt, .ref kr, .int kn, .int rg, .ref ab, .int am, .ref bh, .int bm, .int br, .int (nI rn), .ref wa, .ref ra])), (so, .inl (cI, 4, .inl sv)), (sl, .inl (cI, 4, .inl lv)), (ce, .inl (cI, 240, .inl cv)), (si, .inl (cI, 9, .inl sd)), (th, .inl (cI, 3, .inl ts))]) (hS : va_S A s.heap H locs) (ls : Array Slot) (hl : lv_has ls 7 [(0, .ref x), (5, .int (nI (60 * q + a0))), (6, .int (nI t_))]), W p l e (headSpec wsX7_together ({ frames := 3, cells := 0, slots := 0, locals := 68 } : Room)).room s m ([.ref x, .int (nI q), .int w, .int (nI a0)]).toArray below meth c H locs 0 0 (MQ below (va_Qi (S := Int32) (fun r u => r = (tgM n sd tn ts (nI q) w (sv (nI q).toNatClampNeg) (lv (nI q).toNatClampNeg) cv (nI a0)).1 ∧ u = (tgM n sd tn ts (nI q) w (sv (nI q).toNatClampNeg) (lv (nI q).toNatClampNeg) cv (nI a0)).2) (fun u t => va_P D vwCl [(x, .inr (7, [.int u, .int tr, .ref so, .ref sl, .ref ce, .int (nI n), .int bar, .int (nI tn), .ref ki, .ref si, .ref th, .ref ri, .int at_, .int rp, .ref rk, .ref rs, .ref kt, .ref kr, .int kn, .int rg, .ref ab, .int am, .ref bh, .int bm, .int br, .int (nI rn), .ref wa, .ref ra])), (so, .inl (cI, 4, .inl sv)), (sl, .inl (cI, 4, .inl lv)), (ce, .inl (cI, 240, .inl cv)), (si, .inl (cI, 9, .inl sd)), (th, .inl (cI, 3, .inl ts))] t.heap ∧ va_K D vwCl (tyL cI cO) t ∧ va_D A [(x, .inr (7, [.int u, .int tr, .ref so, .ref sl, .ref ce, .int (nI n), .int bar, .int (nI tn), .ref ki, .ref si, .ref th, .ref ri, .int at_, .int rp, .ref rk, .ref rs, .ref kt, .ref kr, .int kn, .int rg, .ref ab, .int am, .ref bh, .int bm, .int br, .int (nI rn), .ref wa, .ref ra])), (so, .inl (cI, 4, .inl sv)), (sl, .inl (cI, 4, .inl lv)), (ce, .inl (cI, 240, .inl cv)), (si, .inl (cI, 9, .inl sd)), (th, .inl (cI, 3, .inl ts))]) A) ([.ref x, .int (nI q), .int w, .int (nI a0)]).toArray s 0 0 A) (F0 m 70 ls []) := by
            intro fu70
            induction fu70 with
            | zero =>
              intros; omega
            | succ fu70 ih70 =>
              intro t_ hi hq hm70 H locs hP hD hS ls hl
              refine lv_iload hx hb dX7_together_70 (lv_at hl 2 rfl) ?_
              refine lv_aload_n hx hb dX7_together_72 rfl (lv_at hl 0 rfl) ?_
              refine va_get (D := D) (ci := 7) (v := .int (nI tn)) (C := RX7) (T := TX7) (N := 28) hx hb hts iX7 hown hK hP 0 rfl rfl 7 (by decide) f68 (fun _ h9 => h9) rfl dX7_together_73 ?_
              refine lv_icmp_ge (tgt := 107) hx hb dX7_together_76 (by decide) (fun c76 => ?_) (fun c76 => ?_)
              · -- t76
                have e76 : t_ = tn := by have q := ge_n (by omega) (by omega) c76; omega
                rw [e76] at hl
                have h99 : in99 cv (60 * q + a0) tn 0 = true := by rw [← hq, e76, Nat.sub_self]; rfl
                refine lv_iconst (v := 0) hx hb dX7_together_107 (by decide) ?_
                refine lv_istore (lv' := [(6, .int 0), (0, .ref x), (5, .int (nI (60 * q + a0)))]) hx hb dX7_together_108 hl (by decide) rfl (fun ls hl => ?_)
                have lp110 : ∀ (fu110 : Nat) (z_ : Nat) (hz : z_ ≤ 1000) (hq2 : togM n sd ts cv (60 * q + a0) tn (1000 - z_) z_ = togM n sd ts cv (60 * q + a0) tn 1000 0) (hm110 : 1000 - z_ < fu110) (H : Heap) (locs : List Loc) (hP : va_P D vwCl [(x, .inr (7, [.int 0, .int tr, .ref so, .ref sl, .ref ce, .int (nI n), .int bar, .int (nI tn), .ref ki, .ref si, .ref th, .ref ri, .int at_, .int rp, .ref rk, .ref rs, .ref kt, .ref kr, .int kn, .int rg, .ref ab, .int am, .ref bh, .int bm, .int br, .int (nI rn), .ref wa, .ref ra])), (so, .inl (cI, 4, .inl sv)), (sl, .inl (cI, 4, .inl lv)), (ce, .inl (cI, 240, .inl cv)), (si, .inl (cI, 9, .inl sd)), (th, .inl (cI, 3, .inl ts))] H) (hD : va_D A [(x, .inr (7, [.int 0, .int tr, .ref so, .ref sl, .ref ce, .int (nI n), .int bar, .int (nI tn), .ref ki, .ref si, .ref th, .ref ri, .int at_, .int rp, .ref rk, .ref rs, .ref kt, .ref kr, .int kn, .int rg, .ref ab, .int am, .ref bh, .int bm, .int br, .int (nI rn), .ref wa, .ref ra])), (so, .inl (cI, 4, .inl sv)), (sl, .inl (cI, 4, .inl lv)), (ce, .inl (cI, 240, .inl cv)), (si, .inl (cI, 9, .inl sd)), (th, .inl (cI, 3, .inl ts))]) (hS : va_S A s.heap H locs) (ls : Array Slot) (hl : lv_has ls 7 [(0, .ref x), (5, .int (nI (60 * q + a0))), (6, .int (nI z_))]), W p l e (headSpec wsX7_together ({ frames := 3, cells := 0, slots := 0, locals := 68 } : Room)).room s m ([.ref x, .int (nI q), .int w, .int (nI a0)]).toArray below meth c H locs 0 0 (MQ below (va_Qi (S := Int32) (fun r u => r = (tgM n sd tn ts (nI q) w (sv (nI q).toNatClampNeg) (lv (nI q).toNatClampNeg) cv (nI a0)).1 ∧ u = (tgM n sd tn ts (nI q) w (sv (nI q).toNatClampNeg) (lv (nI q).toNatClampNeg) cv (nI a0)).2) (fun u t => va_P D vwCl [(x, .inr (7, [.int u, .int tr, .ref so, .ref sl, .ref ce, .int (nI n), .int bar, .int (nI tn), .ref ki, .ref si, .ref th, .ref ri, .int at_, .int rp, .ref rk, .ref rs, .ref kt, .ref kr, .int kn, .int rg, .ref ab, .int am, .ref bh, .int bm, .int br, .int (nI rn), .ref wa, .ref ra])), (so, .inl (cI, 4, .inl sv)), (sl, .inl (cI, 4, .inl lv)), (ce, .inl (cI, 240, .inl cv)), (si, .inl (cI, 9, .inl sd)), (th, .inl (cI, 3, .inl ts))] t.heap ∧ va_K D vwCl (tyL cI cO) t ∧ va_D A [(x, .inr (7, [.int u, .int tr, .ref so, .ref sl, .ref ce, .int (nI n), .int bar, .int (nI tn), .ref ki, .ref si, .ref th, .ref ri, .int at_, .int rp, .ref rk, .ref rs, .ref kt, .ref kr, .int kn, .int rg, .ref ab, .int am, .ref bh, .int bm, .int br, .int (nI rn), .ref wa, .ref ra])), (so, .inl (cI, 4, .inl sv)), (sl, .inl (cI, 4, .inl lv)), (ce, .inl (cI, 240, .inl cv)), (si, .inl (cI, 9, .inl sd)), (th, .inl (cI, 3, .inl ts))]) A) ([.ref x, .int (nI q), .int w, .int (nI a0)]).toArray s 0 0 A) (F0 m 110 ls []) := by
                  intro fu110
                  induction fu110 with
                  | zero =>
                    intros; omega
                  | succ fu110 ih110 =>
                    intro z_ hz hq2 hm110 H locs hP hD hS ls hl
                    refine lv_iload hx hb dX7_together_110 (lv_at hl 2 rfl) ?_
                    refine lv_sipush (v := 999) hx hb dX7_together_112 (by decide) ?_
                    refine lv_icmp_gt (tgt := 138) hx hb dX7_together_115 (by decide) (fun c115 => ?_) (fun c115 => ?_)
                    · -- t115
                      have z115 : 999 < z_ := (nI_ltI (a := 999) (by decide) (by omega)).mp c115
                      refine lv_bipush (v := -9) hx hb dX7_together_138 (by decide) ?_
                      exact W.iret (v := -9) hx hb hr (fun t ht hW => ⟨⟨_, 0, rfl, by rw [cq]; rw [show tgM n sd tn ts (nI q) w (sv q) (lv q) cv (nI a0) = (-9, 0) from by unfold tgM; rw [if_pos hk, if_pos b15, if_neg c28, if_pos c49, cq, ca, if_pos h99, ← hq2, show 1000 - z_ = 0 by omega]; rfl]; exact ⟨rfl, rfl⟩, by rw [ht]; exact hP, va_K.moved hW.alike hK, hD⟩, hS.F ht⟩) hS.2.2 dX7_together_140
                    · -- f115
                      have z115 : ¬ 999 < z_ := fun z => c115 (nI_lt (a := 999) z (by omega))
                      refine lv_aload_n hx hb dX7_together_118 rfl (lv_at hl 0 rfl) ?_
                      refine lv_iload hx hb dX7_together_119 (lv_at hl 1 rfl) ?_
                      refine lv_iload hx hb dX7_together_121 (lv_at hl 2 rfl) ?_
                      have hPc := hP.sub (ws' := [(x, .inr (7, [.int 0, .int tr, .ref so, .ref sl, .ref ce, .int (nI n), .int bar, .int (nI tn), .ref ki, .ref si, .ref th, .ref ri, .int at_, .int rp, .ref rk, .ref rs, .ref kt, .ref kr, .int kn, .int rg, .ref ab, .int am, .ref bh, .int bm, .int br, .int (nI rn), .ref wa, .ref ra])), (ce, .inl (cI, 240, .inl cv)), (si, .inl (cI, 9, .inl sd)), (th, .inl (cI, 3, .inl ts))]) [0, 3, 4, 5] rfl
                      refine vp_callSi (va_Run.run (va_runV (As := [.int (nI (60 * q + a0)), .int (nI z_)]) (rest := []) ⟨hx, hb, hml, hown, hts⟩ (c_X7_areStruck l D cI cO x 0 tr so sl ce n bar tn ki si th ri at_ rp rk rs kt kr kn rg ab am bh bm br rn wa ra cv sd ts (60 * q + a0) (nI z_) (by assumption) (by assumption) (by assumption) (by omega)) (cwV 2 hts gX7_together_X7_areStruck rfl rfl rfl (by decide +kernel) ⟨Nat.le_of_ble_eq_true rfl, Nat.le_of_ble_eq_true rfl⟩) (preVR hPc hK hNw (va_recv hK hPc (ci := 7) (q0 := 0) rfl rfl)) rfl rfl hl.1 rfl (lv_room (Nat.le_of_ble_eq_true rfl)) dX7_together_123 ⟨Nat.zero_le _, Nat.zero_le _⟩)) (fun r123 w123 => ?_)
                      by_cases b123 : stkW n sd ts cv (60 * q + a0) (nI z_) tn 0 = true
                      · -- y123
                        obtain rfl := w123.1 b123
                        refine lv_if_eq (tgt := 132) hx hb dX7_together_126 (by decide) (fun h => absurd h (by decide)) (fun _ => ?_)
                        refine lv_iload hx hb dX7_together_129 (lv_at hl 2 rfl) ?_
                        exact W.iret (v := nI z_) hx hb hr (fun t ht hW => ⟨⟨_, 0, rfl, by rw [cq]; rw [show tgM n sd tn ts (nI q) w (sv q) (lv q) cv (nI a0) = (nI z_, 0) from by unfold tgM; rw [if_pos hk, if_pos b15, if_neg c28, if_pos c49, cq, ca, if_pos h99, ← hq2, show 1000 - z_ = (1000 - (z_ + 1)) + 1 by omega, togM, if_pos b123]]; exact ⟨rfl, rfl⟩, by rw [ht]; exact hP, va_K.moved hW.alike hK, hD⟩, hS.F ht⟩) hS.2.2 dX7_together_131
                      · -- n123
                        obtain rfl := w123.2 b123
                        refine lv_if_eq (tgt := 132) hx hb dX7_together_126 (by decide) (fun _ => ?_) (fun h => absurd (by decide) h)
                        refine lv_iinc (v := nI (z_ + 1)) (lv' := [(6, .int (nI (z_ + 1))), (0, .ref x), (5, .int (nI (60 * q + a0)))]) hx hb dX7_together_132 hl (k := 2) rfl (nI_1 _) (by decide) rfl (fun ls hl => ?_)
                        refine lv_goto (tgt := 110) hx hb dX7_together_135 (by decide) ?_
                        exact ih110 (z_ + 1) (by omega) (by rw [← hq2, show 1000 - z_ = (1000 - (z_ + 1)) + 1 by omega, togM, if_neg b123]) (by omega) _ _ hP hD hS _ (lv_sub hl [1, 2, 0] rfl)
                exact lp110 _ 0 (by omega) (rfl) (Nat.lt_succ_self _) _ _ hP hD hS _ (lv_sub hl [1, 2, 0] rfl)
              · -- f76
                have l76 : t_ < tn := lt_n (by omega) (by omega) c76
                refine lv_aload_n hx hb dX7_together_79 rfl (lv_at hl 0 rfl) ?_
                refine va_get (D := D) (ci := 7) (v := .ref ce) (C := RX7) (T := TX7) (N := 28) hx hb hts iX7 hown hK hP 0 rfl rfl 4 (by decide) f16 (fun _ h9 => h9) rfl dX7_together_80 ?_
                refine lv_iload hx hb dX7_together_83 (lv_at hl 1 rfl) ?_
                refine lv_iload hx hb dX7_together_85 (lv_at hl 2 rfl) ?_
                refine lv_iadd hx hb dX7_together_87 ?_
                refine tp_i (y := nI (60 * q + a0 + t_)) (nI_add _ _) ?_
                refine va_iald hx hb hK hP 3 0 rfl rfl (vp_in_nI (by omega) (by decide)) dX7_together_88 ?_
                refine tp_i (y := cv (60 * q + a0 + t_)) (by rw [nI_clamp (n := (60 * q + a0 + t_)) (by omega)]) ?_
                refine lv_iconst (v := 0) hx hb dX7_together_89 (by decide) ?_
                refine lv_bipush (v := 99) hx hb dX7_together_90 (by decide) ?_
                have hPc := hP.sub (ws' := []) [] rfl
                refine vp_callSi (va_Run.run (va_runS (As := [.int (cv (60 * q + a0 + t_)), .int 0, .int 99]) (rest := []) ⟨hx, hb, hml, hown, hts⟩ (c_X7_within l D cI cO (cv (60 * q + a0 + t_)) 0 99) (va_cwS 3 hts gX7_together_X7_within rfl rfl rfl (by decide +kernel) ⟨Nat.le_of_ble_eq_true rfl, Nat.le_of_ble_eq_true rfl⟩) (preSR hPc hK hNw) rfl rfl hl.1 rfl (lv_room (Nat.le_of_ble_eq_true rfl)) dX7_together_92 ⟨Nat.zero_le _, Nat.zero_le _⟩)) (fun r92 w92 => ?_)
                by_cases b92 : lstT (cv (60 * q + a0 + t_)) 0 99 = true
                · -- y92
                  obtain rfl := w92.1 b92
                  refine lv_if_ne (tgt := 101) hx hb dX7_together_95 (by decide) (fun _ => ?_) (fun h => absurd h (by decide))
                  refine lv_iinc (v := nI (t_ + 1)) (lv' := [(6, .int (nI (t_ + 1))), (0, .ref x), (5, .int (nI (60 * q + a0)))]) hx hb dX7_together_101 hl (k := 2) rfl (nI_1 _) (by decide) rfl (fun ls hl => ?_)
                  refine lv_goto (tgt := 70) hx hb dX7_together_104 (by decide) ?_
                  exact ih70 (t_ + 1) (by omega) (by rw [← hq, show tn - t_ = (tn - (t_ + 1)) + 1 by omega, in99, if_pos ⟨(lst_in b92).1, (lst_in b92).2⟩]) (by omega) _ _ hP hD hS _ (lv_sub hl [1, 2, 0] rfl)
                · -- n92
                  obtain rfl := w92.2 b92
                  refine lv_if_ne (tgt := 101) hx hb dX7_together_95 (by decide) (fun h => absurd (by decide) h) (fun _ => ?_)
                  refine lv_bipush (v := -2) hx hb dX7_together_98 (by decide) ?_
                  exact W.iret (v := -2) hx hb hr (fun t ht hW => ⟨⟨_, 0, rfl, by rw [cq]; rw [show tgM n sd tn ts (nI q) w (sv q) (lv q) cv (nI a0) = (-2, 0) from by unfold tgM; rw [if_pos hk, if_pos b15, if_neg c28, if_pos c49, cq, ca, if_neg (by rw [← hq, show tn - t_ = (tn - (t_ + 1)) + 1 by omega, in99, if_neg (fun z => b92 (decide_eq_true ⟨z.1, fun y => le_nlt z.2 y⟩))]; decide)]]; exact ⟨rfl, rfl⟩, by rw [ht]; exact hP, va_K.moved hW.alike hK, hD⟩, hS.F ht⟩) hS.2.2 dX7_together_100
          exact lp70 _ 0 (Nat.zero_le _) (rfl) (Nat.lt_succ_self _) _ _ hP hD hS _ (lv_sub hl [3, 1, 0] rfl)
        · -- f49
          refine lv_aload_n hx hb dX7_together_52 rfl (lv_at hl 1 rfl) ?_
          refine lv_iload hx hb dX7_together_53 (lv_at hl 0 rfl) ?_
          have hPc := hP.sub (ws' := [(x, .inr (7, [.int 0, .int tr, .ref so, .ref sl, .ref ce, .int (nI n), .int bar, .int (nI tn), .ref ki, .ref si, .ref th, .ref ri, .int at_, .int rp, .ref rk, .ref rs, .ref kt, .ref kr, .int kn, .int rg, .ref ab, .int am, .ref bh, .int bm, .int br, .int (nI rn), .ref wa, .ref ra]))]) [0] rfl
          have hDc := hD.sub (ws' := [(x, .inr (7, [.int 0, .int tr, .ref so, .ref sl, .ref ce, .int (nI n), .int bar, .int (nI tn), .ref ki, .ref si, .ref th, .ref ri, .int at_, .int rp, .ref rk, .ref rs, .ref kt, .ref kr, .int kn, .int rg, .ref ab, .int am, .ref bh, .int bm, .int br, .int (nI rn), .ref wa, .ref ra]))]) [0] (by decide) rfl
          have hFc := va_free (wc := [(x, .inr (7, [.int 0, .int tr, .ref so, .ref sl, .ref ce, .int (nI n), .int bar, .int (nI tn), .ref ki, .ref si, .ref th, .ref ri, .int at_, .int rp, .ref rk, .ref rs, .ref kt, .ref kr, .int kn, .int rg, .ref ab, .int am, .ref bh, .int bm, .int br, .int (nI rn), .ref wa, .ref ra]))]) hD hS hA [0] rfl
          refine va_calli (va_runV (As := [.int (agI (sv q) (lv q) w i (nI tn))]) (rest := []) ⟨hx, hb, hml, hown, hts⟩ (c_X7_fails l D cI cO x 0 tr so sl ce n bar tn ki si th ri at_ rp rk rs kt kr kn rg ab am bh bm br rn wa ra (agI (sv q) (lv q) w i (nI tn)) _) (cwV 1 hts gX7_together_X7_fails rfl rfl rfl (by decide +kernel) ⟨Nat.le_of_ble_eq_true rfl, Nat.le_of_ble_eq_true rfl⟩) (preVW hPc hK hNw hDc (va_recv hK hPc (ci := 7) (q0 := 0) rfl rfl)) rfl rfl hl.1 rfl (lv_room (Nat.le_of_ble_eq_true rfl)) dX7_together_55 ⟨Nat.zero_le _, Nat.zero_le _⟩) hS (fun q _ h => hFc q h) hFc (fun r55 u t H1 locs ht hvm w55 hB hz1 hk1 hS => ?_)
          obtain ⟨hP1, hK1, hD1⟩ := hB
          rw [ht] at hP1
          try dsimp only at w55
          obtain ⟨hP, hD⟩ := va_join (wr := [(so, .inl (cI, 4, .inl sv)), (sl, .inl (cI, 4, .inl lv)), (ce, .inl (cI, 240, .inl cv)), (si, .inl (cI, 9, .inl sd)), (th, .inl (cI, 3, .inl ts))]) (w1 := [(x, .inr (7, [.int (agI (sv q) (lv q) w i (nI tn)), .int tr, .ref so, .ref sl, .ref ce, .int (nI n), .int bar, .int (nI tn), .ref ki, .ref si, .ref th, .ref ri, .int at_, .int rp, .ref rk, .ref rs, .ref kt, .ref kr, .int kn, .int rg, .ref ab, .int am, .ref bh, .int bm, .int br, .int (nI rn), .ref wa, .ref ra]))]) hP hD [0] [1, 2, 3, 4, 5] rfl rfl (by decide) (by decide) hk1 hFc hP1 hD1
          generalize H1 = H at hP hS ⊢
          have hP := hP.sub (ws' := [(x, .inr (7, [.int (agI (sv q) (lv q) w i (nI tn)), .int tr, .ref so, .ref sl, .ref ce, .int (nI n), .int bar, .int (nI tn), .ref ki, .ref si, .ref th, .ref ri, .int at_, .int rp, .ref rk, .ref rs, .ref kt, .ref kr, .int kn, .int rg, .ref ab, .int am, .ref bh, .int bm, .int br, .int (nI rn), .ref wa, .ref ra])), (so, .inl (cI, 4, .inl sv)), (sl, .inl (cI, 4, .inl lv)), (ce, .inl (cI, 240, .inl cv)), (si, .inl (cI, 9, .inl sd)), (th, .inl (cI, 3, .inl ts))]) [5, 0, 1, 2, 3, 4] rfl
          have hD := hD.sub (ws' := [(x, .inr (7, [.int (agI (sv q) (lv q) w i (nI tn)), .int tr, .ref so, .ref sl, .ref ce, .int (nI n), .int bar, .int (nI tn), .ref ki, .ref si, .ref th, .ref ri, .int at_, .int rp, .ref rk, .ref rs, .ref kt, .ref kr, .int kn, .int rg, .ref ab, .int am, .ref bh, .int bm, .int br, .int (nI rn), .ref wa, .ref ra])), (so, .inl (cI, 4, .inl sv)), (sl, .inl (cI, 4, .inl lv)), (ce, .inl (cI, 240, .inl cv)), (si, .inl (cI, 9, .inl sd)), (th, .inl (cI, 3, .inl ts))]) [5, 0, 1, 2, 3, 4] (by decide) rfl
          obtain rfl := w55
          exact W.iret (v := -10 - (agI (sv q) (lv q) w i (nI tn))) hx hb hr (fun t ht hW => ⟨⟨_, (agI (sv q) (lv q) w i (nI tn)), rfl, by rw [cq]; rw [show tgM n sd tn ts (nI q) w (sv q) (lv q) cv i = (-10 - agI (sv q) (lv q) w i (nI tn), agI (sv q) (lv q) w i (nI tn)) from by unfold tgM; rw [if_pos hk, if_pos b15, if_neg c28, if_neg c49]]; exact ⟨rfl, rfl⟩, by rw [ht]; exact hP, va_K.moved hW.alike hK, hD⟩, hS.F ht⟩) hS.2.2 dX7_together_58
      · -- f28
        refine lv_bipush (v := -3) hx hb dX7_together_31 (by decide) ?_
        exact W.iret (v := -3) hx hb hr (fun t ht hW => ⟨⟨_, 0, rfl, by rw [cq]; rw [show tgM n sd tn ts (nI q) w (sv q) (lv q) cv i = (-3, 0) from by unfold tgM; rw [if_pos hk, if_pos b15, if_pos c28]]; exact ⟨rfl, rfl⟩, by rw [ht]; exact hP, va_K.moved hW.alike hK, hD⟩, hS.F ht⟩) hS.2.2 dX7_together_33
    · -- n15
      obtain rfl := w15.2 b15
      refine lv_if_ne (tgt := 24) hx hb dX7_together_18 (by decide) (fun h => absurd (by decide) h) (fun _ => ?_)
      refine lv_bipush (v := -2) hx hb dX7_together_21 (by decide) ?_
      exact W.iret (v := -2) hx hb hr (fun t ht hW => ⟨⟨_, 0, rfl, by rw [show tgM n sd tn ts (nI q) w (sv (nI q).toNatClampNeg) (lv (nI q).toNatClampNeg) cv i = (-2, 0) from by unfold tgM; rw [if_pos hk, if_neg b15]]; exact ⟨rfl, rfl⟩, by rw [ht]; exact hP, va_K.moved hW.alike hK, hD⟩, hS.F ht⟩) hS.2.2 dX7_together_23
  · -- n6
    obtain rfl := w6.2 b6
    have hk := b6
    refine lv_if_ne (tgt := 14) hx hb dX7_together_9 (by decide) (fun h => absurd (by decide) h) (fun _ => ?_)
    refine lv_iconst (v := -1) hx hb dX7_together_12 (by decide) ?_
    exact W.iret (v := -1) hx hb hr (fun t ht hW => ⟨⟨_, 0, rfl, by rw [show tgM n sd tn ts kq w (sv kq.toNatClampNeg) (lv kq.toNatClampNeg) cv i = (-1, 0) from by exact if_neg hk]; exact ⟨rfl, rfl⟩, by rw [ht]; exact hP, va_K.moved hW.alike hK, hD⟩, hS.F ht⟩) hS.2.2 dX7_together_13

set_option maxHeartbeats 4000000 in
set_option maxRecDepth 100000 in
theorem c_X7_inLeastTerms (l : Launch) (D : va_G) (cI cO : ClassId) (u : Nat) (d : Nat) (wh : Int32) (hu : u ≤ 600) (hd : d ≤ 600) (hd0 : 0 < d) : Met l yX7_inLeastTerms wsX7_inLeastTerms ({ frames := 0, cells := 0, slots := 0, locals := 0 } : Room) (va_Pc [.long (lN u), .long (lN d), .int wh] (wdR D cI cO [])) (vp_Sl (fun r => r = (if wh = 0 then lN (u / Nat.gcd u d) else lN (d / Nat.gcd u d)))) 0 0 (fun _ => False) := by
  refine Met.ofW (cc := cX7_inLeastTerms) (maxL := 11) (ret := (some .long)) (by decide) rfl ?_
  intro p e s m args below meth c s₁ B hml hv
  obtain ⟨rfl, hP, hK, hNw⟩ := hv
  have hx := B.exec
  have hb := B.bytes
  have hr := B.returns
  have hts := atoms_spec (ws := wsX7_inLeastTerms) B.pre
  have hown : s.vm.findClass RX7 = some m.cls := findClass_of_methodNamed B.named
  have hlocks := B.notSynchronized
  have hP : va_P D vwCl [] s.heap := hP
  have hl := lv_entry ([.long (lN u), .long (lN d), .int wh]) (n := 11) (Nat.le_of_ble_eq_true rfl)
  rw [lg_entry_eq]
  generalize (lg_sl ([.long (lN u), .long (lN d), .int wh]) ++ List.replicate (11 - (lg_sl ([.long (lN u), .long (lN d), .int wh])).length) Slot.unset).toArray = ls at hl ⊢
  have hl : lv_has ls 11 [(0, .long (lN u)), (2, .long (lN d)), (4, .int wh)] := hl
  refine lv_lload_n hx hb dX7_inLeastTerms_0 rfl (lv_at hl 0 rfl) ?_
  refine lv_lstore (lv' := [(5, .long (lN u)), (0, .long (lN u)), (2, .long (lN d)), (4, .int wh)]) hx hb dX7_inLeastTerms_1 hl (by decide) rfl (fun ls hl => ?_)
  refine lv_lload_n hx hb dX7_inLeastTerms_3 rfl (lv_at hl 2 rfl) ?_
  refine lv_lstore (lv' := [(7, .long (lN d)), (5, .long (lN u)), (0, .long (lN u)), (2, .long (lN d)), (4, .int wh)]) hx hb dX7_inLeastTerms_4 hl (by decide) rfl (fun ls hl => ?_)
  have lp6 : ∀ (fu6 : Nat) (x_ : Nat) (y_ : Nat) (hx6 : x_ ≤ 600) (hy6 : y_ ≤ 600) (hq : Nat.gcd x_ y_ = Nat.gcd u d) (hm6 : y_ < fu6) (ls : Array Slot) (hl : lv_has ls 11 [(0, .long (lN u)), (2, .long (lN d)), (4, .int wh), (5, .long (lN x_)), (7, .long (lN y_))]), W p l e (headSpec wsX7_inLeastTerms ({ frames := 0, cells := 0, slots := 0, locals := 0 } : Room)).room s m ([.long (lN u), .long (lN d), .int wh]).toArray below meth c s.heap [] 0 0 (MQ below (vp_Sl (fun r => r = (if wh = 0 then lN (u / Nat.gcd u d) else lN (d / Nat.gcd u d)))) ([.long (lN u), .long (lN d), .int wh]).toArray s 0 0 (fun _ => False)) (F0 m 6 ls []) := by
    intro fu6
    induction fu6 with
    | zero =>
      intros; omega
    | succ fu6 ih6 =>
      intro x_ y_ hx6 hy6 hq hm6 ls hl
      refine lv_lload hx hb dX7_inLeastTerms_6 (lv_at hl 4 rfl) ?_
      refine lv_lconst (v := 0) hx hb dX7_inLeastTerms_8 (by decide) ?_
      refine W.lcmp hx hb dX7_inLeastTerms_9 ?_
      refine lv_if_eq (tgt := 31) hx hb dX7_inLeastTerms_10 (by decide) (fun c10 => ?_) (fun c10 => ?_)
      · -- t10
        have z10 : y_ = 0 := (cmp0 (by omega)).mp c10
        have hg0 : 0 < Nat.gcd u d := Nat.gcd_pos_of_pos_right u hd0
        have hgx : x_ = Nat.gcd u d := by rw [← hq, z10, Nat.gcd_zero_right]
        have hxz : ¬ lN x_ = 0 := fun q => by have := (lN_eq (by omega) (by decide)).mp (show lN x_ = lN 0 from q); omega
        refine lv_iload hx hb dX7_inLeastTerms_31 (lv_at hl 2 rfl) ?_
        refine lv_if_ne (tgt := 43) hx hb dX7_inLeastTerms_33 (by decide) (fun c33 => ?_) (fun c33 => ?_)
        · -- t33
          refine lv_lload_n hx hb dX7_inLeastTerms_43 rfl (lv_at hl 1 rfl) ?_
          refine lv_lload hx hb dX7_inLeastTerms_44 (lv_at hl 3 rfl) ?_
          refine lv_ldiv hx hb dX7_inLeastTerms_46 (by assumption) ?_
          refine tp_l (y := lN (d / x_)) (pk_lDiv (by omega) (by omega) (by omega)) ?_
          exact W.lret (v := lN (d / x_)) hx hb hr (fun t ht hW => ⟨_, rfl, by simp [*], ht⟩) (fun _ h => absurd h List.not_mem_nil) dX7_inLeastTerms_47
        · -- f33
          refine lv_lload_n hx hb dX7_inLeastTerms_36 rfl (lv_at hl 0 rfl) ?_
          refine lv_lload hx hb dX7_inLeastTerms_37 (lv_at hl 3 rfl) ?_
          refine lv_ldiv hx hb dX7_inLeastTerms_39 (by assumption) ?_
          refine tp_l (y := lN (u / x_)) (pk_lDiv (by omega) (by omega) (by omega)) ?_
          refine lv_goto (tgt := 47) hx hb dX7_inLeastTerms_40 (by decide) ?_
          exact W.lret (v := lN (u / x_)) hx hb hr (fun t ht hW => ⟨_, rfl, by simp [*], ht⟩) (fun _ h => absurd h List.not_mem_nil) dX7_inLeastTerms_47
      · -- f10
        have z10 : ¬ y_ = 0 := fun q => c10 ((cmp0 (by omega)).mpr q)
        have hyz : ¬ lN y_ = 0 := fun q => z10 ((lN_eq (by omega) (by decide)).mp (show lN y_ = lN 0 from q))
        refine lv_lload hx hb dX7_inLeastTerms_13 (lv_at hl 3 rfl) ?_
        refine lv_lload hx hb dX7_inLeastTerms_15 (lv_at hl 4 rfl) ?_
        refine lv_lrem hx hb dX7_inLeastTerms_17 (by assumption) ?_
        refine tp_l (y := lN (x_ % y_)) (pk_lRem (by omega) (by omega) (by omega)) ?_
        refine lv_lstore (lv' := [(9, .long (lN (x_ % y_))), (0, .long (lN u)), (2, .long (lN d)), (4, .int wh), (5, .long (lN x_)), (7, .long (lN y_))]) hx hb dX7_inLeastTerms_18 hl (by decide) rfl (fun ls hl => ?_)
        refine lv_lload hx hb dX7_inLeastTerms_20 (lv_at hl 5 rfl) ?_
        refine lv_lstore (lv' := [(5, .long (lN y_)), (9, .long (lN (x_ % y_))), (0, .long (lN u)), (2, .long (lN d)), (4, .int wh), (7, .long (lN y_))]) hx hb dX7_inLeastTerms_22 hl (by decide) rfl (fun ls hl => ?_)
        refine lv_lload hx hb dX7_inLeastTerms_24 (lv_at hl 1 rfl) ?_
        refine lv_lstore (lv' := [(7, .long (lN (x_ % y_))), (5, .long (lN y_)), (9, .long (lN (x_ % y_))), (0, .long (lN u)), (2, .long (lN d)), (4, .int wh)]) hx hb dX7_inLeastTerms_26 hl (by decide) rfl (fun ls hl => ?_)
        refine lv_goto (tgt := 6) hx hb dX7_inLeastTerms_28 (by decide) ?_
        exact ih6 y_ (x_ % y_) (hy6) (Nat.le_trans (Nat.mod_le _ _) hx6) (by rw [← hq, Nat.gcd_comm x_ y_, Nat.gcd_rec y_ x_, Nat.gcd_comm]) (by have q := Nat.mod_lt x_ (Nat.pos_of_ne_zero z10); omega) _ (lv_sub hl [3, 4, 5, 1, 0] rfl)
  exact lp6 _ u d (hu) (hd) (rfl) (Nat.lt_succ_self _) _ (lv_sub hl [2, 3, 4, 1, 0] rfl)
