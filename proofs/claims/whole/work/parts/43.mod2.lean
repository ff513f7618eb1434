set_option maxHeartbeats 4000000 in
set_option maxRecDepth 100000 in
theorem c_X7_ringing (l : Launch) (D : va_G) (cI cO : ClassId) (x : Nat) (fa : Int32) (tr : Int32) (so : Nat) (sl : Nat) (ce : Nat) (n : Nat) (bar : Int32) (tn : Nat) (ki : Nat) (si : Nat) (th : Nat) (ri : Nat) (at_ : Int32) (rp : Int32) (rk : Nat) (rs : Nat) (kt : Nat) (kr : Nat) (kn : Int32) (rg : Int32) (ab : Nat) (am : Int32) (bh : Nat) (bm : Int32) (br : Int32) (rn : Nat) (wa : Nat) (ra : Nat) (tl : Nat → Int32) (ht3 : tn ≤ 3) : Met l yX7_ringing wsX7_ringing ({ frames := 0, cells := 0, slots := 0, locals := 0 } : Room) (va_Pc [.ref x] (wdR D cI cO [(x, .inr (7, [.int fa, .int tr, .ref so, .ref sl, .ref ce, .int (nI n), .int bar, .int (nI tn), .ref ki, .ref si, .ref th, .ref ri, .int at_, .int rp, .ref rk, .ref rs, .ref kt, .ref kr, .int kn, .int rg, .ref ab, .int am, .ref bh, .int bm, .int br, .int (nI rn), .ref wa, .ref ra])), (ri, .inl (cI, 3, .inl tl))])) (vp_Si (fun r => r = (cntW tl tn))) 0 0 (fun _ => False) := by
  refine Met.ofW (cc := cX7_ringing) (maxL := 3) (ret := (some .int)) (by decide) rfl ?_
  intro p e s m args below meth c s₁ B hml hv
  obtain ⟨rfl, hP, hK, hNw⟩ := hv
  have hx := B.exec
  have hb := B.bytes
  have hr := B.returns
  have hts := atoms_spec (ws := wsX7_ringing) B.pre
  have hown : s.vm.findClass RX7 = some m.cls := findClass_of_methodNamed B.named
  have hlocks := B.notSynchronized
  have f28 := hts (.fieldLink RX7 28 "StruckThreesModel" "rings" "[I") (by decide +kernel)
  have f68 := hts (.fieldLink RX7 68 "StruckThreesModel" "threes" "I") (by decide +kernel)
  have iX7 : ∀ w ∈ wsX70, w ∈ wsX7_ringing := by decide +kernel
  have hP : va_P D vwCl [(x, .inr (7, [.int fa, .int tr, .ref so, .ref sl, .ref ce, .int (nI n), .int bar, .int (nI tn), .ref ki, .ref si, .ref th, .ref ri, .int at_, .int rp, .ref rk, .ref rs, .ref kt, .ref kr, .int kn, .int rg, .ref ab, .int am, .ref bh, .int bm, .int br, .int (nI rn), .ref wa, .ref ra])), (ri, .inl (cI, 3, .inl tl))] s.heap := hP
  have hl := lv_entry ([.ref x]) (n := 3) (Nat.le_of_ble_eq_true rfl)
  rw [lg_entry_eq]
  generalize (lg_sl ([.ref x]) ++ List.replicate (3 - (lg_sl ([.ref x])).length) Slot.unset).toArray = ls at hl ⊢
  have hl : lv_has ls 3 [(0, .ref x)] := hl
  refine lv_iconst (v := 0) hx hb dX7_ringing_0 (by decide) ?_
  refine lv_istore_n (lv' := [(1, .int 0), (0, .ref x)]) hx hb dX7_ringing_1 rfl hl (by decide) rfl (fun ls hl => ?_)
  refine lv_iconst (v := 0) hx hb dX7_ringing_2 (by decide) ?_
  refine lv_istore_n (lv' := [(2, .int 0), (1, .int 0), (0, .ref x)]) hx hb dX7_ringing_3 rfl hl (by decide) rfl (fun ls hl => ?_)
  have lp4 : ∀ (fu4 : Nat) (i : Nat) (hi : i ≤ tn) (hm4 : tn - i < fu4) (ls : Array Slot) (hl : lv_has ls 3 [(0, .ref x), (1, .int (cntW tl i)), (2, .int (nI i))]), W p l e (headSpec wsX7_ringing ({ frames := 0, cells := 0, slots := 0, locals := 0 } : Room)).room s m ([.ref x]).toArray below meth c s.heap [] 0 0 (MQ below (vp_Si (fun r => r = (cntW tl tn))) ([.ref x]).toArray s 0 0 (fun _ => False)) (F0 m 4 ls []) := by
    intro fu4
    induction fu4 with
    | zero =>
      intros; omega
    | succ fu4 ih4 =>
      intro i hi hm4 ls hl
      refine lv_iload_n hx hb dX7_ringing_4 rfl (lv_at hl 2 rfl) ?_
      refine lv_aload_n hx hb dX7_ringing_5 rfl (lv_at hl 0 rfl) ?_
      refine va_get (D := D) (ci := 7) (v := .int (nI tn)) (C := RX7) (T := TX7) (N := 28) hx hb hts iX7 hown hK hP 0 rfl rfl 7 (by decide) f68 (fun _ h9 => h9) rfl dX7_ringing_6 ?_
      refine lv_icmp_ge (tgt := 35) hx hb dX7_ringing_9 (by decide) (fun c9 => ?_) (fun c9 => ?_)
      · -- t9
        have e9 : i = tn := by have q := ge_n (by omega) (by omega) c9; omega
        rw [e9] at hl
        refine lv_iload_n hx hb dX7_ringing_35 rfl (lv_at hl 1 rfl) ?_
        exact W.iret (v := cntW tl tn) hx hb hr (fun t ht hW => ⟨_, rfl, by rfl, ht⟩) (fun _ h => absurd h List.not_mem_nil) dX7_ringing_36
      · -- f9
        have l9 : i < tn := lt_n (by omega) (by omega) c9
        refine lv_iload_n hx hb dX7_ringing_12 rfl (lv_at hl 1 rfl) ?_
        refine lv_aload_n hx hb dX7_ringing_13 rfl (lv_at hl 0 rfl) ?_
        refine va_get (D := D) (ci := 7) (v := .ref ri) (C := RX7) (T := TX7) (N := 28) hx hb hts iX7 hown hK hP 0 rfl rfl 11 (by decide) f28 (fun _ h9 => h9) rfl dX7_ringing_14 ?_
        refine lv_iload_n hx hb dX7_ringing_17 rfl (lv_at hl 2 rfl) ?_
        refine va_iald hx hb hK hP 1 0 rfl rfl (vp_in_nI (by omega) (by decide)) dX7_ringing_18 ?_
        refine tp_i (y := tl i) (by rw [nI_clamp (n := i) (by omega)]) ?_
        refine lv_if_le (tgt := 26) hx hb dX7_ringing_19 (by decide) (fun c19 => ?_) (fun c19 => ?_)
        · -- t19
          refine lv_iconst (v := 0) hx hb dX7_ringing_26 (by decide) ?_
          refine lv_iadd hx hb dX7_ringing_27 ?_
          refine lv_istore_n (lv' := [(1, .int ((cntW tl i) + 0)), (0, .ref x), (2, .int (nI i))]) hx hb dX7_ringing_28 rfl hl (by decide) rfl (fun ls hl => ?_)
          refine lv_iinc (v := nI (i + 1)) (lv' := [(2, .int (nI (i + 1))), (1, .int ((cntW tl i) + 0)), (0, .ref x)]) hx hb dX7_ringing_29 hl (k := 2) rfl (nI_1 _) (by decide) rfl (fun ls hl => ?_)
          refine lv_goto (tgt := 4) hx hb dX7_ringing_32 (by decide) ?_
          have e4_1 : ((cntW tl i) + 0) = cntW tl (i + 1) := by simp [cntW, c19]
          have hl : lv_has ls 3 [(2, .int (nI (i + 1))), (1, .int (cntW tl (i + 1))), (0, .ref x)] := by rw [← e4_1]; exact hl
          exact ih4 (i + 1) (by omega) (by omega) _ (lv_sub hl [2, 1, 0] rfl)
        · -- f19
          refine lv_iconst (v := 1) hx hb dX7_ringing_22 (by decide) ?_
          refine lv_goto (tgt := 27) hx hb dX7_ringing_23 (by decide) ?_
          refine lv_iadd hx hb dX7_ringing_27 ?_
          refine lv_istore_n (lv' := [(1, .int ((cntW tl i) + 1)), (0, .ref x), (2, .int (nI i))]) hx hb dX7_ringing_28 rfl hl (by decide) rfl (fun ls hl => ?_)
          refine lv_iinc (v := nI (i + 1)) (lv' := [(2, .int (nI (i + 1))), (1, .int ((cntW tl i) + 1)), (0, .ref x)]) hx hb dX7_ringing_29 hl (k := 2) rfl (nI_1 _) (by decide) rfl (fun ls hl => ?_)
          refine lv_goto (tgt := 4) hx hb dX7_ringing_32 (by decide) ?_
          have e4_1 : ((cntW tl i) + 1) = cntW tl (i + 1) := by simp [cntW, c19]
          have hl : lv_has ls 3 [(2, .int (nI (i + 1))), (1, .int (cntW tl (i + 1))), (0, .ref x)] := by rw [← e4_1]; exact hl
          exact ih4 (i + 1) (by omega) (by omega) _ (lv_sub hl [2, 1, 0] rfl)
  exact lp4 _ 0 (Nat.zero_le _) (Nat.lt_succ_self _) _ (lv_sub hl [2, 1, 0] rfl)

set_option maxHeartbeats 4000000 in
set_option maxRecDepth 100000 in
theorem c_X7_oneBar (l : Launch) (D : va_G) (cI cO : ClassId) (x : Nat) (fa : Int32) (tr : Int32) (so : Nat) (sl : Nat) (ce : Nat) (n : Nat) (bar : Int32) (tn : Nat) (ki : Nat) (si : Nat) (th : Nat) (ri : Nat) (at_ : Int32) (rp : Int32) (rk : Nat) (rs : Nat) (kt : Nat) (kr : Nat) (kn : Int32) (rg : Int32) (ab : Nat) (am : Int32) (bh : Nat) (bm : Int32) (br : Int32) (rn : Nat) (wa : Nat) (ra : Nat) (tl : Nat → Int32) (sz : Nat) (ht3 : tn ≤ 3) (hnn : nnT tl tn) : Met l yX7_oneBar wsX7_oneBar ({ frames := 0, cells := 0, slots := 0, locals := 0 } : Room) (va_Pc [.ref x] (wdW D cI cO [(x, .inr (7, [.int fa, .int tr, .ref so, .ref sl, .ref ce, .int (nI n), .int bar, .int (nI tn), .ref ki, .ref si, .ref th, .ref ri, .int at_, .int rp, .ref rk, .ref rs, .ref kt, .ref kr, .int kn, .int rg, .ref ab, .int am, .ref bh, .int bm, .int br, .int (nI rn), .ref wa, .ref ra])), (ri, .inl (cI, 3, .inl tl))] sz)) (va_Qv (S := (Nat → Int32)) (fun u => u = (goF tl 1 tn)) (fun u t => va_P D vwCl [(x, .inr (7, [.int fa, .int tr, .ref so, .ref sl, .ref ce, .int (nI n), .int bar, .int (nI tn), .ref ki, .ref si, .ref th, .ref ri, .int at_, .int rp, .ref rk, .ref rs, .ref kt, .ref kr, .int kn, .int rg, .ref ab, .int am, .ref bh, .int bm, .int br, .int (nI rn), .ref wa, .ref ra])), (ri, .inl (cI, 3, .inl u))] t.heap ∧ va_K D vwCl (tyL cI cO) t ∧ va_D (va_A [(x, .inr (7, [.int fa, .int tr, .ref so, .ref sl, .ref ce, .int (nI n), .int bar, .int (nI tn), .ref ki, .ref si, .ref th, .ref ri, .int at_, .int rp, .ref rk, .ref rs, .ref kt, .ref kr, .int kn, .int rg, .ref ab, .int am, .ref bh, .int bm, .int br, .int (nI rn), .ref wa, .ref ra])), (ri, .inl (cI, 3, .inl tl))] sz) [(x, .inr (7, [.int fa, .int tr, .ref so, .ref sl, .ref ce, .int (nI n), .int bar, .int (nI tn), .ref ki, .ref si, .ref th, .ref ri, .int at_, .int rp, .ref rk, .ref rs, .ref kt, .ref kr, .int kn, .int rg, .ref ab, .int am, .ref bh, .int bm, .int br, .int (nI rn), .ref wa, .ref ra])), (ri, .inl (cI, 3, .inl u))]) (va_A [(x, .inr (7, [.int fa, .int tr, .ref so, .ref sl, .ref ce, .int (nI n), .int bar, .int (nI tn), .ref ki, .ref si, .ref th, .ref ri, .int at_, .int rp, .ref rk, .ref rs, .ref kt, .ref kr, .int kn, .int rg, .ref ab, .int am, .ref bh, .int bm, .int br, .int (nI rn), .ref wa, .ref ra])), (ri, .inl (cI, 3, .inl tl))] sz)) 0 0 (va_A [(x, .inr (7, [.int fa, .int tr, .ref so, .ref sl, .ref ce, .int (nI n), .int bar, .int (nI tn), .ref ki, .ref si, .ref th, .ref ri, .int at_, .int rp, .ref rk, .ref rs, .ref kt, .ref kr, .int kn, .int rg, .ref ab, .int am, .ref bh, .int bm, .int br, .int (nI rn), .ref wa, .ref ra])), (ri, .inl (cI, 3, .inl tl))] sz) := by
  refine Met.ofW (cc := cX7_oneBar) (maxL := 2) (ret := none) (by decide) rfl ?_
  intro p e s m args below meth c s₁ B hml hv
  obtain ⟨rfl, hsz, hP, hK, hNw, hD0⟩ := hv
  have hx := B.exec
  have hb := B.bytes
  have hr := B.returns
  have hts := atoms_spec (ws := wsX7_oneBar) B.pre
  have hown : s.vm.findClass RX7 = some m.cls := findClass_of_methodNamed B.named
  have hlocks := B.notSynchronized
  have f28 := hts (.fieldLink RX7 28 "StruckThreesModel" "rings" "[I") (by decide +kernel)
  have f68 := hts (.fieldLink RX7 68 "StruckThreesModel" "threes" "I") (by decide +kernel)
  have iX7 : ∀ w ∈ wsX70, w ∈ wsX7_oneBar := by decide +kernel
  subst hsz
  have hD := hD0.self (sz := s.heap.size)
  generalize hAe : va_A [(x, .inr (7, [.int fa, .int tr, .ref so, .ref sl, .ref ce, .int (nI n), .int bar, .int (nI tn), .ref ki, .ref si, .ref th, .ref ri, .int at_, .int rp, .ref rk, .ref rs, .ref kt, .ref kr, .int kn, .int rg, .ref ab, .int am, .ref bh, .int bm, .int br, .int (nI rn), .ref wa, .ref ra])), (ri, .inl (cI, 3, .inl tl))] s.heap.size = A at hD ⊢
  have hA : ∀ q : Nat, s.heap.size ≤ q → A q := fun q h => by rw [← hAe]; exact Or.inr h
  have hS : va_S A s.heap s.heap [] := va_S.rf
  have hP : va_P D vwCl [(x, .inr (7, [.int fa, .int tr, .ref so, .ref sl, .ref ce, .int (nI n), .int bar, .int (nI tn), .ref ki, .ref si, .ref th, .ref ri, .int at_, .int rp, .ref rk, .ref rs, .ref kt, .ref kr, .int kn, .int rg, .ref ab, .int am, .ref bh, .int bm, .int br, .int (nI rn), .ref wa, .ref ra])), (ri, .inl (cI, 3, .inl tl))] s.heap := hP
  have hl := lv_entry ([.ref x]) (n := 2) (Nat.le_of_ble_eq_true rfl)
  rw [lg_entry_eq]
  generalize (lg_sl ([.ref x]) ++ List.replicate (2 - (lg_sl ([.ref x])).length) Slot.unset).toArray = ls at hl ⊢
  have hl : lv_has ls 2 [(0, .ref x)] := hl
  refine lv_iconst (v := 0) hx hb dX7_oneBar_0 (by decide) ?_
  refine lv_istore_n (lv' := [(1, .int 0), (0, .ref x)]) hx hb dX7_oneBar_1 rfl hl (by decide) rfl (fun ls hl => ?_)
  have lp2 : ∀ (fu2 : Nat) (i : Nat) (hi : i ≤ tn) (hm2 : tn - i < fu2) (H : Heap) (locs : List Loc) (hP : va_P D vwCl [(x, .inr (7, [.int fa, .int tr, .ref so, .ref sl, .ref ce, .int (nI n), .int bar, .int (nI tn), .ref ki, .ref si, .ref th, .ref ri, .int at_, .int rp, .ref rk, .ref rs, .ref kt, .ref kr, .int kn, .int rg, .ref ab, .int am, .ref bh, .int bm, .int br, .int (nI rn), .ref wa, .ref ra])), (ri, .inl (cI, 3, .inl (goF tl 1 i)))] H) (hD : va_D A [(x, .inr (7, [.int fa, .int tr, .ref so, .ref sl, .ref ce, .int (nI n), .int bar, .int (nI tn), .ref ki, .ref si, .ref th, .ref ri, .int at_, .int rp, .ref rk, .ref rs, .ref kt, .ref kr, .int kn, .int rg, .ref ab, .int am, .ref bh, .int bm, .int br, .int (nI rn), .ref wa, .ref ra])), (ri, .inl (cI, 3, .inl (goF tl 1 i)))]) (hS : va_S A s.heap H locs) (ls : Array Slot) (hl : lv_has ls 2 [(0, .ref x), (1, .int (nI i))]), W p l e (headSpec wsX7_oneBar ({ frames := 0, cells := 0, slots := 0, locals := 0 } : Room)).room s m ([.ref x]).toArray below meth c H locs 0 0 (MQ below (va_Qv (S := (Nat → Int32)) (fun u => u = (goF tl 1 tn)) (fun u t => va_P D vwCl [(x, .inr (7, [.int fa, .int tr, .ref so, .ref sl, .ref ce, .int (nI n), .int bar, .int (nI tn), .ref ki, .ref si, .ref th, .ref ri, .int at_, .int rp, .ref rk, .ref rs, .ref kt, .ref kr, .int kn, .int rg, .ref ab, .int am, .ref bh, .int bm, .int br, .int (nI rn), .ref wa, .ref ra])), (ri, .inl (cI, 3, .inl u))] t.heap ∧ va_K D vwCl (tyL cI cO) t ∧ va_D A [(x, .inr (7, [.int fa, .int tr, .ref so, .ref sl, .ref ce, .int (nI n), .int bar, .int (nI tn), .ref ki, .ref si, .ref th, .ref ri, .int at_, .int rp, .ref rk, .ref rs, .ref kt, .ref kr, .int kn, .int rg, .ref ab, .int am, .ref bh, .int bm, .int br, .int (nI rn), .ref wa, .ref ra])), (ri, .inl (cI, 3, .inl u))]) A) ([.ref x]).toArray s 0 0 A) (F0 m 2 ls []) := by
    intro fu2
    induction fu2 with
    | zero =>
      intros; omega
    | succ fu2 ih2 =>
      intro i hi hm2 H locs hP hD hS ls hl
      refine lv_iload_n hx hb dX7_oneBar_2 rfl (lv_at hl 1 rfl) ?_
      refine lv_aload_n hx hb dX7_oneBar_3 rfl (lv_at hl 0 rfl) ?_
      refine va_get (D := D) (ci := 7) (v := .int (nI tn)) (C := RX7) (T := TX7) (N := 28) hx hb hts iX7 hown hK hP 0 rfl rfl 7 (by decide) f68 (fun _ h9 => h9) rfl dX7_oneBar_4 ?_
      refine lv_icmp_ge (tgt := 39) hx hb dX7_oneBar_7 (by decide) (fun c7 => ?_) (fun c7 => ?_)
      · -- t7
        have e7 : i = tn := by have q := ge_n (by omega) (by omega) c7; omega
        rw [e7] at hl
        rw [e7] at hP hD
        exact W.vret hx hb hr (fun t ht hW => ⟨⟨(goF tl 1 tn), rfl, by rfl, by rw [ht]; exact hP, va_K.moved hW.alike hK, hD⟩, hS.F ht⟩) hS.2.2 dX7_oneBar_39
      · -- f7
        have l7 : i < tn := lt_n (by omega) (by omega) c7
        have eg : goF tl 1 i i = tl i := if_neg (Nat.lt_irrefl i)
        refine lv_aload_n hx hb dX7_oneBar_10 rfl (lv_at hl 0 rfl) ?_
        refine va_get (D := D) (ci := 7) (v := .ref ri) (C := RX7) (T := TX7) (N := 28) hx hb hts iX7 hown hK hP 0 rfl rfl 11 (by decide) f28 (fun _ h9 => h9) rfl dX7_oneBar_11 ?_
        refine lv_iload_n hx hb dX7_oneBar_14 rfl (lv_at hl 1 rfl) ?_
        refine lv_dup2_11 hx hb dX7_oneBar_15 rfl rfl ?_
        refine va_iald hx hb hK hP 1 0 rfl rfl (vp_in_nI (by omega) (by decide)) dX7_oneBar_16 ?_
        refine tp_i (y := (goF tl 1 i) i) (by rw [nI_clamp (n := i) (by omega)]) ?_
        refine lv_aload_n hx hb dX7_oneBar_17 rfl (lv_at hl 0 rfl) ?_
        refine va_get (D := D) (ci := 7) (v := .ref ri) (C := RX7) (T := TX7) (N := 28) hx hb hts iX7 hown hK hP 0 rfl rfl 11 (by decide) f28 (fun _ h9 => h9) rfl dX7_oneBar_18 ?_
        refine lv_iload_n hx hb dX7_oneBar_21 rfl (lv_at hl 1 rfl) ?_
        refine va_iald hx hb hK hP 1 0 rfl rfl (vp_in_nI (by omega) (by decide)) dX7_oneBar_22 ?_
        refine tp_i (y := (goF tl 1 i) i) (by rw [nI_clamp (n := i) (by omega)]) ?_
        refine lv_if_le (tgt := 30) hx hb dX7_oneBar_23 (by decide) (fun c23 => ?_) (fun c23 => ?_)
        · -- t23
          rw [eg] at c23
          refine lv_iconst (v := 0) hx hb dX7_oneBar_30 (by decide) ?_
          refine lv_isub hx hb dX7_oneBar_31 ?_
          refine va_iast hx hb hK hP hD hS 1 0 rfl rfl (vp_in_nI (by omega) (by decide)) dX7_oneBar_32 (fun H locs hP hD hS => ?_)
          rw [nI_clamp (n := i) (by omega)] at hP hD
          have hP : va_P D vwCl [(x, .inr (7, [.int fa, .int tr, .ref so, .ref sl, .ref ce, .int (nI n), .int bar, .int (nI tn), .ref ki, .ref si, .ref th, .ref ri, .int at_, .int rp, .ref rk, .ref rs, .ref kt, .ref kr, .int kn, .int rg, .ref ab, .int am, .ref bh, .int bm, .int br, .int (nI rn), .ref wa, .ref ra])), (ri, .inl (cI, 3, .inl (upd (goF tl 1 i) i (((goF tl 1 i) i) - 0))))] H := hP
          have hD : va_D A [(x, .inr (7, [.int fa, .int tr, .ref so, .ref sl, .ref ce, .int (nI n), .int bar, .int (nI tn), .ref ki, .ref si, .ref th, .ref ri, .int at_, .int rp, .ref rk, .ref rs, .ref kt, .ref kr, .int kn, .int rg, .ref ab, .int am, .ref bh, .int bm, .int br, .int (nI rn), .ref wa, .ref ra])), (ri, .inl (cI, 3, .inl (upd (goF tl 1 i) i (((goF tl 1 i) i) - 0))))] := hD
          refine lv_iinc (v := nI (i + 1)) (lv' := [(1, .int (nI (i + 1))), (0, .ref x)]) hx hb dX7_oneBar_33 hl (k := 1) rfl (nI_1 _) (by decide) rfl (fun ls hl => ?_)
          refine lv_goto (tgt := 2) hx hb dX7_oneBar_36 (by decide) ?_
          have ew2_1_0 : (upd (goF tl 1 i) i (((goF tl 1 i) i) - 0)) = goF tl 1 (i + 1) := by rw [← goF_s, eg]; first | rw [← go_y (hnn i l7) c23] | rw [← go_n (hnn i l7) c23]
          have hP : va_P D vwCl [(x, .inr (7, [.int fa, .int tr, .ref so, .ref sl, .ref ce, .int (nI n), .int bar, .int (nI tn), .ref ki, .ref si, .ref th, .ref ri, .int at_, .int rp, .ref rk, .ref rs, .ref kt, .ref kr, .int kn, .int rg, .ref ab, .int am, .ref bh, .int bm, .int br, .int (nI rn), .ref wa, .ref ra])), (ri, .inl (cI, 3, .inl (goF tl 1 (i + 1))))] H := by rw [← ew2_1_0]; exact hP
          have hD : va_D A [(x, .inr (7, [.int fa, .int tr, .ref so, .ref sl, .ref ce, .int (nI n), .int bar, .int (nI tn), .ref ki, .ref si, .ref th, .ref ri, .int at_, .int rp, .ref rk, .ref rs, .ref kt, .ref kr, .int kn, .int rg, .ref ab, .int am, .ref bh, .int bm, .int br, .int (nI rn), .ref wa, .ref ra])), (ri, .inl (cI, 3, .inl (goF tl 1 (i + 1))))] := by rw [← ew2_1_0]; exact hD
          exact ih2 (i + 1) (by omega) (by omega) _ _ hP hD hS _ (lv_sub hl [1, 0] rfl)
        · -- f23
          rw [eg] at c23
          refine lv_iconst (v := 1) hx hb dX7_oneBar_26 (by decide) ?_
          refine lv_goto (tgt := 31) hx hb dX7_oneBar_27 (by decide) ?_
          refine lv_isub hx hb dX7_oneBar_31 ?_
          refine va_iast hx hb hK hP hD hS 1 0 rfl rfl (vp_in_nI (by omega) (by decide)) dX7_oneBar_32 (fun H locs hP hD hS => ?_)
          rw [nI_clamp (n := i) (by omega)] at hP hD
          have hP : va_P D vwCl [(x, .inr (7, [.int fa, .int tr, .ref so, .ref sl, .ref ce, .int (nI n), .int bar, .int (nI tn), .ref ki, .ref si, .ref th, .ref ri, .int at_, .int rp, .ref rk, .ref rs, .ref kt, .ref kr, .int kn, .int rg, .ref ab, .int am, .ref bh, .int bm, .int br, .int (nI rn), .ref wa, .ref ra])), (ri, .inl (cI, 3, .inl (upd (goF tl 1 i) i (((goF tl 1 i) i) - 1))))] H := hP
          have hD : va_D A [(x, .inr (7, [.int fa, .int tr, .ref so, .ref sl, .ref ce, .int (nI n), .int bar, .int (nI tn), .ref ki, .ref si, .ref th, .ref ri, .int at_, .int rp, .ref rk, .ref rs, .ref kt, .ref kr, .int kn, .int rg, .ref ab, .int am, .ref bh, .int bm, .int br, .int (nI rn), .ref wa, .ref ra])), (ri, .inl (cI, 3, .inl (upd (goF tl 1 i) i (((goF tl 1 i) i) - 1))))] := hD
          refine lv_iinc (v := nI (i + 1)) (lv' := [(1, .int (nI (i + 1))), (0, .ref x)]) hx hb dX7_oneBar_33 hl (k := 1) rfl (nI_1 _) (by decide) rfl (fun ls hl => ?_)
          refine lv_goto (tgt := 2) hx hb dX7_oneBar_36 (by decide) ?_
          have ew2_1_0 : (upd (goF tl 1 i) i (((goF tl 1 i) i) - 1)) = goF tl 1 (i + 1) := by rw [← goF_s, eg]; first | rw [← go_y (hnn i l7) c23] | rw [← go_n (hnn i l7) c23]
          have hP : va_P D vwCl [(x, .inr (7, [.int fa, .int tr, .ref so, .ref sl, .ref ce, .int (nI n), .int bar, .int (nI tn), .ref ki, .ref si, .ref th, .ref ri, .int at_, .int rp, .ref rk, .ref rs, .ref kt, .ref kr, .int kn, .int rg, .ref ab, .int am, .ref bh, .int bm, .int br, .int (nI rn), .ref wa, .ref ra])), (ri, .inl (cI, 3, .inl (goF tl 1 (i + 1))))] H := by rw [← ew2_1_0]; exact hP
          have hD : va_D A [(x, .inr (7, [.int fa, .int tr, .ref so, .ref sl, .ref ce, .int (nI n), .int bar, .int (nI tn), .ref ki, .ref si, .ref th, .ref ri, .int at_, .int rp, .ref rk, .ref rs, .ref kt, .ref kr, .int kn, .int rg, .ref ab, .int am, .ref bh, .int bm, .int br, .int (nI rn), .ref wa, .ref ra])), (ri, .inl (cI, 3, .inl (goF tl 1 (i + 1))))] := by rw [← ew2_1_0]; exact hD
          exact ih2 (i + 1) (by omega) (by omega) _ _ hP hD hS _ (lv_sub hl [1, 0] rfl)
  have ew2_1_0 : tl = goF tl 1 0 := by exact (goF_0 tl 1).symm
  have hP : va_P D vwCl [(x, .inr (7, [.int fa, .int tr, .ref so, .ref sl, .ref ce, .int (nI n), .int bar, .int (nI tn), .ref ki, .ref si, .ref th, .ref ri, .int at_, .int rp, .ref rk, .ref rs, .ref kt, .ref kr, .int kn, .int rg, .ref ab, .int am, .ref bh, .int bm, .int br, .int (nI rn), .ref wa, .ref ra])), (ri, .inl (cI, 3, .inl (goF tl 1 0)))] s.heap := by rw [← ew2_1_0]; exact hP
  have hD : va_D A [(x, .inr (7, [.int fa, .int tr, .ref so, .ref sl, .ref ce, .int (nI n), .int bar, .int (nI tn), .ref ki, .ref si, .ref th, .ref ri, .int at_, .int rp, .ref rk, .ref rs, .ref kt, .ref kr, .int kn, .int rg, .ref ab, .int am, .ref bh, .int bm, .int br, .int (nI rn), .ref wa, .ref ra])), (ri, .inl (cI, 3, .inl (goF tl 1 0)))] := by rw [← ew2_1_0]; exact hD
  exact lp2 _ 0 (Nat.zero_le _) (Nat.lt_succ_self _) _ _ hP hD hS _ (lv_sub hl [1, 0] rfl)

set_option maxHeartbeats 4000000 in
set_option maxRecDepth 100000 in
theorem c_X7_takeDown (l : Launch) (D : va_G) (cI cO : ClassId) (x : Nat) (fa : Int32) (tr : Int32) (so : Nat) (sl : Nat) (ce : Nat) (n : Nat) (bar : Int32) (tn : Nat) (ki : Nat) (si : Nat) (th : Nat) (ri : Nat) (at_ : Int32) (rp : Int32) (rk : Nat) (rs : Nat) (kt : Nat) (kr : Nat) (kn : Int32) (rg : Int32) (ab : Nat) (am : Int32) (bh : Nat) (bm : Int32) (br : Int32) (rn : Nat) (wa : Nat) (ra : Nat) (ts : Nat → Int32) (tl : Nat → Int32) (j : Nat) (sz : Nat) (ht3 : tn ≤ 3) (hj : j < tn) : Met l yX7_takeDown wsX7_takeDown ({ frames := 0, cells := 0, slots := 0, locals := 0 } : Room) (va_Pc [.ref x, .int (nI j)] (wdW D cI cO [(x, .inr (7, [.int fa, .int tr, .ref so, .ref sl, .ref ce, .int (nI n), .int bar, .int (nI tn), .ref ki, .ref si, .ref th, .ref ri, .int at_, .int rp, .ref rk, .ref rs, .ref kt, .ref kr, .int kn, .int rg, .ref ab, .int am, .ref bh, .int bm, .int br, .int (nI rn), .ref wa, .ref ra])), (th, .inl (cI, 3, .inl ts)), (ri, .inl (cI, 3, .inl tl))] sz)) (va_Qv (S := (Nat → Int32) × (Nat → Int32)) (fun u => u.1 = (shF ts j tn) ∧ u.2 = (shF tl j tn)) (fun u t => va_P D vwCl [(x, .inr (7, [.int fa, .int tr, .ref so, .ref sl, .ref ce, .int (nI n), .int bar, .int (nI (tn - 1)), .ref ki, .ref si, .ref th, .ref ri, .int at_, .int rp, .ref rk, .ref rs, .ref kt, .ref kr, .int kn, .int rg, .ref ab, .int am, .ref bh, .int bm, .int br, .int (nI rn), .ref wa, .ref ra])), (th, .inl (cI, 3, .inl u.1)), (ri, .inl (cI, 3, .inl u.2))] t.heap ∧ va_K D vwCl (tyL cI cO) t ∧ va_D (va_A [(x, .inr (7, [.int fa, .int tr, .ref so, .ref sl, .ref ce, .int (nI n), .int bar, .int (nI tn), .ref ki, .ref si, .ref th, .ref ri, .int at_, .int rp, .ref rk, .ref rs, .ref kt, .ref kr, .int kn, .int rg, .ref ab, .int am, .ref bh, .int bm, .int br, .int (nI rn), .ref wa, .ref ra])), (th, .inl (cI, 3, .inl ts)), (ri, .inl (cI, 3, .inl tl))] sz) [(x, .inr (7, [.int fa, .int tr, .ref so, .ref sl, .ref ce, .int (nI n), .int bar, .int (nI (tn - 1)), .ref ki, .ref si, .ref th, .ref ri, .int at_, .int rp, .ref rk, .ref rs, .ref kt, .ref kr, .int kn, .int rg, .ref ab, .int am, .ref bh, .int bm, .int br, .int (nI rn), .ref wa, .ref ra])), (th, .inl (cI, 3, .inl u.1)), (ri, .inl (cI, 3, .inl u.2))]) (va_A [(x, .inr (7, [.int fa, .int tr, .ref so, .ref sl, .ref ce, .int (nI n), .int bar, .int (nI tn), .ref ki, .ref si, .ref th, .ref ri, .int at_, .int rp, .ref rk, .ref rs, .ref kt, .ref kr, .int kn, .int rg, .ref ab, .int am, .ref bh, .int bm, .int br, .int (nI rn), .ref wa, .ref ra])), (th, .inl (cI, 3, .inl ts)), (ri, .inl (cI, 3, .inl tl))] sz)) 0 0 (va_A [(x, .inr (7, [.int fa, .int tr, .ref so, .ref sl, .ref ce, .int (nI n), .int bar, .int (nI tn), .ref ki, .ref si, .ref th, .ref ri, .int at_, .int rp, .ref rk, .ref rs, .ref kt, .ref kr, .int kn, .int rg, .ref ab, .int am, .ref bh, .int bm, .int br, .int (nI rn), .ref wa, .ref ra])), (th, .inl (cI, 3, .inl ts)), (ri, .inl (cI, 3, .inl tl))] sz) := by
  refine Met.ofW (cc := cX7_takeDown) (maxL := 3) (ret := none) (by decide) rfl ?_
  intro p e s m args below meth c s₁ B hml hv
  obtain ⟨rfl, hsz, hP, hK, hNw, hD0⟩ := hv
  have hx := B.exec
  have hb := B.bytes
  have hr := B.returns
  have hts := atoms_spec (ws := wsX7_takeDown) B.pre
  have hown : s.vm.findClass RX7 = some m.cls := findClass_of_methodNamed B.named
  have hlocks := B.notSynchronized
  have f25 := hts (.fieldLink RX7 25 "StruckThreesModel" "three" "[I") (by decide +kernel)
  have f28 := hts (.fieldLink RX7 28 "StruckThreesModel" "rings" "[I") (by decide +kernel)
  have f68 := hts (.fieldLink RX7 68 "StruckThreesModel" "threes" "I") (by decide +kernel)
  have iX7 : ∀ w ∈ wsX70, w ∈ wsX7_takeDown := by decide +kernel
  subst hsz
  have hD := hD0.self (sz := s.heap.size)
  generalize hAe : va_A [(x, .inr (7, [.int fa, .int tr, .ref so, .ref sl, .ref ce, .int (nI n), .int bar, .int (nI tn), .ref ki, .ref si, .ref th, .ref ri, .int at_, .int rp, .ref rk, .ref rs, .ref kt, .ref kr, .int kn, .int rg, .ref ab, .int am, .ref bh, .int bm, .int br, .int (nI rn), .ref wa, .ref ra])), (th, .inl (cI, 3, .inl ts)), (ri, .inl (cI, 3, .inl tl))] s.heap.size = A at hD ⊢
  have hA : ∀ q : Nat, s.heap.size ≤ q → A q := fun q h => by rw [← hAe]; exact Or.inr h
  have hS : va_S A s.heap s.heap [] := va_S.rf
  have hP : va_P D vwCl [(x, .inr (7, [.int fa, .int tr, .ref so, .ref sl, .ref ce, .int (nI n), .int bar, .int (nI tn), .ref ki, .ref si, .ref th, .ref ri, .int at_, .int rp, .ref rk, .ref rs, .ref kt, .ref kr, .int kn, .int rg, .ref ab, .int am, .ref bh, .int bm, .int br, .int (nI rn), .ref wa, .ref ra])), (th, .inl (cI, 3, .inl ts)), (ri, .inl (cI, 3, .inl tl))] s.heap := hP
  have hl := lv_entry ([.ref x, .int (nI j)]) (n := 3) (Nat.le_of_ble_eq_true rfl)
  rw [lg_entry_eq]
  generalize (lg_sl ([.ref x, .int (nI j)]) ++ List.replicate (3 - (lg_sl ([.ref x, .int (nI j)])).length) Slot.unset).toArray = ls at hl ⊢
  have hl : lv_has ls 3 [(0, .ref x), (1, .int (nI j))] := hl
  refine lv_aload_n hx hb dX7_takeDown_0 rfl (lv_at hl 0 rfl) ?_
  refine lv_dup hx hb dX7_takeDown_1 rfl ?_
  refine va_get (D := D) (ci := 7) (v := .int (nI tn)) (C := RX7) (T := TX7) (N := 28) hx hb hts iX7 hown hK hP 0 rfl rfl 7 (by decide) f68 (fun _ h9 => h9) rfl dX7_takeDown_2 ?_
  refine lv_iconst (v := 1) hx hb dX7_takeDown_5 (by decide) ?_
  refine lv_isub hx hb dX7_takeDown_6 ?_
  refine tp_i (y := nI (tn - 1)) ((pk_sub (b := 1) (by omega))) ?_
  refine va_put (D := D) (ci := 7) (v := .int (nI (tn - 1))) (ty := .int) (C := RX7) (T := TX7) (N := 28) hx hb hts iX7 tyX7 tyX7_ok nmX7 hown hK hP hD hS 0 rfl rfl 7 (by decide) f68 (fun _ h9 => h9) rfl (by decide +kernel) rfl rfl (Nat.le_of_ble_eq_true rfl) dX7_takeDown_7 (fun H locs hP hD hS => ?_)
  have hP : va_P D vwCl [(x, .inr (7, [.int fa, .int tr, .ref so, .ref sl, .ref ce, .int (nI n), .int bar, .int (nI (tn - 1)), .ref ki, .ref si, .ref th, .ref ri, .int at_, .int rp, .ref rk, .ref rs, .ref kt, .ref kr, .int kn, .int rg, .ref ab, .int am, .ref bh, .int bm, .int br, .int (nI rn), .ref wa, .ref ra])), (th, .inl (cI, 3, .inl ts)), (ri, .inl (cI, 3, .inl tl))] H := hP
  have hD : va_D A [(x, .inr (7, [.int fa, .int tr, .ref so, .ref sl, .ref ce, .int (nI n), .int bar, .int (nI (tn - 1)), .ref ki, .ref si, .ref th, .ref ri, .int at_, .int rp, .ref rk, .ref rs, .ref kt, .ref kr, .int kn, .int rg, .ref ab, .int am, .ref bh, .int bm, .int br, .int (nI rn), .ref wa, .ref ra])), (th, .inl (cI, 3, .inl ts)), (ri, .inl (cI, 3, .inl tl))] := hD
  refine lv_iload_n hx hb dX7_takeDown_10 rfl (lv_at hl 1 rfl) ?_
  refine lv_istore_n (lv' := [(2, .int (nI j)), (0, .ref x), (1, .int (nI j))]) hx hb dX7_takeDown_11 rfl hl (by decide) rfl (fun ls hl => ?_)
  have lp12 : ∀ (fu12 : Nat) (i : Nat) (hi : i + 1 ≤ tn) (hji : j ≤ i) (hm12 : tn - i < fu12) (H : Heap) (locs : List Loc) (hP : va_P D vwCl [(x, .inr (7, [.int fa, .int tr, .ref so, .ref sl, .ref ce, .int (nI n), .int bar, .int (nI (tn - 1)), .ref ki, .ref si, .ref th, .ref ri, .int at_, .int rp, .ref rk, .ref rs, .ref kt, .ref kr, .int kn, .int rg, .ref ab, .int am, .ref bh, .int bm, .int br, .int (nI rn), .ref wa, .ref ra])), (th, .inl (cI, 3, .inl (shF ts j (i + 1)))), (ri, .inl (cI, 3, .inl (shF tl j (i + 1))))] H) (hD : va_D A [(x, .inr (7, [.int fa, .int tr, .ref so, .ref sl, .ref ce, .int (nI n), .int bar, .int (nI (tn - 1)), .ref ki, .ref si, .ref th, .ref ri, .int at_, .int rp, .ref rk, .ref rs, .ref kt, .ref kr, .int kn, .int rg, .ref ab, .int am, .ref bh, .int bm, .int br, .int (nI rn), .ref wa, .ref ra])), (th, .inl (cI, 3, .inl (shF ts j (i + 1)))), (ri, .inl (cI, 3, .inl (shF tl j (i + 1))))]) (hS : va_S A s.heap H locs) (ls : Array Slot) (hl : lv_has ls 3 [(0, .ref x), (2, .int (nI i))]), W p l e (headSpec wsX7_takeDown ({ frames := 0, cells := 0, slots := 0, locals := 0 } : Room)).room s m ([.ref x, .int (nI j)]).toArray below meth c H locs 0 0 (MQ below (va_Qv (S := (Nat → Int32) × (Nat → Int32)) (fun u => u.1 = (shF ts j tn) ∧ u.2 = (shF tl j tn)) (fun u t => va_P D vwCl [(x, .inr (7, [.int fa, .int tr, .ref so, .ref sl, .ref ce, .int (nI n), .int bar, .int (nI (tn - 1)), .ref ki, .ref si, .ref th, .ref ri, .int at_, .int rp, .ref rk, .ref rs, .ref kt, .ref kr, .int kn, .int rg, .ref ab, .int am, .ref bh, .int bm, .int br, .int (nI rn), .ref wa, .ref ra])), (th, .inl (cI, 3, .inl u.1)), (ri, .inl (cI, 3, .inl u.2))] t.heap ∧ va_K D vwCl (tyL cI cO) t ∧ va_D A [(x, .inr (7, [.int fa, .int tr, .ref so, .ref sl, .ref ce, .int (nI n), .int bar, .int (nI (tn - 1)), .ref ki, .ref si, .ref th, .ref ri, .int at_, .int rp, .ref rk, .ref rs, .ref kt, .ref kr, .int kn, .int rg, .ref ab, .int am, .ref bh, .int bm, .int br, .int (nI rn), .ref wa, .ref ra])), (th, .inl (cI, 3, .inl u.1)), (ri, .inl (cI, 3, .inl u.2))]) A) ([.ref x, .int (nI j)]).toArray s 0 0 A) (F0 m 12 ls []) := by
    intro fu12
    induction fu12 with
    | zero =>
      intros; omega
    | succ fu12 ih12 =>
      intro i hi hji hm12 H locs hP hD hS ls hl
      refine lv_iload_n hx hb dX7_takeDown_12 rfl (lv_at hl 1 rfl) ?_
      refine lv_aload_n hx hb dX7_takeDown_13 rfl (lv_at hl 0 rfl) ?_
      refine va_get (D := D) (ci := 7) (v := .int (nI (tn - 1))) (C := RX7) (T := TX7) (N := 28) hx hb hts iX7 hown hK hP 0 rfl rfl 7 (by decide) f68 (fun _ h9 => h9) rfl dX7_takeDown_14 ?_
      refine lv_icmp_ge (tgt := 54) hx hb dX7_takeDown_17 (by decide) (fun c17 => ?_) (fun c17 => ?_)
      · -- t17
        have e18 : i + 1 = tn := by have q := ge_n (by omega) (by omega) c17; omega
        rw [e18] at hP hD
        exact W.vret hx hb hr (fun t ht hW => ⟨⟨(shF ts j tn, shF tl j tn), rfl, by exact ⟨rfl, rfl⟩, by rw [ht]; exact hP, va_K.moved hW.alike hK, hD⟩, hS.F ht⟩) hS.2.2 dX7_takeDown_54
      · -- f17
        have l18 : i + 1 < tn := by have q := lt_n (by omega) (by omega) c17; omega
        refine lv_aload_n hx hb dX7_takeDown_20 rfl (lv_at hl 0 rfl) ?_
        refine va_get (D := D) (ci := 7) (v := .ref th) (C := RX7) (T := TX7) (N := 28) hx hb hts iX7 hown hK hP 0 rfl rfl 10 (by decide) f25 (fun _ h9 => h9) rfl dX7_takeDown_21 ?_
        refine lv_iload_n hx hb dX7_takeDown_24 rfl (lv_at hl 1 rfl) ?_
        refine lv_aload_n hx hb dX7_takeDown_25 rfl (lv_at hl 0 rfl) ?_
        refine va_get (D := D) (ci := 7) (v := .ref th) (C := RX7) (T := TX7) (N := 28) hx hb hts iX7 hown hK hP 0 rfl rfl 10 (by decide) f25 (fun _ h9 => h9) rfl dX7_takeDown_26 ?_
        refine lv_iload_n hx hb dX7_takeDown_29 rfl (lv_at hl 1 rfl) ?_
        refine lv_iconst (v := 1) hx hb dX7_takeDown_30 (by decide) ?_
        refine lv_iadd hx hb dX7_takeDown_31 ?_
        refine tp_i (y := nI (i + 1)) (nI_1 _) ?_
        refine va_iald hx hb hK hP 1 0 rfl rfl (vp_in_nI (by omega) (by decide)) dX7_takeDown_32 ?_
        refine tp_i (y := (shF ts j (i + 1)) (i + 1)) (by rw [nI_clamp (n := (i + 1)) (by omega)]) ?_
        refine va_iast hx hb hK hP hD hS 1 0 rfl rfl (vp_in_nI (by omega) (by decide)) dX7_takeDown_33 (fun H locs hP hD hS => ?_)
        rw [nI_clamp (n := i) (by omega)] at hP hD
        have hP : va_P D vwCl [(x, .inr (7, [.int fa, .int tr, .ref so, .ref sl, .ref ce, .int (nI n), .int bar, .int (nI (tn - 1)), .ref ki, .ref si, .ref th, .ref ri, .int at_, .int rp, .ref rk, .ref rs, .ref kt, .ref kr, .int kn, .int rg, .ref ab, .int am, .ref bh, .int bm, .int br, .int (nI rn), .ref wa, .ref ra])), (th, .inl (cI, 3, .inl (upd (shF ts j (i + 1)) i ((shF ts j (i + 1)) (i + 1))))), (ri, .inl (cI, 3, .inl (shF tl j (i + 1))))] H := hP
        have hD : va_D A [(x, .inr (7, [.int fa, .int tr, .ref so, .ref sl, .ref ce, .int (nI n), .int bar, .int (nI (tn - 1)), .ref ki, .ref si, .ref th, .ref ri, .int at_, .int rp, .ref rk, .ref rs, .ref kt, .ref kr, .int kn, .int rg, .ref ab, .int am, .ref bh, .int bm, .int br, .int (nI rn), .ref wa, .ref ra])), (th, .inl (cI, 3, .inl (upd (shF ts j (i + 1)) i ((shF ts j (i + 1)) (i + 1))))), (ri, .inl (cI, 3, .inl (shF tl j (i + 1))))] := hD
        refine lv_aload_n hx hb dX7_takeDown_34 rfl (lv_at hl 0 rfl) ?_
        refine va_get (D := D) (ci := 7) (v := .ref ri) (C := RX7) (T := TX7) (N := 28) hx hb hts iX7 hown hK hP 0 rfl rfl 11 (by decide) f28 (fun _ h9 => h9) rfl dX7_takeDown_35 ?_
        refine lv_iload_n hx hb dX7_takeDown_38 rfl (lv_at hl 1 rfl) ?_
        refine lv_aload_n hx hb dX7_takeDown_39 rfl (lv_at hl 0 rfl) ?_
        refine va_get (D := D) (ci := 7) (v := .ref ri) (C := RX7) (T := TX7) (N := 28) hx hb hts iX7 hown hK hP 0 rfl rfl 11 (by decide) f28 (fun _ h9 => h9) rfl dX7_takeDown_40 ?_
        refine lv_iload_n hx hb dX7_takeDown_43 rfl (lv_at hl 1 rfl) ?_
        refine lv_iconst (v := 1) hx hb dX7_takeDown_44 (by decide) ?_
        refine lv_iadd hx hb dX7_takeDown_45 ?_
        refine tp_i (y := nI (i + 1)) (nI_1 _) ?_
        refine va_iald hx hb hK hP 2 0 rfl rfl (vp_in_nI (by omega) (by decide)) dX7_takeDown_46 ?_
        refine tp_i (y := (shF tl j (i + 1)) (i + 1)) (by rw [nI_clamp (n := (i + 1)) (by omega)]) ?_
        refine va_iast hx hb hK hP hD hS 2 0 rfl rfl (vp_in_nI (by omega) (by decide)) dX7_takeDown_47 (fun H locs hP hD hS => ?_)
        rw [nI_clamp (n := i) (by omega)] at hP hD
        have hP : va_P D vwCl [(x, .inr (7, [.int fa, .int tr, .ref so, .ref sl, .ref ce, .int (nI n), .int bar, .int (nI (tn - 1)), .ref ki, .ref si, .ref th, .ref ri, .int at_, .int rp, .ref rk, .ref rs, .ref kt, .ref kr, .int kn, .int rg, .ref ab, .int am, .ref bh, .int bm, .int br, .int (nI rn), .ref wa, .ref ra])), (th, .inl (cI, 3, .inl (upd (shF ts j (i + 1)) i ((shF ts j (i + 1)) (i + 1))))), (ri, .inl (cI, 3, .inl (upd (shF tl j (i + 1)) i ((shF tl j (i + 1)) (i + 1)))))] H := hP
        have hD : va_D A [(x, .inr (7, [.int fa, .int tr, .ref so, .ref sl, .ref ce, .int (nI n), .int bar, .int (nI (tn - 1)), .ref ki, .ref si, .ref th, .ref ri, .int at_, .int rp, .ref rk, .ref rs, .ref kt, .ref kr, .int kn, .int rg, .ref ab, .int am, .ref bh, .int bm, .int br, .int (nI rn), .ref wa, .ref ra])), (th, .inl (cI, 3, .inl (upd (shF ts j (i + 1)) i ((shF ts j (i + 1)) (i + 1))))), (ri, .inl (cI, 3, .inl (upd (shF tl j (i + 1)) i ((shF tl j (i + 1)) (i + 1)))))] := hD
        refine lv_iinc (v := nI (i + 1)) (lv' := [(2, .int (nI (i + 1))), (0, .ref x)]) hx hb dX7_takeDown_48 hl (k := 1) rfl (nI_1 _) (by decide) rfl (fun ls hl => ?_)
        refine lv_goto (tgt := 12) hx hb dX7_takeDown_51 (by decide) ?_
        have ew12_1_0 : (upd (shF ts j (i + 1)) i ((shF ts j (i + 1)) (i + 1))) = shF ts j ((i + 1) + 1) := by exact shF_s ts hji
        have hP : va_P D vwCl [(x, .inr (7, [.int fa, .int tr, .ref so, .ref sl, .ref ce, .int (nI n), .int bar, .int (nI (tn - 1)), .ref ki, .ref si, .ref th, .ref ri, .int at_, .int rp, .ref rk, .ref rs, .ref kt, .ref kr, .int kn, .int rg, .ref ab, .int am, .ref bh, .int bm, .int br, .int (nI rn), .ref wa, .ref ra])), (th, .inl (cI, 3, .inl (shF ts j ((i + 1) + 1)))), (ri, .inl (cI, 3, .inl (upd (shF tl j (i + 1)) i ((shF tl j (i + 1)) (i + 1)))))] H := by rw [← ew12_1_0]; exact hP
        have hD : va_D A [(x, .inr (7, [.int fa, .int tr, .ref so, .ref sl, .ref ce, .int (nI n), .int bar, .int (nI (tn - 1)), .ref ki, .ref si, .ref th, .ref ri, .int at_, .int rp, .ref rk, .ref rs, .ref kt, .ref kr, .int kn, .int rg, .ref ab, .int am, .ref bh, .int bm, .int br, .int (nI rn), .ref wa, .ref ra])), (th, .inl (cI, 3, .inl (shF ts j ((i + 1) + 1)))), (ri, .inl (cI, 3, .inl (upd (shF tl j (i + 1)) i ((shF tl j (i + 1)) (i + 1)))))] := by rw [← ew12_1_0]; exact hD
        have ew12_2_0 : (upd (shF tl j (i + 1)) i ((shF tl j (i + 1)) (i + 1))) = shF tl j ((i + 1) + 1) := by exact shF_s tl hji
        have hP : va_P D vwCl [(x, .inr (7, [.int fa, .int tr, .ref so, .ref sl, .ref ce, .int (nI n), .int bar, .int (nI (tn - 1)), .ref ki, .ref si, .ref th, .ref ri, .int at_, .int rp, .ref rk, .ref rs, .ref kt, .ref kr, .int kn, .int rg, .ref ab, .int am, .ref bh, .int bm, .int br, .int (nI rn), .ref wa, .ref ra])), (th, .inl (cI, 3, .inl (shF ts j ((i + 1) + 1)))), (ri, .inl (cI, 3, .inl (shF tl j ((i + 1) + 1))))] H := by rw [← ew12_2_0]; exact hP
        have hD : va_D A [(x, .inr (7, [.int fa, .int tr, .ref so, .ref sl, .ref ce, .int (nI n), .int bar, .int (nI (tn - 1)), .ref ki, .ref si, .ref th, .ref ri, .int at_, .int rp, .ref rk, .ref rs, .ref kt, .ref kr, .int kn, .int rg, .ref ab, .int am, .ref bh, .int bm, .int br, .int (nI rn), .ref wa, .ref ra])), (th, .inl (cI, 3, .inl (shF ts j ((i + 1) + 1)))), (ri, .inl (cI, 3, .inl (shF tl j ((i + 1) + 1))))] := by rw [← ew12_2_0]; exact hD
        exact ih12 (i + 1) (by omega) (by omega) (by omega) _ _ hP hD hS _ (lv_sub hl [1, 0] rfl)
  have ew12_1_0 : ts = shF ts j (j + 1) := by exact (shF_0 ts j).symm
  have hP : va_P D vwCl [(x, .inr (7, [.int fa, .int tr, .ref so, .ref sl, .ref ce, .int (nI n), .int bar, .int (nI (tn - 1)), .ref ki, .ref si, .ref th, .ref ri, .int at_, .int rp, .ref rk, .ref rs, .ref kt, .ref kr, .int kn, .int rg, .ref ab, .int am, .ref bh, .int bm, .int br, .int (nI rn), .ref wa, .ref ra])), (th, .inl (cI, 3, .inl (shF ts j (j + 1)))), (ri, .inl (cI, 3, .inl tl))] H := by rw [← ew12_1_0]; exact hP
  have hD : va_D A [(x, .inr (7, [.int fa, .int tr, .ref so, .ref sl, .ref ce, .int (nI n), .int bar, .int (nI (tn - 1)), .ref ki, .ref si, .ref th, .ref ri, .int at_, .int rp, .ref rk, .ref rs, .ref kt, .ref kr, .int kn, .int rg, .ref ab, .int am, .ref bh, .int bm, .int br, .int (nI rn), .ref wa, .ref ra])), (th, .inl (cI, 3, .inl (shF ts j (j + 1)))), (ri, .inl (cI, 3, .inl tl))] := by rw [← ew12_1_0]; exact hD
  have ew12_2_0 : tl = shF tl j (j + 1) := by exact (shF_0 tl j).symm
  have hP : va_P D vwCl [(x, .inr (7, [.int fa, .int tr, .ref so, .ref sl, .ref ce, .int (nI n), .int bar, .int (nI (tn - 1)), .ref ki, .ref si, .ref th, .ref ri, .int at_, .int rp, .ref rk, .ref rs, .ref kt, .ref kr, .int kn, .int rg, .ref ab, .int am, .ref bh, .int bm, .int br, .int (nI rn), .ref wa, .ref ra])), (th, .inl (cI, 3, .inl (shF ts j (j + 1)))), (ri, .inl (cI, 3, .inl (shF tl j (j + 1))))] H := by rw [← ew12_2_0]; exact hP
  have hD : va_D A [(x, .inr (7, [.int fa, .int tr, .ref so, .ref sl, .ref ce, .int (nI n), .int bar, .int (nI (tn - 1)), .ref ki, .ref si, .ref th, .ref ri, .int at_, .int rp, .ref rk, .ref rs, .ref kt, .ref kr, .int kn, .int rg, .ref ab, .int am, .ref bh, .int bm, .int br, .int (nI rn), .ref wa, .ref ra])), (th, .inl (cI, 3, .inl (shF ts j (j + 1)))), (ri, .inl (cI, 3, .inl (shF tl j (j + 1))))] := by rw [← ew12_2_0]; exact hD
  exact lp12 _ j (by omega) (Nat.le_refl _) (Nat.lt_succ_self _) _ _ hP hD hS _ (lv_sub hl [1, 0] rfl)

set_option maxHeartbeats 4000000 in
set_option maxRecDepth 100000 in
theorem c_X7_ofPerson (l : Launch) (D : va_G) (cI cO : ClassId) (x : Nat) (fa : Int32) (tr : Int32) (so : Nat) (sl : Nat) (ce : Nat) (n : Nat) (bar : Int32) (tn : Nat) (ki : Nat) (si : Nat) (th : Nat) (ri : Nat) (at_ : Int32) (rp : Int32) (rk : Nat) (rs : Nat) (kt : Nat) (kr : Nat) (kn : Int32) (rg : Int32) (ab : Nat) (am : Int32) (bh : Nat) (bm : Int32) (br : Int32) (rn : Nat) (wa : Nat) (ra : Nat) (kd : Nat → Int32) (sd : Nat → Int32) (ts : Nat → Int32) (pp : Int32) (y : Int32) (hn : n ≤ 9) (hk3 : ∀ j, j < n → kd j = 0 ∨ kd j = 1 ∨ kd j = 2) (ht3 : tn ≤ 3) : Met l yX7_ofPerson wsX7_ofPerson ({ frames := 3, cells := 0, slots := 0, locals := 66 } : Room) (va_Pc [.ref x, .int pp, .int y] (wdR D cI cO [(x, .inr (7, [.int fa, .int tr, .ref so, .ref sl, .ref ce, .int (nI n), .int bar, .int (nI tn), .ref ki, .ref si, .ref th, .ref ri, .int at_, .int rp, .ref rk, .ref rs, .ref kt, .ref kr, .int kn, .int rg, .ref ab, .int am, .ref bh, .int bm, .int br, .int (nI rn), .ref wa, .ref ra])), (ki, .inl (cI, 9, .inl kd)), (si, .inl (cI, 9, .inl sd)), (th, .inl (cI, 3, .inl ts))])) (vp_Si (fun r => r = (onQ n pp (fun j => if y = 0 then kd j else if y = 1 then sd j else if y = 2 then ringI (kd j) (sd j) else if y = 3 then thrW ts j tn 0 else if y = 4 then joyI n kd sd tn ts j else -2) (-1)))) 0 0 (fun _ => False) := by
  refine Met.ofW (cc := cX7_ofPerson) (maxL := 3) (ret := (some .int)) (by decide) rfl ?_
  intro p e s m args below meth c s₁ B hml hv
  obtain ⟨rfl, hP, hK, hNw⟩ := hv
  have hx := B.exec
  have hb := B.bytes
  have hr := B.returns
  have hts := atoms_spec (ws := wsX7_ofPerson) B.pre
  have hown : s.vm.findClass RX7 = some m.cls := findClass_of_methodNamed B.named
  have hlocks := B.notSynchronized
  have f19 := hts (.fieldLink RX7 19 "StruckThreesModel" "kind" "[I") (by decide +kernel)
  have f22 := hts (.fieldLink RX7 22 "StruckThreesModel" "side" "[I") (by decide +kernel)
  have iX7 : ∀ w ∈ wsX70, w ∈ wsX7_ofPerson := by decide +kernel
  have hP : va_P D vwCl [(x, .inr (7, [.int fa, .int tr, .ref so, .ref sl, .ref ce, .int (nI n), .int bar, .int (nI tn), .ref ki, .ref si, .ref th, .ref ri, .int at_, .int rp, .ref rk, .ref rs, .ref kt, .ref kr, .int kn, .int rg, .ref ab, .int am, .ref bh, .int bm, .int br, .int (nI rn), .ref wa, .ref ra])), (ki, .inl (cI, 9, .inl kd)), (si, .inl (cI, 9, .inl sd)), (th, .inl (cI, 3, .inl ts))] s.heap := hP
  have hl := lv_entry ([.ref x, .int pp, .int y]) (n := 3) (Nat.le_of_ble_eq_true rfl)
  rw [lg_entry_eq]
  generalize (lg_sl ([.ref x, .int pp, .int y]) ++ List.replicate (3 - (lg_sl ([.ref x, .int pp, .int y])).length) Slot.unset).toArray = ls at hl ⊢
  have hl : lv_has ls 3 [(0, .ref x), (1, .int pp), (2, .int y)] := hl
  refine lv_aload_n hx hb dX7_ofPerson_0 rfl (lv_at hl 0 rfl) ?_
  refine lv_iload_n hx hb dX7_ofPerson_1 rfl (lv_at hl 1 rfl) ?_
  have hPc := hP.sub (ws' := [(x, .inr (7, [.int fa, .int tr, .ref so, .ref sl, .ref ce, .int (nI n), .int bar, .int (nI tn), .ref ki, .ref si, .ref th, .ref ri, .int at_, .int rp, .ref rk, .ref rs, .ref kt, .ref kr, .int kn, .int rg, .ref ab, .int am, .ref bh, .int bm, .int br, .int (nI rn), .ref wa, .ref ra]))]) [0] rfl
  refine vp_callSi (va_Run.run (va_runV (As := [.int pp]) (rest := []) ⟨hx, hb, hml, hown, hts⟩ (c_X7_isPerson l D cI cO x fa tr so sl ce n bar tn ki si th ri at_ rp rk rs kt kr kn rg ab am bh bm br rn wa ra pp) (cwV 1 hts gX7_ofPerson_X7_isPerson rfl rfl rfl (by decide +kernel) ⟨Nat.le_of_ble_eq_true rfl, Nat.le_of_ble_eq_true rfl⟩) (preVR hPc hK hNw (va_recv hK hPc (ci := 7) (q0 := 0) rfl rfl)) rfl rfl hl.1 rfl (lv_room (Nat.le_of_ble_eq_true rfl)) dX7_ofPerson_2 ⟨Nat.zero_le _, Nat.zero_le _⟩)) (fun r2 w2 => ?_)
  by_cases b2 : ¬ pp < 0 ∧ ¬ nI n ≤ pp
  · -- y2
    obtain rfl := w2.1 b2
    obtain ⟨j, hj, rfl⟩ := in_nat b2 (show n < 2 ^ 31 by omega)
    refine lv_if_ne (tgt := 10) hx hb dX7_ofPerson_5 (by decide) (fun _ => ?_) (fun h => absurd h (by decide))
    refine lv_iload_n hx hb dX7_ofPerson_10 rfl (lv_at hl 2 rfl) ?_
    by_cases k11_0 : y = 0
    · -- case 0
      refine lv_tableIn (off := 33) (tgt := 44) hx hb dX7_ofPerson_11 (by rw [k11_0]; decide) (by rw [k11_0]; decide) (by rw [k11_0]; decide) (by decide) ?_
      refine lv_aload_n hx hb dX7_ofPerson_44 rfl (lv_at hl 0 rfl) ?_
      refine va_get (D := D) (ci := 7) (v := .ref ki) (C := RX7) (T := TX7) (N := 28) hx hb hts iX7 hown hK hP 0 rfl rfl 8 (by decide) f19 (fun _ h9 => h9) rfl dX7_ofPerson_45 ?_
      refine lv_iload_n hx hb dX7_ofPerson_48 rfl (lv_at hl 1 rfl) ?_
      refine va_iald hx hb hK hP 1 0 rfl rfl (vp_in_nI (by omega) (by decide)) dX7_ofPerson_49 ?_
      refine tp_i (y := kd j) (by rw [nI_clamp (n := j) (by omega)]) ?_
      exact W.iret (v := kd j) hx hb hr (fun t ht hW => ⟨_, rfl, by first | (simp [onQ_out b2]; done) | (simp [onQ_in hj (show n < 2 ^ 31 by omega), *]; done), ht⟩) (fun _ h => absurd h List.not_mem_nil) dX7_ofPerson_50
    by_cases k11_1 : y = 1
    · -- case 1
      refine lv_tableIn (off := 40) (tgt := 51) hx hb dX7_ofPerson_11 (by rw [k11_1]; decide) (by rw [k11_1]; decide) (by rw [k11_1]; decide) (by decide) ?_
      refine lv_aload_n hx hb dX7_ofPerson_51 rfl (lv_at hl 0 rfl) ?_
      refine va_get (D := D) (ci := 7) (v := .ref si) (C := RX7) (T := TX7) (N := 28) hx hb hts iX7 hown hK hP 0 rfl rfl 9 (by decide) f22 (fun _ h9 => h9) rfl dX7_ofPerson_52 ?_
      refine lv_iload_n hx hb dX7_ofPerson_55 rfl (lv_at hl 1 rfl) ?_
      refine va_iald hx hb hK hP 2 0 rfl rfl (vp_in_nI (by omega) (by decide)) dX7_ofPerson_56 ?_
      refine tp_i (y := sd j) (by rw [nI_clamp (n := j) (by omega)]) ?_
      exact W.iret (v := sd j) hx hb hr (fun t ht hW => ⟨_, rfl, by first | (simp [onQ_out b2]; done) | (simp [onQ_in hj (show n < 2 ^ 31 by omega), *]; done), ht⟩) (fun _ h => absurd h List.not_mem_nil) dX7_ofPerson_57
    by_cases k11_2 : y = 2
    · -- case 2
      refine lv_tableIn (off := 47) (tgt := 58) hx hb dX7_ofPerson_11 (by rw [k11_2]; decide) (by rw [k11_2]; decide) (by rw [k11_2]; decide) (by decide) ?_
      refine lv_aload_n hx hb dX7_ofPerson_58 rfl (lv_at hl 0 rfl) ?_
      refine lv_iload_n hx hb dX7_ofPerson_59 rfl (lv_at hl 1 rfl) ?_
      have hPc := hP.sub (ws' := [(x, .inr (7, [.int fa, .int tr, .ref so, .ref sl, .ref ce, .int (nI n), .int bar, .int (nI tn), .ref ki, .ref si, .ref th, .ref ri, .int at_, .int rp, .ref rk, .ref rs, .ref kt, .ref kr, .int kn, .int rg, .ref ab, .int am, .ref bh, .int bm, .int br, .int (nI rn), .ref wa, .ref ra])), (ki, .inl (cI, 9, .inl kd)), (si, .inl (cI, 9, .inl sd))]) [0, 1, 2] rfl
      refine vp_callSi (va_Run.run (va_runV (As := [.int (nI j)]) (rest := []) ⟨hx, hb, hml, hown, hts⟩ (c_X7_ringOf l D cI cO x fa tr so sl ce n bar tn ki si th ri at_ rp rk rs kt kr kn rg ab am bh bm br rn wa ra kd sd j (by omega) (hk3 j hj)) (cwV 1 hts gX7_ofPerson_X7_ringOf rfl rfl rfl (by decide +kernel) ⟨Nat.le_of_ble_eq_true rfl, Nat.le_of_ble_eq_true rfl⟩) (preVR hPc hK hNw (va_recv hK hPc (ci := 7) (q0 := 0) rfl rfl)) rfl rfl hl.1 rfl (lv_room (Nat.le_of_ble_eq_true rfl)) dX7_ofPerson_60 ⟨Nat.zero_le _, Nat.zero_le _⟩)) (fun r60 w60 => ?_)
      obtain rfl := w60
      exact W.iret (v := ringI (kd j) (sd j)) hx hb hr (fun t ht hW => ⟨_, rfl, by first | (simp [onQ_out b2]; done) | (simp [onQ_in hj (show n < 2 ^ 31 by omega), *]; done), ht⟩) (fun _ h => absurd h List.not_mem_nil) dX7_ofPerson_63
    by_cases k11_3 : y = 3
    · -- case 3
      refine lv_tableIn (off := 53) (tgt := 64) hx hb dX7_ofPerson_11 (by rw [k11_3]; decide) (by rw [k11_3]; decide) (by rw [k11_3]; decide) (by decide) ?_
      refine lv_aload_n hx hb dX7_ofPerson_64 rfl (lv_at hl 0 rfl) ?_
      refine lv_iload_n hx hb dX7_ofPerson_65 rfl (lv_at hl 1 rfl) ?_
      have hPc := hP.sub (ws' := [(x, .inr (7, [.int fa, .int tr, .ref so, .ref sl, .ref ce, .int (nI n), .int bar, .int (nI tn), .ref ki, .ref si, .ref th, .ref ri, .int at_, .int rp, .ref rk, .ref rs, .ref kt, .ref kr, .int kn, .int rg, .ref ab, .int am, .ref bh, .int bm, .int br, .int (nI rn), .ref wa, .ref ra])), (th, .inl (cI, 3, .inl ts))]) [0, 3] rfl
      refine vp_callSi (va_Run.run (va_runV (As := [.int (nI j)]) (rest := []) ⟨hx, hb, hml, hown, hts⟩ (c_X7_threeOf l D cI cO x fa tr so sl ce n bar tn ki si th ri at_ rp rk rs kt kr kn rg ab am bh bm br rn wa ra ts j (by assumption) (by omega)) (cwV 1 hts gX7_ofPerson_X7_threeOf rfl rfl rfl (by decide +kernel) ⟨Nat.le_of_ble_eq_true rfl, Nat.le_of_ble_eq_true rfl⟩) (preVR hPc hK hNw (va_recv hK hPc (ci := 7) (q0 := 0) rfl rfl)) rfl rfl hl.1 rfl (lv_room (Nat.le_of_ble_eq_true rfl)) dX7_ofPerson_66 ⟨Nat.zero_le _, Nat.zero_le _⟩)) (fun r66 w66 => ?_)
      obtain rfl := w66
      exact W.iret (v := thrW ts j tn 0) hx hb hr (fun t ht hW => ⟨_, rfl, by first | (simp [onQ_out b2]; done) | (simp [onQ_in hj (show n < 2 ^ 31 by omega), *]; done), ht⟩) (fun _ h => absurd h List.not_mem_nil) dX7_ofPerson_69
    by_cases k11_4 : y = 4
    · -- case 4
      refine lv_tableIn (off := 59) (tgt := 70) hx hb dX7_ofPerson_11 (by rw [k11_4]; decide) (by rw [k11_4]; decide) (by rw [k11_4]; decide) (by decide) ?_
      refine lv_aload_n hx hb dX7_ofPerson_70 rfl (lv_at hl 0 rfl) ?_
      refine lv_iload_n hx hb dX7_ofPerson_71 rfl (lv_at hl 1 rfl) ?_
      have hPc := hP.sub (ws' := [(x, .inr (7, [.int fa, .int tr, .ref so, .ref sl, .ref ce, .int (nI n), .int bar, .int (nI tn), .ref ki, .ref si, .ref th, .ref ri, .int at_, .int rp, .ref rk, .ref rs, .ref kt, .ref kr, .int kn, .int rg, .ref ab, .int am, .ref bh, .int bm, .int br, .int (nI rn), .ref wa, .ref ra])), (ki, .inl (cI, 9, .inl kd)), (si, .inl (cI, 9, .inl sd)), (th, .inl (cI, 3, .inl ts))]) [0, 1, 2, 3] rfl
      refine vp_callSi (va_Run.run (va_runV (As := [.int (nI j)]) (rest := []) ⟨hx, hb, hml, hown, hts⟩ (c_X7_joyOf l D cI cO x fa tr so sl ce n bar tn ki si th ri at_ rp rk rs kt kr kn rg ab am bh bm br rn wa ra kd sd ts j (by assumption) (by assumption) (by assumption) (by assumption)) (cwV 1 hts gX7_ofPerson_X7_joyOf rfl rfl rfl (by decide +kernel) ⟨Nat.le_of_ble_eq_true rfl, Nat.le_of_ble_eq_true rfl⟩) (preVR hPc hK hNw (va_recv hK hPc (ci := 7) (q0 := 0) rfl rfl)) rfl rfl hl.1 rfl (lv_room (Nat.le_of_ble_eq_true rfl)) dX7_ofPerson_72 ⟨Nat.zero_le _, Nat.zero_le _⟩)) (fun r72 w72 => ?_)
      obtain rfl := w72
      exact W.iret (v := joyI n kd sd tn ts j) hx hb hr (fun t ht hW => ⟨_, rfl, by first | (simp [onQ_out b2]; done) | (simp [onQ_in hj (show n < 2 ^ 31 by omega), *]; done), ht⟩) (fun _ h => absurd h List.not_mem_nil) dX7_ofPerson_75
    have t11_0 := lv_neT (k := 0) (a := 0) k11_0 (by decide)
    have t11_1 := lv_neT (k := 1) (a := 1) k11_1 (by decide)
    have t11_2 := lv_neT (k := 2) (a := 2) k11_2 (by decide)
    have t11_3 := lv_neT (k := 3) (a := 3) k11_3 (by decide)
    have t11_4 := lv_neT (k := 4) (a := 4) k11_4 (by decide)
    refine lv_tableOut (tgt := 76) hx hb dX7_ofPerson_11 (by omega) (by decide) ?_
    refine lv_bipush (v := -2) hx hb dX7_ofPerson_76 (by decide) ?_
    exact W.iret (v := -2) hx hb hr (fun t ht hW => ⟨_, rfl, by first | (simp [onQ_out b2]; done) | (simp [onQ_in hj (show n < 2 ^ 31 by omega), *]; done), ht⟩) (fun _ h => absurd h List.not_mem_nil) dX7_ofPerson_78
  · -- n2
    obtain rfl := w2.2 b2
    refine lv_if_ne (tgt := 10) hx hb dX7_ofPerson_5 (by decide) (fun h => absurd (by decide) h) (fun _ => ?_)
    refine lv_iconst (v := -1) hx hb dX7_ofPerson_8 (by decide) ?_
    exact W.iret (v := -1) hx hb hr (fun t ht hW => ⟨_, rfl, by first | (simp [onQ_out b2]; done) | (simp [onQ_in hj (show n < 2 ^ 31 by omega), *]; done), ht⟩) (fun _ h => absurd h List.not_mem_nil) dX7_ofPerson_9

set_option maxHeartbeats 4000000 in
set_option maxRecDepth 100000 in
theorem c_X7_bend (l : Launch) (D : va_G) (cI cO : ClassId) (x : Nat) (fa : Int32) (tr : Int32) (so : Nat) (sl : Nat) (ce : Nat) (n : Nat) (bar : Int32) (tn : Nat) (ki : Nat) (si : Nat) (th : Nat) (ri : Nat) (at_ : Int32) (rp : Int32) (rk : Nat) (rs : Nat) (kt : Nat) (kr : Nat) (kn : Int32) (rg : Int32) (ab : Nat) (am : Int32) (bh : Nat) (bm : Int32) (br : Int32) (rn : Nat) (wa : Nat) (ra : Nat) (sd : Nat → Int32) (ts : Nat → Int32) (pp : Int32) (v : Int32) (sz : Nat) (hn : n ≤ 9) (ht3 : tn ≤ 3) : Met l yX7_bend wsX7_bend ({ frames := 2, cells := 0, slots := 0, locals := 43 } : Room) (va_Pc [.ref x, .int pp, .int v] (wdW D cI cO [(x, .inr (7, [.int fa, .int tr, .ref so, .ref sl, .ref ce, .int (nI n), .int bar, .int (nI tn), .ref ki, .ref si, .ref th, .ref ri, .int at_, .int rp, .ref rk, .ref rs, .ref kt, .ref kr, .int kn, .int rg, .ref ab, .int am, .ref bh, .int bm, .int br, .int (nI rn), .ref wa, .ref ra])), (si, .inl (cI, 9, .inl sd)), (th, .inl (cI, 3, .inl ts))] sz)) (va_Qi (S := (Nat → Int32)) (fun r u => r = (onQ n pp (fun j => if v < 1 then -2 else if v ≤ 9 then (if thrW ts j tn 0 = -9 then sd j else -3) else -2) (-1)) ∧ u = (onQ n pp (fun j => if v < 1 then sd else if v ≤ 9 then (if thrW ts j tn 0 = -9 then upd sd j v else sd) else sd) sd)) (fun u t => va_P D vwCl [(x, .inr (7, [.int fa, .int tr, .ref so, .ref sl, .ref ce, .int (nI n), .int bar, .int (nI tn), .ref ki, .ref si, .ref th, .ref ri, .int at_, .int rp, .ref rk, .ref rs, .ref kt, .ref kr, .int kn, .int rg, .ref ab, .int am, .ref bh, .int bm, .int br, .int (nI rn), .ref wa, .ref ra])), (si, .inl (cI, 9, .inl u)), (th, .inl (cI, 3, .inl ts))] t.heap ∧ va_K D vwCl (tyL cI cO) t ∧ va_D (va_A [(x, .inr (7, [.int fa, .int tr, .ref so, .ref sl, .ref ce, .int (nI n), .int bar, .int (nI tn), .ref ki, .ref si, .ref th, .ref ri, .int at_, .int rp, .ref rk, .ref rs, .ref kt, .ref kr, .int kn, .int rg, .ref ab, .int am, .ref bh, .int bm, .int br, .int (nI rn), .ref wa, .ref ra])), (si, .inl (cI, 9, .inl sd)), (th, .inl (cI, 3, .inl ts))] sz) [(x, .inr (7, [.int fa, .int tr, .ref so, .ref sl, .ref ce, .int (nI n), .int bar, .int (nI tn), .ref ki, .ref si, .ref th, .ref ri, .int at_, .int rp, .ref rk, .ref rs, .ref kt, .ref kr, .int kn, .int rg, .ref ab, .int am, .ref bh, .int bm, .int br, .int (nI rn), .ref wa, .ref ra])), (si, .inl (cI, 9, .inl u)), (th, .inl (cI, 3, .inl ts))]) (va_A [(x, .inr (7, [.int fa, .int tr, .ref so, .ref sl, .ref ce, .int (nI n), .int bar, .int (nI tn), .ref ki, .ref si, .ref th, .ref ri, .int at_, .int rp, .ref rk, .ref rs, .ref kt, .ref kr, .int kn, .int rg, .ref ab, .int am, .ref bh, .int bm, .int br, .int (nI rn), .ref wa, .ref ra])), (si, .inl (cI, 9, .inl sd)), (th, .inl (cI, 3, .inl ts))] sz)) 0 0 (va_A [(x, .inr (7, [.int fa, .int tr, .ref so, .ref sl, .ref ce, .int (nI n), .int bar, .int (nI tn), .ref ki, .ref si, .ref th, .ref ri, .int at_, .int rp, .ref rk, .ref rs, .ref kt, .ref kr, .int kn, .int rg, .ref ab, .int am, .ref bh, .int bm, .int br, .int (nI rn), .ref wa, .ref ra])), (si, .inl (cI, 9, .inl sd)), (th, .inl (cI, 3, .inl ts))] sz) := by
  refine Met.ofW (cc := cX7_bend) (maxL := 4) (ret := (some .int)) (by decide) rfl ?_
  intro p e s m args below meth c s₁ B hml hv
  obtain ⟨rfl, hsz, hP, hK, hNw, hD0⟩ := hv
  have hx := B.exec
  have hb := B.bytes
  have hr := B.returns
  have hts := atoms_spec (ws := wsX7_bend) B.pre
  have hown : s.vm.findClass RX7 = some m.cls := findClass_of_methodNamed B.named
  have hlocks := B.notSynchronized
  have f22 := hts (.fieldLink RX7 22 "StruckThreesModel" "side" "[I") (by decide +kernel)
  have iX7 : ∀ w ∈ wsX70, w ∈ wsX7_bend := by decide +kernel
  subst hsz
  have hD := hD0.self (sz := s.heap.size)
  generalize hAe : va_A [(x, .inr (7, [.int fa, .int tr, .ref so, .ref sl, .ref ce, .int (nI n), .int bar, .int (nI tn), .ref ki, .ref si, .ref th, .ref ri, .int at_, .int rp, .ref rk, .ref rs, .ref kt, .ref kr, .int kn, .int rg, .ref ab, .int am, .ref bh, .int bm, .int br, .int (nI rn), .ref wa, .ref ra])), (si, .inl (cI, 9, .inl sd)), (th, .inl (cI, 3, .inl ts))] s.heap.size = A at hD ⊢
  have hA : ∀ q : Nat, s.heap.size ≤ q → A q := fun q h => by rw [← hAe]; exact Or.inr h
  have hS : va_S A s.heap s.heap [] := va_S.rf
  have hP : va_P D vwCl [(x, .inr (7, [.int fa, .int tr, .ref so, .ref sl, .ref ce, .int (nI n), .int bar, .int (nI tn), .ref ki, .ref si, .ref th, .ref ri, .int at_, .int rp, .ref rk, .ref rs, .ref kt, .ref kr, .int kn, .int rg, .ref ab, .int am, .ref bh, .int bm, .int br, .int (nI rn), .ref wa, .ref ra])), (si, .inl (cI, 9, .inl sd)), (th, .inl (cI, 3, .inl ts))] s.heap := hP
  have hl := lv_entry ([.ref x, .int pp, .int v]) (n := 4) (Nat.le_of_ble_eq_true rfl)
  rw [lg_entry_eq]
  generalize (lg_sl ([.ref x, .int pp, .int v]) ++ List.replicate (4 - (lg_sl ([.ref x, .int pp, .int v])).length) Slot.unset).toArray = ls at hl ⊢
  have hl : lv_has ls 4 [(0, .ref x), (1, .int pp), (2, .int v)] := hl
  refine lv_aload_n hx hb dX7_bend_0 rfl (lv_at hl 0 rfl) ?_
  refine lv_iload_n hx hb dX7_bend_1 rfl (lv_at hl 1 rfl) ?_
  have hPc := hP.sub (ws' := [(x, .inr (7, [.int fa, .int tr, .ref so, .ref sl, .ref ce, .int (nI n), .int bar, .int (nI tn), .ref ki, .ref si, .ref th, .ref ri, .int at_, .int rp, .ref rk, .ref rs, .ref kt, .ref kr, .int kn, .int rg, .ref ab, .int am, .ref bh, .int bm, .int br, .int (nI rn), .ref wa, .ref ra]))]) [0] rfl
  refine vp_callSi (va_Run.run (va_runV (As := [.int pp]) (rest := []) ⟨hx, hb, hml, hown, hts⟩ (c_X7_isPerson l D cI cO x fa tr so sl ce n bar tn ki si th ri at_ rp rk rs kt kr kn rg ab am bh bm br rn wa ra pp) (cwV 1 hts gX7_bend_X7_isPerson rfl rfl rfl (by decide +kernel) ⟨Nat.le_of_ble_eq_true rfl, Nat.le_of_ble_eq_true rfl⟩) (preVR hPc hK hNw (va_recv hK hPc (ci := 7) (q0 := 0) rfl rfl)) rfl rfl hl.1 rfl (lv_room (Nat.le_of_ble_eq_true rfl)) dX7_bend_2 ⟨Nat.zero_le _, Nat.zero_le _⟩)) (fun r2 w2 => ?_)
  by_cases b2 : ¬ pp < 0 ∧ ¬ nI n ≤ pp
  · -- y2
    obtain rfl := w2.1 b2
    obtain ⟨j, hj, rfl⟩ := in_nat b2 (show n < 2 ^ 31 by omega)
    refine lv_if_ne (tgt := 10) hx hb dX7_bend_5 (by decide) (fun _ => ?_) (fun h => absurd h (by decide))
    refine lv_iload_n hx hb dX7_bend_10 rfl (lv_at hl 2 rfl) ?_
    refine lv_iconst (v := 1) hx hb dX7_bend_11 (by decide) ?_
    refine lv_bipush (v := 9) hx hb dX7_bend_12 (by decide) ?_
    have hPc := hP.sub (ws' := []) [] rfl
    refine vp_callSi (va_Run.run (va_runS (As := [.int v, .int 1, .int 9]) (rest := []) ⟨hx, hb, hml, hown, hts⟩ (c_X7_within l D cI cO v 1 9) (va_cwS 3 hts gX7_bend_X7_within rfl rfl rfl (by decide +kernel) ⟨Nat.le_of_ble_eq_true rfl, Nat.le_of_ble_eq_true rfl⟩) (preSR hPc hK hNw) rfl rfl hl.1 rfl (lv_room (Nat.le_of_ble_eq_true rfl)) dX7_bend_14 ⟨Nat.zero_le _, Nat.zero_le _⟩)) (fun r14 w14 => ?_)
    by_cases b14 : lstT v 1 9 = true
    · -- y14
      obtain rfl := w14.1 b14
      have hv1 := (lst_in b14).1
      have hv2 := (lst_in b14).2
      refine lv_if_ne (tgt := 23) hx hb dX7_bend_17 (by decide) (fun _ => ?_) (fun h => absurd h (by decide))
      refine lv_aload_n hx hb dX7_bend_23 rfl (lv_at hl 0 rfl) ?_
      refine lv_iload_n hx hb dX7_bend_24 rfl (lv_at hl 1 rfl) ?_
      have hPc := hP.sub (ws' := [(x, .inr (7, [.int fa, .int tr, .ref so, .ref sl, .ref ce, .int (nI n), .int bar, .int (nI tn), .ref ki, .ref si, .ref th, .ref ri, .int at_, .int rp, .ref rk, .ref rs, .ref kt, .ref kr, .int kn, .int rg, .ref ab, .int am, .ref bh, .int bm, .int br, .int (nI rn), .ref wa, .ref ra])), (th, .inl (cI, 3, .inl ts))]) [0, 2] rfl
      refine vp_callSi (va_Run.run (va_runV (As := [.int (nI j)]) (rest := []) ⟨hx, hb, hml, hown, hts⟩ (c_X7_threeOf l D cI cO x fa tr so sl ce n bar tn ki si th ri at_ rp rk rs kt kr kn rg ab am bh bm br rn wa ra ts j (by assumption) (by omega)) (cwV 1 hts gX7_bend_X7_threeOf rfl rfl rfl (by decide +kernel) ⟨Nat.le_of_ble_eq_true rfl, Nat.le_of_ble_eq_true rfl⟩) (preVR hPc hK hNw (va_recv hK hPc (ci := 7) (q0 := 0) rfl rfl)) rfl rfl hl.1 rfl (lv_room (Nat.le_of_ble_eq_true rfl)) dX7_bend_25 ⟨Nat.zero_le _, Nat.zero_le _⟩)) (fun r25 w25 => ?_)
      obtain rfl := w25
      refine lv_bipush (v := -9) hx hb dX7_bend_28 (by decide) ?_
      refine lv_icmp_eq (tgt := 36) hx hb dX7_bend_30 (by decide) (fun c30 => ?_) (fun c30 => ?_)
      · -- t30
        refine lv_aload_n hx hb dX7_bend_36 rfl (lv_at hl 0 rfl) ?_
        refine va_get (D := D) (ci := 7) (v := .ref si) (C := RX7) (T := TX7) (N := 28) hx hb hts iX7 hown hK hP 0 rfl rfl 9 (by decide) f22 (fun _ h9 => h9) rfl dX7_bend_37 ?_
        refine lv_iload_n hx hb dX7_bend_40 rfl (lv_at hl 1 rfl) ?_
        refine va_iald hx hb hK hP 1 0 rfl rfl (vp_in_nI (by omega) (by decide)) dX7_bend_41 ?_
        refine tp_i (y := sd j) (by rw [nI_clamp (n := j) (by omega)]) ?_
        refine lv_istore_n (lv' := [(3, .int (sd j)), (0, .ref x), (1, .int (nI j)), (2, .int v)]) hx hb dX7_bend_42 rfl hl (by decide) rfl (fun ls hl => ?_)
        refine lv_aload_n hx hb dX7_bend_43 rfl (lv_at hl 1 rfl) ?_
        refine va_get (D := D) (ci := 7) (v := .ref si) (C := RX7) (T := TX7) (N := 28) hx hb hts iX7 hown hK hP 0 rfl rfl 9 (by decide) f22 (fun _ h9 => h9) rfl dX7_bend_44 ?_
        refine lv_iload_n hx hb dX7_bend_47 rfl (lv_at hl 2 rfl) ?_
        refine lv_iload_n hx hb dX7_bend_48 rfl (lv_at hl 3 rfl) ?_
        refine va_iast hx hb hK hP hD hS 1 0 rfl rfl (vp_in_nI (by omega) (by decide)) dX7_bend_49 (fun H locs hP hD hS => ?_)
        rw [nI_clamp (n := j) (by omega)] at hP hD
        have hP : va_P D vwCl [(x, .inr (7, [.int fa, .int tr, .ref so, .ref sl, .ref ce, .int (nI n), .int bar, .int (nI tn), .ref ki, .ref si, .ref th, .ref ri, .int at_, .int rp, .ref rk, .ref rs, .ref kt, .ref kr, .int kn, .int rg, .ref ab, .int am, .ref bh, .int bm, .int br, .int (nI rn), .ref wa, .ref ra])), (si, .inl (cI, 9, .inl (upd sd j v))), (th, .inl (cI, 3, .inl ts))] H := hP
        have hD : va_D A [(x, .inr (7, [.int fa, .int tr, .ref so, .ref sl, .ref ce, .int (nI n), .int bar, .int (nI tn), .ref ki, .ref si, .ref th, .ref ri, .int at_, .int rp, .ref rk, .ref rs, .ref kt, .ref kr, .int kn, .int rg, .ref ab, .int am, .ref bh, .int bm, .int br, .int (nI rn), .ref wa, .ref ra])), (si, .inl (cI, 9, .inl (upd sd j v))), (th, .inl (cI, 3, .inl ts))] := hD
        refine lv_iload_n hx hb dX7_bend_50 rfl (lv_at hl 0 rfl) ?_
        exact W.iret (v := sd j) hx hb hr (fun t ht hW => ⟨⟨_, (upd sd j v), rfl, by first | (simp [onQ_out b2]; done) | (simp [onQ_in hj (show n < 2 ^ 31 by omega), *]; done) | (rcases hvo with q | q <;> simp [onQ_in hj (show n < 2 ^ 31 by omega), q]; done), by rw [ht]; exact hP, va_K.moved hW.alike hK, hD⟩, hS.F ht⟩) hS.2.2 dX7_bend_51
      · -- f30
        refine lv_bipush (v := -3) hx hb dX7_bend_33 (by decide) ?_
        exact W.iret (v := -3) hx hb hr (fun t ht hW => ⟨⟨_, sd, rfl, by first | (simp [onQ_out b2]; done) | (simp [onQ_in hj (show n < 2 ^ 31 by omega), *]; done) | (rcases hvo with q | q <;> simp [onQ_in hj (show n < 2 ^ 31 by omega), q]; done), by rw [ht]; exact hP, va_K.moved hW.alike hK, hD⟩, hS.F ht⟩) hS.2.2 dX7_bend_35
    · -- n14
      obtain rfl := w14.2 b14
      have hvo := lst_out b14
      refine lv_if_ne (tgt := 23) hx hb dX7_bend_17 (by decide) (fun h => absurd (by decide) h) (fun _ => ?_)
      refine lv_bipush (v := -2) hx hb dX7_bend_20 (by decide) ?_
      exact W.iret (v := -2) hx hb hr (fun t ht hW => ⟨⟨_, sd, rfl, by first | (simp [onQ_out b2]; done) | (simp [onQ_in hj (show n < 2 ^ 31 by omega), *]; done) | (rcases hvo with q | q <;> simp [onQ_in hj (show n < 2 ^ 31 by omega), q]; done), by rw [ht]; exact hP, va_K.moved hW.alike hK, hD⟩, hS.F ht⟩) hS.2.2 dX7_bend_22
  · -- n2
    obtain rfl := w2.2 b2
    refine lv_if_ne (tgt := 10) hx hb dX7_bend_5 (by decide) (fun h => absurd (by decide) h) (fun _ => ?_)
    refine lv_iconst (v := -1) hx hb dX7_bend_8 (by decide) ?_
    exact W.iret (v := -1) hx hb hr (fun t ht hW => ⟨⟨_, sd, rfl, by first | (simp [onQ_out b2]; done) | (simp [onQ_in hj (show n < 2 ^ 31 by omega), *]; done) | (rcases hvo with q | q <;> simp [onQ_in hj (show n < 2 ^ 31 by omega), q]; done), by rw [ht]; exact hP, va_K.moved hW.alike hK, hD⟩, hS.F ht⟩) hS.2.2 dX7_bend_9

set_option maxHeartbeats 4000000 in
set_option maxRecDepth 100000 in
theorem c_X7_hang (l : Launch) (D : va_G) (cI cO : ClassId) (x : Nat) (fa : Int32) (tr : Int32) (so : Nat) (sl : Nat) (ce : Nat) (n : Nat) (bar : Int32) (tn : Nat) (ki : Nat) (si : Nat) (th : Nat) (ri : Nat) (at_ : Int32) (rp : Int32) (rk : Nat) (rs : Nat) (kt : Nat) (kr : Nat) (kn : Int32) (rg : Int32) (ab : Nat) (am : Int32) (bh : Nat) (bm : Int32) (br : Int32) (rn : Nat) (wa : Nat) (ra : Nat) (sd : Nat → Int32) (ts : Nat → Int32) (tl : Nat → Int32) (a : Int32) (b : Int32) (cc : Int32) (sz : Nat) (hn : n ≤ 9) (ht3 : hgM n sd tn ts a b cc = 2 → tn < 3) (htn : tn ≤ 3) : Met l yX7_hang wsX7_hang ({ frames := 3, cells := 0, slots := 0, locals := 65 } : Room) (va_Pc [.ref x, .int a, .int b, .int cc] (wdW D cI cO [(x, .inr (7, [.int fa, .int tr, .ref so, .ref sl, .ref ce, .int (nI n), .int bar, .int (nI tn), .ref ki, .ref si, .ref th, .ref ri, .int at_, .int rp, .ref rk, .ref rs, .ref kt, .ref kr, .int kn, .int rg, .ref ab, .int am, .ref bh, .int bm, .int br, .int (nI rn), .ref wa, .ref ra])), (si, .inl (cI, 9, .inl sd)), (th, .inl (cI, 3, .inl ts)), (ri, .inl (cI, 3, .inl tl))] sz)) (va_Qi (S := Nat × (Nat → Int32) × (Nat → Int32)) (fun r u => r = (hgR tn (hgM n sd tn ts a b cc)) ∧ u.1 = (in2 (hgM n sd tn ts a b cc) (tn + 1) tn) ∧ u.2.1 = (in2 (hgM n sd tn ts a b cc) (upd ts tn (bit3 a b cc)) ts) ∧ u.2.2 = (in2 (hgM n sd tn ts a b cc) (upd tl tn 0) tl)) (fun u t => va_P D vwCl [(x, .inr (7, [.int fa, .int tr, .ref so, .ref sl, .ref ce, .int (nI n), .int bar, .int (nI u.1), .ref ki, .ref si, .ref th, .ref ri, .int at_, .int rp, .ref rk, .ref rs, .ref kt, .ref kr, .int kn, .int rg, .ref ab, .int am, .ref bh, .int bm, .int br, .int (nI rn), .ref wa, .ref ra])), (si, .inl (cI, 9, .inl sd)), (th, .inl (cI, 3, .inl u.2.1)), (ri, .inl (cI, 3, .inl u.2.2))] t.heap ∧ va_K D vwCl (tyL cI cO) t ∧ va_D (va_A [(x, .inr (7, [.int fa, .int tr, .ref so, .ref sl, .ref ce, .int (nI n), .int bar, .int (nI tn), .ref ki, .ref si, .ref th, .ref ri, .int at_, .int rp, .ref rk, .ref rs, .ref kt, .ref kr, .int kn, .int rg, .ref ab, .int am, .ref bh, .int bm, .int br, .int (nI rn), .ref wa, .ref ra])), (si, .inl (cI, 9, .inl sd)), (th, .inl (cI, 3, .inl ts)), (ri, .inl (cI, 3, .inl tl))] sz) [(x, .inr (7, [.int fa, .int tr, .ref so, .ref sl, .ref ce, .int (nI n), .int bar, .int (nI u.1), .ref ki, .ref si, .ref th, .ref ri, .int at_, .int rp, .ref rk, .ref rs, .ref kt, .ref kr, .int kn, .int rg, .ref ab, .int am, .ref bh, .int bm, .int br, .int (nI rn), .ref wa, .ref ra])), (si, .inl (cI, 9, .inl sd)), (th, .inl (cI, 3, .inl u.2.1)), (ri, .inl (cI, 3, .inl u.2.2))]) (va_A [(x, .inr (7, [.int fa, .int tr, .ref so, .ref sl, .ref ce, .int (nI n), .int bar, .int (nI tn), .ref ki, .ref si, .ref th, .ref ri, .int at_, .int rp, .ref rk, .ref rs, .ref kt, .ref kr, .int kn, .int rg, .ref ab, .int am, .ref bh, .int bm, .int br, .int (nI rn), .ref wa, .ref ra])), (si, .inl (cI, 9, .inl sd)), (th, .inl (cI, 3, .inl ts)), (ri, .inl (cI, 3, .inl tl))] sz)) 0 0 (va_A [(x, .inr (7, [.int fa, .int tr, .ref so, .ref sl, .ref ce, .int (nI n), .int bar, .int (nI tn), .ref ki, .ref si, .ref th, .ref ri, .int at_, .int rp, .ref rk, .ref rs, .ref kt, .ref kr, .int kn, .int rg, .ref ab, .int am, .ref bh, .int bm, .int br, .int (nI rn), .ref wa, .ref ra])), (si, .inl (cI, 9, .inl sd)), (th, .inl (cI, 3, .inl ts)), (ri, .inl (cI, 3, .inl tl))] sz) := by
  refine Met.ofW (cc := cX7_hang) (maxL := 5) (ret := (some .int)) (by decide) rfl ?_
  intro p e s m args below meth c s₁ B hml hv
  obtain ⟨rfl, hsz, hP, hK, hNw, hD0⟩ := hv
  have hx := B.exec
  have hb := B.bytes
  have hr := B.returns
  have hts := atoms_spec (ws := wsX7_hang) B.pre
  have hown : s.vm.findClass RX7 = some m.cls := findClass_of_methodNamed B.named
  have hlocks := B.notSynchronized
  have f25 := hts (.fieldLink RX7 25 "StruckThreesModel" "three" "[I") (by decide +kernel)
  have f28 := hts (.fieldLink RX7 28 "StruckThreesModel" "rings" "[I") (by decide +kernel)
  have f68 := hts (.fieldLink RX7 68 "StruckThreesModel" "threes" "I") (by decide +kernel)
  have iX7 : ∀ w ∈ wsX70, w ∈ wsX7_hang := by decide +kernel
  subst hsz
  have hD := hD0.self (sz := s.heap.size)
  generalize hAe : va_A [(x, .inr (7, [.int fa, .int tr, .ref so, .ref sl, .ref ce, .int (nI n), .int bar, .int (nI tn), .ref ki, .ref si, .ref th, .ref ri, .int at_, .int rp, .ref rk, .ref rs, .ref kt, .ref kr, .int kn, .int rg, .ref ab, .int am, .ref bh, .int bm, .int br, .int (nI rn), .ref wa, .ref ra])), (si, .inl (cI, 9, .inl sd)), (th, .inl (cI, 3, .inl ts)), (ri, .inl (cI, 3, .inl tl))] s.heap.size = A at hD ⊢
  have hA : ∀ q : Nat, s.heap.size ≤ q → A q := fun q h => by rw [← hAe]; exact Or.inr h
  have hS : va_S A s.heap s.heap [] := va_S.rf
  have hP : va_P D vwCl [(x, .inr (7, [.int fa, .int tr, .ref so, .ref sl, .ref ce, .int (nI n), .int bar, .int (nI tn), .ref ki, .ref si, .ref th, .ref ri, .int at_, .int rp, .ref rk, .ref rs, .ref kt, .ref kr, .int kn, .int rg, .ref ab, .int am, .ref bh, .int bm, .int br, .int (nI rn), .ref wa, .ref ra])), (si, .inl (cI, 9, .inl sd)), (th, .inl (cI, 3, .inl ts)), (ri, .inl (cI, 3, .inl tl))] s.heap := hP
  have hl := lv_entry ([.ref x, .int a, .int b, .int cc]) (n := 5) (Nat.le_of_ble_eq_true rfl)
  rw [lg_entry_eq]
  generalize (lg_sl ([.ref x, .int a, .int b, .int cc]) ++ List.replicate (5 - (lg_sl ([.ref x, .int a, .int b, .int cc])).length) Slot.unset).toArray = ls at hl ⊢
  have hl : lv_has ls 5 [(0, .ref x), (1, .int a), (2, .int b), (3, .int cc)] := hl
  have hb2 := bnd_t hn
  refine lv_aload_n hx hb dX7_hang_0 rfl (lv_at hl 0 rfl) ?_
  refine lv_iload_n hx hb dX7_hang_1 rfl (lv_at hl 1 rfl) ?_
  have hPc := hP.sub (ws' := [(x, .inr (7, [.int fa, .int tr, .ref so, .ref sl, .ref ce, .int (nI n), .int bar, .int (nI tn), .ref ki, .ref si, .ref th, .ref ri, .int at_, .int rp, .ref rk, .ref rs, .ref kt, .ref kr, .int kn, .int rg, .ref ab, .int am, .ref bh, .int bm, .int br, .int (nI rn), .ref wa, .ref ra]))]) [0] rfl
  refine vp_callSi (va_Run.run (va_runV (As := [.int a]) (rest := []) ⟨hx, hb, hml, hown, hts⟩ (c_X7_isPerson l D cI cO x fa tr so sl ce n bar tn ki si th ri at_ rp rk rs kt kr kn rg ab am bh bm br rn wa ra a) (cwV 1 hts gX7_hang_X7_isPerson rfl rfl rfl (by decide +kernel) ⟨Nat.le_of_ble_eq_true rfl, Nat.le_of_ble_eq_true rfl⟩) (preVR hPc hK hNw (va_recv hK hPc (ci := 7) (q0 := 0) rfl rfl)) rfl rfl hl.1 rfl (lv_room (Nat.le_of_ble_eq_true rfl)) dX7_hang_2 ⟨Nat.zero_le _, Nat.zero_le _⟩)) (fun r2 w2 => ?_)
  by_cases b2 : ¬ a < 0 ∧ ¬ nI n ≤ a
  · -- y2
    obtain rfl := w2.1 b2
    obtain ⟨ja, hja, eja⟩ := in_nat b2 (show n < 2 ^ 31 by omega)
    have qja : isP n a = true := decide_eq_true b2
    refine lv_if_eq (tgt := 39) hx hb dX7_hang_5 (by decide) (fun h => absurd h (by decide)) (fun _ => ?_)
    refine lv_aload_n hx hb dX7_hang_8 rfl (lv_at hl 0 rfl) ?_
    refine lv_iload_n hx hb dX7_hang_9 rfl (lv_at hl 2 rfl) ?_
    have hPc := hP.sub (ws' := [(x, .inr (7, [.int fa, .int tr, .ref so, .ref sl, .ref ce, .int (nI n), .int bar, .int (nI tn), .ref ki, .ref si, .ref th, .ref ri, .int at_, .int rp, .ref rk, .ref rs, .ref kt, .ref kr, .int kn, .int rg, .ref ab, .int am, .ref bh, .int bm, .int br, .int (nI rn), .ref wa, .ref ra]))]) [0] rfl
    refine vp_callSi (va_Run.run (va_runV (As := [.int b]) (rest := []) ⟨hx, hb, hml, hown, hts⟩ (c_X7_isPerson l D cI cO x fa tr so sl ce n bar tn ki si th ri at_ rp rk rs kt kr kn rg ab am bh bm br rn wa ra b) (cwV 1 hts gX7_hang_X7_isPerson rfl rfl rfl (by decide +kernel) ⟨Nat.le_of_ble_eq_true rfl, Nat.le_of_ble_eq_true rfl⟩) (preVR hPc hK hNw (va_recv hK hPc (ci := 7) (q0 := 0) rfl rfl)) rfl rfl hl.1 rfl (lv_room (Nat.le_of_ble_eq_true rfl)) dX7_hang_10 ⟨Nat.zero_le _, Nat.zero_le _⟩)) (fun r10 w10 => ?_)
    by_cases b10 : ¬ b < 0 ∧ ¬ nI n ≤ b
    · -- y10
      obtain rfl := w10.1 b10
      obtain ⟨jb, hjb, ejb⟩ := in_nat b10 (show n < 2 ^ 31 by omega)
      have qjb : isP n b = true := decide_eq_true b10
      refine lv_if_eq (tgt := 39) hx hb dX7_hang_13 (by decide) (fun h => absurd h (by decide)) (fun _ => ?_)
      refine lv_aload_n hx hb dX7_hang_16 rfl (lv_at hl 0 rfl) ?_
      refine lv_iload_n hx hb dX7_hang_17 rfl (lv_at hl 3 rfl) ?_
      have hPc := hP.sub (ws' := [(x, .inr (7, [.int fa, .int tr, .ref so, .ref sl, .ref ce, .int (nI n), .int bar, .int (nI tn), .ref ki, .ref si, .ref th, .ref ri, .int at_, .int rp, .ref rk, .ref rs, .ref kt, .ref kr, .int kn, .int rg, .ref ab, .int am, .ref bh, .int bm, .int br, .int (nI rn), .ref wa, .ref ra]))]) [0] rfl
      refine vp_callSi (va_Run.run (va_runV (As := [.int cc]) (rest := []) ⟨hx, hb, hml, hown, hts⟩ (c_X7_isPerson l D cI cO x fa tr so sl ce n bar tn ki si th ri at_ rp rk rs kt kr kn rg ab am bh bm br rn wa ra cc) (cwV 1 hts gX7_hang_X7_isPerson rfl rfl rfl (by decide +kernel) ⟨Nat.le_of_ble_eq_true rfl, Nat.le_of_ble_eq_true rfl⟩) (preVR hPc hK hNw (va_recv hK hPc (ci := 7) (q0 := 0) rfl rfl)) rfl rfl hl.1 rfl (lv_room (Nat.le_of_ble_eq_true rfl)) dX7_hang_18 ⟨Nat.zero_le _, Nat.zero_le _⟩)) (fun r18 w18 => ?_)
      by_cases b18 : ¬ cc < 0 ∧ ¬ nI n ≤ cc
      · -- y18
        obtain rfl := w18.1 b18
        obtain ⟨jc, hjc, ejc⟩ := in_nat b18 (show n < 2 ^ 31 by omega)
        have qjc : isP n cc = true := decide_eq_true b18
        refine lv_if_eq (tgt := 39) hx hb dX7_hang_21 (by decide) (fun h => absurd h (by decide)) (fun _ => ?_)
        refine lv_iload_n hx hb dX7_hang_24 rfl (lv_at hl 1 rfl) ?_
        refine lv_iload_n hx hb dX7_hang_25 rfl (lv_at hl 2 rfl) ?_
        refine lv_icmp_eq (tgt := 39) hx hb dX7_hang_26 (by decide) (fun c26 => ?_) (fun c26 => ?_)
        · -- t26
          have hk0 : hgM n sd tn ts a b cc = 0 := by unfold hgM; rw [if_neg (fun h => h.2.2.2.1 c26)]
          refine lv_iconst (v := -1) hx hb dX7_hang_39 (by decide) ?_
          exact W.iret (v := -1) hx hb hr (fun t ht hW => ⟨⟨_, (tn, ts, tl), rfl, by first | (rw [hk2]; exact ⟨nI_pred _, rfl, rfl, rfl⟩) | (rw [hk1]; exact ⟨rfl, rfl, rfl, rfl⟩) | (rw [hk0]; exact ⟨rfl, rfl, rfl, rfl⟩) | (rw [show hgM n sd tn ts a b cc = 0 from by unfold hgM; rw [if_neg (fun h => by first | exact absurd h.2.2.1 (by rw [qjc]; decide) | exact absurd h.2.1 (by rw [qjb]; decide) | exact absurd h.1 (by rw [qja]; decide))]]; exact ⟨rfl, rfl, rfl, rfl⟩), by rw [ht]; exact hP, va_K.moved hW.alike hK, hD⟩, hS.F ht⟩) hS.2.2 dX7_hang_40
        · -- f26
          refine lv_iload_n hx hb dX7_hang_29 rfl (lv_at hl 1 rfl) ?_
          refine lv_iload_n hx hb dX7_hang_30 rfl (lv_at hl 3 rfl) ?_
          refine lv_icmp_eq (tgt := 39) hx hb dX7_hang_31 (by decide) (fun c31 => ?_) (fun c31 => ?_)
          · -- t31
            have hk0 : hgM n sd tn ts a b cc = 0 := by unfold hgM; rw [if_neg (fun h => h.2.2.2.2.1 c31)]
            refine lv_iconst (v := -1) hx hb dX7_hang_39 (by decide) ?_
            exact W.iret (v := -1) hx hb hr (fun t ht hW => ⟨⟨_, (tn, ts, tl), rfl, by first | (rw [hk2]; exact ⟨nI_pred _, rfl, rfl, rfl⟩) | (rw [hk1]; exact ⟨rfl, rfl, rfl, rfl⟩) | (rw [hk0]; exact ⟨rfl, rfl, rfl, rfl⟩) | (rw [show hgM n sd tn ts a b cc = 0 from by unfold hgM; rw [if_neg (fun h => by first | exact absurd h.2.2.1 (by rw [qjc]; decide) | exact absurd h.2.1 (by rw [qjb]; decide) | exact absurd h.1 (by rw [qja]; decide))]]; exact ⟨rfl, rfl, rfl, rfl⟩), by rw [ht]; exact hP, va_K.moved hW.alike hK, hD⟩, hS.F ht⟩) hS.2.2 dX7_hang_40
          · -- f31
            refine lv_iload_n hx hb dX7_hang_34 rfl (lv_at hl 2 rfl) ?_
            refine lv_iload_n hx hb dX7_hang_35 rfl (lv_at hl 3 rfl) ?_
            refine lv_icmp_ne (tgt := 41) hx hb dX7_hang_36 (by decide) (fun c36 => ?_) (fun c36 => ?_)
            · -- t36
              refine lv_iconst (v := 1) hx hb dX7_hang_41 (by decide) ?_
              refine lv_iload_n hx hb dX7_hang_42 rfl (lv_at hl 1 rfl) ?_
              refine lv_ishl hx hb dX7_hang_43 ?_
              refine lv_iconst (v := 1) hx hb dX7_hang_44 (by decide) ?_
              refine lv_iload_n hx hb dX7_hang_45 rfl (lv_at hl 2 rfl) ?_
              refine lv_ishl hx hb dX7_hang_46 ?_
              refine lv_ior hx hb dX7_hang_47 ?_
              refine lv_iconst (v := 1) hx hb dX7_hang_48 (by decide) ?_
              refine lv_iload_n hx hb dX7_hang_49 rfl (lv_at hl 3 rfl) ?_
              refine lv_ishl hx hb dX7_hang_50 ?_
              refine lv_ior hx hb dX7_hang_51 ?_
              refine lv_istore (lv' := [(4, .int (((1 <<< (a &&& 31)) ||| (1 <<< (b &&& 31))) ||| (1 <<< (cc &&& 31)))), (0, .ref x), (1, .int a), (2, .int b), (3, .int cc)]) hx hb dX7_hang_52 hl (by decide) rfl (fun ls hl => ?_)
              refine lv_aload_n hx hb dX7_hang_54 rfl (lv_at hl 1 rfl) ?_
              refine lv_iload_n hx hb dX7_hang_55 rfl (lv_at hl 2 rfl) ?_
              refine tp_i (y := nI ja) (eja) ?_
              have hPc := hP.sub (ws' := [(x, .inr (7, [.int fa, .int tr, .ref so, .ref sl, .ref ce, .int (nI n), .int bar, .int (nI tn), .ref ki, .ref si, .ref th, .ref ri, .int at_, .int rp, .ref rk, .ref rs, .ref kt, .ref kr, .int kn, .int rg, .ref ab, .int am, .ref bh, .int bm, .int br, .int (nI rn), .ref wa, .ref ra])), (th, .inl (cI, 3, .inl ts))]) [0, 2] rfl
              refine vp_callSi (va_Run.run (va_runV (As := [.int (nI ja)]) (rest := []) ⟨hx, hb, hml, hown, hts⟩ (c_X7_threeOf l D cI cO x fa tr so sl ce n bar tn ki si th ri at_ rp rk rs kt kr kn rg ab am bh bm br rn wa ra ts ja (by assumption) (by omega)) (cwV 1 hts gX7_hang_X7_threeOf rfl rfl rfl (by decide +kernel) ⟨Nat.le_of_ble_eq_true rfl, Nat.le_of_ble_eq_true rfl⟩) (preVR hPc hK hNw (va_recv hK hPc (ci := 7) (q0 := 0) rfl rfl)) rfl rfl hl.1 rfl (lv_room (Nat.le_of_ble_eq_true rfl)) dX7_hang_56 ⟨Nat.zero_le _, Nat.zero_le _⟩)) (fun r56 w56 => ?_)
              obtain rfl := w56
              have ua : thrW ts a.toNatClampNeg tn 0 = thrW ts ja tn 0 := by rw [eja, nI_clamp (n := ja) (by omega)]
              refine lv_bipush (v := -9) hx hb dX7_hang_59 (by decide) ?_
              refine lv_icmp_ne (tgt := 93) hx hb dX7_hang_61 (by decide) (fun c61 => ?_) (fun c61 => ?_)
              · -- t61
                have hk1 : hgM n sd tn ts a b cc = 1 := by unfold hgM; rw [if_pos ⟨qja, qjb, qjc, c26, c31, c36⟩, if_neg (fun h => c61 (ua ▸ h.1))]
                refine lv_bipush (v := -3) hx hb dX7_hang_93 (by decide) ?_
                exact W.iret (v := -3) hx hb hr (fun t ht hW => ⟨⟨_, (tn, ts, tl), rfl, by first | (rw [hk2]; exact ⟨nI_pred _, rfl, rfl, rfl⟩) | (rw [hk1]; exact ⟨rfl, rfl, rfl, rfl⟩) | (rw [hk0]; exact ⟨rfl, rfl, rfl, rfl⟩) | (rw [show hgM n sd tn ts a b cc = 0 from by unfold hgM; rw [if_neg (fun h => by first | exact absurd h.2.2.1 (by rw [qjc]; decide) | exact absurd h.2.1 (by rw [qjb]; decide) | exact absurd h.1 (by rw [qja]; decide))]]; exact ⟨rfl, rfl, rfl, rfl⟩), by rw [ht]; exact hP, va_K.moved hW.alike hK, hD⟩, hS.F ht⟩) hS.2.2 dX7_hang_95
              · -- f61
                refine lv_aload_n hx hb dX7_hang_64 rfl (lv_at hl 1 rfl) ?_
                refine lv_iload_n hx hb dX7_hang_65 rfl (lv_at hl 3 rfl) ?_
                refine tp_i (y := nI jb) (ejb) ?_
                have hPc := hP.sub (ws' := [(x, .inr (7, [.int fa, .int tr, .ref so, .ref sl, .ref ce, .int (nI n), .int bar, .int (nI tn), .ref ki, .ref si, .ref th, .ref ri, .int at_, .int rp, .ref rk, .ref rs, .ref kt, .ref kr, .int kn, .int rg, .ref ab, .int am, .ref bh, .int bm, .int br, .int (nI rn), .ref wa, .ref ra])), (th, .inl (cI, 3, .inl ts))]) [0, 2] rfl
                refine vp_callSi (va_Run.run (va_runV (As := [.int (nI jb)]) (rest := []) ⟨hx, hb, hml, hown, hts⟩ (c_X7_threeOf l D cI cO x fa tr so sl ce n bar tn ki si th ri at_ rp rk rs kt kr kn rg ab am bh bm br rn wa ra ts jb (by assumption) (by omega)) (cwV 1 hts gX7_hang_X7_threeOf rfl rfl rfl (by decide +kernel) ⟨Nat.le_of_ble_eq_true rfl, Nat.le_of_ble_eq_true rfl⟩) (preVR hPc hK hNw (va_recv hK hPc (ci := 7) (q0 := 0) rfl rfl)) rfl rfl hl.1 rfl (lv_room (Nat.le_of_ble_eq_true rfl)) dX7_hang_66 ⟨Nat.zero_le _, Nat.zero_le _⟩)) (fun r66 w66 => ?_)
                obtain rfl := w66
                have ub : thrW ts b.toNatClampNeg tn 0 = thrW ts jb tn 0 := by rw [ejb, nI_clamp (n := jb) (by omega)]
                refine lv_bipush (v := -9) hx hb dX7_hang_69 (by decide) ?_
                refine lv_icmp_ne (tgt := 93) hx hb dX7_hang_71 (by decide) (fun c71 => ?_) (fun c71 => ?_)
                · -- t71
                  have hk1 : hgM n sd tn ts a b cc = 1 := by unfold hgM; rw [if_pos ⟨qja, qjb, qjc, c26, c31, c36⟩, if_neg (fun h => c71 (ub ▸ h.2.1))]
                  refine lv_bipush (v := -3) hx hb dX7_hang_93 (by decide) ?_
                  exact W.iret (v := -3) hx hb hr (fun t ht hW => ⟨⟨_, (tn, ts, tl), rfl, by first | (rw [hk2]; exact ⟨nI_pred _, rfl, rfl, rfl⟩) | (rw [hk1]; exact ⟨rfl, rfl, rfl, rfl⟩) | (rw [hk0]; exact ⟨rfl, rfl, rfl, rfl⟩) | (rw [show hgM n sd tn ts a b cc = 0 from by unfold hgM; rw [if_neg (fun h => by first | exact absurd h.2.2.1 (by rw [qjc]; decide) | exact absurd h.2.1 (by rw [qjb]; decide) | exact absurd h.1 (by rw [qja]; decide))]]; exact ⟨rfl, rfl, rfl, rfl⟩), by rw [ht]; exact hP, va_K.moved hW.alike hK, hD⟩, hS.F ht⟩) hS.2.2 dX7_hang_95
                · -- f71
                  refine lv_aload_n hx hb dX7_hang_74 rfl (lv_at hl 1 rfl) ?_
                  refine lv_iload_n hx hb dX7_hang_75 rfl (lv_at hl 4 rfl) ?_
                  refine tp_i (y := nI jc) (ejc) ?_
                  have hPc := hP.sub (ws' := [(x, .inr (7, [.int fa, .int tr, .ref so, .ref sl, .ref ce, .int (nI n), .int bar, .int (nI tn), .ref ki, .ref si, .ref th, .ref ri, .int at_, .int rp, .ref rk, .ref rs, .ref kt, .ref kr, .int kn, .int rg, .ref ab, .int am, .ref bh, .int bm, .int br, .int (nI rn), .ref wa, .ref ra])), (th, .inl (cI, 3, .inl ts))]) [0, 2] rfl
                  refine vp_callSi (va_Run.run (va_runV (As := [.int (nI jc)]) (rest := []) ⟨hx, hb, hml, hown, hts⟩ (c_X7_threeOf l D cI cO x fa tr so sl ce n bar tn ki si th ri at_ rp rk rs kt kr kn rg ab am bh bm br rn wa ra ts jc (by assumption) (by omega)) (cwV 1 hts gX7_hang_X7_threeOf rfl rfl rfl (by decide +kernel) ⟨Nat.le_of_ble_eq_true rfl, Nat.le_of_ble_eq_true rfl⟩) (preVR hPc hK hNw (va_recv hK hPc (ci := 7) (q0 := 0) rfl rfl)) rfl rfl hl.1 rfl (lv_room (Nat.le_of_ble_eq_true rfl)) dX7_hang_76 ⟨Nat.zero_le _, Nat.zero_le _⟩)) (fun r76 w76 => ?_)
                  obtain rfl := w76
                  have uc : thrW ts cc.toNatClampNeg tn 0 = thrW ts jc tn 0 := by rw [ejc, nI_clamp (n := jc) (by omega)]
                  refine lv_bipush (v := -9) hx hb dX7_hang_79 (by decide) ?_
                  refine lv_icmp_ne (tgt := 93) hx hb dX7_hang_81 (by decide) (fun c81 => ?_) (fun c81 => ?_)
                  · -- t81
                    have hk1 : hgM n sd tn ts a b cc = 1 := by unfold hgM; rw [if_pos ⟨qja, qjb, qjc, c26, c31, c36⟩, if_neg (fun h => c81 (uc ▸ h.2.2.1))]
                    refine lv_bipush (v := -3) hx hb dX7_hang_93 (by decide) ?_
                    exact W.iret (v := -3) hx hb hr (fun t ht hW => ⟨⟨_, (tn, ts, tl), rfl, by first | (rw [hk2]; exact ⟨nI_pred _, rfl, rfl, rfl⟩) | (rw [hk1]; exact ⟨rfl, rfl, rfl, rfl⟩) | (rw [hk0]; exact ⟨rfl, rfl, rfl, rfl⟩) | (rw [show hgM n sd tn ts a b cc = 0 from by unfold hgM; rw [if_neg (fun h => by first | exact absurd h.2.2.1 (by rw [qjc]; decide) | exact absurd h.2.1 (by rw [qjb]; decide) | exact absurd h.1 (by rw [qja]; decide))]]; exact ⟨rfl, rfl, rfl, rfl⟩), by rw [ht]; exact hP, va_K.moved hW.alike hK, hD⟩, hS.F ht⟩) hS.2.2 dX7_hang_95
                  · -- f81
                    obtain ⟨m3, hm3, em3⟩ := bit3_n hn hja hjb hjc
                    have em4 : bit3 a b cc = nI m3 := by rw [eja, ejb, ejc]; exact em3
                    refine lv_aload_n hx hb dX7_hang_84 rfl (lv_at hl 1 rfl) ?_
                    refine lv_iload hx hb dX7_hang_85 (lv_at hl 0 rfl) ?_
                    refine tp_i (y := nI m3) (em4) ?_
                    have hPc := hP.sub (ws' := [(x, .inr (7, [.int fa, .int tr, .ref so, .ref sl, .ref ce, .int (nI n), .int bar, .int (nI tn), .ref ki, .ref si, .ref th, .ref ri, .int at_, .int rp, .ref rk, .ref rs, .ref kt, .ref kr, .int kn, .int rg, .ref ab, .int am, .ref bh, .int bm, .int br, .int (nI rn), .ref wa, .ref ra])), (si, .inl (cI, 9, .inl sd))]) [0, 1] rfl
                    refine vp_callSi (va_Run.run (va_runV (As := [.int (nI m3)]) (rest := []) ⟨hx, hb, hml, hown, hts⟩ (c_X7_canHang l D cI cO x fa tr so sl ce n bar tn ki si th ri at_ rp rk rs kt kr kn rg ab am bh bm br rn wa ra sd m3 (by assumption) (by omega)) (cwV 1 hts gX7_hang_X7_canHang rfl rfl rfl (by decide +kernel) ⟨Nat.le_of_ble_eq_true rfl, Nat.le_of_ble_eq_true rfl⟩) (preVR hPc hK hNw (va_recv hK hPc (ci := 7) (q0 := 0) rfl rfl)) rfl rfl hl.1 rfl (lv_room (Nat.le_of_ble_eq_true rfl)) dX7_hang_87 ⟨Nat.zero_le _, Nat.zero_le _⟩)) (fun r87 w87 => ?_)
                    by_cases b87 : canH n sd (nI m3) = true
                    · -- y87
                      obtain rfl := w87.1 b87
                      have hk2 : hgM n sd tn ts a b cc = 2 := by unfold hgM; rw [if_pos ⟨qja, qjb, qjc, c26, c31, c36⟩, if_pos ⟨ua.trans c61, ub.trans c71, uc.trans c81, em4.symm ▸ b87⟩]
                      have hj3 := ht3 hk2
                      refine lv_if_ne (tgt := 96) hx hb dX7_hang_90 (by decide) (fun _ => ?_) (fun h => absurd h (by decide))
                      refine lv_aload_n hx hb dX7_hang_96 rfl (lv_at hl 1 rfl) ?_
                      refine va_get (D := D) (ci := 7) (v := .ref th) (C := RX7) (T := TX7) (N := 28) hx hb hts iX7 hown hK hP 0 rfl rfl 10 (by decide) f25 (fun _ h9 => h9) rfl dX7_hang_97 ?_
                      refine lv_aload_n hx hb dX7_hang_100 rfl (lv_at hl 1 rfl) ?_
                      refine va_get (D := D) (ci := 7) (v := .int (nI tn)) (C := RX7) (T := TX7) (N := 28) hx hb hts iX7 hown hK hP 0 rfl rfl 7 (by decide) f68 (fun _ h9 => h9) rfl dX7_hang_101 ?_
                      refine lv_iload hx hb dX7_hang_104 (lv_at hl 0 rfl) ?_
                      refine va_iast hx hb hK hP hD hS 2 0 rfl rfl (vp_in_nI (by omega) (by decide)) dX7_hang_106 (fun H locs hP hD hS => ?_)
                      rw [nI_clamp (n := tn) (by omega)] at hP hD
                      have hP : va_P D vwCl [(x, .inr (7, [.int fa, .int tr, .ref so, .ref sl, .ref ce, .int (nI n), .int bar, .int (nI tn), .ref ki, .ref si, .ref th, .ref ri, .int at_, .int rp, .ref rk, .ref rs, .ref kt, .ref kr, .int kn, .int rg, .ref ab, .int am, .ref bh, .int bm, .int br, .int (nI rn), .ref wa, .ref ra])), (si, .inl (cI, 9, .inl sd)), (th, .inl (cI, 3, .inl (upd ts tn (((1 <<< (a &&& 31)) ||| (1 <<< (b &&& 31))) ||| (1 <<< (cc &&& 31)))))), (ri, .inl (cI, 3, .inl tl))] H := hP
                      have hD : va_D A [(x, .inr (7, [.int fa, .int tr, .ref so, .ref sl, .ref ce, .int (nI n), .int bar, .int (nI tn), .ref ki, .ref si, .ref th, .ref ri, .int at_, .int rp, .ref rk, .ref rs, .ref kt, .ref kr, .int kn, .int rg, .ref ab, .int am, .ref bh, .int bm, .int br, .int (nI rn), .ref wa, .ref ra])), (si, .inl (cI, 9, .inl sd)), (th, .inl (cI, 3, .inl (upd ts tn (((1 <<< (a &&& 31)) ||| (1 <<< (b &&& 31))) ||| (1 <<< (cc &&& 31)))))), (ri, .inl (cI, 3, .inl tl))] := hD
                      refine lv_aload_n hx hb dX7_hang_107 rfl (lv_at hl 1 rfl) ?_
                      refine va_get (D := D) (ci := 7) (v := .ref ri) (C := RX7) (T := TX7) (N := 28) hx hb hts iX7 hown hK hP 0 rfl rfl 11 (by decide) f28 (fun _ h9 => h9) rfl dX7_hang_108 ?_
                      refine lv_aload_n hx hb dX7_hang_111 rfl (lv_at hl 1 rfl) ?_
                      refine va_get (D := D) (ci := 7) (v := .int (nI tn)) (C := RX7) (T := TX7) (N := 28) hx hb hts iX7 hown hK hP 0 rfl rfl 7 (by decide) f68 (fun _ h9 => h9) rfl dX7_hang_112 ?_
                      refine lv_iconst (v := 0) hx hb dX7_hang_115 (by decide) ?_
                      refine va_iast hx hb hK hP hD hS 3 0 rfl rfl (vp_in_nI (by omega) (by decide)) dX7_hang_116 (fun H locs hP hD hS => ?_)
                      rw [nI_clamp (n := tn) (by omega)] at hP hD
                      have hP : va_P D vwCl [(x, .inr (7, [.int fa, .int tr, .ref so, .ref sl, .ref ce, .int (nI n), .int bar, .int (nI tn), .ref ki, .ref si, .ref th, .ref ri, .int at_, .int rp, .ref rk, .ref rs, .ref kt, .ref kr, .int kn, .int rg, .ref ab, .int am, .ref bh, .int bm, .int br, .int (nI rn), .ref wa, .ref ra])), (si, .inl (cI, 9, .inl sd)), (th, .inl (cI, 3, .inl (upd ts tn (((1 <<< (a &&& 31)) ||| (1 <<< (b &&& 31))) ||| (1 <<< (cc &&& 31)))))), (ri, .inl (cI, 3, .inl (upd tl tn 0)))] H := hP
                      have hD : va_D A [(x, .inr (7, [.int fa, .int tr, .ref so, .ref sl, .ref ce, .int (nI n), .int bar, .int (nI tn), .ref ki, .ref si, .ref th, .ref ri, .int at_, .int rp, .ref rk, .ref rs, .ref kt, .ref kr, .int kn, .int rg, .ref ab, .int am, .ref bh, .int bm, .int br, .int (nI rn), .ref wa, .ref ra])), (si, .inl (cI, 9, .inl sd)), (th, .inl (cI, 3, .inl (upd ts tn (((1 <<< (a &&& 31)) ||| (1 <<< (b &&& 31))) ||| (1 <<< (cc &&& 31)))))), (ri, .inl (cI, 3, .inl (upd tl tn 0)))] := hD
                      refine lv_aload_n hx hb dX7_hang_117 rfl (lv_at hl 1 rfl) ?_
                      refine lv_dup hx hb dX7_hang_118 rfl ?_
                      refine va_get (D := D) (ci := 7) (v := .int (nI tn)) (C := RX7) (T := TX7) (N := 28) hx hb hts iX7 hown hK hP 0 rfl rfl 7 (by decide) f68 (fun _ h9 => h9) rfl dX7_hang_119 ?_
                      refine lv_iconst (v := 1) hx hb dX7_hang_122 (by decide) ?_
                      refine lv_iadd hx hb dX7_hang_123 ?_
                      refine tp_i (y := nI (tn + 1)) (nI_1 _) ?_
                      refine va_put (D := D) (ci := 7) (v := .int (nI (tn + 1))) (ty := .int) (C := RX7) (T := TX7) (N := 28) hx hb hts iX7 tyX7 tyX7_ok nmX7 hown hK hP hD hS 0 rfl rfl 7 (by decide) f68 (fun _ h9 => h9) rfl (by decide +kernel) rfl rfl (Nat.le_of_ble_eq_true rfl) dX7_hang_124 (fun H locs hP hD hS => ?_)
                      have hP : va_P D vwCl [(x, .inr (7, [.int fa, .int tr, .ref so, .ref sl, .ref ce, .int (nI n), .int bar, .int (nI (tn + 1)), .ref ki, .ref si, .ref th, .ref ri, .int at_, .int rp, .ref rk, .ref rs, .ref kt, .ref kr, .int kn, .int rg, .ref ab, .int am, .ref bh, .int bm, .int br, .int (nI rn), .ref wa, .ref ra])), (si, .inl (cI, 9, .inl sd)), (th, .inl (cI, 3, .inl (upd ts tn (((1 <<< (a &&& 31)) ||| (1 <<< (b &&& 31))) ||| (1 <<< (cc &&& 31)))))), (ri, .inl (cI, 3, .inl (upd tl tn 0)))] H := hP
                      have hD : va_D A [(x, .inr (7, [.int fa, .int tr, .ref so, .ref sl, .ref ce, .int (nI n), .int bar, .int (nI (tn + 1)), .ref ki, .ref si, .ref th, .ref ri, .int at_, .int rp, .ref rk, .ref rs, .ref kt, .ref kr, .int kn, .int rg, .ref ab, .int am, .ref bh, .int bm, .int br, .int (nI rn), .ref wa, .ref ra])), (si, .inl (cI, 9, .inl sd)), (th, .inl (cI, 3, .inl (upd ts tn (((1 <<< (a &&& 31)) ||| (1 <<< (b &&& 31))) ||| (1 <<< (cc &&& 31)))))), (ri, .inl (cI, 3, .inl (upd tl tn 0)))] := hD
                      refine lv_aload_n hx hb dX7_hang_127 rfl (lv_at hl 1 rfl) ?_
                      refine va_get (D := D) (ci := 7) (v := .int (nI (tn + 1))) (C := RX7) (T := TX7) (N := 28) hx hb hts iX7 hown hK hP 0 rfl rfl 7 (by decide) f68 (fun _ h9 => h9) rfl dX7_hang_128 ?_
                      refine lv_iconst (v := 1) hx hb dX7_hang_131 (by decide) ?_
                      refine lv_isub hx hb dX7_hang_132 ?_
                      exact W.iret (v := (nI (tn + 1)) - 1) hx hb hr (fun t ht hW => ⟨⟨_, ((tn + 1), upd ts tn (((1 <<< (a &&& 31)) ||| (1 <<< (b &&& 31))) ||| (1 <<< (cc &&& 31))), upd tl tn 0), rfl, by first | (rw [hk2]; exact ⟨nI_pred _, rfl, rfl, rfl⟩) | (rw [hk1]; exact ⟨rfl, rfl, rfl, rfl⟩) | (rw [hk0]; exact ⟨rfl, rfl, rfl, rfl⟩) | (rw [show hgM n sd tn ts a b cc = 0 from by unfold hgM; rw [if_neg (fun h => by first | exact absurd h.2.2.1 (by rw [qjc]; decide) | exact absurd h.2.1 (by rw [qjb]; decide) | exact absurd h.1 (by rw [qja]; decide))]]; exact ⟨rfl, rfl, rfl, rfl⟩), by rw [ht]; exact hP, va_K.moved hW.alike hK, hD⟩, hS.F ht⟩) hS.2.2 dX7_hang_133
                    · -- n87
                      obtain rfl := w87.2 b87
                      have hk1 : hgM n sd tn ts a b cc = 1 := by unfold hgM; rw [if_pos ⟨qja, qjb, qjc, c26, c31, c36⟩, if_neg (fun h => b87 (em4 ▸ h.2.2.2))]
                      refine lv_if_ne (tgt := 96) hx hb dX7_hang_90 (by decide) (fun h => absurd (by decide) h) (fun _ => ?_)
                      refine lv_bipush (v := -3) hx hb dX7_hang_93 (by decide) ?_
                      exact W.iret (v := -3) hx hb hr (fun t ht hW => ⟨⟨_, (tn, ts, tl), rfl, by first | (rw [hk2]; exact ⟨nI_pred _, rfl, rfl, rfl⟩) | (rw [hk1]; exact ⟨rfl, rfl, rfl, rfl⟩) | (rw [hk0]; exact ⟨rfl, rfl, rfl, rfl⟩) | (rw [show hgM n sd tn ts a b cc = 0 from by unfold hgM; rw [if_neg (fun h => by first | exact absurd h.2.2.1 (by rw [qjc]; decide) | exact absurd h.2.1 (by rw [qjb]; decide) | exact absurd h.1 (by rw [qja]; decide))]]; exact ⟨rfl, rfl, rfl, rfl⟩), by rw [ht]; exact hP, va_K.moved hW.alike hK, hD⟩, hS.F ht⟩) hS.2.2 dX7_hang_95
            · -- f36
              have hk0 : hgM n sd tn ts a b cc = 0 := by unfold hgM; rw [if_neg (fun h => h.2.2.2.2.2 c36)]
              refine lv_iconst (v := -1) hx hb dX7_hang_39 (by decide) ?_
              exact W.iret (v := -1) hx hb hr (fun t ht hW => ⟨⟨_, (tn, ts, tl), rfl, by first | (rw [hk2]; exact ⟨nI_pred _, rfl, rfl, rfl⟩) | (rw [hk1]; exact ⟨rfl, rfl, rfl, rfl⟩) | (rw [hk0]; exact ⟨rfl, rfl, rfl, rfl⟩) | (rw [show hgM n sd tn ts a b cc = 0 from by unfold hgM; rw [if_neg (fun h => by first | exact absurd h.2.2.1 (by rw [qjc]; decide) | exact absurd h.2.1 (by rw [qjb]; decide) | exact absurd h.1 (by rw [qja]; decide))]]; exact ⟨rfl, rfl, rfl, rfl⟩), by rw [ht]; exact hP, va_K.moved hW.alike hK, hD⟩, hS.F ht⟩) hS.2.2 dX7_hang_40
      · -- n18
        obtain rfl := w18.2 b18
        have qjc : isP n cc = false := decide_eq_false b18
        refine lv_if_eq (tgt := 39) hx hb dX7_hang_21 (by decide) (fun _ => ?_) (fun h => absurd (by decide) h)
        refine lv_iconst (v := -1) hx hb dX7_hang_39 (by decide) ?_
        exact W.iret (v := -1) hx hb hr (fun t ht hW => ⟨⟨_, (tn, ts, tl), rfl, by first | (rw [hk2]; exact ⟨nI_pred _, rfl, rfl, rfl⟩) | (rw [hk1]; exact ⟨rfl, rfl, rfl, rfl⟩) | (rw [hk0]; exact ⟨rfl, rfl, rfl, rfl⟩) | (rw [show hgM n sd tn ts a b cc = 0 from by unfold hgM; rw [if_neg (fun h => by first | exact absurd h.2.2.1 (by rw [qjc]; decide) | exact absurd h.2.1 (by rw [qjb]; decide) | exact absurd h.1 (by rw [qja]; decide))]]; exact ⟨rfl, rfl, rfl, rfl⟩), by rw [ht]; exact hP, va_K.moved hW.alike hK, hD⟩, hS.F ht⟩) hS.2.2 dX7_hang_40
    · -- n10
      obtain rfl := w10.2 b10
      have qjb : isP n b = false := decide_eq_false b10
      refine lv_if_eq (tgt := 39) hx hb dX7_hang_13 (by decide) (fun _ => ?_) (fun h => absurd (by decide) h)
      refine lv_iconst (v := -1) hx hb dX7_hang_39 (by decide) ?_
      exact W.iret (v := -1) hx hb hr (fun t ht hW => ⟨⟨_, (tn, ts, tl), rfl, by first | (rw [hk2]; exact ⟨nI_pred _, rfl, rfl, rfl⟩) | (rw [hk1]; exact ⟨rfl, rfl, rfl, rfl⟩) | (rw [hk0]; exact ⟨rfl, rfl, rfl, rfl⟩) | (rw [show hgM n sd tn ts a b cc = 0 from by unfold hgM; rw [if_neg (fun h => by first | exact absurd h.2.2.1 (by rw [qjc]; decide) | exact absurd h.2.1 (by rw [qjb]; decide) | exact absurd h.1 (by rw [qja]; decide))]]; exact ⟨rfl, rfl, rfl, rfl⟩), by rw [ht]; exact hP, va_K.moved hW.alike hK, hD⟩, hS.F ht⟩) hS.2.2 dX7_hang_40
  · -- n2
    obtain rfl := w2.2 b2
    have qja : isP n a = false := decide_eq_false b2
    refine lv_if_eq (tgt := 39) hx hb dX7_hang_5 (by decide) (fun _ => ?_) (fun h => absurd (by decide) h)
    refine lv_iconst (v := -1) hx hb dX7_hang_39 (by decide) ?_
    exact W.iret (v := -1) hx hb hr (fun t ht hW => ⟨⟨_, (tn, ts, tl), rfl, by first | (rw [hk2]; exact ⟨nI_pred _, rfl, rfl, rfl⟩) | (rw [hk1]; exact ⟨rfl, rfl, rfl, rfl⟩) | (rw [hk0]; exact ⟨rfl, rfl, rfl, rfl⟩) | (rw [show hgM n sd tn ts a b cc = 0 from by unfold hgM; rw [if_neg (fun h => by first | exact absurd h.2.2.1 (by rw [qjc]; decide) | exact absurd h.2.1 (by rw [qjb]; decide) | exact absurd h.1 (by rw [qja]; decide))]]; exact ⟨rfl, rfl, rfl, rfl⟩), by rw [ht]; exact hP, va_K.moved hW.alike hK, hD⟩, hS.F ht⟩) hS.2.2 dX7_hang_40

set_option maxHeartbeats 4000000 in
set_option maxRecDepth 100000 in
theorem c_X7_strike (l : Launch) (D : va_G) (cI cO : ClassId) (x : Nat) (fa : Int32) (tr : Int32) (so : Nat) (sl : Nat) (ce : Nat) (n : Nat) (bar : Int32) (tn : Nat) (ki : Nat) (si : Nat) (th : Nat) (ri : Nat) (at_ : Int32) (rp : Int32) (rk : Nat) (rs : Nat) (kt : Nat) (kr : Nat) (kn : Int32) (rg : Int32) (ab : Nat) (am : Int32) (bh : Nat) (bm : Int32) (br : Int32) (rn : Nat) (wa : Nat) (ra : Nat) (kd : Nat → Int32) (sd : Nat → Int32) (ts : Nat → Int32) (tl : Nat → Int32) (pp : Int32) (sz : Nat) (hn : n ≤ 9) (hk3 : ∀ j, j < n → kd j = 0 ∨ kd j = 1 ∨ kd j = 2) (ht3 : tn ≤ 3) : Met l yX7_strike wsX7_strike ({ frames := 2, cells := 0, slots := 0, locals := 44 } : Room) (va_Pc [.ref x, .int pp] (wdW D cI cO [(x, .inr (7, [.int fa, .int tr, .ref so, .ref sl, .ref ce, .int (nI n), .int bar, .int (nI tn), .ref ki, .ref si, .ref th, .ref ri, .int at_, .int rp, .ref rk, .ref rs, .ref kt, .ref kr, .int kn, .int rg, .ref ab, .int am, .ref bh, .int bm, .int br, .int (nI rn), .ref wa, .ref ra])), (ki, .inl (cI, 9, .inl kd)), (si, .inl (cI, 9, .inl sd)), (th, .inl (cI, 3, .inl ts)), (ri, .inl (cI, 3, .inl tl))] sz)) (va_Qi (S := (Nat → Int32)) (fun r u => r = (onQ tn pp (fun j => if tl j ≤ 0 then sumW (rgF kd sd) (ts j) n else -3) (-1)) ∧ u = (onQ tn pp (fun j => if tl j ≤ 0 then upd tl j (sumW (rgF kd sd) (ts j) n) else tl) tl)) (fun u t => va_P D vwCl [(x, .inr (7, [.int fa, .int tr, .ref so, .ref sl, .ref ce, .int (nI n), .int bar, .int (nI tn), .ref ki, .ref si, .ref th, .ref ri, .int at_, .int rp, .ref rk, .ref rs, .ref kt, .ref kr, .int kn, .int rg, .ref ab, .int am, .ref bh, .int bm, .int br, .int (nI rn), .ref wa, .ref ra])), (ki, .inl (cI, 9, .inl kd)), (si, .inl (cI, 9, .inl sd)), (th, .inl (cI, 3, .inl ts)), (ri, .inl (cI, 3, .inl u))] t.heap ∧ va_K D vwCl (tyL cI cO) t ∧ va_D (va_A [(x, .inr (7, [.int fa, .int tr, .ref so, .ref sl, .ref ce, .int (nI n), .int bar, .int (nI tn), .ref ki, .ref si, .ref th, .ref ri, .int at_, .int rp, .ref rk, .ref rs, .ref kt, .ref kr, .int kn, .int rg, .ref ab, .int am, .ref bh, .int bm, .int br, .int (nI rn), .ref wa, .ref ra])), (ki, .inl (cI, 9, .inl kd)), (si, .inl (cI, 9, .inl sd)), (th, .inl (cI, 3, .inl ts)), (ri, .inl (cI, 3, .inl tl))] sz) [(x, .inr (7, [.int fa, .int tr, .ref so, .ref sl, .ref ce, .int (nI n), .int bar, .int (nI tn), .ref ki, .ref si, .ref th, .ref ri, .int at_, .int rp, .ref rk, .ref rs, .ref kt, .ref kr, .int kn, .int rg, .ref ab, .int am, .ref bh, .int bm, .int br, .int (nI rn), .ref wa, .ref ra])), (ki, .inl (cI, 9, .inl kd)), (si, .inl (cI, 9, .inl sd)), (th, .inl (cI, 3, .inl ts)), (ri, .inl (cI, 3, .inl u))]) (va_A [(x, .inr (7, [.int fa, .int tr, .ref so, .ref sl, .ref ce, .int (nI n), .int bar, .int (nI tn), .ref ki, .ref si, .ref th, .ref ri, .int at_, .int rp, .ref rk, .ref rs, .ref kt, .ref kr, .int kn, .int rg, .ref ab, .int am, .ref bh, .int bm, .int br, .int (nI rn), .ref wa, .ref ra])), (ki, .inl (cI, 9, .inl kd)), (si, .inl (cI, 9, .inl sd)), (th, .inl (cI, 3, .inl ts)), (ri, .inl (cI, 3, .inl tl))] sz)) 0 0 (va_A [(x, .inr (7, [.int fa, .int tr, .ref so, .ref sl, .ref ce, .int (nI n), .int bar, .int (nI tn), .ref ki, .ref si, .ref th, .ref ri, .int at_, .int rp, .ref rk, .ref rs, .ref kt, .ref kr, .int kn, .int rg, .ref ab, .int am, .ref bh, .int bm, .int br, .int (nI rn), .ref wa, .ref ra])), (ki, .inl (cI, 9, .inl kd)), (si, .inl (cI, 9, .inl sd)), (th, .inl (cI, 3, .inl ts)), (ri, .inl (cI, 3, .inl tl))] sz) := by
  refine Met.ofW (cc := cX7_strike) (maxL := 2) (ret := (some .int)) (by decide) rfl ?_
  intro p e s m args below meth c s₁ B hml hv
  obtain ⟨rfl, hsz, hP, hK, hNw, hD0⟩ := hv
  have hx := B.exec
  have hb := B.bytes
  have hr := B.returns
  have hts := atoms_spec (ws := wsX7_strike) B.pre
  have hown : s.vm.findClass RX7 = some m.cls := findClass_of_methodNamed B.named
  have hlocks := B.notSynchronized
  have f25 := hts (.fieldLink RX7 25 "StruckThreesModel" "three" "[I") (by decide +kernel)
  have f28 := hts (.fieldLink RX7 28 "StruckThreesModel" "rings" "[I") (by decide +kernel)
  have iX7 : ∀ w ∈ wsX70, w ∈ wsX7_strike := by decide +kernel
  subst hsz
  have hD := hD0.self (sz := s.heap.size)
  generalize hAe : va_A [(x, .inr (7, [.int fa, .int tr, .ref so, .ref sl, .ref ce, .int (nI n), .int bar, .int (nI tn), .ref ki, .ref si, .ref th, .ref ri, .int at_, .int rp, .ref rk, .ref rs, .ref kt, .ref kr, .int kn, .int rg, .ref ab, .int am, .ref bh, .int bm, .int br, .int (nI rn), .ref wa, .ref ra])), (ki, .inl (cI, 9, .inl kd)), (si, .inl (cI, 9, .inl sd)), (th, .inl (cI, 3, .inl ts)), (ri, .inl (cI, 3, .inl tl))] s.heap.size = A at hD ⊢
  have hA : ∀ q : Nat, s.heap.size ≤ q → A q := fun q h => by rw [← hAe]; exact Or.inr h
  have hS : va_S A s.heap s.heap [] := va_S.rf
  have hP : va_P D vwCl [(x, .inr (7, [.int fa, .int tr, .ref so, .ref sl, .ref ce, .int (nI n), .int bar, .int (nI tn), .ref ki, .ref si, .ref th, .ref ri, .int at_, .int rp, .ref rk, .ref rs, .ref kt, .ref kr, .int kn, .int rg, .ref ab, .int am, .ref bh, .int bm, .int br, .int (nI rn), .ref wa, .ref ra])), (ki, .inl (cI, 9, .inl kd)), (si, .inl (cI, 9, .inl sd)), (th, .inl (cI, 3, .inl ts)), (ri, .inl (cI, 3, .inl tl))] s.heap := hP
  have hl := lv_entry ([.ref x, .int pp]) (n := 2) (Nat.le_of_ble_eq_true rfl)
  rw [lg_entry_eq]
  generalize (lg_sl ([.ref x, .int pp]) ++ List.replicate (2 - (lg_sl ([.ref x, .int pp])).length) Slot.unset).toArray = ls at hl ⊢
  have hl : lv_has ls 2 [(0, .ref x), (1, .int pp)] := hl
  refine lv_aload_n hx hb dX7_strike_0 rfl (lv_at hl 0 rfl) ?_
  refine lv_iload_n hx hb dX7_strike_1 rfl (lv_at hl 1 rfl) ?_
  have hPc := hP.sub (ws' := [(x, .inr (7, [.int fa, .int tr, .ref so, .ref sl, .ref ce, .int (nI n), .int bar, .int (nI tn), .ref ki, .ref si, .ref th, .ref ri, .int at_, .int rp, .ref rk, .ref rs, .ref kt, .ref kr, .int kn, .int rg, .ref ab, .int am, .ref bh, .int bm, .int br, .int (nI rn), .ref wa, .ref ra]))]) [0] rfl
  refine vp_callSi (va_Run.run (va_runV (As := [.int pp]) (rest := []) ⟨hx, hb, hml, hown, hts⟩ (c_X7_isThree l D cI cO x fa tr so sl ce n bar tn ki si th ri at_ rp rk rs kt kr kn rg ab am bh bm br rn wa ra pp) (cwV 1 hts gX7_strike_X7_isThree rfl rfl rfl (by decide +kernel) ⟨Nat.le_of_ble_eq_true rfl, Nat.le_of_ble_eq_true rfl⟩) (preVR hPc hK hNw (va_recv hK hPc (ci := 7) (q0 := 0) rfl rfl)) rfl rfl hl.1 rfl (lv_room (Nat.le_of_ble_eq_true rfl)) dX7_strike_2 ⟨Nat.zero_le _, Nat.zero_le _⟩)) (fun r2 w2 => ?_)
  by_cases b2 : ¬ pp < 0 ∧ ¬ nI tn ≤ pp
  · -- y2
    obtain rfl := w2.1 b2
    obtain ⟨j, hj, rfl⟩ := in_nat b2 (show tn < 2 ^ 31 by omega)
    refine lv_if_ne (tgt := 10) hx hb dX7_strike_5 (by decide) (fun _ => ?_) (fun h => absurd h (by decide))
    refine lv_aload_n hx hb dX7_strike_10 rfl (lv_at hl 0 rfl) ?_
    refine va_get (D := D) (ci := 7) (v := .ref ri) (C := RX7) (T := TX7) (N := 28) hx hb hts iX7 hown hK hP 0 rfl rfl 11 (by decide) f28 (fun _ h9 => h9) rfl dX7_strike_11 ?_
    refine lv_iload_n hx hb dX7_strike_14 rfl (lv_at hl 1 rfl) ?_
    refine va_iald hx hb hK hP 4 0 rfl rfl (vp_in_nI (by omega) (by decide)) dX7_strike_15 ?_
    refine tp_i (y := tl j) (by rw [nI_clamp (n := j) (by omega)]) ?_
    refine lv_if_le (tgt := 22) hx hb dX7_strike_16 (by decide) (fun c16 => ?_) (fun c16 => ?_)
    · -- t16
      refine lv_aload_n hx hb dX7_strike_22 rfl (lv_at hl 0 rfl) ?_
      refine va_get (D := D) (ci := 7) (v := .ref ri) (C := RX7) (T := TX7) (N := 28) hx hb hts iX7 hown hK hP 0 rfl rfl 11 (by decide) f28 (fun _ h9 => h9) rfl dX7_strike_23 ?_
      refine lv_iload_n hx hb dX7_strike_26 rfl (lv_at hl 1 rfl) ?_
      refine lv_aload_n hx hb dX7_strike_27 rfl (lv_at hl 0 rfl) ?_
      refine lv_aload_n hx hb dX7_strike_28 rfl (lv_at hl 0 rfl) ?_
      refine va_get (D := D) (ci := 7) (v := .ref th) (C := RX7) (T := TX7) (N := 28) hx hb hts iX7 hown hK hP 0 rfl rfl 10 (by decide) f25 (fun _ h9 => h9) rfl dX7_strike_29 ?_
      refine lv_iload_n hx hb dX7_strike_32 rfl (lv_at hl 1 rfl) ?_
      refine va_iald hx hb hK hP 3 0 rfl rfl (vp_in_nI (by omega) (by decide)) dX7_strike_33 ?_
      refine tp_i (y := ts j) (by rw [nI_clamp (n := j) (by omega)]) ?_
      have hPc := hP.sub (ws' := [(x, .inr (7, [.int fa, .int tr, .ref so, .ref sl, .ref ce, .int (nI n), .int bar, .int (nI tn), .ref ki, .ref si, .ref th, .ref ri, .int at_, .int rp, .ref rk, .ref rs, .ref kt, .ref kr, .int kn, .int rg, .ref ab, .int am, .ref bh, .int bm, .int br, .int (nI rn), .ref wa, .ref ra])), (ki, .inl (cI, 9, .inl kd)), (si, .inl (cI, 9, .inl sd))]) [0, 1, 2] rfl
      refine vp_callSi (va_Run.run (va_runV (As := [.int (ts j)]) (rest := [.int (nI j), .ref ri]) ⟨hx, hb, hml, hown, hts⟩ (c_X7_ringsOf l D cI cO x fa tr so sl ce n bar tn ki si th ri at_ rp rk rs kt kr kn rg ab am bh bm br rn wa ra kd sd (ts j) (by assumption) (by assumption)) (cwV 1 hts gX7_strike_X7_ringsOf rfl rfl rfl (by decide +kernel) ⟨Nat.le_of_ble_eq_true rfl, Nat.le_of_ble_eq_true rfl⟩) (preVR hPc hK hNw (va_recv hK hPc (ci := 7) (q0 := 0) rfl rfl)) rfl rfl hl.1 rfl (lv_room (Nat.le_of_ble_eq_true rfl)) dX7_strike_34 ⟨Nat.zero_le _, Nat.zero_le _⟩)) (fun r34 w34 => ?_)
      obtain rfl := w34
      refine va_iast hx hb hK hP hD hS 4 0 rfl rfl (vp_in_nI (by omega) (by decide)) dX7_strike_37 (fun H locs hP hD hS => ?_)
      rw [nI_clamp (n := j) (by omega)] at hP hD
      have hP : va_P D vwCl [(x, .inr (7, [.int fa, .int tr, .ref so, .ref sl, .ref ce, .int (nI n), .int bar, .int (nI tn), .ref ki, .ref si, .ref th, .ref ri, .int at_, .int rp, .ref rk, .ref rs, .ref kt, .ref kr, .int kn, .int rg, .ref ab, .int am, .ref bh, .int bm, .int br, .int (nI rn), .ref wa, .ref ra])), (ki, .inl (cI, 9, .inl kd)), (si, .inl (cI, 9, .inl sd)), (th, .inl (cI, 3, .inl ts)), (ri, .inl (cI, 3, .inl (upd tl j (sumW (rgF kd sd) (ts j) n))))] H := hP
      have hD : va_D A [(x, .inr (7, [.int fa, .int tr, .ref so, .ref sl, .ref ce, .int (nI n), .int bar, .int (nI tn), .ref ki, .ref si, .ref th, .ref ri, .int at_, .int rp, .ref rk, .ref rs, .ref kt, .ref kr, .int kn, .int rg, .ref ab, .int am, .ref bh, .int bm, .int br, .int (nI rn), .ref wa, .ref ra])), (ki, .inl (cI, 9, .inl kd)), (si, .inl (cI, 9, .inl sd)), (th, .inl (cI, 3, .inl ts)), (ri, .inl (cI, 3, .inl (upd tl j (sumW (rgF kd sd) (ts j) n))))] := hD
      refine lv_aload_n hx hb dX7_strike_38 rfl (lv_at hl 0 rfl) ?_
      refine va_get (D := D) (ci := 7) (v := .ref ri) (C := RX7) (T := TX7) (N := 28) hx hb hts iX7 hown hK hP 0 rfl rfl 11 (by decide) f28 (fun _ h9 => h9) rfl dX7_strike_39 ?_
      refine lv_iload_n hx hb dX7_strike_42 rfl (lv_at hl 1 rfl) ?_
      refine va_iald hx hb hK hP 4 0 rfl rfl (vp_in_nI (by omega) (by decide)) dX7_strike_43 ?_
      refine tp_i (y := (upd tl j (sumW (rgF kd sd) (ts j) n)) j) (by rw [nI_clamp (n := j) (by omega)]) ?_
      exact W.iret (v := (upd tl j (sumW (rgF kd sd) (ts j) n)) j) hx hb hr (fun t ht hW => ⟨⟨_, (upd tl j (sumW (rgF kd sd) (ts j) n)), rfl, by first | (simp [onQ_out b2]; done) | (simp [onQ_in hj (show tn < 2 ^ 31 by omega), *, upd]; done), by rw [ht]; exact hP, va_K.moved hW.alike hK, hD⟩, hS.F ht⟩) hS.2.2 dX7_strike_44
    · -- f16
      refine lv_bipush (v := -3) hx hb dX7_strike_19 (by decide) ?_
      exact W.iret (v := -3) hx hb hr (fun t ht hW => ⟨⟨_, tl, rfl, by first | (simp [onQ_out b2]; done) | (simp [onQ_in hj (show tn < 2 ^ 31 by omega), *, upd]; done), by rw [ht]; exact hP, va_K.moved hW.alike hK, hD⟩, hS.F ht⟩) hS.2.2 dX7_strike_21
  · -- n2
    obtain rfl := w2.2 b2
    refine lv_if_ne (tgt := 10) hx hb dX7_strike_5 (by decide) (fun h => absurd (by decide) h) (fun _ => ?_)
    refine lv_iconst (v := -1) hx hb dX7_strike_8 (by decide) ?_
    exact W.iret (v := -1) hx hb hr (fun t ht hW => ⟨⟨_, tl, rfl, by first | (simp [onQ_out b2]; done) | (simp [onQ_in hj (show tn < 2 ^ 31 by omega), *, upd]; done), by rw [ht]; exact hP, va_K.moved hW.alike hK, hD⟩, hS.F ht⟩) hS.2.2 dX7_strike_9

set_option maxHeartbeats 4000000 in
set_option maxRecDepth 100000 in
theorem c_X7_touch (l : Launch) (D : va_G) (cI cO : ClassId) (x : Nat) (fa : Int32) (tr : Int32) (so : Nat) (sl : Nat) (ce : Nat) (n : Nat) (bar : Int32) (tn : Nat) (ki : Nat) (si : Nat) (th : Nat) (ri : Nat) (at_ : Int32) (rp : Int32) (rk : Nat) (rs : Nat) (kt : Nat) (kr : Nat) (kn : Int32) (rg : Int32) (ab : Nat) (am : Int32) (bh : Nat) (bm : Int32) (br : Int32) (rn : Nat) (wa : Nat) (ra : Nat) (tl : Nat → Int32) (pp : Int32) (sz : Nat) (ht3 : tn ≤ 3) : Met l yX7_touch wsX7_touch ({ frames := 1, cells := 0, slots := 0, locals := 21 } : Room) (va_Pc [.ref x, .int pp] (wdW D cI cO [(x, .inr (7, [.int fa, .int tr, .ref so, .ref sl, .ref ce, .int (nI n), .int bar, .int (nI tn), .ref ki, .ref si, .ref th, .ref ri, .int at_, .int rp, .ref rk, .ref rs, .ref kt, .ref kr, .int kn, .int rg, .ref ab, .int am, .ref bh, .int bm, .int br, .int (nI rn), .ref wa, .ref ra])), (ri, .inl (cI, 3, .inl tl))] sz)) (va_Qi (S := (Nat → Int32)) (fun r u => r = (onQ tn pp (fun j => if tl j = 0 then -3 else tl j) (-1)) ∧ u = (onQ tn pp (fun j => if tl j = 0 then tl else upd tl j 0) tl)) (fun u t => va_P D vwCl [(x, .inr (7, [.int fa, .int tr, .ref so, .ref sl, .ref ce, .int (nI n), .int bar, .int (nI tn), .ref ki, .ref si, .ref th, .ref ri, .int at_, .int rp, .ref rk, .ref rs, .ref kt, .ref kr, .int kn, .int rg, .ref ab, .int am, .ref bh, .int bm, .int br, .int (nI rn), .ref wa, .ref ra])), (ri, .inl (cI, 3, .inl u))] t.heap ∧ va_K D vwCl (tyL cI cO) t ∧ va_D (va_A [(x, .inr (7, [.int fa, .int tr, .ref so, .ref sl, .ref ce, .int (nI n), .int bar, .int (nI tn), .ref ki, .ref si, .ref th, .ref ri, .int at_, .int rp, .ref rk, .ref rs, .ref kt, .ref kr, .int kn, .int rg, .ref ab, .int am, .ref bh, .int bm, .int br, .int (nI rn), .ref wa, .ref ra])), (ri, .inl (cI, 3, .inl tl))] sz) [(x, .inr (7, [.int fa, .int tr, .ref so, .ref sl, .ref ce, .int (nI n), .int bar, .int (nI tn), .ref ki, .ref si, .ref th, .ref ri, .int at_, .int rp, .ref rk, .ref rs, .ref kt, .ref kr, .int kn, .int rg, .ref ab, .int am, .ref bh, .int bm, .int br, .int (nI rn), .ref wa, .ref ra])), (ri, .inl (cI, 3, .inl u))]) (va_A [(x, .inr (7, [.int fa, .int tr, .ref so, .ref sl, .ref ce, .int (nI n), .int bar, .int (nI tn), .ref ki, .ref si, .ref th, .ref ri, .int at_, .int rp, .ref rk, .ref rs, .ref kt, .ref kr, .int kn, .int rg, .ref ab, .int am, .ref bh, .int bm, .int br, .int (nI rn), .ref wa, .ref ra])), (ri, .inl (cI, 3, .inl tl))] sz)) 0 0 (va_A [(x, .inr (7, [.int fa, .int tr, .ref so, .ref sl, .ref ce, .int (nI n), .int bar, .int (nI tn), .ref ki, .ref si, .ref th, .ref ri, .int at_, .int rp, .ref rk, .ref rs, .ref kt, .ref kr, .int kn, .int rg, .ref ab, .int am, .ref bh, .int bm, .int br, .int (nI rn), .ref wa, .ref ra])), (ri, .inl (cI, 3, .inl tl))] sz) := by
  refine Met.ofW (cc := cX7_touch) (maxL := 3) (ret := (some .int)) (by decide) rfl ?_
  intro p e s m args below meth c s₁ B hml hv
  obtain ⟨rfl, hsz, hP, hK, hNw, hD0⟩ := hv
  have hx := B.exec
  have hb := B.bytes
  have hr := B.returns
  have hts := atoms_spec (ws := wsX7_touch) B.pre
  have hown : s.vm.findClass RX7 = some m.cls := findClass_of_methodNamed B.named
  have hlocks := B.notSynchronized
  have f28 := hts (.fieldLink RX7 28 "StruckThreesModel" "rings" "[I") (by decide +kernel)
  have iX7 : ∀ w ∈ wsX70, w ∈ wsX7_touch := by decide +kernel
  subst hsz
  have hD := hD0.self (sz := s.heap.size)
  generalize hAe : va_A [(x, .inr (7, [.int fa, .int tr, .ref so, .ref sl, .ref ce, .int (nI n), .int bar, .int (nI tn), .ref ki, .ref si, .ref th, .ref ri, .int at_, .int rp, .ref rk, .ref rs, .ref kt, .ref kr, .int kn, .int rg, .ref ab, .int am, .ref bh, .int bm, .int br, .int (nI rn), .ref wa, .ref ra])), (ri, .inl (cI, 3, .inl tl))] s.heap.size = A at hD ⊢
  have hA : ∀ q : Nat, s.heap.size ≤ q → A q := fun q h => by rw [← hAe]; exact Or.inr h
  have hS : va_S A s.heap s.heap [] := va_S.rf
  have hP : va_P D vwCl [(x, .inr (7, [.int fa, .int tr, .ref so, .ref sl, .ref ce, .int (nI n), .int bar, .int (nI tn), .ref ki, .ref si, .ref th, .ref ri, .int at_, .int rp, .ref rk, .ref rs, .ref kt, .ref kr, .int kn, .int rg, .ref ab, .int am, .ref bh, .int bm, .int br, .int (nI rn), .ref wa, .ref ra])), (ri, .inl (cI, 3, .inl tl))] s.heap := hP
  have hl := lv_entry ([.ref x, .int pp]) (n := 3) (Nat.le_of_ble_eq_true rfl)
  rw [lg_entry_eq]
  generalize (lg_sl ([.ref x, .int pp]) ++ List.replicate (3 - (lg_sl ([.ref x, .int pp])).length) Slot.unset).toArray = ls at hl ⊢
  have hl : lv_has ls 3 [(0, .ref x), (1, .int pp)] := hl
  refine lv_aload_n hx hb dX7_touch_0 rfl (lv_at hl 0 rfl) ?_
  refine lv_iload_n hx hb dX7_touch_1 rfl (lv_at hl 1 rfl) ?_
  have hPc := hP.sub (ws' := [(x, .inr (7, [.int fa, .int tr, .ref so, .ref sl, .ref ce, .int (nI n), .int bar, .int (nI tn), .ref ki, .ref si, .ref th, .ref ri, .int at_, .int rp, .ref rk, .ref rs, .ref kt, .ref kr, .int kn, .int rg, .ref ab, .int am, .ref bh, .int bm, .int br, .int (nI rn), .ref wa, .ref ra]))]) [0] rfl
  refine vp_callSi (va_Run.run (va_runV (As := [.int pp]) (rest := []) ⟨hx, hb, hml, hown, hts⟩ (c_X7_isThree l D cI cO x fa tr so sl ce n bar tn ki si th ri at_ rp rk rs kt kr kn rg ab am bh bm br rn wa ra pp) (cwV 1 hts gX7_touch_X7_isThree rfl rfl rfl (by decide +kernel) ⟨Nat.le_of_ble_eq_true rfl, Nat.le_of_ble_eq_true rfl⟩) (preVR hPc hK hNw (va_recv hK hPc (ci := 7) (q0 := 0) rfl rfl)) rfl rfl hl.1 rfl (lv_room (Nat.le_of_ble_eq_true rfl)) dX7_touch_2 ⟨Nat.zero_le _, Nat.zero_le _⟩)) (fun r2 w2 => ?_)
  by_cases b2 : ¬ pp < 0 ∧ ¬ nI tn ≤ pp
  · -- y2
    obtain rfl := w2.1 b2
    obtain ⟨j, hj, rfl⟩ := in_nat b2 (show tn < 2 ^ 31 by omega)
    refine lv_if_ne (tgt := 10) hx hb dX7_touch_5 (by decide) (fun _ => ?_) (fun h => absurd h (by decide))
    refine lv_aload_n hx hb dX7_touch_10 rfl (lv_at hl 0 rfl) ?_
    refine va_get (D := D) (ci := 7) (v := .ref ri) (C := RX7) (T := TX7) (N := 28) hx hb hts iX7 hown hK hP 0 rfl rfl 11 (by decide) f28 (fun _ h9 => h9) rfl dX7_touch_11 ?_
    refine lv_iload_n hx hb dX7_touch_14 rfl (lv_at hl 1 rfl) ?_
    refine va_iald hx hb hK hP 1 0 rfl rfl (vp_in_nI (by omega) (by decide)) dX7_touch_15 ?_
    refine tp_i (y := tl j) (by rw [nI_clamp (n := j) (by omega)]) ?_
    refine lv_if_ne (tgt := 22) hx hb dX7_touch_16 (by decide) (fun c16 => ?_) (fun c16 => ?_)
    · -- t16
      refine lv_aload_n hx hb dX7_touch_22 rfl (lv_at hl 0 rfl) ?_
      refine va_get (D := D) (ci := 7) (v := .ref ri) (C := RX7) (T := TX7) (N := 28) hx hb hts iX7 hown hK hP 0 rfl rfl 11 (by decide) f28 (fun _ h9 => h9) rfl dX7_touch_23 ?_
      refine lv_iload_n hx hb dX7_touch_26 rfl (lv_at hl 1 rfl) ?_
      refine va_iald hx hb hK hP 1 0 rfl rfl (vp_in_nI (by omega) (by decide)) dX7_touch_27 ?_
      refine tp_i (y := tl j) (by rw [nI_clamp (n := j) (by omega)]) ?_
      refine lv_istore_n (lv' := [(2, .int (tl j)), (0, .ref x), (1, .int (nI j))]) hx hb dX7_touch_28 rfl hl (by decide) rfl (fun ls hl => ?_)
      refine lv_aload_n hx hb dX7_touch_29 rfl (lv_at hl 1 rfl) ?_
      refine va_get (D := D) (ci := 7) (v := .ref ri) (C := RX7) (T := TX7) (N := 28) hx hb hts iX7 hown hK hP 0 rfl rfl 11 (by decide) f28 (fun _ h9 => h9) rfl dX7_touch_30 ?_
      refine lv_iload_n hx hb dX7_touch_33 rfl (lv_at hl 2 rfl) ?_
      refine lv_iconst (v := 0) hx hb dX7_touch_34 (by decide) ?_
      refine va_iast hx hb hK hP hD hS 1 0 rfl rfl (vp_in_nI (by omega) (by decide)) dX7_touch_35 (fun H locs hP hD hS => ?_)
      rw [nI_clamp (n := j) (by omega)] at hP hD
      have hP : va_P D vwCl [(x, .inr (7, [.int fa, .int tr, .ref so, .ref sl, .ref ce, .int (nI n), .int bar, .int (nI tn), .ref ki, .ref si, .ref th, .ref ri, .int at_, .int rp, .ref rk, .ref rs, .ref kt, .ref kr, .int kn, .int rg, .ref ab, .int am, .ref bh, .int bm, .int br, .int (nI rn), .ref wa, .ref ra])), (ri, .inl (cI, 3, .inl (upd tl j 0)))] H := hP
      have hD : va_D A [(x, .inr (7, [.int fa, .int tr, .ref so, .ref sl, .ref ce, .int (nI n), .int bar, .int (nI tn), .ref ki, .ref si, .ref th, .ref ri, .int at_, .int rp, .ref rk, .ref rs, .ref kt, .ref kr, .int kn, .int rg, .ref ab, .int am, .ref bh, .int bm, .int br, .int (nI rn), .ref wa, .ref ra])), (ri, .inl (cI, 3, .inl (upd tl j 0)))] := hD
      refine lv_iload_n hx hb dX7_touch_36 rfl (lv_at hl 0 rfl) ?_
      exact W.iret (v := tl j) hx hb hr (fun t ht hW => ⟨⟨_, (upd tl j 0), rfl, by first | (simp [onQ_out b2]; done) | (simp [onQ_in hj (show tn < 2 ^ 31 by omega), *]; done), by rw [ht]; exact hP, va_K.moved hW.alike hK, hD⟩, hS.F ht⟩) hS.2.2 dX7_touch_37
    · -- f16
      refine lv_bipush (v := -3) hx hb dX7_touch_19 (by decide) ?_
      exact W.iret (v := -3) hx hb hr (fun t ht hW => ⟨⟨_, tl, rfl, by first | (simp [onQ_out b2]; done) | (simp [onQ_in hj (show tn < 2 ^ 31 by omega), *]; done), by rw [ht]; exact hP, va_K.moved hW.alike hK, hD⟩, hS.F ht⟩) hS.2.2 dX7_touch_21
  · -- n2
    obtain rfl := w2.2 b2
    refine lv_if_ne (tgt := 10) hx hb dX7_touch_5 (by decide) (fun h => absurd (by decide) h) (fun _ => ?_)
    refine lv_iconst (v := -1) hx hb dX7_touch_8 (by decide) ?_
    exact W.iret (v := -1) hx hb hr (fun t ht hW => ⟨⟨_, tl, rfl, by first | (simp [onQ_out b2]; done) | (simp [onQ_in hj (show tn < 2 ^ 31 by omega), *]; done), by rw [ht]; exact hP, va_K.moved hW.alike hK, hD⟩, hS.F ht⟩) hS.2.2 dX7_touch_9

set_option maxHeartbeats 4000000 in
set_option maxRecDepth 100000 in
theorem c_X7_bars (l : Launch) (D : va_G) (cI cO : ClassId) (x : Nat) (fa : Int32) (tr : Int32) (so : Nat) (sl : Nat) (ce : Nat) (n : Nat) (bar : Int32) (tn : Nat) (ki : Nat) (si : Nat) (th : Nat) (ri : Nat) (at_ : Int32) (rp : Int32) (rk : Nat) (rs : Nat) (kt : Nat) (kr : Nat) (kn : Int32) (rg : Int32) (ab : Nat) (am : Int32) (bh : Nat) (bm : Int32) (br : Int32) (rn : Nat) (wa : Nat) (ra : Nat) (tl : Nat → Int32) (v : Int32) (sz : Nat) (hn : n ≤ 9) (ht3 : tn ≤ 3) (hnn : nnT tl tn) : Met l yX7_bars wsX7_bars ({ frames := 1, cells := 0, slots := 0, locals := 22 } : Room) (va_Pc [.ref x, .int v] (wdW D cI cO [(x, .inr (7, [.int fa, .int tr, .ref so, .ref sl, .ref ce, .int (nI n), .int bar, .int (nI tn), .ref ki, .ref si, .ref th, .ref ri, .int at_, .int rp, .ref rk, .ref rs, .ref kt, .ref kr, .int kn, .int rg, .ref ab, .int am, .ref bh, .int bm, .int br, .int (nI rn), .ref wa, .ref ra])), (ri, .inl (cI, 3, .inl tl))] sz)) (va_Qi (S := Int32 × (Nat → Int32)) (fun r u => r = (if v < 1 then -2 else if v ≤ 99 then (if nI n = 0 then -3 else cntW (goF tl v tn) tn) else -2) ∧ u.1 = (if v < 1 then bar else if v ≤ 99 then (if nI n = 0 then bar else bar + v) else bar) ∧ u.2 = (if v < 1 then tl else if v ≤ 99 then (if nI n = 0 then tl else goF tl v tn) else tl)) (fun u t => va_P D vwCl [(x, .inr (7, [.int fa, .int tr, .ref so, .ref sl, .ref ce, .int (nI n), .int u.1, .int (nI tn), .ref ki, .ref si, .ref th, .ref ri, .int at_, .int rp, .ref rk, .ref rs, .ref kt, .ref kr, .int kn, .int rg, .ref ab, .int am, .ref bh, .int bm, .int br, .int (nI rn), .ref wa, .ref ra])), (ri, .inl (cI, 3, .inl u.2))] t.heap ∧ va_K D vwCl (tyL cI cO) t ∧ va_D (va_A [(x, .inr (7, [.int fa, .int tr, .ref so, .ref sl, .ref ce, .int (nI n), .int bar, .int (nI tn), .ref ki, .ref si, .ref th, .ref ri, .int at_, .int rp, .ref rk, .ref rs, .ref kt, .ref kr, .int kn, .int rg, .ref ab, .int am, .ref bh, .int bm, .int br, .int (nI rn), .ref wa, .ref ra])), (ri, .inl (cI, 3, .inl tl))] sz) [(x, .inr (7, [.int fa, .int tr, .ref so, .ref sl, .ref ce, .int (nI n), .int u.1, .int (nI tn), .ref ki, .ref si, .ref th, .ref ri, .int at_, .int rp, .ref rk, .ref rs, .ref kt, .ref kr, .int kn, .int rg, .ref ab, .int am, .ref bh, .int bm, .int br, .int (nI rn), .ref wa, .ref ra])), (ri, .inl (cI, 3, .inl u.2))]) (va_A [(x, .inr (7, [.int fa, .int tr, .ref so, .ref sl, .ref ce, .int (nI n), .int bar, .int (nI tn), .ref ki, .ref si, .ref th, .ref ri, .int at_, .int rp, .ref rk, .ref rs, .ref kt, .ref kr, .int kn, .int rg, .ref ab, .int am, .ref bh, .int bm, .int br, .int (nI rn), .ref wa, .ref ra])), (ri, .inl (cI, 3, .inl tl))] sz)) 0 0 (va_A [(x, .inr (7, [.int fa, .int tr, .ref so, .ref sl, .ref ce, .int (nI n), .int bar, .int (nI tn), .ref ki, .ref si, .ref th, .ref ri, .int at_, .int rp, .ref rk, .ref rs, .ref kt, .ref kr, .int kn, .int rg, .ref ab, .int am, .ref bh, .int bm, .int br, .int (nI rn), .ref wa, .ref ra])), (ri, .inl (cI, 3, .inl tl))] sz) := by
  refine Met.ofW (cc := cX7_bars) (maxL := 3) (ret := (some .int)) (by decide) rfl ?_
  intro p e s m args below meth c s₁ B hml hv
  obtain ⟨rfl, hsz, hP, hK, hNw, hD0⟩ := hv
  have hx := B.exec
  have hb := B.bytes
  have hr := B.returns
  have hts := atoms_spec (ws := wsX7_bars) B.pre
  have hown : s.vm.findClass RX7 = some m.cls := findClass_of_methodNamed B.named
  have hlocks := B.notSynchronized
  have f65 := hts (.fieldLink RX7 65 "StruckThreesModel" "people" "I") (by decide +kernel)
  have f95 := hts (.fieldLink RX7 95 "StruckThreesModel" "bar" "I") (by decide +kernel)
  have iX7 : ∀ w ∈ wsX70, w ∈ wsX7_bars := by decide +kernel
  subst hsz
  have hD := hD0.self (sz := s.heap.size)
  generalize hAe : va_A [(x, .inr (7, [.int fa, .int tr, .ref so, .ref sl, .ref ce, .int (nI n), .int bar, .int (nI tn), .ref ki, .ref si, .ref th, .ref ri, .int at_, .int rp, .ref rk, .ref rs, .ref kt, .ref kr, .int kn, .int rg, .ref ab, .int am, .ref bh, .int bm, .int br, .int (nI rn), .ref wa, .ref ra])), (ri, .inl (cI, 3, .inl tl))] s.heap.size = A at hD ⊢
  have hA : ∀ q : Nat, s.heap.size ≤ q → A q := fun q h => by rw [← hAe]; exact Or.inr h
  have hS : va_S A s.heap s.heap [] := va_S.rf
  have hP : va_P D vwCl [(x, .inr (7, [.int fa, .int tr, .ref so, .ref sl, .ref ce, .int (nI n), .int bar, .int (nI tn), .ref ki, .ref si, .ref th, .ref ri, .int at_, .int rp, .ref rk, .ref rs, .ref kt, .ref kr, .int kn, .int rg, .ref ab, .int am, .ref bh, .int bm, .int br, .int (nI rn), .ref wa, .ref ra])), (ri, .inl (cI, 3, .inl tl))] s.heap := hP
  have hl := lv_entry ([.ref x, .int v]) (n := 3) (Nat.le_of_ble_eq_true rfl)
  rw [lg_entry_eq]
  generalize (lg_sl ([.ref x, .int v]) ++ List.replicate (3 - (lg_sl ([.ref x, .int v])).length) Slot.unset).toArray = ls at hl ⊢
  have hl : lv_has ls 3 [(0, .ref x), (1, .int v)] := hl
  refine lv_iload_n hx hb dX7_bars_0 rfl (lv_at hl 1 rfl) ?_
  refine lv_iconst (v := 1) hx hb dX7_bars_1 (by decide) ?_
  refine lv_bipush (v := 99) hx hb dX7_bars_2 (by decide) ?_
  have hPc := hP.sub (ws' := []) [] rfl
  refine vp_callSi (va_Run.run (va_runS (As := [.int v, .int 1, .int 99]) (rest := []) ⟨hx, hb, hml, hown, hts⟩ (c_X7_within l D cI cO v 1 99) (va_cwS 3 hts gX7_bars_X7_within rfl rfl rfl (by decide +kernel) ⟨Nat.le_of_ble_eq_true rfl, Nat.le_of_ble_eq_true rfl⟩) (preSR hPc hK hNw) rfl rfl hl.1 rfl (lv_room (Nat.le_of_ble_eq_true rfl)) dX7_bars_4 ⟨Nat.zero_le _, Nat.zero_le _⟩)) (fun r4 w4 => ?_)
  by_cases b4 : lstT v 1 99 = true
  · -- y4
    obtain rfl := w4.1 b4
    have hv1 := (lst_in b4).1
    have hv2 := (lst_in b4).2
    refine lv_if_ne (tgt := 13) hx hb dX7_bars_7 (by decide) (fun _ => ?_) (fun h => absurd h (by decide))
    refine lv_aload_n hx hb dX7_bars_13 rfl (lv_at hl 0 rfl) ?_
    refine va_get (D := D) (ci := 7) (v := .int (nI n)) (C := RX7) (T := TX7) (N := 28) hx hb hts iX7 hown hK hP 0 rfl rfl 5 (by decide) f65 (fun _ h9 => h9) rfl dX7_bars_14 ?_
    refine lv_if_ne (tgt := 23) hx hb dX7_bars_17 (by decide) (fun c17 => ?_) (fun c17 => ?_)
    · -- t17
      obtain ⟨k, hk99, rfl⟩ := nI_of2 (M := 99) (n := 99) rfl (fun q => hv1 (by rw [Int32.lt_iff_toInt_lt] at q ⊢; have z1 : (1 : Int32).toInt = 1 := rfl; have z0 : (0 : Int32).toInt = 0 := rfl; omega)) hv2
      refine lv_iconst (v := 0) hx hb dX7_bars_23 (by decide) ?_
      refine lv_istore_n (lv' := [(2, .int 0), (0, .ref x), (1, .int (nI k))]) hx hb dX7_bars_24 rfl hl (by decide) rfl (fun ls hl => ?_)
      have lp25 : ∀ (fu25 : Nat) (i : Nat) (hi : i ≤ k) (hm25 : k - i < fu25) (H : Heap) (locs : List Loc) (hP : va_P D vwCl [(x, .inr (7, [.int fa, .int tr, .ref so, .ref sl, .ref ce, .int (nI n), .int bar, .int (nI tn), .ref ki, .ref si, .ref th, .ref ri, .int at_, .int rp, .ref rk, .ref rs, .ref kt, .ref kr, .int kn, .int rg, .ref ab, .int am, .ref bh, .int bm, .int br, .int (nI rn), .ref wa, .ref ra])), (ri, .inl (cI, 3, .inl (goF tl (nI i) tn)))] H) (hD : va_D A [(x, .inr (7, [.int fa, .int tr, .ref so, .ref sl, .ref ce, .int (nI n), .int bar, .int (nI tn), .ref ki, .ref si, .ref th, .ref ri, .int at_, .int rp, .ref rk, .ref rs, .ref kt, .ref kr, .int kn, .int rg, .ref ab, .int am, .ref bh, .int bm, .int br, .int (nI rn), .ref wa, .ref ra])), (ri, .inl (cI, 3, .inl (goF tl (nI i) tn)))]) (hS : va_S A s.heap H locs) (ls : Array Slot) (hl : lv_has ls 3 [(0, .ref x), (1, .int (nI k)), (2, .int (nI i))]), W p l e (headSpec wsX7_bars ({ frames := 1, cells := 0, slots := 0, locals := 22 } : Room)).room s m ([.ref x, .int (nI k)]).toArray below meth c H locs 0 0 (MQ below (va_Qi (S := Int32 × (Nat → Int32)) (fun r u => r = (if (nI k) < 1 then -2 else if (nI k) ≤ 99 then (if nI n = 0 then -3 else cntW (goF tl (nI k) tn) tn) else -2) ∧ u.1 = (if (nI k) < 1 then bar else if (nI k) ≤ 99 then (if nI n = 0 then bar else bar + (nI k)) else bar) ∧ u.2 = (if (nI k) < 1 then tl else if (nI k) ≤ 99 then (if nI n = 0 then tl else goF tl (nI k) tn) else tl)) (fun u t => va_P D vwCl [(x, .inr (7, [.int fa, .int tr, .ref so, .ref sl, .ref ce, .int (nI n), .int u.1, .int (nI tn), .ref ki, .ref si, .ref th, .ref ri, .int at_, .int rp, .ref rk, .ref rs, .ref kt, .ref kr, .int kn, .int rg, .ref ab, .int am, .ref bh, .int bm, .int br, .int (nI rn), .ref wa, .ref ra])), (ri, .inl (cI, 3, .inl u.2))] t.heap ∧ va_K D vwCl (tyL cI cO) t ∧ va_D A [(x, .inr (7, [.int fa, .int tr, .ref so, .ref sl, .ref ce, .int (nI n), .int u.1, .int (nI tn), .ref ki, .ref si, .ref th, .ref ri, .int at_, .int rp, .ref rk, .ref rs, .ref kt, .ref kr, .int kn, .int rg, .ref ab, .int am, .ref bh, .int bm, .int br, .int (nI rn), .ref wa, .ref ra])), (ri, .inl (cI, 3, .inl u.2))]) A) ([.ref x, .int (nI k)]).toArray s 0 0 A) (F0 m 25 ls []) := by
        intro fu25
        induction fu25 with
        | zero =>
          intros; omega
        | succ fu25 ih25 =>
          intro i hi hm25 H locs hP hD hS ls hl
          refine lv_iload_n hx hb dX7_bars_25 rfl (lv_at hl 2 rfl) ?_
          refine lv_iload_n hx hb dX7_bars_26 rfl (lv_at hl 1 rfl) ?_
          refine lv_icmp_ge (tgt := 40) hx hb dX7_bars_27 (by decide) (fun c27 => ?_) (fun c27 => ?_)
          · -- t27
            have e27 : i = k := by have q := ge_n (by omega) (by omega) c27; omega
            rw [e27] at hl
            rw [e27] at hP hD
            refine lv_aload_n hx hb dX7_bars_40 rfl (lv_at hl 0 rfl) ?_
            refine lv_dup hx hb dX7_bars_41 rfl ?_
            refine va_get (D := D) (ci := 7) (v := .int bar) (C := RX7) (T := TX7) (N := 28) hx hb hts iX7 hown hK hP 0 rfl rfl 6 (by decide) f95 (fun _ h9 => h9) rfl dX7_bars_42 ?_
            refine lv_iload_n hx hb dX7_bars_45 rfl (lv_at hl 1 rfl) ?_
            refine lv_iadd hx hb dX7_bars_46 ?_
            refine va_put (D := D) (ci := 7) (v := .int (bar + (nI k))) (ty := .int) (C := RX7) (T := TX7) (N := 28) hx hb hts iX7 tyX7 tyX7_ok nmX7 hown hK hP hD hS 0 rfl rfl 6 (by decide) f95 (fun _ h9 => h9) rfl (by decide +kernel) rfl rfl (Nat.le_of_ble_eq_true rfl) dX7_bars_47 (fun H locs hP hD hS => ?_)
            have hP : va_P D vwCl [(x, .inr (7, [.int fa, .int tr, .ref so, .ref sl, .ref ce, .int (nI n), .int (bar + (nI k)), .int (nI tn), .ref ki, .ref si, .ref th, .ref ri, .int at_, .int rp, .ref rk, .ref rs, .ref kt, .ref kr, .int kn, .int rg, .ref ab, .int am, .ref bh, .int bm, .int br, .int (nI rn), .ref wa, .ref ra])), (ri, .inl (cI, 3, .inl (goF tl (nI k) tn)))] H := hP
            have hD : va_D A [(x, .inr (7, [.int fa, .int tr, .ref so, .ref sl, .ref ce, .int (nI n), .int (bar + (nI k)), .int (nI tn), .ref ki, .ref si, .ref th, .ref ri, .int at_, .int rp, .ref rk, .ref rs, .ref kt, .ref kr, .int kn, .int rg, .ref ab, .int am, .ref bh, .int bm, .int br, .int (nI rn), .ref wa, .ref ra])), (ri, .inl (cI, 3, .inl (goF tl (nI k) tn)))] := hD
            refine lv_aload_n hx hb dX7_bars_50 rfl (lv_at hl 0 rfl) ?_
            have hPc := hP.sub (ws' := [(x, .inr (7, [.int fa, .int tr, .ref so, .ref sl, .ref ce, .int (nI n), .int (bar + (nI k)), .int (nI tn), .ref ki, .ref si, .ref th, .ref ri, .int at_, .int rp, .ref rk, .ref rs, .ref kt, .ref kr, .int kn, .int rg, .ref ab, .int am, .ref bh, .int bm, .int br, .int (nI rn), .ref wa, .ref ra])), (ri, .inl (cI, 3, .inl (goF tl (nI k) tn)))]) [0, 1] rfl
            refine vp_callSi (va_Run.run (va_runV (As := []) (rest := []) ⟨hx, hb, hml, hown, hts⟩ (c_X7_ringing l D cI cO x fa tr so sl ce n (bar + (nI k)) tn ki si th ri at_ rp rk rs kt kr kn rg ab am bh bm br rn wa ra (goF tl (nI k) tn) (by assumption)) (cwV 0 hts gX7_bars_X7_ringing rfl rfl rfl (by decide +kernel) ⟨Nat.le_of_ble_eq_true rfl, Nat.le_of_ble_eq_true rfl⟩) (preVR hPc hK hNw (va_recv hK hPc (ci := 7) (q0 := 0) rfl rfl)) rfl rfl hl.1 rfl (lv_room (Nat.le_of_ble_eq_true rfl)) dX7_bars_51 ⟨Nat.zero_le _, Nat.zero_le _⟩)) (fun r51 w51 => ?_)
            obtain rfl := w51
            exact W.iret (v := cntW (goF tl (nI k) tn) tn) hx hb hr (fun t ht hW => ⟨⟨_, (bar + (nI k), goF tl (nI k) tn), rfl, by first | (simp [*]; done) | (rcases hvo with q | q <;> simp [q]; done), by rw [ht]; exact hP, va_K.moved hW.alike hK, hD⟩, hS.F ht⟩) hS.2.2 dX7_bars_54
          · -- f27
            have l27 : i < k := lt_n (by omega) (by omega) c27
            refine lv_aload_n hx hb dX7_bars_30 rfl (lv_at hl 0 rfl) ?_
            have hPc := hP.sub (ws' := [(x, .inr (7, [.int fa, .int tr, .ref so, .ref sl, .ref ce, .int (nI n), .int bar, .int (nI tn), .ref ki, .ref si, .ref th, .ref ri, .int at_, .int rp, .ref rk, .ref rs, .ref kt, .ref kr, .int kn, .int rg, .ref ab, .int am, .ref bh, .int bm, .int br, .int (nI rn), .ref wa, .ref ra])), (ri, .inl (cI, 3, .inl (goF tl (nI i) tn)))]) [0, 1] rfl
            have hDc := hD.sub (ws' := [(x, .inr (7, [.int fa, .int tr, .ref so, .ref sl, .ref ce, .int (nI n), .int bar, .int (nI tn), .ref ki, .ref si, .ref th, .ref ri, .int at_, .int rp, .ref rk, .ref rs, .ref kt, .ref kr, .int kn, .int rg, .ref ab, .int am, .ref bh, .int bm, .int br, .int (nI rn), .ref wa, .ref ra])), (ri, .inl (cI, 3, .inl (goF tl (nI i) tn)))]) [0, 1] (by decide) rfl
            have hFc := va_free (wc := [(x, .inr (7, [.int fa, .int tr, .ref so, .ref sl, .ref ce, .int (nI n), .int bar, .int (nI tn), .ref ki, .ref si, .ref th, .ref ri, .int at_, .int rp, .ref rk, .ref rs, .ref kt, .ref kr, .int kn, .int rg, .ref ab, .int am, .ref bh, .int bm, .int br, .int (nI rn), .ref wa, .ref ra])), (ri, .inl (cI, 3, .inl (goF tl (nI i) tn)))]) hD hS hA [0, 1] rfl
            refine va_callv (va_runV (As := []) (rest := []) ⟨hx, hb, hml, hown, hts⟩ (c_X7_oneBar l D cI cO x fa tr so sl ce n bar tn ki si th ri at_ rp rk rs kt kr kn rg ab am bh bm br rn wa ra (goF tl (nI i) tn) _ (by assumption) (go_nn tn hnn)) (cwV 0 hts gX7_bars_X7_oneBar rfl rfl rfl (by decide +kernel) ⟨Nat.le_of_ble_eq_true rfl, Nat.le_of_ble_eq_true rfl⟩) (preVW hPc hK hNw hDc (va_recv hK hPc (ci := 7) (q0 := 0) rfl rfl)) rfl rfl hl.1 rfl (lv_room (Nat.le_of_ble_eq_true rfl)) dX7_bars_31 ⟨Nat.zero_le _, Nat.zero_le _⟩) hS (fun q _ h => hFc q h) hFc (fun u t H1 locs ht hvm w31 hB hz1 hk1 hS => ?_)
            obtain ⟨tl1_31, rfl⟩ : ∃ z, z = u := ⟨_, rfl⟩
            obtain ⟨hP1, hK1, hD1⟩ := hB
            rw [ht] at hP1
            try dsimp only at w31
            obtain ⟨hP, hD⟩ := va_join (wr := []) (w1 := [(x, .inr (7, [.int fa, .int tr, .ref so, .ref sl, .ref ce, .int (nI n), .int bar, .int (nI tn), .ref ki, .ref si, .ref th, .ref ri, .int at_, .int rp, .ref rk, .ref rs, .ref kt, .ref kr, .int kn, .int rg, .ref ab, .int am, .ref bh, .int bm, .int br, .int (nI rn), .ref wa, .ref ra])), (ri, .inl (cI, 3, .inl tl1_31))]) hP hD [0, 1] [] rfl rfl (by decide) (by decide) hk1 hFc hP1 hD1
            generalize H1 = H at hP hS ⊢
            have hP := hP.sub (ws' := [(x, .inr (7, [.int fa, .int tr, .ref so, .ref sl, .ref ce, .int (nI n), .int bar, .int (nI tn), .ref ki, .ref si, .ref th, .ref ri, .int at_, .int rp, .ref rk, .ref rs, .ref kt, .ref kr, .int kn, .int rg, .ref ab, .int am, .ref bh, .int bm, .int br, .int (nI rn), .ref wa, .ref ra])), (ri, .inl (cI, 3, .inl tl1_31))]) [0, 1] rfl
            have hD := hD.sub (ws' := [(x, .inr (7, [.int fa, .int tr, .ref so, .ref sl, .ref ce, .int (nI n), .int bar, .int (nI tn), .ref ki, .ref si, .ref th, .ref ri, .int at_, .int rp, .ref rk, .ref rs, .ref kt, .ref kr, .int kn, .int rg, .ref ab, .int am, .ref bh, .int bm, .int br, .int (nI rn), .ref wa, .ref ra])), (ri, .inl (cI, 3, .inl tl1_31))]) [0, 1] (by decide) rfl
            obtain rfl := w31
            refine lv_iinc (v := nI (i + 1)) (lv' := [(2, .int (nI (i + 1))), (0, .ref x), (1, .int (nI k))]) hx hb dX7_bars_34 hl (k := 2) rfl (nI_1 _) (by decide) rfl (fun ls hl => ?_)
            refine lv_goto (tgt := 25) hx hb dX7_bars_37 (by decide) ?_
            have ew25_1_0 : (goF (goF tl (nI i) tn) 1 tn) = goF tl (nI (i + 1)) tn := by exact go_s (by omega) hnn
            have hP : va_P D vwCl [(x, .inr (7, [.int fa, .int tr, .ref so, .ref sl, .ref ce, .int (nI n), .int bar, .int (nI tn), .ref ki, .ref si, .ref th, .ref ri, .int at_, .int rp, .ref rk, .ref rs, .ref kt, .ref kr, .int kn, .int rg, .ref ab, .int am, .ref bh, .int bm, .int br, .int (nI rn), .ref wa, .ref ra])), (ri, .inl (cI, 3, .inl (goF tl (nI (i + 1)) tn)))] H := by rw [← ew25_1_0]; exact hP
            have hD : va_D A [(x, .inr (7, [.int fa, .int tr, .ref so, .ref sl, .ref ce, .int (nI n), .int bar, .int (nI tn), .ref ki, .ref si, .ref th, .ref ri, .int at_, .int rp, .ref rk, .ref rs, .ref kt, .ref kr, .int kn, .int rg, .ref ab, .int am, .ref bh, .int bm, .int br, .int (nI rn), .ref wa, .ref ra])), (ri, .inl (cI, 3, .inl (goF tl (nI (i + 1)) tn)))] := by rw [← ew25_1_0]; exact hD
            exact ih25 (i + 1) (by omega) (by omega) _ _ hP hD hS _ (lv_sub hl [1, 2, 0] rfl)
      have ew25_1_0 : tl = goF tl (nI 0) tn := by exact (go_0 hnn).symm
      have hP : va_P D vwCl [(x, .inr (7, [.int fa, .int tr, .ref so, .ref sl, .ref ce, .int (nI n), .int bar, .int (nI tn), .ref ki, .ref si, .ref th, .ref ri, .int at_, .int rp, .ref rk, .ref rs, .ref kt, .ref kr, .int kn, .int rg, .ref ab, .int am, .ref bh, .int bm, .int br, .int (nI rn), .ref wa, .ref ra])), (ri, .inl (cI, 3, .inl (goF tl (nI 0) tn)))] s.heap := by rw [← ew25_1_0]; exact hP
      have hD : va_D A [(x, .inr (7, [.int fa, .int tr, .ref so, .ref sl, .ref ce, .int (nI n), .int bar, .int (nI tn), .ref ki, .ref si, .ref th, .ref ri, .int at_, .int rp, .ref rk, .ref rs, .ref kt, .ref kr, .int kn, .int rg, .ref ab, .int am, .ref bh, .int bm, .int br, .int (nI rn), .ref wa, .ref ra])), (ri, .inl (cI, 3, .inl (goF tl (nI 0) tn)))] := by rw [← ew25_1_0]; exact hD
      exact lp25 _ 0 (Nat.zero_le _) (Nat.lt_succ_self _) _ _ hP hD hS _ (lv_sub hl [1, 2, 0] rfl)
    · -- f17
      refine lv_bipush (v := -3) hx hb dX7_bars_20 (by decide) ?_
      exact W.iret (v := -3) hx hb hr (fun t ht hW => ⟨⟨_, (bar, tl), rfl, by first | (simp [*]; done) | (rcases hvo with q | q <;> simp [q]; done), by rw [ht]; exact hP, va_K.moved hW.alike hK, hD⟩, hS.F ht⟩) hS.2.2 dX7_bars_22
  · -- n4
    obtain rfl := w4.2 b4
    have hvo := lst_out b4
    refine lv_if_ne (tgt := 13) hx hb dX7_bars_7 (by decide) (fun h => absurd (by decide) h) (fun _ => ?_)
    refine lv_bipush (v := -2) hx hb dX7_bars_10 (by decide) ?_
    exact W.iret (v := -2) hx hb hr (fun t ht hW => ⟨⟨_, (bar, tl), rfl, by first | (simp [*]; done) | (rcases hvo with q | q <;> simp [q]; done), by rw [ht]; exact hP, va_K.moved hW.alike hK, hD⟩, hS.F ht⟩) hS.2.2 dX7_bars_12

set_option maxHeartbeats 4000000 in
set_option maxRecDepth 100000 in
theorem c_X7_leave (l : Launch) (D : va_G) (cI cO : ClassId) (x : Nat) (fa : Int32) (tr : Int32) (so : Nat) (sl : Nat) (ce : Nat) (n : Nat) (bar : Int32) (tn : Nat) (ki : Nat) (si : Nat) (th : Nat) (ri : Nat) (at_ : Int32) (rp : Int32) (rk : Nat) (rs : Nat) (kt : Nat) (kr : Nat) (kn : Int32) (rg : Int32) (ab : Nat) (am : Int32) (bh : Nat) (bm : Int32) (br : Int32) (rn : Nat) (wa : Nat) (ra : Nat) (sd : Nat → Int32) (ts : Nat → Int32) (tl : Nat → Int32) (pp : Int32) (sz : Nat) (hn : n ≤ 9) (ht3 : tn ≤ 3) : Met l yX7_leave wsX7_leave ({ frames := 2, cells := 0, slots := 0, locals := 44 } : Room) (va_Pc [.ref x, .int pp] (wdW D cI cO [(x, .inr (7, [.int fa, .int tr, .ref so, .ref sl, .ref ce, .int (nI n), .int bar, .int (nI tn), .ref ki, .ref si, .ref th, .ref ri, .int at_, .int rp, .ref rk, .ref rs, .ref kt, .ref kr, .int kn, .int rg, .ref ab, .int am, .ref bh, .int bm, .int br, .int (nI rn), .ref wa, .ref ra])), (si, .inl (cI, 9, .inl sd)), (th, .inl (cI, 3, .inl ts)), (ri, .inl (cI, 3, .inl tl))] sz)) (va_Qi (S := Nat × (Nat → Int32) × (Nat → Int32)) (fun r u => r = (onQ tn pp (fun j => cornW sd (ts j) n) (-1)) ∧ u.1 = (onQ tn pp (fun _ => tn - 1) tn) ∧ u.2.1 = (onQ tn pp (fun j => shF ts j tn) ts) ∧ u.2.2 = (onQ tn pp (fun j => shF tl j tn) tl)) (fun u t => va_P D vwCl [(x, .inr (7, [.int fa, .int tr, .ref so, .ref sl, .ref ce, .int (nI n), .int bar, .int (nI u.1), .ref ki, .ref si, .ref th, .ref ri, .int at_, .int rp, .ref rk, .ref rs, .ref kt, .ref kr, .int kn, .int rg, .ref ab, .int am, .ref bh, .int bm, .int br, .int (nI rn), .ref wa, .ref ra])), (si, .inl (cI, 9, .inl sd)), (th, .inl (cI, 3, .inl u.2.1)), (ri, .inl (cI, 3, .inl u.2.2))] t.heap ∧ va_K D vwCl (tyL cI cO) t ∧ va_D (va_A [(x, .inr (7, [.int fa, .int tr, .ref so, .ref sl, .ref ce, .int (nI n), .int bar, .int (nI tn), .ref ki, .ref si, .ref th, .ref ri, .int at_, .int rp, .ref rk, .ref rs, .ref kt, .ref kr, .int kn, .int rg, .ref ab, .int am, .ref bh, .int bm, .int br, .int (nI rn), .ref wa, .ref ra])), (si, .inl (cI, 9, .inl sd)), (th, .inl (cI, 3, .inl ts)), (ri, .inl (cI, 3, .inl tl))] sz) [(x, .inr (7, [.int fa, .int tr, .ref so, .ref sl, .ref ce, .int (nI n), .int bar, .int (nI u.1), .ref ki, .ref si, .ref th, .ref ri, .int at_, .int rp, .ref rk, .ref rs, .ref kt, .ref kr, .int kn, .int rg, .ref ab, .int am, .ref bh, .int bm, .int br, .int (nI rn), .ref wa, .ref ra])), (si, .inl (cI, 9, .inl sd)), (th, .inl (cI, 3, .inl u.2.1)), (ri, .inl (cI, 3, .inl u.2.2))]) (va_A [(x, .inr (7, [.int fa, .int tr, .ref so, .ref sl, .ref ce, .int (nI n), .int bar, .int (nI tn), .ref ki, .ref si, .ref th, .ref ri, .int at_, .int rp, .ref rk, .ref rs, .ref kt, .ref kr, .int kn, .int rg, .ref ab, .int am, .ref bh, .int bm, .int br, .int (nI rn), .ref wa, .ref ra])), (si, .inl (cI, 9, .inl sd)), (th, .inl (cI, 3, .inl ts)), (ri, .inl (cI, 3, .inl tl))] sz)) 0 0 (va_A [(x, .inr (7, [.int fa, .int tr, .ref so, .ref sl, .ref ce, .int (nI n), .int bar, .int (nI tn), .ref ki, .ref si, .ref th, .ref ri, .int at_, .int rp, .ref rk, .ref rs, .ref kt, .ref kr, .int kn, .int rg, .ref ab, .int am, .ref bh, .int bm, .int br, .int (nI rn), .ref wa, .ref ra])), (si, .inl (cI, 9, .inl sd)), (th, .inl (cI, 3, .inl ts)), (ri, .inl (cI, 3, .inl tl))] sz) := by
  refine Met.ofW (cc := cX7_leave) (maxL := 3) (ret := (some .int)) (by decide) rfl ?_
  intro p e s m args below meth c s₁ B hml hv
  obtain ⟨rfl, hsz, hP, hK, hNw, hD0⟩ := hv
  have hx := B.exec
  have hb := B.bytes
  have hr := B.returns
  have hts := atoms_spec (ws := wsX7_leave) B.pre
  have hown : s.vm.findClass RX7 = some m.cls := findClass_of_methodNamed B.named
  have hlocks := B.notSynchronized
  have f25 := hts (.fieldLink RX7 25 "StruckThreesModel" "three" "[I") (by decide +kernel)
  have iX7 : ∀ w ∈ wsX70, w ∈ wsX7_leave := by decide +kernel
  subst hsz
  have hD := hD0.self (sz := s.heap.size)
  generalize hAe : va_A [(x, .inr (7, [.int fa, .int tr, .ref so, .ref sl, .ref ce, .int (nI n), .int bar, .int (nI tn), .ref ki, .ref si, .ref th, .ref ri, .int at_, .int rp, .ref rk, .ref rs, .ref kt, .ref kr, .int kn, .int rg, .ref ab, .int am, .ref bh, .int bm, .int br, .int (nI rn), .ref wa, .ref ra])), (si, .inl (cI, 9, .inl sd)), (th, .inl (cI, 3, .inl ts)), (ri, .inl (cI, 3, .inl tl))] s.heap.size = A at hD ⊢
  have hA : ∀ q : Nat, s.heap.size ≤ q → A q := fun q h => by rw [← hAe]; exact Or.inr h
  have hS : va_S A s.heap s.heap [] := va_S.rf
  have hP : va_P D vwCl [(x, .inr (7, [.int fa, .int tr, .ref so, .ref sl, .ref ce, .int (nI n), .int bar, .int (nI tn), .ref ki, .ref si, .ref th, .ref ri, .int at_, .int rp, .ref rk, .ref rs, .ref kt, .ref kr, .int kn, .int rg, .ref ab, .int am, .ref bh, .int bm, .int br, .int (nI rn), .ref wa, .ref ra])), (si, .inl (cI, 9, .inl sd)), (th, .inl (cI, 3, .inl ts)), (ri, .inl (cI, 3, .inl tl))] s.heap := hP
  have hl := lv_entry ([.ref x, .int pp]) (n := 3) (Nat.le_of_ble_eq_true rfl)
  rw [lg_entry_eq]
  generalize (lg_sl ([.ref x, .int pp]) ++ List.replicate (3 - (lg_sl ([.ref x, .int pp])).length) Slot.unset).toArray = ls at hl ⊢
  have hl : lv_has ls 3 [(0, .ref x), (1, .int pp)] := hl
  refine lv_aload_n hx hb dX7_leave_0 rfl (lv_at hl 0 rfl) ?_
  refine lv_iload_n hx hb dX7_leave_1 rfl (lv_at hl 1 rfl) ?_
  have hPc := hP.sub (ws' := [(x, .inr (7, [.int fa, .int tr, .ref so, .ref sl, .ref ce, .int (nI n), .int bar, .int (nI tn), .ref ki, .ref si, .ref th, .ref ri, .int at_, .int rp, .ref rk, .ref rs, .ref kt, .ref kr, .int kn, .int rg, .ref ab, .int am, .ref bh, .int bm, .int br, .int (nI rn), .ref wa, .ref ra]))]) [0] rfl
  refine vp_callSi (va_Run.run (va_runV (As := [.int pp]) (rest := []) ⟨hx, hb, hml, hown, hts⟩ (c_X7_isThree l D cI cO x fa tr so sl ce n bar tn ki si th ri at_ rp rk rs kt kr kn rg ab am bh bm br rn wa ra pp) (cwV 1 hts gX7_leave_X7_isThree rfl rfl rfl (by decide +kernel) ⟨Nat.le_of_ble_eq_true rfl, Nat.le_of_ble_eq_true rfl⟩) (preVR hPc hK hNw (va_recv hK hPc (ci := 7) (q0 := 0) rfl rfl)) rfl rfl hl.1 rfl (lv_room (Nat.le_of_ble_eq_true rfl)) dX7_leave_2 ⟨Nat.zero_le _, Nat.zero_le _⟩)) (fun r2 w2 => ?_)
  by_cases b2 : ¬ pp < 0 ∧ ¬ nI tn ≤ pp
  · -- y2
    obtain rfl := w2.1 b2
    obtain ⟨j, hj, rfl⟩ := in_nat b2 (show tn < 2 ^ 31 by omega)
    refine lv_if_ne (tgt := 10) hx hb dX7_leave_5 (by decide) (fun _ => ?_) (fun h => absurd h (by decide))
    refine lv_aload_n hx hb dX7_leave_10 rfl (lv_at hl 0 rfl) ?_
    refine lv_aload_n hx hb dX7_leave_11 rfl (lv_at hl 0 rfl) ?_
    refine va_get (D := D) (ci := 7) (v := .ref th) (C := RX7) (T := TX7) (N := 28) hx hb hts iX7 hown hK hP 0 rfl rfl 10 (by decide) f25 (fun _ h9 => h9) rfl dX7_leave_12 ?_
    refine lv_iload_n hx hb dX7_leave_15 rfl (lv_at hl 1 rfl) ?_
    refine va_iald hx hb hK hP 2 0 rfl rfl (vp_in_nI (by omega) (by decide)) dX7_leave_16 ?_
    refine tp_i (y := ts j) (by rw [nI_clamp (n := j) (by omega)]) ?_
    have hPc := hP.sub (ws' := [(x, .inr (7, [.int fa, .int tr, .ref so, .ref sl, .ref ce, .int (nI n), .int bar, .int (nI tn), .ref ki, .ref si, .ref th, .ref ri, .int at_, .int rp, .ref rk, .ref rs, .ref kt, .ref kr, .int kn, .int rg, .ref ab, .int am, .ref bh, .int bm, .int br, .int (nI rn), .ref wa, .ref ra])), (si, .inl (cI, 9, .inl sd))]) [0, 1] rfl
    refine vp_callSi (va_Run.run (va_runV (As := [.int (ts j)]) (rest := []) ⟨hx, hb, hml, hown, hts⟩ (c_X7_cornerOf l D cI cO x fa tr so sl ce n bar tn ki si th ri at_ rp rk rs kt kr kn rg ab am bh bm br rn wa ra sd (ts j) (by assumption)) (cwV 1 hts gX7_leave_X7_cornerOf rfl rfl rfl (by decide +kernel) ⟨Nat.le_of_ble_eq_true rfl, Nat.le_of_ble_eq_true rfl⟩) (preVR hPc hK hNw (va_recv hK hPc (ci := 7) (q0 := 0) rfl rfl)) rfl rfl hl.1 rfl (lv_room (Nat.le_of_ble_eq_true rfl)) dX7_leave_17 ⟨Nat.zero_le _, Nat.zero_le _⟩)) (fun r17 w17 => ?_)
    obtain rfl := w17
    refine lv_istore_n (lv' := [(2, .int (cornW sd (ts j) n)), (0, .ref x), (1, .int (nI j))]) hx hb dX7_leave_20 rfl hl (by decide) rfl (fun ls hl => ?_)
    refine lv_aload_n hx hb dX7_leave_21 rfl (lv_at hl 1 rfl) ?_
    refine lv_iload_n hx hb dX7_leave_22 rfl (lv_at hl 2 rfl) ?_
    have hPc := hP.sub (ws' := [(x, .inr (7, [.int fa, .int tr, .ref so, .ref sl, .ref ce, .int (nI n), .int bar, .int (nI tn), .ref ki, .ref si, .ref th, .ref ri, .int at_, .int rp, .ref rk, .ref rs, .ref kt, .ref kr, .int kn, .int rg, .ref ab, .int am, .ref bh, .int bm, .int br, .int (nI rn), .ref wa, .ref ra])), (th, .inl (cI, 3, .inl ts)), (ri, .inl (cI, 3, .inl tl))]) [0, 2, 3] rfl
    have hDc := hD.sub (ws' := [(x, .inr (7, [.int fa, .int tr, .ref so, .ref sl, .ref ce, .int (nI n), .int bar, .int (nI tn), .ref ki, .ref si, .ref th, .ref ri, .int at_, .int rp, .ref rk, .ref rs, .ref kt, .ref kr, .int kn, .int rg, .ref ab, .int am, .ref bh, .int bm, .int br, .int (nI rn), .ref wa, .ref ra])), (th, .inl (cI, 3, .inl ts)), (ri, .inl (cI, 3, .inl tl))]) [0, 2, 3] (by decide) rfl
    have hFc := va_free (wc := [(x, .inr (7, [.int fa, .int tr, .ref so, .ref sl, .ref ce, .int (nI n), .int bar, .int (nI tn), .ref ki, .ref si, .ref th, .ref ri, .int at_, .int rp, .ref rk, .ref rs, .ref kt, .ref kr, .int kn, .int rg, .ref ab, .int am, .ref bh, .int bm, .int br, .int (nI rn), .ref wa, .ref ra])), (th, .inl (cI, 3, .inl ts)), (ri, .inl (cI, 3, .inl tl))]) hD hS hA [0, 2, 3] rfl
    refine va_callv (va_runV (As := [.int (nI j)]) (rest := []) ⟨hx, hb, hml, hown, hts⟩ (c_X7_takeDown l D cI cO x fa tr so sl ce n bar tn ki si th ri at_ rp rk rs kt kr kn rg ab am bh bm br rn wa ra ts tl j _ (by assumption) (by assumption)) (cwV 1 hts gX7_leave_X7_takeDown rfl rfl rfl (by decide +kernel) ⟨Nat.le_of_ble_eq_true rfl, Nat.le_of_ble_eq_true rfl⟩) (preVW hPc hK hNw hDc (va_recv hK hPc (ci := 7) (q0 := 0) rfl rfl)) rfl rfl hl.1 rfl (lv_room (Nat.le_of_ble_eq_true rfl)) dX7_leave_23 ⟨Nat.zero_le _, Nat.zero_le _⟩) hS (fun q _ h => hFc q h) hFc (fun u t H1 locs ht hvm w23 hB hz1 hk1 hS => ?_)
    obtain ⟨ts1_23, tl1_23⟩ := u
    obtain ⟨hP1, hK1, hD1⟩ := hB
    rw [ht] at hP1
    try dsimp only at w23
    obtain ⟨hP, hD⟩ := va_join (wr := [(si, .inl (cI, 9, .inl sd))]) (w1 := [(x, .inr (7, [.int fa, .int tr, .ref so, .ref sl, .ref ce, .int (nI n), .int bar, .int (nI (tn - 1)), .ref ki, .ref si, .ref th, .ref ri, .int at_, .int rp, .ref rk, .ref rs, .ref kt, .ref kr, .int kn, .int rg, .ref ab, .int am, .ref bh, .int bm, .int br, .int (nI rn), .ref wa, .ref ra])), (th, .inl (cI, 3, .inl ts1_23)), (ri, .inl (cI, 3, .inl tl1_23))]) hP hD [0, 2, 3] [1] rfl rfl (by decide) (by decide) hk1 hFc hP1 hD1
    generalize H1 = H at hP hS ⊢
    have hP := hP.sub (ws' := [(x, .inr (7, [.int fa, .int tr, .ref so, .ref sl, .ref ce, .int (nI n), .int bar, .int (nI (tn - 1)), .ref ki, .ref si, .ref th, .ref ri, .int at_, .int rp, .ref rk, .ref rs, .ref kt, .ref kr, .int kn, .int rg, .ref ab, .int am, .ref bh, .int bm, .int br, .int (nI rn), .ref wa, .ref ra])), (si, .inl (cI, 9, .inl sd)), (th, .inl (cI, 3, .inl ts1_23)), (ri, .inl (cI, 3, .inl tl1_23))]) [1, 0, 2, 3] rfl
    have hD := hD.sub (ws' := [(x, .inr (7, [.int fa, .int tr, .ref so, .ref sl, .ref ce, .int (nI n), .int bar, .int (nI (tn - 1)), .ref ki, .ref si, .ref th, .ref ri, .int at_, .int rp, .ref rk, .ref rs, .ref kt, .ref kr, .int kn, .int rg, .ref ab, .int am, .ref bh, .int bm, .int br, .int (nI rn), .ref wa, .ref ra])), (si, .inl (cI, 9, .inl sd)), (th, .inl (cI, 3, .inl ts1_23)), (ri, .inl (cI, 3, .inl tl1_23))]) [1, 0, 2, 3] (by decide) rfl
    obtain ⟨rfl, rfl⟩ := w23
    refine lv_iload_n hx hb dX7_leave_26 rfl (lv_at hl 0 rfl) ?_
    exact W.iret (v := cornW sd (ts j) n) hx hb hr (fun t ht hW => ⟨⟨_, ((tn - 1), (shF ts j tn), (shF tl j tn)), rfl, by first | (simp [onQ_out b2]; done) | (simp [onQ_in hj (show tn < 2 ^ 31 by omega), *]; done), by rw [ht]; exact hP, va_K.moved hW.alike hK, hD⟩, hS.F ht⟩) hS.2.2 dX7_leave_27
  · -- n2
    obtain rfl := w2.2 b2
    refine lv_if_ne (tgt := 10) hx hb dX7_leave_5 (by decide) (fun h => absurd (by decide) h) (fun _ => ?_)
    refine lv_iconst (v := -1) hx hb dX7_leave_8 (by decide) ?_
    exact W.iret (v := -1) hx hb hr (fun t ht hW => ⟨⟨_, (tn, ts, tl), rfl, by first | (simp [onQ_out b2]; done) | (simp [onQ_in hj (show tn < 2 ^ 31 by omega), *]; done), by rw [ht]; exact hP, va_K.moved hW.alike hK, hD⟩, hS.F ht⟩) hS.2.2 dX7_leave_9

set_option maxHeartbeats 4000000 in
set_option maxRecDepth 100000 in
theorem c_X7_keep (l : Launch) (D : va_G) (cI cO : ClassId) (x : Nat) (fa : Int32) (tr : Int32) (so : Nat) (sl : Nat) (ce : Nat) (n : Nat) (bar : Int32) (tn : Nat) (ki : Nat) (si : Nat) (th : Nat) (ri : Nat) (at_ : Int32) (rp : Int32) (rk : Nat) (rs : Nat) (kt : Nat) (kr : Nat) (kn : Int32) (rg : Int32) (ab : Nat) (am : Int32) (bh : Nat) (bm : Int32) (br : Int32) (rn : Nat) (wa : Nat) (ra : Nat) (ts : Nat → Int32) (tl : Nat → Int32) (tk : Nat → Int32) (rq : Nat → Int32) (sz : Nat) : Met l yX7_keep wsX7_keep ({ frames := 0, cells := 0, slots := 0, locals := 0 } : Room) (va_Pc [.ref x] (wdW D cI cO [(x, .inr (7, [.int fa, .int tr, .ref so, .ref sl, .ref ce, .int (nI n), .int bar, .int (nI tn), .ref ki, .ref si, .ref th, .ref ri, .int at_, .int rp, .ref rk, .ref rs, .ref kt, .ref kr, .int kn, .int rg, .ref ab, .int am, .ref bh, .int bm, .int br, .int (nI rn), .ref wa, .ref ra])), (th, .inl (cI, 3, .inl ts)), (ri, .inl (cI, 3, .inl tl)), (kt, .inl (cI, 3, .inl tk)), (kr, .inl (cI, 3, .inl rq))] sz)) (va_Qv (S := (Nat → Int32) × (Nat → Int32)) (fun u => u.1 = (cpF ts tk 3) ∧ u.2 = (cpF tl rq 3)) (fun u t => va_P D vwCl [(x, .inr (7, [.int fa, .int tr, .ref so, .ref sl, .ref ce, .int (nI n), .int bar, .int (nI tn), .ref ki, .ref si, .ref th, .ref ri, .int at_, .int rp, .ref rk, .ref rs, .ref kt, .ref kr, .int (nI tn), .int rg, .ref ab, .int am, .ref bh, .int bm, .int br, .int (nI rn), .ref wa, .ref ra])), (th, .inl (cI, 3, .inl ts)), (ri, .inl (cI, 3, .inl tl)), (kt, .inl (cI, 3, .inl u.1)), (kr, .inl (cI, 3, .inl u.2))] t.heap ∧ va_K D vwCl (tyL cI cO) t ∧ va_D (va_A [(x, .inr (7, [.int fa, .int tr, .ref so, .ref sl, .ref ce, .int (nI n), .int bar, .int (nI tn), .ref ki, .ref si, .ref th, .ref ri, .int at_, .int rp, .ref rk, .ref rs, .ref kt, .ref kr, .int kn, .int rg, .ref ab, .int am, .ref bh, .int bm, .int br, .int (nI rn), .ref wa, .ref ra])), (th, .inl (cI, 3, .inl ts)), (ri, .inl (cI, 3, .inl tl)), (kt, .inl (cI, 3, .inl tk)), (kr, .inl (cI, 3, .inl rq))] sz) [(x, .inr (7, [.int fa, .int tr, .ref so, .ref sl, .ref ce, .int (nI n), .int bar, .int (nI tn), .ref ki, .ref si, .ref th, .ref ri, .int at_, .int rp, .ref rk, .ref rs, .ref kt, .ref kr, .int (nI tn), .int rg, .ref ab, .int am, .ref bh, .int bm, .int br, .int (nI rn), .ref wa, .ref ra])), (th, .inl (cI, 3, .inl ts)), (ri, .inl (cI, 3, .inl tl)), (kt, .inl (cI, 3, .inl u.1)), (kr, .inl (cI, 3, .inl u.2))]) (va_A [(x, .inr (7, [.int fa, .int tr, .ref so, .ref sl, .ref ce, .int (nI n), .int bar, .int (nI tn), .ref ki, .ref si, .ref th, .ref ri, .int at_, .int rp, .ref rk, .ref rs, .ref kt, .ref kr, .int kn, .int rg, .ref ab, .int am, .ref bh, .int bm, .int br, .int (nI rn), .ref wa, .ref ra])), (th, .inl (cI, 3, .inl ts)), (ri, .inl (cI, 3, .inl tl)), (kt, .inl (cI, 3, .inl tk)), (kr, .inl (cI, 3, .inl rq))] sz)) 0 0 (va_A [(x, .inr (7, [.int fa, .int tr, .ref so, .ref sl, .ref ce, .int (nI n), .int bar, .int (nI tn), .ref ki, .ref si, .ref th, .ref ri, .int at_, .int rp, .ref rk, .ref rs, .ref kt, .ref kr, .int kn, .int rg, .ref ab, .int am, .ref bh, .int bm, .int br, .int (nI rn), .ref wa, .ref ra])), (th, .inl (cI, 3, .inl ts)), (ri, .inl (cI, 3, .inl tl)), (kt, .inl (cI, 3, .inl tk)), (kr, .inl (cI, 3, .inl rq))] sz) := by
  refine Met.ofW (cc := cX7_keep) (maxL := 2) (ret := none) (by decide) rfl ?_
  intro p e s m args below meth c s₁ B hml hv
  obtain ⟨rfl, hsz, hP, hK, hNw, hD0⟩ := hv
  have hx := B.exec
  have hb := B.bytes
  have hr := B.returns
  have hts := atoms_spec (ws := wsX7_keep) B.pre
  have hown : s.vm.findClass RX7 = some m.cls := findClass_of_methodNamed B.named
  have hlocks := B.notSynchronized
  have f25 := hts (.fieldLink RX7 25 "StruckThreesModel" "three" "[I") (by decide +kernel)
  have f28 := hts (.fieldLink RX7 28 "StruckThreesModel" "rings" "[I") (by decide +kernel)
  have f37 := hts (.fieldLink RX7 37 "StruckThreesModel" "keptThree" "[I") (by decide +kernel)
  have f40 := hts (.fieldLink RX7 40 "StruckThreesModel" "keptRings" "[I") (by decide +kernel)
  have f68 := hts (.fieldLink RX7 68 "StruckThreesModel" "threes" "I") (by decide +kernel)
  have f155 := hts (.fieldLink RX7 155 "StruckThreesModel" "keptThrees" "I") (by decide +kernel)
  have iX7 : ∀ w ∈ wsX70, w ∈ wsX7_keep := by decide +kernel
  subst hsz
  have hD := hD0.self (sz := s.heap.size)
  generalize hAe : va_A [(x, .inr (7, [.int fa, .int tr, .ref so, .ref sl, .ref ce, .int (nI n), .int bar, .int (nI tn), .ref ki, .ref si, .ref th, .ref ri, .int at_, .int rp, .ref rk, .ref rs, .ref kt, .ref kr, .int kn, .int rg, .ref ab, .int am, .ref bh, .int bm, .int br, .int (nI rn), .ref wa, .ref ra])), (th, .inl (cI, 3, .inl ts)), (ri, .inl (cI, 3, .inl tl)), (kt, .inl (cI, 3, .inl tk)), (kr, .inl (cI, 3, .inl rq))] s.heap.size = A at hD ⊢
  have hA : ∀ q : Nat, s.heap.size ≤ q → A q := fun q h => by rw [← hAe]; exact Or.inr h
  have hS : va_S A s.heap s.heap [] := va_S.rf
  have hP : va_P D vwCl [(x, .inr (7, [.int fa, .int tr, .ref so, .ref sl, .ref ce, .int (nI n), .int bar, .int (nI tn), .ref ki, .ref si, .ref th, .ref ri, .int at_, .int rp, .ref rk, .ref rs, .ref kt, .ref kr, .int kn, .int rg, .ref ab, .int am, .ref bh, .int bm, .int br, .int (nI rn), .ref wa, .ref ra])), (th, .inl (cI, 3, .inl ts)), (ri, .inl (cI, 3, .inl tl)), (kt, .inl (cI, 3, .inl tk)), (kr, .inl (cI, 3, .inl rq))] s.heap := hP
  have hl := lv_entry ([.ref x]) (n := 2) (Nat.le_of_ble_eq_true rfl)
  rw [lg_entry_eq]
  generalize (lg_sl ([.ref x]) ++ List.replicate (2 - (lg_sl ([.ref x])).length) Slot.unset).toArray = ls at hl ⊢
  have hl : lv_has ls 2 [(0, .ref x)] := hl
  refine lv_aload_n hx hb dX7_keep_0 rfl (lv_at hl 0 rfl) ?_
  refine lv_aload_n hx hb dX7_keep_1 rfl (lv_at hl 0 rfl) ?_
  refine va_get (D := D) (ci := 7) (v := .int (nI tn)) (C := RX7) (T := TX7) (N := 28) hx hb hts iX7 hown hK hP 0 rfl rfl 7 (by decide) f68 (fun _ h9 => h9) rfl dX7_keep_2 ?_
  refine va_put (D := D) (ci := 7) (v := .int (nI tn)) (ty := .int) (C := RX7) (T := TX7) (N := 28) hx hb hts iX7 tyX7 tyX7_ok nmX7 hown hK hP hD hS 0 rfl rfl 18 (by decide) f155 (fun _ h9 => h9) rfl (by decide +kernel) rfl rfl (Nat.le_of_ble_eq_true rfl) dX7_keep_5 (fun H locs hP hD hS => ?_)
  have hP : va_P D vwCl [(x, .inr (7, [.int fa, .int tr, .ref so, .ref sl, .ref ce, .int (nI n), .int bar, .int (nI tn), .ref ki, .ref si, .ref th, .ref ri, .int at_, .int rp, .ref rk, .ref rs, .ref kt, .ref kr, .int (nI tn), .int rg, .ref ab, .int am, .ref bh, .int bm, .int br, .int (nI rn), .ref wa, .ref ra])), (th, .inl (cI, 3, .inl ts)), (ri, .inl (cI, 3, .inl tl)), (kt, .inl (cI, 3, .inl tk)), (kr, .inl (cI, 3, .inl rq))] H := hP
  have hD : va_D A [(x, .inr (7, [.int fa, .int tr, .ref so, .ref sl, .ref ce, .int (nI n), .int bar, .int (nI tn), .ref ki, .ref si, .ref th, .ref ri, .int at_, .int rp, .ref rk, .ref rs, .ref kt, .ref kr, .int (nI tn), .int rg, .ref ab, .int am, .ref bh, .int bm, .int br, .int (nI rn), .ref wa, .ref ra])), (th, .inl (cI, 3, .inl ts)), (ri, .inl (cI, 3, .inl tl)), (kt, .inl (cI, 3, .inl tk)), (kr, .inl (cI, 3, .inl rq))] := hD
  refine lv_iconst (v := 0) hx hb dX7_keep_8 (by decide) ?_
  refine lv_istore_n (lv' := [(1, .int 0), (0, .ref x)]) hx hb dX7_keep_9 rfl hl (by decide) rfl (fun ls hl => ?_)
  have lp10 : ∀ (fu10 : Nat) (i : Nat) (hi : i ≤ 3) (hm10 : 3 - i < fu10) (H : Heap) (locs : List Loc) (hP : va_P D vwCl [(x, .inr (7, [.int fa, .int tr, .ref so, .ref sl, .ref ce, .int (nI n), .int bar, .int (nI tn), .ref ki, .ref si, .ref th, .ref ri, .int at_, .int rp, .ref rk, .ref rs, .ref kt, .ref kr, .int (nI tn), .int rg, .ref ab, .int am, .ref bh, .int bm, .int br, .int (nI rn), .ref wa, .ref ra])), (th, .inl (cI, 3, .inl ts)), (ri, .inl (cI, 3, .inl tl)), (kt, .inl (cI, 3, .inl (cpF ts tk i))), (kr, .inl (cI, 3, .inl (cpF tl rq i)))] H) (hD : va_D A [(x, .inr (7, [.int fa, .int tr, .ref so, .ref sl, .ref ce, .int (nI n), .int bar, .int (nI tn), .ref ki, .ref si, .ref th, .ref ri, .int at_, .int rp, .ref rk, .ref rs, .ref kt, .ref kr, .int (nI tn), .int rg, .ref ab, .int am, .ref bh, .int bm, .int br, .int (nI rn), .ref wa, .ref ra])), (th, .inl (cI, 3, .inl ts)), (ri, .inl (cI, 3, .inl tl)), (kt, .inl (cI, 3, .inl (cpF ts tk i))), (kr, .inl (cI, 3, .inl (cpF tl rq i)))]) (hS : va_S A s.heap H locs) (ls : Array Slot) (hl : lv_has ls 2 [(0, .ref x), (1, .int (nI i))]), W p l e (headSpec wsX7_keep ({ frames := 0, cells := 0, slots := 0, locals := 0 } : Room)).room s m ([.ref x]).toArray below meth c H locs 0 0 (MQ below (va_Qv (S := (Nat → Int32) × (Nat → Int32)) (fun u => u.1 = (cpF ts tk 3) ∧ u.2 = (cpF tl rq 3)) (fun u t => va_P D vwCl [(x, .inr (7, [.int fa, .int tr, .ref so, .ref sl, .ref ce, .int (nI n), .int bar, .int (nI tn), .ref ki, .ref si, .ref th, .ref ri, .int at_, .int rp, .ref rk, .ref rs, .ref kt, .ref kr, .int (nI tn), .int rg, .ref ab, .int am, .ref bh, .int bm, .int br, .int (nI rn), .ref wa, .ref ra])), (th, .inl (cI, 3, .inl ts)), (ri, .inl (cI, 3, .inl tl)), (kt, .inl (cI, 3, .inl u.1)), (kr, .inl (cI, 3, .inl u.2))] t.heap ∧ va_K D vwCl (tyL cI cO) t ∧ va_D A [(x, .inr (7, [.int fa, .int tr, .ref so, .ref sl, .ref ce, .int (nI n), .int bar, .int (nI tn), .ref ki, .ref si, .ref th, .ref ri, .int at_, .int rp, .ref rk, .ref rs, .ref kt, .ref kr, .int (nI tn), .int rg, .ref ab, .int am, .ref bh, .int bm, .int br, .int (nI rn), .ref wa, .ref ra])), (th, .inl (cI, 3, .inl ts)), (ri, .inl (cI, 3, .inl tl)), (kt, .inl (cI, 3, .inl u.1)), (kr, .inl (cI, 3, .inl u.2))]) A) ([.ref x]).toArray s 0 0 A) (F0 m 10 ls []) := by
    intro fu10
    induction fu10 with
    | zero =>
      intros; omega
    | succ fu10 ih10 =>
      intro i hi hm10 H locs hP hD hS ls hl
      refine lv_iload_n hx hb dX7_keep_10 rfl (lv_at hl 1 rfl) ?_
      refine lv_iconst (v := 3) hx hb dX7_keep_11 (by decide) ?_
      refine lv_icmp_ge (tgt := 45) hx hb dX7_keep_12 (by decide) (fun c12 => ?_) (fun c12 => ?_)
      · -- t12
        have e12 : i = 3 := by have q := ge_n (n := 3) (by omega) (by omega) c12; omega
        rw [e12] at hl
        rw [e12] at hP hD
        exact W.vret hx hb hr (fun t ht hW => ⟨⟨(cpF ts tk 3, cpF tl rq 3), rfl, by exact ⟨rfl, rfl⟩, by rw [ht]; exact hP, va_K.moved hW.alike hK, hD⟩, hS.F ht⟩) hS.2.2 dX7_keep_45
      · -- f12
        have l12 : i < 3 := lt_n (n := 3) (by omega) (by omega) c12
        refine lv_aload_n hx hb dX7_keep_15 rfl (lv_at hl 0 rfl) ?_
        refine va_get (D := D) (ci := 7) (v := .ref kt) (C := RX7) (T := TX7) (N := 28) hx hb hts iX7 hown hK hP 0 rfl rfl 16 (by decide) f37 (fun _ h9 => h9) rfl dX7_keep_16 ?_
        refine lv_iload_n hx hb dX7_keep_19 rfl (lv_at hl 1 rfl) ?_
        refine lv_aload_n hx hb dX7_keep_20 rfl (lv_at hl 0 rfl) ?_
        refine va_get (D := D) (ci := 7) (v := .ref th) (C := RX7) (T := TX7) (N := 28) hx hb hts iX7 hown hK hP 0 rfl rfl 10 (by decide) f25 (fun _ h9 => h9) rfl dX7_keep_21 ?_
        refine lv_iload_n hx hb dX7_keep_24 rfl (lv_at hl 1 rfl) ?_
        refine va_iald hx hb hK hP 1 0 rfl rfl (vp_in_nI (by omega) (by decide)) dX7_keep_25 ?_
        refine tp_i (y := ts i) (by rw [nI_clamp (n := i) (by omega)]) ?_
        refine va_iast hx hb hK hP hD hS 3 0 rfl rfl (vp_in_nI (by omega) (by decide)) dX7_keep_26 (fun H locs hP hD hS => ?_)
        rw [nI_clamp (n := i) (by omega)] at hP hD
        have hP : va_P D vwCl [(x, .inr (7, [.int fa, .int tr, .ref so, .ref sl, .ref ce, .int (nI n), .int bar, .int (nI tn), .ref ki, .ref si, .ref th, .ref ri, .int at_, .int rp, .ref rk, .ref rs, .ref kt, .ref kr, .int (nI tn), .int rg, .ref ab, .int am, .ref bh, .int bm, .int br, .int (nI rn), .ref wa, .ref ra])), (th, .inl (cI, 3, .inl ts)), (ri, .inl (cI, 3, .inl tl)), (kt, .inl (cI, 3, .inl (upd (cpF ts tk i) i (ts i)))), (kr, .inl (cI, 3, .inl (cpF tl rq i)))] H := hP
        have hD : va_D A [(x, .inr (7, [.int fa, .int tr, .ref so, .ref sl, .ref ce, .int (nI n), .int bar, .int (nI tn), .ref ki, .ref si, .ref th, .ref ri, .int at_, .int rp, .ref rk, .ref rs, .ref kt, .ref kr, .int (nI tn), .int rg, .ref ab, .int am, .ref bh, .int bm, .int br, .int (nI rn), .ref wa, .ref ra])), (th, .inl (cI, 3, .inl ts)), (ri, .inl (cI, 3, .inl tl)), (kt, .inl (cI, 3, .inl (upd (cpF ts tk i) i (ts i)))), (kr, .inl (cI, 3, .inl (cpF tl rq i)))] := hD
        refine lv_aload_n hx hb dX7_keep_27 rfl (lv_at hl 0 rfl) ?_
        refine va_get (D := D) (ci := 7) (v := .ref kr) (C := RX7) (T := TX7) (N := 28) hx hb hts iX7 hown hK hP 0 rfl rfl 17 (by decide) f40 (fun _ h9 => h9) rfl dX7_keep_28 ?_
        refine lv_iload_n hx hb dX7_keep_31 rfl (lv_at hl 1 rfl) ?_
        refine lv_aload_n hx hb dX7_keep_32 rfl (lv_at hl 0 rfl) ?_
        refine va_get (D := D) (ci := 7) (v := .ref ri) (C := RX7) (T := TX7) (N := 28) hx hb hts iX7 hown hK hP 0 rfl rfl 11 (by decide) f28 (fun _ h9 => h9) rfl dX7_keep_33 ?_
        refine lv_iload_n hx hb dX7_keep_36 rfl (lv_at hl 1 rfl) ?_
        refine va_iald hx hb hK hP 2 0 rfl rfl (vp_in_nI (by omega) (by decide)) dX7_keep_37 ?_
        refine tp_i (y := tl i) (by rw [nI_clamp (n := i) (by omega)]) ?_
        refine va_iast hx hb hK hP hD hS 4 0 rfl rfl (vp_in_nI (by omega) (by decide)) dX7_keep_38 (fun H locs hP hD hS => ?_)
        rw [nI_clamp (n := i) (by omega)] at hP hD
        have hP : va_P D vwCl [(x, .inr (7, [.int fa, .int tr, .ref so, .ref sl, .ref ce, .int (nI n), .int bar, .int (nI tn), .ref ki, .ref si, .ref th, .ref ri, .int at_, .int rp, .ref rk, .ref rs, .ref kt, .ref kr, .int (nI tn), .int rg, .ref ab, .int am, .ref bh, .int bm, .int br, .int (nI rn), .ref wa, .ref ra])), (th, .inl (cI, 3, .inl ts)), (ri, .inl (cI, 3, .inl tl)), (kt, .inl (cI, 3, .inl (upd (cpF ts tk i) i (ts i)))), (kr, .inl (cI, 3, .inl (upd (cpF tl rq i) i (tl i))))] H := hP
        have hD : va_D A [(x, .inr (7, [.int fa, .int tr, .ref so, .ref sl, .ref ce, .int (nI n), .int bar, .int (nI tn), .ref ki, .ref si, .ref th, .ref ri, .int at_, .int rp, .ref rk, .ref rs, .ref kt, .ref kr, .int (nI tn), .int rg, .ref ab, .int am, .ref bh, .int bm, .int br, .int (nI rn), .ref wa, .ref ra])), (th, .inl (cI, 3, .inl ts)), (ri, .inl (cI, 3, .inl tl)), (kt, .inl (cI, 3, .inl (upd (cpF ts tk i) i (ts i)))), (kr, .inl (cI, 3, .inl (upd (cpF tl rq i) i (tl i))))] := hD
        refine lv_iinc (v := nI (i + 1)) (lv' := [(1, .int (nI (i + 1))), (0, .ref x)]) hx hb dX7_keep_39 hl (k := 1) rfl (nI_1 _) (by decide) rfl (fun ls hl => ?_)
        refine lv_goto (tgt := 10) hx hb dX7_keep_42 (by decide) ?_
        have ew10_3_0 : (upd (cpF ts tk i) i (ts i)) = cpF ts tk (i + 1) := by exact cpF_s ts tk i
        have hP : va_P D vwCl [(x, .inr (7, [.int fa, .int tr, .ref so, .ref sl, .ref ce, .int (nI n), .int bar, .int (nI tn), .ref ki, .ref si, .ref th, .ref ri, .int at_, .int rp, .ref rk, .ref rs, .ref kt, .ref kr, .int (nI tn), .int rg, .ref ab, .int am, .ref bh, .int bm, .int br, .int (nI rn), .ref wa, .ref ra])), (th, .inl (cI, 3, .inl ts)), (ri, .inl (cI, 3, .inl tl)), (kt, .inl (cI, 3, .inl (cpF ts tk (i + 1)))), (kr, .inl (cI, 3, .inl (upd (cpF tl rq i) i (tl i))))] H := by rw [← ew10_3_0]; exact hP
        have hD : va_D A [(x, .inr (7, [.int fa, .int tr, .ref so, .ref sl, .ref ce, .int (nI n), .int bar, .int (nI tn), .ref ki, .ref si, .ref th, .ref ri, .int at_, .int rp, .ref rk, .ref rs, .ref kt, .ref kr, .int (nI tn), .int rg, .ref ab, .int am, .ref bh, .int bm, .int br, .int (nI rn), .ref wa, .ref ra])), (th, .inl (cI, 3, .inl ts)), (ri, .inl (cI, 3, .inl tl)), (kt, .inl (cI, 3, .inl (cpF ts tk (i + 1)))), (kr, .inl (cI, 3, .inl (upd (cpF tl rq i) i (tl i))))] := by rw [← ew10_3_0]; exact hD
        have ew10_4_0 : (upd (cpF tl rq i) i (tl i)) = cpF tl rq (i + 1) := by exact cpF_s tl rq i
        have hP : va_P D vwCl [(x, .inr (7, [.int fa, .int tr, .ref so, .ref sl, .ref ce, .int (nI n), .int bar, .int (nI tn), .ref ki, .ref si, .ref th, .ref ri, .int at_, .int rp, .ref rk, .ref rs, .ref kt, .ref kr, .int (nI tn), .int rg, .ref ab, .int am, .ref bh, .int bm, .int br, .int (nI rn), .ref wa, .ref ra])), (th, .inl (cI, 3, .inl ts)), (ri, .inl (cI, 3, .inl tl)), (kt, .inl (cI, 3, .inl (cpF ts tk (i + 1)))), (kr, .inl (cI, 3, .inl (cpF tl rq (i + 1))))] H := by rw [← ew10_4_0]; exact hP
        have hD : va_D A [(x, .inr (7, [.int fa, .int tr, .ref so, .ref sl, .ref ce, .int (nI n), .int bar, .int (nI tn), .ref ki, .ref si, .ref th, .ref ri, .int at_, .int rp, .ref rk, .ref rs, .ref kt, .ref kr, .int (nI tn), .int rg, .ref ab, .int am, .ref bh, .int bm, .int br, .int (nI rn), .ref wa, .ref ra])), (th, .inl (cI, 3, .inl ts)), (ri, .inl (cI, 3, .inl tl)), (kt, .inl (cI, 3, .inl (cpF ts tk (i + 1)))), (kr, .inl (cI, 3, .inl (cpF tl rq (i + 1))))] := by rw [← ew10_4_0]; exact hD
        exact ih10 (i + 1) (by omega) (by omega) _ _ hP hD hS _ (lv_sub hl [1, 0] rfl)
  have ew10_3_0 : tk = cpF ts tk 0 := by exact (cpF_0 ts tk).symm
  have hP : va_P D vwCl [(x, .inr (7, [.int fa, .int tr, .ref so, .ref sl, .ref ce, .int (nI n), .int bar, .int (nI tn), .ref ki, .ref si, .ref th, .ref ri, .int at_, .int rp, .ref rk, .ref rs, .ref kt, .ref kr, .int (nI tn), .int rg, .ref ab, .int am, .ref bh, .int bm, .int br, .int (nI rn), .ref wa, .ref ra])), (th, .inl (cI, 3, .inl ts)), (ri, .inl (cI, 3, .inl tl)), (kt, .inl (cI, 3, .inl (cpF ts tk 0))), (kr, .inl (cI, 3, .inl rq))] H := by rw [← ew10_3_0]; exact hP
  have hD : va_D A [(x, .inr (7, [.int fa, .int tr, .ref so, .ref sl, .ref ce, .int (nI n), .int bar, .int (nI tn), .ref ki, .ref si, .ref th, .ref ri, .int at_, .int rp, .ref rk, .ref rs, .ref kt, .ref kr, .int (nI tn), .int rg, .ref ab, .int am, .ref bh, .int bm, .int br, .int (nI rn), .ref wa, .ref ra])), (th, .inl (cI, 3, .inl ts)), (ri, .inl (cI, 3, .inl tl)), (kt, .inl (cI, 3, .inl (cpF ts tk 0))), (kr, .inl (cI, 3, .inl rq))] := by rw [← ew10_3_0]; exact hD
  have ew10_4_0 : rq = cpF tl rq 0 := by exact (cpF_0 tl rq).symm
  have hP : va_P D vwCl [(x, .inr (7, [.int fa, .int tr, .ref so, .ref sl, .ref ce, .int (nI n), .int bar, .int (nI tn), .ref ki, .ref si, .ref th, .ref ri, .int at_, .int rp, .ref rk, .ref rs, .ref kt, .ref kr, .int (nI tn), .int rg, .ref ab, .int am, .ref bh, .int bm, .int br, .int (nI rn), .ref wa, .ref ra])), (th, .inl (cI, 3, .inl ts)), (ri, .inl (cI, 3, .inl tl)), (kt, .inl (cI, 3, .inl (cpF ts tk 0))), (kr, .inl (cI, 3, .inl (cpF tl rq 0)))] H := by rw [← ew10_4_0]; exact hP
  have hD : va_D A [(x, .inr (7, [.int fa, .int tr, .ref so, .ref sl, .ref ce, .int (nI n), .int bar, .int (nI tn), .ref ki, .ref si, .ref th, .ref ri, .int at_, .int rp, .ref rk, .ref rs, .ref kt, .ref kr, .int (nI tn), .int rg, .ref ab, .int am, .ref bh, .int bm, .int br, .int (nI rn), .ref wa, .ref ra])), (th, .inl (cI, 3, .inl ts)), (ri, .inl (cI, 3, .inl tl)), (kt, .inl (cI, 3, .inl (cpF ts tk 0))), (kr, .inl (cI, 3, .inl (cpF tl rq 0)))] := by rw [← ew10_4_0]; exact hD
  exact lp10 _ 0 (Nat.zero_le _) (Nat.lt_succ_self _) _ _ hP hD hS _ (lv_sub hl [1, 0] rfl)

set_option maxHeartbeats 4000000 in
set_option maxRecDepth 100000 in
theorem c_X7_putBack (l : Launch) (D : va_G) (cI cO : ClassId) (x : Nat) (fa : Int32) (tr : Int32) (so : Nat) (sl : Nat) (ce : Nat) (n : Nat) (bar : Int32) (tn : Nat) (ki : Nat) (si : Nat) (th : Nat) (ri : Nat) (at_ : Int32) (rp : Int32) (rk : Nat) (rs : Nat) (kt : Nat) (kr : Nat) (rg : Int32) (ab : Nat) (am : Int32) (bh : Nat) (bm : Int32) (br : Int32) (rn : Nat) (wa : Nat) (ra : Nat) (un : Nat) (ts : Nat → Int32) (tl : Nat → Int32) (tk : Nat → Int32) (rq : Nat → Int32) (sz : Nat) : Met l yX7_putBack wsX7_putBack ({ frames := 0, cells := 0, slots := 0, locals := 0 } : Room) (va_Pc [.ref x] (wdW D cI cO [(x, .inr (7, [.int fa, .int tr, .ref so, .ref sl, .ref ce, .int (nI n), .int bar, .int (nI tn), .ref ki, .ref si, .ref th, .ref ri, .int at_, .int rp, .ref rk, .ref rs, .ref kt, .ref kr, .int (nI un), .int rg, .ref ab, .int am, .ref bh, .int bm, .int br, .int (nI rn), .ref wa, .ref ra])), (th, .inl (cI, 3, .inl ts)), (ri, .inl (cI, 3, .inl tl)), (kt, .inl (cI, 3, .inl tk)), (kr, .inl (cI, 3, .inl rq))] sz)) (va_Qv (S := (Nat → Int32) × (Nat → Int32)) (fun u => u.1 = (cpF tk ts 3) ∧ u.2 = (cpF rq tl 3)) (fun u t => va_P D vwCl [(x, .inr (7, [.int fa, .int tr, .ref so, .ref sl, .ref ce, .int (nI n), .int bar, .int (nI un), .ref ki, .ref si, .ref th, .ref ri, .int at_, .int rp, .ref rk, .ref rs, .ref kt, .ref kr, .int (nI un), .int rg, .ref ab, .int am, .ref bh, .int bm, .int br, .int (nI rn), .ref wa, .ref ra])), (th, .inl (cI, 3, .inl u.1)), (ri, .inl (cI, 3, .inl u.2)), (kt, .inl (cI, 3, .inl tk)), (kr, .inl (cI, 3, .inl rq))] t.heap ∧ va_K D vwCl (tyL cI cO) t ∧ va_D (va_A [(x, .inr (7, [.int fa, .int tr, .ref so, .ref sl, .ref ce, .int (nI n), .int bar, .int (nI tn), .ref ki, .ref si, .ref th, .ref ri, .int at_, .int rp, .ref rk, .ref rs, .ref kt, .ref kr, .int (nI un), .int rg, .ref ab, .int am, .ref bh, .int bm, .int br, .int (nI rn), .ref wa, .ref ra])), (th, .inl (cI, 3, .inl ts)), (ri, .inl (cI, 3, .inl tl)), (kt, .inl (cI, 3, .inl tk)), (kr, .inl (cI, 3, .inl rq))] sz) [(x, .inr (7, [.int fa, .int tr, .ref so, .ref sl, .ref ce, .int (nI n), .int bar, .int (nI un), .ref ki, .ref si, .ref th, .ref ri, .int at_, .int rp, .ref rk, .ref rs, .ref kt, .ref kr, .int (nI un), .int rg, .ref ab, .int am, .ref bh, .int bm, .int br, .int (nI rn), .ref wa, .ref ra])), (th, .inl (cI, 3, .inl u.1)), (ri, .inl (cI, 3, .inl u.2)), (kt, .inl (cI, 3, .inl tk)), (kr, .inl (cI, 3, .inl rq))]) (va_A [(x, .inr (7, [.int fa, .int tr, .ref so, .ref sl, .ref ce, .int (nI n), .int bar, .int (nI tn), .ref ki, .ref si, .ref th, .ref ri, .int at_, .int rp, .ref rk, .ref rs, .ref kt, .ref kr, .int (nI un), .int rg, .ref ab, .int am, .ref bh, .int bm, .int br, .int (nI rn), .ref wa, .ref ra])), (th, .inl (cI, 3, .inl ts)), (ri, .inl (cI, 3, .inl tl)), (kt, .inl (cI, 3, .inl tk)), (kr, .inl (cI, 3, .inl rq))] sz)) 0 0 (va_A [(x, .inr (7, [.int fa, .int tr, .ref so, .ref sl, .ref ce, .int (nI n), .int bar, .int (nI tn), .ref ki, .ref si, .ref th, .ref ri, .int at_, .int rp, .ref rk, .ref rs, .ref kt, .ref kr, .int (nI un), .int rg, .ref ab, .int am, .ref bh, .int bm, .int br, .int (nI rn), .ref wa, .ref ra])), (th, .inl (cI, 3, .inl ts)), (ri, .inl (cI, 3, .inl tl)), (kt, .inl (cI, 3, .inl tk)), (kr, .inl (cI, 3, .inl rq))] sz) := by
  refine Met.ofW (cc := cX7_putBack) (maxL := 2) (ret := none) (by decide) rfl ?_
  intro p e s m args below meth c s₁ B hml hv
  obtain ⟨rfl, hsz, hP, hK, hNw, hD0⟩ := hv
  have hx := B.exec
  have hb := B.bytes
  have hr := B.returns
  have hts := atoms_spec (ws := wsX7_putBack) B.pre
  have hown : s.vm.findClass RX7 = some m.cls := findClass_of_methodNamed B.named
  have hlocks := B.notSynchronized
  have f25 := hts (.fieldLink RX7 25 "StruckThreesModel" "three" "[I") (by decide +kernel)
  have f28 := hts (.fieldLink RX7 28 "StruckThreesModel" "rings" "[I") (by decide +kernel)
  have f37 := hts (.fieldLink RX7 37 "StruckThreesModel" "keptThree" "[I") (by decide +kernel)
  have f40 := hts (.fieldLink RX7 40 "StruckThreesModel" "keptRings" "[I") (by decide +kernel)
  have f68 := hts (.fieldLink RX7 68 "StruckThreesModel" "threes" "I") (by decide +kernel)
  have f155 := hts (.fieldLink RX7 155 "StruckThreesModel" "keptThrees" "I") (by decide +kernel)
  have iX7 : ∀ w ∈ wsX70, w ∈ wsX7_putBack := by decide +kernel
  subst hsz
  have hD := hD0.self (sz := s.heap.size)
  generalize hAe : va_A [(x, .inr (7, [.int fa, .int tr, .ref so, .ref sl, .ref ce, .int (nI n), .int bar, .int (nI tn), .ref ki, .ref si, .ref th, .ref ri, .int at_, .int rp, .ref rk, .ref rs, .ref kt, .ref kr, .int (nI un), .int rg, .ref ab, .int am, .ref bh, .int bm, .int br, .int (nI rn), .ref wa, .ref ra])), (th, .inl (cI, 3, .inl ts)), (ri, .inl (cI, 3, .inl tl)), (kt, .inl (cI, 3, .inl tk)), (kr, .inl (cI, 3, .inl rq))] s.heap.size = A at hD ⊢
  have hA : ∀ q : Nat, s.heap.size ≤ q → A q := fun q h => by rw [← hAe]; exact Or.inr h
  have hS : va_S A s.heap s.heap [] := va_S.rf
  have hP : va_P D vwCl [(x, .inr (7, [.int fa, .int tr, .ref so, .ref sl, .ref ce, .int (nI n), .int bar, .int (nI tn), .ref ki, .ref si, .ref th, .ref ri, .int at_, .int rp, .ref rk, .ref rs, .ref kt, .ref kr, .int (nI un), .int rg, .ref ab, .int am, .ref bh, .int bm, .int br, .int (nI rn), .ref wa, .ref ra])), (th, .inl (cI, 3, .inl ts)), (ri, .inl (cI, 3, .inl tl)), (kt, .inl (cI, 3, .inl tk)), (kr, .inl (cI, 3, .inl rq))] s.heap := hP
  have hl := lv_entry ([.ref x]) (n := 2) (Nat.le_of_ble_eq_true rfl)
  rw [lg_entry_eq]
  generalize (lg_sl ([.ref x]) ++ List.replicate (2 - (lg_sl ([.ref x])).length) Slot.unset).toArray = ls at hl ⊢
  have hl : lv_has ls 2 [(0, .ref x)] := hl
  refine lv_aload_n hx hb dX7_putBack_0 rfl (lv_at hl 0 rfl) ?_
  refine lv_aload_n hx hb dX7_putBack_1 rfl (lv_at hl 0 rfl) ?_
  refine va_get (D := D) (ci := 7) (v := .int (nI un)) (C := RX7) (T := TX7) (N := 28) hx hb hts iX7 hown hK hP 0 rfl rfl 18 (by decide) f155 (fun _ h9 => h9) rfl dX7_putBack_2 ?_
  refine va_put (D := D) (ci := 7) (v := .int (nI un)) (ty := .int) (C := RX7) (T := TX7) (N := 28) hx hb hts iX7 tyX7 tyX7_ok nmX7 hown hK hP hD hS 0 rfl rfl 7 (by decide) f68 (fun _ h9 => h9) rfl (by decide +kernel) rfl rfl (Nat.le_of_ble_eq_true rfl) dX7_putBack_5 (fun H locs hP hD hS => ?_)
  have hP : va_P D vwCl [(x, .inr (7, [.int fa, .int tr, .ref so, .ref sl, .ref ce, .int (nI n), .int bar, .int (nI un), .ref ki, .ref si, .ref th, .ref ri, .int at_, .int rp, .ref rk, .ref rs, .ref kt, .ref kr, .int (nI un), .int rg, .ref ab, .int am, .ref bh, .int bm, .int br, .int (nI rn), .ref wa, .ref ra])), (th, .inl (cI, 3, .inl ts)), (ri, .inl (cI, 3, .inl tl)), (kt, .inl (cI, 3, .inl tk)), (kr, .inl (cI, 3, .inl rq))] H := hP
  have hD : va_D A [(x, .inr (7, [.int fa, .int tr, .ref so, .ref sl, .ref ce, .int (nI n), .int bar, .int (nI un), .ref ki, .ref si, .ref th, .ref ri, .int at_, .int rp, .ref rk, .ref rs, .ref kt, .ref kr, .int (nI un), .int rg, .ref ab, .int am, .ref bh, .int bm, .int br, .int (nI rn), .ref wa, .ref ra])), (th, .inl (cI, 3, .inl ts)), (ri, .inl (cI, 3, .inl tl)), (kt, .inl (cI, 3, .inl tk)), (kr, .inl (cI, 3, .inl rq))] := hD
  refine lv_iconst (v := 0) hx hb dX7_putBack_8 (by decide) ?_
  refine lv_istore_n (lv' := [(1, .int 0), (0, .ref x)]) hx hb dX7_putBack_9 rfl hl (by decide) rfl (fun ls hl => ?_)
  have lp10 : ∀ (fu10 : Nat) (i : Nat) (hi : i ≤ 3) (hm10 : 3 - i < fu10) (H : Heap) (locs : List Loc) (hP : va_P D vwCl [(x, .inr (7, [.int fa, .int tr, .ref so, .ref sl, .ref ce, .int (nI n), .int bar, .int (nI un), .ref ki, .ref si, .ref th, .ref ri, .int at_, .int rp, .ref rk, .ref rs, .ref kt, .ref kr, .int (nI un), .int rg, .ref ab, .int am, .ref bh, .int bm, .int br, .int (nI rn), .ref wa, .ref ra])), (th, .inl (cI, 3, .inl (cpF tk ts i))), (ri, .inl (cI, 3, .inl (cpF rq tl i))), (kt, .inl (cI, 3, .inl tk)), (kr, .inl (cI, 3, .inl rq))] H) (hD : va_D A [(x, .inr (7, [.int fa, .int tr, .ref so, .ref sl, .ref ce, .int (nI n), .int bar, .int (nI un), .ref ki, .ref si, .ref th, .ref ri, .int at_, .int rp, .ref rk, .ref rs, .ref kt, .ref kr, .int (nI un), .int rg, .ref ab, .int am, .ref bh, .int bm, .int br, .int (nI rn), .ref wa, .ref ra])), (th, .inl (cI, 3, .inl (cpF tk ts i))), (ri, .inl (cI, 3, .inl (cpF rq tl i))), (kt, .inl (cI, 3, .inl tk)), (kr, .inl (cI, 3, .inl rq))]) (hS : va_S A s.heap H locs) (ls : Array Slot) (hl : lv_has ls 2 [(0, .ref x), (1, .int (nI i))]), W p l e (headSpec wsX7_putBack ({ frames := 0, cells := 0, slots := 0, locals := 0 } : Room)).room s m ([.ref x]).toArray below meth c H locs 0 0 (MQ below (va_Qv (S := (Nat → Int32) × (Nat → Int32)) (fun u => u.1 = (cpF tk ts 3) ∧ u.2 = (cpF rq tl 3)) (fun u t => va_P D vwCl [(x, .inr (7, [.int fa, .int tr, .ref so, .ref sl, .ref ce, .int (nI n), .int bar, .int (nI un), .ref ki, .ref si, .ref th, .ref ri, .int at_, .int rp, .ref rk, .ref rs, .ref kt, .ref kr, .int (nI un), .int rg, .ref ab, .int am, .ref bh, .int bm, .int br, .int (nI rn), .ref wa, .ref ra])), (th, .inl (cI, 3, .inl u.1)), (ri, .inl (cI, 3, .inl u.2)), (kt, .inl (cI, 3, .inl tk)), (kr, .inl (cI, 3, .inl rq))] t.heap ∧ va_K D vwCl (tyL cI cO) t ∧ va_D A [(x, .inr (7, [.int fa, .int tr, .ref so, .ref sl, .ref ce, .int (nI n), .int bar, .int (nI un), .ref ki, .ref si, .ref th, .ref ri, .int at_, .int rp, .ref rk, .ref rs, .ref kt, .ref kr, .int (nI un), .int rg, .ref ab, .int am, .ref bh, .int bm, .int br, .int (nI rn), .ref wa, .ref ra])), (th, .inl (cI, 3, .inl u.1)), (ri, .inl (cI, 3, .inl u.2)), (kt, .inl (cI, 3, .inl tk)), (kr, .inl (cI, 3, .inl rq))]) A) ([.ref x]).toArray s 0 0 A) (F0 m 10 ls []) := by
    intro fu10
    induction fu10 with
    | zero =>
      intros; omega
    | succ fu10 ih10 =>
      intro i hi hm10 H locs hP hD hS ls hl
      refine lv_iload_n hx hb dX7_putBack_10 rfl (lv_at hl 1 rfl) ?_
      refine lv_iconst (v := 3) hx hb dX7_putBack_11 (by decide) ?_
      refine lv_icmp_ge (tgt := 45) hx hb dX7_putBack_12 (by decide) (fun c12 => ?_) (fun c12 => ?_)
      · -- t12
        have e12 : i = 3 := by have q := ge_n (n := 3) (by omega) (by omega) c12; omega
        rw [e12] at hl
        rw [e12] at hP hD
        exact W.vret hx hb hr (fun t ht hW => ⟨⟨(cpF tk ts 3, cpF rq tl 3), rfl, by exact ⟨rfl, rfl⟩, by rw [ht]; exact hP, va_K.moved hW.alike hK, hD⟩, hS.F ht⟩) hS.2.2 dX7_putBack_45
      · -- f12
        have l12 : i < 3 := lt_n (n := 3) (by omega) (by omega) c12
        refine lv_aload_n hx hb dX7_putBack_15 rfl (lv_at hl 0 rfl) ?_
        refine va_get (D := D) (ci := 7) (v := .ref th) (C := RX7) (T := TX7) (N := 28) hx hb hts iX7 hown hK hP 0 rfl rfl 10 (by decide) f25 (fun _ h9 => h9) rfl dX7_putBack_16 ?_
        refine lv_iload_n hx hb dX7_putBack_19 rfl (lv_at hl 1 rfl) ?_
        refine lv_aload_n hx hb dX7_putBack_20 rfl (lv_at hl 0 rfl) ?_
        refine va_get (D := D) (ci := 7) (v := .ref kt) (C := RX7) (T := TX7) (N := 28) hx hb hts iX7 hown hK hP 0 rfl rfl 16 (by decide) f37 (fun _ h9 => h9) rfl dX7_putBack_21 ?_
        refine lv_iload_n hx hb dX7_putBack_24 rfl (lv_at hl 1 rfl) ?_
        refine va_iald hx hb hK hP 3 0 rfl rfl (vp_in_nI (by omega) (by decide)) dX7_putBack_25 ?_
        refine tp_i (y := tk i) (by rw [nI_clamp (n := i) (by omega)]) ?_
        refine va_iast hx hb hK hP hD hS 1 0 rfl rfl (vp_in_nI (by omega) (by decide)) dX7_putBack_26 (fun H locs hP hD hS => ?_)
        rw [nI_clamp (n := i) (by omega)] at hP hD
        have hP : va_P D vwCl [(x, .inr (7, [.int fa, .int tr, .ref so, .ref sl, .ref ce, .int (nI n), .int bar, .int (nI un), .ref ki, .ref si, .ref th, .ref ri, .int at_, .int rp, .ref rk, .ref rs, .ref kt, .ref kr, .int (nI un), .int rg, .ref ab, .int am, .ref bh, .int bm, .int br, .int (nI rn), .ref wa, .ref ra])), (th, .inl (cI, 3, .inl (upd (cpF tk ts i) i (tk i)))), (ri, .inl (cI, 3, .inl (cpF rq tl i))), (kt, .inl (cI, 3, .inl tk)), (kr, .inl (cI, 3, .inl rq))] H := hP
        have hD : va_D A [(x, .inr (7, [.int fa, .int tr, .ref so, .ref sl, .ref ce, .int (nI n), .int bar, .int (nI un), .ref ki, .ref si, .ref th, .ref ri, .int at_, .int rp, .ref rk, .ref rs, .ref kt, .ref kr, .int (nI un), .int rg, .ref ab, .int am, .ref bh, .int bm, .int br, .int (nI rn), .ref wa, .ref ra])), (th, .inl (cI, 3, .inl (upd (cpF tk ts i) i (tk i)))), (ri, .inl (cI, 3, .inl (cpF rq tl i))), (kt, .inl (cI, 3, .inl tk)), (kr, .inl (cI, 3, .inl rq))] := hD
        refine lv_aload_n hx hb dX7_putBack_27 rfl (lv_at hl 0 rfl) ?_
        refine va_get (D := D) (ci := 7) (v := .ref ri) (C := RX7) (T := TX7) (N := 28) hx hb hts iX7 hown hK hP 0 rfl rfl 11 (by decide) f28 (fun _ h9 => h9) rfl dX7_putBack_28 ?_
        refine lv_iload_n hx hb dX7_putBack_31 rfl (lv_at hl 1 rfl) ?_
        refine lv_aload_n hx hb dX7_putBack_32 rfl (lv_at hl 0 rfl) ?_
        refine va_get (D := D) (ci := 7) (v := .ref kr) (C := RX7) (T := TX7) (N := 28) hx hb hts iX7 hown hK hP 0 rfl rfl 17 (by decide) f40 (fun _ h9 => h9) rfl dX7_putBack_33 ?_
        refine lv_iload_n hx hb dX7_putBack_36 rfl (lv_at hl 1 rfl) ?_
        refine va_iald hx hb hK hP 4 0 rfl rfl (vp_in_nI (by omega) (by decide)) dX7_putBack_37 ?_
        refine tp_i (y := rq i) (by rw [nI_clamp (n := i) (by omega)]) ?_
        refine va_iast hx hb hK hP hD hS 2 0 rfl rfl (vp_in_nI (by omega) (by decide)) dX7_putBack_38 (fun H locs hP hD hS => ?_)
        rw [nI_clamp (n := i) (by omega)] at hP hD
        have hP : va_P D vwCl [(x, .inr (7, [.int fa, .int tr, .ref so, .ref sl, .ref ce, .int (nI n), .int bar, .int (nI un), .ref ki, .ref si, .ref th, .ref ri, .int at_, .int rp, .ref rk, .ref rs, .ref kt, .ref kr, .int (nI un), .int rg, .ref ab, .int am, .ref bh, .int bm, .int br, .int (nI rn), .ref wa, .ref ra])), (th, .inl (cI, 3, .inl (upd (cpF tk ts i) i (tk i)))), (ri, .inl (cI, 3, .inl (upd (cpF rq tl i) i (rq i)))), (kt, .inl (cI, 3, .inl tk)), (kr, .inl (cI, 3, .inl rq))] H := hP
        have hD : va_D A [(x, .inr (7, [.int fa, .int tr, .ref so, .ref sl, .ref ce, .int (nI n), .int bar, .int (nI un), .ref ki, .ref si, .ref th, .ref ri, .int at_, .int rp, .ref rk, .ref rs, .ref kt, .ref kr, .int (nI un), .int rg, .ref ab, .int am, .ref bh, .int bm, .int br, .int (nI rn), .ref wa, .ref ra])), (th, .inl (cI, 3, .inl (upd (cpF tk ts i) i (tk i)))), (ri, .inl (cI, 3, .inl (upd (cpF rq tl i) i (rq i)))), (kt, .inl (cI, 3, .inl tk)), (kr, .inl (cI, 3, .inl rq))] := hD
        refine lv_iinc (v := nI (i + 1)) (lv' := [(1, .int (nI (i + 1))), (0, .ref x)]) hx hb dX7_putBack_39 hl (k := 1) rfl (nI_1 _) (by decide) rfl (fun ls hl => ?_)
        refine lv_goto (tgt := 10) hx hb dX7_putBack_42 (by decide) ?_
        have ew10_1_0 : (upd (cpF tk ts i) i (tk i)) = cpF tk ts (i + 1) := by exact cpF_s tk ts i
        have hP : va_P D vwCl [(x, .inr (7, [.int fa, .int tr, .ref so, .ref sl, .ref ce, .int (nI n), .int bar, .int (nI un), .ref ki, .ref si, .ref th, .ref ri, .int at_, .int rp, .ref rk, .ref rs, .ref kt, .ref kr, .int (nI un), .int rg, .ref ab, .int am, .ref bh, .int bm, .int br, .int (nI rn), .ref wa, .ref ra])), (th, .inl (cI, 3, .inl (cpF tk ts (i + 1)))), (ri, .inl (cI, 3, .inl (upd (cpF rq tl i) i (rq i)))), (kt, .inl (cI, 3, .inl tk)), (kr, .inl (cI, 3, .inl rq))] H := by rw [← ew10_1_0]; exact hP
        have hD : va_D A [(x, .inr (7, [.int fa, .int tr, .ref so, .ref sl, .ref ce, .int (nI n), .int bar, .int (nI un), .ref ki, .ref si, .ref th, .ref ri, .int at_, .int rp, .ref rk, .ref rs, .ref kt, .ref kr, .int (nI un), .int rg, .ref ab, .int am, .ref bh, .int bm, .int br, .int (nI rn), .ref wa, .ref ra])), (th, .inl (cI, 3, .inl (cpF tk ts (i + 1)))), (ri, .inl (cI, 3, .inl (upd (cpF rq tl i) i (rq i)))), (kt, .inl (cI, 3, .inl tk)), (kr, .inl (cI, 3, .inl rq))] := by rw [← ew10_1_0]; exact hD
        have ew10_2_0 : (upd (cpF rq tl i) i (rq i)) = cpF rq tl (i + 1) := by exact cpF_s rq tl i
        have hP : va_P D vwCl [(x, .inr (7, [.int fa, .int tr, .ref so, .ref sl, .ref ce, .int (nI n), .int bar, .int (nI un), .ref ki, .ref si, .ref th, .ref ri, .int at_, .int rp, .ref rk, .ref rs, .ref kt, .ref kr, .int (nI un), .int rg, .ref ab, .int am, .ref bh, .int bm, .int br, .int (nI rn), .ref wa, .ref ra])), (th, .inl (cI, 3, .inl (cpF tk ts (i + 1)))), (ri, .inl (cI, 3, .inl (cpF rq tl (i + 1)))), (kt, .inl (cI, 3, .inl tk)), (kr, .inl (cI, 3, .inl rq))] H := by rw [← ew10_2_0]; exact hP
        have hD : va_D A [(x, .inr (7, [.int fa, .int tr, .ref so, .ref sl, .ref ce, .int (nI n), .int bar, .int (nI un), .ref ki, .ref si, .ref th, .ref ri, .int at_, .int rp, .ref rk, .ref rs, .ref kt, .ref kr, .int (nI un), .int rg, .ref ab, .int am, .ref bh, .int bm, .int br, .int (nI rn), .ref wa, .ref ra])), (th, .inl (cI, 3, .inl (cpF tk ts (i + 1)))), (ri, .inl (cI, 3, .inl (cpF rq tl (i + 1)))), (kt, .inl (cI, 3, .inl tk)), (kr, .inl (cI, 3, .inl rq))] := by rw [← ew10_2_0]; exact hD
        exact ih10 (i + 1) (by omega) (by omega) _ _ hP hD hS _ (lv_sub hl [1, 0] rfl)
  have ew10_1_0 : ts = cpF tk ts 0 := by exact (cpF_0 tk ts).symm
  have hP : va_P D vwCl [(x, .inr (7, [.int fa, .int tr, .ref so, .ref sl, .ref ce, .int (nI n), .int bar, .int (nI un), .ref ki, .ref si, .ref th, .ref ri, .int at_, .int rp, .ref rk, .ref rs, .ref kt, .ref kr, .int (nI un), .int rg, .ref ab, .int am, .ref bh, .int bm, .int br, .int (nI rn), .ref wa, .ref ra])), (th, .inl (cI, 3, .inl (cpF tk ts 0))), (ri, .inl (cI, 3, .inl tl)), (kt, .inl (cI, 3, .inl tk)), (kr, .inl (cI, 3, .inl rq))] H := by rw [← ew10_1_0]; exact hP
  have hD : va_D A [(x, .inr (7, [.int fa, .int tr, .ref so, .ref sl, .ref ce, .int (nI n), .int bar, .int (nI un), .ref ki, .ref si, .ref th, .ref ri, .int at_, .int rp, .ref rk, .ref rs, .ref kt, .ref kr, .int (nI un), .int rg, .ref ab, .int am, .ref bh, .int bm, .int br, .int (nI rn), .ref wa, .ref ra])), (th, .inl (cI, 3, .inl (cpF tk ts 0))), (ri, .inl (cI, 3, .inl tl)), (kt, .inl (cI, 3, .inl tk)), (kr, .inl (cI, 3, .inl rq))] := by rw [← ew10_1_0]; exact hD
  have ew10_2_0 : tl = cpF rq tl 0 := by exact (cpF_0 rq tl).symm
  have hP : va_P D vwCl [(x, .inr (7, [.int fa, .int tr, .ref so, .ref sl, .ref ce, .int (nI n), .int bar, .int (nI un), .ref ki, .ref si, .ref th, .ref ri, .int at_, .int rp, .ref rk, .ref rs, .ref kt, .ref kr, .int (nI un), .int rg, .ref ab, .int am, .ref bh, .int bm, .int br, .int (nI rn), .ref wa, .ref ra])), (th, .inl (cI, 3, .inl (cpF tk ts 0))), (ri, .inl (cI, 3, .inl (cpF rq tl 0))), (kt, .inl (cI, 3, .inl tk)), (kr, .inl (cI, 3, .inl rq))] H := by rw [← ew10_2_0]; exact hP
  have hD : va_D A [(x, .inr (7, [.int fa, .int tr, .ref so, .ref sl, .ref ce, .int (nI n), .int bar, .int (nI un), .ref ki, .ref si, .ref th, .ref ri, .int at_, .int rp, .ref rk, .ref rs, .ref kt, .ref kr, .int (nI un), .int rg, .ref ab, .int am, .ref bh, .int bm, .int br, .int (nI rn), .ref wa, .ref ra])), (th, .inl (cI, 3, .inl (cpF tk ts 0))), (ri, .inl (cI, 3, .inl (cpF rq tl 0))), (kt, .inl (cI, 3, .inl tk)), (kr, .inl (cI, 3, .inl rq))] := by rw [← ew10_2_0]; exact hD
  exact lp10 _ 0 (Nat.zero_le _) (Nat.lt_succ_self _) _ _ hP hD hS _ (lv_sub hl [1, 0] rfl)

set_option maxHeartbeats 4000000 in
set_option maxRecDepth 100000 in
theorem c_X7_does (l : Launch) (D : va_G) (cI cO : ClassId) (x : Nat) (fa : Int32) (tr : Int32) (so : Nat) (sl : Nat) (ce : Nat) (n : Nat) (bar : Int32) (tn : Nat) (ki : Nat) (si : Nat) (th : Nat) (ri : Nat) (at_ : Int32) (rp : Int32) (rk : Nat) (rs : Nat) (kt : Nat) (kr : Nat) (kn : Int32) (rg : Int32) (ab : Nat) (am : Int32) (bh : Nat) (bm : Int32) (br : Int32) (rn : Nat) (wa : Nat) (ra : Nat) (kd : Nat → Int32) (sd : Nat → Int32) (ts : Nat → Int32) (tl : Nat → Int32) (a : Nat) (act : Int32) (sz : Nat) (hn : n ≤ 9) (hk3 : ∀ j, j < n → kd j = 0 ∨ kd j = 1 ∨ kd j = 2) (ht3 : tn ≤ 3) (hnn : nnT tl tn) (ha9 : a ≤ 9) (hact : act = 0 ∨ act = 1 ∨ act = 2 ∨ act = 3) : Met l yX7_does wsX7_does ({ frames := 2, cells := 0, slots := 0, locals := 44 } : Room) (va_Pc [.ref x, .int (nI a), .int act] (wdW D cI cO [(x, .inr (7, [.int fa, .int tr, .ref so, .ref sl, .ref ce, .int (nI n), .int bar, .int (nI tn), .ref ki, .ref si, .ref th, .ref ri, .int at_, .int rp, .ref rk, .ref rs, .ref kt, .ref kr, .int kn, .int rg, .ref ab, .int am, .ref bh, .int bm, .int br, .int (nI rn), .ref wa, .ref ra])), (ki, .inl (cI, 9, .inl kd)), (si, .inl (cI, 9, .inl sd)), (th, .inl (cI, 3, .inl ts)), (ri, .inl (cI, 3, .inl tl))] sz)) (va_Qi (S := Nat × (Nat → Int32) × (Nat → Int32) × Int32) (fun r u => ((canB tn tl a act = true) → r = 1 ∧ u.1 = (pfm n kd sd a act (tn, ts, tl, rg)).1 ∧ u.2.1 = (pfm n kd sd a act (tn, ts, tl, rg)).2.1 ∧ u.2.2.1 = (pfm n kd sd a act (tn, ts, tl, rg)).2.2.1 ∧ u.2.2.2 = (pfm n kd sd a act (tn, ts, tl, rg)).2.2.2) ∧ (¬ (canB tn tl a act = true) → r = 0 ∧ u.1 = tn ∧ u.2.1 = ts ∧ u.2.2.1 = tl ∧ u.2.2.2 = rg)) (fun u t => va_P D vwCl [(x, .inr (7, [.int fa, .int tr, .ref so, .ref sl, .ref ce, .int (nI n), .int bar, .int (nI u.1), .ref ki, .ref si, .ref th, .ref ri, .int at_, .int rp, .ref rk, .ref rs, .ref kt, .ref kr, .int kn, .int u.2.2.2, .ref ab, .int am, .ref bh, .int bm, .int br, .int (nI rn), .ref wa, .ref ra])), (ki, .inl (cI, 9, .inl kd)), (si, .inl (cI, 9, .inl sd)), (th, .inl (cI, 3, .inl u.2.1)), (ri, .inl (cI, 3, .inl u.2.2.1))] t.heap ∧ va_K D vwCl (tyL cI cO) t ∧ va_D (va_A [(x, .inr (7, [.int fa, .int tr, .ref so, .ref sl, .ref ce, .int (nI n), .int bar, .int (nI tn), .ref ki, .ref si, .ref th, .ref ri, .int at_, .int rp, .ref rk, .ref rs, .ref kt, .ref kr, .int kn, .int rg, .ref ab, .int am, .ref bh, .int bm, .int br, .int (nI rn), .ref wa, .ref ra])), (ki, .inl (cI, 9, .inl kd)), (si, .inl (cI, 9, .inl sd)), (th, .inl (cI, 3, .inl ts)), (ri, .inl (cI, 3, .inl tl))] sz) [(x, .inr (7, [.int fa, .int tr, .ref so, .ref sl, .ref ce, .int (nI n), .int bar, .int (nI u.1), .ref ki, .ref si, .ref th, .ref ri, .int at_, .int rp, .ref rk, .ref rs, .ref kt, .ref kr, .int kn, .int u.2.2.2, .ref ab, .int am, .ref bh, .int bm, .int br, .int (nI rn), .ref wa, .ref ra])), (ki, .inl (cI, 9, .inl kd)), (si, .inl (cI, 9, .inl sd)), (th, .inl (cI, 3, .inl u.2.1)), (ri, .inl (cI, 3, .inl u.2.2.1))]) (va_A [(x, .inr (7, [.int fa, .int tr, .ref so, .ref sl, .ref ce, .int (nI n), .int bar, .int (nI tn), .ref ki, .ref si, .ref th, .ref ri, .int at_, .int rp, .ref rk, .ref rs, .ref kt, .ref kr, .int kn, .int rg, .ref ab, .int am, .ref bh, .int bm, .int br, .int (nI rn), .ref wa, .ref ra])), (ki, .inl (cI, 9, .inl kd)), (si, .inl (cI, 9, .inl sd)), (th, .inl (cI, 3, .inl ts)), (ri, .inl (cI, 3, .inl tl))] sz)) 0 0 (va_A [(x, .inr (7, [.int fa, .int tr, .ref so, .ref sl, .ref ce, .int (nI n), .int bar, .int (nI tn), .ref ki, .ref si, .ref th, .ref ri, .int at_, .int rp, .ref rk, .ref rs, .ref kt, .ref kr, .int kn, .int rg, .ref ab, .int am, .ref bh, .int bm, .int br, .int (nI rn), .ref wa, .ref ra])), (ki, .inl (cI, 9, .inl kd)), (si, .inl (cI, 9, .inl sd)), (th, .inl (cI, 3, .inl ts)), (ri, .inl (cI, 3, .inl tl))] sz) := by
  refine Met.ofW (cc := cX7_does) (maxL := 4) (ret := (some .boolean)) (by decide) rfl ?_
  intro p e s m args below meth c s₁ B hml hv
  obtain ⟨rfl, hsz, hP, hK, hNw, hD0⟩ := hv
  have hx := B.exec
  have hb := B.bytes
  have hr := B.returns
  have hts := atoms_spec (ws := wsX7_does) B.pre
  have hown : s.vm.findClass RX7 = some m.cls := findClass_of_methodNamed B.named
  have hlocks := B.notSynchronized
  have f25 := hts (.fieldLink RX7 25 "StruckThreesModel" "three" "[I") (by decide +kernel)
  have f28 := hts (.fieldLink RX7 28 "StruckThreesModel" "rings" "[I") (by decide +kernel)
  have f158 := hts (.fieldLink RX7 158 "StruckThreesModel" "rang" "I") (by decide +kernel)
  have iX7 : ∀ w ∈ wsX70, w ∈ wsX7_does := by decide +kernel
  subst hsz
  have hD := hD0.self (sz := s.heap.size)
  generalize hAe : va_A [(x, .inr (7, [.int fa, .int tr, .ref so, .ref sl, .ref ce, .int (nI n), .int bar, .int (nI tn), .ref ki, .ref si, .ref th, .ref ri, .int at_, .int rp, .ref rk, .ref rs, .ref kt, .ref kr, .int kn, .int rg, .ref ab, .int am, .ref bh, .int bm, .int br, .int (nI rn), .ref wa, .ref ra])), (ki, .inl (cI, 9, .inl kd)), (si, .inl (cI, 9, .inl sd)), (th, .inl (cI, 3, .inl ts)), (ri, .inl (cI, 3, .inl tl))] s.heap.size = A at hD ⊢
  have hA : ∀ q : Nat, s.heap.size ≤ q → A q := fun q h => by rw [← hAe]; exact Or.inr h
  have hS : va_S A s.heap s.heap [] := va_S.rf
  have hP : va_P D vwCl [(x, .inr (7, [.int fa, .int tr, .ref so, .ref sl, .ref ce, .int (nI n), .int bar, .int (nI tn), .ref ki, .ref si, .ref th, .ref ri, .int at_, .int rp, .ref rk, .ref rs, .ref kt, .ref kr, .int kn, .int rg, .ref ab, .int am, .ref bh, .int bm, .int br, .int (nI rn), .ref wa, .ref ra])), (ki, .inl (cI, 9, .inl kd)), (si, .inl (cI, 9, .inl sd)), (th, .inl (cI, 3, .inl ts)), (ri, .inl (cI, 3, .inl tl))] s.heap := hP
  have hl := lv_entry ([.ref x, .int (nI a), .int act]) (n := 4) (Nat.le_of_ble_eq_true rfl)
  rw [lg_entry_eq]
  generalize (lg_sl ([.ref x, .int (nI a), .int act]) ++ List.replicate (4 - (lg_sl ([.ref x, .int (nI a), .int act])).length) Slot.unset).toArray = ls at hl ⊢
  have hl : lv_has ls 4 [(0, .ref x), (1, .int (nI a)), (2, .int act)] := hl
  refine lv_iload_n hx hb dX7_does_0 rfl (lv_at hl 2 rfl) ?_
  refine lv_iconst (v := 2) hx hb dX7_does_1 (by decide) ?_
  refine lv_icmp_ne (tgt := 45) hx hb dX7_does_2 (by decide) (fun c2 => ?_) (fun c2 => ?_)
  · -- t2
    refine lv_aload_n hx hb dX7_does_45 rfl (lv_at hl 0 rfl) ?_
    refine lv_iload_n hx hb dX7_does_46 rfl (lv_at hl 1 rfl) ?_
    have hPc := hP.sub (ws' := [(x, .inr (7, [.int fa, .int tr, .ref so, .ref sl, .ref ce, .int (nI n), .int bar, .int (nI tn), .ref ki, .ref si, .ref th, .ref ri, .int at_, .int rp, .ref rk, .ref rs, .ref kt, .ref kr, .int kn, .int rg, .ref ab, .int am, .ref bh, .int bm, .int br, .int (nI rn), .ref wa, .ref ra]))]) [0] rfl
    refine vp_callSi (va_Run.run (va_runV (As := [.int (nI a)]) (rest := []) ⟨hx, hb, hml, hown, hts⟩ (c_X7_isThree l D cI cO x fa tr so sl ce n bar tn ki si th ri at_ rp rk rs kt kr kn rg ab am bh bm br rn wa ra (nI a)) (cwV 1 hts gX7_does_X7_isThree rfl rfl rfl (by decide +kernel) ⟨Nat.le_of_ble_eq_true rfl, Nat.le_of_ble_eq_true rfl⟩) (preVR hPc hK hNw (va_recv hK hPc (ci := 7) (q0 := 0) rfl rfl)) rfl rfl hl.1 rfl (lv_room (Nat.le_of_ble_eq_true rfl)) dX7_does_47 ⟨Nat.zero_le _, Nat.zero_le _⟩)) (fun r47 w47 => ?_)
    by_cases b47 : ¬ (nI a) < 0 ∧ ¬ nI tn ≤ (nI a)
    · -- y47
      obtain rfl := w47.1 b47
      have hat : a < tn := lt_n (by omega) (by omega) b47.2
      refine lv_if_eq (tgt := 80) hx hb dX7_does_50 (by decide) (fun h => absurd h (by decide)) (fun _ => ?_)
      refine lv_iload_n hx hb dX7_does_53 rfl (lv_at hl 2 rfl) ?_
      refine lv_if_ne (tgt := 66) hx hb dX7_does_54 (by decide) (fun c54 => ?_) (fun c54 => ?_)
      · -- t54
        refine lv_iload_n hx hb dX7_does_66 rfl (lv_at hl 2 rfl) ?_
        refine lv_iconst (v := 1) hx hb dX7_does_67 (by decide) ?_
        refine lv_icmp_ne (tgt := 82) hx hb dX7_does_68 (by decide) (fun c68 => ?_) (fun c68 => ?_)
        · -- t68
          refine lv_iload_n hx hb dX7_does_82 rfl (lv_at hl 2 rfl) ?_
          refine lv_iconst (v := 3) hx hb dX7_does_83 (by decide) ?_
          refine lv_icmp_ne (tgt := 95) hx hb dX7_does_84 (by decide) (fun c84 => ?_) (fun c84 => ?_)
          · -- t84
            refine lv_aload_n hx hb dX7_does_95 rfl (lv_at hl 0 rfl) ?_
            refine va_get (D := D) (ci := 7) (v := .ref ri) (C := RX7) (T := TX7) (N := 28) hx hb hts iX7 hown hK hP 0 rfl rfl 11 (by decide) f28 (fun _ h9 => h9) rfl dX7_does_96 ?_
            refine lv_iload_n hx hb dX7_does_99 rfl (lv_at hl 1 rfl) ?_
            refine lv_iload_n hx hb dX7_does_100 rfl (lv_at hl 2 rfl) ?_
            refine lv_if_ne (tgt := 117) hx hb dX7_does_101 (by decide) (fun c101 => ?_) (fun c101 => ?_)
            · -- t101
              rcases hact with q | q | q | q <;> first | exact absurd q c54 | exact absurd q c68 | exact absurd q c2 | exact absurd q c84
            · -- f101
              exact absurd c101 c54
          · -- f84
            have hcb : canB tn tl a act = true := by rw [c84]; simp [canB]; exact hat
            refine lv_aload_n hx hb dX7_does_87 rfl (lv_at hl 0 rfl) ?_
            refine lv_iload_n hx hb dX7_does_88 rfl (lv_at hl 1 rfl) ?_
            have hPc := hP.sub (ws' := [(x, .inr (7, [.int fa, .int tr, .ref so, .ref sl, .ref ce, .int (nI n), .int bar, .int (nI tn), .ref ki, .ref si, .ref th, .ref ri, .int at_, .int rp, .ref rk, .ref rs, .ref kt, .ref kr, .int kn, .int rg, .ref ab, .int am, .ref bh, .int bm, .int br, .int (nI rn), .ref wa, .ref ra])), (th, .inl (cI, 3, .inl ts)), (ri, .inl (cI, 3, .inl tl))]) [0, 3, 4] rfl
            have hDc := hD.sub (ws' := [(x, .inr (7, [.int fa, .int tr, .ref so, .ref sl, .ref ce, .int (nI n), .int bar, .int (nI tn), .ref ki, .ref si, .ref th, .ref ri, .int at_, .int rp, .ref rk, .ref rs, .ref kt, .ref kr, .int kn, .int rg, .ref ab, .int am, .ref bh, .int bm, .int br, .int (nI rn), .ref wa, .ref ra])), (th, .inl (cI, 3, .inl ts)), (ri, .inl (cI, 3, .inl tl))]) [0, 3, 4] (by decide) rfl
            have hFc := va_free (wc := [(x, .inr (7, [.int fa, .int tr, .ref so, .ref sl, .ref ce, .int (nI n), .int bar, .int (nI tn), .ref ki, .ref si, .ref th, .ref ri, .int at_, .int rp, .ref rk, .ref rs, .ref kt, .ref kr, .int kn, .int rg, .ref ab, .int am, .ref bh, .int bm, .int br, .int (nI rn), .ref wa, .ref ra])), (th, .inl (cI, 3, .inl ts)), (ri, .inl (cI, 3, .inl tl))]) hD hS hA [0, 3, 4] rfl
            refine va_callv (va_runV (As := [.int (nI a)]) (rest := []) ⟨hx, hb, hml, hown, hts⟩ (c_X7_takeDown l D cI cO x fa tr so sl ce n bar tn ki si th ri at_ rp rk rs kt kr kn rg ab am bh bm br rn wa ra ts tl a _ (by assumption) (by assumption)) (cwV 1 hts gX7_does_X7_takeDown rfl rfl rfl (by decide +kernel) ⟨Nat.le_of_ble_eq_true rfl, Nat.le_of_ble_eq_true rfl⟩) (preVW hPc hK hNw hDc (va_recv hK hPc (ci := 7) (q0 := 0) rfl rfl)) rfl rfl hl.1 rfl (lv_room (Nat.le_of_ble_eq_true rfl)) dX7_does_89 ⟨Nat.zero_le _, Nat.zero_le _⟩) hS (fun q _ h => hFc q h) hFc (fun u t H1 locs ht hvm w89 hB hz1 hk1 hS => ?_)
            obtain ⟨ts1_89, tl1_89⟩ := u
            obtain ⟨hP1, hK1, hD1⟩ := hB
            rw [ht] at hP1
            try dsimp only at w89
            obtain ⟨hP, hD⟩ := va_join (wr := [(ki, .inl (cI, 9, .inl kd)), (si, .inl (cI, 9, .inl sd))]) (w1 := [(x, .inr (7, [.int fa, .int tr, .ref so, .ref sl, .ref ce, .int (nI n), .int bar, .int (nI (tn - 1)), .ref ki, .ref si, .ref th, .ref ri, .int at_, .int rp, .ref rk, .ref rs, .ref kt, .ref kr, .int kn, .int rg, .ref ab, .int am, .ref bh, .int bm, .int br, .int (nI rn), .ref wa, .ref ra])), (th, .inl (cI, 3, .inl ts1_89)), (ri, .inl (cI, 3, .inl tl1_89))]) hP hD [0, 3, 4] [1, 2] rfl rfl (by decide) (by decide) hk1 hFc hP1 hD1
            generalize H1 = H at hP hS ⊢
            have hP := hP.sub (ws' := [(x, .inr (7, [.int fa, .int tr, .ref so, .ref sl, .ref ce, .int (nI n), .int bar, .int (nI (tn - 1)), .ref ki, .ref si, .ref th, .ref ri, .int at_, .int rp, .ref rk, .ref rs, .ref kt, .ref kr, .int kn, .int rg, .ref ab, .int am, .ref bh, .int bm, .int br, .int (nI rn), .ref wa, .ref ra])), (ki, .inl (cI, 9, .inl kd)), (si, .inl (cI, 9, .inl sd)), (th, .inl (cI, 3, .inl ts1_89)), (ri, .inl (cI, 3, .inl tl1_89))]) [2, 0, 1, 3, 4] rfl
            have hD := hD.sub (ws' := [(x, .inr (7, [.int fa, .int tr, .ref so, .ref sl, .ref ce, .int (nI n), .int bar, .int (nI (tn - 1)), .ref ki, .ref si, .ref th, .ref ri, .int at_, .int rp, .ref rk, .ref rs, .ref kt, .ref kr, .int kn, .int rg, .ref ab, .int am, .ref bh, .int bm, .int br, .int (nI rn), .ref wa, .ref ra])), (ki, .inl (cI, 9, .inl kd)), (si, .inl (cI, 9, .inl sd)), (th, .inl (cI, 3, .inl ts1_89)), (ri, .inl (cI, 3, .inl tl1_89))]) [2, 0, 1, 3, 4] (by decide) rfl
            obtain ⟨rfl, rfl⟩ := w89
            refine lv_goto (tgt := 119) hx hb dX7_does_92 (by decide) ?_
            refine lv_iconst (v := 1) hx hb dX7_does_119 (by decide) ?_
            exact W.zret (v := 1) (ty := .boolean) hx hb hr rfl (fun t ht hW => ⟨⟨_, ((tn - 1), (shF ts a tn), (shF tl a tn), rg), rfl, by exact ⟨fun _ => by rw [c84]; exact ⟨rfl, rfl, rfl, rfl, rfl⟩, fun q => absurd hcb q⟩, by rw [ht]; exact hP, va_K.moved hW.alike hK, hD⟩, hS.F ht⟩) hS.2.2 dX7_does_120
        · -- f68
          refine lv_aload_n hx hb dX7_does_71 rfl (lv_at hl 0 rfl) ?_
          refine va_get (D := D) (ci := 7) (v := .ref ri) (C := RX7) (T := TX7) (N := 28) hx hb hts iX7 hown hK hP 0 rfl rfl 11 (by decide) f28 (fun _ h9 => h9) rfl dX7_does_72 ?_
          refine lv_iload_n hx hb dX7_does_75 rfl (lv_at hl 1 rfl) ?_
          refine va_iald hx hb hK hP 4 0 rfl rfl (vp_in_nI (by omega) (by decide)) dX7_does_76 ?_
          refine tp_i (y := tl a) (by rw [nI_clamp (n := a) (by omega)]) ?_
          refine lv_if_ne (tgt := 82) hx hb dX7_does_77 (by decide) (fun c77 => ?_) (fun c77 => ?_)
          · -- t77
            have hcb : canB tn tl a act = true := by rw [c68]; unfold canB; rw [if_neg (by decide), if_pos rfl]; exact decide_eq_true ⟨hat, nn_p (hnn a hat) c77⟩
            refine lv_iload_n hx hb dX7_does_82 rfl (lv_at hl 2 rfl) ?_
            refine lv_iconst (v := 3) hx hb dX7_does_83 (by decide) ?_
            refine lv_icmp_ne (tgt := 95) hx hb dX7_does_84 (by decide) (fun c84 => ?_) (fun c84 => ?_)
            · -- t84
              refine lv_aload_n hx hb dX7_does_95 rfl (lv_at hl 0 rfl) ?_
              refine va_get (D := D) (ci := 7) (v := .ref ri) (C := RX7) (T := TX7) (N := 28) hx hb hts iX7 hown hK hP 0 rfl rfl 11 (by decide) f28 (fun _ h9 => h9) rfl dX7_does_96 ?_
              refine lv_iload_n hx hb dX7_does_99 rfl (lv_at hl 1 rfl) ?_
              refine lv_iload_n hx hb dX7_does_100 rfl (lv_at hl 2 rfl) ?_
              refine lv_if_ne (tgt := 117) hx hb dX7_does_101 (by decide) (fun c101 => ?_) (fun c101 => ?_)
              · -- t101
                refine lv_iconst (v := 0) hx hb dX7_does_117 (by decide) ?_
                refine va_iast hx hb hK hP hD hS 4 0 rfl rfl (vp_in_nI (by omega) (by decide)) dX7_does_118 (fun H locs hP hD hS => ?_)
                rw [nI_clamp (n := a) (by omega)] at hP hD
                have hP : va_P D vwCl [(x, .inr (7, [.int fa, .int tr, .ref so, .ref sl, .ref ce, .int (nI n), .int bar, .int (nI tn), .ref ki, .ref si, .ref th, .ref ri, .int at_, .int rp, .ref rk, .ref rs, .ref kt, .ref kr, .int kn, .int rg, .ref ab, .int am, .ref bh, .int bm, .int br, .int (nI rn), .ref wa, .ref ra])), (ki, .inl (cI, 9, .inl kd)), (si, .inl (cI, 9, .inl sd)), (th, .inl (cI, 3, .inl ts)), (ri, .inl (cI, 3, .inl (upd tl a 0)))] H := hP
                have hD : va_D A [(x, .inr (7, [.int fa, .int tr, .ref so, .ref sl, .ref ce, .int (nI n), .int bar, .int (nI tn), .ref ki, .ref si, .ref th, .ref ri, .int at_, .int rp, .ref rk, .ref rs, .ref kt, .ref kr, .int kn, .int rg, .ref ab, .int am, .ref bh, .int bm, .int br, .int (nI rn), .ref wa, .ref ra])), (ki, .inl (cI, 9, .inl kd)), (si, .inl (cI, 9, .inl sd)), (th, .inl (cI, 3, .inl ts)), (ri, .inl (cI, 3, .inl (upd tl a 0)))] := hD
                refine lv_iconst (v := 1) hx hb dX7_does_119 (by decide) ?_
                exact W.zret (v := 1) (ty := .boolean) hx hb hr rfl (fun t ht hW => ⟨⟨_, (tn, ts, upd tl a 0, rg), rfl, by exact ⟨fun _ => by rw [c68]; exact ⟨rfl, rfl, rfl, rfl, rfl⟩, fun q => absurd hcb q⟩, by rw [ht]; exact hP, va_K.moved hW.alike hK, hD⟩, hS.F ht⟩) hS.2.2 dX7_does_120
              · -- f101
                exact absurd c101 c54
            · -- f84
              exact absurd (c68.symm.trans c84) (by decide)
          · -- f77
            have hcn : canB tn tl a act = false := by rw [c68]; simp [canB]; exact fun _ => by rw [c77]; decide
            refine lv_iconst (v := 0) hx hb dX7_does_80 (by decide) ?_
            exact W.zret (v := 0) (ty := .boolean) hx hb hr rfl (fun t ht hW => ⟨⟨_, (tn, ts, tl, rg), rfl, by exact ⟨fun q => absurd (hcn.symm.trans q) (by decide), fun _ => ⟨rfl, rfl, rfl, rfl, rfl⟩⟩, by rw [ht]; exact hP, va_K.moved hW.alike hK, hD⟩, hS.F ht⟩) hS.2.2 dX7_does_81
      · -- f54
        refine lv_aload_n hx hb dX7_does_57 rfl (lv_at hl 0 rfl) ?_
        refine va_get (D := D) (ci := 7) (v := .ref ri) (C := RX7) (T := TX7) (N := 28) hx hb hts iX7 hown hK hP 0 rfl rfl 11 (by decide) f28 (fun _ h9 => h9) rfl dX7_does_58 ?_
        refine lv_iload_n hx hb dX7_does_61 rfl (lv_at hl 1 rfl) ?_
        refine va_iald hx hb hK hP 4 0 rfl rfl (vp_in_nI (by omega) (by decide)) dX7_does_62 ?_
        refine tp_i (y := tl a) (by rw [nI_clamp (n := a) (by omega)]) ?_
        refine lv_if_gt (tgt := 80) hx hb dX7_does_63 (by decide) (fun c63 => ?_) (fun c63 => ?_)
        · -- t63
          have hcn : canB tn tl a act = false := by rw [c54]; simp [canB]; exact fun _ q => absurd c63 (by rw [q]; decide)
          refine lv_iconst (v := 0) hx hb dX7_does_80 (by decide) ?_
          exact W.zret (v := 0) (ty := .boolean) hx hb hr rfl (fun t ht hW => ⟨⟨_, (tn, ts, tl, rg), rfl, by exact ⟨fun q => absurd (hcn.symm.trans q) (by decide), fun _ => ⟨rfl, rfl, rfl, rfl, rfl⟩⟩, by rw [ht]; exact hP, va_K.moved hW.alike hK, hD⟩, hS.F ht⟩) hS.2.2 dX7_does_81
        · -- f63
          have hcb : canB tn tl a act = true := by rw [c54]; simp [canB]; exact ⟨hat, nn_0 (hnn a hat) c63⟩
          refine lv_iload_n hx hb dX7_does_66 rfl (lv_at hl 2 rfl) ?_
          refine lv_iconst (v := 1) hx hb dX7_does_67 (by decide) ?_
          refine lv_icmp_ne (tgt := 82) hx hb dX7_does_68 (by decide) (fun c68 => ?_) (fun c68 => ?_)
          · -- t68
            refine lv_iload_n hx hb dX7_does_82 rfl (lv_at hl 2 rfl) ?_
            refine lv_iconst (v := 3) hx hb dX7_does_83 (by decide) ?_
            refine lv_icmp_ne (tgt := 95) hx hb dX7_does_84 (by decide) (fun c84 => ?_) (fun c84 => ?_)
            · -- t84
              refine lv_aload_n hx hb dX7_does_95 rfl (lv_at hl 0 rfl) ?_
              refine va_get (D := D) (ci := 7) (v := .ref ri) (C := RX7) (T := TX7) (N := 28) hx hb hts iX7 hown hK hP 0 rfl rfl 11 (by decide) f28 (fun _ h9 => h9) rfl dX7_does_96 ?_
              refine lv_iload_n hx hb dX7_does_99 rfl (lv_at hl 1 rfl) ?_
              refine lv_iload_n hx hb dX7_does_100 rfl (lv_at hl 2 rfl) ?_
              refine lv_if_ne (tgt := 117) hx hb dX7_does_101 (by decide) (fun c101 => ?_) (fun c101 => ?_)
              · -- t101
                exact absurd c54 c101
              · -- f101
                refine lv_aload_n hx hb dX7_does_104 rfl (lv_at hl 0 rfl) ?_
                refine lv_aload_n hx hb dX7_does_105 rfl (lv_at hl 0 rfl) ?_
                refine va_get (D := D) (ci := 7) (v := .ref th) (C := RX7) (T := TX7) (N := 28) hx hb hts iX7 hown hK hP 0 rfl rfl 10 (by decide) f25 (fun _ h9 => h9) rfl dX7_does_106 ?_
                refine lv_iload_n hx hb dX7_does_109 rfl (lv_at hl 1 rfl) ?_
                refine va_iald hx hb hK hP 3 0 rfl rfl (vp_in_nI (by omega) (by decide)) dX7_does_110 ?_
                refine tp_i (y := ts a) (by rw [nI_clamp (n := a) (by omega)]) ?_
                have hPc := hP.sub (ws' := [(x, .inr (7, [.int fa, .int tr, .ref so, .ref sl, .ref ce, .int (nI n), .int bar, .int (nI tn), .ref ki, .ref si, .ref th, .ref ri, .int at_, .int rp, .ref rk, .ref rs, .ref kt, .ref kr, .int kn, .int rg, .ref ab, .int am, .ref bh, .int bm, .int br, .int (nI rn), .ref wa, .ref ra])), (ki, .inl (cI, 9, .inl kd)), (si, .inl (cI, 9, .inl sd))]) [0, 1, 2] rfl
                refine vp_callSi (va_Run.run (va_runV (As := [.int (ts a)]) (rest := [.int (nI a), .ref ri]) ⟨hx, hb, hml, hown, hts⟩ (c_X7_ringsOf l D cI cO x fa tr so sl ce n bar tn ki si th ri at_ rp rk rs kt kr kn rg ab am bh bm br rn wa ra kd sd (ts a) (by assumption) (by assumption)) (cwV 1 hts gX7_does_X7_ringsOf rfl rfl rfl (by decide +kernel) ⟨Nat.le_of_ble_eq_true rfl, Nat.le_of_ble_eq_true rfl⟩) (preVR hPc hK hNw (va_recv hK hPc (ci := 7) (q0 := 0) rfl rfl)) rfl rfl hl.1 rfl (lv_room (Nat.le_of_ble_eq_true rfl)) dX7_does_111 ⟨Nat.zero_le _, Nat.zero_le _⟩)) (fun r111 w111 => ?_)
                obtain rfl := w111
                refine lv_goto (tgt := 118) hx hb dX7_does_114 (by decide) ?_
                refine va_iast hx hb hK hP hD hS 4 0 rfl rfl (vp_in_nI (by omega) (by decide)) dX7_does_118 (fun H locs hP hD hS => ?_)
                rw [nI_clamp (n := a) (by omega)] at hP hD
                have hP : va_P D vwCl [(x, .inr (7, [.int fa, .int tr, .ref so, .ref sl, .ref ce, .int (nI n), .int bar, .int (nI tn), .ref ki, .ref si, .ref th, .ref ri, .int at_, .int rp, .ref rk, .ref rs, .ref kt, .ref kr, .int kn, .int rg, .ref ab, .int am, .ref bh, .int bm, .int br, .int (nI rn), .ref wa, .ref ra])), (ki, .inl (cI, 9, .inl kd)), (si, .inl (cI, 9, .inl sd)), (th, .inl (cI, 3, .inl ts)), (ri, .inl (cI, 3, .inl (upd tl a (sumW (rgF kd sd) (ts a) n))))] H := hP
                have hD : va_D A [(x, .inr (7, [.int fa, .int tr, .ref so, .ref sl, .ref ce, .int (nI n), .int bar, .int (nI tn), .ref ki, .ref si, .ref th, .ref ri, .int at_, .int rp, .ref rk, .ref rs, .ref kt, .ref kr, .int kn, .int rg, .ref ab, .int am, .ref bh, .int bm, .int br, .int (nI rn), .ref wa, .ref ra])), (ki, .inl (cI, 9, .inl kd)), (si, .inl (cI, 9, .inl sd)), (th, .inl (cI, 3, .inl ts)), (ri, .inl (cI, 3, .inl (upd tl a (sumW (rgF kd sd) (ts a) n))))] := hD
                refine lv_iconst (v := 1) hx hb dX7_does_119 (by decide) ?_
                exact W.zret (v := 1) (ty := .boolean) hx hb hr rfl (fun t ht hW => ⟨⟨_, (tn, ts, upd tl a (sumW (rgF kd sd) (ts a) n), rg), rfl, by exact ⟨fun _ => by rw [c54]; exact ⟨rfl, rfl, rfl, rfl, rfl⟩, fun q => absurd hcb q⟩, by rw [ht]; exact hP, va_K.moved hW.alike hK, hD⟩, hS.F ht⟩) hS.2.2 dX7_does_120
            · -- f84
              exact absurd (c54.symm.trans c84) (by decide)
          · -- f68
            exact absurd (c54.symm.trans c68) (by decide)
    · -- n47
      obtain rfl := w47.2 b47
      have hat : ¬ a < tn := fun q => b47 (nin_nI q (by omega))
      have hcn : canB tn tl a act = false := by rcases hact with q | q | q | q <;> first | exact absurd q c2 | (simp [canB, q, hat]; done)
      refine lv_if_eq (tgt := 80) hx hb dX7_does_50 (by decide) (fun _ => ?_) (fun h => absurd (by decide) h)
      refine lv_iconst (v := 0) hx hb dX7_does_80 (by decide) ?_
      exact W.zret (v := 0) (ty := .boolean) hx hb hr rfl (fun t ht hW => ⟨⟨_, (tn, ts, tl, rg), rfl, by exact ⟨fun q => absurd (hcn.symm.trans q) (by decide), fun _ => ⟨rfl, rfl, rfl, rfl, rfl⟩⟩, by rw [ht]; exact hP, va_K.moved hW.alike hK, hD⟩, hS.F ht⟩) hS.2.2 dX7_does_81
  · -- f2
    have hcb : canB tn tl a act = true := by rw [c2]; rfl
    refine lv_iconst (v := 0) hx hb dX7_does_5 (by decide) ?_
    refine lv_istore_n (lv' := [(3, .int 0), (0, .ref x), (1, .int (nI a)), (2, .int act)]) hx hb dX7_does_6 rfl hl (by decide) rfl (fun ls hl => ?_)
    have lp7 : ∀ (fu7 : Nat) (i : Nat) (hi : i ≤ a) (hm7 : a - i < fu7) (H : Heap) (locs : List Loc) (hP : va_P D vwCl [(x, .inr (7, [.int fa, .int tr, .ref so, .ref sl, .ref ce, .int (nI n), .int bar, .int (nI tn), .ref ki, .ref si, .ref th, .ref ri, .int at_, .int rp, .ref rk, .ref rs, .ref kt, .ref kr, .int kn, .int (itB tn tl rg i).2, .ref ab, .int am, .ref bh, .int bm, .int br, .int (nI rn), .ref wa, .ref ra])), (ki, .inl (cI, 9, .inl kd)), (si, .inl (cI, 9, .inl sd)), (th, .inl (cI, 3, .inl ts)), (ri, .inl (cI, 3, .inl (itB tn tl rg i).1))] H) (hD : va_D A [(x, .inr (7, [.int fa, .int tr, .ref so, .ref sl, .ref ce, .int (nI n), .int bar, .int (nI tn), .ref ki, .ref si, .ref th, .ref ri, .int at_, .int rp, .ref rk, .ref rs, .ref kt, .ref kr, .int kn, .int (itB tn tl rg i).2, .ref ab, .int am, .ref bh, .int bm, .int br, .int (nI rn), .ref wa, .ref ra])), (ki, .inl (cI, 9, .inl kd)), (si, .inl (cI, 9, .inl sd)), (th, .inl (cI, 3, .inl ts)), (ri, .inl (cI, 3, .inl (itB tn tl rg i).1))]) (hS : va_S A s.heap H locs) (ls : Array Slot) (hl : lv_has ls 4 [(0, .ref x), (1, .int (nI a)), (3, .int (nI i))]), W p l e (headSpec wsX7_does ({ frames := 2, cells := 0, slots := 0, locals := 44 } : Room)).room s m ([.ref x, .int (nI a), .int act]).toArray below meth c H locs 0 0 (MQ below (va_Qi (S := Nat × (Nat → Int32) × (Nat → Int32) × Int32) (fun r u => ((canB tn tl a act = true) → r = 1 ∧ u.1 = (pfm n kd sd a act (tn, ts, tl, rg)).1 ∧ u.2.1 = (pfm n kd sd a act (tn, ts, tl, rg)).2.1 ∧ u.2.2.1 = (pfm n kd sd a act (tn, ts, tl, rg)).2.2.1 ∧ u.2.2.2 = (pfm n kd sd a act (tn, ts, tl, rg)).2.2.2) ∧ (¬ (canB tn tl a act = true) → r = 0 ∧ u.1 = tn ∧ u.2.1 = ts ∧ u.2.2.1 = tl ∧ u.2.2.2 = rg)) (fun u t => va_P D vwCl [(x, .inr (7, [.int fa, .int tr, .ref so, .ref sl, .ref ce, .int (nI n), .int bar, .int (nI u.1), .ref ki, .ref si, .ref th, .ref ri, .int at_, .int rp, .ref rk, .ref rs, .ref kt, .ref kr, .int kn, .int u.2.2.2, .ref ab, .int am, .ref bh, .int bm, .int br, .int (nI rn), .ref wa, .ref ra])), (ki, .inl (cI, 9, .inl kd)), (si, .inl (cI, 9, .inl sd)), (th, .inl (cI, 3, .inl u.2.1)), (ri, .inl (cI, 3, .inl u.2.2.1))] t.heap ∧ va_K D vwCl (tyL cI cO) t ∧ va_D A [(x, .inr (7, [.int fa, .int tr, .ref so, .ref sl, .ref ce, .int (nI n), .int bar, .int (nI u.1), .ref ki, .ref si, .ref th, .ref ri, .int at_, .int rp, .ref rk, .ref rs, .ref kt, .ref kr, .int kn, .int u.2.2.2, .ref ab, .int am, .ref bh, .int bm, .int br, .int (nI rn), .ref wa, .ref ra])), (ki, .inl (cI, 9, .inl kd)), (si, .inl (cI, 9, .inl sd)), (th, .inl (cI, 3, .inl u.2.1)), (ri, .inl (cI, 3, .inl u.2.2.1))]) A) ([.ref x, .int (nI a), .int act]).toArray s 0 0 A) (F0 m 7 ls []) := by
      intro fu7
      induction fu7 with
      | zero =>
        intros; omega
      | succ fu7 ih7 =>
        intro i hi hm7 H locs hP hD hS ls hl
        refine lv_iload_n hx hb dX7_does_7 rfl (lv_at hl 2 rfl) ?_
        refine lv_iload_n hx hb dX7_does_8 rfl (lv_at hl 1 rfl) ?_
        refine lv_icmp_ge (tgt := 43) hx hb dX7_does_9 (by decide) (fun c9 => ?_) (fun c9 => ?_)
        · -- t9
          have e9 : i = a := by have q := ge_n (by omega) (by omega) c9; omega
          rw [e9] at hl
          rw [e9] at hP hD
          refine lv_iconst (v := 1) hx hb dX7_does_43 (by decide) ?_
          exact W.zret (v := 1) (ty := .boolean) hx hb hr rfl (fun t ht hW => ⟨⟨_, (tn, ts, (itB tn tl rg a).1, (itB tn tl rg a).2), rfl, by exact ⟨fun _ => by rw [c2]; exact ⟨rfl, rfl, rfl, rfl, rfl⟩, fun q => absurd hcb q⟩, by rw [ht]; exact hP, va_K.moved hW.alike hK, hD⟩, hS.F ht⟩) hS.2.2 dX7_does_44
        · -- f9
          have l9 : i < a := lt_n (by omega) (by omega) c9
          refine lv_aload_n hx hb dX7_does_12 rfl (lv_at hl 0 rfl) ?_
          refine lv_dup hx hb dX7_does_13 rfl ?_
          refine va_get (D := D) (ci := 7) (v := .int (itB tn tl rg i).2) (C := RX7) (T := TX7) (N := 28) hx hb hts iX7 hown hK hP 0 rfl rfl 19 (by decide) f158 (fun _ h9 => h9) rfl dX7_does_14 ?_
          refine lv_aload_n hx hb dX7_does_17 rfl (lv_at hl 0 rfl) ?_
          have hPc := hP.sub (ws' := [(x, .inr (7, [.int fa, .int tr, .ref so, .ref sl, .ref ce, .int (nI n), .int bar, .int (nI tn), .ref ki, .ref si, .ref th, .ref ri, .int at_, .int rp, .ref rk, .ref rs, .ref kt, .ref kr, .int kn, .int (itB tn tl rg i).2, .ref ab, .int am, .ref bh, .int bm, .int br, .int (nI rn), .ref wa, .ref ra])), (ri, .inl (cI, 3, .inl (itB tn tl rg i).1))]) [0, 4] rfl
          refine vp_callSi (va_Run.run (va_runV (As := []) (rest := [.int (itB tn tl rg i).2, .ref x]) ⟨hx, hb, hml, hown, hts⟩ (c_X7_ringing l D cI cO x fa tr so sl ce n bar tn ki si th ri at_ rp rk rs kt kr kn (itB tn tl rg i).2 ab am bh bm br rn wa ra (itB tn tl rg i).1 (by assumption)) (cwV 0 hts gX7_does_X7_ringing rfl rfl rfl (by decide +kernel) ⟨Nat.le_of_ble_eq_true rfl, Nat.le_of_ble_eq_true rfl⟩) (preVR hPc hK hNw (va_recv hK hPc (ci := 7) (q0 := 0) rfl rfl)) rfl rfl hl.1 rfl (lv_room (Nat.le_of_ble_eq_true rfl)) dX7_does_18 ⟨Nat.zero_le _, Nat.zero_le _⟩)) (fun r18 w18 => ?_)
          obtain rfl := w18
          refine lv_if_le (tgt := 28) hx hb dX7_does_21 (by decide) (fun c21 => ?_) (fun c21 => ?_)
          · -- t21
            refine lv_iconst (v := 0) hx hb dX7_does_28 (by decide) ?_
            refine lv_iadd hx hb dX7_does_29 ?_
            refine va_put (D := D) (ci := 7) (v := .int ((itB tn tl rg i).2 + 0)) (ty := .int) (C := RX7) (T := TX7) (N := 28) hx hb hts iX7 tyX7 tyX7_ok nmX7 hown hK hP hD hS 0 rfl rfl 19 (by decide) f158 (fun _ h9 => h9) rfl (by decide +kernel) rfl rfl (Nat.le_of_ble_eq_true rfl) dX7_does_30 (fun H locs hP hD hS => ?_)
            have hP : va_P D vwCl [(x, .inr (7, [.int fa, .int tr, .ref so, .ref sl, .ref ce, .int (nI n), .int bar, .int (nI tn), .ref ki, .ref si, .ref th, .ref ri, .int at_, .int rp, .ref rk, .ref rs, .ref kt, .ref kr, .int kn, .int ((itB tn tl rg i).2 + 0), .ref ab, .int am, .ref bh, .int bm, .int br, .int (nI rn), .ref wa, .ref ra])), (ki, .inl (cI, 9, .inl kd)), (si, .inl (cI, 9, .inl sd)), (th, .inl (cI, 3, .inl ts)), (ri, .inl (cI, 3, .inl (itB tn tl rg i).1))] H := hP
            have hD : va_D A [(x, .inr (7, [.int fa, .int tr, .ref so, .ref sl, .ref ce, .int (nI n), .int bar, .int (nI tn), .ref ki, .ref si, .ref th, .ref ri, .int at_, .int rp, .ref rk, .ref rs, .ref kt, .ref kr, .int kn, .int ((itB tn tl rg i).2 + 0), .ref ab, .int am, .ref bh, .int bm, .int br, .int (nI rn), .ref wa, .ref ra])), (ki, .inl (cI, 9, .inl kd)), (si, .inl (cI, 9, .inl sd)), (th, .inl (cI, 3, .inl ts)), (ri, .inl (cI, 3, .inl (itB tn tl rg i).1))] := hD
            refine lv_aload_n hx hb dX7_does_33 rfl (lv_at hl 0 rfl) ?_
            have hPc := hP.sub (ws' := [(x, .inr (7, [.int fa, .int tr, .ref so, .ref sl, .ref ce, .int (nI n), .int bar, .int (nI tn), .ref ki, .ref si, .ref th, .ref ri, .int at_, .int rp, .ref rk, .ref rs, .ref kt, .ref kr, .int kn, .int ((itB tn tl rg i).2 + 0), .ref ab, .int am, .ref bh, .int bm, .int br, .int (nI rn), .ref wa, .ref ra])), (ri, .inl (cI, 3, .inl (itB tn tl rg i).1))]) [0, 4] rfl
            have hDc := hD.sub (ws' := [(x, .inr (7, [.int fa, .int tr, .ref so, .ref sl, .ref ce, .int (nI n), .int bar, .int (nI tn), .ref ki, .ref si, .ref th, .ref ri, .int at_, .int rp, .ref rk, .ref rs, .ref kt, .ref kr, .int kn, .int ((itB tn tl rg i).2 + 0), .ref ab, .int am, .ref bh, .int bm, .int br, .int (nI rn), .ref wa, .ref ra])), (ri, .inl (cI, 3, .inl (itB tn tl rg i).1))]) [0, 4] (by decide) rfl
            have hFc := va_free (wc := [(x, .inr (7, [.int fa, .int tr, .ref so, .ref sl, .ref ce, .int (nI n), .int bar, .int (nI tn), .ref ki, .ref si, .ref th, .ref ri, .int at_, .int rp, .ref rk, .ref rs, .ref kt, .ref kr, .int kn, .int ((itB tn tl rg i).2 + 0), .ref ab, .int am, .ref bh, .int bm, .int br, .int (nI rn), .ref wa, .ref ra])), (ri, .inl (cI, 3, .inl (itB tn tl rg i).1))]) hD hS hA [0, 4] rfl
            refine va_callv (va_runV (As := []) (rest := []) ⟨hx, hb, hml, hown, hts⟩ (c_X7_oneBar l D cI cO x fa tr so sl ce n bar tn ki si th ri at_ rp rk rs kt kr kn ((itB tn tl rg i).2 + 0) ab am bh bm br rn wa ra (itB tn tl rg i).1 _ (by assumption) (it_nn hnn i)) (cwV 0 hts gX7_does_X7_oneBar rfl rfl rfl (by decide +kernel) ⟨Nat.le_of_ble_eq_true rfl, Nat.le_of_ble_eq_true rfl⟩) (preVW hPc hK hNw hDc (va_recv hK hPc (ci := 7) (q0 := 0) rfl rfl)) rfl rfl hl.1 rfl (lv_room (Nat.le_of_ble_eq_true rfl)) dX7_does_34 ⟨Nat.zero_le _, Nat.zero_le _⟩) hS (fun q _ h => hFc q h) hFc (fun u t H1 locs ht hvm w34 hB hz1 hk1 hS => ?_)
            obtain ⟨tl1_34, rfl⟩ : ∃ z, z = u := ⟨_, rfl⟩
            obtain ⟨hP1, hK1, hD1⟩ := hB
            rw [ht] at hP1
            try dsimp only at w34
            obtain ⟨hP, hD⟩ := va_join (wr := [(ki, .inl (cI, 9, .inl kd)), (si, .inl (cI, 9, .inl sd)), (th, .inl (cI, 3, .inl ts))]) (w1 := [(x, .inr (7, [.int fa, .int tr, .ref so, .ref sl, .ref ce, .int (nI n), .int bar, .int (nI tn), .ref ki, .ref si, .ref th, .ref ri, .int at_, .int rp, .ref rk, .ref rs, .ref kt, .ref kr, .int kn, .int ((itB tn tl rg i).2 + 0), .ref ab, .int am, .ref bh, .int bm, .int br, .int (nI rn), .ref wa, .ref ra])), (ri, .inl (cI, 3, .inl tl1_34))]) hP hD [0, 4] [1, 2, 3] rfl rfl (by decide) (by decide) hk1 hFc hP1 hD1
            generalize H1 = H at hP hS ⊢
            have hP := hP.sub (ws' := [(x, .inr (7, [.int fa, .int tr, .ref so, .ref sl, .ref ce, .int (nI n), .int bar, .int (nI tn), .ref ki, .ref si, .ref th, .ref ri, .int at_, .int rp, .ref rk, .ref rs, .ref kt, .ref kr, .int kn, .int ((itB tn tl rg i).2 + 0), .ref ab, .int am, .ref bh, .int bm, .int br, .int (nI rn), .ref wa, .ref ra])), (ki, .inl (cI, 9, .inl kd)), (si, .inl (cI, 9, .inl sd)), (th, .inl (cI, 3, .inl ts)), (ri, .inl (cI, 3, .inl tl1_34))]) [3, 0, 1, 2, 4] rfl
            have hD := hD.sub (ws' := [(x, .inr (7, [.int fa, .int tr, .ref so, .ref sl, .ref ce, .int (nI n), .int bar, .int (nI tn), .ref ki, .ref si, .ref th, .ref ri, .int at_, .int rp, .ref rk, .ref rs, .ref kt, .ref kr, .int kn, .int ((itB tn tl rg i).2 + 0), .ref ab, .int am, .ref bh, .int bm, .int br, .int (nI rn), .ref wa, .ref ra])), (ki, .inl (cI, 9, .inl kd)), (si, .inl (cI, 9, .inl sd)), (th, .inl (cI, 3, .inl ts)), (ri, .inl (cI, 3, .inl tl1_34))]) [3, 0, 1, 2, 4] (by decide) rfl
            obtain rfl := w34
            refine lv_iinc (v := nI (i + 1)) (lv' := [(3, .int (nI (i + 1))), (0, .ref x), (1, .int (nI a))]) hx hb dX7_does_37 hl (k := 2) rfl (nI_1 _) (by decide) rfl (fun ls hl => ?_)
            refine lv_goto (tgt := 7) hx hb dX7_does_40 (by decide) ?_
            have ew7_0_0 : ((itB tn tl rg i).2 + 0) = (itB tn tl rg (i + 1)).2 := by simp [itB, c21]
            have hP : va_P D vwCl [(x, .inr (7, [.int fa, .int tr, .ref so, .ref sl, .ref ce, .int (nI n), .int bar, .int (nI tn), .ref ki, .ref si, .ref th, .ref ri, .int at_, .int rp, .ref rk, .ref rs, .ref kt, .ref kr, .int kn, .int (itB tn tl rg (i + 1)).2, .ref ab, .int am, .ref bh, .int bm, .int br, .int (nI rn), .ref wa, .ref ra])), (ki, .inl (cI, 9, .inl kd)), (si, .inl (cI, 9, .inl sd)), (th, .inl (cI, 3, .inl ts)), (ri, .inl (cI, 3, .inl (goF (itB tn tl rg i).1 1 tn)))] H := by rw [← ew7_0_0]; exact hP
            have hD : va_D A [(x, .inr (7, [.int fa, .int tr, .ref so, .ref sl, .ref ce, .int (nI n), .int bar, .int (nI tn), .ref ki, .ref si, .ref th, .ref ri, .int at_, .int rp, .ref rk, .ref rs, .ref kt, .ref kr, .int kn, .int (itB tn tl rg (i + 1)).2, .ref ab, .int am, .ref bh, .int bm, .int br, .int (nI rn), .ref wa, .ref ra])), (ki, .inl (cI, 9, .inl kd)), (si, .inl (cI, 9, .inl sd)), (th, .inl (cI, 3, .inl ts)), (ri, .inl (cI, 3, .inl (goF (itB tn tl rg i).1 1 tn)))] := by rw [← ew7_0_0]; exact hD
            have ew7_4_0 : (goF (itB tn tl rg i).1 1 tn) = (itB tn tl rg (i + 1)).1 := by rfl
            have hP : va_P D vwCl [(x, .inr (7, [.int fa, .int tr, .ref so, .ref sl, .ref ce, .int (nI n), .int bar, .int (nI tn), .ref ki, .ref si, .ref th, .ref ri, .int at_, .int rp, .ref rk, .ref rs, .ref kt, .ref kr, .int kn, .int (itB tn tl rg (i + 1)).2, .ref ab, .int am, .ref bh, .int bm, .int br, .int (nI rn), .ref wa, .ref ra])), (ki, .inl (cI, 9, .inl kd)), (si, .inl (cI, 9, .inl sd)), (th, .inl (cI, 3, .inl ts)), (ri, .inl (cI, 3, .inl (itB tn tl rg (i + 1)).1))] H := by rw [← ew7_4_0]; exact hP
            have hD : va_D A [(x, .inr (7, [.int fa, .int tr, .ref so, .ref sl, .ref ce, .int (nI n), .int bar, .int (nI tn), .ref ki, .ref si, .ref th, .ref ri, .int at_, .int rp, .ref rk, .ref rs, .ref kt, .ref kr, .int kn, .int (itB tn tl rg (i + 1)).2, .ref ab, .int am, .ref bh, .int bm, .int br, .int (nI rn), .ref wa, .ref ra])), (ki, .inl (cI, 9, .inl kd)), (si, .inl (cI, 9, .inl sd)), (th, .inl (cI, 3, .inl ts)), (ri, .inl (cI, 3, .inl (itB tn tl rg (i + 1)).1))] := by rw [← ew7_4_0]; exact hD
            exact ih7 (i + 1) (by omega) (by omega) _ _ hP hD hS _ (lv_sub hl [1, 2, 0] rfl)
          · -- f21
            refine lv_iconst (v := 1) hx hb dX7_does_24 (by decide) ?_
            refine lv_goto (tgt := 29) hx hb dX7_does_25 (by decide) ?_
            refine lv_iadd hx hb dX7_does_29 ?_
            refine va_put (D := D) (ci := 7) (v := .int ((itB tn tl rg i).2 + 1)) (ty := .int) (C := RX7) (T := TX7) (N := 28) hx hb hts iX7 tyX7 tyX7_ok nmX7 hown hK hP hD hS 0 rfl rfl 19 (by decide) f158 (fun _ h9 => h9) rfl (by decide +kernel) rfl rfl (Nat.le_of_ble_eq_true rfl) dX7_does_30 (fun H locs hP hD hS => ?_)
            have hP : va_P D vwCl [(x, .inr (7, [.int fa, .int tr, .ref so, .ref sl, .ref ce, .int (nI n), .int bar, .int (nI tn), .ref ki, .ref si, .ref th, .ref ri, .int at_, .int rp, .ref rk, .ref rs, .ref kt, .ref kr, .int kn, .int ((itB tn tl rg i).2 + 1), .ref ab, .int am, .ref bh, .int bm, .int br, .int (nI rn), .ref wa, .ref ra])), (ki, .inl (cI, 9, .inl kd)), (si, .inl (cI, 9, .inl sd)), (th, .inl (cI, 3, .inl ts)), (ri, .inl (cI, 3, .inl (itB tn tl rg i).1))] H := hP
            have hD : va_D A [(x, .inr (7, [.int fa, .int tr, .ref so, .ref sl, .ref ce, .int (nI n), .int bar, .int (nI tn), .ref ki, .ref si, .ref th, .ref ri, .int at_, .int rp, .ref rk, .ref rs, .ref kt, .ref kr, .int kn, .int ((itB tn tl rg i).2 + 1), .ref ab, .int am, .ref bh, .int bm, .int br, .int (nI rn), .ref wa, .ref ra])), (ki, .inl (cI, 9, .inl kd)), (si, .inl (cI, 9, .inl sd)), (th, .inl (cI, 3, .inl ts)), (ri, .inl (cI, 3, .inl (itB tn tl rg i).1))] := hD
            refine lv_aload_n hx hb dX7_does_33 rfl (lv_at hl 0 rfl) ?_
            have hPc := hP.sub (ws' := [(x, .inr (7, [.int fa, .int tr, .ref so, .ref sl, .ref ce, .int (nI n), .int bar, .int (nI tn), .ref ki, .ref si, .ref th, .ref ri, .int at_, .int rp, .ref rk, .ref rs, .ref kt, .ref kr, .int kn, .int ((itB tn tl rg i).2 + 1), .ref ab, .int am, .ref bh, .int bm, .int br, .int (nI rn), .ref wa, .ref ra])), (ri, .inl (cI, 3, .inl (itB tn tl rg i).1))]) [0, 4] rfl
            have hDc := hD.sub (ws' := [(x, .inr (7, [.int fa, .int tr, .ref so, .ref sl, .ref ce, .int (nI n), .int bar, .int (nI tn), .ref ki, .ref si, .ref th, .ref ri, .int at_, .int rp, .ref rk, .ref rs, .ref kt, .ref kr, .int kn, .int ((itB tn tl rg i).2 + 1), .ref ab, .int am, .ref bh, .int bm, .int br, .int (nI rn), .ref wa, .ref ra])), (ri, .inl (cI, 3, .inl (itB tn tl rg i).1))]) [0, 4] (by decide) rfl
            have hFc := va_free (wc := [(x, .inr (7, [.int fa, .int tr, .ref so, .ref sl, .ref ce, .int (nI n), .int bar, .int (nI tn), .ref ki, .ref si, .ref th, .ref ri, .int at_, .int rp, .ref rk, .ref rs, .ref kt, .ref kr, .int kn, .int ((itB tn tl rg i).2 + 1), .ref ab, .int am, .ref bh, .int bm, .int br, .int (nI rn), .ref wa, .ref ra])), (ri, .inl (cI, 3, .inl (itB tn tl rg i).1))]) hD hS hA [0, 4] rfl
            refine va_callv (va_runV (As := []) (rest := []) ⟨hx, hb, hml, hown, hts⟩ (c_X7_oneBar l D cI cO x fa tr so sl ce n bar tn ki si th ri at_ rp rk rs kt kr kn ((itB tn tl rg i).2 + 1) ab am bh bm br rn wa ra (itB tn tl rg i).1 _ (by assumption) (it_nn hnn i)) (cwV 0 hts gX7_does_X7_oneBar rfl rfl rfl (by decide +kernel) ⟨Nat.le_of_ble_eq_true rfl, Nat.le_of_ble_eq_true rfl⟩) (preVW hPc hK hNw hDc (va_recv hK hPc (ci := 7) (q0 := 0) rfl rfl)) rfl rfl hl.1 rfl (lv_room (Nat.le_of_ble_eq_true rfl)) dX7_does_34 ⟨Nat.zero_le _, Nat.zero_le _⟩) hS (fun q _ h => hFc q h) hFc (fun u t H1 locs ht hvm w34 hB hz1 hk1 hS => ?_)
            obtain ⟨tl1_34, rfl⟩ : ∃ z, z = u := ⟨_, rfl⟩
            obtain ⟨hP1, hK1, hD1⟩ := hB
            rw [ht] at hP1
            try dsimp only at w34
            obtain ⟨hP, hD⟩ := va_join (wr := [(ki, .inl (cI, 9, .inl kd)), (si, .inl (cI, 9, .inl sd)), (th, .inl (cI, 3, .inl ts))]) (w1 := [(x, .inr (7, [.int fa, .int tr, .ref so, .ref sl, .ref ce, .int (nI n), .int bar, .int (nI tn), .ref ki, .ref si, .ref th, .ref ri, .int at_, .int rp, .ref rk, .ref rs, .ref kt, .ref kr, .int kn, .int ((itB tn tl rg i).2 + 1), .ref ab, .int am, .ref bh, .int bm, .int br, .int (nI rn), .ref wa, .ref ra])), (ri, .inl (cI, 3, .inl tl1_34))]) hP hD [0, 4] [1, 2, 3] rfl rfl (by decide) (by decide) hk1 hFc hP1 hD1
            generalize H1 = H at hP hS ⊢
            have hP := hP.sub (ws' := [(x, .inr (7, [.int fa, .int tr, .ref so, .ref sl, .ref ce, .int (nI n), .int bar, .int (nI tn), .ref ki, .ref si, .ref th, .ref ri, .int at_, .int rp, .ref rk, .ref rs, .ref kt, .ref kr, .int kn, .int ((itB tn tl rg i).2 + 1), .ref ab, .int am, .ref bh, .int bm, .int br, .int (nI rn), .ref wa, .ref ra])), (ki, .inl (cI, 9, .inl kd)), (si, .inl (cI, 9, .inl sd)), (th, .inl (cI, 3, .inl ts)), (ri, .inl (cI, 3, .inl tl1_34))]) [3, 0, 1, 2, 4] rfl
            have hD := hD.sub (ws' := [(x, .inr (7, [.int fa, .int tr, .ref so, .ref sl, .ref ce, .int (nI n), .int bar, .int (nI tn), .ref ki, .ref si, .ref th, .ref ri, .int at_, .int rp, .ref rk, .ref rs, .ref kt, .ref kr, .int kn, .int ((itB tn tl rg i).2 + 1), .ref ab, .int am, .ref bh, .int bm, .int br, .int (nI rn), .ref wa, .ref ra])), (ki, .inl (cI, 9, .inl kd)), (si, .inl (cI, 9, .inl sd)), (th, .inl (cI, 3, .inl ts)), (ri, .inl (cI, 3, .inl tl1_34))]) [3, 0, 1, 2, 4] (by decide) rfl
            obtain rfl := w34
            refine lv_iinc (v := nI (i + 1)) (lv' := [(3, .int (nI (i + 1))), (0, .ref x), (1, .int (nI a))]) hx hb dX7_does_37 hl (k := 2) rfl (nI_1 _) (by decide) rfl (fun ls hl => ?_)
            refine lv_goto (tgt := 7) hx hb dX7_does_40 (by decide) ?_
            have ew7_0_0 : ((itB tn tl rg i).2 + 1) = (itB tn tl rg (i + 1)).2 := by simp [itB, c21]
            have hP : va_P D vwCl [(x, .inr (7, [.int fa, .int tr, .ref so, .ref sl, .ref ce, .int (nI n), .int bar, .int (nI tn), .ref ki, .ref si, .ref th, .ref ri, .int at_, .int rp, .ref rk, .ref rs, .ref kt, .ref kr, .int kn, .int (itB tn tl rg (i + 1)).2, .ref ab, .int am, .ref bh, .int bm, .int br, .int (nI rn), .ref wa, .ref ra])), (ki, .inl (cI, 9, .inl kd)), (si, .inl (cI, 9, .inl sd)), (th, .inl (cI, 3, .inl ts)), (ri, .inl (cI, 3, .inl (goF (itB tn tl rg i).1 1 tn)))] H := by rw [← ew7_0_0]; exact hP
            have hD : va_D A [(x, .inr (7, [.int fa, .int tr, .ref so, .ref sl, .ref ce, .int (nI n), .int bar, .int (nI tn), .ref ki, .ref si, .ref th, .ref ri, .int at_, .int rp, .ref rk, .ref rs, .ref kt, .ref kr, .int kn, .int (itB tn tl rg (i + 1)).2, .ref ab, .int am, .ref bh, .int bm, .int br, .int (nI rn), .ref wa, .ref ra])), (ki, .inl (cI, 9, .inl kd)), (si, .inl (cI, 9, .inl sd)), (th, .inl (cI, 3, .inl ts)), (ri, .inl (cI, 3, .inl (goF (itB tn tl rg i).1 1 tn)))] := by rw [← ew7_0_0]; exact hD
            have ew7_4_0 : (goF (itB tn tl rg i).1 1 tn) = (itB tn tl rg (i + 1)).1 := by rfl
            have hP : va_P D vwCl [(x, .inr (7, [.int fa, .int tr, .ref so, .ref sl, .ref ce, .int (nI n), .int bar, .int (nI tn), .ref ki, .ref si, .ref th, .ref ri, .int at_, .int rp, .ref rk, .ref rs, .ref kt, .ref kr, .int kn, .int (itB tn tl rg (i + 1)).2, .ref ab, .int am, .ref bh, .int bm, .int br, .int (nI rn), .ref wa, .ref ra])), (ki, .inl (cI, 9, .inl kd)), (si, .inl (cI, 9, .inl sd)), (th, .inl (cI, 3, .inl ts)), (ri, .inl (cI, 3, .inl (itB tn tl rg (i + 1)).1))] H := by rw [← ew7_4_0]; exact hP
            have hD : va_D A [(x, .inr (7, [.int fa, .int tr, .ref so, .ref sl, .ref ce, .int (nI n), .int bar, .int (nI tn), .ref ki, .ref si, .ref th, .ref ri, .int at_, .int rp, .ref rk, .ref rs, .ref kt, .ref kr, .int kn, .int (itB tn tl rg (i + 1)).2, .ref ab, .int am, .ref bh, .int bm, .int br, .int (nI rn), .ref wa, .ref ra])), (ki, .inl (cI, 9, .inl kd)), (si, .inl (cI, 9, .inl sd)), (th, .inl (cI, 3, .inl ts)), (ri, .inl (cI, 3, .inl (itB tn tl rg (i + 1)).1))] := by rw [← ew7_4_0]; exact hD
            exact ih7 (i + 1) (by omega) (by omega) _ _ hP hD hS _ (lv_sub hl [1, 2, 0] rfl)
    exact lp7 _ 0 (Nat.zero_le _) (Nat.lt_succ_self _) _ _ hP hD hS _ (lv_sub hl [1, 2, 0] rfl)

set_option maxHeartbeats 4000000 in
set_option maxRecDepth 100000 in
theorem c_X7_tellSeason (l : Launch) (D : va_G) (cI cO : ClassId) (x : Nat) (fa : Int32) (tr : Int32) (so : Nat) (sl : Nat) (ce : Nat) (n : Nat) (bar : Int32) (tn : Nat) (ki : Nat) (si : Nat) (th : Nat) (ri : Nat) (at_ : Int32) (rp : Int32) (rk : Nat) (rs : Nat) (kt : Nat) (kr : Nat) (kn : Int32) (rg : Int32) (ab : Nat) (am : Int32) (bh : Nat) (bm : Int32) (br : Int32) (rn : Nat) (wa : Nat) (ra : Nat) (ts : Nat → Int32) (tl : Nat → Int32) (y : Int32) (ht3 : tn ≤ 3) : Met l yX7_tellSeason wsX7_tellSeason ({ frames := 1, cells := 0, slots := 0, locals := 22 } : Room) (va_Pc [.ref x, .int y] (wdR D cI cO [(x, .inr (7, [.int fa, .int tr, .ref so, .ref sl, .ref ce, .int (nI n), .int bar, .int (nI tn), .ref ki, .ref si, .ref th, .ref ri, .int at_, .int rp, .ref rk, .ref rs, .ref kt, .ref kr, .int kn, .int rg, .ref ab, .int am, .ref bh, .int bm, .int br, .int (nI rn), .ref wa, .ref ra])), (th, .inl (cI, 3, .inl ts)), (ri, .inl (cI, 3, .inl tl))])) (vp_Si (fun r => r = (if y = 0 then cntW tl tn else if y = 2 then rg else if y = 3 then orW ts tn else addW tl tn))) 0 0 (fun _ => False) := by
  refine Met.ofW (cc := cX7_tellSeason) (maxL := 5) (ret := (some .int)) (by decide) rfl ?_
  intro p e s m args below meth c s₁ B hml hv
  obtain ⟨rfl, hP, hK, hNw⟩ := hv
  have hx := B.exec
  have hb := B.bytes
  have hr := B.returns
  have hts := atoms_spec (ws := wsX7_tellSeason) B.pre
  have hown : s.vm.findClass RX7 = some m.cls := findClass_of_methodNamed B.named
  have hlocks := B.notSynchronized
  have f25 := hts (.fieldLink RX7 25 "StruckThreesModel" "three" "[I") (by decide +kernel)
  have f28 := hts (.fieldLink RX7 28 "StruckThreesModel" "rings" "[I") (by decide +kernel)
  have f68 := hts (.fieldLink RX7 68 "StruckThreesModel" "threes" "I") (by decide +kernel)
  have f158 := hts (.fieldLink RX7 158 "StruckThreesModel" "rang" "I") (by decide +kernel)
  have iX7 : ∀ w ∈ wsX70, w ∈ wsX7_tellSeason := by decide +kernel
  have hP : va_P D vwCl [(x, .inr (7, [.int fa, .int tr, .ref so, .ref sl, .ref ce, .int (nI n), .int bar, .int (nI tn), .ref ki, .ref si, .ref th, .ref ri, .int at_, .int rp, .ref rk, .ref rs, .ref kt, .ref kr, .int kn, .int rg, .ref ab, .int am, .ref bh, .int bm, .int br, .int (nI rn), .ref wa, .ref ra])), (th, .inl (cI, 3, .inl ts)), (ri, .inl (cI, 3, .inl tl))] s.heap := hP
  have hl := lv_entry ([.ref x, .int y]) (n := 5) (Nat.le_of_ble_eq_true rfl)
  rw [lg_entry_eq]
  generalize (lg_sl ([.ref x, .int y]) ++ List.replicate (5 - (lg_sl ([.ref x, .int y])).length) Slot.unset).toArray = ls at hl ⊢
  have hl : lv_has ls 5 [(0, .ref x), (1, .int y)] := hl
  refine lv_iconst (v := 0) hx hb dX7_tellSeason_0 (by decide) ?_
  refine lv_istore_n (lv' := [(2, .int 0), (0, .ref x), (1, .int y)]) hx hb dX7_tellSeason_1 rfl hl (by decide) rfl (fun ls hl => ?_)
  refine lv_iconst (v := 0) hx hb dX7_tellSeason_2 (by decide) ?_
  refine lv_istore_n (lv' := [(3, .int 0), (2, .int 0), (0, .ref x), (1, .int y)]) hx hb dX7_tellSeason_3 rfl hl (by decide) rfl (fun ls hl => ?_)
  refine lv_iconst (v := 0) hx hb dX7_tellSeason_4 (by decide) ?_
  refine lv_istore (lv' := [(4, .int 0), (3, .int 0), (2, .int 0), (0, .ref x), (1, .int y)]) hx hb dX7_tellSeason_5 hl (by decide) rfl (fun ls hl => ?_)
  have lp7 : ∀ (fu7 : Nat) (i : Nat) (hi : i ≤ tn) (hm7 : tn - i < fu7) (ls : Array Slot) (hl : lv_has ls 5 [(0, .ref x), (1, .int y), (2, .int (orW ts i)), (3, .int (addW tl i)), (4, .int (nI i))]), W p l e (headSpec wsX7_tellSeason ({ frames := 1, cells := 0, slots := 0, locals := 22 } : Room)).room s m ([.ref x, .int y]).toArray below meth c s.heap [] 0 0 (MQ below (vp_Si (fun r => r = (if y = 0 then cntW tl tn else if y = 2 then rg else if y = 3 then orW ts tn else addW tl tn))) ([.ref x, .int y]).toArray s 0 0 (fun _ => False)) (F0 m 7 ls []) := by
    intro fu7
    induction fu7 with
    | zero =>
      intros; omega
    | succ fu7 ih7 =>
      intro i hi hm7 ls hl
      refine lv_iload hx hb dX7_tellSeason_7 (lv_at hl 4 rfl) ?_
      refine lv_aload_n hx hb dX7_tellSeason_9 rfl (lv_at hl 0 rfl) ?_
      refine va_get (D := D) (ci := 7) (v := .int (nI tn)) (C := RX7) (T := TX7) (N := 28) hx hb hts iX7 hown hK hP 0 rfl rfl 7 (by decide) f68 (fun _ h9 => h9) rfl dX7_tellSeason_10 ?_
      refine lv_icmp_ge (tgt := 42) hx hb dX7_tellSeason_13 (by decide) (fun c13 => ?_) (fun c13 => ?_)
      · -- t13
        have e13 : i = tn := by have q := ge_n (by omega) (by omega) c13; omega
        rw [e13] at hl
        refine lv_iload_n hx hb dX7_tellSeason_42 rfl (lv_at hl 1 rfl) ?_
        refine lv_if_ne (tgt := 53) hx hb dX7_tellSeason_43 (by decide) (fun c43 => ?_) (fun c43 => ?_)
        · -- t43
          refine lv_iload_n hx hb dX7_tellSeason_53 rfl (lv_at hl 1 rfl) ?_
          refine lv_iconst (v := 2) hx hb dX7_tellSeason_54 (by decide) ?_
          refine lv_icmp_ne (tgt := 65) hx hb dX7_tellSeason_55 (by decide) (fun c55 => ?_) (fun c55 => ?_)
          · -- t55
            refine lv_iload_n hx hb dX7_tellSeason_65 rfl (lv_at hl 1 rfl) ?_
            refine lv_iconst (v := 3) hx hb dX7_tellSeason_66 (by decide) ?_
            refine lv_icmp_ne (tgt := 74) hx hb dX7_tellSeason_67 (by decide) (fun c67 => ?_) (fun c67 => ?_)
            · -- t67
              refine lv_iload_n hx hb dX7_tellSeason_74 rfl (lv_at hl 3 rfl) ?_
              exact W.iret (v := addW tl tn) hx hb hr (fun t ht hW => ⟨_, rfl, by simp [*], ht⟩) (fun _ h => absurd h List.not_mem_nil) dX7_tellSeason_75
            · -- f67
              refine lv_iload_n hx hb dX7_tellSeason_70 rfl (lv_at hl 2 rfl) ?_
              refine lv_goto (tgt := 75) hx hb dX7_tellSeason_71 (by decide) ?_
              exact W.iret (v := orW ts tn) hx hb hr (fun t ht hW => ⟨_, rfl, by simp [*], ht⟩) (fun _ h => absurd h List.not_mem_nil) dX7_tellSeason_75
          · -- f55
            refine lv_aload_n hx hb dX7_tellSeason_58 rfl (lv_at hl 0 rfl) ?_
            refine va_get (D := D) (ci := 7) (v := .int rg) (C := RX7) (T := TX7) (N := 28) hx hb hts iX7 hown hK hP 0 rfl rfl 19 (by decide) f158 (fun _ h9 => h9) rfl dX7_tellSeason_59 ?_
            refine lv_goto (tgt := 75) hx hb dX7_tellSeason_62 (by decide) ?_
            exact W.iret (v := rg) hx hb hr (fun t ht hW => ⟨_, rfl, by simp [*], ht⟩) (fun _ h => absurd h List.not_mem_nil) dX7_tellSeason_75
        · -- f43
          refine lv_aload_n hx hb dX7_tellSeason_46 rfl (lv_at hl 0 rfl) ?_
          have hPc := hP.sub (ws' := [(x, .inr (7, [.int fa, .int tr, .ref so, .ref sl, .ref ce, .int (nI n), .int bar, .int (nI tn), .ref ki, .ref si, .ref th, .ref ri, .int at_, .int rp, .ref rk, .ref rs, .ref kt, .ref kr, .int kn, .int rg, .ref ab, .int am, .ref bh, .int bm, .int br, .int (nI rn), .ref wa, .ref ra])), (ri, .inl (cI, 3, .inl tl))]) [0, 2] rfl
          refine vp_callSi (va_Run.run (va_runV (As := []) (rest := []) ⟨hx, hb, hml, hown, hts⟩ (c_X7_ringing l D cI cO x fa tr so sl ce n bar tn ki si th ri at_ rp rk rs kt kr kn rg ab am bh bm br rn wa ra tl (by assumption)) (cwV 0 hts gX7_tellSeason_X7_ringing rfl rfl rfl (by decide +kernel) ⟨Nat.le_of_ble_eq_true rfl, Nat.le_of_ble_eq_true rfl⟩) (preVR hPc hK hNw (va_recv hK hPc (ci := 7) (q0 := 0) rfl rfl)) rfl rfl hl.1 rfl (lv_room (Nat.le_of_ble_eq_true rfl)) dX7_tellSeason_47 ⟨Nat.zero_le _, Nat.zero_le _⟩)) (fun r47 w47 => ?_)
          obtain rfl := w47
          refine lv_goto (tgt := 75) hx hb dX7_tellSeason_50 (by decide) ?_
          exact W.iret (v := cntW tl tn) hx hb hr (fun t ht hW => ⟨_, rfl, by simp [*], ht⟩) (fun _ h => absurd h List.not_mem_nil) dX7_tellSeason_75
      · -- f13
        have l13 : i < tn := lt_n (by omega) (by omega) c13
        refine lv_iload_n hx hb dX7_tellSeason_16 rfl (lv_at hl 2 rfl) ?_
        refine lv_aload_n hx hb dX7_tellSeason_17 rfl (lv_at hl 0 rfl) ?_
        refine va_get (D := D) (ci := 7) (v := .ref th) (C := RX7) (T := TX7) (N := 28) hx hb hts iX7 hown hK hP 0 rfl rfl 10 (by decide) f25 (fun _ h9 => h9) rfl dX7_tellSeason_18 ?_
        refine lv_iload hx hb dX7_tellSeason_21 (lv_at hl 4 rfl) ?_
        refine va_iald hx hb hK hP 1 0 rfl rfl (vp_in_nI (by omega) (by decide)) dX7_tellSeason_23 ?_
        refine tp_i (y := ts i) (by rw [nI_clamp (n := i) (by omega)]) ?_
        refine lv_ior hx hb dX7_tellSeason_24 ?_
        refine lv_istore_n (lv' := [(2, .int ((orW ts i) ||| (ts i))), (0, .ref x), (1, .int y), (3, .int (addW tl i)), (4, .int (nI i))]) hx hb dX7_tellSeason_25 rfl hl (by decide) rfl (fun ls hl => ?_)
        refine lv_iload_n hx hb dX7_tellSeason_26 rfl (lv_at hl 3 rfl) ?_
        refine lv_aload_n hx hb dX7_tellSeason_27 rfl (lv_at hl 1 rfl) ?_
        refine va_get (D := D) (ci := 7) (v := .ref ri) (C := RX7) (T := TX7) (N := 28) hx hb hts iX7 hown hK hP 0 rfl rfl 11 (by decide) f28 (fun _ h9 => h9) rfl dX7_tellSeason_28 ?_
        refine lv_iload hx hb dX7_tellSeason_31 (lv_at hl 4 rfl) ?_
        refine va_iald hx hb hK hP 2 0 rfl rfl (vp_in_nI (by omega) (by decide)) dX7_tellSeason_33 ?_
        refine tp_i (y := tl i) (by rw [nI_clamp (n := i) (by omega)]) ?_
        refine lv_iadd hx hb dX7_tellSeason_34 ?_
        refine lv_istore_n (lv' := [(3, .int ((addW tl i) + (tl i))), (2, .int ((orW ts i) ||| (ts i))), (0, .ref x), (1, .int y), (4, .int (nI i))]) hx hb dX7_tellSeason_35 rfl hl (by decide) rfl (fun ls hl => ?_)
        refine lv_iinc (v := nI (i + 1)) (lv' := [(4, .int (nI (i + 1))), (3, .int ((addW tl i) + (tl i))), (2, .int ((orW ts i) ||| (ts i))), (0, .ref x), (1, .int y)]) hx hb dX7_tellSeason_36 hl (k := 4) rfl (nI_1 _) (by decide) rfl (fun ls hl => ?_)
        refine lv_goto (tgt := 7) hx hb dX7_tellSeason_39 (by decide) ?_
        have e7_2 : ((orW ts i) ||| (ts i)) = orW ts (i + 1) := by rfl
        have hl : lv_has ls 5 [(4, .int (nI (i + 1))), (3, .int ((addW tl i) + (tl i))), (2, .int (orW ts (i + 1))), (0, .ref x), (1, .int y)] := by rw [← e7_2]; exact hl
        have e7_3 : ((addW tl i) + (tl i)) = addW tl (i + 1) := by rfl
        have hl : lv_has ls 5 [(4, .int (nI (i + 1))), (3, .int (addW tl (i + 1))), (2, .int (orW ts (i + 1))), (0, .ref x), (1, .int y)] := by rw [← e7_3]; exact hl
        exact ih7 (i + 1) (by omega) (by omega) _ (lv_sub hl [3, 4, 2, 1, 0] rfl)
  exact lp7 _ 0 (Nat.zero_le _) (Nat.lt_succ_self _) _ (lv_sub hl [3, 4, 2, 1, 0] rfl)
