set_option maxHeartbeats 4000000 in
set_option maxRecDepth 100000 in
theorem c_X7_ofThree (l : Launch) (D : va_G) (cI cO : ClassId) (x : Nat) (fa : Int32) (tr : Int32) (so : Nat) (sl : Nat) (ce : Nat) (n : Nat) (bar : Int32) (tn : Nat) (ki : Nat) (si : Nat) (th : Nat) (ri : Nat) (at_ : Int32) (rp : Int32) (rk : Nat) (rs : Nat) (kt : Nat) (kr : Nat) (kn : Int32) (rg : Int32) (ab : Nat) (am : Int32) (bh : Nat) (bm : Int32) (br : Int32) (rn : Nat) (wa : Nat) (ra : Nat) (kd : Nat → Int32) (sd : Nat → Int32) (ts : Nat → Int32) (tl : Nat → Int32) (pp : Int32) (y : Int32) (hn : n ≤ 9) (hk3 : ∀ j, j < n → kd j = 0 ∨ kd j = 1 ∨ kd j = 2) (ht3 : tn ≤ 3) : Met l yX7_ofThree wsX7_ofThree ({ frames := 2, cells := 0, slots := 0, locals := 45 } : Room) (va_Pc [.ref x, .int pp, .int y] (wdR D cI cO [(x, .inr (7, [.int fa, .int tr, .ref so, .ref sl, .ref ce, .int (nI n), .int bar, .int (nI tn), .ref ki, .ref si, .ref th, .ref ri, .int at_, .int rp, .ref rk, .ref rs, .ref kt, .ref kr, .int kn, .int rg, .ref ab, .int am, .ref bh, .int bm, .int br, .int (nI rn), .ref wa, .ref ra])), (ki, .inl (cI, 9, .inl kd)), (si, .inl (cI, 9, .inl sd)), (th, .inl (cI, 3, .inl ts)), (ri, .inl (cI, 3, .inl tl))])) (vp_Si (fun r => r = (onQ tn pp (fun j => if y = 0 then ts j else if y = 1 then sumW sd (ts j) n else if y = 2 then sumW (rgF kd sd) (ts j) n else if y = 3 then shpI sd (ts j) n else if y = 4 then cornW sd (ts j) n else if y = 5 then tl j else -2) (-1)))) 0 0 (fun _ => False) := by
  refine Met.ofW (cc := cX7_ofThree) (maxL := 3) (ret := (some .int)) (by decide) rfl ?_
  intro p e s m args below meth c s₁ B hml hv
  obtain ⟨rfl, hP, hK, hNw⟩ := hv
  have hx := B.exec
  have hb := B.bytes
  have hr := B.returns
  have hts := atoms_spec (ws := wsX7_ofThree) B.pre
  have hown : s.vm.findClass RX7 = some m.cls := findClass_of_methodNamed B.named
  have hlocks := B.notSynchronized
  have f25 := hts (.fieldLink RX7 25 "StruckThreesModel" "three" "[I") (by decide +kernel)
  have f28 := hts (.fieldLink RX7 28 "StruckThreesModel" "rings" "[I") (by decide +kernel)
  have iX7 : ∀ w ∈ wsX70, w ∈ wsX7_ofThree := by decide +kernel
  have hP : va_P D vwCl [(x, .inr (7, [.int fa, .int tr, .ref so, .ref sl, .ref ce, .int (nI n), .int bar, .int (nI tn), .ref ki, .ref si, .ref th, .ref ri, .int at_, .int rp, .ref rk, .ref rs, .ref kt, .ref kr, .int kn, .int rg, .ref ab, .int am, .ref bh, .int bm, .int br, .int (nI rn), .ref wa, .ref ra])), (ki, .inl (cI, 9, .inl kd)), (si, .inl (cI, 9, .inl sd)), (th, .inl (cI, 3, .inl ts)), (ri, .inl (cI, 3, .inl tl))] s.heap := hP
  have hl := lv_entry ([.ref x, .int pp, .int y]) (n := 3) (Nat.le_of_ble_eq_true rfl)
  rw [lg_entry_eq]
  generalize (lg_sl ([.ref x, .int pp, .int y]) ++ List.replicate (3 - (lg_sl ([.ref x, .int pp, .int y])).length) Slot.unset).toArray = ls at hl ⊢
  have hl : lv_has ls 3 [(0, .ref x), (1, .int pp), (2, .int y)] := hl
  refine lv_aload_n hx hb dX7_ofThree_0 rfl (lv_at hl 0 rfl) ?_
  refine lv_iload_n hx hb dX7_ofThree_1 rfl (lv_at hl 1 rfl) ?_
  have hPc := hP.sub (ws' := [(x, .inr (7, [.int fa, .int tr, .ref so, .ref sl, .ref ce, .int (nI n), .int bar, .int (nI tn), .ref ki, .ref si, .ref th, .ref ri, .int at_, .int rp, .ref rk, .ref rs, .ref kt, .ref kr, .int kn, .int rg, .ref ab, .int am, .ref bh, .int bm, .int br, .int (nI rn), .ref wa, .ref ra]))]) [0] rfl
  refine vp_callSi (va_Run.run (va_runV (As := [.int pp]) (rest := []) ⟨hx, hb, hml, hown, hts⟩ (c_X7_isThree l D cI cO x fa tr so sl ce n bar tn ki si th ri at_ rp rk rs kt kr kn rg ab am bh bm br rn wa ra pp) (cwV 1 hts gX7_ofThree_X7_isThree rfl rfl rfl (by decide +kernel) ⟨Nat.le_of_ble_eq_true rfl, Nat.le_of_ble_eq_true rfl⟩) (preVR hPc hK hNw (va_recv hK hPc (ci := 7) (q0 := 0) rfl rfl)) rfl rfl hl.1 rfl (lv_room (Nat.le_of_ble_eq_true rfl)) dX7_ofThree_2 ⟨Nat.zero_le _, Nat.zero_le _⟩)) (fun r2 w2 => ?_)
  by_cases b2 : ¬ pp < 0 ∧ ¬ nI tn ≤ pp
  · -- y2
    obtain rfl := w2.1 b2
    obtain ⟨j, hj, rfl⟩ := in_nat b2 (show tn < 2 ^ 31 by omega)
    refine lv_if_ne (tgt := 10) hx hb dX7_ofThree_5 (by decide) (fun _ => ?_) (fun h => absurd h (by decide))
    refine lv_iload_n hx hb dX7_ofThree_10 rfl (lv_at hl 2 rfl) ?_
    by_cases k11_0 : y = 0
    · -- case 0
      refine lv_tableIn (off := 37) (tgt := 48) hx hb dX7_ofThree_11 (by rw [k11_0]; decide) (by rw [k11_0]; decide) (by rw [k11_0]; decide) (by decide) ?_
      refine lv_aload_n hx hb dX7_ofThree_48 rfl (lv_at hl 0 rfl) ?_
      refine va_get (D := D) (ci := 7) (v := .ref th) (C := RX7) (T := TX7) (N := 28) hx hb hts iX7 hown hK hP 0 rfl rfl 10 (by decide) f25 (fun _ h9 => h9) rfl dX7_ofThree_49 ?_
      refine lv_iload_n hx hb dX7_ofThree_52 rfl (lv_at hl 1 rfl) ?_
      refine va_iald hx hb hK hP 3 0 rfl rfl (vp_in_nI (by omega) (by decide)) dX7_ofThree_53 ?_
      refine tp_i (y := ts j) (by rw [nI_clamp (n := j) (by omega)]) ?_
      exact W.iret (v := ts j) hx hb hr (fun t ht hW => ⟨_, rfl, by first | (simp [onQ_out b2]; done) | (simp [onQ_in hj (show tn < 2 ^ 31 by omega), *]; done), ht⟩) (fun _ h => absurd h List.not_mem_nil) dX7_ofThree_54
    by_cases k11_1 : y = 1
    · -- case 1
      refine lv_tableIn (off := 44) (tgt := 55) hx hb dX7_ofThree_11 (by rw [k11_1]; decide) (by rw [k11_1]; decide) (by rw [k11_1]; decide) (by decide) ?_
      refine lv_aload_n hx hb dX7_ofThree_55 rfl (lv_at hl 0 rfl) ?_
      refine lv_aload_n hx hb dX7_ofThree_56 rfl (lv_at hl 0 rfl) ?_
      refine va_get (D := D) (ci := 7) (v := .ref th) (C := RX7) (T := TX7) (N := 28) hx hb hts iX7 hown hK hP 0 rfl rfl 10 (by decide) f25 (fun _ h9 => h9) rfl dX7_ofThree_57 ?_
      refine lv_iload_n hx hb dX7_ofThree_60 rfl (lv_at hl 1 rfl) ?_
      refine va_iald hx hb hK hP 3 0 rfl rfl (vp_in_nI (by omega) (by decide)) dX7_ofThree_61 ?_
      refine tp_i (y := ts j) (by rw [nI_clamp (n := j) (by omega)]) ?_
      have hPc := hP.sub (ws' := [(x, .inr (7, [.int fa, .int tr, .ref so, .ref sl, .ref ce, .int (nI n), .int bar, .int (nI tn), .ref ki, .ref si, .ref th, .ref ri, .int at_, .int rp, .ref rk, .ref rs, .ref kt, .ref kr, .int kn, .int rg, .ref ab, .int am, .ref bh, .int bm, .int br, .int (nI rn), .ref wa, .ref ra])), (si, .inl (cI, 9, .inl sd))]) [0, 2] rfl
      refine vp_callSi (va_Run.run (va_runV (As := [.int (ts j)]) (rest := []) ⟨hx, hb, hml, hown, hts⟩ (c_X7_pitchOf l D cI cO x fa tr so sl ce n bar tn ki si th ri at_ rp rk rs kt kr kn rg ab am bh bm br rn wa ra sd (ts j) (by assumption)) (cwV 1 hts gX7_ofThree_X7_pitchOf rfl rfl rfl (by decide +kernel) ⟨Nat.le_of_ble_eq_true rfl, Nat.le_of_ble_eq_true rfl⟩) (preVR hPc hK hNw (va_recv hK hPc (ci := 7) (q0 := 0) rfl rfl)) rfl rfl hl.1 rfl (lv_room (Nat.le_of_ble_eq_true rfl)) dX7_ofThree_62 ⟨Nat.zero_le _, Nat.zero_le _⟩)) (fun r62 w62 => ?_)
      obtain rfl := w62
      exact W.iret (v := sumW sd (ts j) n) hx hb hr (fun t ht hW => ⟨_, rfl, by first | (simp [onQ_out b2]; done) | (simp [onQ_in hj (show tn < 2 ^ 31 by omega), *]; done), ht⟩) (fun _ h => absurd h List.not_mem_nil) dX7_ofThree_65
    by_cases k11_2 : y = 2
    · -- case 2
      refine lv_tableIn (off := 55) (tgt := 66) hx hb dX7_ofThree_11 (by rw [k11_2]; decide) (by rw [k11_2]; decide) (by rw [k11_2]; decide) (by decide) ?_
      refine lv_aload_n hx hb dX7_ofThree_66 rfl (lv_at hl 0 rfl) ?_
      refine lv_aload_n hx hb dX7_ofThree_67 rfl (lv_at hl 0 rfl) ?_
      refine va_get (D := D) (ci := 7) (v := .ref th) (C := RX7) (T := TX7) (N := 28) hx hb hts iX7 hown hK hP 0 rfl rfl 10 (by decide) f25 (fun _ h9 => h9) rfl dX7_ofThree_68 ?_
      refine lv_iload_n hx hb dX7_ofThree_71 rfl (lv_at hl 1 rfl) ?_
      refine va_iald hx hb hK hP 3 0 rfl rfl (vp_in_nI (by omega) (by decide)) dX7_ofThree_72 ?_
      refine tp_i (y := ts j) (by rw [nI_clamp (n := j) (by omega)]) ?_
      have hPc := hP.sub (ws' := [(x, .inr (7, [.int fa, .int tr, .ref so, .ref sl, .ref ce, .int (nI n), .int bar, .int (nI tn), .ref ki, .ref si, .ref th, .ref ri, .int at_, .int rp, .ref rk, .ref rs, .ref kt, .ref kr, .int kn, .int rg, .ref ab, .int am, .ref bh, .int bm, .int br, .int (nI rn), .ref wa, .ref ra])), (ki, .inl (cI, 9, .inl kd)), (si, .inl (cI, 9, .inl sd))]) [0, 1, 2] rfl
      refine vp_callSi (va_Run.run (va_runV (As := [.int (ts j)]) (rest := []) ⟨hx, hb, hml, hown, hts⟩ (c_X7_ringsOf l D cI cO x fa tr so sl ce n bar tn ki si th ri at_ rp rk rs kt kr kn rg ab am bh bm br rn wa ra kd sd (ts j) (by assumption) (by assumption)) (cwV 1 hts gX7_ofThree_X7_ringsOf rfl rfl rfl (by decide +kernel) ⟨Nat.le_of_ble_eq_true rfl, Nat.le_of_ble_eq_true rfl⟩) (preVR hPc hK hNw (va_recv hK hPc (ci := 7) (q0 := 0) rfl rfl)) rfl rfl hl.1 rfl (lv_room (Nat.le_of_ble_eq_true rfl)) dX7_ofThree_73 ⟨Nat.zero_le _, Nat.zero_le _⟩)) (fun r73 w73 => ?_)
      obtain rfl := w73
      exact W.iret (v := sumW (rgF kd sd) (ts j) n) hx hb hr (fun t ht hW => ⟨_, rfl, by first | (simp [onQ_out b2]; done) | (simp [onQ_in hj (show tn < 2 ^ 31 by omega), *]; done), ht⟩) (fun _ h => absurd h List.not_mem_nil) dX7_ofThree_76
    by_cases k11_3 : y = 3
    · -- case 3
      refine lv_tableIn (off := 66) (tgt := 77) hx hb dX7_ofThree_11 (by rw [k11_3]; decide) (by rw [k11_3]; decide) (by rw [k11_3]; decide) (by decide) ?_
      refine lv_aload_n hx hb dX7_ofThree_77 rfl (lv_at hl 0 rfl) ?_
      refine lv_aload_n hx hb dX7_ofThree_78 rfl (lv_at hl 0 rfl) ?_
      refine va_get (D := D) (ci := 7) (v := .ref th) (C := RX7) (T := TX7) (N := 28) hx hb hts iX7 hown hK hP 0 rfl rfl 10 (by decide) f25 (fun _ h9 => h9) rfl dX7_ofThree_79 ?_
      refine lv_iload_n hx hb dX7_ofThree_82 rfl (lv_at hl 1 rfl) ?_
      refine va_iald hx hb hK hP 3 0 rfl rfl (vp_in_nI (by omega) (by decide)) dX7_ofThree_83 ?_
      refine tp_i (y := ts j) (by rw [nI_clamp (n := j) (by omega)]) ?_
      have hPc := hP.sub (ws' := [(x, .inr (7, [.int fa, .int tr, .ref so, .ref sl, .ref ce, .int (nI n), .int bar, .int (nI tn), .ref ki, .ref si, .ref th, .ref ri, .int at_, .int rp, .ref rk, .ref rs, .ref kt, .ref kr, .int kn, .int rg, .ref ab, .int am, .ref bh, .int bm, .int br, .int (nI rn), .ref wa, .ref ra])), (si, .inl (cI, 9, .inl sd))]) [0, 2] rfl
      refine vp_callSi (va_Run.run (va_runV (As := [.int (ts j)]) (rest := []) ⟨hx, hb, hml, hown, hts⟩ (c_X7_shapeOf l D cI cO x fa tr so sl ce n bar tn ki si th ri at_ rp rk rs kt kr kn rg ab am bh bm br rn wa ra sd (ts j) (by assumption)) (cwV 1 hts gX7_ofThree_X7_shapeOf rfl rfl rfl (by decide +kernel) ⟨Nat.le_of_ble_eq_true rfl, Nat.le_of_ble_eq_true rfl⟩) (preVR hPc hK hNw (va_recv hK hPc (ci := 7) (q0 := 0) rfl rfl)) rfl rfl hl.1 rfl (lv_room (Nat.le_of_ble_eq_true rfl)) dX7_ofThree_84 ⟨Nat.zero_le _, Nat.zero_le _⟩)) (fun r84 w84 => ?_)
      obtain rfl := w84
      exact W.iret (v := shpI sd (ts j) n) hx hb hr (fun t ht hW => ⟨_, rfl, by first | (simp [onQ_out b2]; done) | (simp [onQ_in hj (show tn < 2 ^ 31 by omega), *]; done), ht⟩) (fun _ h => absurd h List.not_mem_nil) dX7_ofThree_87
    by_cases k11_4 : y = 4
    · -- case 4
      refine lv_tableIn (off := 77) (tgt := 88) hx hb dX7_ofThree_11 (by rw [k11_4]; decide) (by rw [k11_4]; decide) (by rw [k11_4]; decide) (by decide) ?_
      refine lv_aload_n hx hb dX7_ofThree_88 rfl (lv_at hl 0 rfl) ?_
      refine lv_aload_n hx hb dX7_ofThree_89 rfl (lv_at hl 0 rfl) ?_
      refine va_get (D := D) (ci := 7) (v := .ref th) (C := RX7) (T := TX7) (N := 28) hx hb hts iX7 hown hK hP 0 rfl rfl 10 (by decide) f25 (fun _ h9 => h9) rfl dX7_ofThree_90 ?_
      refine lv_iload_n hx hb dX7_ofThree_93 rfl (lv_at hl 1 rfl) ?_
      refine va_iald hx hb hK hP 3 0 rfl rfl (vp_in_nI (by omega) (by decide)) dX7_ofThree_94 ?_
      refine tp_i (y := ts j) (by rw [nI_clamp (n := j) (by omega)]) ?_
      have hPc := hP.sub (ws' := [(x, .inr (7, [.int fa, .int tr, .ref so, .ref sl, .ref ce, .int (nI n), .int bar, .int (nI tn), .ref ki, .ref si, .ref th, .ref ri, .int at_, .int rp, .ref rk, .ref rs, .ref kt, .ref kr, .int kn, .int rg, .ref ab, .int am, .ref bh, .int bm, .int br, .int (nI rn), .ref wa, .ref ra])), (si, .inl (cI, 9, .inl sd))]) [0, 2] rfl
      refine vp_callSi (va_Run.run (va_runV (As := [.int (ts j)]) (rest := []) ⟨hx, hb, hml, hown, hts⟩ (c_X7_cornerOf l D cI cO x fa tr so sl ce n bar tn ki si th ri at_ rp rk rs kt kr kn rg ab am bh bm br rn wa ra sd (ts j) (by assumption)) (cwV 1 hts gX7_ofThree_X7_cornerOf rfl rfl rfl (by decide +kernel) ⟨Nat.le_of_ble_eq_true rfl, Nat.le_of_ble_eq_true rfl⟩) (preVR hPc hK hNw (va_recv hK hPc (ci := 7) (q0 := 0) rfl rfl)) rfl rfl hl.1 rfl (lv_room (Nat.le_of_ble_eq_true rfl)) dX7_ofThree_95 ⟨Nat.zero_le _, Nat.zero_le _⟩)) (fun r95 w95 => ?_)
      obtain rfl := w95
      exact W.iret (v := cornW sd (ts j) n) hx hb hr (fun t ht hW => ⟨_, rfl, by first | (simp [onQ_out b2]; done) | (simp [onQ_in hj (show tn < 2 ^ 31 by omega), *]; done), ht⟩) (fun _ h => absurd h List.not_mem_nil) dX7_ofThree_98
    by_cases k11_5 : y = 5
    · -- case 5
      refine lv_tableIn (off := 88) (tgt := 99) hx hb dX7_ofThree_11 (by rw [k11_5]; decide) (by rw [k11_5]; decide) (by rw [k11_5]; decide) (by decide) ?_
      refine lv_aload_n hx hb dX7_ofThree_99 rfl (lv_at hl 0 rfl) ?_
      refine va_get (D := D) (ci := 7) (v := .ref ri) (C := RX7) (T := TX7) (N := 28) hx hb hts iX7 hown hK hP 0 rfl rfl 11 (by decide) f28 (fun _ h9 => h9) rfl dX7_ofThree_100 ?_
      refine lv_iload_n hx hb dX7_ofThree_103 rfl (lv_at hl 1 rfl) ?_
      refine va_iald hx hb hK hP 4 0 rfl rfl (vp_in_nI (by omega) (by decide)) dX7_ofThree_104 ?_
      refine tp_i (y := tl j) (by rw [nI_clamp (n := j) (by omega)]) ?_
      exact W.iret (v := tl j) hx hb hr (fun t ht hW => ⟨_, rfl, by first | (simp [onQ_out b2]; done) | (simp [onQ_in hj (show tn < 2 ^ 31 by omega), *]; done), ht⟩) (fun _ h => absurd h List.not_mem_nil) dX7_ofThree_105
    have t11_0 := lv_neT (k := 0) (a := 0) k11_0 (by decide)
    have t11_1 := lv_neT (k := 1) (a := 1) k11_1 (by decide)
    have t11_2 := lv_neT (k := 2) (a := 2) k11_2 (by decide)
    have t11_3 := lv_neT (k := 3) (a := 3) k11_3 (by decide)
    have t11_4 := lv_neT (k := 4) (a := 4) k11_4 (by decide)
    have t11_5 := lv_neT (k := 5) (a := 5) k11_5 (by decide)
    refine lv_tableOut (tgt := 106) hx hb dX7_ofThree_11 (by omega) (by decide) ?_
    refine lv_bipush (v := -2) hx hb dX7_ofThree_106 (by decide) ?_
    exact W.iret (v := -2) hx hb hr (fun t ht hW => ⟨_, rfl, by first | (simp [onQ_out b2]; done) | (simp [onQ_in hj (show tn < 2 ^ 31 by omega), *]; done), ht⟩) (fun _ h => absurd h List.not_mem_nil) dX7_ofThree_108
  · -- n2
    obtain rfl := w2.2 b2
    refine lv_if_ne (tgt := 10) hx hb dX7_ofThree_5 (by decide) (fun h => absurd (by decide) h) (fun _ => ?_)
    refine lv_iconst (v := -1) hx hb dX7_ofThree_8 (by decide) ?_
    exact W.iret (v := -1) hx hb hr (fun t ht hW => ⟨_, rfl, by first | (simp [onQ_out b2]; done) | (simp [onQ_in hj (show tn < 2 ^ 31 by omega), *]; done), ht⟩) (fun _ h => absurd h List.not_mem_nil) dX7_ofThree_9

set_option maxHeartbeats 4000000 in
set_option maxRecDepth 100000 in
theorem c_X7_many (l : Launch) (D : va_G) (cI cO : ClassId) (x : Nat) (fa : Int32) (tr : Int32) (so : Nat) (sl : Nat) (ce : Nat) (n : Nat) (bar : Int32) (tn : Nat) (ki : Nat) (si : Nat) (th : Nat) (ri : Nat) (at_ : Int32) (rp : Int32) (rk : Nat) (rs : Nat) (kt : Nat) (kr : Nat) (kn : Int32) (rg : Int32) (ab : Nat) (am : Int32) (bh : Nat) (bm : Int32) (br : Int32) (rn : Nat) (wa : Nat) (ra : Nat) (tl : Nat → Int32) (y : Int32) (ht3 : tn ≤ 3) : Met l yX7_many wsX7_many ({ frames := 1, cells := 0, slots := 0, locals := 22 } : Room) (va_Pc [.ref x, .int y] (wdR D cI cO [(x, .inr (7, [.int fa, .int tr, .ref so, .ref sl, .ref ce, .int (nI n), .int bar, .int (nI tn), .ref ki, .ref si, .ref th, .ref ri, .int at_, .int rp, .ref rk, .ref rs, .ref kt, .ref kr, .int kn, .int rg, .ref ab, .int am, .ref bh, .int bm, .int br, .int (nI rn), .ref wa, .ref ra])), (ri, .inl (cI, 3, .inl tl))])) (vp_Si (fun r => r = (if y = 0 then nI n else if y = 1 then nI tn else if y = 2 then bar else if y = 3 then cntW tl tn else if y = 4 then nI rn else -2))) 0 0 (fun _ => False) := by
  refine Met.ofW (cc := cX7_many) (maxL := 2) (ret := (some .int)) (by decide) rfl ?_
  intro p e s m args below meth c s₁ B hml hv
  obtain ⟨rfl, hP, hK, hNw⟩ := hv
  have hx := B.exec
  have hb := B.bytes
  have hr := B.returns
  have hts := atoms_spec (ws := wsX7_many) B.pre
  have hown : s.vm.findClass RX7 = some m.cls := findClass_of_methodNamed B.named
  have hlocks := B.notSynchronized
  have f65 := hts (.fieldLink RX7 65 "StruckThreesModel" "people" "I") (by decide +kernel)
  have f68 := hts (.fieldLink RX7 68 "StruckThreesModel" "threes" "I") (by decide +kernel)
  have f95 := hts (.fieldLink RX7 95 "StruckThreesModel" "bar" "I") (by decide +kernel)
  have f98 := hts (.fieldLink RX7 98 "StruckThreesModel" "readings" "I") (by decide +kernel)
  have iX7 : ∀ w ∈ wsX70, w ∈ wsX7_many := by decide +kernel
  have hP : va_P D vwCl [(x, .inr (7, [.int fa, .int tr, .ref so, .ref sl, .ref ce, .int (nI n), .int bar, .int (nI tn), .ref ki, .ref si, .ref th, .ref ri, .int at_, .int rp, .ref rk, .ref rs, .ref kt, .ref kr, .int kn, .int rg, .ref ab, .int am, .ref bh, .int bm, .int br, .int (nI rn), .ref wa, .ref ra])), (ri, .inl (cI, 3, .inl tl))] s.heap := hP
  have hl := lv_entry ([.ref x, .int y]) (n := 2) (Nat.le_of_ble_eq_true rfl)
  rw [lg_entry_eq]
  generalize (lg_sl ([.ref x, .int y]) ++ List.replicate (2 - (lg_sl ([.ref x, .int y])).length) Slot.unset).toArray = ls at hl ⊢
  have hl : lv_has ls 2 [(0, .ref x), (1, .int y)] := hl
  refine lv_iload_n hx hb dX7_many_0 rfl (lv_at hl 1 rfl) ?_
  by_cases k1_0 : y = 0
  · -- case 0
    refine lv_tableIn (off := 35) (tgt := 36) hx hb dX7_many_1 (by rw [k1_0]; decide) (by rw [k1_0]; decide) (by rw [k1_0]; decide) (by decide) ?_
    refine lv_aload_n hx hb dX7_many_36 rfl (lv_at hl 0 rfl) ?_
    refine va_get (D := D) (ci := 7) (v := .int (nI n)) (C := RX7) (T := TX7) (N := 28) hx hb hts iX7 hown hK hP 0 rfl rfl 5 (by decide) f65 (fun _ h9 => h9) rfl dX7_many_37 ?_
    exact W.iret (v := nI n) hx hb hr (fun t ht hW => ⟨_, rfl, by simp [*], ht⟩) (fun _ h => absurd h List.not_mem_nil) dX7_many_40
  by_cases k1_1 : y = 1
  · -- case 1
    refine lv_tableIn (off := 40) (tgt := 41) hx hb dX7_many_1 (by rw [k1_1]; decide) (by rw [k1_1]; decide) (by rw [k1_1]; decide) (by decide) ?_
    refine lv_aload_n hx hb dX7_many_41 rfl (lv_at hl 0 rfl) ?_
    refine va_get (D := D) (ci := 7) (v := .int (nI tn)) (C := RX7) (T := TX7) (N := 28) hx hb hts iX7 hown hK hP 0 rfl rfl 7 (by decide) f68 (fun _ h9 => h9) rfl dX7_many_42 ?_
    exact W.iret (v := nI tn) hx hb hr (fun t ht hW => ⟨_, rfl, by simp [*], ht⟩) (fun _ h => absurd h List.not_mem_nil) dX7_many_45
  by_cases k1_2 : y = 2
  · -- case 2
    refine lv_tableIn (off := 45) (tgt := 46) hx hb dX7_many_1 (by rw [k1_2]; decide) (by rw [k1_2]; decide) (by rw [k1_2]; decide) (by decide) ?_
    refine lv_aload_n hx hb dX7_many_46 rfl (lv_at hl 0 rfl) ?_
    refine va_get (D := D) (ci := 7) (v := .int bar) (C := RX7) (T := TX7) (N := 28) hx hb hts iX7 hown hK hP 0 rfl rfl 6 (by decide) f95 (fun _ h9 => h9) rfl dX7_many_47 ?_
    exact W.iret (v := bar) hx hb hr (fun t ht hW => ⟨_, rfl, by simp [*], ht⟩) (fun _ h => absurd h List.not_mem_nil) dX7_many_50
  by_cases k1_3 : y = 3
  · -- case 3
    refine lv_tableIn (off := 50) (tgt := 51) hx hb dX7_many_1 (by rw [k1_3]; decide) (by rw [k1_3]; decide) (by rw [k1_3]; decide) (by decide) ?_
    refine lv_aload_n hx hb dX7_many_51 rfl (lv_at hl 0 rfl) ?_
    have hPc := hP.sub (ws' := [(x, .inr (7, [.int fa, .int tr, .ref so, .ref sl, .ref ce, .int (nI n), .int bar, .int (nI tn), .ref ki, .ref si, .ref th, .ref ri, .int at_, .int rp, .ref rk, .ref rs, .ref kt, .ref kr, .int kn, .int rg, .ref ab, .int am, .ref bh, .int bm, .int br, .int (nI rn), .ref wa, .ref ra])), (ri, .inl (cI, 3, .inl tl))]) [0, 1] rfl
    refine vp_callSi (va_Run.run (va_runV (As := []) (rest := []) ⟨hx, hb, hml, hown, hts⟩ (c_X7_ringing l D cI cO x fa tr so sl ce n bar tn ki si th ri at_ rp rk rs kt kr kn rg ab am bh bm br rn wa ra tl (by assumption)) (cwV 0 hts gX7_many_X7_ringing rfl rfl rfl (by decide +kernel) ⟨Nat.le_of_ble_eq_true rfl, Nat.le_of_ble_eq_true rfl⟩) (preVR hPc hK hNw (va_recv hK hPc (ci := 7) (q0 := 0) rfl rfl)) rfl rfl hl.1 rfl (lv_room (Nat.le_of_ble_eq_true rfl)) dX7_many_52 ⟨Nat.zero_le _, Nat.zero_le _⟩)) (fun r52 w52 => ?_)
    obtain rfl := w52
    exact W.iret (v := cntW tl tn) hx hb hr (fun t ht hW => ⟨_, rfl, by simp [*], ht⟩) (fun _ h => absurd h List.not_mem_nil) dX7_many_55
  by_cases k1_4 : y = 4
  · -- case 4
    refine lv_tableIn (off := 55) (tgt := 56) hx hb dX7_many_1 (by rw [k1_4]; decide) (by rw [k1_4]; decide) (by rw [k1_4]; decide) (by decide) ?_
    refine lv_aload_n hx hb dX7_many_56 rfl (lv_at hl 0 rfl) ?_
    refine va_get (D := D) (ci := 7) (v := .int (nI rn)) (C := RX7) (T := TX7) (N := 28) hx hb hts iX7 hown hK hP 0 rfl rfl 25 (by decide) f98 (fun _ h9 => h9) rfl dX7_many_57 ?_
    exact W.iret (v := nI rn) hx hb hr (fun t ht hW => ⟨_, rfl, by simp [*], ht⟩) (fun _ h => absurd h List.not_mem_nil) dX7_many_60
  have t1_0 := lv_neT (k := 0) (a := 0) k1_0 (by decide)
  have t1_1 := lv_neT (k := 1) (a := 1) k1_1 (by decide)
  have t1_2 := lv_neT (k := 2) (a := 2) k1_2 (by decide)
  have t1_3 := lv_neT (k := 3) (a := 3) k1_3 (by decide)
  have t1_4 := lv_neT (k := 4) (a := 4) k1_4 (by decide)
  refine lv_tableOut (tgt := 61) hx hb dX7_many_1 (by omega) (by decide) ?_
  refine lv_bipush (v := -2) hx hb dX7_many_61 (by decide) ?_
  exact W.iret (v := -2) hx hb hr (fun t ht hW => ⟨_, rfl, by simp [*], ht⟩) (fun _ h => absurd h List.not_mem_nil) dX7_many_63

set_option maxHeartbeats 4000000 in
set_option maxRecDepth 100000 in
theorem c_X7_trace (l : Launch) (D : va_G) (cI cO : ClassId) (x : Nat) (fa : Int32) (tr : Int32) (so : Nat) (sl : Nat) (ce : Nat) (n : Nat) (bar : Int32) (tn : Nat) (ki : Nat) (si : Nat) (th : Nat) (ri : Nat) (at_ : Int32) (rp : Int32) (rk : Nat) (rs : Nat) (kt : Nat) (kr : Nat) (kn : Int32) (rg : Int32) (ab : Nat) (am : Int32) (bh : Nat) (bm : Int32) (br : Int32) (rn : Nat) (wa : Nat) (ra : Nat) : Met l yX7_trace wsX7_trace ({ frames := 0, cells := 0, slots := 0, locals := 0 } : Room) (va_Pc [.ref x] (wdR D cI cO [(x, .inr (7, [.int fa, .int tr, .ref so, .ref sl, .ref ce, .int (nI n), .int bar, .int (nI tn), .ref ki, .ref si, .ref th, .ref ri, .int at_, .int rp, .ref rk, .ref rs, .ref kt, .ref kr, .int kn, .int rg, .ref ab, .int am, .ref bh, .int bm, .int br, .int (nI rn), .ref wa, .ref ra]))])) (vp_Si (fun r => r = tr)) 0 0 (fun _ => False) := by
  refine Met.ofW (cc := cX7_trace) (maxL := 1) (ret := (some .int)) (by decide) rfl ?_
  intro p e s m args below meth c s₁ B hml hv
  obtain ⟨rfl, hP, hK, hNw⟩ := hv
  have hx := B.exec
  have hb := B.bytes
  have hr := B.returns
  have hts := atoms_spec (ws := wsX7_trace) B.pre
  have hown : s.vm.findClass RX7 = some m.cls := findClass_of_methodNamed B.named
  have hlocks := B.notSynchronized
  have f227 := hts (.fieldLink RX7 227 "StruckThreesModel" "trace" "I") (by decide +kernel)
  have iX7 : ∀ w ∈ wsX70, w ∈ wsX7_trace := by decide +kernel
  have hP : va_P D vwCl [(x, .inr (7, [.int fa, .int tr, .ref so, .ref sl, .ref ce, .int (nI n), .int bar, .int (nI tn), .ref ki, .ref si, .ref th, .ref ri, .int at_, .int rp, .ref rk, .ref rs, .ref kt, .ref kr, .int kn, .int rg, .ref ab, .int am, .ref bh, .int bm, .int br, .int (nI rn), .ref wa, .ref ra]))] s.heap := hP
  have hl := lv_entry ([.ref x]) (n := 1) (Nat.le_of_ble_eq_true rfl)
  rw [lg_entry_eq]
  generalize (lg_sl ([.ref x]) ++ List.replicate (1 - (lg_sl ([.ref x])).length) Slot.unset).toArray = ls at hl ⊢
  have hl : lv_has ls 1 [(0, .ref x)] := hl
  refine lv_aload_n hx hb dX7_trace_0 rfl (lv_at hl 0 rfl) ?_
  refine va_get (D := D) (ci := 7) (v := .int tr) (C := RX7) (T := TX7) (N := 28) hx hb hts iX7 hown hK hP 0 rfl rfl 1 (by decide) f227 (fun _ h9 => h9) rfl dX7_trace_1 ?_
  exact W.iret (v := tr) hx hb hr (fun t ht hW => ⟨_, rfl, by rfl, ht⟩) (fun _ h => absurd h List.not_mem_nil) dX7_trace_4

set_option maxHeartbeats 4000000 in
set_option maxRecDepth 100000 in
theorem c_X7_fault (l : Launch) (D : va_G) (cI cO : ClassId) (x : Nat) (fa : Int32) (tr : Int32) (so : Nat) (sl : Nat) (ce : Nat) (n : Nat) (bar : Int32) (tn : Nat) (ki : Nat) (si : Nat) (th : Nat) (ri : Nat) (at_ : Int32) (rp : Int32) (rk : Nat) (rs : Nat) (kt : Nat) (kr : Nat) (kn : Int32) (rg : Int32) (ab : Nat) (am : Int32) (bh : Nat) (bm : Int32) (br : Int32) (rn : Nat) (wa : Nat) (ra : Nat) : Met l yX7_fault wsX7_fault ({ frames := 0, cells := 0, slots := 0, locals := 0 } : Room) (va_Pc [.ref x] (wdR D cI cO [(x, .inr (7, [.int fa, .int tr, .ref so, .ref sl, .ref ce, .int (nI n), .int bar, .int (nI tn), .ref ki, .ref si, .ref th, .ref ri, .int at_, .int rp, .ref rk, .ref rs, .ref kt, .ref kr, .int kn, .int rg, .ref ab, .int am, .ref bh, .int bm, .int br, .int (nI rn), .ref wa, .ref ra]))])) (vp_Si (fun r => r = fa)) 0 0 (fun _ => False) := by
  refine Met.ofW (cc := cX7_fault) (maxL := 1) (ret := (some .int)) (by decide) rfl ?_
  intro p e s m args below meth c s₁ B hml hv
  obtain ⟨rfl, hP, hK, hNw⟩ := hv
  have hx := B.exec
  have hb := B.bytes
  have hr := B.returns
  have hts := atoms_spec (ws := wsX7_fault) B.pre
  have hown : s.vm.findClass RX7 = some m.cls := findClass_of_methodNamed B.named
  have hlocks := B.notSynchronized
  have f55 := hts (.fieldLink RX7 55 "StruckThreesModel" "fault" "I") (by decide +kernel)
  have iX7 : ∀ w ∈ wsX70, w ∈ wsX7_fault := by decide +kernel
  have hP : va_P D vwCl [(x, .inr (7, [.int fa, .int tr, .ref so, .ref sl, .ref ce, .int (nI n), .int bar, .int (nI tn), .ref ki, .ref si, .ref th, .ref ri, .int at_, .int rp, .ref rk, .ref rs, .ref kt, .ref kr, .int kn, .int rg, .ref ab, .int am, .ref bh, .int bm, .int br, .int (nI rn), .ref wa, .ref ra]))] s.heap := hP
  have hl := lv_entry ([.ref x]) (n := 1) (Nat.le_of_ble_eq_true rfl)
  rw [lg_entry_eq]
  generalize (lg_sl ([.ref x]) ++ List.replicate (1 - (lg_sl ([.ref x])).length) Slot.unset).toArray = ls at hl ⊢
  have hl : lv_has ls 1 [(0, .ref x)] := hl
  refine lv_aload_n hx hb dX7_fault_0 rfl (lv_at hl 0 rfl) ?_
  refine va_get (D := D) (ci := 7) (v := .int fa) (C := RX7) (T := TX7) (N := 28) hx hb hts iX7 hown hK hP 0 rfl rfl 0 (by decide) f55 (fun _ h9 => h9) rfl dX7_fault_1 ?_
  exact W.iret (v := fa) hx hb hr (fun t ht hW => ⟨_, rfl, by rfl, ht⟩) (fun _ h => absurd h List.not_mem_nil) dX7_fault_4

set_option maxHeartbeats 4000000 in
set_option maxRecDepth 100000 in
theorem c_X7_begins (l : Launch) (D : va_G) (cI cO : ClassId) (x : Nat) (fa : Int32) (tr : Int32) (so : Nat) (sl : Nat) (ce : Nat) (n : Nat) (bar : Int32) (tn : Nat) (ki : Nat) (si : Nat) (th : Nat) (ri : Nat) (at_ : Int32) (rp : Int32) (rk : Nat) (rs : Nat) (kt : Nat) (kr : Nat) (kn : Int32) (rg : Int32) (ab : Nat) (am : Int32) (bh : Nat) (bm : Int32) (br : Int32) (rn : Nat) (wa : Nat) (ra : Nat) (b : Int32) (sz : Nat) : Met l yX7_begins wsX7_begins ({ frames := 0, cells := 0, slots := 0, locals := 0 } : Room) (va_Pc [.ref x, .int b] (wdW D cI cO [(x, .inr (7, [.int fa, .int tr, .ref so, .ref sl, .ref ce, .int (nI n), .int bar, .int (nI tn), .ref ki, .ref si, .ref th, .ref ri, .int at_, .int rp, .ref rk, .ref rs, .ref kt, .ref kr, .int kn, .int rg, .ref ab, .int am, .ref bh, .int bm, .int br, .int (nI rn), .ref wa, .ref ra]))] sz)) (va_Qv (S := Int32) (fun u => u = (31 * tr + b)) (fun u t => va_P D vwCl [(x, .inr (7, [.int fa, .int u, .ref so, .ref sl, .ref ce, .int (nI n), .int bar, .int (nI tn), .ref ki, .ref si, .ref th, .ref ri, .int at_, .int rp, .ref rk, .ref rs, .ref kt, .ref kr, .int kn, .int rg, .ref ab, .int am, .ref bh, .int bm, .int br, .int (nI rn), .ref wa, .ref ra]))] t.heap ∧ va_K D vwCl (tyL cI cO) t ∧ va_D (va_A [(x, .inr (7, [.int fa, .int tr, .ref so, .ref sl, .ref ce, .int (nI n), .int bar, .int (nI tn), .ref ki, .ref si, .ref th, .ref ri, .int at_, .int rp, .ref rk, .ref rs, .ref kt, .ref kr, .int kn, .int rg, .ref ab, .int am, .ref bh, .int bm, .int br, .int (nI rn), .ref wa, .ref ra]))] sz) [(x, .inr (7, [.int fa, .int u, .ref so, .ref sl, .ref ce, .int (nI n), .int bar, .int (nI tn), .ref ki, .ref si, .ref th, .ref ri, .int at_, .int rp, .ref rk, .ref rs, .ref kt, .ref kr, .int kn, .int rg, .ref ab, .int am, .ref bh, .int bm, .int br, .int (nI rn), .ref wa, .ref ra]))]) (va_A [(x, .inr (7, [.int fa, .int tr, .ref so, .ref sl, .ref ce, .int (nI n), .int bar, .int (nI tn), .ref ki, .ref si, .ref th, .ref ri, .int at_, .int rp, .ref rk, .ref rs, .ref kt, .ref kr, .int kn, .int rg, .ref ab, .int am, .ref bh, .int bm, .int br, .int (nI rn), .ref wa, .ref ra]))] sz)) 0 0 (va_A [(x, .inr (7, [.int fa, .int tr, .ref so, .ref sl, .ref ce, .int (nI n), .int bar, .int (nI tn), .ref ki, .ref si, .ref th, .ref ri, .int at_, .int rp, .ref rk, .ref rs, .ref kt, .ref kr, .int kn, .int rg, .ref ab, .int am, .ref bh, .int bm, .int br, .int (nI rn), .ref wa, .ref ra]))] sz) := by
  refine Met.ofW (cc := cX7_begins) (maxL := 2) (ret := none) (by decide) rfl ?_
  intro p e s m args below meth c s₁ B hml hv
  obtain ⟨rfl, hsz, hP, hK, hNw, hD0⟩ := hv
  have hx := B.exec
  have hb := B.bytes
  have hr := B.returns
  have hts := atoms_spec (ws := wsX7_begins) B.pre
  have hown : s.vm.findClass RX7 = some m.cls := findClass_of_methodNamed B.named
  have hlocks := B.notSynchronized
  have f227 := hts (.fieldLink RX7 227 "StruckThreesModel" "trace" "I") (by decide +kernel)
  have iX7 : ∀ w ∈ wsX70, w ∈ wsX7_begins := by decide +kernel
  subst hsz
  have hD := hD0.self (sz := s.heap.size)
  generalize hAe : va_A [(x, .inr (7, [.int fa, .int tr, .ref so, .ref sl, .ref ce, .int (nI n), .int bar, .int (nI tn), .ref ki, .ref si, .ref th, .ref ri, .int at_, .int rp, .ref rk, .ref rs, .ref kt, .ref kr, .int kn, .int rg, .ref ab, .int am, .ref bh, .int bm, .int br, .int (nI rn), .ref wa, .ref ra]))] s.heap.size = A at hD ⊢
  have hA : ∀ q : Nat, s.heap.size ≤ q → A q := fun q h => by rw [← hAe]; exact Or.inr h
  have hS : va_S A s.heap s.heap [] := va_S.rf
  have hP : va_P D vwCl [(x, .inr (7, [.int fa, .int tr, .ref so, .ref sl, .ref ce, .int (nI n), .int bar, .int (nI tn), .ref ki, .ref si, .ref th, .ref ri, .int at_, .int rp, .ref rk, .ref rs, .ref kt, .ref kr, .int kn, .int rg, .ref ab, .int am, .ref bh, .int bm, .int br, .int (nI rn), .ref wa, .ref ra]))] s.heap := hP
  have hl := lv_entry ([.ref x, .int b]) (n := 2) (Nat.le_of_ble_eq_true rfl)
  rw [lg_entry_eq]
  generalize (lg_sl ([.ref x, .int b]) ++ List.replicate (2 - (lg_sl ([.ref x, .int b])).length) Slot.unset).toArray = ls at hl ⊢
  have hl : lv_has ls 2 [(0, .ref x), (1, .int b)] := hl
  refine lv_aload_n hx hb dX7_begins_0 rfl (lv_at hl 0 rfl) ?_
  refine lv_bipush (v := 31) hx hb dX7_begins_1 (by decide) ?_
  refine lv_aload_n hx hb dX7_begins_3 rfl (lv_at hl 0 rfl) ?_
  refine va_get (D := D) (ci := 7) (v := .int tr) (C := RX7) (T := TX7) (N := 28) hx hb hts iX7 hown hK hP 0 rfl rfl 1 (by decide) f227 (fun _ h9 => h9) rfl dX7_begins_4 ?_
  refine lv_imul hx hb dX7_begins_7 ?_
  refine lv_iload_n hx hb dX7_begins_8 rfl (lv_at hl 1 rfl) ?_
  refine lv_iadd hx hb dX7_begins_9 ?_
  refine va_put (D := D) (ci := 7) (v := .int ((31 * tr) + b)) (ty := .int) (C := RX7) (T := TX7) (N := 28) hx hb hts iX7 tyX7 tyX7_ok nmX7 hown hK hP hD hS 0 rfl rfl 1 (by decide) f227 (fun _ h9 => h9) rfl (by decide +kernel) rfl rfl (Nat.le_of_ble_eq_true rfl) dX7_begins_10 (fun H locs hP hD hS => ?_)
  have hP : va_P D vwCl [(x, .inr (7, [.int fa, .int ((31 * tr) + b), .ref so, .ref sl, .ref ce, .int (nI n), .int bar, .int (nI tn), .ref ki, .ref si, .ref th, .ref ri, .int at_, .int rp, .ref rk, .ref rs, .ref kt, .ref kr, .int kn, .int rg, .ref ab, .int am, .ref bh, .int bm, .int br, .int (nI rn), .ref wa, .ref ra]))] H := hP
  have hD : va_D A [(x, .inr (7, [.int fa, .int ((31 * tr) + b), .ref so, .ref sl, .ref ce, .int (nI n), .int bar, .int (nI tn), .ref ki, .ref si, .ref th, .ref ri, .int at_, .int rp, .ref rk, .ref rs, .ref kt, .ref kr, .int kn, .int rg, .ref ab, .int am, .ref bh, .int bm, .int br, .int (nI rn), .ref wa, .ref ra]))] := hD
  exact W.vret hx hb hr (fun t ht hW => ⟨⟨((31 * tr) + b), rfl, by rfl, by rw [ht]; exact hP, va_K.moved hW.alike hK, hD⟩, hS.F ht⟩) hS.2.2 dX7_begins_13

set_option maxHeartbeats 4000000 in
set_option maxRecDepth 100000 in
theorem c_X7_tell (l : Launch) (D : va_G) (cI cO : ClassId) (x : Nat) (fa : Int32) (tr : Int32) (so : Nat) (sl : Nat) (ce : Nat) (n : Nat) (bar : Int32) (tn : Nat) (ki : Nat) (si : Nat) (th : Nat) (ri : Nat) (at_ : Int32) (rp : Int32) (rk : Nat) (rs : Nat) (kt : Nat) (kr : Nat) (kn : Int32) (rg : Int32) (ab : Nat) (am : Int32) (bh : Nat) (bm : Int32) (br : Int32) (rn : Nat) (wa : Nat) (ra : Nat) (kd : Nat → Int32) (sd : Nat → Int32) (pp : Int32) (sz : Nat) (hn : n ≤ 9) (hos : okS n sd) : Met l yX7_tell wsX7_tell ({ frames := 1, cells := 0, slots := 0, locals := 21 } : Room) (va_Pc [.ref x, .int pp] (wdW D cI cO [(x, .inr (7, [.int fa, .int tr, .ref so, .ref sl, .ref ce, .int (nI n), .int bar, .int (nI tn), .ref ki, .ref si, .ref th, .ref ri, .int at_, .int rp, .ref rk, .ref rs, .ref kt, .ref kr, .int kn, .int rg, .ref ab, .int am, .ref bh, .int bm, .int br, .int (nI rn), .ref wa, .ref ra])), (ki, .inl (cI, 9, .inl kd)), (si, .inl (cI, 9, .inl sd))] sz)) (va_Qi (S := Int32) (fun r u => r = (onQ n pp (fun j => if kd j = 1 then sd j + 100 else if kd j = 2 then sd j + 100 + sd j else sd j) (-1)) ∧ u = (onQ n pp (fun j => if kd j = 1 then 31 * (31 * tr + 2) + 1 else if kd j = 2 then 31 * (31 * (31 * (31 * tr + 3) + 2) + 1) + 1 else 31 * tr + 1) tr)) (fun u t => va_P D vwCl [(x, .inr (7, [.int fa, .int u, .ref so, .ref sl, .ref ce, .int (nI n), .int bar, .int (nI tn), .ref ki, .ref si, .ref th, .ref ri, .int at_, .int rp, .ref rk, .ref rs, .ref kt, .ref kr, .int kn, .int rg, .ref ab, .int am, .ref bh, .int bm, .int br, .int (nI rn), .ref wa, .ref ra])), (ki, .inl (cI, 9, .inl kd)), (si, .inl (cI, 9, .inl sd))] t.heap ∧ va_K D vwCl (tyL cI cO) t ∧ va_D (va_A [(x, .inr (7, [.int fa, .int tr, .ref so, .ref sl, .ref ce, .int (nI n), .int bar, .int (nI tn), .ref ki, .ref si, .ref th, .ref ri, .int at_, .int rp, .ref rk, .ref rs, .ref kt, .ref kr, .int kn, .int rg, .ref ab, .int am, .ref bh, .int bm, .int br, .int (nI rn), .ref wa, .ref ra])), (ki, .inl (cI, 9, .inl kd)), (si, .inl (cI, 9, .inl sd))] sz) [(x, .inr (7, [.int fa, .int u, .ref so, .ref sl, .ref ce, .int (nI n), .int bar, .int (nI tn), .ref ki, .ref si, .ref th, .ref ri, .int at_, .int rp, .ref rk, .ref rs, .ref kt, .ref kr, .int kn, .int rg, .ref ab, .int am, .ref bh, .int bm, .int br, .int (nI rn), .ref wa, .ref ra])), (ki, .inl (cI, 9, .inl kd)), (si, .inl (cI, 9, .inl sd))]) (va_A [(x, .inr (7, [.int fa, .int tr, .ref so, .ref sl, .ref ce, .int (nI n), .int bar, .int (nI tn), .ref ki, .ref si, .ref th, .ref ri, .int at_, .int rp, .ref rk, .ref rs, .ref kt, .ref kr, .int kn, .int rg, .ref ab, .int am, .ref bh, .int bm, .int br, .int (nI rn), .ref wa, .ref ra])), (ki, .inl (cI, 9, .inl kd)), (si, .inl (cI, 9, .inl sd))] sz)) 0 0 (va_A [(x, .inr (7, [.int fa, .int tr, .ref so, .ref sl, .ref ce, .int (nI n), .int bar, .int (nI tn), .ref ki, .ref si, .ref th, .ref ri, .int at_, .int rp, .ref rk, .ref rs, .ref kt, .ref kr, .int kn, .int rg, .ref ab, .int am, .ref bh, .int bm, .int br, .int (nI rn), .ref wa, .ref ra])), (ki, .inl (cI, 9, .inl kd)), (si, .inl (cI, 9, .inl sd))] sz) := by
  refine Met.ofW (cc := cX7_tell) (maxL := 3) (ret := (some .int)) (by decide) rfl ?_
  intro p e s m args below meth c s₁ B hml hv
  obtain ⟨rfl, hsz, hP, hK, hNw, hD0⟩ := hv
  have hx := B.exec
  have hb := B.bytes
  have hr := B.returns
  have hts := atoms_spec (ws := wsX7_tell) B.pre
  have hown : s.vm.findClass RX7 = some m.cls := findClass_of_methodNamed B.named
  have hlocks := B.notSynchronized
  have f19 := hts (.fieldLink RX7 19 "StruckThreesModel" "kind" "[I") (by decide +kernel)
  have f22 := hts (.fieldLink RX7 22 "StruckThreesModel" "side" "[I") (by decide +kernel)
  have iX7 : ∀ w ∈ wsX70, w ∈ wsX7_tell := by decide +kernel
  subst hsz
  have hD := hD0.self (sz := s.heap.size)
  generalize hAe : va_A [(x, .inr (7, [.int fa, .int tr, .ref so, .ref sl, .ref ce, .int (nI n), .int bar, .int (nI tn), .ref ki, .ref si, .ref th, .ref ri, .int at_, .int rp, .ref rk, .ref rs, .ref kt, .ref kr, .int kn, .int rg, .ref ab, .int am, .ref bh, .int bm, .int br, .int (nI rn), .ref wa, .ref ra])), (ki, .inl (cI, 9, .inl kd)), (si, .inl (cI, 9, .inl sd))] s.heap.size = A at hD ⊢
  have hA : ∀ q : Nat, s.heap.size ≤ q → A q := fun q h => by rw [← hAe]; exact Or.inr h
  have hS : va_S A s.heap s.heap [] := va_S.rf
  have hP : va_P D vwCl [(x, .inr (7, [.int fa, .int tr, .ref so, .ref sl, .ref ce, .int (nI n), .int bar, .int (nI tn), .ref ki, .ref si, .ref th, .ref ri, .int at_, .int rp, .ref rk, .ref rs, .ref kt, .ref kr, .int kn, .int rg, .ref ab, .int am, .ref bh, .int bm, .int br, .int (nI rn), .ref wa, .ref ra])), (ki, .inl (cI, 9, .inl kd)), (si, .inl (cI, 9, .inl sd))] s.heap := hP
  have hl := lv_entry ([.ref x, .int pp]) (n := 3) (Nat.le_of_ble_eq_true rfl)
  rw [lg_entry_eq]
  generalize (lg_sl ([.ref x, .int pp]) ++ List.replicate (3 - (lg_sl ([.ref x, .int pp])).length) Slot.unset).toArray = ls at hl ⊢
  have hl : lv_has ls 3 [(0, .ref x), (1, .int pp)] := hl
  refine lv_aload_n hx hb dX7_tell_0 rfl (lv_at hl 0 rfl) ?_
  refine lv_iload_n hx hb dX7_tell_1 rfl (lv_at hl 1 rfl) ?_
  have hPc := hP.sub (ws' := [(x, .inr (7, [.int fa, .int tr, .ref so, .ref sl, .ref ce, .int (nI n), .int bar, .int (nI tn), .ref ki, .ref si, .ref th, .ref ri, .int at_, .int rp, .ref rk, .ref rs, .ref kt, .ref kr, .int kn, .int rg, .ref ab, .int am, .ref bh, .int bm, .int br, .int (nI rn), .ref wa, .ref ra]))]) [0] rfl
  refine vp_callSi (va_Run.run (va_runV (As := [.int pp]) (rest := []) ⟨hx, hb, hml, hown, hts⟩ (c_X7_isPerson l D cI cO x fa tr so sl ce n bar tn ki si th ri at_ rp rk rs kt kr kn rg ab am bh bm br rn wa ra pp) (cwV 1 hts gX7_tell_X7_isPerson rfl rfl rfl (by decide +kernel) ⟨Nat.le_of_ble_eq_true rfl, Nat.le_of_ble_eq_true rfl⟩) (preVR hPc hK hNw (va_recv hK hPc (ci := 7) (q0 := 0) rfl rfl)) rfl rfl hl.1 rfl (lv_room (Nat.le_of_ble_eq_true rfl)) dX7_tell_2 ⟨Nat.zero_le _, Nat.zero_le _⟩)) (fun r2 w2 => ?_)
  by_cases b2 : ¬ pp < 0 ∧ ¬ nI n ≤ pp
  · -- y2
    obtain rfl := w2.1 b2
    obtain ⟨j, hj, rfl⟩ := in_nat b2 (show n < 2 ^ 31 by omega)
    refine lv_if_ne (tgt := 10) hx hb dX7_tell_5 (by decide) (fun _ => ?_) (fun h => absurd h (by decide))
    refine lv_aload_n hx hb dX7_tell_10 rfl (lv_at hl 0 rfl) ?_
    refine va_get (D := D) (ci := 7) (v := .ref si) (C := RX7) (T := TX7) (N := 28) hx hb hts iX7 hown hK hP 0 rfl rfl 9 (by decide) f22 (fun _ h9 => h9) rfl dX7_tell_11 ?_
    refine lv_iload_n hx hb dX7_tell_14 rfl (lv_at hl 1 rfl) ?_
    refine va_iald hx hb hK hP 2 0 rfl rfl (vp_in_nI (by omega) (by decide)) dX7_tell_15 ?_
    refine tp_i (y := sd j) (by rw [nI_clamp (n := j) (by omega)]) ?_
    refine lv_istore_n (lv' := [(2, .int (sd j)), (0, .ref x), (1, .int (nI j))]) hx hb dX7_tell_16 rfl hl (by decide) rfl (fun ls hl => ?_)
    refine lv_aload_n hx hb dX7_tell_17 rfl (lv_at hl 1 rfl) ?_
    refine va_get (D := D) (ci := 7) (v := .ref ki) (C := RX7) (T := TX7) (N := 28) hx hb hts iX7 hown hK hP 0 rfl rfl 8 (by decide) f19 (fun _ h9 => h9) rfl dX7_tell_18 ?_
    refine lv_iload_n hx hb dX7_tell_21 rfl (lv_at hl 2 rfl) ?_
    refine va_iald hx hb hK hP 1 0 rfl rfl (vp_in_nI (by omega) (by decide)) dX7_tell_22 ?_
    refine tp_i (y := kd j) (by rw [nI_clamp (n := j) (by omega)]) ?_
    by_cases k23_1 : kd j = 1
    · -- case 1
      refine lv_lookup (off := 25) (tgt := 48) hx hb dX7_tell_23 (by decide) (by rw [k23_1]; decide) (by decide) ?_
      refine lv_aload_n hx hb dX7_tell_48 rfl (lv_at hl 1 rfl) ?_
      refine lv_iconst (v := 2) hx hb dX7_tell_49 (by decide) ?_
      have hPc := hP.sub (ws' := [(x, .inr (7, [.int fa, .int tr, .ref so, .ref sl, .ref ce, .int (nI n), .int bar, .int (nI tn), .ref ki, .ref si, .ref th, .ref ri, .int at_, .int rp, .ref rk, .ref rs, .ref kt, .ref kr, .int kn, .int rg, .ref ab, .int am, .ref bh, .int bm, .int br, .int (nI rn), .ref wa, .ref ra]))]) [0] rfl
      have hDc := hD.sub (ws' := [(x, .inr (7, [.int fa, .int tr, .ref so, .ref sl, .ref ce, .int (nI n), .int bar, .int (nI tn), .ref ki, .ref si, .ref th, .ref ri, .int at_, .int rp, .ref rk, .ref rs, .ref kt, .ref kr, .int kn, .int rg, .ref ab, .int am, .ref bh, .int bm, .int br, .int (nI rn), .ref wa, .ref ra]))]) [0] (by decide) rfl
      have hFc := va_free (wc := [(x, .inr (7, [.int fa, .int tr, .ref so, .ref sl, .ref ce, .int (nI n), .int bar, .int (nI tn), .ref ki, .ref si, .ref th, .ref ri, .int at_, .int rp, .ref rk, .ref rs, .ref kt, .ref kr, .int kn, .int rg, .ref ab, .int am, .ref bh, .int bm, .int br, .int (nI rn), .ref wa, .ref ra]))]) hD hS hA [0] rfl
      refine va_callv (va_runV (As := [.int 2]) (rest := []) ⟨hx, hb, hml, hown, hts⟩ (c_X7_begins l D cI cO x fa tr so sl ce n bar tn ki si th ri at_ rp rk rs kt kr kn rg ab am bh bm br rn wa ra 2 _) (cwV 1 hts gX7_tell_X7_begins rfl rfl rfl (by decide +kernel) ⟨Nat.le_of_ble_eq_true rfl, Nat.le_of_ble_eq_true rfl⟩) (preVW hPc hK hNw hDc (va_recv hK hPc (ci := 7) (q0 := 0) rfl rfl)) rfl rfl hl.1 rfl (lv_room (Nat.le_of_ble_eq_true rfl)) dX7_tell_50 ⟨Nat.zero_le _, Nat.zero_le _⟩) hS (fun q _ h => hFc q h) hFc (fun u t H1 locs ht hvm w50 hB hz1 hk1 hS => ?_)
      obtain ⟨tr1_50, rfl⟩ : ∃ z, z = u := ⟨_, rfl⟩
      obtain ⟨hP1, hK1, hD1⟩ := hB
      rw [ht] at hP1
      try dsimp only at w50
      obtain ⟨hP, hD⟩ := va_join (wr := [(ki, .inl (cI, 9, .inl kd)), (si, .inl (cI, 9, .inl sd))]) (w1 := [(x, .inr (7, [.int fa, .int tr1_50, .ref so, .ref sl, .ref ce, .int (nI n), .int bar, .int (nI tn), .ref ki, .ref si, .ref th, .ref ri, .int at_, .int rp, .ref rk, .ref rs, .ref kt, .ref kr, .int kn, .int rg, .ref ab, .int am, .ref bh, .int bm, .int br, .int (nI rn), .ref wa, .ref ra]))]) hP hD [0] [1, 2] rfl rfl (by decide) (by decide) hk1 hFc hP1 hD1
      generalize H1 = H at hP hS ⊢
      have hP := hP.sub (ws' := [(x, .inr (7, [.int fa, .int tr1_50, .ref so, .ref sl, .ref ce, .int (nI n), .int bar, .int (nI tn), .ref ki, .ref si, .ref th, .ref ri, .int at_, .int rp, .ref rk, .ref rs, .ref kt, .ref kr, .int kn, .int rg, .ref ab, .int am, .ref bh, .int bm, .int br, .int (nI rn), .ref wa, .ref ra])), (ki, .inl (cI, 9, .inl kd)), (si, .inl (cI, 9, .inl sd))]) [2, 0, 1] rfl
      have hD := hD.sub (ws' := [(x, .inr (7, [.int fa, .int tr1_50, .ref so, .ref sl, .ref ce, .int (nI n), .int bar, .int (nI tn), .ref ki, .ref si, .ref th, .ref ri, .int at_, .int rp, .ref rk, .ref rs, .ref kt, .ref kr, .int kn, .int rg, .ref ab, .int am, .ref bh, .int bm, .int br, .int (nI rn), .ref wa, .ref ra])), (ki, .inl (cI, 9, .inl kd)), (si, .inl (cI, 9, .inl sd))]) [2, 0, 1] (by decide) rfl
      obtain rfl := w50
      refine lv_aload_n hx hb dX7_tell_53 rfl (lv_at hl 1 rfl) ?_
      refine lv_iconst (v := 1) hx hb dX7_tell_54 (by decide) ?_
      have hPc := hP.sub (ws' := [(x, .inr (7, [.int fa, .int (31 * tr + 2), .ref so, .ref sl, .ref ce, .int (nI n), .int bar, .int (nI tn), .ref ki, .ref si, .ref th, .ref ri, .int at_, .int rp, .ref rk, .ref rs, .ref kt, .ref kr, .int kn, .int rg, .ref ab, .int am, .ref bh, .int bm, .int br, .int (nI rn), .ref wa, .ref ra]))]) [0] rfl
      have hDc := hD.sub (ws' := [(x, .inr (7, [.int fa, .int (31 * tr + 2), .ref so, .ref sl, .ref ce, .int (nI n), .int bar, .int (nI tn), .ref ki, .ref si, .ref th, .ref ri, .int at_, .int rp, .ref rk, .ref rs, .ref kt, .ref kr, .int kn, .int rg, .ref ab, .int am, .ref bh, .int bm, .int br, .int (nI rn), .ref wa, .ref ra]))]) [0] (by decide) rfl
      have hFc := va_free (wc := [(x, .inr (7, [.int fa, .int (31 * tr + 2), .ref so, .ref sl, .ref ce, .int (nI n), .int bar, .int (nI tn), .ref ki, .ref si, .ref th, .ref ri, .int at_, .int rp, .ref rk, .ref rs, .ref kt, .ref kr, .int kn, .int rg, .ref ab, .int am, .ref bh, .int bm, .int br, .int (nI rn), .ref wa, .ref ra]))]) hD hS hA [0] rfl
      refine va_callv (va_runV (As := [.int 1]) (rest := []) ⟨hx, hb, hml, hown, hts⟩ (c_X7_begins l D cI cO x fa (31 * tr + 2) so sl ce n bar tn ki si th ri at_ rp rk rs kt kr kn rg ab am bh bm br rn wa ra 1 _) (cwV 1 hts gX7_tell_X7_begins rfl rfl rfl (by decide +kernel) ⟨Nat.le_of_ble_eq_true rfl, Nat.le_of_ble_eq_true rfl⟩) (preVW hPc hK hNw hDc (va_recv hK hPc (ci := 7) (q0 := 0) rfl rfl)) rfl rfl hl.1 rfl (lv_room (Nat.le_of_ble_eq_true rfl)) dX7_tell_55 ⟨Nat.zero_le _, Nat.zero_le _⟩) hS (fun q _ h => hFc q h) hFc (fun u t H1 locs ht hvm w55 hB hz1 hk1 hS => ?_)
      obtain ⟨tr1_55, rfl⟩ : ∃ z, z = u := ⟨_, rfl⟩
      obtain ⟨hP1, hK1, hD1⟩ := hB
      rw [ht] at hP1
      try dsimp only at w55
      obtain ⟨hP, hD⟩ := va_join (wr := [(ki, .inl (cI, 9, .inl kd)), (si, .inl (cI, 9, .inl sd))]) (w1 := [(x, .inr (7, [.int fa, .int tr1_55, .ref so, .ref sl, .ref ce, .int (nI n), .int bar, .int (nI tn), .ref ki, .ref si, .ref th, .ref ri, .int at_, .int rp, .ref rk, .ref rs, .ref kt, .ref kr, .int kn, .int rg, .ref ab, .int am, .ref bh, .int bm, .int br, .int (nI rn), .ref wa, .ref ra]))]) hP hD [0] [1, 2] rfl rfl (by decide) (by decide) hk1 hFc hP1 hD1
      generalize H1 = H at hP hS ⊢
      have hP := hP.sub (ws' := [(x, .inr (7, [.int fa, .int tr1_55, .ref so, .ref sl, .ref ce, .int (nI n), .int bar, .int (nI tn), .ref ki, .ref si, .ref th, .ref ri, .int at_, .int rp, .ref rk, .ref rs, .ref kt, .ref kr, .int kn, .int rg, .ref ab, .int am, .ref bh, .int bm, .int br, .int (nI rn), .ref wa, .ref ra])), (ki, .inl (cI, 9, .inl kd)), (si, .inl (cI, 9, .inl sd))]) [2, 0, 1] rfl
      have hD := hD.sub (ws' := [(x, .inr (7, [.int fa, .int tr1_55, .ref so, .ref sl, .ref ce, .int (nI n), .int bar, .int (nI tn), .ref ki, .ref si, .ref th, .ref ri, .int at_, .int rp, .ref rk, .ref rs, .ref kt, .ref kr, .int kn, .int rg, .ref ab, .int am, .ref bh, .int bm, .int br, .int (nI rn), .ref wa, .ref ra])), (ki, .inl (cI, 9, .inl kd)), (si, .inl (cI, 9, .inl sd))]) [2, 0, 1] (by decide) rfl
      obtain rfl := w55
      refine lv_iload_n hx hb dX7_tell_58 rfl (lv_at hl 0 rfl) ?_
      refine lv_bipush (v := 100) hx hb dX7_tell_59 (by decide) ?_
      refine lv_iadd hx hb dX7_tell_61 ?_
      exact W.iret (v := (sd j) + 100) hx hb hr (fun t ht hW => ⟨⟨_, (31 * (31 * tr + 2) + 1), rfl, by first | (simp [onQ_out b2]; done) | (simp [onQ_in hj (show n < 2 ^ 31 by omega), *]; done), by rw [ht]; exact hP, va_K.moved hW.alike hK, hD⟩, hS.F ht⟩) hS.2.2 dX7_tell_62
    by_cases k23_2 : kd j = 2
    · -- case 2
      refine lv_lookup (off := 40) (tgt := 63) hx hb dX7_tell_23 (by decide) (by rw [k23_2]; decide) (by decide) ?_
      have k1n : ¬ kd j = 1 := by rw [k23_2]; decide
      refine lv_aload_n hx hb dX7_tell_63 rfl (lv_at hl 1 rfl) ?_
      refine lv_iconst (v := 3) hx hb dX7_tell_64 (by decide) ?_
      have hPc := hP.sub (ws' := [(x, .inr (7, [.int fa, .int tr, .ref so, .ref sl, .ref ce, .int (nI n), .int bar, .int (nI tn), .ref ki, .ref si, .ref th, .ref ri, .int at_, .int rp, .ref rk, .ref rs, .ref kt, .ref kr, .int kn, .int rg, .ref ab, .int am, .ref bh, .int bm, .int br, .int (nI rn), .ref wa, .ref ra]))]) [0] rfl
      have hDc := hD.sub (ws' := [(x, .inr (7, [.int fa, .int tr, .ref so, .ref sl, .ref ce, .int (nI n), .int bar, .int (nI tn), .ref ki, .ref si, .ref th, .ref ri, .int at_, .int rp, .ref rk, .ref rs, .ref kt, .ref kr, .int kn, .int rg, .ref ab, .int am, .ref bh, .int bm, .int br, .int (nI rn), .ref wa, .ref ra]))]) [0] (by decide) rfl
      have hFc := va_free (wc := [(x, .inr (7, [.int fa, .int tr, .ref so, .ref sl, .ref ce, .int (nI n), .int bar, .int (nI tn), .ref ki, .ref si, .ref th, .ref ri, .int at_, .int rp, .ref rk, .ref rs, .ref kt, .ref kr, .int kn, .int rg, .ref ab, .int am, .ref bh, .int bm, .int br, .int (nI rn), .ref wa, .ref ra]))]) hD hS hA [0] rfl
      refine va_callv (va_runV (As := [.int 3]) (rest := []) ⟨hx, hb, hml, hown, hts⟩ (c_X7_begins l D cI cO x fa tr so sl ce n bar tn ki si th ri at_ rp rk rs kt kr kn rg ab am bh bm br rn wa ra 3 _) (cwV 1 hts gX7_tell_X7_begins rfl rfl rfl (by decide +kernel) ⟨Nat.le_of_ble_eq_true rfl, Nat.le_of_ble_eq_true rfl⟩) (preVW hPc hK hNw hDc (va_recv hK hPc (ci := 7) (q0 := 0) rfl rfl)) rfl rfl hl.1 rfl (lv_room (Nat.le_of_ble_eq_true rfl)) dX7_tell_65 ⟨Nat.zero_le _, Nat.zero_le _⟩) hS (fun q _ h => hFc q h) hFc (fun u t H1 locs ht hvm w65 hB hz1 hk1 hS => ?_)
      obtain ⟨tr1_65, rfl⟩ : ∃ z, z = u := ⟨_, rfl⟩
      obtain ⟨hP1, hK1, hD1⟩ := hB
      rw [ht] at hP1
      try dsimp only at w65
      obtain ⟨hP, hD⟩ := va_join (wr := [(ki, .inl (cI, 9, .inl kd)), (si, .inl (cI, 9, .inl sd))]) (w1 := [(x, .inr (7, [.int fa, .int tr1_65, .ref so, .ref sl, .ref ce, .int (nI n), .int bar, .int (nI tn), .ref ki, .ref si, .ref th, .ref ri, .int at_, .int rp, .ref rk, .ref rs, .ref kt, .ref kr, .int kn, .int rg, .ref ab, .int am, .ref bh, .int bm, .int br, .int (nI rn), .ref wa, .ref ra]))]) hP hD [0] [1, 2] rfl rfl (by decide) (by decide) hk1 hFc hP1 hD1
      generalize H1 = H at hP hS ⊢
      have hP := hP.sub (ws' := [(x, .inr (7, [.int fa, .int tr1_65, .ref so, .ref sl, .ref ce, .int (nI n), .int bar, .int (nI tn), .ref ki, .ref si, .ref th, .ref ri, .int at_, .int rp, .ref rk, .ref rs, .ref kt, .ref kr, .int kn, .int rg, .ref ab, .int am, .ref bh, .int bm, .int br, .int (nI rn), .ref wa, .ref ra])), (ki, .inl (cI, 9, .inl kd)), (si, .inl (cI, 9, .inl sd))]) [2, 0, 1] rfl
      have hD := hD.sub (ws' := [(x, .inr (7, [.int fa, .int tr1_65, .ref so, .ref sl, .ref ce, .int (nI n), .int bar, .int (nI tn), .ref ki, .ref si, .ref th, .ref ri, .int at_, .int rp, .ref rk, .ref rs, .ref kt, .ref kr, .int kn, .int rg, .ref ab, .int am, .ref bh, .int bm, .int br, .int (nI rn), .ref wa, .ref ra])), (ki, .inl (cI, 9, .inl kd)), (si, .inl (cI, 9, .inl sd))]) [2, 0, 1] (by decide) rfl
      obtain rfl := w65
      refine lv_aload_n hx hb dX7_tell_68 rfl (lv_at hl 1 rfl) ?_
      refine lv_iconst (v := 2) hx hb dX7_tell_69 (by decide) ?_
      have hPc := hP.sub (ws' := [(x, .inr (7, [.int fa, .int (31 * tr + 3), .ref so, .ref sl, .ref ce, .int (nI n), .int bar, .int (nI tn), .ref ki, .ref si, .ref th, .ref ri, .int at_, .int rp, .ref rk, .ref rs, .ref kt, .ref kr, .int kn, .int rg, .ref ab, .int am, .ref bh, .int bm, .int br, .int (nI rn), .ref wa, .ref ra]))]) [0] rfl
      have hDc := hD.sub (ws' := [(x, .inr (7, [.int fa, .int (31 * tr + 3), .ref so, .ref sl, .ref ce, .int (nI n), .int bar, .int (nI tn), .ref ki, .ref si, .ref th, .ref ri, .int at_, .int rp, .ref rk, .ref rs, .ref kt, .ref kr, .int kn, .int rg, .ref ab, .int am, .ref bh, .int bm, .int br, .int (nI rn), .ref wa, .ref ra]))]) [0] (by decide) rfl
      have hFc := va_free (wc := [(x, .inr (7, [.int fa, .int (31 * tr + 3), .ref so, .ref sl, .ref ce, .int (nI n), .int bar, .int (nI tn), .ref ki, .ref si, .ref th, .ref ri, .int at_, .int rp, .ref rk, .ref rs, .ref kt, .ref kr, .int kn, .int rg, .ref ab, .int am, .ref bh, .int bm, .int br, .int (nI rn), .ref wa, .ref ra]))]) hD hS hA [0] rfl
      refine va_callv (va_runV (As := [.int 2]) (rest := []) ⟨hx, hb, hml, hown, hts⟩ (c_X7_begins l D cI cO x fa (31 * tr + 3) so sl ce n bar tn ki si th ri at_ rp rk rs kt kr kn rg ab am bh bm br rn wa ra 2 _) (cwV 1 hts gX7_tell_X7_begins rfl rfl rfl (by decide +kernel) ⟨Nat.le_of_ble_eq_true rfl, Nat.le_of_ble_eq_true rfl⟩) (preVW hPc hK hNw hDc (va_recv hK hPc (ci := 7) (q0 := 0) rfl rfl)) rfl rfl hl.1 rfl (lv_room (Nat.le_of_ble_eq_true rfl)) dX7_tell_70 ⟨Nat.zero_le _, Nat.zero_le _⟩) hS (fun q _ h => hFc q h) hFc (fun u t H1 locs ht hvm w70 hB hz1 hk1 hS => ?_)
      obtain ⟨tr1_70, rfl⟩ : ∃ z, z = u := ⟨_, rfl⟩
      obtain ⟨hP1, hK1, hD1⟩ := hB
      rw [ht] at hP1
      try dsimp only at w70
      obtain ⟨hP, hD⟩ := va_join (wr := [(ki, .inl (cI, 9, .inl kd)), (si, .inl (cI, 9, .inl sd))]) (w1 := [(x, .inr (7, [.int fa, .int tr1_70, .ref so, .ref sl, .ref ce, .int (nI n), .int bar, .int (nI tn), .ref ki, .ref si, .ref th, .ref ri, .int at_, .int rp, .ref rk, .ref rs, .ref kt, .ref kr, .int kn, .int rg, .ref ab, .int am, .ref bh, .int bm, .int br, .int (nI rn), .ref wa, .ref ra]))]) hP hD [0] [1, 2] rfl rfl (by decide) (by decide) hk1 hFc hP1 hD1
      generalize H1 = H at hP hS ⊢
      have hP := hP.sub (ws' := [(x, .inr (7, [.int fa, .int tr1_70, .ref so, .ref sl, .ref ce, .int (nI n), .int bar, .int (nI tn), .ref ki, .ref si, .ref th, .ref ri, .int at_, .int rp, .ref rk, .ref rs, .ref kt, .ref kr, .int kn, .int rg, .ref ab, .int am, .ref bh, .int bm, .int br, .int (nI rn), .ref wa, .ref ra])), (ki, .inl (cI, 9, .inl kd)), (si, .inl (cI, 9, .inl sd))]) [2, 0, 1] rfl
      have hD := hD.sub (ws' := [(x, .inr (7, [.int fa, .int tr1_70, .ref so, .ref sl, .ref ce, .int (nI n), .int bar, .int (nI tn), .ref ki, .ref si, .ref th, .ref ri, .int at_, .int rp, .ref rk, .ref rs, .ref kt, .ref kr, .int kn, .int rg, .ref ab, .int am, .ref bh, .int bm, .int br, .int (nI rn), .ref wa, .ref ra])), (ki, .inl (cI, 9, .inl kd)), (si, .inl (cI, 9, .inl sd))]) [2, 0, 1] (by decide) rfl
      obtain rfl := w70
      refine lv_aload_n hx hb dX7_tell_73 rfl (lv_at hl 1 rfl) ?_
      refine lv_iconst (v := 1) hx hb dX7_tell_74 (by decide) ?_
      have hPc := hP.sub (ws' := [(x, .inr (7, [.int fa, .int (31 * (31 * tr + 3) + 2), .ref so, .ref sl, .ref ce, .int (nI n), .int bar, .int (nI tn), .ref ki, .ref si, .ref th, .ref ri, .int at_, .int rp, .ref rk, .ref rs, .ref kt, .ref kr, .int kn, .int rg, .ref ab, .int am, .ref bh, .int bm, .int br, .int (nI rn), .ref wa, .ref ra]))]) [0] rfl
      have hDc := hD.sub (ws' := [(x, .inr (7, [.int fa, .int (31 * (31 * tr + 3) + 2), .ref so, .ref sl, .ref ce, .int (nI n), .int bar, .int (nI tn), .ref ki, .ref si, .ref th, .ref ri, .int at_, .int rp, .ref rk, .ref rs, .ref kt, .ref kr, .int kn, .int rg, .ref ab, .int am, .ref bh, .int bm, .int br, .int (nI rn), .ref wa, .ref ra]))]) [0] (by decide) rfl
      have hFc := va_free (wc := [(x, .inr (7, [.int fa, .int (31 * (31 * tr + 3) + 2), .ref so, .ref sl, .ref ce, .int (nI n), .int bar, .int (nI tn), .ref ki, .ref si, .ref th, .ref ri, .int at_, .int rp, .ref rk, .ref rs, .ref kt, .ref kr, .int kn, .int rg, .ref ab, .int am, .ref bh, .int bm, .int br, .int (nI rn), .ref wa, .ref ra]))]) hD hS hA [0] rfl
      refine va_callv (va_runV (As := [.int 1]) (rest := []) ⟨hx, hb, hml, hown, hts⟩ (c_X7_begins l D cI cO x fa (31 * (31 * tr + 3) + 2) so sl ce n bar tn ki si th ri at_ rp rk rs kt kr kn rg ab am bh bm br rn wa ra 1 _) (cwV 1 hts gX7_tell_X7_begins rfl rfl rfl (by decide +kernel) ⟨Nat.le_of_ble_eq_true rfl, Nat.le_of_ble_eq_true rfl⟩) (preVW hPc hK hNw hDc (va_recv hK hPc (ci := 7) (q0 := 0) rfl rfl)) rfl rfl hl.1 rfl (lv_room (Nat.le_of_ble_eq_true rfl)) dX7_tell_75 ⟨Nat.zero_le _, Nat.zero_le _⟩) hS (fun q _ h => hFc q h) hFc (fun u t H1 locs ht hvm w75 hB hz1 hk1 hS => ?_)
      obtain ⟨tr1_75, rfl⟩ : ∃ z, z = u := ⟨_, rfl⟩
      obtain ⟨hP1, hK1, hD1⟩ := hB
      rw [ht] at hP1
      try dsimp only at w75
      obtain ⟨hP, hD⟩ := va_join (wr := [(ki, .inl (cI, 9, .inl kd)), (si, .inl (cI, 9, .inl sd))]) (w1 := [(x, .inr (7, [.int fa, .int tr1_75, .ref so, .ref sl, .ref ce, .int (nI n), .int bar, .int (nI tn), .ref ki, .ref si, .ref th, .ref ri, .int at_, .int rp, .ref rk, .ref rs, .ref kt, .ref kr, .int kn, .int rg, .ref ab, .int am, .ref bh, .int bm, .int br, .int (nI rn), .ref wa, .ref ra]))]) hP hD [0] [1, 2] rfl rfl (by decide) (by decide) hk1 hFc hP1 hD1
      generalize H1 = H at hP hS ⊢
      have hP := hP.sub (ws' := [(x, .inr (7, [.int fa, .int tr1_75, .ref so, .ref sl, .ref ce, .int (nI n), .int bar, .int (nI tn), .ref ki, .ref si, .ref th, .ref ri, .int at_, .int rp, .ref rk, .ref rs, .ref kt, .ref kr, .int kn, .int rg, .ref ab, .int am, .ref bh, .int bm, .int br, .int (nI rn), .ref wa, .ref ra])), (ki, .inl (cI, 9, .inl kd)), (si, .inl (cI, 9, .inl sd))]) [2, 0, 1] rfl
      have hD := hD.sub (ws' := [(x, .inr (7, [.int fa, .int tr1_75, .ref so, .ref sl, .ref ce, .int (nI n), .int bar, .int (nI tn), .ref ki, .ref si, .ref th, .ref ri, .int at_, .int rp, .ref rk, .ref rs, .ref kt, .ref kr, .int kn, .int rg, .ref ab, .int am, .ref bh, .int bm, .int br, .int (nI rn), .ref wa, .ref ra])), (ki, .inl (cI, 9, .inl kd)), (si, .inl (cI, 9, .inl sd))]) [2, 0, 1] (by decide) rfl
      obtain rfl := w75
      refine lv_aload_n hx hb dX7_tell_78 rfl (lv_at hl 1 rfl) ?_
      refine lv_iconst (v := 1) hx hb dX7_tell_79 (by decide) ?_
      have hPc := hP.sub (ws' := [(x, .inr (7, [.int fa, .int (31 * (31 * (31 * tr + 3) + 2) + 1), .ref so, .ref sl, .ref ce, .int (nI n), .int bar, .int (nI tn), .ref ki, .ref si, .ref th, .ref ri, .int at_, .int rp, .ref rk, .ref rs, .ref kt, .ref kr, .int kn, .int rg, .ref ab, .int am, .ref bh, .int bm, .int br, .int (nI rn), .ref wa, .ref ra]))]) [0] rfl
      have hDc := hD.sub (ws' := [(x, .inr (7, [.int fa, .int (31 * (31 * (31 * tr + 3) + 2) + 1), .ref so, .ref sl, .ref ce, .int (nI n), .int bar, .int (nI tn), .ref ki, .ref si, .ref th, .ref ri, .int at_, .int rp, .ref rk, .ref rs, .ref kt, .ref kr, .int kn, .int rg, .ref ab, .int am, .ref bh, .int bm, .int br, .int (nI rn), .ref wa, .ref ra]))]) [0] (by decide) rfl
      have hFc := va_free (wc := [(x, .inr (7, [.int fa, .int (31 * (31 * (31 * tr + 3) + 2) + 1), .ref so, .ref sl, .ref ce, .int (nI n), .int bar, .int (nI tn), .ref ki, .ref si, .ref th, .ref ri, .int at_, .int rp, .ref rk, .ref rs, .ref kt, .ref kr, .int kn, .int rg, .ref ab, .int am, .ref bh, .int bm, .int br, .int (nI rn), .ref wa, .ref ra]))]) hD hS hA [0] rfl
      refine va_callv (va_runV (As := [.int 1]) (rest := []) ⟨hx, hb, hml, hown, hts⟩ (c_X7_begins l D cI cO x fa (31 * (31 * (31 * tr + 3) + 2) + 1) so sl ce n bar tn ki si th ri at_ rp rk rs kt kr kn rg ab am bh bm br rn wa ra 1 _) (cwV 1 hts gX7_tell_X7_begins rfl rfl rfl (by decide +kernel) ⟨Nat.le_of_ble_eq_true rfl, Nat.le_of_ble_eq_true rfl⟩) (preVW hPc hK hNw hDc (va_recv hK hPc (ci := 7) (q0 := 0) rfl rfl)) rfl rfl hl.1 rfl (lv_room (Nat.le_of_ble_eq_true rfl)) dX7_tell_80 ⟨Nat.zero_le _, Nat.zero_le _⟩) hS (fun q _ h => hFc q h) hFc (fun u t H1 locs ht hvm w80 hB hz1 hk1 hS => ?_)
      obtain ⟨tr1_80, rfl⟩ : ∃ z, z = u := ⟨_, rfl⟩
      obtain ⟨hP1, hK1, hD1⟩ := hB
      rw [ht] at hP1
      try dsimp only at w80
      obtain ⟨hP, hD⟩ := va_join (wr := [(ki, .inl (cI, 9, .inl kd)), (si, .inl (cI, 9, .inl sd))]) (w1 := [(x, .inr (7, [.int fa, .int tr1_80, .ref so, .ref sl, .ref ce, .int (nI n), .int bar, .int (nI tn), .ref ki, .ref si, .ref th, .ref ri, .int at_, .int rp, .ref rk, .ref rs, .ref kt, .ref kr, .int kn, .int rg, .ref ab, .int am, .ref bh, .int bm, .int br, .int (nI rn), .ref wa, .ref ra]))]) hP hD [0] [1, 2] rfl rfl (by decide) (by decide) hk1 hFc hP1 hD1
      generalize H1 = H at hP hS ⊢
      have hP := hP.sub (ws' := [(x, .inr (7, [.int fa, .int tr1_80, .ref so, .ref sl, .ref ce, .int (nI n), .int bar, .int (nI tn), .ref ki, .ref si, .ref th, .ref ri, .int at_, .int rp, .ref rk, .ref rs, .ref kt, .ref kr, .int kn, .int rg, .ref ab, .int am, .ref bh, .int bm, .int br, .int (nI rn), .ref wa, .ref ra])), (ki, .inl (cI, 9, .inl kd)), (si, .inl (cI, 9, .inl sd))]) [2, 0, 1] rfl
      have hD := hD.sub (ws' := [(x, .inr (7, [.int fa, .int tr1_80, .ref so, .ref sl, .ref ce, .int (nI n), .int bar, .int (nI tn), .ref ki, .ref si, .ref th, .ref ri, .int at_, .int rp, .ref rk, .ref rs, .ref kt, .ref kr, .int kn, .int rg, .ref ab, .int am, .ref bh, .int bm, .int br, .int (nI rn), .ref wa, .ref ra])), (ki, .inl (cI, 9, .inl kd)), (si, .inl (cI, 9, .inl sd))]) [2, 0, 1] (by decide) rfl
      obtain rfl := w80
      refine lv_iconst (v := 2) hx hb dX7_tell_83 (by decide) ?_
      refine lv_iload_n hx hb dX7_tell_84 rfl (lv_at hl 0 rfl) ?_
      refine lv_imul hx hb dX7_tell_85 ?_
      refine lv_bipush (v := 100) hx hb dX7_tell_86 (by decide) ?_
      refine lv_iadd hx hb dX7_tell_88 ?_
      refine tp_i (y := sd j + 100 + sd j) (tl2 (hos j hj)) ?_
      exact W.iret (v := sd j + 100 + sd j) hx hb hr (fun t ht hW => ⟨⟨_, (31 * (31 * (31 * (31 * tr + 3) + 2) + 1) + 1), rfl, by first | (simp [onQ_out b2]; done) | (simp [onQ_in hj (show n < 2 ^ 31 by omega), *]; done), by rw [ht]; exact hP, va_K.moved hW.alike hK, hD⟩, hS.F ht⟩) hS.2.2 dX7_tell_89
    refine lv_lookup (off := 67) (tgt := 90) hx hb dX7_tell_23 (by decide) (by show Op.lookupswitch.offset [(1, 25), (2, 40)] 67 _ = _; rw [lv_osw (k := 1) k23_1 (by decide), lv_osw (k := 2) k23_2 (by decide)]; rfl) (by decide) ?_
    refine lv_aload_n hx hb dX7_tell_90 rfl (lv_at hl 1 rfl) ?_
    refine lv_iconst (v := 1) hx hb dX7_tell_91 (by decide) ?_
    have hPc := hP.sub (ws' := [(x, .inr (7, [.int fa, .int tr, .ref so, .ref sl, .ref ce, .int (nI n), .int bar, .int (nI tn), .ref ki, .ref si, .ref th, .ref ri, .int at_, .int rp, .ref rk, .ref rs, .ref kt, .ref kr, .int kn, .int rg, .ref ab, .int am, .ref bh, .int bm, .int br, .int (nI rn), .ref wa, .ref ra]))]) [0] rfl
    have hDc := hD.sub (ws' := [(x, .inr (7, [.int fa, .int tr, .ref so, .ref sl, .ref ce, .int (nI n), .int bar, .int (nI tn), .ref ki, .ref si, .ref th, .ref ri, .int at_, .int rp, .ref rk, .ref rs, .ref kt, .ref kr, .int kn, .int rg, .ref ab, .int am, .ref bh, .int bm, .int br, .int (nI rn), .ref wa, .ref ra]))]) [0] (by decide) rfl
    have hFc := va_free (wc := [(x, .inr (7, [.int fa, .int tr, .ref so, .ref sl, .ref ce, .int (nI n), .int bar, .int (nI tn), .ref ki, .ref si, .ref th, .ref ri, .int at_, .int rp, .ref rk, .ref rs, .ref kt, .ref kr, .int kn, .int rg, .ref ab, .int am, .ref bh, .int bm, .int br, .int (nI rn), .ref wa, .ref ra]))]) hD hS hA [0] rfl
    refine va_callv (va_runV (As := [.int 1]) (rest := []) ⟨hx, hb, hml, hown, hts⟩ (c_X7_begins l D cI cO x fa tr so sl ce n bar tn ki si th ri at_ rp rk rs kt kr kn rg ab am bh bm br rn wa ra 1 _) (cwV 1 hts gX7_tell_X7_begins rfl rfl rfl (by decide +kernel) ⟨Nat.le_of_ble_eq_true rfl, Nat.le_of_ble_eq_true rfl⟩) (preVW hPc hK hNw hDc (va_recv hK hPc (ci := 7) (q0 := 0) rfl rfl)) rfl rfl hl.1 rfl (lv_room (Nat.le_of_ble_eq_true rfl)) dX7_tell_92 ⟨Nat.zero_le _, Nat.zero_le _⟩) hS (fun q _ h => hFc q h) hFc (fun u t H1 locs ht hvm w92 hB hz1 hk1 hS => ?_)
    obtain ⟨tr1_92, rfl⟩ : ∃ z, z = u := ⟨_, rfl⟩
    obtain ⟨hP1, hK1, hD1⟩ := hB
    rw [ht] at hP1
    try dsimp only at w92
    obtain ⟨hP, hD⟩ := va_join (wr := [(ki, .inl (cI, 9, .inl kd)), (si, .inl (cI, 9, .inl sd))]) (w1 := [(x, .inr (7, [.int fa, .int tr1_92, .ref so, .ref sl, .ref ce, .int (nI n), .int bar, .int (nI tn), .ref ki, .ref si, .ref th, .ref ri, .int at_, .int rp, .ref rk, .ref rs, .ref kt, .ref kr, .int kn, .int rg, .ref ab, .int am, .ref bh, .int bm, .int br, .int (nI rn), .ref wa, .ref ra]))]) hP hD [0] [1, 2] rfl rfl (by decide) (by decide) hk1 hFc hP1 hD1
    generalize H1 = H at hP hS ⊢
    have hP := hP.sub (ws' := [(x, .inr (7, [.int fa, .int tr1_92, .ref so, .ref sl, .ref ce, .int (nI n), .int bar, .int (nI tn), .ref ki, .ref si, .ref th, .ref ri, .int at_, .int rp, .ref rk, .ref rs, .ref kt, .ref kr, .int kn, .int rg, .ref ab, .int am, .ref bh, .int bm, .int br, .int (nI rn), .ref wa, .ref ra])), (ki, .inl (cI, 9, .inl kd)), (si, .inl (cI, 9, .inl sd))]) [2, 0, 1] rfl
    have hD := hD.sub (ws' := [(x, .inr (7, [.int fa, .int tr1_92, .ref so, .ref sl, .ref ce, .int (nI n), .int bar, .int (nI tn), .ref ki, .ref si, .ref th, .ref ri, .int at_, .int rp, .ref rk, .ref rs, .ref kt, .ref kr, .int kn, .int rg, .ref ab, .int am, .ref bh, .int bm, .int br, .int (nI rn), .ref wa, .ref ra])), (ki, .inl (cI, 9, .inl kd)), (si, .inl (cI, 9, .inl sd))]) [2, 0, 1] (by decide) rfl
    obtain rfl := w92
    refine lv_iload_n hx hb dX7_tell_95 rfl (lv_at hl 0 rfl) ?_
    exact W.iret (v := sd j) hx hb hr (fun t ht hW => ⟨⟨_, (31 * tr + 1), rfl, by first | (simp [onQ_out b2]; done) | (simp [onQ_in hj (show n < 2 ^ 31 by omega), *]; done), by rw [ht]; exact hP, va_K.moved hW.alike hK, hD⟩, hS.F ht⟩) hS.2.2 dX7_tell_96
  · -- n2
    obtain rfl := w2.2 b2
    refine lv_if_ne (tgt := 10) hx hb dX7_tell_5 (by decide) (fun h => absurd (by decide) h) (fun _ => ?_)
    refine lv_iconst (v := -1) hx hb dX7_tell_8 (by decide) ?_
    exact W.iret (v := -1) hx hb hr (fun t ht hW => ⟨⟨_, tr, rfl, by first | (simp [onQ_out b2]; done) | (simp [onQ_in hj (show n < 2 ^ 31 by omega), *]; done), by rw [ht]; exact hP, va_K.moved hW.alike hK, hD⟩, hS.F ht⟩) hS.2.2 dX7_tell_9

set_option maxHeartbeats 4000000 in
set_option maxRecDepth 100000 in
theorem c_X7_count (l : Launch) (D : va_G) (cI cO : ClassId) (x : Nat) (fa : Int32) (tr : Int32) (so : Nat) (sl : Nat) (ce : Nat) (n : Nat) (bar : Int32) (tn : Nat) (ki : Nat) (si : Nat) (th : Nat) (ri : Nat) (at_ : Int32) (rp : Int32) (rk : Nat) (rs : Nat) (kt : Nat) (kr : Nat) (kn : Int32) (rg : Int32) (ab : Nat) (am : Int32) (bh : Nat) (bm : Int32) (br : Int32) (rn : Nat) (wa : Nat) (ra : Nat) (kd : Nat → Int32) (pp : Int32) (sz : Nat) (hn : n ≤ 9) : Met l yX7_count wsX7_count ({ frames := 1, cells := 0, slots := 0, locals := 21 } : Room) (va_Pc [.ref x, .int pp] (wdW D cI cO [(x, .inr (7, [.int fa, .int tr, .ref so, .ref sl, .ref ce, .int (nI n), .int bar, .int (nI tn), .ref ki, .ref si, .ref th, .ref ri, .int at_, .int rp, .ref rk, .ref rs, .ref kt, .ref kr, .int kn, .int rg, .ref ab, .int am, .ref bh, .int bm, .int br, .int (nI rn), .ref wa, .ref ra])), (ki, .inl (cI, 9, .inl kd))] sz)) (va_Qi (S := Int32) (fun r u => r = (onQ n pp (fun j => if kd j = 2 then 30 else nI j) (-1)) ∧ u = (onQ n pp (fun j => if kd j = 2 then 31 * tr + 5 else 31 * tr + 4) tr)) (fun u t => va_P D vwCl [(x, .inr (7, [.int fa, .int u, .ref so, .ref sl, .ref ce, .int (nI n), .int bar, .int (nI tn), .ref ki, .ref si, .ref th, .ref ri, .int at_, .int rp, .ref rk, .ref rs, .ref kt, .ref kr, .int kn, .int rg, .ref ab, .int am, .ref bh, .int bm, .int br, .int (nI rn), .ref wa, .ref ra])), (ki, .inl (cI, 9, .inl kd))] t.heap ∧ va_K D vwCl (tyL cI cO) t ∧ va_D (va_A [(x, .inr (7, [.int fa, .int tr, .ref so, .ref sl, .ref ce, .int (nI n), .int bar, .int (nI tn), .ref ki, .ref si, .ref th, .ref ri, .int at_, .int rp, .ref rk, .ref rs, .ref kt, .ref kr, .int kn, .int rg, .ref ab, .int am, .ref bh, .int bm, .int br, .int (nI rn), .ref wa, .ref ra])), (ki, .inl (cI, 9, .inl kd))] sz) [(x, .inr (7, [.int fa, .int u, .ref so, .ref sl, .ref ce, .int (nI n), .int bar, .int (nI tn), .ref ki, .ref si, .ref th, .ref ri, .int at_, .int rp, .ref rk, .ref rs, .ref kt, .ref kr, .int kn, .int rg, .ref ab, .int am, .ref bh, .int bm, .int br, .int (nI rn), .ref wa, .ref ra])), (ki, .inl (cI, 9, .inl kd))]) (va_A [(x, .inr (7, [.int fa, .int tr, .ref so, .ref sl, .ref ce, .int (nI n), .int bar, .int (nI tn), .ref ki, .ref si, .ref th, .ref ri, .int at_, .int rp, .ref rk, .ref rs, .ref kt, .ref kr, .int kn, .int rg, .ref ab, .int am, .ref bh, .int bm, .int br, .int (nI rn), .ref wa, .ref ra])), (ki, .inl (cI, 9, .inl kd))] sz)) 0 0 (va_A [(x, .inr (7, [.int fa, .int tr, .ref so, .ref sl, .ref ce, .int (nI n), .int bar, .int (nI tn), .ref ki, .ref si, .ref th, .ref ri, .int at_, .int rp, .ref rk, .ref rs, .ref kt, .ref kr, .int kn, .int rg, .ref ab, .int am, .ref bh, .int bm, .int br, .int (nI rn), .ref wa, .ref ra])), (ki, .inl (cI, 9, .inl kd))] sz) := by
  refine Met.ofW (cc := cX7_count) (maxL := 2) (ret := (some .int)) (by decide) rfl ?_
  intro p e s m args below meth c s₁ B hml hv
  obtain ⟨rfl, hsz, hP, hK, hNw, hD0⟩ := hv
  have hx := B.exec
  have hb := B.bytes
  have hr := B.returns
  have hts := atoms_spec (ws := wsX7_count) B.pre
  have hown : s.vm.findClass RX7 = some m.cls := findClass_of_methodNamed B.named
  have hlocks := B.notSynchronized
  have f19 := hts (.fieldLink RX7 19 "StruckThreesModel" "kind" "[I") (by decide +kernel)
  have iX7 : ∀ w ∈ wsX70, w ∈ wsX7_count := by decide +kernel
  subst hsz
  have hD := hD0.self (sz := s.heap.size)
  generalize hAe : va_A [(x, .inr (7, [.int fa, .int tr, .ref so, .ref sl, .ref ce, .int (nI n), .int bar, .int (nI tn), .ref ki, .ref si, .ref th, .ref ri, .int at_, .int rp, .ref rk, .ref rs, .ref kt, .ref kr, .int kn, .int rg, .ref ab, .int am, .ref bh, .int bm, .int br, .int (nI rn), .ref wa, .ref ra])), (ki, .inl (cI, 9, .inl kd))] s.heap.size = A at hD ⊢
  have hA : ∀ q : Nat, s.heap.size ≤ q → A q := fun q h => by rw [← hAe]; exact Or.inr h
  have hS : va_S A s.heap s.heap [] := va_S.rf
  have hP : va_P D vwCl [(x, .inr (7, [.int fa, .int tr, .ref so, .ref sl, .ref ce, .int (nI n), .int bar, .int (nI tn), .ref ki, .ref si, .ref th, .ref ri, .int at_, .int rp, .ref rk, .ref rs, .ref kt, .ref kr, .int kn, .int rg, .ref ab, .int am, .ref bh, .int bm, .int br, .int (nI rn), .ref wa, .ref ra])), (ki, .inl (cI, 9, .inl kd))] s.heap := hP
  have hl := lv_entry ([.ref x, .int pp]) (n := 2) (Nat.le_of_ble_eq_true rfl)
  rw [lg_entry_eq]
  generalize (lg_sl ([.ref x, .int pp]) ++ List.replicate (2 - (lg_sl ([.ref x, .int pp])).length) Slot.unset).toArray = ls at hl ⊢
  have hl : lv_has ls 2 [(0, .ref x), (1, .int pp)] := hl
  refine lv_aload_n hx hb dX7_count_0 rfl (lv_at hl 0 rfl) ?_
  refine lv_iload_n hx hb dX7_count_1 rfl (lv_at hl 1 rfl) ?_
  have hPc := hP.sub (ws' := [(x, .inr (7, [.int fa, .int tr, .ref so, .ref sl, .ref ce, .int (nI n), .int bar, .int (nI tn), .ref ki, .ref si, .ref th, .ref ri, .int at_, .int rp, .ref rk, .ref rs, .ref kt, .ref kr, .int kn, .int rg, .ref ab, .int am, .ref bh, .int bm, .int br, .int (nI rn), .ref wa, .ref ra]))]) [0] rfl
  refine vp_callSi (va_Run.run (va_runV (As := [.int pp]) (rest := []) ⟨hx, hb, hml, hown, hts⟩ (c_X7_isPerson l D cI cO x fa tr so sl ce n bar tn ki si th ri at_ rp rk rs kt kr kn rg ab am bh bm br rn wa ra pp) (cwV 1 hts gX7_count_X7_isPerson rfl rfl rfl (by decide +kernel) ⟨Nat.le_of_ble_eq_true rfl, Nat.le_of_ble_eq_true rfl⟩) (preVR hPc hK hNw (va_recv hK hPc (ci := 7) (q0 := 0) rfl rfl)) rfl rfl hl.1 rfl (lv_room (Nat.le_of_ble_eq_true rfl)) dX7_count_2 ⟨Nat.zero_le _, Nat.zero_le _⟩)) (fun r2 w2 => ?_)
  by_cases b2 : ¬ pp < 0 ∧ ¬ nI n ≤ pp
  · -- y2
    obtain rfl := w2.1 b2
    obtain ⟨j, hj, rfl⟩ := in_nat b2 (show n < 2 ^ 31 by omega)
    refine lv_if_ne (tgt := 10) hx hb dX7_count_5 (by decide) (fun _ => ?_) (fun h => absurd h (by decide))
    refine lv_aload_n hx hb dX7_count_10 rfl (lv_at hl 0 rfl) ?_
    refine lv_aload_n hx hb dX7_count_11 rfl (lv_at hl 0 rfl) ?_
    refine va_get (D := D) (ci := 7) (v := .ref ki) (C := RX7) (T := TX7) (N := 28) hx hb hts iX7 hown hK hP 0 rfl rfl 8 (by decide) f19 (fun _ h9 => h9) rfl dX7_count_12 ?_
    refine lv_iload_n hx hb dX7_count_15 rfl (lv_at hl 1 rfl) ?_
    refine va_iald hx hb hK hP 1 0 rfl rfl (vp_in_nI (by omega) (by decide)) dX7_count_16 ?_
    refine tp_i (y := kd j) (by rw [nI_clamp (n := j) (by omega)]) ?_
    refine lv_iconst (v := 2) hx hb dX7_count_17 (by decide) ?_
    refine lv_icmp_ne (tgt := 25) hx hb dX7_count_18 (by decide) (fun c18 => ?_) (fun c18 => ?_)
    · -- t18
      refine lv_iconst (v := 4) hx hb dX7_count_25 (by decide) ?_
      have hPc := hP.sub (ws' := [(x, .inr (7, [.int fa, .int tr, .ref so, .ref sl, .ref ce, .int (nI n), .int bar, .int (nI tn), .ref ki, .ref si, .ref th, .ref ri, .int at_, .int rp, .ref rk, .ref rs, .ref kt, .ref kr, .int kn, .int rg, .ref ab, .int am, .ref bh, .int bm, .int br, .int (nI rn), .ref wa, .ref ra]))]) [0] rfl
      have hDc := hD.sub (ws' := [(x, .inr (7, [.int fa, .int tr, .ref so, .ref sl, .ref ce, .int (nI n), .int bar, .int (nI tn), .ref ki, .ref si, .ref th, .ref ri, .int at_, .int rp, .ref rk, .ref rs, .ref kt, .ref kr, .int kn, .int rg, .ref ab, .int am, .ref bh, .int bm, .int br, .int (nI rn), .ref wa, .ref ra]))]) [0] (by decide) rfl
      have hFc := va_free (wc := [(x, .inr (7, [.int fa, .int tr, .ref so, .ref sl, .ref ce, .int (nI n), .int bar, .int (nI tn), .ref ki, .ref si, .ref th, .ref ri, .int at_, .int rp, .ref rk, .ref rs, .ref kt, .ref kr, .int kn, .int rg, .ref ab, .int am, .ref bh, .int bm, .int br, .int (nI rn), .ref wa, .ref ra]))]) hD hS hA [0] rfl
      refine va_callv (va_runV (As := [.int 4]) (rest := []) ⟨hx, hb, hml, hown, hts⟩ (c_X7_begins l D cI cO x fa tr so sl ce n bar tn ki si th ri at_ rp rk rs kt kr kn rg ab am bh bm br rn wa ra 4 _) (cwV 1 hts gX7_count_X7_begins rfl rfl rfl (by decide +kernel) ⟨Nat.le_of_ble_eq_true rfl, Nat.le_of_ble_eq_true rfl⟩) (preVW hPc hK hNw hDc (va_recv hK hPc (ci := 7) (q0 := 0) rfl rfl)) rfl rfl hl.1 rfl (lv_room (Nat.le_of_ble_eq_true rfl)) dX7_count_26 ⟨Nat.zero_le _, Nat.zero_le _⟩) hS (fun q _ h => hFc q h) hFc (fun u t H1 locs ht hvm w26 hB hz1 hk1 hS => ?_)
      obtain ⟨tr1_26, rfl⟩ : ∃ z, z = u := ⟨_, rfl⟩
      obtain ⟨hP1, hK1, hD1⟩ := hB
      rw [ht] at hP1
      try dsimp only at w26
      obtain ⟨hP, hD⟩ := va_join (wr := [(ki, .inl (cI, 9, .inl kd))]) (w1 := [(x, .inr (7, [.int fa, .int tr1_26, .ref so, .ref sl, .ref ce, .int (nI n), .int bar, .int (nI tn), .ref ki, .ref si, .ref th, .ref ri, .int at_, .int rp, .ref rk, .ref rs, .ref kt, .ref kr, .int kn, .int rg, .ref ab, .int am, .ref bh, .int bm, .int br, .int (nI rn), .ref wa, .ref ra]))]) hP hD [0] [1] rfl rfl (by decide) (by decide) hk1 hFc hP1 hD1
      generalize H1 = H at hP hS ⊢
      have hP := hP.sub (ws' := [(x, .inr (7, [.int fa, .int tr1_26, .ref so, .ref sl, .ref ce, .int (nI n), .int bar, .int (nI tn), .ref ki, .ref si, .ref th, .ref ri, .int at_, .int rp, .ref rk, .ref rs, .ref kt, .ref kr, .int kn, .int rg, .ref ab, .int am, .ref bh, .int bm, .int br, .int (nI rn), .ref wa, .ref ra])), (ki, .inl (cI, 9, .inl kd))]) [1, 0] rfl
      have hD := hD.sub (ws' := [(x, .inr (7, [.int fa, .int tr1_26, .ref so, .ref sl, .ref ce, .int (nI n), .int bar, .int (nI tn), .ref ki, .ref si, .ref th, .ref ri, .int at_, .int rp, .ref rk, .ref rs, .ref kt, .ref kr, .int kn, .int rg, .ref ab, .int am, .ref bh, .int bm, .int br, .int (nI rn), .ref wa, .ref ra])), (ki, .inl (cI, 9, .inl kd))]) [1, 0] (by decide) rfl
      obtain rfl := w26
      refine lv_aload_n hx hb dX7_count_29 rfl (lv_at hl 0 rfl) ?_
      refine va_get (D := D) (ci := 7) (v := .ref ki) (C := RX7) (T := TX7) (N := 28) hx hb hts iX7 hown hK hP 0 rfl rfl 8 (by decide) f19 (fun _ h9 => h9) rfl dX7_count_30 ?_
      refine lv_iload_n hx hb dX7_count_33 rfl (lv_at hl 1 rfl) ?_
      refine va_iald hx hb hK hP 1 0 rfl rfl (vp_in_nI (by omega) (by decide)) dX7_count_34 ?_
      refine tp_i (y := kd j) (by rw [nI_clamp (n := j) (by omega)]) ?_
      refine lv_iconst (v := 2) hx hb dX7_count_35 (by decide) ?_
      refine lv_icmp_ne (tgt := 44) hx hb dX7_count_36 (by decide) (fun c36 => ?_) (fun c36 => ?_)
      · -- t36
        refine lv_iload_n hx hb dX7_count_44 rfl (lv_at hl 1 rfl) ?_
        exact W.iret (v := (nI j)) hx hb hr (fun t ht hW => ⟨⟨_, (31 * tr + 4), rfl, by first | (simp [onQ_out b2]; done) | (simp [onQ_in hj (show n < 2 ^ 31 by omega), *]; done), by rw [ht]; exact hP, va_K.moved hW.alike hK, hD⟩, hS.F ht⟩) hS.2.2 dX7_count_45
      · -- f36
        exact absurd c36 c18
    · -- f18
      refine lv_iconst (v := 5) hx hb dX7_count_21 (by decide) ?_
      refine lv_goto (tgt := 26) hx hb dX7_count_22 (by decide) ?_
      have hPc := hP.sub (ws' := [(x, .inr (7, [.int fa, .int tr, .ref so, .ref sl, .ref ce, .int (nI n), .int bar, .int (nI tn), .ref ki, .ref si, .ref th, .ref ri, .int at_, .int rp, .ref rk, .ref rs, .ref kt, .ref kr, .int kn, .int rg, .ref ab, .int am, .ref bh, .int bm, .int br, .int (nI rn), .ref wa, .ref ra]))]) [0] rfl
      have hDc := hD.sub (ws' := [(x, .inr (7, [.int fa, .int tr, .ref so, .ref sl, .ref ce, .int (nI n), .int bar, .int (nI tn), .ref ki, .ref si, .ref th, .ref ri, .int at_, .int rp, .ref rk, .ref rs, .ref kt, .ref kr, .int kn, .int rg, .ref ab, .int am, .ref bh, .int bm, .int br, .int (nI rn), .ref wa, .ref ra]))]) [0] (by decide) rfl
      have hFc := va_free (wc := [(x, .inr (7, [.int fa, .int tr, .ref so, .ref sl, .ref ce, .int (nI n), .int bar, .int (nI tn), .ref ki, .ref si, .ref th, .ref ri, .int at_, .int rp, .ref rk, .ref rs, .ref kt, .ref kr, .int kn, .int rg, .ref ab, .int am, .ref bh, .int bm, .int br, .int (nI rn), .ref wa, .ref ra]))]) hD hS hA [0] rfl
      refine va_callv (va_runV (As := [.int 5]) (rest := []) ⟨hx, hb, hml, hown, hts⟩ (c_X7_begins l D cI cO x fa tr so sl ce n bar tn ki si th ri at_ rp rk rs kt kr kn rg ab am bh bm br rn wa ra 5 _) (cwV 1 hts gX7_count_X7_begins rfl rfl rfl (by decide +kernel) ⟨Nat.le_of_ble_eq_true rfl, Nat.le_of_ble_eq_true rfl⟩) (preVW hPc hK hNw hDc (va_recv hK hPc (ci := 7) (q0 := 0) rfl rfl)) rfl rfl hl.1 rfl (lv_room (Nat.le_of_ble_eq_true rfl)) dX7_count_26 ⟨Nat.zero_le _, Nat.zero_le _⟩) hS (fun q _ h => hFc q h) hFc (fun u t H1 locs ht hvm w26 hB hz1 hk1 hS => ?_)
      obtain ⟨tr1_26, rfl⟩ : ∃ z, z = u := ⟨_, rfl⟩
      obtain ⟨hP1, hK1, hD1⟩ := hB
      rw [ht] at hP1
      try dsimp only at w26
      obtain ⟨hP, hD⟩ := va_join (wr := [(ki, .inl (cI, 9, .inl kd))]) (w1 := [(x, .inr (7, [.int fa, .int tr1_26, .ref so, .ref sl, .ref ce, .int (nI n), .int bar, .int (nI tn), .ref ki, .ref si, .ref th, .ref ri, .int at_, .int rp, .ref rk, .ref rs, .ref kt, .ref kr, .int kn, .int rg, .ref ab, .int am, .ref bh, .int bm, .int br, .int (nI rn), .ref wa, .ref ra]))]) hP hD [0] [1] rfl rfl (by decide) (by decide) hk1 hFc hP1 hD1
      generalize H1 = H at hP hS ⊢
      have hP := hP.sub (ws' := [(x, .inr (7, [.int fa, .int tr1_26, .ref so, .ref sl, .ref ce, .int (nI n), .int bar, .int (nI tn), .ref ki, .ref si, .ref th, .ref ri, .int at_, .int rp, .ref rk, .ref rs, .ref kt, .ref kr, .int kn, .int rg, .ref ab, .int am, .ref bh, .int bm, .int br, .int (nI rn), .ref wa, .ref ra])), (ki, .inl (cI, 9, .inl kd))]) [1, 0] rfl
      have hD := hD.sub (ws' := [(x, .inr (7, [.int fa, .int tr1_26, .ref so, .ref sl, .ref ce, .int (nI n), .int bar, .int (nI tn), .ref ki, .ref si, .ref th, .ref ri, .int at_, .int rp, .ref rk, .ref rs, .ref kt, .ref kr, .int kn, .int rg, .ref ab, .int am, .ref bh, .int bm, .int br, .int (nI rn), .ref wa, .ref ra])), (ki, .inl (cI, 9, .inl kd))]) [1, 0] (by decide) rfl
      obtain rfl := w26
      refine lv_aload_n hx hb dX7_count_29 rfl (lv_at hl 0 rfl) ?_
      refine va_get (D := D) (ci := 7) (v := .ref ki) (C := RX7) (T := TX7) (N := 28) hx hb hts iX7 hown hK hP 0 rfl rfl 8 (by decide) f19 (fun _ h9 => h9) rfl dX7_count_30 ?_
      refine lv_iload_n hx hb dX7_count_33 rfl (lv_at hl 1 rfl) ?_
      refine va_iald hx hb hK hP 1 0 rfl rfl (vp_in_nI (by omega) (by decide)) dX7_count_34 ?_
      refine tp_i (y := kd j) (by rw [nI_clamp (n := j) (by omega)]) ?_
      refine lv_iconst (v := 2) hx hb dX7_count_35 (by decide) ?_
      refine lv_icmp_ne (tgt := 44) hx hb dX7_count_36 (by decide) (fun c36 => ?_) (fun c36 => ?_)
      · -- t36
        exact absurd c18 c36
      · -- f36
        refine lv_bipush (v := 30) hx hb dX7_count_39 (by decide) ?_
        refine lv_goto (tgt := 45) hx hb dX7_count_41 (by decide) ?_
        exact W.iret (v := 30) hx hb hr (fun t ht hW => ⟨⟨_, (31 * tr + 5), rfl, by first | (simp [onQ_out b2]; done) | (simp [onQ_in hj (show n < 2 ^ 31 by omega), *]; done), by rw [ht]; exact hP, va_K.moved hW.alike hK, hD⟩, hS.F ht⟩) hS.2.2 dX7_count_45
  · -- n2
    obtain rfl := w2.2 b2
    refine lv_if_ne (tgt := 10) hx hb dX7_count_5 (by decide) (fun h => absurd (by decide) h) (fun _ => ?_)
    refine lv_iconst (v := -1) hx hb dX7_count_8 (by decide) ?_
    exact W.iret (v := -1) hx hb hr (fun t ht hW => ⟨⟨_, tr, rfl, by first | (simp [onQ_out b2]; done) | (simp [onQ_in hj (show n < 2 ^ 31 by omega), *]; done), by rw [ht]; exact hP, va_K.moved hW.alike hK, hD⟩, hS.F ht⟩) hS.2.2 dX7_count_9

set_option maxHeartbeats 4000000 in
set_option maxRecDepth 100000 in
theorem c_X7_as (l : Launch) (D : va_G) (cI cO : ClassId) (x : Nat) (fa : Int32) (tr : Int32) (so : Nat) (sl : Nat) (ce : Nat) (n : Nat) (bar : Int32) (tn : Nat) (ki : Nat) (si : Nat) (th : Nat) (ri : Nat) (at_ : Int32) (rp : Int32) (rk : Nat) (rs : Nat) (kt : Nat) (kr : Nat) (kn : Int32) (rg : Int32) (ab : Nat) (am : Int32) (bh : Nat) (bm : Int32) (br : Int32) (rn : Nat) (wa : Nat) (ra : Nat) (kd : Nat → Int32) (pp : Int32) (kq : Int32) (sz : Nat) (hn : n ≤ 9) : Met l yX7_as wsX7_as ({ frames := 1, cells := 0, slots := 0, locals := 22 } : Room) (va_Pc [.ref x, .int pp, .int kq] (wdW D cI cO [(x, .inr (7, [.int fa, .int tr, .ref so, .ref sl, .ref ce, .int (nI n), .int bar, .int (nI tn), .ref ki, .ref si, .ref th, .ref ri, .int at_, .int rp, .ref rk, .ref rs, .ref kt, .ref kr, .int kn, .int rg, .ref ab, .int am, .ref bh, .int bm, .int br, .int (nI rn), .ref wa, .ref ra])), (ki, .inl (cI, 9, .inl kd))] sz)) (va_Qi (S := Int32) (fun r u => r = (onQ n pp (fun j => if kq < 0 then -2 else if kq ≤ 2 then (if kq ≤ kd j then 1 else -12) else -2) (-1)) ∧ u = (onQ n pp (fun j => if kq < 0 then 0 else if kq ≤ 2 then (if kq ≤ kd j then 0 else 2) else 0) 0)) (fun u t => va_P D vwCl [(x, .inr (7, [.int u, .int tr, .ref so, .ref sl, .ref ce, .int (nI n), .int bar, .int (nI tn), .ref ki, .ref si, .ref th, .ref ri, .int at_, .int rp, .ref rk, .ref rs, .ref kt, .ref kr, .int kn, .int rg, .ref ab, .int am, .ref bh, .int bm, .int br, .int (nI rn), .ref wa, .ref ra])), (ki, .inl (cI, 9, .inl kd))] t.heap ∧ va_K D vwCl (tyL cI cO) t ∧ va_D (va_A [(x, .inr (7, [.int fa, .int tr, .ref so, .ref sl, .ref ce, .int (nI n), .int bar, .int (nI tn), .ref ki, .ref si, .ref th, .ref ri, .int at_, .int rp, .ref rk, .ref rs, .ref kt, .ref kr, .int kn, .int rg, .ref ab, .int am, .ref bh, .int bm, .int br, .int (nI rn), .ref wa, .ref ra])), (ki, .inl (cI, 9, .inl kd))] sz) [(x, .inr (7, [.int u, .int tr, .ref so, .ref sl, .ref ce, .int (nI n), .int bar, .int (nI tn), .ref ki, .ref si, .ref th, .ref ri, .int at_, .int rp, .ref rk, .ref rs, .ref kt, .ref kr, .int kn, .int rg, .ref ab, .int am, .ref bh, .int bm, .int br, .int (nI rn), .ref wa, .ref ra])), (ki, .inl (cI, 9, .inl kd))]) (va_A [(x, .inr (7, [.int fa, .int tr, .ref so, .ref sl, .ref ce, .int (nI n), .int bar, .int (nI tn), .ref ki, .ref si, .ref th, .ref ri, .int at_, .int rp, .ref rk, .ref rs, .ref kt, .ref kr, .int kn, .int rg, .ref ab, .int am, .ref bh, .int bm, .int br, .int (nI rn), .ref wa, .ref ra])), (ki, .inl (cI, 9, .inl kd))] sz)) 0 0 (va_A [(x, .inr (7, [.int fa, .int tr, .ref so, .ref sl, .ref ce, .int (nI n), .int bar, .int (nI tn), .ref ki, .ref si, .ref th, .ref ri, .int at_, .int rp, .ref rk, .ref rs, .ref kt, .ref kr, .int kn, .int rg, .ref ab, .int am, .ref bh, .int bm, .int br, .int (nI rn), .ref wa, .ref ra])), (ki, .inl (cI, 9, .inl kd))] sz) := by
  refine Met.ofW (cc := cX7_as) (maxL := 3) (ret := (some .int)) (by decide) rfl ?_
  intro p e s m args below meth c s₁ B hml hv
  obtain ⟨rfl, hsz, hP, hK, hNw, hD0⟩ := hv
  have hx := B.exec
  have hb := B.bytes
  have hr := B.returns
  have hts := atoms_spec (ws := wsX7_as) B.pre
  have hown : s.vm.findClass RX7 = some m.cls := findClass_of_methodNamed B.named
  have hlocks := B.notSynchronized
  have f19 := hts (.fieldLink RX7 19 "StruckThreesModel" "kind" "[I") (by decide +kernel)
  have f55 := hts (.fieldLink RX7 55 "StruckThreesModel" "fault" "I") (by decide +kernel)
  have iX7 : ∀ w ∈ wsX70, w ∈ wsX7_as := by decide +kernel
  subst hsz
  have hD := hD0.self (sz := s.heap.size)
  generalize hAe : va_A [(x, .inr (7, [.int fa, .int tr, .ref so, .ref sl, .ref ce, .int (nI n), .int bar, .int (nI tn), .ref ki, .ref si, .ref th, .ref ri, .int at_, .int rp, .ref rk, .ref rs, .ref kt, .ref kr, .int kn, .int rg, .ref ab, .int am, .ref bh, .int bm, .int br, .int (nI rn), .ref wa, .ref ra])), (ki, .inl (cI, 9, .inl kd))] s.heap.size = A at hD ⊢
  have hA : ∀ q : Nat, s.heap.size ≤ q → A q := fun q h => by rw [← hAe]; exact Or.inr h
  have hS : va_S A s.heap s.heap [] := va_S.rf
  have hP : va_P D vwCl [(x, .inr (7, [.int fa, .int tr, .ref so, .ref sl, .ref ce, .int (nI n), .int bar, .int (nI tn), .ref ki, .ref si, .ref th, .ref ri, .int at_, .int rp, .ref rk, .ref rs, .ref kt, .ref kr, .int kn, .int rg, .ref ab, .int am, .ref bh, .int bm, .int br, .int (nI rn), .ref wa, .ref ra])), (ki, .inl (cI, 9, .inl kd))] s.heap := hP
  have hl := lv_entry ([.ref x, .int pp, .int kq]) (n := 3) (Nat.le_of_ble_eq_true rfl)
  rw [lg_entry_eq]
  generalize (lg_sl ([.ref x, .int pp, .int kq]) ++ List.replicate (3 - (lg_sl ([.ref x, .int pp, .int kq])).length) Slot.unset).toArray = ls at hl ⊢
  have hl : lv_has ls 3 [(0, .ref x), (1, .int pp), (2, .int kq)] := hl
  refine lv_aload_n hx hb dX7_as_0 rfl (lv_at hl 0 rfl) ?_
  refine lv_iconst (v := 0) hx hb dX7_as_1 (by decide) ?_
  refine va_put (D := D) (ci := 7) (v := .int 0) (ty := .int) (C := RX7) (T := TX7) (N := 28) hx hb hts iX7 tyX7 tyX7_ok nmX7 hown hK hP hD hS 0 rfl rfl 0 (by decide) f55 (fun _ h9 => h9) rfl (by decide +kernel) rfl rfl (Nat.le_of_ble_eq_true rfl) dX7_as_2 (fun H locs hP hD hS => ?_)
  have hP : va_P D vwCl [(x, .inr (7, [.int 0, .int tr, .ref so, .ref sl, .ref ce, .int (nI n), .int bar, .int (nI tn), .ref ki, .ref si, .ref th, .ref ri, .int at_, .int rp, .ref rk, .ref rs, .ref kt, .ref kr, .int kn, .int rg, .ref ab, .int am, .ref bh, .int bm, .int br, .int (nI rn), .ref wa, .ref ra])), (ki, .inl (cI, 9, .inl kd))] H := hP
  have hD : va_D A [(x, .inr (7, [.int 0, .int tr, .ref so, .ref sl, .ref ce, .int (nI n), .int bar, .int (nI tn), .ref ki, .ref si, .ref th, .ref ri, .int at_, .int rp, .ref rk, .ref rs, .ref kt, .ref kr, .int kn, .int rg, .ref ab, .int am, .ref bh, .int bm, .int br, .int (nI rn), .ref wa, .ref ra])), (ki, .inl (cI, 9, .inl kd))] := hD
  refine lv_aload_n hx hb dX7_as_5 rfl (lv_at hl 0 rfl) ?_
  refine lv_iload_n hx hb dX7_as_6 rfl (lv_at hl 1 rfl) ?_
  have hPc := hP.sub (ws' := [(x, .inr (7, [.int 0, .int tr, .ref so, .ref sl, .ref ce, .int (nI n), .int bar, .int (nI tn), .ref ki, .ref si, .ref th, .ref ri, .int at_, .int rp, .ref rk, .ref rs, .ref kt, .ref kr, .int kn, .int rg, .ref ab, .int am, .ref bh, .int bm, .int br, .int (nI rn), .ref wa, .ref ra]))]) [0] rfl
  refine vp_callSi (va_Run.run (va_runV (As := [.int pp]) (rest := []) ⟨hx, hb, hml, hown, hts⟩ (c_X7_isPerson l D cI cO x 0 tr so sl ce n bar tn ki si th ri at_ rp rk rs kt kr kn rg ab am bh bm br rn wa ra pp) (cwV 1 hts gX7_as_X7_isPerson rfl rfl rfl (by decide +kernel) ⟨Nat.le_of_ble_eq_true rfl, Nat.le_of_ble_eq_true rfl⟩) (preVR hPc hK hNw (va_recv hK hPc (ci := 7) (q0 := 0) rfl rfl)) rfl rfl hl.1 rfl (lv_room (Nat.le_of_ble_eq_true rfl)) dX7_as_7 ⟨Nat.zero_le _, Nat.zero_le _⟩)) (fun r7 w7 => ?_)
  by_cases b7 : ¬ pp < 0 ∧ ¬ nI n ≤ pp
  · -- y7
    obtain rfl := w7.1 b7
    obtain ⟨j, hj, rfl⟩ := in_nat b7 (show n < 2 ^ 31 by omega)
    refine lv_if_ne (tgt := 15) hx hb dX7_as_10 (by decide) (fun _ => ?_) (fun h => absurd h (by decide))
    refine lv_iload_n hx hb dX7_as_15 rfl (lv_at hl 2 rfl) ?_
    refine lv_iconst (v := 0) hx hb dX7_as_16 (by decide) ?_
    refine lv_iconst (v := 2) hx hb dX7_as_17 (by decide) ?_
    have hPc := hP.sub (ws' := []) [] rfl
    refine vp_callSi (va_Run.run (va_runS (As := [.int kq, .int 0, .int 2]) (rest := []) ⟨hx, hb, hml, hown, hts⟩ (c_X7_within l D cI cO kq 0 2) (va_cwS 3 hts gX7_as_X7_within rfl rfl rfl (by decide +kernel) ⟨Nat.le_of_ble_eq_true rfl, Nat.le_of_ble_eq_true rfl⟩) (preSR hPc hK hNw) rfl rfl hl.1 rfl (lv_room (Nat.le_of_ble_eq_true rfl)) dX7_as_18 ⟨Nat.zero_le _, Nat.zero_le _⟩)) (fun r18 w18 => ?_)
    by_cases b18 : lstT kq 0 2 = true
    · -- y18
      obtain rfl := w18.1 b18
      have hv1 := (lst_in b18).1
      have hv2 := (lst_in b18).2
      refine lv_if_ne (tgt := 27) hx hb dX7_as_21 (by decide) (fun _ => ?_) (fun h => absurd h (by decide))
      refine lv_aload_n hx hb dX7_as_27 rfl (lv_at hl 0 rfl) ?_
      refine va_get (D := D) (ci := 7) (v := .ref ki) (C := RX7) (T := TX7) (N := 28) hx hb hts iX7 hown hK hP 0 rfl rfl 8 (by decide) f19 (fun _ h9 => h9) rfl dX7_as_28 ?_
      refine lv_iload_n hx hb dX7_as_31 rfl (lv_at hl 1 rfl) ?_
      refine va_iald hx hb hK hP 1 0 rfl rfl (vp_in_nI (by omega) (by decide)) dX7_as_32 ?_
      refine tp_i (y := kd j) (by rw [nI_clamp (n := j) (by omega)]) ?_
      refine lv_iload_n hx hb dX7_as_33 rfl (lv_at hl 2 rfl) ?_
      refine lv_icmp_lt (tgt := 41) hx hb dX7_as_34 (by decide) (fun c34 => ?_) (fun c34 => ?_)
      · -- t34
        have z34 : ¬ kq ≤ kd j := fun q => le_nlt q c34
        refine lv_aload_n hx hb dX7_as_41 rfl (lv_at hl 0 rfl) ?_
        refine lv_iconst (v := 2) hx hb dX7_as_42 (by decide) ?_
        have hPc := hP.sub (ws' := [(x, .inr (7, [.int 0, .int tr, .ref so, .ref sl, .ref ce, .int (nI n), .int bar, .int (nI tn), .ref ki, .ref si, .ref th, .ref ri, .int at_, .int rp, .ref rk, .ref rs, .ref kt, .ref kr, .int kn, .int rg, .ref ab, .int am, .ref bh, .int bm, .int br, .int (nI rn), .ref wa, .ref ra]))]) [0] rfl
        have hDc := hD.sub (ws' := [(x, .inr (7, [.int 0, .int tr, .ref so, .ref sl, .ref ce, .int (nI n), .int bar, .int (nI tn), .ref ki, .ref si, .ref th, .ref ri, .int at_, .int rp, .ref rk, .ref rs, .ref kt, .ref kr, .int kn, .int rg, .ref ab, .int am, .ref bh, .int bm, .int br, .int (nI rn), .ref wa, .ref ra]))]) [0] (by decide) rfl
        have hFc := va_free (wc := [(x, .inr (7, [.int 0, .int tr, .ref so, .ref sl, .ref ce, .int (nI n), .int bar, .int (nI tn), .ref ki, .ref si, .ref th, .ref ri, .int at_, .int rp, .ref rk, .ref rs, .ref kt, .ref kr, .int kn, .int rg, .ref ab, .int am, .ref bh, .int bm, .int br, .int (nI rn), .ref wa, .ref ra]))]) hD hS hA [0] rfl
        refine va_calli (va_runV (As := [.int 2]) (rest := []) ⟨hx, hb, hml, hown, hts⟩ (c_X7_fails l D cI cO x 0 tr so sl ce n bar tn ki si th ri at_ rp rk rs kt kr kn rg ab am bh bm br rn wa ra 2 _) (cwV 1 hts gX7_as_X7_fails rfl rfl rfl (by decide +kernel) ⟨Nat.le_of_ble_eq_true rfl, Nat.le_of_ble_eq_true rfl⟩) (preVW hPc hK hNw hDc (va_recv hK hPc (ci := 7) (q0 := 0) rfl rfl)) rfl rfl hl.1 rfl (lv_room (Nat.le_of_ble_eq_true rfl)) dX7_as_43 ⟨Nat.zero_le _, Nat.zero_le _⟩) hS (fun q _ h => hFc q h) hFc (fun r43 u t H1 locs ht hvm w43 hB hz1 hk1 hS => ?_)
        obtain ⟨hP1, hK1, hD1⟩ := hB
        rw [ht] at hP1
        try dsimp only at w43
        obtain ⟨hP, hD⟩ := va_join (wr := [(ki, .inl (cI, 9, .inl kd))]) (w1 := [(x, .inr (7, [.int 2, .int tr, .ref so, .ref sl, .ref ce, .int (nI n), .int bar, .int (nI tn), .ref ki, .ref si, .ref th, .ref ri, .int at_, .int rp, .ref rk, .ref rs, .ref kt, .ref kr, .int kn, .int rg, .ref ab, .int am, .ref bh, .int bm, .int br, .int (nI rn), .ref wa, .ref ra]))]) hP hD [0] [1] rfl rfl (by decide) (by decide) hk1 hFc hP1 hD1
        generalize H1 = H at hP hS ⊢
        have hP := hP.sub (ws' := [(x, .inr (7, [.int 2, .int tr, .ref so, .ref sl, .ref ce, .int (nI n), .int bar, .int (nI tn), .ref ki, .ref si, .ref th, .ref ri, .int at_, .int rp, .ref rk, .ref rs, .ref kt, .ref kr, .int kn, .int rg, .ref ab, .int am, .ref bh, .int bm, .int br, .int (nI rn), .ref wa, .ref ra])), (ki, .inl (cI, 9, .inl kd))]) [1, 0] rfl
        have hD := hD.sub (ws' := [(x, .inr (7, [.int 2, .int tr, .ref so, .ref sl, .ref ce, .int (nI n), .int bar, .int (nI tn), .ref ki, .ref si, .ref th, .ref ri, .int at_, .int rp, .ref rk, .ref rs, .ref kt, .ref kr, .int kn, .int rg, .ref ab, .int am, .ref bh, .int bm, .int br, .int (nI rn), .ref wa, .ref ra])), (ki, .inl (cI, 9, .inl kd))]) [1, 0] (by decide) rfl
        obtain rfl := w43
        exact W.iret (v := -10 - 2) hx hb hr (fun t ht hW => ⟨⟨_, 2, rfl, by first | (simp [onQ_out b7]; done) | (simp [onQ_in hj (show n < 2 ^ 31 by omega), *]; done) | (rcases hvo with q | q <;> simp [onQ_in hj (show n < 2 ^ 31 by omega), q]; done), by rw [ht]; exact hP, va_K.moved hW.alike hK, hD⟩, hS.F ht⟩) hS.2.2 dX7_as_46
      · -- f34
        have z34 : kq ≤ kd j := nlt_le c34
        refine lv_iconst (v := 1) hx hb dX7_as_37 (by decide) ?_
        refine lv_goto (tgt := 46) hx hb dX7_as_38 (by decide) ?_
        exact W.iret (v := 1) hx hb hr (fun t ht hW => ⟨⟨_, 0, rfl, by first | (simp [onQ_out b7]; done) | (simp [onQ_in hj (show n < 2 ^ 31 by omega), *]; done) | (rcases hvo with q | q <;> simp [onQ_in hj (show n < 2 ^ 31 by omega), q]; done), by rw [ht]; exact hP, va_K.moved hW.alike hK, hD⟩, hS.F ht⟩) hS.2.2 dX7_as_46
    · -- n18
      obtain rfl := w18.2 b18
      have hvo := lst_out b18
      refine lv_if_ne (tgt := 27) hx hb dX7_as_21 (by decide) (fun h => absurd (by decide) h) (fun _ => ?_)
      refine lv_bipush (v := -2) hx hb dX7_as_24 (by decide) ?_
      exact W.iret (v := -2) hx hb hr (fun t ht hW => ⟨⟨_, 0, rfl, by first | (simp [onQ_out b7]; done) | (simp [onQ_in hj (show n < 2 ^ 31 by omega), *]; done) | (rcases hvo with q | q <;> simp [onQ_in hj (show n < 2 ^ 31 by omega), q]; done), by rw [ht]; exact hP, va_K.moved hW.alike hK, hD⟩, hS.F ht⟩) hS.2.2 dX7_as_26
  · -- n7
    obtain rfl := w7.2 b7
    refine lv_if_ne (tgt := 15) hx hb dX7_as_10 (by decide) (fun h => absurd (by decide) h) (fun _ => ?_)
    refine lv_iconst (v := -1) hx hb dX7_as_13 (by decide) ?_
    exact W.iret (v := -1) hx hb hr (fun t ht hW => ⟨⟨_, 0, rfl, by first | (simp [onQ_out b7]; done) | (simp [onQ_in hj (show n < 2 ^ 31 by omega), *]; done) | (rcases hvo with q | q <;> simp [onQ_in hj (show n < 2 ^ 31 by omega), q]; done), by rw [ht]; exact hP, va_K.moved hW.alike hK, hD⟩, hS.F ht⟩) hS.2.2 dX7_as_14

set_option maxHeartbeats 4000000 in
set_option maxRecDepth 100000 in
theorem c_X7_reading (l : Launch) (D : va_G) (cI cO : ClassId) (x : Nat) (fa : Int32) (tr : Int32) (so : Nat) (sl : Nat) (ce : Nat) (n : Nat) (bar : Int32) (tn : Nat) (ki : Nat) (si : Nat) (th : Nat) (ri : Nat) (at_ : Int32) (rp : Int32) (rk : Nat) (rs : Nat) (kt : Nat) (kr : Nat) (kn : Int32) (rg : Int32) (ab : Nat) (am : Int32) (bh : Nat) (bm : Int32) (br : Int32) (rn : Nat) (wa : Nat) (ra : Nat) (rw_ : Nat → Int32) (rh : Nat → Int32) (pp : Int32) (v : Int32) (sz : Nat) (hn : n ≤ 9) (hr8 : rn ≤ 8) : Met l yX7_reading wsX7_reading ({ frames := 1, cells := 0, slots := 0, locals := 22 } : Room) (va_Pc [.ref x, .int pp, .int v] (wdW D cI cO [(x, .inr (7, [.int fa, .int tr, .ref so, .ref sl, .ref ce, .int (nI n), .int bar, .int (nI tn), .ref ki, .ref si, .ref th, .ref ri, .int at_, .int rp, .ref rk, .ref rs, .ref kt, .ref kr, .int kn, .int rg, .ref ab, .int am, .ref bh, .int bm, .int br, .int (nI rn), .ref wa, .ref ra])), (wa, .inl (cI, 8, .inl rw_)), (ra, .inl (cI, 8, .inl rh))] sz)) (va_Qi (S := Nat × (Nat → Int32) × (Nat → Int32)) (fun r u => r = (onQ n pp (fun j => if v < 0 then -2 else if v ≤ 18 then (if nI rn < 8 then nI rn else -4) else -2) (-1)) ∧ u.1 = (onQ n pp (fun j => if v < 0 then rn else if v ≤ 18 then (if nI rn < 8 then rn + 1 else rn) else rn) rn) ∧ u.2.1 = (onQ n pp (fun j => if v < 0 then rw_ else if v ≤ 18 then (if nI rn < 8 then upd rw_ rn (nI j) else rw_) else rw_) rw_) ∧ u.2.2 = (onQ n pp (fun j => if v < 0 then rh else if v ≤ 18 then (if nI rn < 8 then upd rh rn v else rh) else rh) rh)) (fun u t => va_P D vwCl [(x, .inr (7, [.int fa, .int tr, .ref so, .ref sl, .ref ce, .int (nI n), .int bar, .int (nI tn), .ref ki, .ref si, .ref th, .ref ri, .int at_, .int rp, .ref rk, .ref rs, .ref kt, .ref kr, .int kn, .int rg, .ref ab, .int am, .ref bh, .int bm, .int br, .int (nI u.1), .ref wa, .ref ra])), (wa, .inl (cI, 8, .inl u.2.1)), (ra, .inl (cI, 8, .inl u.2.2))] t.heap ∧ va_K D vwCl (tyL cI cO) t ∧ va_D (va_A [(x, .inr (7, [.int fa, .int tr, .ref so, .ref sl, .ref ce, .int (nI n), .int bar, .int (nI tn), .ref ki, .ref si, .ref th, .ref ri, .int at_, .int rp, .ref rk, .ref rs, .ref kt, .ref kr, .int kn, .int rg, .ref ab, .int am, .ref bh, .int bm, .int br, .int (nI rn), .ref wa, .ref ra])), (wa, .inl (cI, 8, .inl rw_)), (ra, .inl (cI, 8, .inl rh))] sz) [(x, .inr (7, [.int fa, .int tr, .ref so, .ref sl, .ref ce, .int (nI n), .int bar, .int (nI tn), .ref ki, .ref si, .ref th, .ref ri, .int at_, .int rp, .ref rk, .ref rs, .ref kt, .ref kr, .int kn, .int rg, .ref ab, .int am, .ref bh, .int bm, .int br, .int (nI u.1), .ref wa, .ref ra])), (wa, .inl (cI, 8, .inl u.2.1)), (ra, .inl (cI, 8, .inl u.2.2))]) (va_A [(x, .inr (7, [.int fa, .int tr, .ref so, .ref sl, .ref ce, .int (nI n), .int bar, .int (nI tn), .ref ki, .ref si, .ref th, .ref ri, .int at_, .int rp, .ref rk, .ref rs, .ref kt, .ref kr, .int kn, .int rg, .ref ab, .int am, .ref bh, .int bm, .int br, .int (nI rn), .ref wa, .ref ra])), (wa, .inl (cI, 8, .inl rw_)), (ra, .inl (cI, 8, .inl rh))] sz)) 0 0 (va_A [(x, .inr (7, [.int fa, .int tr, .ref so, .ref sl, .ref ce, .int (nI n), .int bar, .int (nI tn), .ref ki, .ref si, .ref th, .ref ri, .int at_, .int rp, .ref rk, .ref rs, .ref kt, .ref kr, .int kn, .int rg, .ref ab, .int am, .ref bh, .int bm, .int br, .int (nI rn), .ref wa, .ref ra])), (wa, .inl (cI, 8, .inl rw_)), (ra, .inl (cI, 8, .inl rh))] sz) := by
  refine Met.ofW (cc := cX7_reading) (maxL := 3) (ret := (some .int)) (by decide) rfl ?_
  intro p e s m args below meth c s₁ B hml hv
  obtain ⟨rfl, hsz, hP, hK, hNw, hD0⟩ := hv
  have hx := B.exec
  have hb := B.bytes
  have hr := B.returns
  have hts := atoms_spec (ws := wsX7_reading) B.pre
  have hown : s.vm.findClass RX7 = some m.cls := findClass_of_methodNamed B.named
  have hlocks := B.notSynchronized
  have f49 := hts (.fieldLink RX7 49 "StruckThreesModel" "readWho" "[I") (by decide +kernel)
  have f52 := hts (.fieldLink RX7 52 "StruckThreesModel" "readRing" "[I") (by decide +kernel)
  have f98 := hts (.fieldLink RX7 98 "StruckThreesModel" "readings" "I") (by decide +kernel)
  have iX7 : ∀ w ∈ wsX70, w ∈ wsX7_reading := by decide +kernel
  subst hsz
  have hD := hD0.self (sz := s.heap.size)
  generalize hAe : va_A [(x, .inr (7, [.int fa, .int tr, .ref so, .ref sl, .ref ce, .int (nI n), .int bar, .int (nI tn), .ref ki, .ref si, .ref th, .ref ri, .int at_, .int rp, .ref rk, .ref rs, .ref kt, .ref kr, .int kn, .int rg, .ref ab, .int am, .ref bh, .int bm, .int br, .int (nI rn), .ref wa, .ref ra])), (wa, .inl (cI, 8, .inl rw_)), (ra, .inl (cI, 8, .inl rh))] s.heap.size = A at hD ⊢
  have hA : ∀ q : Nat, s.heap.size ≤ q → A q := fun q h => by rw [← hAe]; exact Or.inr h
  have hS : va_S A s.heap s.heap [] := va_S.rf
  have hP : va_P D vwCl [(x, .inr (7, [.int fa, .int tr, .ref so, .ref sl, .ref ce, .int (nI n), .int bar, .int (nI tn), .ref ki, .ref si, .ref th, .ref ri, .int at_, .int rp, .ref rk, .ref rs, .ref kt, .ref kr, .int kn, .int rg, .ref ab, .int am, .ref bh, .int bm, .int br, .int (nI rn), .ref wa, .ref ra])), (wa, .inl (cI, 8, .inl rw_)), (ra, .inl (cI, 8, .inl rh))] s.heap := hP
  have hl := lv_entry ([.ref x, .int pp, .int v]) (n := 3) (Nat.le_of_ble_eq_true rfl)
  rw [lg_entry_eq]
  generalize (lg_sl ([.ref x, .int pp, .int v]) ++ List.replicate (3 - (lg_sl ([.ref x, .int pp, .int v])).length) Slot.unset).toArray = ls at hl ⊢
  have hl : lv_has ls 3 [(0, .ref x), (1, .int pp), (2, .int v)] := hl
  refine lv_aload_n hx hb dX7_reading_0 rfl (lv_at hl 0 rfl) ?_
  refine lv_iload_n hx hb dX7_reading_1 rfl (lv_at hl 1 rfl) ?_
  have hPc := hP.sub (ws' := [(x, .inr (7, [.int fa, .int tr, .ref so, .ref sl, .ref ce, .int (nI n), .int bar, .int (nI tn), .ref ki, .ref si, .ref th, .ref ri, .int at_, .int rp, .ref rk, .ref rs, .ref kt, .ref kr, .int kn, .int rg, .ref ab, .int am, .ref bh, .int bm, .int br, .int (nI rn), .ref wa, .ref ra]))]) [0] rfl
  refine vp_callSi (va_Run.run (va_runV (As := [.int pp]) (rest := []) ⟨hx, hb, hml, hown, hts⟩ (c_X7_isPerson l D cI cO x fa tr so sl ce n bar tn ki si th ri at_ rp rk rs kt kr kn rg ab am bh bm br rn wa ra pp) (cwV 1 hts gX7_reading_X7_isPerson rfl rfl rfl (by decide +kernel) ⟨Nat.le_of_ble_eq_true rfl, Nat.le_of_ble_eq_true rfl⟩) (preVR hPc hK hNw (va_recv hK hPc (ci := 7) (q0 := 0) rfl rfl)) rfl rfl hl.1 rfl (lv_room (Nat.le_of_ble_eq_true rfl)) dX7_reading_2 ⟨Nat.zero_le _, Nat.zero_le _⟩)) (fun r2 w2 => ?_)
  by_cases b2 : ¬ pp < 0 ∧ ¬ nI n ≤ pp
  · -- y2
    obtain rfl := w2.1 b2
    obtain ⟨j, hj, rfl⟩ := in_nat b2 (show n < 2 ^ 31 by omega)
    refine lv_if_ne (tgt := 10) hx hb dX7_reading_5 (by decide) (fun _ => ?_) (fun h => absurd h (by decide))
    refine lv_iload_n hx hb dX7_reading_10 rfl (lv_at hl 2 rfl) ?_
    refine lv_iconst (v := 0) hx hb dX7_reading_11 (by decide) ?_
    refine lv_bipush (v := 18) hx hb dX7_reading_12 (by decide) ?_
    have hPc := hP.sub (ws' := []) [] rfl
    refine vp_callSi (va_Run.run (va_runS (As := [.int v, .int 0, .int 18]) (rest := []) ⟨hx, hb, hml, hown, hts⟩ (c_X7_within l D cI cO v 0 18) (va_cwS 3 hts gX7_reading_X7_within rfl rfl rfl (by decide +kernel) ⟨Nat.le_of_ble_eq_true rfl, Nat.le_of_ble_eq_true rfl⟩) (preSR hPc hK hNw) rfl rfl hl.1 rfl (lv_room (Nat.le_of_ble_eq_true rfl)) dX7_reading_14 ⟨Nat.zero_le _, Nat.zero_le _⟩)) (fun r14 w14 => ?_)
    by_cases b14 : lstT v 0 18 = true
    · -- y14
      obtain rfl := w14.1 b14
      have hv1 := (lst_in b14).1
      have hv2 := (lst_in b14).2
      refine lv_if_ne (tgt := 23) hx hb dX7_reading_17 (by decide) (fun _ => ?_) (fun h => absurd h (by decide))
      refine lv_aload_n hx hb dX7_reading_23 rfl (lv_at hl 0 rfl) ?_
      refine va_get (D := D) (ci := 7) (v := .int (nI rn)) (C := RX7) (T := TX7) (N := 28) hx hb hts iX7 hown hK hP 0 rfl rfl 25 (by decide) f98 (fun _ h9 => h9) rfl dX7_reading_24 ?_
      refine lv_bipush (v := 8) hx hb dX7_reading_27 (by decide) ?_
      refine lv_icmp_ne (tgt := 35) hx hb dX7_reading_29 (by decide) (fun c29 => ?_) (fun c29 => ?_)
      · -- t29
        have hr7 : rn < 8 := by rcases Nat.lt_or_ge rn 8 with q | q; exact q; exact absurd (by rw [show rn = 8 by omega]; rfl) c29
        have hr6 : nI rn < 8 := nI_lt (b := 8) hr7 (by decide)
        refine lv_aload_n hx hb dX7_reading_35 rfl (lv_at hl 0 rfl) ?_
        refine va_get (D := D) (ci := 7) (v := .ref wa) (C := RX7) (T := TX7) (N := 28) hx hb hts iX7 hown hK hP 0 rfl rfl 26 (by decide) f49 (fun _ h9 => h9) rfl dX7_reading_36 ?_
        refine lv_aload_n hx hb dX7_reading_39 rfl (lv_at hl 0 rfl) ?_
        refine va_get (D := D) (ci := 7) (v := .int (nI rn)) (C := RX7) (T := TX7) (N := 28) hx hb hts iX7 hown hK hP 0 rfl rfl 25 (by decide) f98 (fun _ h9 => h9) rfl dX7_reading_40 ?_
        refine lv_iload_n hx hb dX7_reading_43 rfl (lv_at hl 1 rfl) ?_
        refine va_iast hx hb hK hP hD hS 1 0 rfl rfl (vp_in_nI (by omega) (by decide)) dX7_reading_44 (fun H locs hP hD hS => ?_)
        rw [nI_clamp (n := rn) (by omega)] at hP hD
        have hP : va_P D vwCl [(x, .inr (7, [.int fa, .int tr, .ref so, .ref sl, .ref ce, .int (nI n), .int bar, .int (nI tn), .ref ki, .ref si, .ref th, .ref ri, .int at_, .int rp, .ref rk, .ref rs, .ref kt, .ref kr, .int kn, .int rg, .ref ab, .int am, .ref bh, .int bm, .int br, .int (nI rn), .ref wa, .ref ra])), (wa, .inl (cI, 8, .inl (upd rw_ rn (nI j)))), (ra, .inl (cI, 8, .inl rh))] H := hP
        have hD : va_D A [(x, .inr (7, [.int fa, .int tr, .ref so, .ref sl, .ref ce, .int (nI n), .int bar, .int (nI tn), .ref ki, .ref si, .ref th, .ref ri, .int at_, .int rp, .ref rk, .ref rs, .ref kt, .ref kr, .int kn, .int rg, .ref ab, .int am, .ref bh, .int bm, .int br, .int (nI rn), .ref wa, .ref ra])), (wa, .inl (cI, 8, .inl (upd rw_ rn (nI j)))), (ra, .inl (cI, 8, .inl rh))] := hD
        refine lv_aload_n hx hb dX7_reading_45 rfl (lv_at hl 0 rfl) ?_
        refine va_get (D := D) (ci := 7) (v := .ref ra) (C := RX7) (T := TX7) (N := 28) hx hb hts iX7 hown hK hP 0 rfl rfl 27 (by decide) f52 (fun _ h9 => h9) rfl dX7_reading_46 ?_
        refine lv_aload_n hx hb dX7_reading_49 rfl (lv_at hl 0 rfl) ?_
        refine va_get (D := D) (ci := 7) (v := .int (nI rn)) (C := RX7) (T := TX7) (N := 28) hx hb hts iX7 hown hK hP 0 rfl rfl 25 (by decide) f98 (fun _ h9 => h9) rfl dX7_reading_50 ?_
        refine lv_iload_n hx hb dX7_reading_53 rfl (lv_at hl 2 rfl) ?_
        refine va_iast hx hb hK hP hD hS 2 0 rfl rfl (vp_in_nI (by omega) (by decide)) dX7_reading_54 (fun H locs hP hD hS => ?_)
        rw [nI_clamp (n := rn) (by omega)] at hP hD
        have hP : va_P D vwCl [(x, .inr (7, [.int fa, .int tr, .ref so, .ref sl, .ref ce, .int (nI n), .int bar, .int (nI tn), .ref ki, .ref si, .ref th, .ref ri, .int at_, .int rp, .ref rk, .ref rs, .ref kt, .ref kr, .int kn, .int rg, .ref ab, .int am, .ref bh, .int bm, .int br, .int (nI rn), .ref wa, .ref ra])), (wa, .inl (cI, 8, .inl (upd rw_ rn (nI j)))), (ra, .inl (cI, 8, .inl (upd rh rn v)))] H := hP
        have hD : va_D A [(x, .inr (7, [.int fa, .int tr, .ref so, .ref sl, .ref ce, .int (nI n), .int bar, .int (nI tn), .ref ki, .ref si, .ref th, .ref ri, .int at_, .int rp, .ref rk, .ref rs, .ref kt, .ref kr, .int kn, .int rg, .ref ab, .int am, .ref bh, .int bm, .int br, .int (nI rn), .ref wa, .ref ra])), (wa, .inl (cI, 8, .inl (upd rw_ rn (nI j)))), (ra, .inl (cI, 8, .inl (upd rh rn v)))] := hD
        refine lv_aload_n hx hb dX7_reading_55 rfl (lv_at hl 0 rfl) ?_
        refine lv_dup hx hb dX7_reading_56 rfl ?_
        refine va_get (D := D) (ci := 7) (v := .int (nI rn)) (C := RX7) (T := TX7) (N := 28) hx hb hts iX7 hown hK hP 0 rfl rfl 25 (by decide) f98 (fun _ h9 => h9) rfl dX7_reading_57 ?_
        refine lv_iconst (v := 1) hx hb dX7_reading_60 (by decide) ?_
        refine lv_iadd hx hb dX7_reading_61 ?_
        refine tp_i (y := nI (rn + 1)) (nI_1 _) ?_
        refine va_put (D := D) (ci := 7) (v := .int (nI (rn + 1))) (ty := .int) (C := RX7) (T := TX7) (N := 28) hx hb hts iX7 tyX7 tyX7_ok nmX7 hown hK hP hD hS 0 rfl rfl 25 (by decide) f98 (fun _ h9 => h9) rfl (by decide +kernel) rfl rfl (Nat.le_of_ble_eq_true rfl) dX7_reading_62 (fun H locs hP hD hS => ?_)
        have hP : va_P D vwCl [(x, .inr (7, [.int fa, .int tr, .ref so, .ref sl, .ref ce, .int (nI n), .int bar, .int (nI tn), .ref ki, .ref si, .ref th, .ref ri, .int at_, .int rp, .ref rk, .ref rs, .ref kt, .ref kr, .int kn, .int rg, .ref ab, .int am, .ref bh, .int bm, .int br, .int (nI (rn + 1)), .ref wa, .ref ra])), (wa, .inl (cI, 8, .inl (upd rw_ rn (nI j)))), (ra, .inl (cI, 8, .inl (upd rh rn v)))] H := hP
        have hD : va_D A [(x, .inr (7, [.int fa, .int tr, .ref so, .ref sl, .ref ce, .int (nI n), .int bar, .int (nI tn), .ref ki, .ref si, .ref th, .ref ri, .int at_, .int rp, .ref rk, .ref rs, .ref kt, .ref kr, .int kn, .int rg, .ref ab, .int am, .ref bh, .int bm, .int br, .int (nI (rn + 1)), .ref wa, .ref ra])), (wa, .inl (cI, 8, .inl (upd rw_ rn (nI j)))), (ra, .inl (cI, 8, .inl (upd rh rn v)))] := hD
        refine lv_aload_n hx hb dX7_reading_65 rfl (lv_at hl 0 rfl) ?_
        refine va_get (D := D) (ci := 7) (v := .int (nI (rn + 1))) (C := RX7) (T := TX7) (N := 28) hx hb hts iX7 hown hK hP 0 rfl rfl 25 (by decide) f98 (fun _ h9 => h9) rfl dX7_reading_66 ?_
        refine lv_iconst (v := 1) hx hb dX7_reading_69 (by decide) ?_
        refine lv_isub hx hb dX7_reading_70 ?_
        refine tp_i (y := nI rn) (nI_pred _) ?_
        exact W.iret (v := nI rn) hx hb hr (fun t ht hW => ⟨⟨_, ((rn + 1), upd rw_ rn (nI j), upd rh rn v), rfl, by first | (simp [onQ_out b2]; done) | (simp [onQ_in hj (show n < 2 ^ 31 by omega), *]; done) | (rcases hvo with q | q <;> simp [onQ_in hj (show n < 2 ^ 31 by omega), q]; done), by rw [ht]; exact hP, va_K.moved hW.alike hK, hD⟩, hS.F ht⟩) hS.2.2 dX7_reading_71
      · -- f29
        have hr6 : ¬ nI rn < 8 := by rw [c29]; decide
        refine lv_bipush (v := -4) hx hb dX7_reading_32 (by decide) ?_
        exact W.iret (v := -4) hx hb hr (fun t ht hW => ⟨⟨_, (rn, rw_, rh), rfl, by first | (simp [onQ_out b2]; done) | (simp [onQ_in hj (show n < 2 ^ 31 by omega), *]; done) | (rcases hvo with q | q <;> simp [onQ_in hj (show n < 2 ^ 31 by omega), q]; done), by rw [ht]; exact hP, va_K.moved hW.alike hK, hD⟩, hS.F ht⟩) hS.2.2 dX7_reading_34
    · -- n14
      obtain rfl := w14.2 b14
      have hvo := lst_out b14
      refine lv_if_ne (tgt := 23) hx hb dX7_reading_17 (by decide) (fun h => absurd (by decide) h) (fun _ => ?_)
      refine lv_bipush (v := -2) hx hb dX7_reading_20 (by decide) ?_
      exact W.iret (v := -2) hx hb hr (fun t ht hW => ⟨⟨_, (rn, rw_, rh), rfl, by first | (simp [onQ_out b2]; done) | (simp [onQ_in hj (show n < 2 ^ 31 by omega), *]; done) | (rcases hvo with q | q <;> simp [onQ_in hj (show n < 2 ^ 31 by omega), q]; done), by rw [ht]; exact hP, va_K.moved hW.alike hK, hD⟩, hS.F ht⟩) hS.2.2 dX7_reading_22
  · -- n2
    obtain rfl := w2.2 b2
    refine lv_if_ne (tgt := 10) hx hb dX7_reading_5 (by decide) (fun h => absurd (by decide) h) (fun _ => ?_)
    refine lv_iconst (v := -1) hx hb dX7_reading_8 (by decide) ?_
    exact W.iret (v := -1) hx hb hr (fun t ht hW => ⟨⟨_, (rn, rw_, rh), rfl, by first | (simp [onQ_out b2]; done) | (simp [onQ_in hj (show n < 2 ^ 31 by omega), *]; done) | (rcases hvo with q | q <;> simp [onQ_in hj (show n < 2 ^ 31 by omega), q]; done), by rw [ht]; exact hP, va_K.moved hW.alike hK, hD⟩, hS.F ht⟩) hS.2.2 dX7_reading_9

set_option maxHeartbeats 4000000 in
set_option maxRecDepth 100000 in
theorem c_X7_back (l : Launch) (D : va_G) (cI cO : ClassId) (x : Nat) (fa : Int32) (tr : Int32) (so : Nat) (sl : Nat) (ce : Nat) (n : Nat) (bar : Int32) (tn : Nat) (ki : Nat) (si : Nat) (th : Nat) (ri : Nat) (at_ : Int32) (rp : Int32) (rk : Nat) (rs : Nat) (kt : Nat) (kr : Nat) (kn : Int32) (rg : Int32) (ab : Nat) (am : Int32) (bh : Nat) (bm : Int32) (br : Int32) (rn : Nat) (wa : Nat) (ra : Nat) (v : Int32) (sz : Nat) (hr8 : rn ≤ 8) : Met l yX7_back wsX7_back ({ frames := 1, cells := 0, slots := 0, locals := 22 } : Room) (va_Pc [.ref x, .int v] (wdW D cI cO [(x, .inr (7, [.int fa, .int tr, .ref so, .ref sl, .ref ce, .int (nI n), .int bar, .int (nI tn), .ref ki, .ref si, .ref th, .ref ri, .int at_, .int rp, .ref rk, .ref rs, .ref kt, .ref kr, .int kn, .int rg, .ref ab, .int am, .ref bh, .int bm, .int br, .int (nI rn), .ref wa, .ref ra]))] sz)) (va_Qi (S := Nat) (fun r u => r = (bckR rn v) ∧ u = (bckN rn v)) (fun u t => va_P D vwCl [(x, .inr (7, [.int fa, .int tr, .ref so, .ref sl, .ref ce, .int (nI n), .int bar, .int (nI tn), .ref ki, .ref si, .ref th, .ref ri, .int at_, .int rp, .ref rk, .ref rs, .ref kt, .ref kr, .int kn, .int rg, .ref ab, .int am, .ref bh, .int bm, .int br, .int (nI u), .ref wa, .ref ra]))] t.heap ∧ va_K D vwCl (tyL cI cO) t ∧ va_D (va_A [(x, .inr (7, [.int fa, .int tr, .ref so, .ref sl, .ref ce, .int (nI n), .int bar, .int (nI tn), .ref ki, .ref si, .ref th, .ref ri, .int at_, .int rp, .ref rk, .ref rs, .ref kt, .ref kr, .int kn, .int rg, .ref ab, .int am, .ref bh, .int bm, .int br, .int (nI rn), .ref wa, .ref ra]))] sz) [(x, .inr (7, [.int fa, .int tr, .ref so, .ref sl, .ref ce, .int (nI n), .int bar, .int (nI tn), .ref ki, .ref si, .ref th, .ref ri, .int at_, .int rp, .ref rk, .ref rs, .ref kt, .ref kr, .int kn, .int rg, .ref ab, .int am, .ref bh, .int bm, .int br, .int (nI u), .ref wa, .ref ra]))]) (va_A [(x, .inr (7, [.int fa, .int tr, .ref so, .ref sl, .ref ce, .int (nI n), .int bar, .int (nI tn), .ref ki, .ref si, .ref th, .ref ri, .int at_, .int rp, .ref rk, .ref rs, .ref kt, .ref kr, .int kn, .int rg, .ref ab, .int am, .ref bh, .int bm, .int br, .int (nI rn), .ref wa, .ref ra]))] sz)) 0 0 (va_A [(x, .inr (7, [.int fa, .int tr, .ref so, .ref sl, .ref ce, .int (nI n), .int bar, .int (nI tn), .ref ki, .ref si, .ref th, .ref ri, .int at_, .int rp, .ref rk, .ref rs, .ref kt, .ref kr, .int kn, .int rg, .ref ab, .int am, .ref bh, .int bm, .int br, .int (nI rn), .ref wa, .ref ra]))] sz) := by
  refine Met.ofW (cc := cX7_back) (maxL := 2) (ret := (some .int)) (by decide) rfl ?_
  intro p e s m args below meth c s₁ B hml hv
  obtain ⟨rfl, hsz, hP, hK, hNw, hD0⟩ := hv
  have hx := B.exec
  have hb := B.bytes
  have hr := B.returns
  have hts := atoms_spec (ws := wsX7_back) B.pre
  have hown : s.vm.findClass RX7 = some m.cls := findClass_of_methodNamed B.named
  have hlocks := B.notSynchronized
  have f98 := hts (.fieldLink RX7 98 "StruckThreesModel" "readings" "I") (by decide +kernel)
  have iX7 : ∀ w ∈ wsX70, w ∈ wsX7_back := by decide +kernel
  subst hsz
  have hD := hD0.self (sz := s.heap.size)
  generalize hAe : va_A [(x, .inr (7, [.int fa, .int tr, .ref so, .ref sl, .ref ce, .int (nI n), .int bar, .int (nI tn), .ref ki, .ref si, .ref th, .ref ri, .int at_, .int rp, .ref rk, .ref rs, .ref kt, .ref kr, .int kn, .int rg, .ref ab, .int am, .ref bh, .int bm, .int br, .int (nI rn), .ref wa, .ref ra]))] s.heap.size = A at hD ⊢
  have hA : ∀ q : Nat, s.heap.size ≤ q → A q := fun q h => by rw [← hAe]; exact Or.inr h
  have hS : va_S A s.heap s.heap [] := va_S.rf
  have hP : va_P D vwCl [(x, .inr (7, [.int fa, .int tr, .ref so, .ref sl, .ref ce, .int (nI n), .int bar, .int (nI tn), .ref ki, .ref si, .ref th, .ref ri, .int at_, .int rp, .ref rk, .ref rs, .ref kt, .ref kr, .int kn, .int rg, .ref ab, .int am, .ref bh, .int bm, .int br, .int (nI rn), .ref wa, .ref ra]))] s.heap := hP
  have hl := lv_entry ([.ref x, .int v]) (n := 2) (Nat.le_of_ble_eq_true rfl)
  rw [lg_entry_eq]
  generalize (lg_sl ([.ref x, .int v]) ++ List.replicate (2 - (lg_sl ([.ref x, .int v])).length) Slot.unset).toArray = ls at hl ⊢
  have hl : lv_has ls 2 [(0, .ref x), (1, .int v)] := hl
  refine lv_iload_n hx hb dX7_back_0 rfl (lv_at hl 1 rfl) ?_
  refine lv_iconst (v := 0) hx hb dX7_back_1 (by decide) ?_
  refine lv_aload_n hx hb dX7_back_2 rfl (lv_at hl 0 rfl) ?_
  refine va_get (D := D) (ci := 7) (v := .int (nI rn)) (C := RX7) (T := TX7) (N := 28) hx hb hts iX7 hown hK hP 0 rfl rfl 25 (by decide) f98 (fun _ h9 => h9) rfl dX7_back_3 ?_
  have hPc := hP.sub (ws' := []) [] rfl
  refine vp_callSi (va_Run.run (va_runS (As := [.int v, .int 0, .int (nI rn)]) (rest := []) ⟨hx, hb, hml, hown, hts⟩ (c_X7_within l D cI cO v 0 (nI rn)) (va_cwS 3 hts gX7_back_X7_within rfl rfl rfl (by decide +kernel) ⟨Nat.le_of_ble_eq_true rfl, Nat.le_of_ble_eq_true rfl⟩) (preSR hPc hK hNw) rfl rfl hl.1 rfl (lv_room (Nat.le_of_ble_eq_true rfl)) dX7_back_6 ⟨Nat.zero_le _, Nat.zero_le _⟩)) (fun r6 w6 => ?_)
  by_cases b6 : lstT v 0 (nI rn) = true
  · -- y6
    obtain rfl := w6.1 b6
    have hv1 := (lst_in b6).1
    have hv2 := (lst_in b6).2
    obtain ⟨k, hk, rfl⟩ := nI_of2 (nI_toInt (n := rn) (by omega)) hv1 hv2
    have ck := nI_clamp (n := k) (by omega)
    refine lv_if_ne (tgt := 15) hx hb dX7_back_9 (by decide) (fun _ => ?_) (fun h => absurd h (by decide))
    refine lv_aload_n hx hb dX7_back_15 rfl (lv_at hl 0 rfl) ?_
    refine lv_dup hx hb dX7_back_16 rfl ?_
    refine va_get (D := D) (ci := 7) (v := .int (nI rn)) (C := RX7) (T := TX7) (N := 28) hx hb hts iX7 hown hK hP 0 rfl rfl 25 (by decide) f98 (fun _ h9 => h9) rfl dX7_back_17 ?_
    refine lv_iload_n hx hb dX7_back_20 rfl (lv_at hl 1 rfl) ?_
    refine lv_isub hx hb dX7_back_21 ?_
    refine tp_i (y := nI (rn - k)) (pk_sub hk) ?_
    refine va_put (D := D) (ci := 7) (v := .int (nI (rn - k))) (ty := .int) (C := RX7) (T := TX7) (N := 28) hx hb hts iX7 tyX7 tyX7_ok nmX7 hown hK hP hD hS 0 rfl rfl 25 (by decide) f98 (fun _ h9 => h9) rfl (by decide +kernel) rfl rfl (Nat.le_of_ble_eq_true rfl) dX7_back_22 (fun H locs hP hD hS => ?_)
    have hP : va_P D vwCl [(x, .inr (7, [.int fa, .int tr, .ref so, .ref sl, .ref ce, .int (nI n), .int bar, .int (nI tn), .ref ki, .ref si, .ref th, .ref ri, .int at_, .int rp, .ref rk, .ref rs, .ref kt, .ref kr, .int kn, .int rg, .ref ab, .int am, .ref bh, .int bm, .int br, .int (nI (rn - k)), .ref wa, .ref ra]))] H := hP
    have hD : va_D A [(x, .inr (7, [.int fa, .int tr, .ref so, .ref sl, .ref ce, .int (nI n), .int bar, .int (nI tn), .ref ki, .ref si, .ref th, .ref ri, .int at_, .int rp, .ref rk, .ref rs, .ref kt, .ref kr, .int kn, .int rg, .ref ab, .int am, .ref bh, .int bm, .int br, .int (nI (rn - k)), .ref wa, .ref ra]))] := hD
    refine lv_aload_n hx hb dX7_back_25 rfl (lv_at hl 0 rfl) ?_
    refine va_get (D := D) (ci := 7) (v := .int (nI (rn - k))) (C := RX7) (T := TX7) (N := 28) hx hb hts iX7 hown hK hP 0 rfl rfl 25 (by decide) f98 (fun _ h9 => h9) rfl dX7_back_26 ?_
    exact W.iret (v := nI (rn - k)) hx hb hr (fun t ht hW => ⟨⟨_, (rn - k), rfl, by first | (simp [bckR, bckN, *]; done) | (rcases hvo with q | q <;> simp [bckR, bckN, q]; done), by rw [ht]; exact hP, va_K.moved hW.alike hK, hD⟩, hS.F ht⟩) hS.2.2 dX7_back_29
  · -- n6
    obtain rfl := w6.2 b6
    have hvo := lst_out b6
    refine lv_if_ne (tgt := 15) hx hb dX7_back_9 (by decide) (fun h => absurd (by decide) h) (fun _ => ?_)
    refine lv_bipush (v := -2) hx hb dX7_back_12 (by decide) ?_
    exact W.iret (v := -2) hx hb hr (fun t ht hW => ⟨⟨_, rn, rfl, by first | (simp [bckR, bckN, *]; done) | (rcases hvo with q | q <;> simp [bckR, bckN, q]; done), by rw [ht]; exact hP, va_K.moved hW.alike hK, hD⟩, hS.F ht⟩) hS.2.2 dX7_back_14

set_option maxHeartbeats 4000000 in
set_option maxRecDepth 100000 in
theorem c_X7_sheet (l : Launch) (D : va_G) (cI cO : ClassId) (x : Nat) (fa : Int32) (tr : Int32) (so : Nat) (sl : Nat) (ce : Nat) (n : Nat) (bar : Int32) (tn : Nat) (ki : Nat) (si : Nat) (th : Nat) (ri : Nat) (at_ : Int32) (rp : Int32) (rk : Nat) (rs : Nat) (kt : Nat) (kr : Nat) (kn : Int32) (rg : Int32) (ab : Nat) (am : Int32) (bh : Nat) (bm : Int32) (br : Int32) (rn : Nat) (wa : Nat) (ra : Nat) (sv : Nat → Int32) (lv : Nat → Int32) (cv : Nat → Int32) (kq : Int32) (w : Int32) (v : Int32) (sz : Nat) : Met l yX7_sheet wsX7_sheet ({ frames := 2, cells := 0, slots := 0, locals := 42 } : Room) (va_Pc [.ref x, .int kq, .int w, .int v] (wdW D cI cO [(x, .inr (7, [.int fa, .int tr, .ref so, .ref sl, .ref ce, .int (nI n), .int bar, .int (nI tn), .ref ki, .ref si, .ref th, .ref ri, .int at_, .int rp, .ref rk, .ref rs, .ref kt, .ref kr, .int kn, .int rg, .ref ab, .int am, .ref bh, .int bm, .int br, .int (nI rn), .ref wa, .ref ra])), (so, .inl (cI, 4, .inl sv)), (sl, .inl (cI, 4, .inl lv)), (ce, .inl (cI, 240, .inl cv))] sz)) (va_Qi (S := Int32 × (Nat → Int32) × (Nat → Int32) × (Nat → Int32)) (fun r u => r = (onK kq (shtR w v) (-1)) ∧ u.1 = (onK kq (shtA w v) 0) ∧ u.2.1 = (onK kq (if shtOk w v = true then upd sv kq.toNatClampNeg w else sv) sv) ∧ u.2.2.1 = (onK kq (if shtOk w v = true then upd lv kq.toNatClampNeg v else lv) lv) ∧ u.2.2.2 = (onK kq (if shtOk w v = true then zroM cv (60 * kq.toNatClampNeg) 60 else cv) cv)) (fun u t => va_P D vwCl [(x, .inr (7, [.int u.1, .int tr, .ref so, .ref sl, .ref ce, .int (nI n), .int bar, .int (nI tn), .ref ki, .ref si, .ref th, .ref ri, .int at_, .int rp, .ref rk, .ref rs, .ref kt, .ref kr, .int kn, .int rg, .ref ab, .int am, .ref bh, .int bm, .int br, .int (nI rn), .ref wa, .ref ra])), (so, .inl (cI, 4, .inl u.2.1)), (sl, .inl (cI, 4, .inl u.2.2.1)), (ce, .inl (cI, 240, .inl u.2.2.2))] t.heap ∧ va_K D vwCl (tyL cI cO) t ∧ va_D (va_A [(x, .inr (7, [.int fa, .int tr, .ref so, .ref sl, .ref ce, .int (nI n), .int bar, .int (nI tn), .ref ki, .ref si, .ref th, .ref ri, .int at_, .int rp, .ref rk, .ref rs, .ref kt, .ref kr, .int kn, .int rg, .ref ab, .int am, .ref bh, .int bm, .int br, .int (nI rn), .ref wa, .ref ra])), (so, .inl (cI, 4, .inl sv)), (sl, .inl (cI, 4, .inl lv)), (ce, .inl (cI, 240, .inl cv))] sz) [(x, .inr (7, [.int u.1, .int tr, .ref so, .ref sl, .ref ce, .int (nI n), .int bar, .int (nI tn), .ref ki, .ref si, .ref th, .ref ri, .int at_, .int rp, .ref rk, .ref rs, .ref kt, .ref kr, .int kn, .int rg, .ref ab, .int am, .ref bh, .int bm, .int br, .int (nI rn), .ref wa, .ref ra])), (so, .inl (cI, 4, .inl u.2.1)), (sl, .inl (cI, 4, .inl u.2.2.1)), (ce, .inl (cI, 240, .inl u.2.2.2))]) (va_A [(x, .inr (7, [.int fa, .int tr, .ref so, .ref sl, .ref ce, .int (nI n), .int bar, .int (nI tn), .ref ki, .ref si, .ref th, .ref ri, .int at_, .int rp, .ref rk, .ref rs, .ref kt, .ref kr, .int kn, .int rg, .ref ab, .int am, .ref bh, .int bm, .int br, .int (nI rn), .ref wa, .ref ra])), (so, .inl (cI, 4, .inl sv)), (sl, .inl (cI, 4, .inl lv)), (ce, .inl (cI, 240, .inl cv))] sz)) 0 0 (va_A [(x, .inr (7, [.int fa, .int tr, .ref so, .ref sl, .ref ce, .int (nI n), .int bar, .int (nI tn), .ref ki, .ref si, .ref th, .ref ri, .int at_, .int rp, .ref rk, .ref rs, .ref kt, .ref kr, .int kn, .int rg, .ref ab, .int am, .ref bh, .int bm, .int br, .int (nI rn), .ref wa, .ref ra])), (so, .inl (cI, 4, .inl sv)), (sl, .inl (cI, 4, .inl lv)), (ce, .inl (cI, 240, .inl cv))] sz) := by
  refine Met.ofW (cc := cX7_sheet) (maxL := 5) (ret := (some .int)) (by decide) rfl ?_
  intro p e s m args below meth c s₁ B hml hv
  obtain ⟨rfl, hsz, hP, hK, hNw, hD0⟩ := hv
  have hx := B.exec
  have hb := B.bytes
  have hr := B.returns
  have hts := atoms_spec (ws := wsX7_sheet) B.pre
  have hown : s.vm.findClass RX7 = some m.cls := findClass_of_methodNamed B.named
  have hlocks := B.notSynchronized
  have f9 := hts (.fieldLink RX7 9 "StruckThreesModel" "sorts" "[I") (by decide +kernel)
  have f13 := hts (.fieldLink RX7 13 "StruckThreesModel" "sheetLong" "[I") (by decide +kernel)
  have f16 := hts (.fieldLink RX7 16 "StruckThreesModel" "cells" "[I") (by decide +kernel)
  have f55 := hts (.fieldLink RX7 55 "StruckThreesModel" "fault" "I") (by decide +kernel)
  have iX7 : ∀ w ∈ wsX70, w ∈ wsX7_sheet := by decide +kernel
  subst hsz
  have hD := hD0.self (sz := s.heap.size)
  generalize hAe : va_A [(x, .inr (7, [.int fa, .int tr, .ref so, .ref sl, .ref ce, .int (nI n), .int bar, .int (nI tn), .ref ki, .ref si, .ref th, .ref ri, .int at_, .int rp, .ref rk, .ref rs, .ref kt, .ref kr, .int kn, .int rg, .ref ab, .int am, .ref bh, .int bm, .int br, .int (nI rn), .ref wa, .ref ra])), (so, .inl (cI, 4, .inl sv)), (sl, .inl (cI, 4, .inl lv)), (ce, .inl (cI, 240, .inl cv))] s.heap.size = A at hD ⊢
  have hA : ∀ q : Nat, s.heap.size ≤ q → A q := fun q h => by rw [← hAe]; exact Or.inr h
  have hS : va_S A s.heap s.heap [] := va_S.rf
  have hP : va_P D vwCl [(x, .inr (7, [.int fa, .int tr, .ref so, .ref sl, .ref ce, .int (nI n), .int bar, .int (nI tn), .ref ki, .ref si, .ref th, .ref ri, .int at_, .int rp, .ref rk, .ref rs, .ref kt, .ref kr, .int kn, .int rg, .ref ab, .int am, .ref bh, .int bm, .int br, .int (nI rn), .ref wa, .ref ra])), (so, .inl (cI, 4, .inl sv)), (sl, .inl (cI, 4, .inl lv)), (ce, .inl (cI, 240, .inl cv))] s.heap := hP
  have hl := lv_entry ([.ref x, .int kq, .int w, .int v]) (n := 5) (Nat.le_of_ble_eq_true rfl)
  rw [lg_entry_eq]
  generalize (lg_sl ([.ref x, .int kq, .int w, .int v]) ++ List.replicate (5 - (lg_sl ([.ref x, .int kq, .int w, .int v])).length) Slot.unset).toArray = ls at hl ⊢
  have hl : lv_has ls 5 [(0, .ref x), (1, .int kq), (2, .int w), (3, .int v)] := hl
  refine lv_aload_n hx hb dX7_sheet_0 rfl (lv_at hl 0 rfl) ?_
  refine lv_iconst (v := 0) hx hb dX7_sheet_1 (by decide) ?_
  refine va_put (D := D) (ci := 7) (v := .int 0) (ty := .int) (C := RX7) (T := TX7) (N := 28) hx hb hts iX7 tyX7 tyX7_ok nmX7 hown hK hP hD hS 0 rfl rfl 0 (by decide) f55 (fun _ h9 => h9) rfl (by decide +kernel) rfl rfl (Nat.le_of_ble_eq_true rfl) dX7_sheet_2 (fun H locs hP hD hS => ?_)
  have hP : va_P D vwCl [(x, .inr (7, [.int 0, .int tr, .ref so, .ref sl, .ref ce, .int (nI n), .int bar, .int (nI tn), .ref ki, .ref si, .ref th, .ref ri, .int at_, .int rp, .ref rk, .ref rs, .ref kt, .ref kr, .int kn, .int rg, .ref ab, .int am, .ref bh, .int bm, .int br, .int (nI rn), .ref wa, .ref ra])), (so, .inl (cI, 4, .inl sv)), (sl, .inl (cI, 4, .inl lv)), (ce, .inl (cI, 240, .inl cv))] H := hP
  have hD : va_D A [(x, .inr (7, [.int 0, .int tr, .ref so, .ref sl, .ref ce, .int (nI n), .int bar, .int (nI tn), .ref ki, .ref si, .ref th, .ref ri, .int at_, .int rp, .ref rk, .ref rs, .ref kt, .ref kr, .int kn, .int rg, .ref ab, .int am, .ref bh, .int bm, .int br, .int (nI rn), .ref wa, .ref ra])), (so, .inl (cI, 4, .inl sv)), (sl, .inl (cI, 4, .inl lv)), (ce, .inl (cI, 240, .inl cv))] := hD
  refine lv_iload_n hx hb dX7_sheet_5 rfl (lv_at hl 1 rfl) ?_
  have hPc := hP.sub (ws' := []) [] rfl
  refine vp_callSi (va_Run.run (va_runS (As := [.int kq]) (rest := []) ⟨hx, hb, hml, hown, hts⟩ (c_X7_isSheet l D cI cO kq) (va_cwS 1 hts gX7_sheet_X7_isSheet rfl rfl rfl (by decide +kernel) ⟨Nat.le_of_ble_eq_true rfl, Nat.le_of_ble_eq_true rfl⟩) (preSR hPc hK hNw) rfl rfl hl.1 rfl (lv_room (Nat.le_of_ble_eq_true rfl)) dX7_sheet_6 ⟨Nat.zero_le _, Nat.zero_le _⟩)) (fun r6 w6 => ?_)
  by_cases b6 : ¬ kq < 0 ∧ kq < 4
  · -- y6
    obtain rfl := w6.1 b6
    obtain ⟨q, hq4, rfl⟩ := vp_in_of (in4 b6.1 b6.2) (by decide)
    have cq := nI_clamp (n := q) (by omega)
    have hk := b6
    refine lv_if_ne (tgt := 14) hx hb dX7_sheet_9 (by decide) (fun _ => ?_) (fun h => absurd h (by decide))
    refine lv_iload_n hx hb dX7_sheet_14 rfl (lv_at hl 2 rfl) ?_
    have hPc := hP.sub (ws' := []) [] rfl
    refine vp_callSi (va_Run.run (va_runS (As := [.int w]) (rest := []) ⟨hx, hb, hml, hown, hts⟩ (c_X7_isSort l D cI cO w) (va_cwS 1 hts gX7_sheet_X7_isSort rfl rfl rfl (by decide +kernel) ⟨Nat.le_of_ble_eq_true rfl, Nat.le_of_ble_eq_true rfl⟩) (preSR hPc hK hNw) rfl rfl hl.1 rfl (lv_room (Nat.le_of_ble_eq_true rfl)) dX7_sheet_15 ⟨Nat.zero_le _, Nat.zero_le _⟩)) (fun r15 w15 => ?_)
    by_cases b15 : lstT w 0 2 = true
    · -- y15
      obtain rfl := w15.1 b15
      refine lv_if_eq (tgt := 27) hx hb dX7_sheet_18 (by decide) (fun h => absurd h (by decide)) (fun _ => ?_)
      refine lv_iload_n hx hb dX7_sheet_21 rfl (lv_at hl 3 rfl) ?_
      refine lv_bipush (v := 60) hx hb dX7_sheet_22 (by decide) ?_
      refine lv_icmp_le (tgt := 30) hx hb dX7_sheet_24 (by decide) (fun c24 => ?_) (fun c24 => ?_)
      · -- t24
        refine lv_iload_n hx hb dX7_sheet_30 rfl (lv_at hl 3 rfl) ?_
        refine lv_if_ge (tgt := 40) hx hb dX7_sheet_31 (by decide) (fun c31 => ?_) (fun c31 => ?_)
        · -- t31
          have hok : shtOk w v = true := by unfold shtOk; rw [b15, decide_eq_true c24, decide_eq_true c31]; rfl
          refine lv_aload_n hx hb dX7_sheet_40 rfl (lv_at hl 0 rfl) ?_
          refine va_get (D := D) (ci := 7) (v := .ref so) (C := RX7) (T := TX7) (N := 28) hx hb hts iX7 hown hK hP 0 rfl rfl 2 (by decide) f9 (fun _ h9 => h9) rfl dX7_sheet_41 ?_
          refine lv_iload_n hx hb dX7_sheet_44 rfl (lv_at hl 1 rfl) ?_
          refine lv_iload_n hx hb dX7_sheet_45 rfl (lv_at hl 2 rfl) ?_
          refine va_iast hx hb hK hP hD hS 1 0 rfl rfl (vp_in_nI (by omega) (by decide)) dX7_sheet_46 (fun H locs hP hD hS => ?_)
          rw [nI_clamp (n := q) (by omega)] at hP hD
          have hP : va_P D vwCl [(x, .inr (7, [.int 0, .int tr, .ref so, .ref sl, .ref ce, .int (nI n), .int bar, .int (nI tn), .ref ki, .ref si, .ref th, .ref ri, .int at_, .int rp, .ref rk, .ref rs, .ref kt, .ref kr, .int kn, .int rg, .ref ab, .int am, .ref bh, .int bm, .int br, .int (nI rn), .ref wa, .ref ra])), (so, .inl (cI, 4, .inl (upd sv q w))), (sl, .inl (cI, 4, .inl lv)), (ce, .inl (cI, 240, .inl cv))] H := hP
          have hD : va_D A [(x, .inr (7, [.int 0, .int tr, .ref so, .ref sl, .ref ce, .int (nI n), .int bar, .int (nI tn), .ref ki, .ref si, .ref th, .ref ri, .int at_, .int rp, .ref rk, .ref rs, .ref kt, .ref kr, .int kn, .int rg, .ref ab, .int am, .ref bh, .int bm, .int br, .int (nI rn), .ref wa, .ref ra])), (so, .inl (cI, 4, .inl (upd sv q w))), (sl, .inl (cI, 4, .inl lv)), (ce, .inl (cI, 240, .inl cv))] := hD
          refine lv_aload_n hx hb dX7_sheet_47 rfl (lv_at hl 0 rfl) ?_
          refine va_get (D := D) (ci := 7) (v := .ref sl) (C := RX7) (T := TX7) (N := 28) hx hb hts iX7 hown hK hP 0 rfl rfl 3 (by decide) f13 (fun _ h9 => h9) rfl dX7_sheet_48 ?_
          refine lv_iload_n hx hb dX7_sheet_51 rfl (lv_at hl 1 rfl) ?_
          refine lv_iload_n hx hb dX7_sheet_52 rfl (lv_at hl 3 rfl) ?_
          refine va_iast hx hb hK hP hD hS 2 0 rfl rfl (vp_in_nI (by omega) (by decide)) dX7_sheet_53 (fun H locs hP hD hS => ?_)
          rw [nI_clamp (n := q) (by omega)] at hP hD
          have hP : va_P D vwCl [(x, .inr (7, [.int 0, .int tr, .ref so, .ref sl, .ref ce, .int (nI n), .int bar, .int (nI tn), .ref ki, .ref si, .ref th, .ref ri, .int at_, .int rp, .ref rk, .ref rs, .ref kt, .ref kr, .int kn, .int rg, .ref ab, .int am, .ref bh, .int bm, .int br, .int (nI rn), .ref wa, .ref ra])), (so, .inl (cI, 4, .inl (upd sv q w))), (sl, .inl (cI, 4, .inl (upd lv q v))), (ce, .inl (cI, 240, .inl cv))] H := hP
          have hD : va_D A [(x, .inr (7, [.int 0, .int tr, .ref so, .ref sl, .ref ce, .int (nI n), .int bar, .int (nI tn), .ref ki, .ref si, .ref th, .ref ri, .int at_, .int rp, .ref rk, .ref rs, .ref kt, .ref kr, .int kn, .int rg, .ref ab, .int am, .ref bh, .int bm, .int br, .int (nI rn), .ref wa, .ref ra])), (so, .inl (cI, 4, .inl (upd sv q w))), (sl, .inl (cI, 4, .inl (upd lv q v))), (ce, .inl (cI, 240, .inl cv))] := hD
          refine lv_iconst (v := 0) hx hb dX7_sheet_54 (by decide) ?_
          refine lv_istore (lv' := [(4, .int 0), (0, .ref x), (1, .int (nI q)), (2, .int w), (3, .int v)]) hx hb dX7_sheet_55 hl (by decide) rfl (fun ls hl => ?_)
          have lp57 : ∀ (fu57 : Nat) (i : Nat) (hi : i ≤ 60) (hm57 : 60 - i < fu57) (H : Heap) (locs : List Loc) (hP : va_P D vwCl [(x, .inr (7, [.int 0, .int tr, .ref so, .ref sl, .ref ce, .int (nI n), .int bar, .int (nI tn), .ref ki, .ref si, .ref th, .ref ri, .int at_, .int rp, .ref rk, .ref rs, .ref kt, .ref kr, .int kn, .int rg, .ref ab, .int am, .ref bh, .int bm, .int br, .int (nI rn), .ref wa, .ref ra])), (so, .inl (cI, 4, .inl (upd sv q w))), (sl, .inl (cI, 4, .inl (upd lv q v))), (ce, .inl (cI, 240, .inl (zroM cv (60 * q) i)))] H) (hD : va_D A [(x, .inr (7, [.int 0, .int tr, .ref so, .ref sl, .ref ce, .int (nI n), .int bar, .int (nI tn), .ref ki, .ref si, .ref th, .ref ri, .int at_, .int rp, .ref rk, .ref rs, .ref kt, .ref kr, .int kn, .int rg, .ref ab, .int am, .ref bh, .int bm, .int br, .int (nI rn), .ref wa, .ref ra])), (so, .inl (cI, 4, .inl (upd sv q w))), (sl, .inl (cI, 4, .inl (upd lv q v))), (ce, .inl (cI, 240, .inl (zroM cv (60 * q) i)))]) (hS : va_S A s.heap H locs) (ls : Array Slot) (hl : lv_has ls 5 [(0, .ref x), (1, .int (nI q)), (4, .int (nI i))]), W p l e (headSpec wsX7_sheet ({ frames := 2, cells := 0, slots := 0, locals := 42 } : Room)).room s m ([.ref x, .int (nI q), .int w, .int v]).toArray below meth c H locs 0 0 (MQ below (va_Qi (S := Int32 × (Nat → Int32) × (Nat → Int32) × (Nat → Int32)) (fun r u => r = (onK (nI q) (shtR w v) (-1)) ∧ u.1 = (onK (nI q) (shtA w v) 0) ∧ u.2.1 = (onK (nI q) (if shtOk w v = true then upd sv (nI q).toNatClampNeg w else sv) sv) ∧ u.2.2.1 = (onK (nI q) (if shtOk w v = true then upd lv (nI q).toNatClampNeg v else lv) lv) ∧ u.2.2.2 = (onK (nI q) (if shtOk w v = true then zroM cv (60 * (nI q).toNatClampNeg) 60 else cv) cv)) (fun u t => va_P D vwCl [(x, .inr (7, [.int u.1, .int tr, .ref so, .ref sl, .ref ce, .int (nI n), .int bar, .int (nI tn), .ref ki, .ref si, .ref th, .ref ri, .int at_, .int rp, .ref rk, .ref rs, .ref kt, .ref kr, .int kn, .int rg, .ref ab, .int am, .ref bh, .int bm, .int br, .int (nI rn), .ref wa, .ref ra])), (so, .inl (cI, 4, .inl u.2.1)), (sl, .inl (cI, 4, .inl u.2.2.1)), (ce, .inl (cI, 240, .inl u.2.2.2))] t.heap ∧ va_K D vwCl (tyL cI cO) t ∧ va_D A [(x, .inr (7, [.int u.1, .int tr, .ref so, .ref sl, .ref ce, .int (nI n), .int bar, .int (nI tn), .ref ki, .ref si, .ref th, .ref ri, .int at_, .int rp, .ref rk, .ref rs, .ref kt, .ref kr, .int kn, .int rg, .ref ab, .int am, .ref bh, .int bm, .int br, .int (nI rn), .ref wa, .ref ra])), (so, .inl (cI, 4, .inl u.2.1)), (sl, .inl (cI, 4, .inl u.2.2.1)), (ce, .inl (cI, 240, .inl u.2.2.2))]) A) ([.ref x, .int (nI q), .int w, .int v]).toArray s 0 0 A) (F0 m 57 ls []) := by
            intro fu57
            induction fu57 with
            | zero =>
              intros; omega
            | succ fu57 ih57 =>
              intro i hi hm57 H locs hP hD hS ls hl
              refine lv_iload hx hb dX7_sheet_57 (lv_at hl 2 rfl) ?_
              refine lv_bipush (v := 60) hx hb dX7_sheet_59 (by decide) ?_
              refine lv_icmp_ge (tgt := 83) hx hb dX7_sheet_61 (by decide) (fun c61 => ?_) (fun c61 => ?_)
              · -- t61
                have e61 : i = 60 := by have q := ge_n (n := 60) (by omega) (by omega) c61; omega
                rw [e61] at hl
                rw [e61] at hP hD
                refine lv_iconst (v := 1) hx hb dX7_sheet_83 (by decide) ?_
                exact W.iret (v := 1) hx hb hr (fun t ht hW => ⟨⟨_, (0, upd sv q w, upd lv q v, zroM cv (60 * q) 60), rfl, by first | (simp only [onK_out hk]; simp; done) | (simp only [onK_in hk, cq]; simp [shtR, shtA, shtOk, *]; done), by rw [ht]; exact hP, va_K.moved hW.alike hK, hD⟩, hS.F ht⟩) hS.2.2 dX7_sheet_84
              · -- f61
                have l61 : i < 60 := lt_n (n := 60) (by omega) (by omega) c61
                refine lv_aload_n hx hb dX7_sheet_64 rfl (lv_at hl 0 rfl) ?_
                refine va_get (D := D) (ci := 7) (v := .ref ce) (C := RX7) (T := TX7) (N := 28) hx hb hts iX7 hown hK hP 0 rfl rfl 4 (by decide) f16 (fun _ h9 => h9) rfl dX7_sheet_65 ?_
                refine lv_bipush (v := 60) hx hb dX7_sheet_68 (by decide) ?_
                refine lv_iload_n hx hb dX7_sheet_70 rfl (lv_at hl 1 rfl) ?_
                refine lv_imul hx hb dX7_sheet_71 ?_
                refine lv_iload hx hb dX7_sheet_72 (lv_at hl 2 rfl) ?_
                refine lv_iadd hx hb dX7_sheet_74 ?_
                refine tp_i (y := nI (60 * q + i)) (ix60_i _ _) ?_
                refine lv_iconst (v := 0) hx hb dX7_sheet_75 (by decide) ?_
                refine va_iast hx hb hK hP hD hS 3 0 rfl rfl (vp_in_nI (by omega) (by decide)) dX7_sheet_76 (fun H locs hP hD hS => ?_)
                rw [nI_clamp (n := (60 * q + i)) (by omega)] at hP hD
                have hP : va_P D vwCl [(x, .inr (7, [.int 0, .int tr, .ref so, .ref sl, .ref ce, .int (nI n), .int bar, .int (nI tn), .ref ki, .ref si, .ref th, .ref ri, .int at_, .int rp, .ref rk, .ref rs, .ref kt, .ref kr, .int kn, .int rg, .ref ab, .int am, .ref bh, .int bm, .int br, .int (nI rn), .ref wa, .ref ra])), (so, .inl (cI, 4, .inl (upd sv q w))), (sl, .inl (cI, 4, .inl (upd lv q v))), (ce, .inl (cI, 240, .inl (upd (zroM cv (60 * q) i) (60 * q + i) 0)))] H := hP
                have hD : va_D A [(x, .inr (7, [.int 0, .int tr, .ref so, .ref sl, .ref ce, .int (nI n), .int bar, .int (nI tn), .ref ki, .ref si, .ref th, .ref ri, .int at_, .int rp, .ref rk, .ref rs, .ref kt, .ref kr, .int kn, .int rg, .ref ab, .int am, .ref bh, .int bm, .int br, .int (nI rn), .ref wa, .ref ra])), (so, .inl (cI, 4, .inl (upd sv q w))), (sl, .inl (cI, 4, .inl (upd lv q v))), (ce, .inl (cI, 240, .inl (upd (zroM cv (60 * q) i) (60 * q + i) 0)))] := hD
                refine lv_iinc (v := nI (i + 1)) (lv' := [(4, .int (nI (i + 1))), (0, .ref x), (1, .int (nI q))]) hx hb dX7_sheet_77 hl (k := 2) rfl (nI_1 _) (by decide) rfl (fun ls hl => ?_)
                refine lv_goto (tgt := 57) hx hb dX7_sheet_80 (by decide) ?_
                have ew57_3_0 : (upd (zroM cv (60 * q) i) (60 * q + i) 0) = zroM cv (60 * q) (i + 1) := by exact zroM_s cv _ i
                have hP : va_P D vwCl [(x, .inr (7, [.int 0, .int tr, .ref so, .ref sl, .ref ce, .int (nI n), .int bar, .int (nI tn), .ref ki, .ref si, .ref th, .ref ri, .int at_, .int rp, .ref rk, .ref rs, .ref kt, .ref kr, .int kn, .int rg, .ref ab, .int am, .ref bh, .int bm, .int br, .int (nI rn), .ref wa, .ref ra])), (so, .inl (cI, 4, .inl (upd sv q w))), (sl, .inl (cI, 4, .inl (upd lv q v))), (ce, .inl (cI, 240, .inl (zroM cv (60 * q) (i + 1))))] H := by rw [← ew57_3_0]; exact hP
                have hD : va_D A [(x, .inr (7, [.int 0, .int tr, .ref so, .ref sl, .ref ce, .int (nI n), .int bar, .int (nI tn), .ref ki, .ref si, .ref th, .ref ri, .int at_, .int rp, .ref rk, .ref rs, .ref kt, .ref kr, .int kn, .int rg, .ref ab, .int am, .ref bh, .int bm, .int br, .int (nI rn), .ref wa, .ref ra])), (so, .inl (cI, 4, .inl (upd sv q w))), (sl, .inl (cI, 4, .inl (upd lv q v))), (ce, .inl (cI, 240, .inl (zroM cv (60 * q) (i + 1))))] := by rw [← ew57_3_0]; exact hD
                exact ih57 (i + 1) (by omega) (by omega) _ _ hP hD hS _ (lv_sub hl [1, 2, 0] rfl)
          have ew57_3_0 : cv = zroM cv (60 * q) 0 := by exact (zroM_0 cv _).symm
          have hP : va_P D vwCl [(x, .inr (7, [.int 0, .int tr, .ref so, .ref sl, .ref ce, .int (nI n), .int bar, .int (nI tn), .ref ki, .ref si, .ref th, .ref ri, .int at_, .int rp, .ref rk, .ref rs, .ref kt, .ref kr, .int kn, .int rg, .ref ab, .int am, .ref bh, .int bm, .int br, .int (nI rn), .ref wa, .ref ra])), (so, .inl (cI, 4, .inl (upd sv q w))), (sl, .inl (cI, 4, .inl (upd lv q v))), (ce, .inl (cI, 240, .inl (zroM cv (60 * q) 0)))] H := by rw [← ew57_3_0]; exact hP
          have hD : va_D A [(x, .inr (7, [.int 0, .int tr, .ref so, .ref sl, .ref ce, .int (nI n), .int bar, .int (nI tn), .ref ki, .ref si, .ref th, .ref ri, .int at_, .int rp, .ref rk, .ref rs, .ref kt, .ref kr, .int kn, .int rg, .ref ab, .int am, .ref bh, .int bm, .int br, .int (nI rn), .ref wa, .ref ra])), (so, .inl (cI, 4, .inl (upd sv q w))), (sl, .inl (cI, 4, .inl (upd lv q v))), (ce, .inl (cI, 240, .inl (zroM cv (60 * q) 0)))] := by rw [← ew57_3_0]; exact hD
          exact lp57 _ 0 (Nat.zero_le _) (Nat.lt_succ_self _) _ _ hP hD hS _ (lv_sub hl [1, 2, 0] rfl)
        · -- f31
          refine lv_aload_n hx hb dX7_sheet_34 rfl (lv_at hl 0 rfl) ?_
          refine lv_iconst (v := 4) hx hb dX7_sheet_35 (by decide) ?_
          have hPc := hP.sub (ws' := [(x, .inr (7, [.int 0, .int tr, .ref so, .ref sl, .ref ce, .int (nI n), .int bar, .int (nI tn), .ref ki, .ref si, .ref th, .ref ri, .int at_, .int rp, .ref rk, .ref rs, .ref kt, .ref kr, .int kn, .int rg, .ref ab, .int am, .ref bh, .int bm, .int br, .int (nI rn), .ref wa, .ref ra]))]) [0] rfl
          have hDc := hD.sub (ws' := [(x, .inr (7, [.int 0, .int tr, .ref so, .ref sl, .ref ce, .int (nI n), .int bar, .int (nI tn), .ref ki, .ref si, .ref th, .ref ri, .int at_, .int rp, .ref rk, .ref rs, .ref kt, .ref kr, .int kn, .int rg, .ref ab, .int am, .ref bh, .int bm, .int br, .int (nI rn), .ref wa, .ref ra]))]) [0] (by decide) rfl
          have hFc := va_free (wc := [(x, .inr (7, [.int 0, .int tr, .ref so, .ref sl, .ref ce, .int (nI n), .int bar, .int (nI tn), .ref ki, .ref si, .ref th, .ref ri, .int at_, .int rp, .ref rk, .ref rs, .ref kt, .ref kr, .int kn, .int rg, .ref ab, .int am, .ref bh, .int bm, .int br, .int (nI rn), .ref wa, .ref ra]))]) hD hS hA [0] rfl
          refine va_calli (va_runV (As := [.int 4]) (rest := []) ⟨hx, hb, hml, hown, hts⟩ (c_X7_fails l D cI cO x 0 tr so sl ce n bar tn ki si th ri at_ rp rk rs kt kr kn rg ab am bh bm br rn wa ra 4 _) (cwV 1 hts gX7_sheet_X7_fails rfl rfl rfl (by decide +kernel) ⟨Nat.le_of_ble_eq_true rfl, Nat.le_of_ble_eq_true rfl⟩) (preVW hPc hK hNw hDc (va_recv hK hPc (ci := 7) (q0 := 0) rfl rfl)) rfl rfl hl.1 rfl (lv_room (Nat.le_of_ble_eq_true rfl)) dX7_sheet_36 ⟨Nat.zero_le _, Nat.zero_le _⟩) hS (fun q _ h => hFc q h) hFc (fun r36 u t H1 locs ht hvm w36 hB hz1 hk1 hS => ?_)
          obtain ⟨hP1, hK1, hD1⟩ := hB
          rw [ht] at hP1
          try dsimp only at w36
          obtain ⟨hP, hD⟩ := va_join (wr := [(so, .inl (cI, 4, .inl sv)), (sl, .inl (cI, 4, .inl lv)), (ce, .inl (cI, 240, .inl cv))]) (w1 := [(x, .inr (7, [.int 4, .int tr, .ref so, .ref sl, .ref ce, .int (nI n), .int bar, .int (nI tn), .ref ki, .ref si, .ref th, .ref ri, .int at_, .int rp, .ref rk, .ref rs, .ref kt, .ref kr, .int kn, .int rg, .ref ab, .int am, .ref bh, .int bm, .int br, .int (nI rn), .ref wa, .ref ra]))]) hP hD [0] [1, 2, 3] rfl rfl (by decide) (by decide) hk1 hFc hP1 hD1
          generalize H1 = H at hP hS ⊢
          have hP := hP.sub (ws' := [(x, .inr (7, [.int 4, .int tr, .ref so, .ref sl, .ref ce, .int (nI n), .int bar, .int (nI tn), .ref ki, .ref si, .ref th, .ref ri, .int at_, .int rp, .ref rk, .ref rs, .ref kt, .ref kr, .int kn, .int rg, .ref ab, .int am, .ref bh, .int bm, .int br, .int (nI rn), .ref wa, .ref ra])), (so, .inl (cI, 4, .inl sv)), (sl, .inl (cI, 4, .inl lv)), (ce, .inl (cI, 240, .inl cv))]) [3, 0, 1, 2] rfl
          have hD := hD.sub (ws' := [(x, .inr (7, [.int 4, .int tr, .ref so, .ref sl, .ref ce, .int (nI n), .int bar, .int (nI tn), .ref ki, .ref si, .ref th, .ref ri, .int at_, .int rp, .ref rk, .ref rs, .ref kt, .ref kr, .int kn, .int rg, .ref ab, .int am, .ref bh, .int bm, .int br, .int (nI rn), .ref wa, .ref ra])), (so, .inl (cI, 4, .inl sv)), (sl, .inl (cI, 4, .inl lv)), (ce, .inl (cI, 240, .inl cv))]) [3, 0, 1, 2] (by decide) rfl
          obtain rfl := w36
          exact W.iret (v := -10 - 4) hx hb hr (fun t ht hW => ⟨⟨_, (4, sv, lv, cv), rfl, by first | (simp only [onK_out hk]; simp; done) | (simp only [onK_in hk, cq]; simp [shtR, shtA, shtOk, *]; done), by rw [ht]; exact hP, va_K.moved hW.alike hK, hD⟩, hS.F ht⟩) hS.2.2 dX7_sheet_39
      · -- f24
        refine lv_bipush (v := -2) hx hb dX7_sheet_27 (by decide) ?_
        exact W.iret (v := -2) hx hb hr (fun t ht hW => ⟨⟨_, (0, sv, lv, cv), rfl, by first | (simp only [onK_out hk]; simp; done) | (simp only [onK_in hk, cq]; simp [shtR, shtA, shtOk, *]; done), by rw [ht]; exact hP, va_K.moved hW.alike hK, hD⟩, hS.F ht⟩) hS.2.2 dX7_sheet_29
    · -- n15
      obtain rfl := w15.2 b15
      refine lv_if_eq (tgt := 27) hx hb dX7_sheet_18 (by decide) (fun _ => ?_) (fun h => absurd (by decide) h)
      refine lv_bipush (v := -2) hx hb dX7_sheet_27 (by decide) ?_
      exact W.iret (v := -2) hx hb hr (fun t ht hW => ⟨⟨_, (0, sv, lv, cv), rfl, by first | (simp only [onK_out hk]; simp; done) | (simp only [onK_in hk, cq]; simp [shtR, shtA, shtOk, *]; done), by rw [ht]; exact hP, va_K.moved hW.alike hK, hD⟩, hS.F ht⟩) hS.2.2 dX7_sheet_29
  · -- n6
    obtain rfl := w6.2 b6
    have hk := b6
    refine lv_if_ne (tgt := 14) hx hb dX7_sheet_9 (by decide) (fun h => absurd (by decide) h) (fun _ => ?_)
    refine lv_iconst (v := -1) hx hb dX7_sheet_12 (by decide) ?_
    exact W.iret (v := -1) hx hb hr (fun t ht hW => ⟨⟨_, (0, sv, lv, cv), rfl, by first | (simp only [onK_out hk]; simp; done) | (simp only [onK_in hk, cq]; simp [shtR, shtA, shtOk, *]; done), by rw [ht]; exact hP, va_K.moved hW.alike hK, hD⟩, hS.F ht⟩) hS.2.2 dX7_sheet_13

set_option maxHeartbeats 4000000 in
set_option maxRecDepth 100000 in
theorem c_X7_lose (l : Launch) (D : va_G) (cI cO : ClassId) (x : Nat) (fa : Int32) (tr : Int32) (so : Nat) (sl : Nat) (ce : Nat) (n : Nat) (bar : Int32) (tn : Nat) (ki : Nat) (si : Nat) (th : Nat) (ri : Nat) (at_ : Int32) (rp : Int32) (rk : Nat) (rs : Nat) (kt : Nat) (kr : Nat) (kn : Int32) (rg : Int32) (ab : Nat) (am : Int32) (bh : Nat) (bm : Int32) (br : Int32) (rn : Nat) (wa : Nat) (ra : Nat) (sv : Nat → Int32) (kq : Int32) (sz : Nat) : Met l yX7_lose wsX7_lose ({ frames := 2, cells := 0, slots := 0, locals := 42 } : Room) (va_Pc [.ref x, .int kq] (wdW D cI cO [(x, .inr (7, [.int fa, .int tr, .ref so, .ref sl, .ref ce, .int (nI n), .int bar, .int (nI tn), .ref ki, .ref si, .ref th, .ref ri, .int at_, .int rp, .ref rk, .ref rs, .ref kt, .ref kr, .int kn, .int rg, .ref ab, .int am, .ref bh, .int bm, .int br, .int (nI rn), .ref wa, .ref ra])), (so, .inl (cI, 4, .inl sv))] sz)) (va_Qi (S := (Nat → Int32)) (fun r u => r = (onK kq (if sv kq.toNatClampNeg = -9 then 0 else 1) (-1)) ∧ u = (onK kq (upd sv kq.toNatClampNeg (-9)) sv)) (fun u t => va_P D vwCl [(x, .inr (7, [.int fa, .int tr, .ref so, .ref sl, .ref ce, .int (nI n), .int bar, .int (nI tn), .ref ki, .ref si, .ref th, .ref ri, .int at_, .int rp, .ref rk, .ref rs, .ref kt, .ref kr, .int kn, .int rg, .ref ab, .int am, .ref bh, .int bm, .int br, .int (nI rn), .ref wa, .ref ra])), (so, .inl (cI, 4, .inl u))] t.heap ∧ va_K D vwCl (tyL cI cO) t ∧ va_D (va_A [(x, .inr (7, [.int fa, .int tr, .ref so, .ref sl, .ref ce, .int (nI n), .int bar, .int (nI tn), .ref ki, .ref si, .ref th, .ref ri, .int at_, .int rp, .ref rk, .ref rs, .ref kt, .ref kr, .int kn, .int rg, .ref ab, .int am, .ref bh, .int bm, .int br, .int (nI rn), .ref wa, .ref ra])), (so, .inl (cI, 4, .inl sv))] sz) [(x, .inr (7, [.int fa, .int tr, .ref so, .ref sl, .ref ce, .int (nI n), .int bar, .int (nI tn), .ref ki, .ref si, .ref th, .ref ri, .int at_, .int rp, .ref rk, .ref rs, .ref kt, .ref kr, .int kn, .int rg, .ref ab, .int am, .ref bh, .int bm, .int br, .int (nI rn), .ref wa, .ref ra])), (so, .inl (cI, 4, .inl u))]) (va_A [(x, .inr (7, [.int fa, .int tr, .ref so, .ref sl, .ref ce, .int (nI n), .int bar, .int (nI tn), .ref ki, .ref si, .ref th, .ref ri, .int at_, .int rp, .ref rk, .ref rs, .ref kt, .ref kr, .int kn, .int rg, .ref ab, .int am, .ref bh, .int bm, .int br, .int (nI rn), .ref wa, .ref ra])), (so, .inl (cI, 4, .inl sv))] sz)) 0 0 (va_A [(x, .inr (7, [.int fa, .int tr, .ref so, .ref sl, .ref ce, .int (nI n), .int bar, .int (nI tn), .ref ki, .ref si, .ref th, .ref ri, .int at_, .int rp, .ref rk, .ref rs, .ref kt, .ref kr, .int kn, .int rg, .ref ab, .int am, .ref bh, .int bm, .int br, .int (nI rn), .ref wa, .ref ra])), (so, .inl (cI, 4, .inl sv))] sz) := by
  refine Met.ofW (cc := cX7_lose) (maxL := 3) (ret := (some .int)) (by decide) rfl ?_
  intro p e s m args below meth c s₁ B hml hv
  obtain ⟨rfl, hsz, hP, hK, hNw, hD0⟩ := hv
  have hx := B.exec
  have hb := B.bytes
  have hr := B.returns
  have hts := atoms_spec (ws := wsX7_lose) B.pre
  have hown : s.vm.findClass RX7 = some m.cls := findClass_of_methodNamed B.named
  have hlocks := B.notSynchronized
  have f9 := hts (.fieldLink RX7 9 "StruckThreesModel" "sorts" "[I") (by decide +kernel)
  have iX7 : ∀ w ∈ wsX70, w ∈ wsX7_lose := by decide +kernel
  subst hsz
  have hD := hD0.self (sz := s.heap.size)
  generalize hAe : va_A [(x, .inr (7, [.int fa, .int tr, .ref so, .ref sl, .ref ce, .int (nI n), .int bar, .int (nI tn), .ref ki, .ref si, .ref th, .ref ri, .int at_, .int rp, .ref rk, .ref rs, .ref kt, .ref kr, .int kn, .int rg, .ref ab, .int am, .ref bh, .int bm, .int br, .int (nI rn), .ref wa, .ref ra])), (so, .inl (cI, 4, .inl sv))] s.heap.size = A at hD ⊢
  have hA : ∀ q : Nat, s.heap.size ≤ q → A q := fun q h => by rw [← hAe]; exact Or.inr h
  have hS : va_S A s.heap s.heap [] := va_S.rf
  have hP : va_P D vwCl [(x, .inr (7, [.int fa, .int tr, .ref so, .ref sl, .ref ce, .int (nI n), .int bar, .int (nI tn), .ref ki, .ref si, .ref th, .ref ri, .int at_, .int rp, .ref rk, .ref rs, .ref kt, .ref kr, .int kn, .int rg, .ref ab, .int am, .ref bh, .int bm, .int br, .int (nI rn), .ref wa, .ref ra])), (so, .inl (cI, 4, .inl sv))] s.heap := hP
  have hl := lv_entry ([.ref x, .int kq]) (n := 3) (Nat.le_of_ble_eq_true rfl)
  rw [lg_entry_eq]
  generalize (lg_sl ([.ref x, .int kq]) ++ List.replicate (3 - (lg_sl ([.ref x, .int kq])).length) Slot.unset).toArray = ls at hl ⊢
  have hl : lv_has ls 3 [(0, .ref x), (1, .int kq)] := hl
  refine lv_iload_n hx hb dX7_lose_0 rfl (lv_at hl 1 rfl) ?_
  have hPc := hP.sub (ws' := []) [] rfl
  refine vp_callSi (va_Run.run (va_runS (As := [.int kq]) (rest := []) ⟨hx, hb, hml, hown, hts⟩ (c_X7_isSheet l D cI cO kq) (va_cwS 1 hts gX7_lose_X7_isSheet rfl rfl rfl (by decide +kernel) ⟨Nat.le_of_ble_eq_true rfl, Nat.le_of_ble_eq_true rfl⟩) (preSR hPc hK hNw) rfl rfl hl.1 rfl (lv_room (Nat.le_of_ble_eq_true rfl)) dX7_lose_1 ⟨Nat.zero_le _, Nat.zero_le _⟩)) (fun r1 w1 => ?_)
  by_cases b1 : ¬ kq < 0 ∧ kq < 4
  · -- y1
    obtain rfl := w1.1 b1
    obtain ⟨q, hq4, rfl⟩ := vp_in_of (in4 b1.1 b1.2) (by decide)
    have cq := nI_clamp (n := q) (by omega)
    have hk := b1
    refine lv_if_ne (tgt := 9) hx hb dX7_lose_4 (by decide) (fun _ => ?_) (fun h => absurd h (by decide))
    refine lv_aload_n hx hb dX7_lose_9 rfl (lv_at hl 0 rfl) ?_
    refine va_get (D := D) (ci := 7) (v := .ref so) (C := RX7) (T := TX7) (N := 28) hx hb hts iX7 hown hK hP 0 rfl rfl 2 (by decide) f9 (fun _ h9 => h9) rfl dX7_lose_10 ?_
    refine lv_iload_n hx hb dX7_lose_13 rfl (lv_at hl 1 rfl) ?_
    refine va_iald hx hb hK hP 1 0 rfl rfl (vp_in_nI (by omega) (by decide)) dX7_lose_14 ?_
    refine tp_i (y := sv q) (by rw [nI_clamp (n := q) (by omega)]) ?_
    refine lv_bipush (v := -9) hx hb dX7_lose_15 (by decide) ?_
    refine lv_icmp_ne (tgt := 24) hx hb dX7_lose_17 (by decide) (fun c17 => ?_) (fun c17 => ?_)
    · -- t17
      refine lv_iconst (v := 1) hx hb dX7_lose_24 (by decide) ?_
      refine lv_istore_n (lv' := [(2, .int 1), (0, .ref x), (1, .int (nI q))]) hx hb dX7_lose_25 rfl hl (by decide) rfl (fun ls hl => ?_)
      refine lv_aload_n hx hb dX7_lose_26 rfl (lv_at hl 1 rfl) ?_
      refine va_get (D := D) (ci := 7) (v := .ref so) (C := RX7) (T := TX7) (N := 28) hx hb hts iX7 hown hK hP 0 rfl rfl 2 (by decide) f9 (fun _ h9 => h9) rfl dX7_lose_27 ?_
      refine lv_iload_n hx hb dX7_lose_30 rfl (lv_at hl 2 rfl) ?_
      refine lv_bipush (v := -9) hx hb dX7_lose_31 (by decide) ?_
      refine va_iast hx hb hK hP hD hS 1 0 rfl rfl (vp_in_nI (by omega) (by decide)) dX7_lose_33 (fun H locs hP hD hS => ?_)
      rw [nI_clamp (n := q) (by omega)] at hP hD
      have hP : va_P D vwCl [(x, .inr (7, [.int fa, .int tr, .ref so, .ref sl, .ref ce, .int (nI n), .int bar, .int (nI tn), .ref ki, .ref si, .ref th, .ref ri, .int at_, .int rp, .ref rk, .ref rs, .ref kt, .ref kr, .int kn, .int rg, .ref ab, .int am, .ref bh, .int bm, .int br, .int (nI rn), .ref wa, .ref ra])), (so, .inl (cI, 4, .inl (upd sv q (-9))))] H := hP
      have hD : va_D A [(x, .inr (7, [.int fa, .int tr, .ref so, .ref sl, .ref ce, .int (nI n), .int bar, .int (nI tn), .ref ki, .ref si, .ref th, .ref ri, .int at_, .int rp, .ref rk, .ref rs, .ref kt, .ref kr, .int kn, .int rg, .ref ab, .int am, .ref bh, .int bm, .int br, .int (nI rn), .ref wa, .ref ra])), (so, .inl (cI, 4, .inl (upd sv q (-9))))] := hD
      refine lv_iload_n hx hb dX7_lose_34 rfl (lv_at hl 0 rfl) ?_
      exact W.iret (v := 1) hx hb hr (fun t ht hW => ⟨⟨_, (upd sv q (-9)), rfl, by first | (simp only [onK_out hk]; simp; done) | (simp only [onK_in hk, cq]; simp [shtR, *]; done), by rw [ht]; exact hP, va_K.moved hW.alike hK, hD⟩, hS.F ht⟩) hS.2.2 dX7_lose_35
    · -- f17
      refine lv_iconst (v := 0) hx hb dX7_lose_20 (by decide) ?_
      refine lv_goto (tgt := 25) hx hb dX7_lose_21 (by decide) ?_
      refine lv_istore_n (lv' := [(2, .int 0), (0, .ref x), (1, .int (nI q))]) hx hb dX7_lose_25 rfl hl (by decide) rfl (fun ls hl => ?_)
      refine lv_aload_n hx hb dX7_lose_26 rfl (lv_at hl 1 rfl) ?_
      refine va_get (D := D) (ci := 7) (v := .ref so) (C := RX7) (T := TX7) (N := 28) hx hb hts iX7 hown hK hP 0 rfl rfl 2 (by decide) f9 (fun _ h9 => h9) rfl dX7_lose_27 ?_
      refine lv_iload_n hx hb dX7_lose_30 rfl (lv_at hl 2 rfl) ?_
      refine lv_bipush (v := -9) hx hb dX7_lose_31 (by decide) ?_
      refine va_iast hx hb hK hP hD hS 1 0 rfl rfl (vp_in_nI (by omega) (by decide)) dX7_lose_33 (fun H locs hP hD hS => ?_)
      rw [nI_clamp (n := q) (by omega)] at hP hD
      have hP : va_P D vwCl [(x, .inr (7, [.int fa, .int tr, .ref so, .ref sl, .ref ce, .int (nI n), .int bar, .int (nI tn), .ref ki, .ref si, .ref th, .ref ri, .int at_, .int rp, .ref rk, .ref rs, .ref kt, .ref kr, .int kn, .int rg, .ref ab, .int am, .ref bh, .int bm, .int br, .int (nI rn), .ref wa, .ref ra])), (so, .inl (cI, 4, .inl (upd sv q (-9))))] H := hP
      have hD : va_D A [(x, .inr (7, [.int fa, .int tr, .ref so, .ref sl, .ref ce, .int (nI n), .int bar, .int (nI tn), .ref ki, .ref si, .ref th, .ref ri, .int at_, .int rp, .ref rk, .ref rs, .ref kt, .ref kr, .int kn, .int rg, .ref ab, .int am, .ref bh, .int bm, .int br, .int (nI rn), .ref wa, .ref ra])), (so, .inl (cI, 4, .inl (upd sv q (-9))))] := hD
      refine lv_iload_n hx hb dX7_lose_34 rfl (lv_at hl 0 rfl) ?_
      exact W.iret (v := 0) hx hb hr (fun t ht hW => ⟨⟨_, (upd sv q (-9)), rfl, by first | (simp only [onK_out hk]; simp; done) | (simp only [onK_in hk, cq]; simp [shtR, *]; done), by rw [ht]; exact hP, va_K.moved hW.alike hK, hD⟩, hS.F ht⟩) hS.2.2 dX7_lose_35
  · -- n1
    obtain rfl := w1.2 b1
    have hk := b1
    refine lv_if_ne (tgt := 9) hx hb dX7_lose_4 (by decide) (fun h => absurd (by decide) h) (fun _ => ?_)
    refine lv_iconst (v := -1) hx hb dX7_lose_7 (by decide) ?_
    exact W.iret (v := -1) hx hb hr (fun t ht hW => ⟨⟨_, sv, rfl, by first | (simp only [onK_out hk]; simp; done) | (simp only [onK_in hk, cq]; simp [shtR, *]; done), by rw [ht]; exact hP, va_K.moved hW.alike hK, hD⟩, hS.F ht⟩) hS.2.2 dX7_lose_8

set_option maxHeartbeats 4000000 in
set_option maxRecDepth 100000 in
theorem c_X7_put (l : Launch) (D : va_G) (cI cO : ClassId) (x : Nat) (fa : Int32) (tr : Int32) (so : Nat) (sl : Nat) (ce : Nat) (n : Nat) (bar : Int32) (tn : Nat) (ki : Nat) (si : Nat) (th : Nat) (ri : Nat) (at_ : Int32) (rp : Int32) (rk : Nat) (rs : Nat) (kt : Nat) (kr : Nat) (kn : Int32) (rg : Int32) (ab : Nat) (am : Int32) (bh : Nat) (bm : Int32) (br : Int32) (rn : Nat) (wa : Nat) (ra : Nat) (sv : Nat → Int32) (lv : Nat → Int32) (cv : Nat → Int32) (kq : Int32) (i : Int32) (v : Int32) (sz : Nat) (hom : okM sv lv) : Met l yX7_put wsX7_put ({ frames := 2, cells := 0, slots := 0, locals := 42 } : Room) (va_Pc [.ref x, .int kq, .int i, .int v] (wdW D cI cO [(x, .inr (7, [.int fa, .int tr, .ref so, .ref sl, .ref ce, .int (nI n), .int bar, .int (nI tn), .ref ki, .ref si, .ref th, .ref ri, .int at_, .int rp, .ref rk, .ref rs, .ref kt, .ref kr, .int kn, .int rg, .ref ab, .int am, .ref bh, .int bm, .int br, .int (nI rn), .ref wa, .ref ra])), (so, .inl (cI, 4, .inl sv)), (sl, .inl (cI, 4, .inl lv)), (ce, .inl (cI, 240, .inl cv))] sz)) (va_Qi (S := Int32 × (Nat → Int32)) (fun r u => r = (onK kq (putM (sv kq.toNatClampNeg) (lv kq.toNatClampNeg) i) (-1)) ∧ u.1 = (onK kq (putMA (sv kq.toNatClampNeg) (lv kq.toNatClampNeg) i) 0) ∧ u.2 = (onK kq (putMF (sv kq.toNatClampNeg) (lv kq.toNatClampNeg) cv kq.toNatClampNeg i v) cv)) (fun u t => va_P D vwCl [(x, .inr (7, [.int u.1, .int tr, .ref so, .ref sl, .ref ce, .int (nI n), .int bar, .int (nI tn), .ref ki, .ref si, .ref th, .ref ri, .int at_, .int rp, .ref rk, .ref rs, .ref kt, .ref kr, .int kn, .int rg, .ref ab, .int am, .ref bh, .int bm, .int br, .int (nI rn), .ref wa, .ref ra])), (so, .inl (cI, 4, .inl sv)), (sl, .inl (cI, 4, .inl lv)), (ce, .inl (cI, 240, .inl u.2))] t.heap ∧ va_K D vwCl (tyL cI cO) t ∧ va_D (va_A [(x, .inr (7, [.int fa, .int tr, .ref so, .ref sl, .ref ce, .int (nI n), .int bar, .int (nI tn), .ref ki, .ref si, .ref th, .ref ri, .int at_, .int rp, .ref rk, .ref rs, .ref kt, .ref kr, .int kn, .int rg, .ref ab, .int am, .ref bh, .int bm, .int br, .int (nI rn), .ref wa, .ref ra])), (so, .inl (cI, 4, .inl sv)), (sl, .inl (cI, 4, .inl lv)), (ce, .inl (cI, 240, .inl cv))] sz) [(x, .inr (7, [.int u.1, .int tr, .ref so, .ref sl, .ref ce, .int (nI n), .int bar, .int (nI tn), .ref ki, .ref si, .ref th, .ref ri, .int at_, .int rp, .ref rk, .ref rs, .ref kt, .ref kr, .int kn, .int rg, .ref ab, .int am, .ref bh, .int bm, .int br, .int (nI rn), .ref wa, .ref ra])), (so, .inl (cI, 4, .inl sv)), (sl, .inl (cI, 4, .inl lv)), (ce, .inl (cI, 240, .inl u.2))]) (va_A [(x, .inr (7, [.int fa, .int tr, .ref so, .ref sl, .ref ce, .int (nI n), .int bar, .int (nI tn), .ref ki, .ref si, .ref th, .ref ri, .int at_, .int rp, .ref rk, .ref rs, .ref kt, .ref kr, .int kn, .int rg, .ref ab, .int am, .ref bh, .int bm, .int br, .int (nI rn), .ref wa, .ref ra])), (so, .inl (cI, 4, .inl sv)), (sl, .inl (cI, 4, .inl lv)), (ce, .inl (cI, 240, .inl cv))] sz)) 0 0 (va_A [(x, .inr (7, [.int fa, .int tr, .ref so, .ref sl, .ref ce, .int (nI n), .int bar, .int (nI tn), .ref ki, .ref si, .ref th, .ref ri, .int at_, .int rp, .ref rk, .ref rs, .ref kt, .ref kr, .int kn, .int rg, .ref ab, .int am, .ref bh, .int bm, .int br, .int (nI rn), .ref wa, .ref ra])), (so, .inl (cI, 4, .inl sv)), (sl, .inl (cI, 4, .inl lv)), (ce, .inl (cI, 240, .inl cv))] sz) := by
  refine Met.ofW (cc := cX7_put) (maxL := 4) (ret := (some .int)) (by decide) rfl ?_
  intro p e s m args below meth c s₁ B hml hv
  obtain ⟨rfl, hsz, hP, hK, hNw, hD0⟩ := hv
  have hx := B.exec
  have hb := B.bytes
  have hr := B.returns
  have hts := atoms_spec (ws := wsX7_put) B.pre
  have hown : s.vm.findClass RX7 = some m.cls := findClass_of_methodNamed B.named
  have hlocks := B.notSynchronized
  have f9 := hts (.fieldLink RX7 9 "StruckThreesModel" "sorts" "[I") (by decide +kernel)
  have f13 := hts (.fieldLink RX7 13 "StruckThreesModel" "sheetLong" "[I") (by decide +kernel)
  have f16 := hts (.fieldLink RX7 16 "StruckThreesModel" "cells" "[I") (by decide +kernel)
  have f55 := hts (.fieldLink RX7 55 "StruckThreesModel" "fault" "I") (by decide +kernel)
  have iX7 : ∀ w ∈ wsX70, w ∈ wsX7_put := by decide +kernel
  subst hsz
  have hD := hD0.self (sz := s.heap.size)
  generalize hAe : va_A [(x, .inr (7, [.int fa, .int tr, .ref so, .ref sl, .ref ce, .int (nI n), .int bar, .int (nI tn), .ref ki, .ref si, .ref th, .ref ri, .int at_, .int rp, .ref rk, .ref rs, .ref kt, .ref kr, .int kn, .int rg, .ref ab, .int am, .ref bh, .int bm, .int br, .int (nI rn), .ref wa, .ref ra])), (so, .inl (cI, 4, .inl sv)), (sl, .inl (cI, 4, .inl lv)), (ce, .inl (cI, 240, .inl cv))] s.heap.size = A at hD ⊢
  have hA : ∀ q : Nat, s.heap.size ≤ q → A q := fun q h => by rw [← hAe]; exact Or.inr h
  have hS : va_S A s.heap s.heap [] := va_S.rf
  have hP : va_P D vwCl [(x, .inr (7, [.int fa, .int tr, .ref so, .ref sl, .ref ce, .int (nI n), .int bar, .int (nI tn), .ref ki, .ref si, .ref th, .ref ri, .int at_, .int rp, .ref rk, .ref rs, .ref kt, .ref kr, .int kn, .int rg, .ref ab, .int am, .ref bh, .int bm, .int br, .int (nI rn), .ref wa, .ref ra])), (so, .inl (cI, 4, .inl sv)), (sl, .inl (cI, 4, .inl lv)), (ce, .inl (cI, 240, .inl cv))] s.heap := hP
  have hl := lv_entry ([.ref x, .int kq, .int i, .int v]) (n := 4) (Nat.le_of_ble_eq_true rfl)
  rw [lg_entry_eq]
  generalize (lg_sl ([.ref x, .int kq, .int i, .int v]) ++ List.replicate (4 - (lg_sl ([.ref x, .int kq, .int i, .int v])).length) Slot.unset).toArray = ls at hl ⊢
  have hl : lv_has ls 4 [(0, .ref x), (1, .int kq), (2, .int i), (3, .int v)] := hl
  refine lv_aload_n hx hb dX7_put_0 rfl (lv_at hl 0 rfl) ?_
  refine lv_iconst (v := 0) hx hb dX7_put_1 (by decide) ?_
  refine va_put (D := D) (ci := 7) (v := .int 0) (ty := .int) (C := RX7) (T := TX7) (N := 28) hx hb hts iX7 tyX7 tyX7_ok nmX7 hown hK hP hD hS 0 rfl rfl 0 (by decide) f55 (fun _ h9 => h9) rfl (by decide +kernel) rfl rfl (Nat.le_of_ble_eq_true rfl) dX7_put_2 (fun H locs hP hD hS => ?_)
  have hP : va_P D vwCl [(x, .inr (7, [.int 0, .int tr, .ref so, .ref sl, .ref ce, .int (nI n), .int bar, .int (nI tn), .ref ki, .ref si, .ref th, .ref ri, .int at_, .int rp, .ref rk, .ref rs, .ref kt, .ref kr, .int kn, .int rg, .ref ab, .int am, .ref bh, .int bm, .int br, .int (nI rn), .ref wa, .ref ra])), (so, .inl (cI, 4, .inl sv)), (sl, .inl (cI, 4, .inl lv)), (ce, .inl (cI, 240, .inl cv))] H := hP
  have hD : va_D A [(x, .inr (7, [.int 0, .int tr, .ref so, .ref sl, .ref ce, .int (nI n), .int bar, .int (nI tn), .ref ki, .ref si, .ref th, .ref ri, .int at_, .int rp, .ref rk, .ref rs, .ref kt, .ref kr, .int kn, .int rg, .ref ab, .int am, .ref bh, .int bm, .int br, .int (nI rn), .ref wa, .ref ra])), (so, .inl (cI, 4, .inl sv)), (sl, .inl (cI, 4, .inl lv)), (ce, .inl (cI, 240, .inl cv))] := hD
  refine lv_iload_n hx hb dX7_put_5 rfl (lv_at hl 1 rfl) ?_
  have hPc := hP.sub (ws' := []) [] rfl
  refine vp_callSi (va_Run.run (va_runS (As := [.int kq]) (rest := []) ⟨hx, hb, hml, hown, hts⟩ (c_X7_isSheet l D cI cO kq) (va_cwS 1 hts gX7_put_X7_isSheet rfl rfl rfl (by decide +kernel) ⟨Nat.le_of_ble_eq_true rfl, Nat.le_of_ble_eq_true rfl⟩) (preSR hPc hK hNw) rfl rfl hl.1 rfl (lv_room (Nat.le_of_ble_eq_true rfl)) dX7_put_6 ⟨Nat.zero_le _, Nat.zero_le _⟩)) (fun r6 w6 => ?_)
  by_cases b6 : ¬ kq < 0 ∧ kq < 4
  · -- y6
    obtain rfl := w6.1 b6
    obtain ⟨q, hq4, rfl⟩ := vp_in_of (in4 b6.1 b6.2) (by decide)
    have cq := nI_clamp (n := q) (by omega)
    have hk := b6
    refine lv_if_ne (tgt := 14) hx hb dX7_put_9 (by decide) (fun _ => ?_) (fun h => absurd h (by decide))
    refine lv_aload_n hx hb dX7_put_14 rfl (lv_at hl 0 rfl) ?_
    refine va_get (D := D) (ci := 7) (v := .ref so) (C := RX7) (T := TX7) (N := 28) hx hb hts iX7 hown hK hP 0 rfl rfl 2 (by decide) f9 (fun _ h9 => h9) rfl dX7_put_15 ?_
    refine lv_iload_n hx hb dX7_put_18 rfl (lv_at hl 1 rfl) ?_
    refine va_iald hx hb hK hP 1 0 rfl rfl (vp_in_nI (by omega) (by decide)) dX7_put_19 ?_
    refine tp_i (y := sv q) (by rw [nI_clamp (n := q) (by omega)]) ?_
    refine lv_bipush (v := -9) hx hb dX7_put_20 (by decide) ?_
    refine lv_icmp_ne (tgt := 31) hx hb dX7_put_22 (by decide) (fun c22 => ?_) (fun c22 => ?_)
    · -- t22
      refine lv_iload_n hx hb dX7_put_31 rfl (lv_at hl 2 rfl) ?_
      refine lv_iconst (v := 0) hx hb dX7_put_32 (by decide) ?_
      refine lv_aload_n hx hb dX7_put_33 rfl (lv_at hl 0 rfl) ?_
      refine va_get (D := D) (ci := 7) (v := .ref sl) (C := RX7) (T := TX7) (N := 28) hx hb hts iX7 hown hK hP 0 rfl rfl 3 (by decide) f13 (fun _ h9 => h9) rfl dX7_put_34 ?_
      refine lv_iload_n hx hb dX7_put_37 rfl (lv_at hl 1 rfl) ?_
      refine va_iald hx hb hK hP 2 0 rfl rfl (vp_in_nI (by omega) (by decide)) dX7_put_38 ?_
      refine tp_i (y := lv q) (by rw [nI_clamp (n := q) (by omega)]) ?_
      refine lv_iconst (v := 1) hx hb dX7_put_39 (by decide) ?_
      refine lv_isub hx hb dX7_put_40 ?_
      have hPc := hP.sub (ws' := []) [] rfl
      refine vp_callSi (va_Run.run (va_runS (As := [.int i, .int 0, .int ((lv q) - 1)]) (rest := []) ⟨hx, hb, hml, hown, hts⟩ (c_X7_within l D cI cO i 0 ((lv q) - 1)) (va_cwS 3 hts gX7_put_X7_within rfl rfl rfl (by decide +kernel) ⟨Nat.le_of_ble_eq_true rfl, Nat.le_of_ble_eq_true rfl⟩) (preSR hPc hK hNw) rfl rfl hl.1 rfl (lv_room (Nat.le_of_ble_eq_true rfl)) dX7_put_41 ⟨Nat.zero_le _, Nat.zero_le _⟩)) (fun r41 w41 => ?_)
      by_cases b41 : lstT i 0 ((lv q) - 1) = true
      · -- y41
        obtain rfl := w41.1 b41
        obtain ⟨L, hL, eL⟩ := hom q hq4 c22
        obtain ⟨j, hj, rfl⟩ := lst_L hL (eL ▸ b41)
        have cj := nI_clamp (n := j) (by omega)
        have hLn := lst_Ln hL hj
        refine lv_if_ne (tgt := 53) hx hb dX7_put_44 (by decide) (fun _ => ?_) (fun h => absurd h (by decide))
        refine lv_aload_n hx hb dX7_put_53 rfl (lv_at hl 0 rfl) ?_
        refine va_get (D := D) (ci := 7) (v := .ref ce) (C := RX7) (T := TX7) (N := 28) hx hb hts iX7 hown hK hP 0 rfl rfl 4 (by decide) f16 (fun _ h9 => h9) rfl dX7_put_54 ?_
        refine lv_bipush (v := 60) hx hb dX7_put_57 (by decide) ?_
        refine lv_iload_n hx hb dX7_put_59 rfl (lv_at hl 1 rfl) ?_
        refine lv_imul hx hb dX7_put_60 ?_
        refine lv_iload_n hx hb dX7_put_61 rfl (lv_at hl 2 rfl) ?_
        refine lv_iadd hx hb dX7_put_62 ?_
        refine tp_i (y := nI (60 * q + j)) (ix60_i _ _) ?_
        refine lv_aload_n hx hb dX7_put_63 rfl (lv_at hl 0 rfl) ?_
        refine va_get (D := D) (ci := 7) (v := .ref so) (C := RX7) (T := TX7) (N := 28) hx hb hts iX7 hown hK hP 0 rfl rfl 2 (by decide) f9 (fun _ h9 => h9) rfl dX7_put_64 ?_
        refine lv_iload_n hx hb dX7_put_67 rfl (lv_at hl 1 rfl) ?_
        refine va_iald hx hb hK hP 1 0 rfl rfl (vp_in_nI (by omega) (by decide)) dX7_put_68 ?_
        refine tp_i (y := sv q) (by rw [nI_clamp (n := q) (by omega)]) ?_
        refine lv_if_ne (tgt := 77) hx hb dX7_put_69 (by decide) (fun c69 => ?_) (fun c69 => ?_)
        · -- t69
          refine lv_aload_n hx hb dX7_put_77 rfl (lv_at hl 0 rfl) ?_
          refine va_get (D := D) (ci := 7) (v := .ref so) (C := RX7) (T := TX7) (N := 28) hx hb hts iX7 hown hK hP 0 rfl rfl 2 (by decide) f9 (fun _ h9 => h9) rfl dX7_put_78 ?_
          refine lv_iload_n hx hb dX7_put_81 rfl (lv_at hl 1 rfl) ?_
          refine va_iald hx hb hK hP 1 0 rfl rfl (vp_in_nI (by omega) (by decide)) dX7_put_82 ?_
          refine tp_i (y := sv q) (by rw [nI_clamp (n := q) (by omega)]) ?_
          refine lv_iconst (v := 1) hx hb dX7_put_83 (by decide) ?_
          refine lv_icmp_ne (tgt := 92) hx hb dX7_put_84 (by decide) (fun c84 => ?_) (fun c84 => ?_)
          · -- t84
            refine lv_iload_n hx hb dX7_put_92 rfl (lv_at hl 3 rfl) ?_
            refine va_iast hx hb hK hP hD hS 3 0 rfl rfl (vp_in_nI (by omega) (by decide)) dX7_put_93 (fun H locs hP hD hS => ?_)
            rw [nI_clamp (n := (60 * q + j)) (by omega)] at hP hD
            have hP : va_P D vwCl [(x, .inr (7, [.int 0, .int tr, .ref so, .ref sl, .ref ce, .int (nI n), .int bar, .int (nI tn), .ref ki, .ref si, .ref th, .ref ri, .int at_, .int rp, .ref rk, .ref rs, .ref kt, .ref kr, .int kn, .int rg, .ref ab, .int am, .ref bh, .int bm, .int br, .int (nI rn), .ref wa, .ref ra])), (so, .inl (cI, 4, .inl sv)), (sl, .inl (cI, 4, .inl lv)), (ce, .inl (cI, 240, .inl (upd cv (60 * q + j) v)))] H := hP
            have hD : va_D A [(x, .inr (7, [.int 0, .int tr, .ref so, .ref sl, .ref ce, .int (nI n), .int bar, .int (nI tn), .ref ki, .ref si, .ref th, .ref ri, .int at_, .int rp, .ref rk, .ref rs, .ref kt, .ref kr, .int kn, .int rg, .ref ab, .int am, .ref bh, .int bm, .int br, .int (nI rn), .ref wa, .ref ra])), (so, .inl (cI, 4, .inl sv)), (sl, .inl (cI, 4, .inl lv)), (ce, .inl (cI, 240, .inl (upd cv (60 * q + j) v)))] := hD
            refine lv_iconst (v := 1) hx hb dX7_put_94 (by decide) ?_
            exact W.iret (v := 1) hx hb hr (fun t ht hW => ⟨⟨_, (0, upd cv (60 * q + j) v), rfl, by first | (simp only [onK_out hk]; simp; done) | (simp only [onK_in hk, cq]; simp [putM, putMA, putMF, cutI, *]; done), by rw [ht]; exact hP, va_K.moved hW.alike hK, hD⟩, hS.F ht⟩) hS.2.2 dX7_put_95
          · -- f84
            refine lv_iload_n hx hb dX7_put_87 rfl (lv_at hl 3 rfl) ?_
            refine lv_i2s hx hb dX7_put_88 rfl ?_
            refine lv_goto (tgt := 93) hx hb dX7_put_89 (by decide) ?_
            refine va_iast hx hb hK hP hD hS 3 0 rfl rfl (vp_in_nI (by omega) (by decide)) dX7_put_93 (fun H locs hP hD hS => ?_)
            rw [nI_clamp (n := (60 * q + j)) (by omega)] at hP hD
            have hP : va_P D vwCl [(x, .inr (7, [.int 0, .int tr, .ref so, .ref sl, .ref ce, .int (nI n), .int bar, .int (nI tn), .ref ki, .ref si, .ref th, .ref ri, .int at_, .int rp, .ref rk, .ref rs, .ref kt, .ref kr, .int kn, .int rg, .ref ab, .int am, .ref bh, .int bm, .int br, .int (nI rn), .ref wa, .ref ra])), (so, .inl (cI, 4, .inl sv)), (sl, .inl (cI, 4, .inl lv)), (ce, .inl (cI, 240, .inl (upd cv (60 * q + j) v.toInt16.toInt32)))] H := hP
            have hD : va_D A [(x, .inr (7, [.int 0, .int tr, .ref so, .ref sl, .ref ce, .int (nI n), .int bar, .int (nI tn), .ref ki, .ref si, .ref th, .ref ri, .int at_, .int rp, .ref rk, .ref rs, .ref kt, .ref kr, .int kn, .int rg, .ref ab, .int am, .ref bh, .int bm, .int br, .int (nI rn), .ref wa, .ref ra])), (so, .inl (cI, 4, .inl sv)), (sl, .inl (cI, 4, .inl lv)), (ce, .inl (cI, 240, .inl (upd cv (60 * q + j) v.toInt16.toInt32)))] := hD
            refine lv_iconst (v := 1) hx hb dX7_put_94 (by decide) ?_
            exact W.iret (v := 1) hx hb hr (fun t ht hW => ⟨⟨_, (0, upd cv (60 * q + j) v.toInt16.toInt32), rfl, by first | (simp only [onK_out hk]; simp; done) | (simp only [onK_in hk, cq]; simp [putM, putMA, putMF, cutI, *]; done), by rw [ht]; exact hP, va_K.moved hW.alike hK, hD⟩, hS.F ht⟩) hS.2.2 dX7_put_95
        · -- f69
          refine lv_iload_n hx hb dX7_put_72 rfl (lv_at hl 3 rfl) ?_
          refine lv_i2b hx hb dX7_put_73 rfl ?_
          refine lv_goto (tgt := 93) hx hb dX7_put_74 (by decide) ?_
          refine va_iast hx hb hK hP hD hS 3 0 rfl rfl (vp_in_nI (by omega) (by decide)) dX7_put_93 (fun H locs hP hD hS => ?_)
          rw [nI_clamp (n := (60 * q + j)) (by omega)] at hP hD
          have hP : va_P D vwCl [(x, .inr (7, [.int 0, .int tr, .ref so, .ref sl, .ref ce, .int (nI n), .int bar, .int (nI tn), .ref ki, .ref si, .ref th, .ref ri, .int at_, .int rp, .ref rk, .ref rs, .ref kt, .ref kr, .int kn, .int rg, .ref ab, .int am, .ref bh, .int bm, .int br, .int (nI rn), .ref wa, .ref ra])), (so, .inl (cI, 4, .inl sv)), (sl, .inl (cI, 4, .inl lv)), (ce, .inl (cI, 240, .inl (upd cv (60 * q + j) v.toInt8.toInt32)))] H := hP
          have hD : va_D A [(x, .inr (7, [.int 0, .int tr, .ref so, .ref sl, .ref ce, .int (nI n), .int bar, .int (nI tn), .ref ki, .ref si, .ref th, .ref ri, .int at_, .int rp, .ref rk, .ref rs, .ref kt, .ref kr, .int kn, .int rg, .ref ab, .int am, .ref bh, .int bm, .int br, .int (nI rn), .ref wa, .ref ra])), (so, .inl (cI, 4, .inl sv)), (sl, .inl (cI, 4, .inl lv)), (ce, .inl (cI, 240, .inl (upd cv (60 * q + j) v.toInt8.toInt32)))] := hD
          refine lv_iconst (v := 1) hx hb dX7_put_94 (by decide) ?_
          exact W.iret (v := 1) hx hb hr (fun t ht hW => ⟨⟨_, (0, upd cv (60 * q + j) v.toInt8.toInt32), rfl, by first | (simp only [onK_out hk]; simp; done) | (simp only [onK_in hk, cq]; simp [putM, putMA, putMF, cutI, *]; done), by rw [ht]; exact hP, va_K.moved hW.alike hK, hD⟩, hS.F ht⟩) hS.2.2 dX7_put_95
      · -- n41
        obtain rfl := w41.2 b41
        refine lv_if_ne (tgt := 53) hx hb dX7_put_44 (by decide) (fun h => absurd (by decide) h) (fun _ => ?_)
        refine lv_aload_n hx hb dX7_put_47 rfl (lv_at hl 0 rfl) ?_
        refine lv_iconst (v := 3) hx hb dX7_put_48 (by decide) ?_
        have hPc := hP.sub (ws' := [(x, .inr (7, [.int 0, .int tr, .ref so, .ref sl, .ref ce, .int (nI n), .int bar, .int (nI tn), .ref ki, .ref si, .ref th, .ref ri, .int at_, .int rp, .ref rk, .ref rs, .ref kt, .ref kr, .int kn, .int rg, .ref ab, .int am, .ref bh, .int bm, .int br, .int (nI rn), .ref wa, .ref ra]))]) [0] rfl
        have hDc := hD.sub (ws' := [(x, .inr (7, [.int 0, .int tr, .ref so, .ref sl, .ref ce, .int (nI n), .int bar, .int (nI tn), .ref ki, .ref si, .ref th, .ref ri, .int at_, .int rp, .ref rk, .ref rs, .ref kt, .ref kr, .int kn, .int rg, .ref ab, .int am, .ref bh, .int bm, .int br, .int (nI rn), .ref wa, .ref ra]))]) [0] (by decide) rfl
        have hFc := va_free (wc := [(x, .inr (7, [.int 0, .int tr, .ref so, .ref sl, .ref ce, .int (nI n), .int bar, .int (nI tn), .ref ki, .ref si, .ref th, .ref ri, .int at_, .int rp, .ref rk, .ref rs, .ref kt, .ref kr, .int kn, .int rg, .ref ab, .int am, .ref bh, .int bm, .int br, .int (nI rn), .ref wa, .ref ra]))]) hD hS hA [0] rfl
        refine va_calli (va_runV (As := [.int 3]) (rest := []) ⟨hx, hb, hml, hown, hts⟩ (c_X7_fails l D cI cO x 0 tr so sl ce n bar tn ki si th ri at_ rp rk rs kt kr kn rg ab am bh bm br rn wa ra 3 _) (cwV 1 hts gX7_put_X7_fails rfl rfl rfl (by decide +kernel) ⟨Nat.le_of_ble_eq_true rfl, Nat.le_of_ble_eq_true rfl⟩) (preVW hPc hK hNw hDc (va_recv hK hPc (ci := 7) (q0 := 0) rfl rfl)) rfl rfl hl.1 rfl (lv_room (Nat.le_of_ble_eq_true rfl)) dX7_put_49 ⟨Nat.zero_le _, Nat.zero_le _⟩) hS (fun q _ h => hFc q h) hFc (fun r49 u t H1 locs ht hvm w49 hB hz1 hk1 hS => ?_)
        obtain ⟨hP1, hK1, hD1⟩ := hB
        rw [ht] at hP1
        try dsimp only at w49
        obtain ⟨hP, hD⟩ := va_join (wr := [(so, .inl (cI, 4, .inl sv)), (sl, .inl (cI, 4, .inl lv)), (ce, .inl (cI, 240, .inl cv))]) (w1 := [(x, .inr (7, [.int 3, .int tr, .ref so, .ref sl, .ref ce, .int (nI n), .int bar, .int (nI tn), .ref ki, .ref si, .ref th, .ref ri, .int at_, .int rp, .ref rk, .ref rs, .ref kt, .ref kr, .int kn, .int rg, .ref ab, .int am, .ref bh, .int bm, .int br, .int (nI rn), .ref wa, .ref ra]))]) hP hD [0] [1, 2, 3] rfl rfl (by decide) (by decide) hk1 hFc hP1 hD1
        generalize H1 = H at hP hS ⊢
        have hP := hP.sub (ws' := [(x, .inr (7, [.int 3, .int tr, .ref so, .ref sl, .ref ce, .int (nI n), .int bar, .int (nI tn), .ref ki, .ref si, .ref th, .ref ri, .int at_, .int rp, .ref rk, .ref rs, .ref kt, .ref kr, .int kn, .int rg, .ref ab, .int am, .ref bh, .int bm, .int br, .int (nI rn), .ref wa, .ref ra])), (so, .inl (cI, 4, .inl sv)), (sl, .inl (cI, 4, .inl lv)), (ce, .inl (cI, 240, .inl cv))]) [3, 0, 1, 2] rfl
        have hD := hD.sub (ws' := [(x, .inr (7, [.int 3, .int tr, .ref so, .ref sl, .ref ce, .int (nI n), .int bar, .int (nI tn), .ref ki, .ref si, .ref th, .ref ri, .int at_, .int rp, .ref rk, .ref rs, .ref kt, .ref kr, .int kn, .int rg, .ref ab, .int am, .ref bh, .int bm, .int br, .int (nI rn), .ref wa, .ref ra])), (so, .inl (cI, 4, .inl sv)), (sl, .inl (cI, 4, .inl lv)), (ce, .inl (cI, 240, .inl cv))]) [3, 0, 1, 2] (by decide) rfl
        obtain rfl := w49
        exact W.iret (v := -10 - 3) hx hb hr (fun t ht hW => ⟨⟨_, (3, cv), rfl, by first | (simp only [onK_out hk]; simp; done) | (simp only [onK_in hk, cq]; simp [putM, putMA, putMF, cutI, *]; done), by rw [ht]; exact hP, va_K.moved hW.alike hK, hD⟩, hS.F ht⟩) hS.2.2 dX7_put_52
    · -- f22
      refine lv_aload_n hx hb dX7_put_25 rfl (lv_at hl 0 rfl) ?_
      refine lv_iconst (v := 1) hx hb dX7_put_26 (by decide) ?_
      have hPc := hP.sub (ws' := [(x, .inr (7, [.int 0, .int tr, .ref so, .ref sl, .ref ce, .int (nI n), .int bar, .int (nI tn), .ref ki, .ref si, .ref th, .ref ri, .int at_, .int rp, .ref rk, .ref rs, .ref kt, .ref kr, .int kn, .int rg, .ref ab, .int am, .ref bh, .int bm, .int br, .int (nI rn), .ref wa, .ref ra]))]) [0] rfl
      have hDc := hD.sub (ws' := [(x, .inr (7, [.int 0, .int tr, .ref so, .ref sl, .ref ce, .int (nI n), .int bar, .int (nI tn), .ref ki, .ref si, .ref th, .ref ri, .int at_, .int rp, .ref rk, .ref rs, .ref kt, .ref kr, .int kn, .int rg, .ref ab, .int am, .ref bh, .int bm, .int br, .int (nI rn), .ref wa, .ref ra]))]) [0] (by decide) rfl
      have hFc := va_free (wc := [(x, .inr (7, [.int 0, .int tr, .ref so, .ref sl, .ref ce, .int (nI n), .int bar, .int (nI tn), .ref ki, .ref si, .ref th, .ref ri, .int at_, .int rp, .ref rk, .ref rs, .ref kt, .ref kr, .int kn, .int rg, .ref ab, .int am, .ref bh, .int bm, .int br, .int (nI rn), .ref wa, .ref ra]))]) hD hS hA [0] rfl
      refine va_calli (va_runV (As := [.int 1]) (rest := []) ⟨hx, hb, hml, hown, hts⟩ (c_X7_fails l D cI cO x 0 tr so sl ce n bar tn ki si th ri at_ rp rk rs kt kr kn rg ab am bh bm br rn wa ra 1 _) (cwV 1 hts gX7_put_X7_fails rfl rfl rfl (by decide +kernel) ⟨Nat.le_of_ble_eq_true rfl, Nat.le_of_ble_eq_true rfl⟩) (preVW hPc hK hNw hDc (va_recv hK hPc (ci := 7) (q0 := 0) rfl rfl)) rfl rfl hl.1 rfl (lv_room (Nat.le_of_ble_eq_true rfl)) dX7_put_27 ⟨Nat.zero_le _, Nat.zero_le _⟩) hS (fun q _ h => hFc q h) hFc (fun r27 u t H1 locs ht hvm w27 hB hz1 hk1 hS => ?_)
      obtain ⟨hP1, hK1, hD1⟩ := hB
      rw [ht] at hP1
      try dsimp only at w27
      obtain ⟨hP, hD⟩ := va_join (wr := [(so, .inl (cI, 4, .inl sv)), (sl, .inl (cI, 4, .inl lv)), (ce, .inl (cI, 240, .inl cv))]) (w1 := [(x, .inr (7, [.int 1, .int tr, .ref so, .ref sl, .ref ce, .int (nI n), .int bar, .int (nI tn), .ref ki, .ref si, .ref th, .ref ri, .int at_, .int rp, .ref rk, .ref rs, .ref kt, .ref kr, .int kn, .int rg, .ref ab, .int am, .ref bh, .int bm, .int br, .int (nI rn), .ref wa, .ref ra]))]) hP hD [0] [1, 2, 3] rfl rfl (by decide) (by decide) hk1 hFc hP1 hD1
      generalize H1 = H at hP hS ⊢
      have hP := hP.sub (ws' := [(x, .inr (7, [.int 1, .int tr, .ref so, .ref sl, .ref ce, .int (nI n), .int bar, .int (nI tn), .ref ki, .ref si, .ref th, .ref ri, .int at_, .int rp, .ref rk, .ref rs, .ref kt, .ref kr, .int kn, .int rg, .ref ab, .int am, .ref bh, .int bm, .int br, .int (nI rn), .ref wa, .ref ra])), (so, .inl (cI, 4, .inl sv)), (sl, .inl (cI, 4, .inl lv)), (ce, .inl (cI, 240, .inl cv))]) [3, 0, 1, 2] rfl
      have hD := hD.sub (ws' := [(x, .inr (7, [.int 1, .int tr, .ref so, .ref sl, .ref ce, .int (nI n), .int bar, .int (nI tn), .ref ki, .ref si, .ref th, .ref ri, .int at_, .int rp, .ref rk, .ref rs, .ref kt, .ref kr, .int kn, .int rg, .ref ab, .int am, .ref bh, .int bm, .int br, .int (nI rn), .ref wa, .ref ra])), (so, .inl (cI, 4, .inl sv)), (sl, .inl (cI, 4, .inl lv)), (ce, .inl (cI, 240, .inl cv))]) [3, 0, 1, 2] (by decide) rfl
      obtain rfl := w27
      exact W.iret (v := -10 - 1) hx hb hr (fun t ht hW => ⟨⟨_, (1, cv), rfl, by first | (simp only [onK_out hk]; simp; done) | (simp only [onK_in hk, cq]; simp [putM, putMA, putMF, cutI, *]; done), by rw [ht]; exact hP, va_K.moved hW.alike hK, hD⟩, hS.F ht⟩) hS.2.2 dX7_put_30
  · -- n6
    obtain rfl := w6.2 b6
    have hk := b6
    refine lv_if_ne (tgt := 14) hx hb dX7_put_9 (by decide) (fun h => absurd (by decide) h) (fun _ => ?_)
    refine lv_iconst (v := -1) hx hb dX7_put_12 (by decide) ?_
    exact W.iret (v := -1) hx hb hr (fun t ht hW => ⟨⟨_, (0, cv), rfl, by first | (simp only [onK_out hk]; simp; done) | (simp only [onK_in hk, cq]; simp [putM, putMA, putMF, cutI, *]; done), by rw [ht]; exact hP, va_K.moved hW.alike hK, hD⟩, hS.F ht⟩) hS.2.2 dX7_put_13

set_option maxHeartbeats 4000000 in
set_option maxRecDepth 100000 in
theorem c_X7_cell (l : Launch) (D : va_G) (cI cO : ClassId) (x : Nat) (fa : Int32) (tr : Int32) (so : Nat) (sl : Nat) (ce : Nat) (n : Nat) (bar : Int32) (tn : Nat) (ki : Nat) (si : Nat) (th : Nat) (ri : Nat) (at_ : Int32) (rp : Int32) (rk : Nat) (rs : Nat) (kt : Nat) (kr : Nat) (kn : Int32) (rg : Int32) (ab : Nat) (am : Int32) (bh : Nat) (bm : Int32) (br : Int32) (rn : Nat) (wa : Nat) (ra : Nat) (sv : Nat → Int32) (lv : Nat → Int32) (cv : Nat → Int32) (kq : Int32) (i : Int32) (w : Int32) (sz : Nat) (hom : okM sv lv) : Met l yX7_cell wsX7_cell ({ frames := 2, cells := 0, slots := 0, locals := 42 } : Room) (va_Pc [.ref x, .int kq, .int i, .int w] (wdW D cI cO [(x, .inr (7, [.int fa, .int tr, .ref so, .ref sl, .ref ce, .int (nI n), .int bar, .int (nI tn), .ref ki, .ref si, .ref th, .ref ri, .int at_, .int rp, .ref rk, .ref rs, .ref kt, .ref kr, .int kn, .int rg, .ref ab, .int am, .ref bh, .int bm, .int br, .int (nI rn), .ref wa, .ref ra])), (so, .inl (cI, 4, .inl sv)), (sl, .inl (cI, 4, .inl lv)), (ce, .inl (cI, 240, .inl cv))] sz)) (va_Ql (S := Int32) (fun r u => r = (onK kq (if lstT w 0 2 = true then celM (sv kq.toNatClampNeg) (lv kq.toNatClampNeg) w cv kq.toNatClampNeg i else -9223372036854775808) (-9223372036854775808)) ∧ u = (onK kq (if lstT w 0 2 = true then celMA (sv kq.toNatClampNeg) (lv kq.toNatClampNeg) w i else 0) 0)) (fun u t => va_P D vwCl [(x, .inr (7, [.int u, .int tr, .ref so, .ref sl, .ref ce, .int (nI n), .int bar, .int (nI tn), .ref ki, .ref si, .ref th, .ref ri, .int at_, .int rp, .ref rk, .ref rs, .ref kt, .ref kr, .int kn, .int rg, .ref ab, .int am, .ref bh, .int bm, .int br, .int (nI rn), .ref wa, .ref ra])), (so, .inl (cI, 4, .inl sv)), (sl, .inl (cI, 4, .inl lv)), (ce, .inl (cI, 240, .inl cv))] t.heap ∧ va_K D vwCl (tyL cI cO) t ∧ va_D (va_A [(x, .inr (7, [.int fa, .int tr, .ref so, .ref sl, .ref ce, .int (nI n), .int bar, .int (nI tn), .ref ki, .ref si, .ref th, .ref ri, .int at_, .int rp, .ref rk, .ref rs, .ref kt, .ref kr, .int kn, .int rg, .ref ab, .int am, .ref bh, .int bm, .int br, .int (nI rn), .ref wa, .ref ra])), (so, .inl (cI, 4, .inl sv)), (sl, .inl (cI, 4, .inl lv)), (ce, .inl (cI, 240, .inl cv))] sz) [(x, .inr (7, [.int u, .int tr, .ref so, .ref sl, .ref ce, .int (nI n), .int bar, .int (nI tn), .ref ki, .ref si, .ref th, .ref ri, .int at_, .int rp, .ref rk, .ref rs, .ref kt, .ref kr, .int kn, .int rg, .ref ab, .int am, .ref bh, .int bm, .int br, .int (nI rn), .ref wa, .ref ra])), (so, .inl (cI, 4, .inl sv)), (sl, .inl (cI, 4, .inl lv)), (ce, .inl (cI, 240, .inl cv))]) (va_A [(x, .inr (7, [.int fa, .int tr, .ref so, .ref sl, .ref ce, .int (nI n), .int bar, .int (nI tn), .ref ki, .ref si, .ref th, .ref ri, .int at_, .int rp, .ref rk, .ref rs, .ref kt, .ref kr, .int kn, .int rg, .ref ab, .int am, .ref bh, .int bm, .int br, .int (nI rn), .ref wa, .ref ra])), (so, .inl (cI, 4, .inl sv)), (sl, .inl (cI, 4, .inl lv)), (ce, .inl (cI, 240, .inl cv))] sz)) 0 0 (va_A [(x, .inr (7, [.int fa, .int tr, .ref so, .ref sl, .ref ce, .int (nI n), .int bar, .int (nI tn), .ref ki, .ref si, .ref th, .ref ri, .int at_, .int rp, .ref rk, .ref rs, .ref kt, .ref kr, .int kn, .int rg, .ref ab, .int am, .ref bh, .int bm, .int br, .int (nI rn), .ref wa, .ref ra])), (so, .inl (cI, 4, .inl sv)), (sl, .inl (cI, 4, .inl lv)), (ce, .inl (cI, 240, .inl cv))] sz) := by
  refine Met.ofW (cc := cX7_cell) (maxL := 4) (ret := (some .long)) (by decide) rfl ?_
  intro p e s m args below meth c s₁ B hml hv
  obtain ⟨rfl, hsz, hP, hK, hNw, hD0⟩ := hv
  have hx := B.exec
  have hb := B.bytes
  have hr := B.returns
  have hts := atoms_spec (ws := wsX7_cell) B.pre
  have hown : s.vm.findClass RX7 = some m.cls := findClass_of_methodNamed B.named
  have hlocks := B.notSynchronized
  have f9 := hts (.fieldLink RX7 9 "StruckThreesModel" "sorts" "[I") (by decide +kernel)
  have f13 := hts (.fieldLink RX7 13 "StruckThreesModel" "sheetLong" "[I") (by decide +kernel)
  have f16 := hts (.fieldLink RX7 16 "StruckThreesModel" "cells" "[I") (by decide +kernel)
  have f55 := hts (.fieldLink RX7 55 "StruckThreesModel" "fault" "I") (by decide +kernel)
  have iX7 : ∀ w ∈ wsX70, w ∈ wsX7_cell := by decide +kernel
  subst hsz
  have hD := hD0.self (sz := s.heap.size)
  generalize hAe : va_A [(x, .inr (7, [.int fa, .int tr, .ref so, .ref sl, .ref ce, .int (nI n), .int bar, .int (nI tn), .ref ki, .ref si, .ref th, .ref ri, .int at_, .int rp, .ref rk, .ref rs, .ref kt, .ref kr, .int kn, .int rg, .ref ab, .int am, .ref bh, .int bm, .int br, .int (nI rn), .ref wa, .ref ra])), (so, .inl (cI, 4, .inl sv)), (sl, .inl (cI, 4, .inl lv)), (ce, .inl (cI, 240, .inl cv))] s.heap.size = A at hD ⊢
  have hA : ∀ q : Nat, s.heap.size ≤ q → A q := fun q h => by rw [← hAe]; exact Or.inr h
  have hS : va_S A s.heap s.heap [] := va_S.rf
  have hP : va_P D vwCl [(x, .inr (7, [.int fa, .int tr, .ref so, .ref sl, .ref ce, .int (nI n), .int bar, .int (nI tn), .ref ki, .ref si, .ref th, .ref ri, .int at_, .int rp, .ref rk, .ref rs, .ref kt, .ref kr, .int kn, .int rg, .ref ab, .int am, .ref bh, .int bm, .int br, .int (nI rn), .ref wa, .ref ra])), (so, .inl (cI, 4, .inl sv)), (sl, .inl (cI, 4, .inl lv)), (ce, .inl (cI, 240, .inl cv))] s.heap := hP
  have hl := lv_entry ([.ref x, .int kq, .int i, .int w]) (n := 4) (Nat.le_of_ble_eq_true rfl)
  rw [lg_entry_eq]
  generalize (lg_sl ([.ref x, .int kq, .int i, .int w]) ++ List.replicate (4 - (lg_sl ([.ref x, .int kq, .int i, .int w])).length) Slot.unset).toArray = ls at hl ⊢
  have hl : lv_has ls 4 [(0, .ref x), (1, .int kq), (2, .int i), (3, .int w)] := hl
  refine lv_aload_n hx hb dX7_cell_0 rfl (lv_at hl 0 rfl) ?_
  refine lv_iconst (v := 0) hx hb dX7_cell_1 (by decide) ?_
  refine va_put (D := D) (ci := 7) (v := .int 0) (ty := .int) (C := RX7) (T := TX7) (N := 28) hx hb hts iX7 tyX7 tyX7_ok nmX7 hown hK hP hD hS 0 rfl rfl 0 (by decide) f55 (fun _ h9 => h9) rfl (by decide +kernel) rfl rfl (Nat.le_of_ble_eq_true rfl) dX7_cell_2 (fun H locs hP hD hS => ?_)
  have hP : va_P D vwCl [(x, .inr (7, [.int 0, .int tr, .ref so, .ref sl, .ref ce, .int (nI n), .int bar, .int (nI tn), .ref ki, .ref si, .ref th, .ref ri, .int at_, .int rp, .ref rk, .ref rs, .ref kt, .ref kr, .int kn, .int rg, .ref ab, .int am, .ref bh, .int bm, .int br, .int (nI rn), .ref wa, .ref ra])), (so, .inl (cI, 4, .inl sv)), (sl, .inl (cI, 4, .inl lv)), (ce, .inl (cI, 240, .inl cv))] H := hP
  have hD : va_D A [(x, .inr (7, [.int 0, .int tr, .ref so, .ref sl, .ref ce, .int (nI n), .int bar, .int (nI tn), .ref ki, .ref si, .ref th, .ref ri, .int at_, .int rp, .ref rk, .ref rs, .ref kt, .ref kr, .int kn, .int rg, .ref ab, .int am, .ref bh, .int bm, .int br, .int (nI rn), .ref wa, .ref ra])), (so, .inl (cI, 4, .inl sv)), (sl, .inl (cI, 4, .inl lv)), (ce, .inl (cI, 240, .inl cv))] := hD
  refine lv_iload_n hx hb dX7_cell_5 rfl (lv_at hl 1 rfl) ?_
  have hPc := hP.sub (ws' := []) [] rfl
  refine vp_callSi (va_Run.run (va_runS (As := [.int kq]) (rest := []) ⟨hx, hb, hml, hown, hts⟩ (c_X7_isSheet l D cI cO kq) (va_cwS 1 hts gX7_cell_X7_isSheet rfl rfl rfl (by decide +kernel) ⟨Nat.le_of_ble_eq_true rfl, Nat.le_of_ble_eq_true rfl⟩) (preSR hPc hK hNw) rfl rfl hl.1 rfl (lv_room (Nat.le_of_ble_eq_true rfl)) dX7_cell_6 ⟨Nat.zero_le _, Nat.zero_le _⟩)) (fun r6 w6 => ?_)
  by_cases b6 : ¬ kq < 0 ∧ kq < 4
  · -- y6
    obtain rfl := w6.1 b6
    obtain ⟨q, hq4, rfl⟩ := vp_in_of (in4 b6.1 b6.2) (by decide)
    have cq := nI_clamp (n := q) (by omega)
    have hk := b6
    refine lv_if_eq (tgt := 19) hx hb dX7_cell_9 (by decide) (fun h => absurd h (by decide)) (fun _ => ?_)
    refine lv_iload_n hx hb dX7_cell_12 rfl (lv_at hl 3 rfl) ?_
    have hPc := hP.sub (ws' := []) [] rfl
    refine vp_callSi (va_Run.run (va_runS (As := [.int w]) (rest := []) ⟨hx, hb, hml, hown, hts⟩ (c_X7_isSort l D cI cO w) (va_cwS 1 hts gX7_cell_X7_isSort rfl rfl rfl (by decide +kernel) ⟨Nat.le_of_ble_eq_true rfl, Nat.le_of_ble_eq_true rfl⟩) (preSR hPc hK hNw) rfl rfl hl.1 rfl (lv_room (Nat.le_of_ble_eq_true rfl)) dX7_cell_13 ⟨Nat.zero_le _, Nat.zero_le _⟩)) (fun r13 w13 => ?_)
    by_cases b13 : lstT w 0 2 = true
    · -- y13
      obtain rfl := w13.1 b13
      refine lv_if_ne (tgt := 23) hx hb dX7_cell_16 (by decide) (fun _ => ?_) (fun h => absurd h (by decide))
      refine lv_aload_n hx hb dX7_cell_23 rfl (lv_at hl 0 rfl) ?_
      refine va_get (D := D) (ci := 7) (v := .ref so) (C := RX7) (T := TX7) (N := 28) hx hb hts iX7 hown hK hP 0 rfl rfl 2 (by decide) f9 (fun _ h9 => h9) rfl dX7_cell_24 ?_
      refine lv_iload_n hx hb dX7_cell_27 rfl (lv_at hl 1 rfl) ?_
      refine va_iald hx hb hK hP 1 0 rfl rfl (vp_in_nI (by omega) (by decide)) dX7_cell_28 ?_
      refine tp_i (y := sv q) (by rw [nI_clamp (n := q) (by omega)]) ?_
      refine lv_bipush (v := -9) hx hb dX7_cell_29 (by decide) ?_
      refine lv_icmp_eq (tgt := 50) hx hb dX7_cell_31 (by decide) (fun c31 => ?_) (fun c31 => ?_)
      · -- t31
        refine lv_aload_n hx hb dX7_cell_50 rfl (lv_at hl 0 rfl) ?_
        refine va_get (D := D) (ci := 7) (v := .ref so) (C := RX7) (T := TX7) (N := 28) hx hb hts iX7 hown hK hP 0 rfl rfl 2 (by decide) f9 (fun _ h9 => h9) rfl dX7_cell_51 ?_
        refine lv_iload_n hx hb dX7_cell_54 rfl (lv_at hl 1 rfl) ?_
        refine va_iald hx hb hK hP 1 0 rfl rfl (vp_in_nI (by omega) (by decide)) dX7_cell_55 ?_
        refine tp_i (y := sv q) (by rw [nI_clamp (n := q) (by omega)]) ?_
        refine lv_bipush (v := -9) hx hb dX7_cell_56 (by decide) ?_
        refine lv_icmp_ne (tgt := 67) hx hb dX7_cell_58 (by decide) (fun c58 => ?_) (fun c58 => ?_)
        · -- t58
          exact absurd c31 c58
        · -- f58
          refine lv_aload_n hx hb dX7_cell_61 rfl (lv_at hl 0 rfl) ?_
          refine lv_iconst (v := 1) hx hb dX7_cell_62 (by decide) ?_
          have hPc := hP.sub (ws' := [(x, .inr (7, [.int 0, .int tr, .ref so, .ref sl, .ref ce, .int (nI n), .int bar, .int (nI tn), .ref ki, .ref si, .ref th, .ref ri, .int at_, .int rp, .ref rk, .ref rs, .ref kt, .ref kr, .int kn, .int rg, .ref ab, .int am, .ref bh, .int bm, .int br, .int (nI rn), .ref wa, .ref ra]))]) [0] rfl
          have hDc := hD.sub (ws' := [(x, .inr (7, [.int 0, .int tr, .ref so, .ref sl, .ref ce, .int (nI n), .int bar, .int (nI tn), .ref ki, .ref si, .ref th, .ref ri, .int at_, .int rp, .ref rk, .ref rs, .ref kt, .ref kr, .int kn, .int rg, .ref ab, .int am, .ref bh, .int bm, .int br, .int (nI rn), .ref wa, .ref ra]))]) [0] (by decide) rfl
          have hFc := va_free (wc := [(x, .inr (7, [.int 0, .int tr, .ref so, .ref sl, .ref ce, .int (nI n), .int bar, .int (nI tn), .ref ki, .ref si, .ref th, .ref ri, .int at_, .int rp, .ref rk, .ref rs, .ref kt, .ref kr, .int kn, .int rg, .ref ab, .int am, .ref bh, .int bm, .int br, .int (nI rn), .ref wa, .ref ra]))]) hD hS hA [0] rfl
          refine va_calll (va_runV (As := [.int 1]) (rest := []) ⟨hx, hb, hml, hown, hts⟩ (c_X7_lost l D cI cO x 0 tr so sl ce n bar tn ki si th ri at_ rp rk rs kt kr kn rg ab am bh bm br rn wa ra 1 _) (cwV 1 hts gX7_cell_X7_lost rfl rfl rfl (by decide +kernel) ⟨Nat.le_of_ble_eq_true rfl, Nat.le_of_ble_eq_true rfl⟩) (preVW hPc hK hNw hDc (va_recv hK hPc (ci := 7) (q0 := 0) rfl rfl)) rfl rfl hl.1 rfl (lv_room (Nat.le_of_ble_eq_true rfl)) dX7_cell_63 ⟨Nat.zero_le _, Nat.zero_le _⟩) hS (fun q _ h => hFc q h) hFc (fun r63 u t H1 locs ht hvm w63 hB hz1 hk1 hS => ?_)
          obtain ⟨hP1, hK1, hD1⟩ := hB
          rw [ht] at hP1
          try dsimp only at w63
          obtain ⟨hP, hD⟩ := va_join (wr := [(so, .inl (cI, 4, .inl sv)), (sl, .inl (cI, 4, .inl lv)), (ce, .inl (cI, 240, .inl cv))]) (w1 := [(x, .inr (7, [.int 1, .int tr, .ref so, .ref sl, .ref ce, .int (nI n), .int bar, .int (nI tn), .ref ki, .ref si, .ref th, .ref ri, .int at_, .int rp, .ref rk, .ref rs, .ref kt, .ref kr, .int kn, .int rg, .ref ab, .int am, .ref bh, .int bm, .int br, .int (nI rn), .ref wa, .ref ra]))]) hP hD [0] [1, 2, 3] rfl rfl (by decide) (by decide) hk1 hFc hP1 hD1
          generalize H1 = H at hP hS ⊢
          have hP := hP.sub (ws' := [(x, .inr (7, [.int 1, .int tr, .ref so, .ref sl, .ref ce, .int (nI n), .int bar, .int (nI tn), .ref ki, .ref si, .ref th, .ref ri, .int at_, .int rp, .ref rk, .ref rs, .ref kt, .ref kr, .int kn, .int rg, .ref ab, .int am, .ref bh, .int bm, .int br, .int (nI rn), .ref wa, .ref ra])), (so, .inl (cI, 4, .inl sv)), (sl, .inl (cI, 4, .inl lv)), (ce, .inl (cI, 240, .inl cv))]) [3, 0, 1, 2] rfl
          have hD := hD.sub (ws' := [(x, .inr (7, [.int 1, .int tr, .ref so, .ref sl, .ref ce, .int (nI n), .int bar, .int (nI tn), .ref ki, .ref si, .ref th, .ref ri, .int at_, .int rp, .ref rk, .ref rs, .ref kt, .ref kr, .int kn, .int rg, .ref ab, .int am, .ref bh, .int bm, .int br, .int (nI rn), .ref wa, .ref ra])), (so, .inl (cI, 4, .inl sv)), (sl, .inl (cI, 4, .inl lv)), (ce, .inl (cI, 240, .inl cv))]) [3, 0, 1, 2] (by decide) rfl
          obtain rfl := w63
          exact W.lret (v := (-9223372036854775808 : Int64)) hx hb hr (fun t ht hW => ⟨⟨_, 1, rfl, by first | (simp only [onK_out hk]; simp; done) | (simp only [onK_in hk, cq]; simp [celM, celMA, *]; done), by rw [ht]; exact hP, va_K.moved hW.alike hK, hD⟩, hS.F ht⟩) hS.2.2 dX7_cell_66
      · -- f31
        refine lv_aload_n hx hb dX7_cell_34 rfl (lv_at hl 0 rfl) ?_
        refine va_get (D := D) (ci := 7) (v := .ref so) (C := RX7) (T := TX7) (N := 28) hx hb hts iX7 hown hK hP 0 rfl rfl 2 (by decide) f9 (fun _ h9 => h9) rfl dX7_cell_35 ?_
        refine lv_iload_n hx hb dX7_cell_38 rfl (lv_at hl 1 rfl) ?_
        refine va_iald hx hb hK hP 1 0 rfl rfl (vp_in_nI (by omega) (by decide)) dX7_cell_39 ?_
        refine tp_i (y := sv q) (by rw [nI_clamp (n := q) (by omega)]) ?_
        refine lv_iload_n hx hb dX7_cell_40 rfl (lv_at hl 3 rfl) ?_
        refine lv_icmp_eq (tgt := 50) hx hb dX7_cell_41 (by decide) (fun c41 => ?_) (fun c41 => ?_)
        · -- t41
          have c49 : ¬ w = -9 := fun z => c31 (c41.trans z)
          refine lv_aload_n hx hb dX7_cell_50 rfl (lv_at hl 0 rfl) ?_
          refine va_get (D := D) (ci := 7) (v := .ref so) (C := RX7) (T := TX7) (N := 28) hx hb hts iX7 hown hK hP 0 rfl rfl 2 (by decide) f9 (fun _ h9 => h9) rfl dX7_cell_51 ?_
          refine lv_iload_n hx hb dX7_cell_54 rfl (lv_at hl 1 rfl) ?_
          refine va_iald hx hb hK hP 1 0 rfl rfl (vp_in_nI (by omega) (by decide)) dX7_cell_55 ?_
          refine tp_i (y := sv q) (by rw [nI_clamp (n := q) (by omega)]) ?_
          refine lv_bipush (v := -9) hx hb dX7_cell_56 (by decide) ?_
          refine lv_icmp_ne (tgt := 67) hx hb dX7_cell_58 (by decide) (fun c58 => ?_) (fun c58 => ?_)
          · -- t58
            refine lv_iload_n hx hb dX7_cell_67 rfl (lv_at hl 2 rfl) ?_
            refine lv_iconst (v := 0) hx hb dX7_cell_68 (by decide) ?_
            refine lv_aload_n hx hb dX7_cell_69 rfl (lv_at hl 0 rfl) ?_
            refine va_get (D := D) (ci := 7) (v := .ref sl) (C := RX7) (T := TX7) (N := 28) hx hb hts iX7 hown hK hP 0 rfl rfl 3 (by decide) f13 (fun _ h9 => h9) rfl dX7_cell_70 ?_
            refine lv_iload_n hx hb dX7_cell_73 rfl (lv_at hl 1 rfl) ?_
            refine va_iald hx hb hK hP 2 0 rfl rfl (vp_in_nI (by omega) (by decide)) dX7_cell_74 ?_
            refine tp_i (y := lv q) (by rw [nI_clamp (n := q) (by omega)]) ?_
            refine lv_iconst (v := 1) hx hb dX7_cell_75 (by decide) ?_
            refine lv_isub hx hb dX7_cell_76 ?_
            have hPc := hP.sub (ws' := []) [] rfl
            refine vp_callSi (va_Run.run (va_runS (As := [.int i, .int 0, .int ((lv q) - 1)]) (rest := []) ⟨hx, hb, hml, hown, hts⟩ (c_X7_within l D cI cO i 0 ((lv q) - 1)) (va_cwS 3 hts gX7_cell_X7_within rfl rfl rfl (by decide +kernel) ⟨Nat.le_of_ble_eq_true rfl, Nat.le_of_ble_eq_true rfl⟩) (preSR hPc hK hNw) rfl rfl hl.1 rfl (lv_room (Nat.le_of_ble_eq_true rfl)) dX7_cell_77 ⟨Nat.zero_le _, Nat.zero_le _⟩)) (fun r77 w77 => ?_)
            by_cases b77 : lstT i 0 ((lv q) - 1) = true
            · -- y77
              obtain rfl := w77.1 b77
              obtain ⟨L, hL, eL⟩ := hom q hq4 c58
              obtain ⟨j, hj, rfl⟩ := lst_L hL (eL ▸ b77)
              have cj := nI_clamp (n := j) (by omega)
              have hLn := lst_Ln hL hj
              refine lv_if_ne (tgt := 89) hx hb dX7_cell_80 (by decide) (fun _ => ?_) (fun h => absurd h (by decide))
              refine lv_aload_n hx hb dX7_cell_89 rfl (lv_at hl 0 rfl) ?_
              refine va_get (D := D) (ci := 7) (v := .ref ce) (C := RX7) (T := TX7) (N := 28) hx hb hts iX7 hown hK hP 0 rfl rfl 4 (by decide) f16 (fun _ h9 => h9) rfl dX7_cell_90 ?_
              refine lv_bipush (v := 60) hx hb dX7_cell_93 (by decide) ?_
              refine lv_iload_n hx hb dX7_cell_95 rfl (lv_at hl 1 rfl) ?_
              refine lv_imul hx hb dX7_cell_96 ?_
              refine lv_iload_n hx hb dX7_cell_97 rfl (lv_at hl 2 rfl) ?_
              refine lv_iadd hx hb dX7_cell_98 ?_
              refine tp_i (y := nI (60 * q + j)) (ix60_i _ _) ?_
              refine va_iald hx hb hK hP 3 0 rfl rfl (vp_in_nI (by omega) (by decide)) dX7_cell_99 ?_
              refine tp_i (y := cv (60 * q + j)) (by rw [nI_clamp (n := (60 * q + j)) (by omega)]) ?_
              refine lv_i2l hx hb dX7_cell_100 rfl ?_
              exact W.lret (v := (cv (60 * q + j)).toInt64) hx hb hr (fun t ht hW => ⟨⟨_, 0, rfl, by first | (simp only [onK_out hk]; simp; done) | (simp only [onK_in hk, cq]; simp [celM, celMA, *]; done), by rw [ht]; exact hP, va_K.moved hW.alike hK, hD⟩, hS.F ht⟩) hS.2.2 dX7_cell_101
            · -- n77
              obtain rfl := w77.2 b77
              refine lv_if_ne (tgt := 89) hx hb dX7_cell_80 (by decide) (fun h => absurd (by decide) h) (fun _ => ?_)
              refine lv_aload_n hx hb dX7_cell_83 rfl (lv_at hl 0 rfl) ?_
              refine lv_iconst (v := 3) hx hb dX7_cell_84 (by decide) ?_
              have hPc := hP.sub (ws' := [(x, .inr (7, [.int 0, .int tr, .ref so, .ref sl, .ref ce, .int (nI n), .int bar, .int (nI tn), .ref ki, .ref si, .ref th, .ref ri, .int at_, .int rp, .ref rk, .ref rs, .ref kt, .ref kr, .int kn, .int rg, .ref ab, .int am, .ref bh, .int bm, .int br, .int (nI rn), .ref wa, .ref ra]))]) [0] rfl
              have hDc := hD.sub (ws' := [(x, .inr (7, [.int 0, .int tr, .ref so, .ref sl, .ref ce, .int (nI n), .int bar, .int (nI tn), .ref ki, .ref si, .ref th, .ref ri, .int at_, .int rp, .ref rk, .ref rs, .ref kt, .ref kr, .int kn, .int rg, .ref ab, .int am, .ref bh, .int bm, .int br, .int (nI rn), .ref wa, .ref ra]))]) [0] (by decide) rfl
              have hFc := va_free (wc := [(x, .inr (7, [.int 0, .int tr, .ref so, .ref sl, .ref ce, .int (nI n), .int bar, .int (nI tn), .ref ki, .ref si, .ref th, .ref ri, .int at_, .int rp, .ref rk, .ref rs, .ref kt, .ref kr, .int kn, .int rg, .ref ab, .int am, .ref bh, .int bm, .int br, .int (nI rn), .ref wa, .ref ra]))]) hD hS hA [0] rfl
              refine va_calll (va_runV (As := [.int 3]) (rest := []) ⟨hx, hb, hml, hown, hts⟩ (c_X7_lost l D cI cO x 0 tr so sl ce n bar tn ki si th ri at_ rp rk rs kt kr kn rg ab am bh bm br rn wa ra 3 _) (cwV 1 hts gX7_cell_X7_lost rfl rfl rfl (by decide +kernel) ⟨Nat.le_of_ble_eq_true rfl, Nat.le_of_ble_eq_true rfl⟩) (preVW hPc hK hNw hDc (va_recv hK hPc (ci := 7) (q0 := 0) rfl rfl)) rfl rfl hl.1 rfl (lv_room (Nat.le_of_ble_eq_true rfl)) dX7_cell_85 ⟨Nat.zero_le _, Nat.zero_le _⟩) hS (fun q _ h => hFc q h) hFc (fun r85 u t H1 locs ht hvm w85 hB hz1 hk1 hS => ?_)
              obtain ⟨hP1, hK1, hD1⟩ := hB
              rw [ht] at hP1
              try dsimp only at w85
              obtain ⟨hP, hD⟩ := va_join (wr := [(so, .inl (cI, 4, .inl sv)), (sl, .inl (cI, 4, .inl lv)), (ce, .inl (cI, 240, .inl cv))]) (w1 := [(x, .inr (7, [.int 3, .int tr, .ref so, .ref sl, .ref ce, .int (nI n), .int bar, .int (nI tn), .ref ki, .ref si, .ref th, .ref ri, .int at_, .int rp, .ref rk, .ref rs, .ref kt, .ref kr, .int kn, .int rg, .ref ab, .int am, .ref bh, .int bm, .int br, .int (nI rn), .ref wa, .ref ra]))]) hP hD [0] [1, 2, 3] rfl rfl (by decide) (by decide) hk1 hFc hP1 hD1
              generalize H1 = H at hP hS ⊢
              have hP := hP.sub (ws' := [(x, .inr (7, [.int 3, .int tr, .ref so, .ref sl, .ref ce, .int (nI n), .int bar, .int (nI tn), .ref ki, .ref si, .ref th, .ref ri, .int at_, .int rp, .ref rk, .ref rs, .ref kt, .ref kr, .int kn, .int rg, .ref ab, .int am, .ref bh, .int bm, .int br, .int (nI rn), .ref wa, .ref ra])), (so, .inl (cI, 4, .inl sv)), (sl, .inl (cI, 4, .inl lv)), (ce, .inl (cI, 240, .inl cv))]) [3, 0, 1, 2] rfl
              have hD := hD.sub (ws' := [(x, .inr (7, [.int 3, .int tr, .ref so, .ref sl, .ref ce, .int (nI n), .int bar, .int (nI tn), .ref ki, .ref si, .ref th, .ref ri, .int at_, .int rp, .ref rk, .ref rs, .ref kt, .ref kr, .int kn, .int rg, .ref ab, .int am, .ref bh, .int bm, .int br, .int (nI rn), .ref wa, .ref ra])), (so, .inl (cI, 4, .inl sv)), (sl, .inl (cI, 4, .inl lv)), (ce, .inl (cI, 240, .inl cv))]) [3, 0, 1, 2] (by decide) rfl
              obtain rfl := w85
              exact W.lret (v := (-9223372036854775808 : Int64)) hx hb hr (fun t ht hW => ⟨⟨_, 3, rfl, by first | (simp only [onK_out hk]; simp; done) | (simp only [onK_in hk, cq]; simp [celM, celMA, *]; done), by rw [ht]; exact hP, va_K.moved hW.alike hK, hD⟩, hS.F ht⟩) hS.2.2 dX7_cell_88
          · -- f58
            exact absurd c58 c31
        · -- f41
          refine lv_aload_n hx hb dX7_cell_44 rfl (lv_at hl 0 rfl) ?_
          refine lv_iconst (v := 2) hx hb dX7_cell_45 (by decide) ?_
          have hPc := hP.sub (ws' := [(x, .inr (7, [.int 0, .int tr, .ref so, .ref sl, .ref ce, .int (nI n), .int bar, .int (nI tn), .ref ki, .ref si, .ref th, .ref ri, .int at_, .int rp, .ref rk, .ref rs, .ref kt, .ref kr, .int kn, .int rg, .ref ab, .int am, .ref bh, .int bm, .int br, .int (nI rn), .ref wa, .ref ra]))]) [0] rfl
          have hDc := hD.sub (ws' := [(x, .inr (7, [.int 0, .int tr, .ref so, .ref sl, .ref ce, .int (nI n), .int bar, .int (nI tn), .ref ki, .ref si, .ref th, .ref ri, .int at_, .int rp, .ref rk, .ref rs, .ref kt, .ref kr, .int kn, .int rg, .ref ab, .int am, .ref bh, .int bm, .int br, .int (nI rn), .ref wa, .ref ra]))]) [0] (by decide) rfl
          have hFc := va_free (wc := [(x, .inr (7, [.int 0, .int tr, .ref so, .ref sl, .ref ce, .int (nI n), .int bar, .int (nI tn), .ref ki, .ref si, .ref th, .ref ri, .int at_, .int rp, .ref rk, .ref rs, .ref kt, .ref kr, .int kn, .int rg, .ref ab, .int am, .ref bh, .int bm, .int br, .int (nI rn), .ref wa, .ref ra]))]) hD hS hA [0] rfl
          refine va_calll (va_runV (As := [.int 2]) (rest := []) ⟨hx, hb, hml, hown, hts⟩ (c_X7_lost l D cI cO x 0 tr so sl ce n bar tn ki si th ri at_ rp rk rs kt kr kn rg ab am bh bm br rn wa ra 2 _) (cwV 1 hts gX7_cell_X7_lost rfl rfl rfl (by decide +kernel) ⟨Nat.le_of_ble_eq_true rfl, Nat.le_of_ble_eq_true rfl⟩) (preVW hPc hK hNw hDc (va_recv hK hPc (ci := 7) (q0 := 0) rfl rfl)) rfl rfl hl.1 rfl (lv_room (Nat.le_of_ble_eq_true rfl)) dX7_cell_46 ⟨Nat.zero_le _, Nat.zero_le _⟩) hS (fun q _ h => hFc q h) hFc (fun r46 u t H1 locs ht hvm w46 hB hz1 hk1 hS => ?_)
          obtain ⟨hP1, hK1, hD1⟩ := hB
          rw [ht] at hP1
          try dsimp only at w46
          obtain ⟨hP, hD⟩ := va_join (wr := [(so, .inl (cI, 4, .inl sv)), (sl, .inl (cI, 4, .inl lv)), (ce, .inl (cI, 240, .inl cv))]) (w1 := [(x, .inr (7, [.int 2, .int tr, .ref so, .ref sl, .ref ce, .int (nI n), .int bar, .int (nI tn), .ref ki, .ref si, .ref th, .ref ri, .int at_, .int rp, .ref rk, .ref rs, .ref kt, .ref kr, .int kn, .int rg, .ref ab, .int am, .ref bh, .int bm, .int br, .int (nI rn), .ref wa, .ref ra]))]) hP hD [0] [1, 2, 3] rfl rfl (by decide) (by decide) hk1 hFc hP1 hD1
          generalize H1 = H at hP hS ⊢
          have hP := hP.sub (ws' := [(x, .inr (7, [.int 2, .int tr, .ref so, .ref sl, .ref ce, .int (nI n), .int bar, .int (nI tn), .ref ki, .ref si, .ref th, .ref ri, .int at_, .int rp, .ref rk, .ref rs, .ref kt, .ref kr, .int kn, .int rg, .ref ab, .int am, .ref bh, .int bm, .int br, .int (nI rn), .ref wa, .ref ra])), (so, .inl (cI, 4, .inl sv)), (sl, .inl (cI, 4, .inl lv)), (ce, .inl (cI, 240, .inl cv))]) [3, 0, 1, 2] rfl
          have hD := hD.sub (ws' := [(x, .inr (7, [.int 2, .int tr, .ref so, .ref sl, .ref ce, .int (nI n), .int bar, .int (nI tn), .ref ki, .ref si, .ref th, .ref ri, .int at_, .int rp, .ref rk, .ref rs, .ref kt, .ref kr, .int kn, .int rg, .ref ab, .int am, .ref bh, .int bm, .int br, .int (nI rn), .ref wa, .ref ra])), (so, .inl (cI, 4, .inl sv)), (sl, .inl (cI, 4, .inl lv)), (ce, .inl (cI, 240, .inl cv))]) [3, 0, 1, 2] (by decide) rfl
          obtain rfl := w46
          exact W.lret (v := (-9223372036854775808 : Int64)) hx hb hr (fun t ht hW => ⟨⟨_, 2, rfl, by first | (simp only [onK_out hk]; simp; done) | (simp only [onK_in hk, cq]; simp [celM, celMA, *]; done), by rw [ht]; exact hP, va_K.moved hW.alike hK, hD⟩, hS.F ht⟩) hS.2.2 dX7_cell_49
    · -- n13
      obtain rfl := w13.2 b13
      refine lv_if_ne (tgt := 23) hx hb dX7_cell_16 (by decide) (fun h => absurd (by decide) h) (fun _ => ?_)
      refine lv_ldc2 hx hb hown (hts (.constantLong RX7 59 (-9223372036854775808)) (by decide +kernel)) dX7_cell_19 ?_
      exact W.lret (v := (-9223372036854775808)) hx hb hr (fun t ht hW => ⟨⟨_, 0, rfl, by first | (simp only [onK_out hk]; simp; done) | (simp only [onK_in hk, cq]; simp [celM, celMA, *]; done), by rw [ht]; exact hP, va_K.moved hW.alike hK, hD⟩, hS.F ht⟩) hS.2.2 dX7_cell_22
  · -- n6
    obtain rfl := w6.2 b6
    have hk := b6
    refine lv_if_eq (tgt := 19) hx hb dX7_cell_9 (by decide) (fun _ => ?_) (fun h => absurd (by decide) h)
    refine lv_ldc2 hx hb hown (hts (.constantLong RX7 59 (-9223372036854775808)) (by decide +kernel)) dX7_cell_19 ?_
    exact W.lret (v := (-9223372036854775808)) hx hb hr (fun t ht hW => ⟨⟨_, 0, rfl, by first | (simp only [onK_out hk]; simp; done) | (simp only [onK_in hk, cq]; simp [celM, celMA, *]; done), by rw [ht]; exact hP, va_K.moved hW.alike hK, hD⟩, hS.F ht⟩) hS.2.2 dX7_cell_22

set_option maxHeartbeats 4000000 in
set_option maxRecDepth 100000 in
theorem c_X7_areSo (l : Launch) (D : va_G) (cI cO : ClassId) (x : Nat) (fa : Int32) (tr : Int32) (so : Nat) (sl : Nat) (ce : Nat) (n : Nat) (bar : Int32) (tn : Nat) (ki : Nat) (si : Nat) (th : Nat) (ri : Nat) (at_ : Int32) (rp : Int32) (rk : Nat) (rs : Nat) (kt : Nat) (kr : Nat) (kn : Int32) (rg : Int32) (ab : Nat) (am : Int32) (bh : Nat) (bm : Int32) (br : Int32) (rn : Nat) (wa : Nat) (ra : Nat) (kd : Nat → Int32) (sd : Nat → Int32) (rw_ : Nat → Int32) (rh : Nat → Int32) (hn : n ≤ 9) (hok : okK n kd) (hr8 : rn ≤ 8) (hw : ∀ k, k < rn → ∃ w, w < n ∧ rw_ k = nI w) : Met l yX7_areSo wsX7_areSo ({ frames := 1, cells := 0, slots := 0, locals := 21 } : Room) (va_Pc [.ref x] (wdR D cI cO [(x, .inr (7, [.int fa, .int tr, .ref so, .ref sl, .ref ce, .int (nI n), .int bar, .int (nI tn), .ref ki, .ref si, .ref th, .ref ri, .int at_, .int rp, .ref rk, .ref rs, .ref kt, .ref kr, .int kn, .int rg, .ref ab, .int am, .ref bh, .int bm, .int br, .int (nI rn), .ref wa, .ref ra])), (ki, .inl (cI, 9, .inl kd)), (si, .inl (cI, 9, .inl sd)), (wa, .inl (cI, 8, .inl rw_)), (ra, .inl (cI, 8, .inl rh))])) (vp_Si (fun r => ((soM kd sd rw_ rh rn 0 = true) → r = 1) ∧ (¬ (soM kd sd rw_ rh rn 0 = true) → r = 0))) 0 0 (fun _ => False) := by
  refine Met.ofW (cc := cX7_areSo) (maxL := 2) (ret := (some .boolean)) (by decide) rfl ?_
  intro p e s m args below meth c s₁ B hml hv
  obtain ⟨rfl, hP, hK, hNw⟩ := hv
  have hx := B.exec
  have hb := B.bytes
  have hr := B.returns
  have hts := atoms_spec (ws := wsX7_areSo) B.pre
  have hown : s.vm.findClass RX7 = some m.cls := findClass_of_methodNamed B.named
  have hlocks := B.notSynchronized
  have f49 := hts (.fieldLink RX7 49 "StruckThreesModel" "readWho" "[I") (by decide +kernel)
  have f52 := hts (.fieldLink RX7 52 "StruckThreesModel" "readRing" "[I") (by decide +kernel)
  have f98 := hts (.fieldLink RX7 98 "StruckThreesModel" "readings" "I") (by decide +kernel)
  have iX7 : ∀ w ∈ wsX70, w ∈ wsX7_areSo := by decide +kernel
  have hP : va_P D vwCl [(x, .inr (7, [.int fa, .int tr, .ref so, .ref sl, .ref ce, .int (nI n), .int bar, .int (nI tn), .ref ki, .ref si, .ref th, .ref ri, .int at_, .int rp, .ref rk, .ref rs, .ref kt, .ref kr, .int kn, .int rg, .ref ab, .int am, .ref bh, .int bm, .int br, .int (nI rn), .ref wa, .ref ra])), (ki, .inl (cI, 9, .inl kd)), (si, .inl (cI, 9, .inl sd)), (wa, .inl (cI, 8, .inl rw_)), (ra, .inl (cI, 8, .inl rh))] s.heap := hP
  have hl := lv_entry ([.ref x]) (n := 2) (Nat.le_of_ble_eq_true rfl)
  rw [lg_entry_eq]
  generalize (lg_sl ([.ref x]) ++ List.replicate (2 - (lg_sl ([.ref x])).length) Slot.unset).toArray = ls at hl ⊢
  have hl : lv_has ls 2 [(0, .ref x)] := hl
  refine lv_iconst (v := 0) hx hb dX7_areSo_0 (by decide) ?_
  refine lv_istore_n (lv' := [(1, .int 0), (0, .ref x)]) hx hb dX7_areSo_1 rfl hl (by decide) rfl (fun ls hl => ?_)
  have lp2 : ∀ (fu2 : Nat) (i : Nat) (hi : i ≤ rn) (hq : soM kd sd rw_ rh (rn - i) i = soM kd sd rw_ rh rn 0) (hm2 : rn - i < fu2) (ls : Array Slot) (hl : lv_has ls 2 [(0, .ref x), (1, .int (nI i))]), W p l e (headSpec wsX7_areSo ({ frames := 1, cells := 0, slots := 0, locals := 21 } : Room)).room s m ([.ref x]).toArray below meth c s.heap [] 0 0 (MQ below (vp_Si (fun r => ((soM kd sd rw_ rh rn 0 = true) → r = 1) ∧ (¬ (soM kd sd rw_ rh rn 0 = true) → r = 0))) ([.ref x]).toArray s 0 0 (fun _ => False)) (F0 m 2 ls []) := by
    intro fu2
    induction fu2 with
    | zero =>
      intros; omega
    | succ fu2 ih2 =>
      intro i hi hq hm2 ls hl
      refine lv_iload_n hx hb dX7_areSo_2 rfl (lv_at hl 1 rfl) ?_
      refine lv_aload_n hx hb dX7_areSo_3 rfl (lv_at hl 0 rfl) ?_
      refine va_get (D := D) (ci := 7) (v := .int (nI rn)) (C := RX7) (T := TX7) (N := 28) hx hb hts iX7 hown hK hP 0 rfl rfl 25 (by decide) f98 (fun _ h9 => h9) rfl dX7_areSo_4 ?_
      refine lv_icmp_ge (tgt := 37) hx hb dX7_areSo_7 (by decide) (fun c7 => ?_) (fun c7 => ?_)
      · -- t7
        have e7 : i = rn := by have q := ge_n (by omega) (by omega) c7; omega
        rw [e7] at hl
        refine lv_iconst (v := 1) hx hb dX7_areSo_37 (by decide) ?_
        exact W.zret (v := 1) (ty := .boolean) hx hb hr rfl (fun t ht hW => ⟨_, rfl, by exact so_yes (by rw [← hq, e7, Nat.sub_self]; rfl), ht⟩) (fun _ h => absurd h List.not_mem_nil) dX7_areSo_38
      · -- f7
        have l7 : i < rn := lt_n (by omega) (by omega) c7
        refine lv_aload_n hx hb dX7_areSo_10 rfl (lv_at hl 0 rfl) ?_
        refine lv_aload_n hx hb dX7_areSo_11 rfl (lv_at hl 0 rfl) ?_
        refine va_get (D := D) (ci := 7) (v := .ref wa) (C := RX7) (T := TX7) (N := 28) hx hb hts iX7 hown hK hP 0 rfl rfl 26 (by decide) f49 (fun _ h9 => h9) rfl dX7_areSo_12 ?_
        refine lv_iload_n hx hb dX7_areSo_15 rfl (lv_at hl 1 rfl) ?_
        refine va_iald hx hb hK hP 3 0 rfl rfl (vp_in_nI (by omega) (by decide)) dX7_areSo_16 ?_
        refine tp_i (y := rw_ i) (by rw [nI_clamp (n := i) (by omega)]) ?_
        obtain ⟨w0, hw0, ew0⟩ := hw i l7
        refine tp_i (y := nI w0) (ew0) ?_
        have hPc := hP.sub (ws' := [(x, .inr (7, [.int fa, .int tr, .ref so, .ref sl, .ref ce, .int (nI n), .int bar, .int (nI tn), .ref ki, .ref si, .ref th, .ref ri, .int at_, .int rp, .ref rk, .ref rs, .ref kt, .ref kr, .int kn, .int rg, .ref ab, .int am, .ref bh, .int bm, .int br, .int (nI rn), .ref wa, .ref ra])), (ki, .inl (cI, 9, .inl kd)), (si, .inl (cI, 9, .inl sd))]) [0, 1, 2] rfl
        refine vp_callSi (va_Run.run (va_runV (As := [.int (nI w0)]) (rest := []) ⟨hx, hb, hml, hown, hts⟩ (c_X7_ringOf l D cI cO x fa tr so sl ce n bar tn ki si th ri at_ rp rk rs kt kr kn rg ab am bh bm br rn wa ra kd sd w0 (by omega) (hok w0 hw0)) (cwV 1 hts gX7_areSo_X7_ringOf rfl rfl rfl (by decide +kernel) ⟨Nat.le_of_ble_eq_true rfl, Nat.le_of_ble_eq_true rfl⟩) (preVR hPc hK hNw (va_recv hK hPc (ci := 7) (q0 := 0) rfl rfl)) rfl rfl hl.1 rfl (lv_room (Nat.le_of_ble_eq_true rfl)) dX7_areSo_17 ⟨Nat.zero_le _, Nat.zero_le _⟩)) (fun r17 w17 => ?_)
        obtain rfl := w17
        refine lv_aload_n hx hb dX7_areSo_20 rfl (lv_at hl 0 rfl) ?_
        refine va_get (D := D) (ci := 7) (v := .ref ra) (C := RX7) (T := TX7) (N := 28) hx hb hts iX7 hown hK hP 0 rfl rfl 27 (by decide) f52 (fun _ h9 => h9) rfl dX7_areSo_21 ?_
        refine lv_iload_n hx hb dX7_areSo_24 rfl (lv_at hl 1 rfl) ?_
        refine va_iald hx hb hK hP 4 0 rfl rfl (vp_in_nI (by omega) (by decide)) dX7_areSo_25 ?_
        refine tp_i (y := rh i) (by rw [nI_clamp (n := i) (by omega)]) ?_
        refine lv_icmp_eq (tgt := 31) hx hb dX7_areSo_26 (by decide) (fun c26 => ?_) (fun c26 => ?_)
        · -- t26
          refine lv_iinc (v := nI (i + 1)) (lv' := [(1, .int (nI (i + 1))), (0, .ref x)]) hx hb dX7_areSo_31 hl (k := 1) rfl (nI_1 _) (by decide) rfl (fun ls hl => ?_)
          refine lv_goto (tgt := 2) hx hb dX7_areSo_34 (by decide) ?_
          exact ih2 (i + 1) (by omega) (by rw [← hq, show rn - i = (rn - (i + 1)) + 1 by omega, soM, if_pos]; rw [ew0, nI_clamp (n := w0) (by omega)]; exact c26) (by omega) _ (lv_sub hl [1, 0] rfl)
        · -- f26
          refine lv_iconst (v := 0) hx hb dX7_areSo_29 (by decide) ?_
          exact W.zret (v := 0) (ty := .boolean) hx hb hr rfl (fun t ht hW => ⟨_, rfl, by exact so_no (by rw [← hq, show rn - i = (rn - (i + 1)) + 1 by omega, soM, if_neg]; rw [ew0, nI_clamp (n := w0) (by omega)]; exact c26), ht⟩) (fun _ h => absurd h List.not_mem_nil) dX7_areSo_30
  exact lp2 _ 0 (Nat.zero_le _) (rfl) (Nat.lt_succ_self _) _ (lv_sub hl [1, 0] rfl)

set_option maxHeartbeats 4000000 in
set_option maxRecDepth 100000 in
theorem c_X7_sides (l : Launch) (D : va_G) (cI cO : ClassId) (x : Nat) (fa : Int32) (tr : Int32) (so : Nat) (sl : Nat) (ce : Nat) (n : Nat) (bar : Int32) (tn : Nat) (ki : Nat) (si : Nat) (th : Nat) (ri : Nat) (at_ : Int32) (rp : Int32) (rk : Nat) (rs : Nat) (kt : Nat) (kr : Nat) (kn : Int32) (rg : Int32) (ab : Nat) (am : Int32) (bh : Nat) (bm : Int32) (br : Int32) (rn : Nat) (wa : Nat) (ra : Nat) (kd : Nat → Int32) (sd : Nat → Int32) (rw_ : Nat → Int32) (rh : Nat → Int32) (pp : Int32) (sz : Nat) (hn : n ≤ 9) (hok : okK n kd) (hr8 : rn ≤ 8) (hw : ∀ k, k < rn → ∃ w, w < n ∧ rw_ k = nI w) : Met l yX7_sides wsX7_sides ({ frames := 2, cells := 0, slots := 0, locals := 42 } : Room) (va_Pc [.ref x, .int pp] (wdW D cI cO [(x, .inr (7, [.int fa, .int tr, .ref so, .ref sl, .ref ce, .int (nI n), .int bar, .int (nI tn), .ref ki, .ref si, .ref th, .ref ri, .int at_, .int rp, .ref rk, .ref rs, .ref kt, .ref kr, .int kn, .int rg, .ref ab, .int am, .ref bh, .int bm, .int br, .int (nI rn), .ref wa, .ref ra])), (ki, .inl (cI, 9, .inl kd)), (si, .inl (cI, 9, .inl sd)), (wa, .inl (cI, 8, .inl rw_)), (ra, .inl (cI, 8, .inl rh))] sz)) (va_Qi (S := Unit) (fun r u => r = (onQ n pp (fun j => setW (sidM kd sd rw_ rh rn j) 10) (-1))) (fun u t => va_P D vwCl [(x, .inr (7, [.int fa, .int tr, .ref so, .ref sl, .ref ce, .int (nI n), .int bar, .int (nI tn), .ref ki, .ref si, .ref th, .ref ri, .int at_, .int rp, .ref rk, .ref rs, .ref kt, .ref kr, .int kn, .int rg, .ref ab, .int am, .ref bh, .int bm, .int br, .int (nI rn), .ref wa, .ref ra])), (ki, .inl (cI, 9, .inl kd)), (si, .inl (cI, 9, .inl sd)), (wa, .inl (cI, 8, .inl rw_)), (ra, .inl (cI, 8, .inl rh))] t.heap ∧ va_K D vwCl (tyL cI cO) t ∧ va_D (va_A [(x, .inr (7, [.int fa, .int tr, .ref so, .ref sl, .ref ce, .int (nI n), .int bar, .int (nI tn), .ref ki, .ref si, .ref th, .ref ri, .int at_, .int rp, .ref rk, .ref rs, .ref kt, .ref kr, .int kn, .int rg, .ref ab, .int am, .ref bh, .int bm, .int br, .int (nI rn), .ref wa, .ref ra])), (ki, .inl (cI, 9, .inl kd)), (si, .inl (cI, 9, .inl sd)), (wa, .inl (cI, 8, .inl rw_)), (ra, .inl (cI, 8, .inl rh))] sz) [(x, .inr (7, [.int fa, .int tr, .ref so, .ref sl, .ref ce, .int (nI n), .int bar, .int (nI tn), .ref ki, .ref si, .ref th, .ref ri, .int at_, .int rp, .ref rk, .ref rs, .ref kt, .ref kr, .int kn, .int rg, .ref ab, .int am, .ref bh, .int bm, .int br, .int (nI rn), .ref wa, .ref ra])), (ki, .inl (cI, 9, .inl kd)), (si, .inl (cI, 9, .inl sd)), (wa, .inl (cI, 8, .inl rw_)), (ra, .inl (cI, 8, .inl rh))]) (va_A [(x, .inr (7, [.int fa, .int tr, .ref so, .ref sl, .ref ce, .int (nI n), .int bar, .int (nI tn), .ref ki, .ref si, .ref th, .ref ri, .int at_, .int rp, .ref rk, .ref rs, .ref kt, .ref kr, .int kn, .int rg, .ref ab, .int am, .ref bh, .int bm, .int br, .int (nI rn), .ref wa, .ref ra])), (ki, .inl (cI, 9, .inl kd)), (si, .inl (cI, 9, .inl sd)), (wa, .inl (cI, 8, .inl rw_)), (ra, .inl (cI, 8, .inl rh))] sz)) 0 0 (va_A [(x, .inr (7, [.int fa, .int tr, .ref so, .ref sl, .ref ce, .int (nI n), .int bar, .int (nI tn), .ref ki, .ref si, .ref th, .ref ri, .int at_, .int rp, .ref rk, .ref rs, .ref kt, .ref kr, .int kn, .int rg, .ref ab, .int am, .ref bh, .int bm, .int br, .int (nI rn), .ref wa, .ref ra])), (ki, .inl (cI, 9, .inl kd)), (si, .inl (cI, 9, .inl sd)), (wa, .inl (cI, 8, .inl rw_)), (ra, .inl (cI, 8, .inl rh))] sz) := by
  refine Met.ofW (cc := cX7_sides) (maxL := 5) (ret := (some .int)) (by decide) rfl ?_
  intro p e s m args below meth c s₁ B hml hv
  obtain ⟨rfl, hsz, hP, hK, hNw, hD0⟩ := hv
  have hx := B.exec
  have hb := B.bytes
  have hr := B.returns
  have hts := atoms_spec (ws := wsX7_sides) B.pre
  have hown : s.vm.findClass RX7 = some m.cls := findClass_of_methodNamed B.named
  have hlocks := B.notSynchronized
  have f22 := hts (.fieldLink RX7 22 "StruckThreesModel" "side" "[I") (by decide +kernel)
  have iX7 : ∀ w ∈ wsX70, w ∈ wsX7_sides := by decide +kernel
  subst hsz
  have hD := hD0.self (sz := s.heap.size)
  generalize hAe : va_A [(x, .inr (7, [.int fa, .int tr, .ref so, .ref sl, .ref ce, .int (nI n), .int bar, .int (nI tn), .ref ki, .ref si, .ref th, .ref ri, .int at_, .int rp, .ref rk, .ref rs, .ref kt, .ref kr, .int kn, .int rg, .ref ab, .int am, .ref bh, .int bm, .int br, .int (nI rn), .ref wa, .ref ra])), (ki, .inl (cI, 9, .inl kd)), (si, .inl (cI, 9, .inl sd)), (wa, .inl (cI, 8, .inl rw_)), (ra, .inl (cI, 8, .inl rh))] s.heap.size = A at hD ⊢
  have hA : ∀ q : Nat, s.heap.size ≤ q → A q := fun q h => by rw [← hAe]; exact Or.inr h
  have hS : va_S A s.heap s.heap [] := va_S.rf
  have hP : va_P D vwCl [(x, .inr (7, [.int fa, .int tr, .ref so, .ref sl, .ref ce, .int (nI n), .int bar, .int (nI tn), .ref ki, .ref si, .ref th, .ref ri, .int at_, .int rp, .ref rk, .ref rs, .ref kt, .ref kr, .int kn, .int rg, .ref ab, .int am, .ref bh, .int bm, .int br, .int (nI rn), .ref wa, .ref ra])), (ki, .inl (cI, 9, .inl kd)), (si, .inl (cI, 9, .inl sd)), (wa, .inl (cI, 8, .inl rw_)), (ra, .inl (cI, 8, .inl rh))] s.heap := hP
  have hl := lv_entry ([.ref x, .int pp]) (n := 5) (Nat.le_of_ble_eq_true rfl)
  rw [lg_entry_eq]
  generalize (lg_sl ([.ref x, .int pp]) ++ List.replicate (5 - (lg_sl ([.ref x, .int pp])).length) Slot.unset).toArray = ls at hl ⊢
  have hl : lv_has ls 5 [(0, .ref x), (1, .int pp)] := hl
  refine lv_aload_n hx hb dX7_sides_0 rfl (lv_at hl 0 rfl) ?_
  refine lv_iload_n hx hb dX7_sides_1 rfl (lv_at hl 1 rfl) ?_
  have hPc := hP.sub (ws' := [(x, .inr (7, [.int fa, .int tr, .ref so, .ref sl, .ref ce, .int (nI n), .int bar, .int (nI tn), .ref ki, .ref si, .ref th, .ref ri, .int at_, .int rp, .ref rk, .ref rs, .ref kt, .ref kr, .int kn, .int rg, .ref ab, .int am, .ref bh, .int bm, .int br, .int (nI rn), .ref wa, .ref ra]))]) [0] rfl
  refine vp_callSi (va_Run.run (va_runV (As := [.int pp]) (rest := []) ⟨hx, hb, hml, hown, hts⟩ (c_X7_isPerson l D cI cO x fa tr so sl ce n bar tn ki si th ri at_ rp rk rs kt kr kn rg ab am bh bm br rn wa ra pp) (cwV 1 hts gX7_sides_X7_isPerson rfl rfl rfl (by decide +kernel) ⟨Nat.le_of_ble_eq_true rfl, Nat.le_of_ble_eq_true rfl⟩) (preVR hPc hK hNw (va_recv hK hPc (ci := 7) (q0 := 0) rfl rfl)) rfl rfl hl.1 rfl (lv_room (Nat.le_of_ble_eq_true rfl)) dX7_sides_2 ⟨Nat.zero_le _, Nat.zero_le _⟩)) (fun r2 w2 => ?_)
  by_cases b2 : ¬ pp < 0 ∧ ¬ nI n ≤ pp
  · -- y2
    obtain rfl := w2.1 b2
    obtain ⟨j, hj, rfl⟩ := in_nat b2 (show n < 2 ^ 31 by omega)
    refine lv_if_ne (tgt := 10) hx hb dX7_sides_5 (by decide) (fun _ => ?_) (fun h => absurd h (by decide))
    refine lv_aload_n hx hb dX7_sides_10 rfl (lv_at hl 0 rfl) ?_
    refine va_get (D := D) (ci := 7) (v := .ref si) (C := RX7) (T := TX7) (N := 28) hx hb hts iX7 hown hK hP 0 rfl rfl 9 (by decide) f22 (fun _ h9 => h9) rfl dX7_sides_11 ?_
    refine lv_iload_n hx hb dX7_sides_14 rfl (lv_at hl 1 rfl) ?_
    refine va_iald hx hb hK hP 2 0 rfl rfl (vp_in_nI (by omega) (by decide)) dX7_sides_15 ?_
    refine tp_i (y := sd j) (by rw [nI_clamp (n := j) (by omega)]) ?_
    refine lv_istore_n (lv' := [(2, .int (sd j)), (0, .ref x), (1, .int (nI j))]) hx hb dX7_sides_16 rfl hl (by decide) rfl (fun ls hl => ?_)
    refine lv_iconst (v := 0) hx hb dX7_sides_17 (by decide) ?_
    refine lv_istore_n (lv' := [(3, .int 0), (2, .int (sd j)), (0, .ref x), (1, .int (nI j))]) hx hb dX7_sides_18 rfl hl (by decide) rfl (fun ls hl => ?_)
    refine lv_iconst (v := 1) hx hb dX7_sides_19 (by decide) ?_
    refine lv_istore (lv' := [(4, .int 1), (3, .int 0), (2, .int (sd j)), (0, .ref x), (1, .int (nI j))]) hx hb dX7_sides_20 hl (by decide) rfl (fun ls hl => ?_)
    have lp22 : ∀ (fu22 : Nat) (i : Nat) (cu : Nat → Int32) (hi : i ≤ 10) (hlo : 1 ≤ i) (hcu : ∀ k, ¬ k = j → cu k = sd k) (hm22 : 10 - i < fu22) (H : Heap) (locs : List Loc) (hP : va_P D vwCl [(x, .inr (7, [.int fa, .int tr, .ref so, .ref sl, .ref ce, .int (nI n), .int bar, .int (nI tn), .ref ki, .ref si, .ref th, .ref ri, .int at_, .int rp, .ref rk, .ref rs, .ref kt, .ref kr, .int kn, .int rg, .ref ab, .int am, .ref bh, .int bm, .int br, .int (nI rn), .ref wa, .ref ra])), (ki, .inl (cI, 9, .inl kd)), (si, .inl (cI, 9, .inl cu)), (wa, .inl (cI, 8, .inl rw_)), (ra, .inl (cI, 8, .inl rh))] H) (hD : va_D A [(x, .inr (7, [.int fa, .int tr, .ref so, .ref sl, .ref ce, .int (nI n), .int bar, .int (nI tn), .ref ki, .ref si, .ref th, .ref ri, .int at_, .int rp, .ref rk, .ref rs, .ref kt, .ref kr, .int kn, .int rg, .ref ab, .int am, .ref bh, .int bm, .int br, .int (nI rn), .ref wa, .ref ra])), (ki, .inl (cI, 9, .inl kd)), (si, .inl (cI, 9, .inl cu)), (wa, .inl (cI, 8, .inl rw_)), (ra, .inl (cI, 8, .inl rh))]) (hS : va_S A s.heap H locs) (ls : Array Slot) (hl : lv_has ls 5 [(0, .ref x), (1, .int (nI j)), (2, .int (sd j)), (3, .int (setW (sidM kd sd rw_ rh rn j) i)), (4, .int (nI i))]), W p l e (headSpec wsX7_sides ({ frames := 2, cells := 0, slots := 0, locals := 42 } : Room)).room s m ([.ref x, .int (nI j)]).toArray below meth c H locs 0 0 (MQ below (va_Qi (S := Unit) (fun r u => r = (onQ n (nI j) (fun j => setW (sidM kd sd rw_ rh rn j) 10) (-1))) (fun u t => va_P D vwCl [(x, .inr (7, [.int fa, .int tr, .ref so, .ref sl, .ref ce, .int (nI n), .int bar, .int (nI tn), .ref ki, .ref si, .ref th, .ref ri, .int at_, .int rp, .ref rk, .ref rs, .ref kt, .ref kr, .int kn, .int rg, .ref ab, .int am, .ref bh, .int bm, .int br, .int (nI rn), .ref wa, .ref ra])), (ki, .inl (cI, 9, .inl kd)), (si, .inl (cI, 9, .inl sd)), (wa, .inl (cI, 8, .inl rw_)), (ra, .inl (cI, 8, .inl rh))] t.heap ∧ va_K D vwCl (tyL cI cO) t ∧ va_D A [(x, .inr (7, [.int fa, .int tr, .ref so, .ref sl, .ref ce, .int (nI n), .int bar, .int (nI tn), .ref ki, .ref si, .ref th, .ref ri, .int at_, .int rp, .ref rk, .ref rs, .ref kt, .ref kr, .int kn, .int rg, .ref ab, .int am, .ref bh, .int bm, .int br, .int (nI rn), .ref wa, .ref ra])), (ki, .inl (cI, 9, .inl kd)), (si, .inl (cI, 9, .inl sd)), (wa, .inl (cI, 8, .inl rw_)), (ra, .inl (cI, 8, .inl rh))]) A) ([.ref x, .int (nI j)]).toArray s 0 0 A) (F0 m 22 ls []) := by
      intro fu22
      induction fu22 with
      | zero =>
        intros; omega
      | succ fu22 ih22 =>
        intro i cu hi hlo hcu hm22 H locs hP hD hS ls hl
        refine lv_iload hx hb dX7_sides_22 (lv_at hl 4 rfl) ?_
        refine lv_bipush (v := 9) hx hb dX7_sides_24 (by decide) ?_
        refine lv_icmp_gt (tgt := 61) hx hb dX7_sides_26 (by decide) (fun c26 => ?_) (fun c26 => ?_)
        · -- t26
          have e26 : i = 10 := by have q := (nI_ltI (a := 9) (by decide) (by omega)).mp c26; omega
          rw [e26] at hl
          refine lv_aload_n hx hb dX7_sides_61 rfl (lv_at hl 0 rfl) ?_
          refine va_get (D := D) (ci := 7) (v := .ref si) (C := RX7) (T := TX7) (N := 28) hx hb hts iX7 hown hK hP 0 rfl rfl 9 (by decide) f22 (fun _ h9 => h9) rfl dX7_sides_62 ?_
          refine lv_iload_n hx hb dX7_sides_65 rfl (lv_at hl 1 rfl) ?_
          refine lv_iload_n hx hb dX7_sides_66 rfl (lv_at hl 2 rfl) ?_
          refine va_iast hx hb hK hP hD hS 2 0 rfl rfl (vp_in_nI (by omega) (by decide)) dX7_sides_67 (fun H locs hP hD hS => ?_)
          rw [nI_clamp (n := j) (by omega)] at hP hD
          have hP : va_P D vwCl [(x, .inr (7, [.int fa, .int tr, .ref so, .ref sl, .ref ce, .int (nI n), .int bar, .int (nI tn), .ref ki, .ref si, .ref th, .ref ri, .int at_, .int rp, .ref rk, .ref rs, .ref kt, .ref kr, .int kn, .int rg, .ref ab, .int am, .ref bh, .int bm, .int br, .int (nI rn), .ref wa, .ref ra])), (ki, .inl (cI, 9, .inl kd)), (si, .inl (cI, 9, .inl (upd cu j (sd j)))), (wa, .inl (cI, 8, .inl rw_)), (ra, .inl (cI, 8, .inl rh))] H := hP
          have hD : va_D A [(x, .inr (7, [.int fa, .int tr, .ref so, .ref sl, .ref ce, .int (nI n), .int bar, .int (nI tn), .ref ki, .ref si, .ref th, .ref ri, .int at_, .int rp, .ref rk, .ref rs, .ref kt, .ref kr, .int kn, .int rg, .ref ab, .int am, .ref bh, .int bm, .int br, .int (nI rn), .ref wa, .ref ra])), (ki, .inl (cI, 9, .inl kd)), (si, .inl (cI, 9, .inl (upd cu j (sd j)))), (wa, .inl (cI, 8, .inl rw_)), (ra, .inl (cI, 8, .inl rh))] := hD
          have hP : va_P D vwCl [(x, .inr (7, [.int fa, .int tr, .ref so, .ref sl, .ref ce, .int (nI n), .int bar, .int (nI tn), .ref ki, .ref si, .ref th, .ref ri, .int at_, .int rp, .ref rk, .ref rs, .ref kt, .ref kr, .int kn, .int rg, .ref ab, .int am, .ref bh, .int bm, .int br, .int (nI rn), .ref wa, .ref ra])), (ki, .inl (cI, 9, .inl kd)), (si, .inl (cI, 9, .inl sd)), (wa, .inl (cI, 8, .inl rw_)), (ra, .inl (cI, 8, .inl rh))] H := by rw [upd_id hcu] at hP; exact hP
          have hD : va_D A [(x, .inr (7, [.int fa, .int tr, .ref so, .ref sl, .ref ce, .int (nI n), .int bar, .int (nI tn), .ref ki, .ref si, .ref th, .ref ri, .int at_, .int rp, .ref rk, .ref rs, .ref kt, .ref kr, .int kn, .int rg, .ref ab, .int am, .ref bh, .int bm, .int br, .int (nI rn), .ref wa, .ref ra])), (ki, .inl (cI, 9, .inl kd)), (si, .inl (cI, 9, .inl sd)), (wa, .inl (cI, 8, .inl rw_)), (ra, .inl (cI, 8, .inl rh))] := by rw [upd_id hcu] at hD; exact hD
          refine lv_iload_n hx hb dX7_sides_68 rfl (lv_at hl 3 rfl) ?_
          exact W.iret (v := setW (sidM kd sd rw_ rh rn j) 10) hx hb hr (fun t ht hW => ⟨⟨_, (), rfl, by first | (simp [onQ_out b2]; done) | (rw [onQ_in hj (by omega)]), by rw [ht]; exact hP, va_K.moved hW.alike hK, hD⟩, hS.F ht⟩) hS.2.2 dX7_sides_69
        · -- f26
          have l26 : i < 10 := by have q := mt (nI_ltI (a := 9) (by decide) (by omega)).mpr c26; omega
          refine lv_aload_n hx hb dX7_sides_29 rfl (lv_at hl 0 rfl) ?_
          refine va_get (D := D) (ci := 7) (v := .ref si) (C := RX7) (T := TX7) (N := 28) hx hb hts iX7 hown hK hP 0 rfl rfl 9 (by decide) f22 (fun _ h9 => h9) rfl dX7_sides_30 ?_
          refine lv_iload_n hx hb dX7_sides_33 rfl (lv_at hl 1 rfl) ?_
          refine lv_iload hx hb dX7_sides_34 (lv_at hl 4 rfl) ?_
          refine va_iast hx hb hK hP hD hS 2 0 rfl rfl (vp_in_nI (by omega) (by decide)) dX7_sides_36 (fun H locs hP hD hS => ?_)
          rw [nI_clamp (n := j) (by omega)] at hP hD
          have hP : va_P D vwCl [(x, .inr (7, [.int fa, .int tr, .ref so, .ref sl, .ref ce, .int (nI n), .int bar, .int (nI tn), .ref ki, .ref si, .ref th, .ref ri, .int at_, .int rp, .ref rk, .ref rs, .ref kt, .ref kr, .int kn, .int rg, .ref ab, .int am, .ref bh, .int bm, .int br, .int (nI rn), .ref wa, .ref ra])), (ki, .inl (cI, 9, .inl kd)), (si, .inl (cI, 9, .inl (upd cu j (nI i)))), (wa, .inl (cI, 8, .inl rw_)), (ra, .inl (cI, 8, .inl rh))] H := hP
          have hD : va_D A [(x, .inr (7, [.int fa, .int tr, .ref so, .ref sl, .ref ce, .int (nI n), .int bar, .int (nI tn), .ref ki, .ref si, .ref th, .ref ri, .int at_, .int rp, .ref rk, .ref rs, .ref kt, .ref kr, .int kn, .int rg, .ref ab, .int am, .ref bh, .int bm, .int br, .int (nI rn), .ref wa, .ref ra])), (ki, .inl (cI, 9, .inl kd)), (si, .inl (cI, 9, .inl (upd cu j (nI i)))), (wa, .inl (cI, 8, .inl rw_)), (ra, .inl (cI, 8, .inl rh))] := hD
          have hP : va_P D vwCl [(x, .inr (7, [.int fa, .int tr, .ref so, .ref sl, .ref ce, .int (nI n), .int bar, .int (nI tn), .ref ki, .ref si, .ref th, .ref ri, .int at_, .int rp, .ref rk, .ref rs, .ref kt, .ref kr, .int kn, .int rg, .ref ab, .int am, .ref bh, .int bm, .int br, .int (nI rn), .ref wa, .ref ra])), (ki, .inl (cI, 9, .inl kd)), (si, .inl (cI, 9, .inl (upd sd j (nI i)))), (wa, .inl (cI, 8, .inl rw_)), (ra, .inl (cI, 8, .inl rh))] H := by rw [← upd_cu hcu]; exact hP
          have hD : va_D A [(x, .inr (7, [.int fa, .int tr, .ref so, .ref sl, .ref ce, .int (nI n), .int bar, .int (nI tn), .ref ki, .ref si, .ref th, .ref ri, .int at_, .int rp, .ref rk, .ref rs, .ref kt, .ref kr, .int kn, .int rg, .ref ab, .int am, .ref bh, .int bm, .int br, .int (nI rn), .ref wa, .ref ra])), (ki, .inl (cI, 9, .inl kd)), (si, .inl (cI, 9, .inl (upd sd j (nI i)))), (wa, .inl (cI, 8, .inl rw_)), (ra, .inl (cI, 8, .inl rh))] := by rw [← upd_cu hcu]; exact hD
          refine lv_iload_n hx hb dX7_sides_37 rfl (lv_at hl 3 rfl) ?_
          refine lv_aload_n hx hb dX7_sides_38 rfl (lv_at hl 0 rfl) ?_
          have hPc := hP.sub (ws' := [(x, .inr (7, [.int fa, .int tr, .ref so, .ref sl, .ref ce, .int (nI n), .int bar, .int (nI tn), .ref ki, .ref si, .ref th, .ref ri, .int at_, .int rp, .ref rk, .ref rs, .ref kt, .ref kr, .int kn, .int rg, .ref ab, .int am, .ref bh, .int bm, .int br, .int (nI rn), .ref wa, .ref ra])), (ki, .inl (cI, 9, .inl kd)), (si, .inl (cI, 9, .inl (upd sd j (nI i)))), (wa, .inl (cI, 8, .inl rw_)), (ra, .inl (cI, 8, .inl rh))]) [0, 1, 2, 3, 4] rfl
          refine vp_callSi (va_Run.run (va_runV (As := []) (rest := [.int (setW (sidM kd sd rw_ rh rn j) i)]) ⟨hx, hb, hml, hown, hts⟩ (c_X7_areSo l D cI cO x fa tr so sl ce n bar tn ki si th ri at_ rp rk rs kt kr kn rg ab am bh bm br rn wa ra kd (upd sd j (nI i)) rw_ rh (by assumption) (by assumption) (by assumption) (by assumption)) (cwV 0 hts gX7_sides_X7_areSo rfl rfl rfl (by decide +kernel) ⟨Nat.le_of_ble_eq_true rfl, Nat.le_of_ble_eq_true rfl⟩) (preVR hPc hK hNw (va_recv hK hPc (ci := 7) (q0 := 0) rfl rfl)) rfl rfl hl.1 rfl (lv_room (Nat.le_of_ble_eq_true rfl)) dX7_sides_39 ⟨Nat.zero_le _, Nat.zero_le _⟩)) (fun r39 w39 => ?_)
          by_cases b39 : soM kd (upd sd j (nI i)) rw_ rh rn 0 = true
          · -- y39
            obtain rfl := w39.1 b39
            have hpv : sidM kd sd rw_ rh rn j i = true := by unfold sidM; rw [b39, decide_eq_true hlo]; rfl
            refine lv_if_eq (tgt := 52) hx hb dX7_sides_42 (by decide) (fun h => absurd h (by decide)) (fun _ => ?_)
            refine lv_iconst (v := 1) hx hb dX7_sides_45 (by decide) ?_
            refine lv_iload hx hb dX7_sides_46 (lv_at hl 4 rfl) ?_
            refine lv_ishl hx hb dX7_sides_48 ?_
            refine lv_goto (tgt := 53) hx hb dX7_sides_49 (by decide) ?_
            refine lv_ior hx hb dX7_sides_53 ?_
            refine lv_istore_n (lv' := [(3, .int ((setW (sidM kd sd rw_ rh rn j) i) ||| (1 <<< ((nI i) &&& 31)))), (0, .ref x), (1, .int (nI j)), (2, .int (sd j)), (4, .int (nI i))]) hx hb dX7_sides_54 rfl hl (by decide) rfl (fun ls hl => ?_)
            refine lv_iinc (v := nI (i + 1)) (lv' := [(4, .int (nI (i + 1))), (3, .int ((setW (sidM kd sd rw_ rh rn j) i) ||| (1 <<< ((nI i) &&& 31)))), (0, .ref x), (1, .int (nI j)), (2, .int (sd j))]) hx hb dX7_sides_55 hl (k := 4) rfl (nI_1 _) (by decide) rfl (fun ls hl => ?_)
            refine lv_goto (tgt := 22) hx hb dX7_sides_58 (by decide) ?_
            have e22_3 : ((setW (sidM kd sd rw_ rh rn j) i) ||| (1 <<< ((nI i) &&& 31))) = setW (sidM kd sd rw_ rh rn j) (i + 1) := by simp [setW, hpv]
            have hl : lv_has ls 5 [(4, .int (nI (i + 1))), (3, .int (setW (sidM kd sd rw_ rh rn j) (i + 1))), (0, .ref x), (1, .int (nI j)), (2, .int (sd j))] := by rw [← e22_3]; exact hl
            exact ih22 (i + 1) (upd sd j (nI i)) (by omega) (by omega) (fun k hk => by unfold upd; rw [if_neg hk]) (by omega) _ _ hP hD hS _ (lv_sub hl [2, 3, 4, 1, 0] rfl)
          · -- n39
            obtain rfl := w39.2 b39
            have hpv : sidM kd sd rw_ rh rn j i = false := by unfold sidM; rw [Bool.not_eq_true] at b39; rw [b39, Bool.and_false]
            refine lv_if_eq (tgt := 52) hx hb dX7_sides_42 (by decide) (fun _ => ?_) (fun h => absurd (by decide) h)
            refine lv_iconst (v := 0) hx hb dX7_sides_52 (by decide) ?_
            refine lv_ior hx hb dX7_sides_53 ?_
            refine lv_istore_n (lv' := [(3, .int ((setW (sidM kd sd rw_ rh rn j) i) ||| 0)), (0, .ref x), (1, .int (nI j)), (2, .int (sd j)), (4, .int (nI i))]) hx hb dX7_sides_54 rfl hl (by decide) rfl (fun ls hl => ?_)
            refine lv_iinc (v := nI (i + 1)) (lv' := [(4, .int (nI (i + 1))), (3, .int ((setW (sidM kd sd rw_ rh rn j) i) ||| 0)), (0, .ref x), (1, .int (nI j)), (2, .int (sd j))]) hx hb dX7_sides_55 hl (k := 4) rfl (nI_1 _) (by decide) rfl (fun ls hl => ?_)
            refine lv_goto (tgt := 22) hx hb dX7_sides_58 (by decide) ?_
            have e22_3 : ((setW (sidM kd sd rw_ rh rn j) i) ||| 0) = setW (sidM kd sd rw_ rh rn j) (i + 1) := by simp [setW, hpv]
            have hl : lv_has ls 5 [(4, .int (nI (i + 1))), (3, .int (setW (sidM kd sd rw_ rh rn j) (i + 1))), (0, .ref x), (1, .int (nI j)), (2, .int (sd j))] := by rw [← e22_3]; exact hl
            exact ih22 (i + 1) (upd sd j (nI i)) (by omega) (by omega) (fun k hk => by unfold upd; rw [if_neg hk]) (by omega) _ _ hP hD hS _ (lv_sub hl [2, 3, 4, 1, 0] rfl)
    exact lp22 _ 1 sd (by decide) (by decide) (fun _ _ => rfl) (Nat.lt_succ_self _) _ _ hP hD hS _ (lv_sub hl [3, 4, 2, 1, 0] rfl)
  · -- n2
    obtain rfl := w2.2 b2
    refine lv_if_ne (tgt := 10) hx hb dX7_sides_5 (by decide) (fun h => absurd (by decide) h) (fun _ => ?_)
    refine lv_iconst (v := -1) hx hb dX7_sides_8 (by decide) ?_
    exact W.iret (v := -1) hx hb hr (fun t ht hW => ⟨⟨_, (), rfl, by first | (simp [onQ_out b2]; done) | (rw [onQ_in hj (by omega)]), by rw [ht]; exact hP, va_K.moved hW.alike hK, hD⟩, hS.F ht⟩) hS.2.2 dX7_sides_9

set_option maxHeartbeats 4000000 in
set_option maxRecDepth 100000 in
theorem c_X7_kinds (l : Launch) (D : va_G) (cI cO : ClassId) (x : Nat) (fa : Int32) (tr : Int32) (so : Nat) (sl : Nat) (ce : Nat) (n : Nat) (bar : Int32) (tn : Nat) (ki : Nat) (si : Nat) (th : Nat) (ri : Nat) (at_ : Int32) (rp : Int32) (rk : Nat) (rs : Nat) (kt : Nat) (kr : Nat) (kn : Int32) (rg : Int32) (ab : Nat) (am : Int32) (bh : Nat) (bm : Int32) (br : Int32) (rn : Nat) (wa : Nat) (ra : Nat) (kd : Nat → Int32) (sd : Nat → Int32) (rw_ : Nat → Int32) (rh : Nat → Int32) (pp : Int32) (sz : Nat) (hn : n ≤ 9) (hok : okK n kd) (hr8 : rn ≤ 8) (hw : ∀ k, k < rn → ∃ w, w < n ∧ rw_ k = nI w) : Met l yX7_kinds wsX7_kinds ({ frames := 2, cells := 0, slots := 0, locals := 42 } : Room) (va_Pc [.ref x, .int pp] (wdW D cI cO [(x, .inr (7, [.int fa, .int tr, .ref so, .ref sl, .ref ce, .int (nI n), .int bar, .int (nI tn), .ref ki, .ref si, .ref th, .ref ri, .int at_, .int rp, .ref rk, .ref rs, .ref kt, .ref kr, .int kn, .int rg, .ref ab, .int am, .ref bh, .int bm, .int br, .int (nI rn), .ref wa, .ref ra])), (ki, .inl (cI, 9, .inl kd)), (si, .inl (cI, 9, .inl sd)), (wa, .inl (cI, 8, .inl rw_)), (ra, .inl (cI, 8, .inl rh))] sz)) (va_Qi (S := Unit) (fun r u => r = (onQ n pp (fun j => setW (kinM kd sd rw_ rh rn j) 3) (-1))) (fun u t => va_P D vwCl [(x, .inr (7, [.int fa, .int tr, .ref so, .ref sl, .ref ce, .int (nI n), .int bar, .int (nI tn), .ref ki, .ref si, .ref th, .ref ri, .int at_, .int rp, .ref rk, .ref rs, .ref kt, .ref kr, .int kn, .int rg, .ref ab, .int am, .ref bh, .int bm, .int br, .int (nI rn), .ref wa, .ref ra])), (ki, .inl (cI, 9, .inl kd)), (si, .inl (cI, 9, .inl sd)), (wa, .inl (cI, 8, .inl rw_)), (ra, .inl (cI, 8, .inl rh))] t.heap ∧ va_K D vwCl (tyL cI cO) t ∧ va_D (va_A [(x, .inr (7, [.int fa, .int tr, .ref so, .ref sl, .ref ce, .int (nI n), .int bar, .int (nI tn), .ref ki, .ref si, .ref th, .ref ri, .int at_, .int rp, .ref rk, .ref rs, .ref kt, .ref kr, .int kn, .int rg, .ref ab, .int am, .ref bh, .int bm, .int br, .int (nI rn), .ref wa, .ref ra])), (ki, .inl (cI, 9, .inl kd)), (si, .inl (cI, 9, .inl sd)), (wa, .inl (cI, 8, .inl rw_)), (ra, .inl (cI, 8, .inl rh))] sz) [(x, .inr (7, [.int fa, .int tr, .ref so, .ref sl, .ref ce, .int (nI n), .int bar, .int (nI tn), .ref ki, .ref si, .ref th, .ref ri, .int at_, .int rp, .ref rk, .ref rs, .ref kt, .ref kr, .int kn, .int rg, .ref ab, .int am, .ref bh, .int bm, .int br, .int (nI rn), .ref wa, .ref ra])), (ki, .inl (cI, 9, .inl kd)), (si, .inl (cI, 9, .inl sd)), (wa, .inl (cI, 8, .inl rw_)), (ra, .inl (cI, 8, .inl rh))]) (va_A [(x, .inr (7, [.int fa, .int tr, .ref so, .ref sl, .ref ce, .int (nI n), .int bar, .int (nI tn), .ref ki, .ref si, .ref th, .ref ri, .int at_, .int rp, .ref rk, .ref rs, .ref kt, .ref kr, .int kn, .int rg, .ref ab, .int am, .ref bh, .int bm, .int br, .int (nI rn), .ref wa, .ref ra])), (ki, .inl (cI, 9, .inl kd)), (si, .inl (cI, 9, .inl sd)), (wa, .inl (cI, 8, .inl rw_)), (ra, .inl (cI, 8, .inl rh))] sz)) 0 0 (va_A [(x, .inr (7, [.int fa, .int tr, .ref so, .ref sl, .ref ce, .int (nI n), .int bar, .int (nI tn), .ref ki, .ref si, .ref th, .ref ri, .int at_, .int rp, .ref rk, .ref rs, .ref kt, .ref kr, .int kn, .int rg, .ref ab, .int am, .ref bh, .int bm, .int br, .int (nI rn), .ref wa, .ref ra])), (ki, .inl (cI, 9, .inl kd)), (si, .inl (cI, 9, .inl sd)), (wa, .inl (cI, 8, .inl rw_)), (ra, .inl (cI, 8, .inl rh))] sz) := by
  refine Met.ofW (cc := cX7_kinds) (maxL := 5) (ret := (some .int)) (by decide) rfl ?_
  intro p e s m args below meth c s₁ B hml hv
  obtain ⟨rfl, hsz, hP, hK, hNw, hD0⟩ := hv
  have hx := B.exec
  have hb := B.bytes
  have hr := B.returns
  have hts := atoms_spec (ws := wsX7_kinds) B.pre
  have hown : s.vm.findClass RX7 = some m.cls := findClass_of_methodNamed B.named
  have hlocks := B.notSynchronized
  have f19 := hts (.fieldLink RX7 19 "StruckThreesModel" "kind" "[I") (by decide +kernel)
  have iX7 : ∀ w ∈ wsX70, w ∈ wsX7_kinds := by decide +kernel
  subst hsz
  have hD := hD0.self (sz := s.heap.size)
  generalize hAe : va_A [(x, .inr (7, [.int fa, .int tr, .ref so, .ref sl, .ref ce, .int (nI n), .int bar, .int (nI tn), .ref ki, .ref si, .ref th, .ref ri, .int at_, .int rp, .ref rk, .ref rs, .ref kt, .ref kr, .int kn, .int rg, .ref ab, .int am, .ref bh, .int bm, .int br, .int (nI rn), .ref wa, .ref ra])), (ki, .inl (cI, 9, .inl kd)), (si, .inl (cI, 9, .inl sd)), (wa, .inl (cI, 8, .inl rw_)), (ra, .inl (cI, 8, .inl rh))] s.heap.size = A at hD ⊢
  have hA : ∀ q : Nat, s.heap.size ≤ q → A q := fun q h => by rw [← hAe]; exact Or.inr h
  have hS : va_S A s.heap s.heap [] := va_S.rf
  have hP : va_P D vwCl [(x, .inr (7, [.int fa, .int tr, .ref so, .ref sl, .ref ce, .int (nI n), .int bar, .int (nI tn), .ref ki, .ref si, .ref th, .ref ri, .int at_, .int rp, .ref rk, .ref rs, .ref kt, .ref kr, .int kn, .int rg, .ref ab, .int am, .ref bh, .int bm, .int br, .int (nI rn), .ref wa, .ref ra])), (ki, .inl (cI, 9, .inl kd)), (si, .inl (cI, 9, .inl sd)), (wa, .inl (cI, 8, .inl rw_)), (ra, .inl (cI, 8, .inl rh))] s.heap := hP
  have hl := lv_entry ([.ref x, .int pp]) (n := 5) (Nat.le_of_ble_eq_true rfl)
  rw [lg_entry_eq]
  generalize (lg_sl ([.ref x, .int pp]) ++ List.replicate (5 - (lg_sl ([.ref x, .int pp])).length) Slot.unset).toArray = ls at hl ⊢
  have hl : lv_has ls 5 [(0, .ref x), (1, .int pp)] := hl
  refine lv_aload_n hx hb dX7_kinds_0 rfl (lv_at hl 0 rfl) ?_
  refine lv_iload_n hx hb dX7_kinds_1 rfl (lv_at hl 1 rfl) ?_
  have hPc := hP.sub (ws' := [(x, .inr (7, [.int fa, .int tr, .ref so, .ref sl, .ref ce, .int (nI n), .int bar, .int (nI tn), .ref ki, .ref si, .ref th, .ref ri, .int at_, .int rp, .ref rk, .ref rs, .ref kt, .ref kr, .int kn, .int rg, .ref ab, .int am, .ref bh, .int bm, .int br, .int (nI rn), .ref wa, .ref ra]))]) [0] rfl
  refine vp_callSi (va_Run.run (va_runV (As := [.int pp]) (rest := []) ⟨hx, hb, hml, hown, hts⟩ (c_X7_isPerson l D cI cO x fa tr so sl ce n bar tn ki si th ri at_ rp rk rs kt kr kn rg ab am bh bm br rn wa ra pp) (cwV 1 hts gX7_kinds_X7_isPerson rfl rfl rfl (by decide +kernel) ⟨Nat.le_of_ble_eq_true rfl, Nat.le_of_ble_eq_true rfl⟩) (preVR hPc hK hNw (va_recv hK hPc (ci := 7) (q0 := 0) rfl rfl)) rfl rfl hl.1 rfl (lv_room (Nat.le_of_ble_eq_true rfl)) dX7_kinds_2 ⟨Nat.zero_le _, Nat.zero_le _⟩)) (fun r2 w2 => ?_)
  by_cases b2 : ¬ pp < 0 ∧ ¬ nI n ≤ pp
  · -- y2
    obtain rfl := w2.1 b2
    obtain ⟨j, hj, rfl⟩ := in_nat b2 (show n < 2 ^ 31 by omega)
    refine lv_if_ne (tgt := 10) hx hb dX7_kinds_5 (by decide) (fun _ => ?_) (fun h => absurd h (by decide))
    refine lv_aload_n hx hb dX7_kinds_10 rfl (lv_at hl 0 rfl) ?_
    refine va_get (D := D) (ci := 7) (v := .ref ki) (C := RX7) (T := TX7) (N := 28) hx hb hts iX7 hown hK hP 0 rfl rfl 8 (by decide) f19 (fun _ h9 => h9) rfl dX7_kinds_11 ?_
    refine lv_iload_n hx hb dX7_kinds_14 rfl (lv_at hl 1 rfl) ?_
    refine va_iald hx hb hK hP 1 0 rfl rfl (vp_in_nI (by omega) (by decide)) dX7_kinds_15 ?_
    refine tp_i (y := kd j) (by rw [nI_clamp (n := j) (by omega)]) ?_
    refine lv_istore_n (lv' := [(2, .int (kd j)), (0, .ref x), (1, .int (nI j))]) hx hb dX7_kinds_16 rfl hl (by decide) rfl (fun ls hl => ?_)
    refine lv_iconst (v := 0) hx hb dX7_kinds_17 (by decide) ?_
    refine lv_istore_n (lv' := [(3, .int 0), (2, .int (kd j)), (0, .ref x), (1, .int (nI j))]) hx hb dX7_kinds_18 rfl hl (by decide) rfl (fun ls hl => ?_)
    refine lv_iconst (v := 0) hx hb dX7_kinds_19 (by decide) ?_
    refine lv_istore (lv' := [(4, .int 0), (3, .int 0), (2, .int (kd j)), (0, .ref x), (1, .int (nI j))]) hx hb dX7_kinds_20 hl (by decide) rfl (fun ls hl => ?_)
    have lp22 : ∀ (fu22 : Nat) (i : Nat) (cu : Nat → Int32) (hi : i ≤ 3) (hcu : ∀ k, ¬ k = j → cu k = kd k) (hm22 : 3 - i < fu22) (H : Heap) (locs : List Loc) (hP : va_P D vwCl [(x, .inr (7, [.int fa, .int tr, .ref so, .ref sl, .ref ce, .int (nI n), .int bar, .int (nI tn), .ref ki, .ref si, .ref th, .ref ri, .int at_, .int rp, .ref rk, .ref rs, .ref kt, .ref kr, .int kn, .int rg, .ref ab, .int am, .ref bh, .int bm, .int br, .int (nI rn), .ref wa, .ref ra])), (ki, .inl (cI, 9, .inl cu)), (si, .inl (cI, 9, .inl sd)), (wa, .inl (cI, 8, .inl rw_)), (ra, .inl (cI, 8, .inl rh))] H) (hD : va_D A [(x, .inr (7, [.int fa, .int tr, .ref so, .ref sl, .ref ce, .int (nI n), .int bar, .int (nI tn), .ref ki, .ref si, .ref th, .ref ri, .int at_, .int rp, .ref rk, .ref rs, .ref kt, .ref kr, .int kn, .int rg, .ref ab, .int am, .ref bh, .int bm, .int br, .int (nI rn), .ref wa, .ref ra])), (ki, .inl (cI, 9, .inl cu)), (si, .inl (cI, 9, .inl sd)), (wa, .inl (cI, 8, .inl rw_)), (ra, .inl (cI, 8, .inl rh))]) (hS : va_S A s.heap H locs) (ls : Array Slot) (hl : lv_has ls 5 [(0, .ref x), (1, .int (nI j)), (2, .int (kd j)), (3, .int (setW (kinM kd sd rw_ rh rn j) i)), (4, .int (nI i))]), W p l e (headSpec wsX7_kinds ({ frames := 2, cells := 0, slots := 0, locals := 42 } : Room)).room s m ([.ref x, .int (nI j)]).toArray below meth c H locs 0 0 (MQ below (va_Qi (S := Unit) (fun r u => r = (onQ n (nI j) (fun j => setW (kinM kd sd rw_ rh rn j) 3) (-1))) (fun u t => va_P D vwCl [(x, .inr (7, [.int fa, .int tr, .ref so, .ref sl, .ref ce, .int (nI n), .int bar, .int (nI tn), .ref ki, .ref si, .ref th, .ref ri, .int at_, .int rp, .ref rk, .ref rs, .ref kt, .ref kr, .int kn, .int rg, .ref ab, .int am, .ref bh, .int bm, .int br, .int (nI rn), .ref wa, .ref ra])), (ki, .inl (cI, 9, .inl kd)), (si, .inl (cI, 9, .inl sd)), (wa, .inl (cI, 8, .inl rw_)), (ra, .inl (cI, 8, .inl rh))] t.heap ∧ va_K D vwCl (tyL cI cO) t ∧ va_D A [(x, .inr (7, [.int fa, .int tr, .ref so, .ref sl, .ref ce, .int (nI n), .int bar, .int (nI tn), .ref ki, .ref si, .ref th, .ref ri, .int at_, .int rp, .ref rk, .ref rs, .ref kt, .ref kr, .int kn, .int rg, .ref ab, .int am, .ref bh, .int bm, .int br, .int (nI rn), .ref wa, .ref ra])), (ki, .inl (cI, 9, .inl kd)), (si, .inl (cI, 9, .inl sd)), (wa, .inl (cI, 8, .inl rw_)), (ra, .inl (cI, 8, .inl rh))]) A) ([.ref x, .int (nI j)]).toArray s 0 0 A) (F0 m 22 ls []) := by
      intro fu22
      induction fu22 with
      | zero =>
        intros; omega
      | succ fu22 ih22 =>
        intro i cu hi hcu hm22 H locs hP hD hS ls hl
        refine lv_iload hx hb dX7_kinds_22 (lv_at hl 4 rfl) ?_
        refine lv_iconst (v := 3) hx hb dX7_kinds_24 (by decide) ?_
        refine lv_icmp_ge (tgt := 60) hx hb dX7_kinds_25 (by decide) (fun c25 => ?_) (fun c25 => ?_)
        · -- t25
          have e25 : i = 3 := by have q := ge_n (n := 3) (by omega) (by omega) c25; omega
          rw [e25] at hl
          refine lv_aload_n hx hb dX7_kinds_60 rfl (lv_at hl 0 rfl) ?_
          refine va_get (D := D) (ci := 7) (v := .ref ki) (C := RX7) (T := TX7) (N := 28) hx hb hts iX7 hown hK hP 0 rfl rfl 8 (by decide) f19 (fun _ h9 => h9) rfl dX7_kinds_61 ?_
          refine lv_iload_n hx hb dX7_kinds_64 rfl (lv_at hl 1 rfl) ?_
          refine lv_iload_n hx hb dX7_kinds_65 rfl (lv_at hl 2 rfl) ?_
          refine va_iast hx hb hK hP hD hS 1 0 rfl rfl (vp_in_nI (by omega) (by decide)) dX7_kinds_66 (fun H locs hP hD hS => ?_)
          rw [nI_clamp (n := j) (by omega)] at hP hD
          have hP : va_P D vwCl [(x, .inr (7, [.int fa, .int tr, .ref so, .ref sl, .ref ce, .int (nI n), .int bar, .int (nI tn), .ref ki, .ref si, .ref th, .ref ri, .int at_, .int rp, .ref rk, .ref rs, .ref kt, .ref kr, .int kn, .int rg, .ref ab, .int am, .ref bh, .int bm, .int br, .int (nI rn), .ref wa, .ref ra])), (ki, .inl (cI, 9, .inl (upd cu j (kd j)))), (si, .inl (cI, 9, .inl sd)), (wa, .inl (cI, 8, .inl rw_)), (ra, .inl (cI, 8, .inl rh))] H := hP
          have hD : va_D A [(x, .inr (7, [.int fa, .int tr, .ref so, .ref sl, .ref ce, .int (nI n), .int bar, .int (nI tn), .ref ki, .ref si, .ref th, .ref ri, .int at_, .int rp, .ref rk, .ref rs, .ref kt, .ref kr, .int kn, .int rg, .ref ab, .int am, .ref bh, .int bm, .int br, .int (nI rn), .ref wa, .ref ra])), (ki, .inl (cI, 9, .inl (upd cu j (kd j)))), (si, .inl (cI, 9, .inl sd)), (wa, .inl (cI, 8, .inl rw_)), (ra, .inl (cI, 8, .inl rh))] := hD
          have hP : va_P D vwCl [(x, .inr (7, [.int fa, .int tr, .ref so, .ref sl, .ref ce, .int (nI n), .int bar, .int (nI tn), .ref ki, .ref si, .ref th, .ref ri, .int at_, .int rp, .ref rk, .ref rs, .ref kt, .ref kr, .int kn, .int rg, .ref ab, .int am, .ref bh, .int bm, .int br, .int (nI rn), .ref wa, .ref ra])), (ki, .inl (cI, 9, .inl kd)), (si, .inl (cI, 9, .inl sd)), (wa, .inl (cI, 8, .inl rw_)), (ra, .inl (cI, 8, .inl rh))] H := by rw [upd_id hcu] at hP; exact hP
          have hD : va_D A [(x, .inr (7, [.int fa, .int tr, .ref so, .ref sl, .ref ce, .int (nI n), .int bar, .int (nI tn), .ref ki, .ref si, .ref th, .ref ri, .int at_, .int rp, .ref rk, .ref rs, .ref kt, .ref kr, .int kn, .int rg, .ref ab, .int am, .ref bh, .int bm, .int br, .int (nI rn), .ref wa, .ref ra])), (ki, .inl (cI, 9, .inl kd)), (si, .inl (cI, 9, .inl sd)), (wa, .inl (cI, 8, .inl rw_)), (ra, .inl (cI, 8, .inl rh))] := by rw [upd_id hcu] at hD; exact hD
          refine lv_iload_n hx hb dX7_kinds_67 rfl (lv_at hl 3 rfl) ?_
          exact W.iret (v := setW (kinM kd sd rw_ rh rn j) 3) hx hb hr (fun t ht hW => ⟨⟨_, (), rfl, by first | (simp [onQ_out b2]; done) | (rw [onQ_in hj (by omega)]), by rw [ht]; exact hP, va_K.moved hW.alike hK, hD⟩, hS.F ht⟩) hS.2.2 dX7_kinds_68
        · -- f25
          have l25 : i < 3 := by exact lt_n (n := 3) (by omega) (by omega) c25
          refine lv_aload_n hx hb dX7_kinds_28 rfl (lv_at hl 0 rfl) ?_
          refine va_get (D := D) (ci := 7) (v := .ref ki) (C := RX7) (T := TX7) (N := 28) hx hb hts iX7 hown hK hP 0 rfl rfl 8 (by decide) f19 (fun _ h9 => h9) rfl dX7_kinds_29 ?_
          refine lv_iload_n hx hb dX7_kinds_32 rfl (lv_at hl 1 rfl) ?_
          refine lv_iload hx hb dX7_kinds_33 (lv_at hl 4 rfl) ?_
          refine va_iast hx hb hK hP hD hS 1 0 rfl rfl (vp_in_nI (by omega) (by decide)) dX7_kinds_35 (fun H locs hP hD hS => ?_)
          rw [nI_clamp (n := j) (by omega)] at hP hD
          have hP : va_P D vwCl [(x, .inr (7, [.int fa, .int tr, .ref so, .ref sl, .ref ce, .int (nI n), .int bar, .int (nI tn), .ref ki, .ref si, .ref th, .ref ri, .int at_, .int rp, .ref rk, .ref rs, .ref kt, .ref kr, .int kn, .int rg, .ref ab, .int am, .ref bh, .int bm, .int br, .int (nI rn), .ref wa, .ref ra])), (ki, .inl (cI, 9, .inl (upd cu j (nI i)))), (si, .inl (cI, 9, .inl sd)), (wa, .inl (cI, 8, .inl rw_)), (ra, .inl (cI, 8, .inl rh))] H := hP
          have hD : va_D A [(x, .inr (7, [.int fa, .int tr, .ref so, .ref sl, .ref ce, .int (nI n), .int bar, .int (nI tn), .ref ki, .ref si, .ref th, .ref ri, .int at_, .int rp, .ref rk, .ref rs, .ref kt, .ref kr, .int kn, .int rg, .ref ab, .int am, .ref bh, .int bm, .int br, .int (nI rn), .ref wa, .ref ra])), (ki, .inl (cI, 9, .inl (upd cu j (nI i)))), (si, .inl (cI, 9, .inl sd)), (wa, .inl (cI, 8, .inl rw_)), (ra, .inl (cI, 8, .inl rh))] := hD
          have hP : va_P D vwCl [(x, .inr (7, [.int fa, .int tr, .ref so, .ref sl, .ref ce, .int (nI n), .int bar, .int (nI tn), .ref ki, .ref si, .ref th, .ref ri, .int at_, .int rp, .ref rk, .ref rs, .ref kt, .ref kr, .int kn, .int rg, .ref ab, .int am, .ref bh, .int bm, .int br, .int (nI rn), .ref wa, .ref ra])), (ki, .inl (cI, 9, .inl (upd kd j (nI i)))), (si, .inl (cI, 9, .inl sd)), (wa, .inl (cI, 8, .inl rw_)), (ra, .inl (cI, 8, .inl rh))] H := by rw [← upd_cu hcu]; exact hP
          have hD : va_D A [(x, .inr (7, [.int fa, .int tr, .ref so, .ref sl, .ref ce, .int (nI n), .int bar, .int (nI tn), .ref ki, .ref si, .ref th, .ref ri, .int at_, .int rp, .ref rk, .ref rs, .ref kt, .ref kr, .int kn, .int rg, .ref ab, .int am, .ref bh, .int bm, .int br, .int (nI rn), .ref wa, .ref ra])), (ki, .inl (cI, 9, .inl (upd kd j (nI i)))), (si, .inl (cI, 9, .inl sd)), (wa, .inl (cI, 8, .inl rw_)), (ra, .inl (cI, 8, .inl rh))] := by rw [← upd_cu hcu]; exact hD
          refine lv_iload_n hx hb dX7_kinds_36 rfl (lv_at hl 3 rfl) ?_
          refine lv_aload_n hx hb dX7_kinds_37 rfl (lv_at hl 0 rfl) ?_
          have hPc := hP.sub (ws' := [(x, .inr (7, [.int fa, .int tr, .ref so, .ref sl, .ref ce, .int (nI n), .int bar, .int (nI tn), .ref ki, .ref si, .ref th, .ref ri, .int at_, .int rp, .ref rk, .ref rs, .ref kt, .ref kr, .int kn, .int rg, .ref ab, .int am, .ref bh, .int bm, .int br, .int (nI rn), .ref wa, .ref ra])), (ki, .inl (cI, 9, .inl (upd kd j (nI i)))), (si, .inl (cI, 9, .inl sd)), (wa, .inl (cI, 8, .inl rw_)), (ra, .inl (cI, 8, .inl rh))]) [0, 1, 2, 3, 4] rfl
          refine vp_callSi (va_Run.run (va_runV (As := []) (rest := [.int (setW (kinM kd sd rw_ rh rn j) i)]) ⟨hx, hb, hml, hown, hts⟩ (c_X7_areSo l D cI cO x fa tr so sl ce n bar tn ki si th ri at_ rp rk rs kt kr kn rg ab am bh bm br rn wa ra (upd kd j (nI i)) sd rw_ rh (by assumption) (okK_u hok l25) (by assumption) (by assumption)) (cwV 0 hts gX7_kinds_X7_areSo rfl rfl rfl (by decide +kernel) ⟨Nat.le_of_ble_eq_true rfl, Nat.le_of_ble_eq_true rfl⟩) (preVR hPc hK hNw (va_recv hK hPc (ci := 7) (q0 := 0) rfl rfl)) rfl rfl hl.1 rfl (lv_room (Nat.le_of_ble_eq_true rfl)) dX7_kinds_38 ⟨Nat.zero_le _, Nat.zero_le _⟩)) (fun r38 w38 => ?_)
          by_cases b38 : soM (upd kd j (nI i)) sd rw_ rh rn 0 = true
          · -- y38
            obtain rfl := w38.1 b38
            have hpv : kinM kd sd rw_ rh rn j i = true := b38
            refine lv_if_eq (tgt := 51) hx hb dX7_kinds_41 (by decide) (fun h => absurd h (by decide)) (fun _ => ?_)
            refine lv_iconst (v := 1) hx hb dX7_kinds_44 (by decide) ?_
            refine lv_iload hx hb dX7_kinds_45 (lv_at hl 4 rfl) ?_
            refine lv_ishl hx hb dX7_kinds_47 ?_
            refine lv_goto (tgt := 52) hx hb dX7_kinds_48 (by decide) ?_
            refine lv_ior hx hb dX7_kinds_52 ?_
            refine lv_istore_n (lv' := [(3, .int ((setW (kinM kd sd rw_ rh rn j) i) ||| (1 <<< ((nI i) &&& 31)))), (0, .ref x), (1, .int (nI j)), (2, .int (kd j)), (4, .int (nI i))]) hx hb dX7_kinds_53 rfl hl (by decide) rfl (fun ls hl => ?_)
            refine lv_iinc (v := nI (i + 1)) (lv' := [(4, .int (nI (i + 1))), (3, .int ((setW (kinM kd sd rw_ rh rn j) i) ||| (1 <<< ((nI i) &&& 31)))), (0, .ref x), (1, .int (nI j)), (2, .int (kd j))]) hx hb dX7_kinds_54 hl (k := 4) rfl (nI_1 _) (by decide) rfl (fun ls hl => ?_)
            refine lv_goto (tgt := 22) hx hb dX7_kinds_57 (by decide) ?_
            have e22_3 : ((setW (kinM kd sd rw_ rh rn j) i) ||| (1 <<< ((nI i) &&& 31))) = setW (kinM kd sd rw_ rh rn j) (i + 1) := by simp [setW, hpv]
            have hl : lv_has ls 5 [(4, .int (nI (i + 1))), (3, .int (setW (kinM kd sd rw_ rh rn j) (i + 1))), (0, .ref x), (1, .int (nI j)), (2, .int (kd j))] := by rw [← e22_3]; exact hl
            exact ih22 (i + 1) (upd kd j (nI i)) (by omega) (fun k hk => by unfold upd; rw [if_neg hk]) (by omega) _ _ hP hD hS _ (lv_sub hl [2, 3, 4, 1, 0] rfl)
          · -- n38
            obtain rfl := w38.2 b38
            have hpv : kinM kd sd rw_ rh rn j i = false := by rw [Bool.not_eq_true] at b38; exact b38
            refine lv_if_eq (tgt := 51) hx hb dX7_kinds_41 (by decide) (fun _ => ?_) (fun h => absurd (by decide) h)
            refine lv_iconst (v := 0) hx hb dX7_kinds_51 (by decide) ?_
            refine lv_ior hx hb dX7_kinds_52 ?_
            refine lv_istore_n (lv' := [(3, .int ((setW (kinM kd sd rw_ rh rn j) i) ||| 0)), (0, .ref x), (1, .int (nI j)), (2, .int (kd j)), (4, .int (nI i))]) hx hb dX7_kinds_53 rfl hl (by decide) rfl (fun ls hl => ?_)
            refine lv_iinc (v := nI (i + 1)) (lv' := [(4, .int (nI (i + 1))), (3, .int ((setW (kinM kd sd rw_ rh rn j) i) ||| 0)), (0, .ref x), (1, .int (nI j)), (2, .int (kd j))]) hx hb dX7_kinds_54 hl (k := 4) rfl (nI_1 _) (by decide) rfl (fun ls hl => ?_)
            refine lv_goto (tgt := 22) hx hb dX7_kinds_57 (by decide) ?_
            have e22_3 : ((setW (kinM kd sd rw_ rh rn j) i) ||| 0) = setW (kinM kd sd rw_ rh rn j) (i + 1) := by simp [setW, hpv]
            have hl : lv_has ls 5 [(4, .int (nI (i + 1))), (3, .int (setW (kinM kd sd rw_ rh rn j) (i + 1))), (0, .ref x), (1, .int (nI j)), (2, .int (kd j))] := by rw [← e22_3]; exact hl
            exact ih22 (i + 1) (upd kd j (nI i)) (by omega) (fun k hk => by unfold upd; rw [if_neg hk]) (by omega) _ _ hP hD hS _ (lv_sub hl [2, 3, 4, 1, 0] rfl)
    exact lp22 _ 0 kd (by decide) (fun _ _ => rfl) (Nat.lt_succ_self _) _ _ hP hD hS _ (lv_sub hl [3, 4, 2, 1, 0] rfl)
  · -- n2
    obtain rfl := w2.2 b2
    refine lv_if_ne (tgt := 10) hx hb dX7_kinds_5 (by decide) (fun h => absurd (by decide) h) (fun _ => ?_)
    refine lv_iconst (v := -1) hx hb dX7_kinds_8 (by decide) ?_
    exact W.iret (v := -1) hx hb hr (fun t ht hW => ⟨⟨_, (), rfl, by first | (simp [onQ_out b2]; done) | (rw [onQ_in hj (by omega)]), by rw [ht]; exact hP, va_K.moved hW.alike hK, hD⟩, hS.F ht⟩) hS.2.2 dX7_kinds_9

set_option maxHeartbeats 4000000 in
set_option maxRecDepth 100000 in
theorem c_X7_pitched (l : Launch) (D : va_G) (cI cO : ClassId) (x : Nat) (fa : Int32) (tr : Int32) (so : Nat) (sl : Nat) (ce : Nat) (n : Nat) (bar : Int32) (tn : Nat) (ki : Nat) (si : Nat) (th : Nat) (ri : Nat) (at_ : Int32) (rp : Int32) (rk : Nat) (rs : Nat) (kt : Nat) (kr : Nat) (kn : Int32) (rg : Int32) (ab : Nat) (am : Int32) (bh : Nat) (bm : Int32) (br : Int32) (rn : Nat) (wa : Nat) (ra : Nat) (sd : Nat → Int32) (v : Int32) (kk : Int32) (hn : n ≤ 9) : Met l yX7_pitched wsX7_pitched ({ frames := 3, cells := 0, slots := 0, locals := 65 } : Room) (va_Pc [.ref x, .int v, .int kk] (wdR D cI cO [(x, .inr (7, [.int fa, .int tr, .ref so, .ref sl, .ref ce, .int (nI n), .int bar, .int (nI tn), .ref ki, .ref si, .ref th, .ref ri, .int at_, .int rp, .ref rk, .ref rs, .ref kt, .ref kr, .int kn, .int rg, .ref ab, .int am, .ref bh, .int bm, .int br, .int (nI rn), .ref wa, .ref ra])), (si, .inl (cI, 9, .inl sd))])) (vp_Si (fun r => r = (pitR n sd v kk))) 0 0 (fun _ => False) := by
  refine Met.ofW (cc := cX7_pitched) (maxL := 5) (ret := (some .int)) (by decide) rfl ?_
  intro p e s m args below meth c s₁ B hml hv
  obtain ⟨rfl, hP, hK, hNw⟩ := hv
  have hx := B.exec
  have hb := B.bytes
  have hr := B.returns
  have hts := atoms_spec (ws := wsX7_pitched) B.pre
  have hown : s.vm.findClass RX7 = some m.cls := findClass_of_methodNamed B.named
  have hlocks := B.notSynchronized
  have f65 := hts (.fieldLink RX7 65 "StruckThreesModel" "people" "I") (by decide +kernel)
  have iX7 : ∀ w ∈ wsX70, w ∈ wsX7_pitched := by decide +kernel
  have hP : va_P D vwCl [(x, .inr (7, [.int fa, .int tr, .ref so, .ref sl, .ref ce, .int (nI n), .int bar, .int (nI tn), .ref ki, .ref si, .ref th, .ref ri, .int at_, .int rp, .ref rk, .ref rs, .ref kt, .ref kr, .int kn, .int rg, .ref ab, .int am, .ref bh, .int bm, .int br, .int (nI rn), .ref wa, .ref ra])), (si, .inl (cI, 9, .inl sd))] s.heap := hP
  have hl := lv_entry ([.ref x, .int v, .int kk]) (n := 5) (Nat.le_of_ble_eq_true rfl)
  rw [lg_entry_eq]
  generalize (lg_sl ([.ref x, .int v, .int kk]) ++ List.replicate (5 - (lg_sl ([.ref x, .int v, .int kk])).length) Slot.unset).toArray = ls at hl ⊢
  have hl : lv_has ls 5 [(0, .ref x), (1, .int v), (2, .int kk)] := hl
  have hb2 := bnd_t hn
  have hs2 := sh1 n (by omega)
  refine lv_iload_n hx hb dX7_pitched_0 rfl (lv_at hl 1 rfl) ?_
  refine lv_iconst (v := 3) hx hb dX7_pitched_1 (by decide) ?_
  refine lv_bipush (v := 27) hx hb dX7_pitched_2 (by decide) ?_
  have hPc := hP.sub (ws' := []) [] rfl
  refine vp_callSi (va_Run.run (va_runS (As := [.int v, .int 3, .int 27]) (rest := []) ⟨hx, hb, hml, hown, hts⟩ (c_X7_within l D cI cO v 3 27) (va_cwS 3 hts gX7_pitched_X7_within rfl rfl rfl (by decide +kernel) ⟨Nat.le_of_ble_eq_true rfl, Nat.le_of_ble_eq_true rfl⟩) (preSR hPc hK hNw) rfl rfl hl.1 rfl (lv_room (Nat.le_of_ble_eq_true rfl)) dX7_pitched_4 ⟨Nat.zero_le _, Nat.zero_le _⟩)) (fun r4 w4 => ?_)
  by_cases b4 : lstT v 3 27 = true
  · -- y4
    obtain rfl := w4.1 b4
    have hv1 := of_decide_eq_true b4
    refine lv_if_eq (tgt := 20) hx hb dX7_pitched_7 (by decide) (fun h => absurd h (by decide)) (fun _ => ?_)
    refine lv_iload_n hx hb dX7_pitched_10 rfl (lv_at hl 2 rfl) ?_
    refine lv_iconst (v := -1) hx hb dX7_pitched_11 (by decide) ?_
    refine lv_bipush (v := 83) hx hb dX7_pitched_12 (by decide) ?_
    have hPc := hP.sub (ws' := []) [] rfl
    refine vp_callSi (va_Run.run (va_runS (As := [.int kk, .int (-1), .int 83]) (rest := []) ⟨hx, hb, hml, hown, hts⟩ (c_X7_within l D cI cO kk (-1) 83) (va_cwS 3 hts gX7_pitched_X7_within rfl rfl rfl (by decide +kernel) ⟨Nat.le_of_ble_eq_true rfl, Nat.le_of_ble_eq_true rfl⟩) (preSR hPc hK hNw) rfl rfl hl.1 rfl (lv_room (Nat.le_of_ble_eq_true rfl)) dX7_pitched_14 ⟨Nat.zero_le _, Nat.zero_le _⟩)) (fun r14 w14 => ?_)
    by_cases b14 : lstT kk (-1) 83 = true
    · -- y14
      obtain rfl := w14.1 b14
      have hv3 := of_decide_eq_true b14
      have hyes : ¬ v < 3 ∧ ¬ 27 < v ∧ ¬ kk < -1 ∧ kk ≤ 83 := ⟨hv1.1, hv1.2, hv3.1, nlt_le hv3.2⟩
      refine lv_if_ne (tgt := 23) hx hb dX7_pitched_17 (by decide) (fun _ => ?_) (fun h => absurd h (by decide))
      refine lv_aload_n hx hb dX7_pitched_23 rfl (lv_at hl 0 rfl) ?_
      refine va_get (D := D) (ci := 7) (v := .int (nI n)) (C := RX7) (T := TX7) (N := 28) hx hb hts iX7 hown hK hP 0 rfl rfl 5 (by decide) f65 (fun _ h9 => h9) rfl dX7_pitched_24 ?_
      refine lv_if_ne (tgt := 33) hx hb dX7_pitched_27 (by decide) (fun c27 => ?_) (fun c27 => ?_)
      · -- t27
        refine lv_iconst (v := 0) hx hb dX7_pitched_33 (by decide) ?_
        refine lv_istore_n (lv' := [(3, .int 0), (0, .ref x), (1, .int v), (2, .int kk)]) hx hb dX7_pitched_34 rfl hl (by decide) rfl (fun ls hl => ?_)
        refine lv_iconst (v := 0) hx hb dX7_pitched_35 (by decide) ?_
        refine lv_istore (lv' := [(4, .int 0), (3, .int 0), (0, .ref x), (1, .int v), (2, .int kk)]) hx hb dX7_pitched_36 hl (by decide) rfl (fun ls hl => ?_)
        have lp38 : ∀ (fu38 : Nat) (i : Nat) (mn : Int32) (hi : i ≤ 2 ^ n) (hq : pitW n sd v kk (2 ^ n - i) i mn = pitW n sd v kk (2 ^ n) 0 0) (hm38 : 2 ^ n - i < fu38) (ls : Array Slot) (hl : lv_has ls 5 [(0, .ref x), (1, .int v), (2, .int kk), (3, .int mn), (4, .int (nI i))]), W p l e (headSpec wsX7_pitched ({ frames := 3, cells := 0, slots := 0, locals := 65 } : Room)).room s m ([.ref x, .int v, .int kk]).toArray below meth c s.heap [] 0 0 (MQ below (vp_Si (fun r => r = (pitR n sd v kk))) ([.ref x, .int v, .int kk]).toArray s 0 0 (fun _ => False)) (F0 m 38 ls []) := by
          intro fu38
          induction fu38 with
          | zero =>
            intros; omega
          | succ fu38 ih38 =>
            intro i mn hi hq hm38 ls hl
            refine lv_iload hx hb dX7_pitched_38 (lv_at hl 4 rfl) ?_
            refine lv_iconst (v := 1) hx hb dX7_pitched_40 (by decide) ?_
            refine lv_aload_n hx hb dX7_pitched_41 rfl (lv_at hl 0 rfl) ?_
            refine va_get (D := D) (ci := 7) (v := .int (nI n)) (C := RX7) (T := TX7) (N := 28) hx hb hts iX7 hown hK hP 0 rfl rfl 5 (by decide) f65 (fun _ h9 => h9) rfl dX7_pitched_42 ?_
            refine lv_ishl hx hb dX7_pitched_45 ?_
            refine tp_i (y := nI (2 ^ n)) (hs2) ?_
            refine lv_icmp_ge (tgt := 85) hx hb dX7_pitched_46 (by decide) (fun c46 => ?_) (fun c46 => ?_)
            · -- t46
              have e46 : i = 2 ^ n := by have q := ge_n (by omega) (by omega) c46; omega
              rw [e46] at hl
              refine lv_iload_n hx hb dX7_pitched_85 rfl (lv_at hl 2 rfl) ?_
              refine lv_iconst (v := -1) hx hb dX7_pitched_86 (by decide) ?_
              refine lv_icmp_ne (tgt := 94) hx hb dX7_pitched_87 (by decide) (fun c87 => ?_) (fun c87 => ?_)
              · -- t87
                refine lv_bipush (v := -9) hx hb dX7_pitched_94 (by decide) ?_
                exact W.iret (v := -9) hx hb hr (fun t ht hW => ⟨_, rfl, by unfold pitR; rw [if_pos hyes, if_neg c27, ← hq, e46, Nat.sub_self]; simp [pitW, *], ht⟩) (fun _ h => absurd h List.not_mem_nil) dX7_pitched_96
              · -- f87
                refine lv_iload_n hx hb dX7_pitched_90 rfl (lv_at hl 3 rfl) ?_
                refine lv_goto (tgt := 96) hx hb dX7_pitched_91 (by decide) ?_
                exact W.iret (v := mn) hx hb hr (fun t ht hW => ⟨_, rfl, by unfold pitR; rw [if_pos hyes, if_neg c27, ← hq, e46, Nat.sub_self]; simp [pitW, *], ht⟩) (fun _ h => absurd h List.not_mem_nil) dX7_pitched_96
            · -- f46
              have l46 : i < 2 ^ n := lt_n (by omega) (by omega) c46
              refine lv_aload_n hx hb dX7_pitched_49 rfl (lv_at hl 0 rfl) ?_
              refine lv_iload hx hb dX7_pitched_50 (lv_at hl 4 rfl) ?_
              have hPc := hP.sub (ws' := [(x, .inr (7, [.int fa, .int tr, .ref so, .ref sl, .ref ce, .int (nI n), .int bar, .int (nI tn), .ref ki, .ref si, .ref th, .ref ri, .int at_, .int rp, .ref rk, .ref rs, .ref kt, .ref kr, .int kn, .int rg, .ref ab, .int am, .ref bh, .int bm, .int br, .int (nI rn), .ref wa, .ref ra])), (si, .inl (cI, 9, .inl sd))]) [0, 1] rfl
              refine vp_callSi (va_Run.run (va_runV (As := [.int (nI i)]) (rest := []) ⟨hx, hb, hml, hown, hts⟩ (c_X7_canHang l D cI cO x fa tr so sl ce n bar tn ki si th ri at_ rp rk rs kt kr kn rg ab am bh bm br rn wa ra sd i (by assumption) (by omega)) (cwV 1 hts gX7_pitched_X7_canHang rfl rfl rfl (by decide +kernel) ⟨Nat.le_of_ble_eq_true rfl, Nat.le_of_ble_eq_true rfl⟩) (preVR hPc hK hNw (va_recv hK hPc (ci := 7) (q0 := 0) rfl rfl)) rfl rfl hl.1 rfl (lv_room (Nat.le_of_ble_eq_true rfl)) dX7_pitched_52 ⟨Nat.zero_le _, Nat.zero_le _⟩)) (fun r52 w52 => ?_)
              by_cases b52 : canH n sd (nI i) = true
              · -- y52
                obtain rfl := w52.1 b52
                refine lv_if_eq (tgt := 79) hx hb dX7_pitched_55 (by decide) (fun h => absurd h (by decide)) (fun _ => ?_)
                refine lv_aload_n hx hb dX7_pitched_58 rfl (lv_at hl 0 rfl) ?_
                refine lv_iload hx hb dX7_pitched_59 (lv_at hl 4 rfl) ?_
                have hPc := hP.sub (ws' := [(x, .inr (7, [.int fa, .int tr, .ref so, .ref sl, .ref ce, .int (nI n), .int bar, .int (nI tn), .ref ki, .ref si, .ref th, .ref ri, .int at_, .int rp, .ref rk, .ref rs, .ref kt, .ref kr, .int kn, .int rg, .ref ab, .int am, .ref bh, .int bm, .int br, .int (nI rn), .ref wa, .ref ra])), (si, .inl (cI, 9, .inl sd))]) [0, 1] rfl
                refine vp_callSi (va_Run.run (va_runV (As := [.int (nI i)]) (rest := []) ⟨hx, hb, hml, hown, hts⟩ (c_X7_pitchOf l D cI cO x fa tr so sl ce n bar tn ki si th ri at_ rp rk rs kt kr kn rg ab am bh bm br rn wa ra sd (nI i) (by assumption)) (cwV 1 hts gX7_pitched_X7_pitchOf rfl rfl rfl (by decide +kernel) ⟨Nat.le_of_ble_eq_true rfl, Nat.le_of_ble_eq_true rfl⟩) (preVR hPc hK hNw (va_recv hK hPc (ci := 7) (q0 := 0) rfl rfl)) rfl rfl hl.1 rfl (lv_room (Nat.le_of_ble_eq_true rfl)) dX7_pitched_61 ⟨Nat.zero_le _, Nat.zero_le _⟩)) (fun r61 w61 => ?_)
                obtain rfl := w61
                refine lv_iload_n hx hb dX7_pitched_64 rfl (lv_at hl 1 rfl) ?_
                refine lv_icmp_ne (tgt := 79) hx hb dX7_pitched_65 (by decide) (fun c65 => ?_) (fun c65 => ?_)
                · -- t65
                  refine lv_iinc (v := nI (i + 1)) (lv' := [(4, .int (nI (i + 1))), (0, .ref x), (1, .int v), (2, .int kk), (3, .int mn)]) hx hb dX7_pitched_79 hl (k := 4) rfl (nI_1 _) (by decide) rfl (fun ls hl => ?_)
                  refine lv_goto (tgt := 38) hx hb dX7_pitched_82 (by decide) ?_
                  exact ih38 (i + 1) mn (by omega) (by rw [← hq, show 2 ^ n - i = (2 ^ n - (i + 1)) + 1 by omega, pitW]; simp [*]) (by omega) _ (lv_sub hl [1, 2, 3, 4, 0] rfl)
                · -- f65
                  refine lv_iload_n hx hb dX7_pitched_68 rfl (lv_at hl 3 rfl) ?_
                  refine lv_iload_n hx hb dX7_pitched_69 rfl (lv_at hl 2 rfl) ?_
                  refine lv_icmp_ne (tgt := 76) hx hb dX7_pitched_70 (by decide) (fun c70 => ?_) (fun c70 => ?_)
                  · -- t70
                    refine lv_iinc (v := mn + 1) (lv' := [(3, .int (mn + 1)), (0, .ref x), (1, .int v), (2, .int kk), (4, .int (nI i))]) hx hb dX7_pitched_76 hl (k := 3) rfl (rfl) (by decide) rfl (fun ls hl => ?_)
                    refine lv_iinc (v := nI (i + 1)) (lv' := [(4, .int (nI (i + 1))), (3, .int (mn + 1)), (0, .ref x), (1, .int v), (2, .int kk)]) hx hb dX7_pitched_79 hl (k := 4) rfl (nI_1 _) (by decide) rfl (fun ls hl => ?_)
                    refine lv_goto (tgt := 38) hx hb dX7_pitched_82 (by decide) ?_
                    exact ih38 (i + 1) (mn + 1) (by omega) (by rw [← hq, show 2 ^ n - i = (2 ^ n - (i + 1)) + 1 by omega, pitW]; simp [*]) (by omega) _ (lv_sub hl [2, 3, 4, 1, 0] rfl)
                  · -- f70
                    refine lv_iload hx hb dX7_pitched_73 (lv_at hl 4 rfl) ?_
                    exact W.iret (v := nI i) hx hb hr (fun t ht hW => ⟨_, rfl, by unfold pitR; rw [if_pos hyes, if_neg c27, ← hq, show 2 ^ n - i = (2 ^ n - (i + 1)) + 1 by omega, pitW]; simp [*], ht⟩) (fun _ h => absurd h List.not_mem_nil) dX7_pitched_75
              · -- n52
                obtain rfl := w52.2 b52
                refine lv_if_eq (tgt := 79) hx hb dX7_pitched_55 (by decide) (fun _ => ?_) (fun h => absurd (by decide) h)
                refine lv_iinc (v := nI (i + 1)) (lv' := [(4, .int (nI (i + 1))), (0, .ref x), (1, .int v), (2, .int kk), (3, .int mn)]) hx hb dX7_pitched_79 hl (k := 4) rfl (nI_1 _) (by decide) rfl (fun ls hl => ?_)
                refine lv_goto (tgt := 38) hx hb dX7_pitched_82 (by decide) ?_
                exact ih38 (i + 1) mn (by omega) (by rw [← hq, show 2 ^ n - i = (2 ^ n - (i + 1)) + 1 by omega, pitW]; simp [*]) (by omega) _ (lv_sub hl [1, 2, 3, 4, 0] rfl)
        exact lp38 _ 0 0 (Nat.zero_le _) (rfl) (Nat.lt_succ_self _) _ (lv_sub hl [2, 3, 4, 1, 0] rfl)
      · -- f27
        refine lv_bipush (v := -3) hx hb dX7_pitched_30 (by decide) ?_
        exact W.iret (v := -3) hx hb hr (fun t ht hW => ⟨_, rfl, by unfold pitR; rw [if_pos hyes, if_pos c27], ht⟩) (fun _ h => absurd h List.not_mem_nil) dX7_pitched_32
    · -- n14
      obtain rfl := w14.2 b14
      have hno : ¬ (¬ v < 3 ∧ ¬ 27 < v ∧ ¬ kk < -1 ∧ kk ≤ 83) := fun q => b14 (decide_eq_true ⟨q.2.2.1, fun z => le_nlt q.2.2.2 z⟩)
      refine lv_if_ne (tgt := 23) hx hb dX7_pitched_17 (by decide) (fun h => absurd (by decide) h) (fun _ => ?_)
      refine lv_bipush (v := -2) hx hb dX7_pitched_20 (by decide) ?_
      exact W.iret (v := -2) hx hb hr (fun t ht hW => ⟨_, rfl, by exact (if_neg hno).symm, ht⟩) (fun _ h => absurd h List.not_mem_nil) dX7_pitched_22
  · -- n4
    obtain rfl := w4.2 b4
    have hno : ¬ (¬ v < 3 ∧ ¬ 27 < v ∧ ¬ kk < -1 ∧ kk ≤ 83) := fun q => b4 (decide_eq_true ⟨q.1, q.2.1⟩)
    refine lv_if_eq (tgt := 20) hx hb dX7_pitched_7 (by decide) (fun _ => ?_) (fun h => absurd (by decide) h)
    refine lv_bipush (v := -2) hx hb dX7_pitched_20 (by decide) ?_
    exact W.iret (v := -2) hx hb hr (fun t ht hW => ⟨_, rfl, by exact (if_neg hno).symm, ht⟩) (fun _ h => absurd h List.not_mem_nil) dX7_pitched_22

set_option maxHeartbeats 4000000 in
set_option maxRecDepth 100000 in
theorem c_X7_rather (l : Launch) (D : va_G) (cI cO : ClassId) (x : Nat) (fa : Int32) (tr : Int32) (so : Nat) (sl : Nat) (ce : Nat) (n : Nat) (bar : Int32) (tn : Nat) (ki : Nat) (si : Nat) (th : Nat) (ri : Nat) (at_ : Int32) (rp : Int32) (rk : Nat) (rs : Nat) (kt : Nat) (kr : Nat) (kn : Int32) (rg : Int32) (ab : Nat) (am : Int32) (bh : Nat) (bm : Int32) (br : Int32) (rn : Nat) (wa : Nat) (ra : Nat) (kd : Nat → Int32) (sd : Nat → Int32) (ts : Nat → Int32) (hn : n ≤ 9) (hk3 : ∀ j, j < n → kd j = 0 ∨ kd j = 1 ∨ kd j = 2) (ht3 : tn ≤ 3) : Met l yX7_rather wsX7_rather ({ frames := 3, cells := 0, slots := 0, locals := 66 } : Room) (va_Pc [.ref x] (wdR D cI cO [(x, .inr (7, [.int fa, .int tr, .ref so, .ref sl, .ref ce, .int (nI n), .int bar, .int (nI tn), .ref ki, .ref si, .ref th, .ref ri, .int at_, .int rp, .ref rk, .ref rs, .ref kt, .ref kr, .int kn, .int rg, .ref ab, .int am, .ref bh, .int bm, .int br, .int (nI rn), .ref wa, .ref ra])), (ki, .inl (cI, 9, .inl kd)), (si, .inl (cI, 9, .inl sd)), (th, .inl (cI, 3, .inl ts))])) (vp_Si (fun r => r = (if nI n = 0 then -3 else ratM n kd sd tn ts (2 ^ n) 0))) 0 0 (fun _ => False) := by
  refine Met.ofW (cc := cX7_rather) (maxL := 4) (ret := (some .int)) (by decide) rfl ?_
  intro p e s m args below meth c s₁ B hml hv
  obtain ⟨rfl, hP, hK, hNw⟩ := hv
  have hx := B.exec
  have hb := B.bytes
  have hr := B.returns
  have hts := atoms_spec (ws := wsX7_rather) B.pre
  have hown : s.vm.findClass RX7 = some m.cls := findClass_of_methodNamed B.named
  have hlocks := B.notSynchronized
  have f65 := hts (.fieldLink RX7 65 "StruckThreesModel" "people" "I") (by decide +kernel)
  have iX7 : ∀ w ∈ wsX70, w ∈ wsX7_rather := by decide +kernel
  have hP : va_P D vwCl [(x, .inr (7, [.int fa, .int tr, .ref so, .ref sl, .ref ce, .int (nI n), .int bar, .int (nI tn), .ref ki, .ref si, .ref th, .ref ri, .int at_, .int rp, .ref rk, .ref rs, .ref kt, .ref kr, .int kn, .int rg, .ref ab, .int am, .ref bh, .int bm, .int br, .int (nI rn), .ref wa, .ref ra])), (ki, .inl (cI, 9, .inl kd)), (si, .inl (cI, 9, .inl sd)), (th, .inl (cI, 3, .inl ts))] s.heap := hP
  have hl := lv_entry ([.ref x]) (n := 4) (Nat.le_of_ble_eq_true rfl)
  rw [lg_entry_eq]
  generalize (lg_sl ([.ref x]) ++ List.replicate (4 - (lg_sl ([.ref x])).length) Slot.unset).toArray = ls at hl ⊢
  have hl : lv_has ls 4 [(0, .ref x)] := hl
  have hb2 := bnd_t hn
  have hs2 := sh1 n (by omega)
  refine lv_aload_n hx hb dX7_rather_0 rfl (lv_at hl 0 rfl) ?_
  refine va_get (D := D) (ci := 7) (v := .int (nI n)) (C := RX7) (T := TX7) (N := 28) hx hb hts iX7 hown hK hP 0 rfl rfl 5 (by decide) f65 (fun _ h9 => h9) rfl dX7_rather_1 ?_
  refine lv_if_ne (tgt := 10) hx hb dX7_rather_4 (by decide) (fun c4 => ?_) (fun c4 => ?_)
  · -- t4
    refine lv_iconst (v := 0) hx hb dX7_rather_10 (by decide) ?_
    refine lv_istore_n (lv' := [(1, .int 0), (0, .ref x)]) hx hb dX7_rather_11 rfl hl (by decide) rfl (fun ls hl => ?_)
    have lp12 : ∀ (fu12 : Nat) (i : Nat) (hi : i ≤ 2 ^ n) (hq : ratM n kd sd tn ts (2 ^ n - i) i = ratM n kd sd tn ts (2 ^ n) 0) (hm12 : 2 ^ n - i < fu12) (ls : Array Slot) (hl : lv_has ls 4 [(0, .ref x), (1, .int (nI i))]), W p l e (headSpec wsX7_rather ({ frames := 3, cells := 0, slots := 0, locals := 66 } : Room)).room s m ([.ref x]).toArray below meth c s.heap [] 0 0 (MQ below (vp_Si (fun r => r = (if nI n = 0 then -3 else ratM n kd sd tn ts (2 ^ n) 0))) ([.ref x]).toArray s 0 0 (fun _ => False)) (F0 m 12 ls []) := by
      intro fu12
      induction fu12 with
      | zero =>
        intros; omega
      | succ fu12 ih12 =>
        intro i hi hq hm12 ls hl
        refine lv_iload_n hx hb dX7_rather_12 rfl (lv_at hl 1 rfl) ?_
        refine lv_iconst (v := 1) hx hb dX7_rather_13 (by decide) ?_
        refine lv_aload_n hx hb dX7_rather_14 rfl (lv_at hl 0 rfl) ?_
        refine va_get (D := D) (ci := 7) (v := .int (nI n)) (C := RX7) (T := TX7) (N := 28) hx hb hts iX7 hown hK hP 0 rfl rfl 5 (by decide) f65 (fun _ h9 => h9) rfl dX7_rather_15 ?_
        refine lv_ishl hx hb dX7_rather_18 ?_
        refine tp_i (y := nI (2 ^ n)) (hs2) ?_
        refine lv_icmp_ge (tgt := 87) hx hb dX7_rather_19 (by decide) (fun c19 => ?_) (fun c19 => ?_)
        · -- t19
          have e19 : i = 2 ^ n := by have q := ge_n (by omega) (by omega) c19; omega
          rw [e19] at hl
          refine lv_bipush (v := -9) hx hb dX7_rather_87 (by decide) ?_
          exact W.iret (v := -9) hx hb hr (fun t ht hW => ⟨_, rfl, by rw [if_neg c4, ← hq, e19, Nat.sub_self]; rfl, ht⟩) (fun _ h => absurd h List.not_mem_nil) dX7_rather_89
        · -- f19
          have l19 : i < 2 ^ n := lt_n (by omega) (by omega) c19
          refine lv_aload_n hx hb dX7_rather_22 rfl (lv_at hl 0 rfl) ?_
          refine lv_iload_n hx hb dX7_rather_23 rfl (lv_at hl 1 rfl) ?_
          have hPc := hP.sub (ws' := [(x, .inr (7, [.int fa, .int tr, .ref so, .ref sl, .ref ce, .int (nI n), .int bar, .int (nI tn), .ref ki, .ref si, .ref th, .ref ri, .int at_, .int rp, .ref rk, .ref rs, .ref kt, .ref kr, .int kn, .int rg, .ref ab, .int am, .ref bh, .int bm, .int br, .int (nI rn), .ref wa, .ref ra])), (si, .inl (cI, 9, .inl sd))]) [0, 2] rfl
          refine vp_callSi (va_Run.run (va_runV (As := [.int (nI i)]) (rest := []) ⟨hx, hb, hml, hown, hts⟩ (c_X7_canHang l D cI cO x fa tr so sl ce n bar tn ki si th ri at_ rp rk rs kt kr kn rg ab am bh bm br rn wa ra sd i (by assumption) (by omega)) (cwV 1 hts gX7_rather_X7_canHang rfl rfl rfl (by decide +kernel) ⟨Nat.le_of_ble_eq_true rfl, Nat.le_of_ble_eq_true rfl⟩) (preVR hPc hK hNw (va_recv hK hPc (ci := 7) (q0 := 0) rfl rfl)) rfl rfl hl.1 rfl (lv_room (Nat.le_of_ble_eq_true rfl)) dX7_rather_24 ⟨Nat.zero_le _, Nat.zero_le _⟩)) (fun r24 w24 => ?_)
          by_cases b24 : canH n sd (nI i) = true
          · -- y24
            obtain rfl := w24.1 b24
            refine lv_istore_n (lv' := [(2, .int 1), (0, .ref x), (1, .int (nI i))]) hx hb dX7_rather_27 rfl hl (by decide) rfl (fun ls hl => ?_)
            refine lv_iconst (v := 0) hx hb dX7_rather_28 (by decide) ?_
            refine lv_istore_n (lv' := [(3, .int 0), (2, .int 1), (0, .ref x), (1, .int (nI i))]) hx hb dX7_rather_29 rfl hl (by decide) rfl (fun ls hl => ?_)
            have lp30 : ∀ (fu30 : Nat) (p_ : Nat) (hp : p_ ≤ n) (hm30 : n - p_ < fu30) (ls : Array Slot) (hl : lv_has ls 4 [(0, .ref x), (1, .int (nI i)), (2, .int (bI (raW n kd sd tn ts (nI i) p_))), (3, .int (nI p_))]), W p l e (headSpec wsX7_rather ({ frames := 3, cells := 0, slots := 0, locals := 66 } : Room)).room s m ([.ref x]).toArray below meth c s.heap [] 0 0 (MQ below (vp_Si (fun r => r = (if nI n = 0 then -3 else ratM n kd sd tn ts (2 ^ n) 0))) ([.ref x]).toArray s 0 0 (fun _ => False)) (F0 m 30 ls []) := by
              intro fu30
              induction fu30 with
              | zero =>
                intros; omega
              | succ fu30 ih30 =>
                intro p_ hp hm30 ls hl
                refine lv_iload_n hx hb dX7_rather_30 rfl (lv_at hl 3 rfl) ?_
                refine lv_aload_n hx hb dX7_rather_31 rfl (lv_at hl 0 rfl) ?_
                refine va_get (D := D) (ci := 7) (v := .int (nI n)) (C := RX7) (T := TX7) (N := 28) hx hb hts iX7 hown hK hP 0 rfl rfl 5 (by decide) f65 (fun _ h9 => h9) rfl dX7_rather_32 ?_
                refine lv_icmp_ge (tgt := 75) hx hb dX7_rather_35 (by decide) (fun c35 => ?_) (fun c35 => ?_)
                · -- t35
                  have e35 : p_ = n := by have q := ge_n (by omega) (by omega) c35; omega
                  rw [e35] at hl
                  refine lv_iload_n hx hb dX7_rather_75 rfl (lv_at hl 2 rfl) ?_
                  refine lv_if_eq (tgt := 81) hx hb dX7_rather_76 (by decide) (fun c76 => ?_) (fun c76 => ?_)
                  · -- t76
                    have hb0 : ¬ raW n kd sd tn ts (nI i) n = true := by intro q; rw [bI, if_pos q] at c76; exact absurd c76 (by decide)
                    refine lv_iinc (v := nI (i + 1)) (lv' := [(1, .int (nI (i + 1))), (0, .ref x), (2, .int (bI (raW n kd sd tn ts (nI i) n))), (3, .int (nI n))]) hx hb dX7_rather_81 hl (k := 1) rfl (nI_1 _) (by decide) rfl (fun ls hl => ?_)
                    refine lv_goto (tgt := 12) hx hb dX7_rather_84 (by decide) ?_
                    exact ih12 (i + 1) (by omega) (by rw [← hq, show 2 ^ n - i = (2 ^ n - (i + 1)) + 1 by omega, ratM, if_neg hb0]) (by omega) _ (lv_sub hl [1, 0] rfl)
                  · -- f76
                    have hb0 : raW n kd sd tn ts (nI i) n = true := by rw [← Bool.not_eq_false]; intro q; rw [bI, q] at c76; exact c76 rfl
                    refine lv_iload_n hx hb dX7_rather_79 rfl (lv_at hl 1 rfl) ?_
                    exact W.iret (v := nI i) hx hb hr (fun t ht hW => ⟨_, rfl, by rw [if_neg c4, ← hq, show 2 ^ n - i = (2 ^ n - (i + 1)) + 1 by omega, ratM, if_pos hb0], ht⟩) (fun _ h => absurd h List.not_mem_nil) dX7_rather_80
                · -- f35
                  have l35 : p_ < n := lt_n (by omega) (by omega) c35
                  refine lv_iload_n hx hb dX7_rather_38 rfl (lv_at hl 2 rfl) ?_
                  refine lv_if_eq (tgt := 67) hx hb dX7_rather_39 (by decide) (fun c39 => ?_) (fun c39 => ?_)
                  · -- t39
                    have hb0 : raW n kd sd tn ts (nI i) p_ = false := by rw [← Bool.not_eq_true]; intro q; rw [bI, if_pos q] at c39; exact absurd c39 (by decide)
                    refine lv_iconst (v := 0) hx hb dX7_rather_67 (by decide) ?_
                    refine lv_istore_n (lv' := [(2, .int 0), (0, .ref x), (1, .int (nI i)), (3, .int (nI p_))]) hx hb dX7_rather_68 rfl hl (by decide) rfl (fun ls hl => ?_)
                    refine lv_iinc (v := nI (p_ + 1)) (lv' := [(3, .int (nI (p_ + 1))), (2, .int 0), (0, .ref x), (1, .int (nI i))]) hx hb dX7_rather_69 hl (k := 3) rfl (nI_1 _) (by decide) rfl (fun ls hl => ?_)
                    refine lv_goto (tgt := 30) hx hb dX7_rather_72 (by decide) ?_
                    have e30_2 : 0 = bI (raW n kd sd tn ts (nI i) (p_ + 1)) := by simp [raW, bI, *]
                    have hl : lv_has ls 4 [(3, .int (nI (p_ + 1))), (2, .int (bI (raW n kd sd tn ts (nI i) (p_ + 1)))), (0, .ref x), (1, .int (nI i))] := by rw [← e30_2]; exact hl
                    exact ih30 (p_ + 1) (by omega) (by omega) _ (lv_sub hl [2, 3, 1, 0] rfl)
                  · -- f39
                    have hb0 : raW n kd sd tn ts (nI i) p_ = true := by rw [← Bool.not_eq_false]; intro q; rw [bI, q] at c39; exact c39 rfl
                    refine lv_iload_n hx hb dX7_rather_42 rfl (lv_at hl 1 rfl) ?_
                    refine lv_iload_n hx hb dX7_rather_43 rfl (lv_at hl 3 rfl) ?_
                    have hPc := hP.sub (ws' := []) [] rfl
                    refine vp_callSi (va_Run.run (va_runS (As := [.int (nI i), .int (nI p_)]) (rest := []) ⟨hx, hb, hml, hown, hts⟩ (c_X7_isOf l D cI cO (nI i) p_ (by omega)) (va_cwS 2 hts gX7_rather_X7_isOf rfl rfl rfl (by decide +kernel) ⟨Nat.le_of_ble_eq_true rfl, Nat.le_of_ble_eq_true rfl⟩) (preSR hPc hK hNw) rfl rfl hl.1 rfl (lv_room (Nat.le_of_ble_eq_true rfl)) dX7_rather_44 ⟨Nat.zero_le _, Nat.zero_le _⟩)) (fun r44 w44 => ?_)
                    by_cases b44 : bt (nI i) p_ = true
                    · -- y44
                      obtain rfl := w44.1 b44
                      refine lv_if_eq (tgt := 63) hx hb dX7_rather_47 (by decide) (fun h => absurd h (by decide)) (fun _ => ?_)
                      refine lv_aload_n hx hb dX7_rather_50 rfl (lv_at hl 0 rfl) ?_
                      refine lv_iload_n hx hb dX7_rather_51 rfl (lv_at hl 1 rfl) ?_
                      have hPc := hP.sub (ws' := [(x, .inr (7, [.int fa, .int tr, .ref so, .ref sl, .ref ce, .int (nI n), .int bar, .int (nI tn), .ref ki, .ref si, .ref th, .ref ri, .int at_, .int rp, .ref rk, .ref rs, .ref kt, .ref kr, .int kn, .int rg, .ref ab, .int am, .ref bh, .int bm, .int br, .int (nI rn), .ref wa, .ref ra])), (ki, .inl (cI, 9, .inl kd)), (si, .inl (cI, 9, .inl sd))]) [0, 1, 2] rfl
                      refine vp_callSi (va_Run.run (va_runV (As := [.int (nI i)]) (rest := []) ⟨hx, hb, hml, hown, hts⟩ (c_X7_ringsOf l D cI cO x fa tr so sl ce n bar tn ki si th ri at_ rp rk rs kt kr kn rg ab am bh bm br rn wa ra kd sd (nI i) (by assumption) (by assumption)) (cwV 1 hts gX7_rather_X7_ringsOf rfl rfl rfl (by decide +kernel) ⟨Nat.le_of_ble_eq_true rfl, Nat.le_of_ble_eq_true rfl⟩) (preVR hPc hK hNw (va_recv hK hPc (ci := 7) (q0 := 0) rfl rfl)) rfl rfl hl.1 rfl (lv_room (Nat.le_of_ble_eq_true rfl)) dX7_rather_52 ⟨Nat.zero_le _, Nat.zero_le _⟩)) (fun r52 w52 => ?_)
                      obtain rfl := w52
                      refine lv_aload_n hx hb dX7_rather_55 rfl (lv_at hl 0 rfl) ?_
                      refine lv_iload_n hx hb dX7_rather_56 rfl (lv_at hl 3 rfl) ?_
                      have hPc := hP.sub (ws' := [(x, .inr (7, [.int fa, .int tr, .ref so, .ref sl, .ref ce, .int (nI n), .int bar, .int (nI tn), .ref ki, .ref si, .ref th, .ref ri, .int at_, .int rp, .ref rk, .ref rs, .ref kt, .ref kr, .int kn, .int rg, .ref ab, .int am, .ref bh, .int bm, .int br, .int (nI rn), .ref wa, .ref ra])), (ki, .inl (cI, 9, .inl kd)), (si, .inl (cI, 9, .inl sd)), (th, .inl (cI, 3, .inl ts))]) [0, 1, 2, 3] rfl
                      refine vp_callSi (va_Run.run (va_runV (As := [.int (nI p_)]) (rest := [.int (sumW (rgF kd sd) (nI i) n)]) ⟨hx, hb, hml, hown, hts⟩ (c_X7_joyOf l D cI cO x fa tr so sl ce n bar tn ki si th ri at_ rp rk rs kt kr kn rg ab am bh bm br rn wa ra kd sd ts p_ (by assumption) (by assumption) (by assumption) (by assumption)) (cwV 1 hts gX7_rather_X7_joyOf rfl rfl rfl (by decide +kernel) ⟨Nat.le_of_ble_eq_true rfl, Nat.le_of_ble_eq_true rfl⟩) (preVR hPc hK hNw (va_recv hK hPc (ci := 7) (q0 := 0) rfl rfl)) rfl rfl hl.1 rfl (lv_room (Nat.le_of_ble_eq_true rfl)) dX7_rather_57 ⟨Nat.zero_le _, Nat.zero_le _⟩)) (fun r57 w57 => ?_)
                      obtain rfl := w57
                      refine lv_icmp_le (tgt := 67) hx hb dX7_rather_60 (by decide) (fun c60 => ?_) (fun c60 => ?_)
                      · -- t60
                        refine lv_iconst (v := 0) hx hb dX7_rather_67 (by decide) ?_
                        refine lv_istore_n (lv' := [(2, .int 0), (0, .ref x), (1, .int (nI i)), (3, .int (nI p_))]) hx hb dX7_rather_68 rfl hl (by decide) rfl (fun ls hl => ?_)
                        refine lv_iinc (v := nI (p_ + 1)) (lv' := [(3, .int (nI (p_ + 1))), (2, .int 0), (0, .ref x), (1, .int (nI i))]) hx hb dX7_rather_69 hl (k := 3) rfl (nI_1 _) (by decide) rfl (fun ls hl => ?_)
                        refine lv_goto (tgt := 30) hx hb dX7_rather_72 (by decide) ?_
                        have e30_2 : 0 = bI (raW n kd sd tn ts (nI i) (p_ + 1)) := by simp [raW, bI, *]
                        have hl : lv_has ls 4 [(3, .int (nI (p_ + 1))), (2, .int (bI (raW n kd sd tn ts (nI i) (p_ + 1)))), (0, .ref x), (1, .int (nI i))] := by rw [← e30_2]; exact hl
                        exact ih30 (p_ + 1) (by omega) (by omega) _ (lv_sub hl [2, 3, 1, 0] rfl)
                      · -- f60
                        refine lv_iconst (v := 1) hx hb dX7_rather_63 (by decide) ?_
                        refine lv_goto (tgt := 68) hx hb dX7_rather_64 (by decide) ?_
                        refine lv_istore_n (lv' := [(2, .int 1), (0, .ref x), (1, .int (nI i)), (3, .int (nI p_))]) hx hb dX7_rather_68 rfl hl (by decide) rfl (fun ls hl => ?_)
                        refine lv_iinc (v := nI (p_ + 1)) (lv' := [(3, .int (nI (p_ + 1))), (2, .int 1), (0, .ref x), (1, .int (nI i))]) hx hb dX7_rather_69 hl (k := 3) rfl (nI_1 _) (by decide) rfl (fun ls hl => ?_)
                        refine lv_goto (tgt := 30) hx hb dX7_rather_72 (by decide) ?_
                        have e30_2 : 1 = bI (raW n kd sd tn ts (nI i) (p_ + 1)) := by simp [raW, bI, *]
                        have hl : lv_has ls 4 [(3, .int (nI (p_ + 1))), (2, .int (bI (raW n kd sd tn ts (nI i) (p_ + 1)))), (0, .ref x), (1, .int (nI i))] := by rw [← e30_2]; exact hl
                        exact ih30 (p_ + 1) (by omega) (by omega) _ (lv_sub hl [2, 3, 1, 0] rfl)
                    · -- n44
                      obtain rfl := w44.2 b44
                      refine lv_if_eq (tgt := 63) hx hb dX7_rather_47 (by decide) (fun _ => ?_) (fun h => absurd (by decide) h)
                      refine lv_iconst (v := 1) hx hb dX7_rather_63 (by decide) ?_
                      refine lv_goto (tgt := 68) hx hb dX7_rather_64 (by decide) ?_
                      refine lv_istore_n (lv' := [(2, .int 1), (0, .ref x), (1, .int (nI i)), (3, .int (nI p_))]) hx hb dX7_rather_68 rfl hl (by decide) rfl (fun ls hl => ?_)
                      refine lv_iinc (v := nI (p_ + 1)) (lv' := [(3, .int (nI (p_ + 1))), (2, .int 1), (0, .ref x), (1, .int (nI i))]) hx hb dX7_rather_69 hl (k := 3) rfl (nI_1 _) (by decide) rfl (fun ls hl => ?_)
                      refine lv_goto (tgt := 30) hx hb dX7_rather_72 (by decide) ?_
                      have e30_2 : 1 = bI (raW n kd sd tn ts (nI i) (p_ + 1)) := by simp [raW, bI, *]
                      have hl : lv_has ls 4 [(3, .int (nI (p_ + 1))), (2, .int (bI (raW n kd sd tn ts (nI i) (p_ + 1)))), (0, .ref x), (1, .int (nI i))] := by rw [← e30_2]; exact hl
                      exact ih30 (p_ + 1) (by omega) (by omega) _ (lv_sub hl [2, 3, 1, 0] rfl)
            have e30_2 : 1 = bI (raW n kd sd tn ts (nI i) 0) := by rw [raW, bI]; simp [b24]
            have hl : lv_has ls 4 [(3, .int 0), (2, .int (bI (raW n kd sd tn ts (nI i) 0))), (0, .ref x), (1, .int (nI i))] := by rw [← e30_2]; exact hl
            exact lp30 _ 0 (Nat.zero_le _) (Nat.lt_succ_self _) _ (lv_sub hl [2, 3, 1, 0] rfl)
          · -- n24
            obtain rfl := w24.2 b24
            refine lv_istore_n (lv' := [(2, .int 0), (0, .ref x), (1, .int (nI i))]) hx hb dX7_rather_27 rfl hl (by decide) rfl (fun ls hl => ?_)
            refine lv_iconst (v := 0) hx hb dX7_rather_28 (by decide) ?_
            refine lv_istore_n (lv' := [(3, .int 0), (2, .int 0), (0, .ref x), (1, .int (nI i))]) hx hb dX7_rather_29 rfl hl (by decide) rfl (fun ls hl => ?_)
            have lp30 : ∀ (fu30 : Nat) (p_ : Nat) (hp : p_ ≤ n) (hm30 : n - p_ < fu30) (ls : Array Slot) (hl : lv_has ls 4 [(0, .ref x), (1, .int (nI i)), (2, .int (bI (raW n kd sd tn ts (nI i) p_))), (3, .int (nI p_))]), W p l e (headSpec wsX7_rather ({ frames := 3, cells := 0, slots := 0, locals := 66 } : Room)).room s m ([.ref x]).toArray below meth c s.heap [] 0 0 (MQ below (vp_Si (fun r => r = (if nI n = 0 then -3 else ratM n kd sd tn ts (2 ^ n) 0))) ([.ref x]).toArray s 0 0 (fun _ => False)) (F0 m 30 ls []) := by
              intro fu30
              induction fu30 with
              | zero =>
                intros; omega
              | succ fu30 ih30 =>
                intro p_ hp hm30 ls hl
                refine lv_iload_n hx hb dX7_rather_30 rfl (lv_at hl 3 rfl) ?_
                refine lv_aload_n hx hb dX7_rather_31 rfl (lv_at hl 0 rfl) ?_
                refine va_get (D := D) (ci := 7) (v := .int (nI n)) (C := RX7) (T := TX7) (N := 28) hx hb hts iX7 hown hK hP 0 rfl rfl 5 (by decide) f65 (fun _ h9 => h9) rfl dX7_rather_32 ?_
                refine lv_icmp_ge (tgt := 75) hx hb dX7_rather_35 (by decide) (fun c35 => ?_) (fun c35 => ?_)
                · -- t35
                  have e35 : p_ = n := by have q := ge_n (by omega) (by omega) c35; omega
                  rw [e35] at hl
                  refine lv_iload_n hx hb dX7_rather_75 rfl (lv_at hl 2 rfl) ?_
                  refine lv_if_eq (tgt := 81) hx hb dX7_rather_76 (by decide) (fun c76 => ?_) (fun c76 => ?_)
                  · -- t76
                    have hb0 : ¬ raW n kd sd tn ts (nI i) n = true := by intro q; rw [bI, if_pos q] at c76; exact absurd c76 (by decide)
                    refine lv_iinc (v := nI (i + 1)) (lv' := [(1, .int (nI (i + 1))), (0, .ref x), (2, .int (bI (raW n kd sd tn ts (nI i) n))), (3, .int (nI n))]) hx hb dX7_rather_81 hl (k := 1) rfl (nI_1 _) (by decide) rfl (fun ls hl => ?_)
                    refine lv_goto (tgt := 12) hx hb dX7_rather_84 (by decide) ?_
                    exact ih12 (i + 1) (by omega) (by rw [← hq, show 2 ^ n - i = (2 ^ n - (i + 1)) + 1 by omega, ratM, if_neg hb0]) (by omega) _ (lv_sub hl [1, 0] rfl)
                  · -- f76
                    have hb0 : raW n kd sd tn ts (nI i) n = true := by rw [← Bool.not_eq_false]; intro q; rw [bI, q] at c76; exact c76 rfl
                    refine lv_iload_n hx hb dX7_rather_79 rfl (lv_at hl 1 rfl) ?_
                    exact W.iret (v := nI i) hx hb hr (fun t ht hW => ⟨_, rfl, by rw [if_neg c4, ← hq, show 2 ^ n - i = (2 ^ n - (i + 1)) + 1 by omega, ratM, if_pos hb0], ht⟩) (fun _ h => absurd h List.not_mem_nil) dX7_rather_80
                · -- f35
                  have l35 : p_ < n := lt_n (by omega) (by omega) c35
                  refine lv_iload_n hx hb dX7_rather_38 rfl (lv_at hl 2 rfl) ?_
                  refine lv_if_eq (tgt := 67) hx hb dX7_rather_39 (by decide) (fun c39 => ?_) (fun c39 => ?_)
                  · -- t39
                    have hb0 : raW n kd sd tn ts (nI i) p_ = false := by rw [← Bool.not_eq_true]; intro q; rw [bI, if_pos q] at c39; exact absurd c39 (by decide)
                    refine lv_iconst (v := 0) hx hb dX7_rather_67 (by decide) ?_
                    refine lv_istore_n (lv' := [(2, .int 0), (0, .ref x), (1, .int (nI i)), (3, .int (nI p_))]) hx hb dX7_rather_68 rfl hl (by decide) rfl (fun ls hl => ?_)
                    refine lv_iinc (v := nI (p_ + 1)) (lv' := [(3, .int (nI (p_ + 1))), (2, .int 0), (0, .ref x), (1, .int (nI i))]) hx hb dX7_rather_69 hl (k := 3) rfl (nI_1 _) (by decide) rfl (fun ls hl => ?_)
                    refine lv_goto (tgt := 30) hx hb dX7_rather_72 (by decide) ?_
                    have e30_2 : 0 = bI (raW n kd sd tn ts (nI i) (p_ + 1)) := by simp [raW, bI, *]
                    have hl : lv_has ls 4 [(3, .int (nI (p_ + 1))), (2, .int (bI (raW n kd sd tn ts (nI i) (p_ + 1)))), (0, .ref x), (1, .int (nI i))] := by rw [← e30_2]; exact hl
                    exact ih30 (p_ + 1) (by omega) (by omega) _ (lv_sub hl [2, 3, 1, 0] rfl)
                  · -- f39
                    have hb0 : raW n kd sd tn ts (nI i) p_ = true := by rw [← Bool.not_eq_false]; intro q; rw [bI, q] at c39; exact c39 rfl
                    refine lv_iload_n hx hb dX7_rather_42 rfl (lv_at hl 1 rfl) ?_
                    refine lv_iload_n hx hb dX7_rather_43 rfl (lv_at hl 3 rfl) ?_
                    have hPc := hP.sub (ws' := []) [] rfl
                    refine vp_callSi (va_Run.run (va_runS (As := [.int (nI i), .int (nI p_)]) (rest := []) ⟨hx, hb, hml, hown, hts⟩ (c_X7_isOf l D cI cO (nI i) p_ (by omega)) (va_cwS 2 hts gX7_rather_X7_isOf rfl rfl rfl (by decide +kernel) ⟨Nat.le_of_ble_eq_true rfl, Nat.le_of_ble_eq_true rfl⟩) (preSR hPc hK hNw) rfl rfl hl.1 rfl (lv_room (Nat.le_of_ble_eq_true rfl)) dX7_rather_44 ⟨Nat.zero_le _, Nat.zero_le _⟩)) (fun r44 w44 => ?_)
                    by_cases b44 : bt (nI i) p_ = true
                    · -- y44
                      obtain rfl := w44.1 b44
                      refine lv_if_eq (tgt := 63) hx hb dX7_rather_47 (by decide) (fun h => absurd h (by decide)) (fun _ => ?_)
                      refine lv_aload_n hx hb dX7_rather_50 rfl (lv_at hl 0 rfl) ?_
                      refine lv_iload_n hx hb dX7_rather_51 rfl (lv_at hl 1 rfl) ?_
                      have hPc := hP.sub (ws' := [(x, .inr (7, [.int fa, .int tr, .ref so, .ref sl, .ref ce, .int (nI n), .int bar, .int (nI tn), .ref ki, .ref si, .ref th, .ref ri, .int at_, .int rp, .ref rk, .ref rs, .ref kt, .ref kr, .int kn, .int rg, .ref ab, .int am, .ref bh, .int bm, .int br, .int (nI rn), .ref wa, .ref ra])), (ki, .inl (cI, 9, .inl kd)), (si, .inl (cI, 9, .inl sd))]) [0, 1, 2] rfl
                      refine vp_callSi (va_Run.run (va_runV (As := [.int (nI i)]) (rest := []) ⟨hx, hb, hml, hown, hts⟩ (c_X7_ringsOf l D cI cO x fa tr so sl ce n bar tn ki si th ri at_ rp rk rs kt kr kn rg ab am bh bm br rn wa ra kd sd (nI i) (by assumption) (by assumption)) (cwV 1 hts gX7_rather_X7_ringsOf rfl rfl rfl (by decide +kernel) ⟨Nat.le_of_ble_eq_true rfl, Nat.le_of_ble_eq_true rfl⟩) (preVR hPc hK hNw (va_recv hK hPc (ci := 7) (q0 := 0) rfl rfl)) rfl rfl hl.1 rfl (lv_room (Nat.le_of_ble_eq_true rfl)) dX7_rather_52 ⟨Nat.zero_le _, Nat.zero_le _⟩)) (fun r52 w52 => ?_)
                      obtain rfl := w52
                      refine lv_aload_n hx hb dX7_rather_55 rfl (lv_at hl 0 rfl) ?_
                      refine lv_iload_n hx hb dX7_rather_56 rfl (lv_at hl 3 rfl) ?_
                      have hPc := hP.sub (ws' := [(x, .inr (7, [.int fa, .int tr, .ref so, .ref sl, .ref ce, .int (nI n), .int bar, .int (nI tn), .ref ki, .ref si, .ref th, .ref ri, .int at_, .int rp, .ref rk, .ref rs, .ref kt, .ref kr, .int kn, .int rg, .ref ab, .int am, .ref bh, .int bm, .int br, .int (nI rn), .ref wa, .ref ra])), (ki, .inl (cI, 9, .inl kd)), (si, .inl (cI, 9, .inl sd)), (th, .inl (cI, 3, .inl ts))]) [0, 1, 2, 3] rfl
                      refine vp_callSi (va_Run.run (va_runV (As := [.int (nI p_)]) (rest := [.int (sumW (rgF kd sd) (nI i) n)]) ⟨hx, hb, hml, hown, hts⟩ (c_X7_joyOf l D cI cO x fa tr so sl ce n bar tn ki si th ri at_ rp rk rs kt kr kn rg ab am bh bm br rn wa ra kd sd ts p_ (by assumption) (by assumption) (by assumption) (by assumption)) (cwV 1 hts gX7_rather_X7_joyOf rfl rfl rfl (by decide +kernel) ⟨Nat.le_of_ble_eq_true rfl, Nat.le_of_ble_eq_true rfl⟩) (preVR hPc hK hNw (va_recv hK hPc (ci := 7) (q0 := 0) rfl rfl)) rfl rfl hl.1 rfl (lv_room (Nat.le_of_ble_eq_true rfl)) dX7_rather_57 ⟨Nat.zero_le _, Nat.zero_le _⟩)) (fun r57 w57 => ?_)
                      obtain rfl := w57
                      refine lv_icmp_le (tgt := 67) hx hb dX7_rather_60 (by decide) (fun c60 => ?_) (fun c60 => ?_)
                      · -- t60
                        refine lv_iconst (v := 0) hx hb dX7_rather_67 (by decide) ?_
                        refine lv_istore_n (lv' := [(2, .int 0), (0, .ref x), (1, .int (nI i)), (3, .int (nI p_))]) hx hb dX7_rather_68 rfl hl (by decide) rfl (fun ls hl => ?_)
                        refine lv_iinc (v := nI (p_ + 1)) (lv' := [(3, .int (nI (p_ + 1))), (2, .int 0), (0, .ref x), (1, .int (nI i))]) hx hb dX7_rather_69 hl (k := 3) rfl (nI_1 _) (by decide) rfl (fun ls hl => ?_)
                        refine lv_goto (tgt := 30) hx hb dX7_rather_72 (by decide) ?_
                        have e30_2 : 0 = bI (raW n kd sd tn ts (nI i) (p_ + 1)) := by simp [raW, bI, *]
                        have hl : lv_has ls 4 [(3, .int (nI (p_ + 1))), (2, .int (bI (raW n kd sd tn ts (nI i) (p_ + 1)))), (0, .ref x), (1, .int (nI i))] := by rw [← e30_2]; exact hl
                        exact ih30 (p_ + 1) (by omega) (by omega) _ (lv_sub hl [2, 3, 1, 0] rfl)
                      · -- f60
                        refine lv_iconst (v := 1) hx hb dX7_rather_63 (by decide) ?_
                        refine lv_goto (tgt := 68) hx hb dX7_rather_64 (by decide) ?_
                        refine lv_istore_n (lv' := [(2, .int 1), (0, .ref x), (1, .int (nI i)), (3, .int (nI p_))]) hx hb dX7_rather_68 rfl hl (by decide) rfl (fun ls hl => ?_)
                        refine lv_iinc (v := nI (p_ + 1)) (lv' := [(3, .int (nI (p_ + 1))), (2, .int 1), (0, .ref x), (1, .int (nI i))]) hx hb dX7_rather_69 hl (k := 3) rfl (nI_1 _) (by decide) rfl (fun ls hl => ?_)
                        refine lv_goto (tgt := 30) hx hb dX7_rather_72 (by decide) ?_
                        have e30_2 : 1 = bI (raW n kd sd tn ts (nI i) (p_ + 1)) := by simp [raW, bI, *]
                        have hl : lv_has ls 4 [(3, .int (nI (p_ + 1))), (2, .int (bI (raW n kd sd tn ts (nI i) (p_ + 1)))), (0, .ref x), (1, .int (nI i))] := by rw [← e30_2]; exact hl
                        exact ih30 (p_ + 1) (by omega) (by omega) _ (lv_sub hl [2, 3, 1, 0] rfl)
                    · -- n44
                      obtain rfl := w44.2 b44
                      refine lv_if_eq (tgt := 63) hx hb dX7_rather_47 (by decide) (fun _ => ?_) (fun h => absurd (by decide) h)
                      refine lv_iconst (v := 1) hx hb dX7_rather_63 (by decide) ?_
                      refine lv_goto (tgt := 68) hx hb dX7_rather_64 (by decide) ?_
                      refine lv_istore_n (lv' := [(2, .int 1), (0, .ref x), (1, .int (nI i)), (3, .int (nI p_))]) hx hb dX7_rather_68 rfl hl (by decide) rfl (fun ls hl => ?_)
                      refine lv_iinc (v := nI (p_ + 1)) (lv' := [(3, .int (nI (p_ + 1))), (2, .int 1), (0, .ref x), (1, .int (nI i))]) hx hb dX7_rather_69 hl (k := 3) rfl (nI_1 _) (by decide) rfl (fun ls hl => ?_)
                      refine lv_goto (tgt := 30) hx hb dX7_rather_72 (by decide) ?_
                      have e30_2 : 1 = bI (raW n kd sd tn ts (nI i) (p_ + 1)) := by simp [raW, bI, *]
                      have hl : lv_has ls 4 [(3, .int (nI (p_ + 1))), (2, .int (bI (raW n kd sd tn ts (nI i) (p_ + 1)))), (0, .ref x), (1, .int (nI i))] := by rw [← e30_2]; exact hl
                      exact ih30 (p_ + 1) (by omega) (by omega) _ (lv_sub hl [2, 3, 1, 0] rfl)
            have e30_2 : 0 = bI (raW n kd sd tn ts (nI i) 0) := by rw [raW, bI]; simp [b24]
            have hl : lv_has ls 4 [(3, .int 0), (2, .int (bI (raW n kd sd tn ts (nI i) 0))), (0, .ref x), (1, .int (nI i))] := by rw [← e30_2]; exact hl
            exact lp30 _ 0 (Nat.zero_le _) (Nat.lt_succ_self _) _ (lv_sub hl [2, 3, 1, 0] rfl)
    exact lp12 _ 0 (Nat.zero_le _) (rfl) (Nat.lt_succ_self _) _ (lv_sub hl [1, 0] rfl)
  · -- f4
    refine lv_bipush (v := -3) hx hb dX7_rather_7 (by decide) ?_
    exact W.iret (v := -3) hx hb hr (fun t ht hW => ⟨_, rfl, by simp [*], ht⟩) (fun _ h => absurd h List.not_mem_nil) dX7_rather_9
