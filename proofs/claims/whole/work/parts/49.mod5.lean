set_option maxHeartbeats 4000000 in
set_option maxRecDepth 100000 in
theorem c_X7_odds (l : Launch) (D : va_G) (cI cO : ClassId) (x : Nat) (fa : Int32) (tr : Int32) (so : Nat) (sl : Nat) (ce : Nat) (n : Nat) (bar : Int32) (tn : Nat) (ki : Nat) (si : Nat) (th : Nat) (ri : Nat) (at_ : Int32) (rp : Int32) (rk : Nat) (rs : Nat) (kt : Nat) (kr : Nat) (kn : Int32) (rg : Int32) (ab : Nat) (am : Int32) (bh : Nat) (bm : Int32) (br : Int32) (rn : Nat) (wa : Nat) (ra : Nat) (sd : Nat → Int32) (pp : Int32) (wh : Int32) (hn : n ≤ 9) (h3 : n = 0 ∨ 3 ≤ n) : Met l yX7_odds wsX7_odds ({ frames := 3, cells := 0, slots := 0, locals := 65 } : Room) (va_Pc [.ref x, .int pp, .int wh] (wdR D cI cO [(x, .inr (7, [.int fa, .int tr, .ref so, .ref sl, .ref ce, .int (nI n), .int bar, .int (nI tn), .ref ki, .ref si, .ref th, .ref ri, .int at_, .int rp, .ref rk, .ref rs, .ref kt, .ref kr, .int kn, .int rg, .ref ab, .int am, .ref bh, .int bm, .int br, .int (nI rn), .ref wa, .ref ra])), (si, .inl (cI, 9, .inl sd))])) (vp_Sl (fun r => r = (oddM n sd pp wh))) 0 0 (fun _ => False) := by
  refine Met.ofW (cc := cX7_odds) (maxL := 6) (ret := (some .long)) (by decide) rfl ?_
  intro p e s m args below meth c s₁ B hml hv
  obtain ⟨rfl, hP, hK, hNw⟩ := hv
  have hx := B.exec
  have hb := B.bytes
  have hr := B.returns
  have hts := atoms_spec (ws := wsX7_odds) B.pre
  have hown : s.vm.findClass RX7 = some m.cls := findClass_of_methodNamed B.named
  have hlocks := B.notSynchronized
  have f65 := hts (.fieldLink RX7 65 "StruckThreesModel" "people" "I") (by decide +kernel)
  have iX7 : ∀ w ∈ wsX70, w ∈ wsX7_odds := by decide +kernel
  have hP : va_P D vwCl [(x, .inr (7, [.int fa, .int tr, .ref so, .ref sl, .ref ce, .int (nI n), .int bar, .int (nI tn), .ref ki, .ref si, .ref th, .ref ri, .int at_, .int rp, .ref rk, .ref rs, .ref kt, .ref kr, .int kn, .int rg, .ref ab, .int am, .ref bh, .int bm, .int br, .int (nI rn), .ref wa, .ref ra])), (si, .inl (cI, 9, .inl sd))] s.heap := hP
  have hl := lv_entry ([.ref x, .int pp, .int wh]) (n := 6) (Nat.le_of_ble_eq_true rfl)
  rw [lg_entry_eq]
  generalize (lg_sl ([.ref x, .int pp, .int wh]) ++ List.replicate (6 - (lg_sl ([.ref x, .int pp, .int wh])).length) Slot.unset).toArray = ls at hl ⊢
  have hl : lv_has ls 6 [(0, .ref x), (1, .int pp), (2, .int wh)] := hl
  have hb2 := bnd_t hn
  have hs2 := sh1 n (by omega)
  refine lv_aload_n hx hb dX7_odds_0 rfl (lv_at hl 0 rfl) ?_
  refine lv_iload_n hx hb dX7_odds_1 rfl (lv_at hl 1 rfl) ?_
  have hPc := hP.sub (ws' := [(x, .inr (7, [.int fa, .int tr, .ref so, .ref sl, .ref ce, .int (nI n), .int bar, .int (nI tn), .ref ki, .ref si, .ref th, .ref ri, .int at_, .int rp, .ref rk, .ref rs, .ref kt, .ref kr, .int kn, .int rg, .ref ab, .int am, .ref bh, .int bm, .int br, .int (nI rn), .ref wa, .ref ra]))]) [0] rfl
  refine vp_callSi (va_Run.run (va_runV (As := [.int pp]) (rest := []) ⟨hx, hb, hml, hown, hts⟩ (c_X7_isPerson l D cI cO x fa tr so sl ce n bar tn ki si th ri at_ rp rk rs kt kr kn rg ab am bh bm br rn wa ra pp) (cwV 1 hts gX7_odds_X7_isPerson rfl rfl rfl (by decide +kernel) ⟨Nat.le_of_ble_eq_true rfl, Nat.le_of_ble_eq_true rfl⟩) (preVR hPc hK hNw (va_recv hK hPc (ci := 7) (q0 := 0) rfl rfl)) rfl rfl hl.1 rfl (lv_room (Nat.le_of_ble_eq_true rfl)) dX7_odds_2 ⟨Nat.zero_le _, Nat.zero_le _⟩)) (fun r2 w2 => ?_)
  by_cases b2 : ¬ pp < 0 ∧ ¬ nI n ≤ pp
  · -- y2
    obtain rfl := w2.1 b2
    obtain ⟨j, hj, ej⟩ := in_nat b2 (show n < 2 ^ 31 by omega)
    have hpp : ¬ (¬ pp = -1 ∧ isP n pp = false) := fun q => by rw [isP, decide_eq_true b2] at q; exact absurd q.2 (by decide)
    refine lv_if_ne (tgt := 13) hx hb dX7_odds_5 (by decide) (fun _ => ?_) (fun h => absurd h (by decide))
    refine lv_iload_n hx hb dX7_odds_13 rfl (lv_at hl 2 rfl) ?_
    refine lv_iconst (v := 0) hx hb dX7_odds_14 (by decide) ?_
    refine lv_iconst (v := 1) hx hb dX7_odds_15 (by decide) ?_
    have hPc := hP.sub (ws' := []) [] rfl
    refine vp_callSi (va_Run.run (va_runS (As := [.int wh, .int 0, .int 1]) (rest := []) ⟨hx, hb, hml, hown, hts⟩ (c_X7_within l D cI cO wh 0 1) (va_cwS 3 hts gX7_odds_X7_within rfl rfl rfl (by decide +kernel) ⟨Nat.le_of_ble_eq_true rfl, Nat.le_of_ble_eq_true rfl⟩) (preSR hPc hK hNw) rfl rfl hl.1 rfl (lv_room (Nat.le_of_ble_eq_true rfl)) dX7_odds_16 ⟨Nat.zero_le _, Nat.zero_le _⟩)) (fun r16 w16 => ?_)
    by_cases b16 : lstT wh 0 1 = true
    · -- y16
      obtain rfl := w16.1 b16
      have hw1 : ¬ wh < 0 ∧ wh ≤ 1 := lst_in b16
      refine lv_if_eq (tgt := 29) hx hb dX7_odds_19 (by decide) (fun h => absurd h (by decide)) (fun _ => ?_)
      refine lv_aload_n hx hb dX7_odds_22 rfl (lv_at hl 0 rfl) ?_
      refine va_get (D := D) (ci := 7) (v := .int (nI n)) (C := RX7) (T := TX7) (N := 28) hx hb hts iX7 hown hK hP 0 rfl rfl 5 (by decide) f65 (fun _ h9 => h9) rfl dX7_odds_23 ?_
      refine lv_if_ne (tgt := 33) hx hb dX7_odds_26 (by decide) (fun c26 => ?_) (fun c26 => ?_)
      · -- t26
        refine lv_iconst (v := 0) hx hb dX7_odds_33 (by decide) ?_
        refine lv_istore_n (lv' := [(3, .int 0), (0, .ref x), (1, .int pp), (2, .int wh)]) hx hb dX7_odds_34 rfl hl (by decide) rfl (fun ls hl => ?_)
        refine lv_iconst (v := 0) hx hb dX7_odds_35 (by decide) ?_
        refine lv_istore (lv' := [(4, .int 0), (3, .int 0), (0, .ref x), (1, .int pp), (2, .int wh)]) hx hb dX7_odds_36 hl (by decide) rfl (fun ls hl => ?_)
        refine lv_iconst (v := 0) hx hb dX7_odds_38 (by decide) ?_
        refine lv_istore (lv' := [(5, .int 0), (4, .int 0), (3, .int 0), (0, .ref x), (1, .int pp), (2, .int wh)]) hx hb dX7_odds_39 hl (by decide) rfl (fun ls hl => ?_)
        have lp41 : ∀ (fu41 : Nat) (i : Nat) (hi : i ≤ 2 ^ n) (hm41 : 2 ^ n - i < fu41) (ls : Array Slot) (hl : lv_has ls 6 [(0, .ref x), (1, .int pp), (2, .int wh), (3, .int (nI (oddN n sd (mskP pp) i).1)), (4, .int (nI (oddN n sd (mskP pp) i).2)), (5, .int (nI i))]), W p l e (headSpec wsX7_odds ({ frames := 3, cells := 0, slots := 0, locals := 65 } : Room)).room s m ([.ref x, .int pp, .int wh]).toArray below meth c s.heap [] 0 0 (MQ below (vp_Sl (fun r => r = (oddM n sd pp wh))) ([.ref x, .int pp, .int wh]).toArray s 0 0 (fun _ => False)) (F0 m 41 ls []) := by
          intro fu41
          induction fu41 with
          | zero =>
            intros; omega
          | succ fu41 ih41 =>
            intro i hi hm41 ls hl
            refine lv_iload hx hb dX7_odds_41 (lv_at hl 5 rfl) ?_
            refine lv_iconst (v := 1) hx hb dX7_odds_43 (by decide) ?_
            refine lv_aload_n hx hb dX7_odds_44 rfl (lv_at hl 0 rfl) ?_
            refine va_get (D := D) (ci := 7) (v := .int (nI n)) (C := RX7) (T := TX7) (N := 28) hx hb hts iX7 hown hK hP 0 rfl rfl 5 (by decide) f65 (fun _ h9 => h9) rfl dX7_odds_45 ?_
            refine lv_ishl hx hb dX7_odds_48 ?_
            refine tp_i (y := nI (2 ^ n)) (hs2) ?_
            refine lv_icmp_ge (tgt := 103) hx hb dX7_odds_49 (by decide) (fun c49 => ?_) (fun c49 => ?_)
            · -- t49
              have e49 : i = 2 ^ n := by have q := ge_n (by omega) (by omega) c49; omega
              rw [e49] at hl
              refine lv_iload hx hb dX7_odds_103 (lv_at hl 4 rfl) ?_
              refine lv_i2l hx hb dX7_odds_105 rfl ?_
              refine tp_l (y := lN (oddN n sd (mskP pp) (2 ^ n)).2) (nI_l (by have q := oddN_le n sd (mskP pp) (2 ^ n); omega)) ?_
              refine lv_iload_n hx hb dX7_odds_106 rfl (lv_at hl 3 rfl) ?_
              refine lv_i2l hx hb dX7_odds_107 rfl ?_
              refine tp_l (y := lN (oddN n sd (mskP pp) (2 ^ n)).1) (nI_l (by have q := oddN_le n sd (mskP pp) (2 ^ n); omega)) ?_
              refine lv_iload_n hx hb dX7_odds_108 rfl (lv_at hl 2 rfl) ?_
              have hle := oddN_le n sd (mskP pp) (2 ^ n)
              have h3n : 3 ≤ n := h3.resolve_left (fun q => c26 (by rw [q]; rfl))
              have hal : 0 < (oddN n sd (mskP pp) (2 ^ n)).1 := by rw [ej]; exact odd_one h3n hn hj
              have hPc := hP.sub (ws' := []) [] rfl
              refine vp_callSl (va_Run.run (va_runS (As := [.long (lN (oddN n sd (mskP pp) (2 ^ n)).2), .long (lN (oddN n sd (mskP pp) (2 ^ n)).1), .int wh]) (rest := []) ⟨hx, hb, hml, hown, hts⟩ (c_X7_inLeastTerms l D cI cO (oddN n sd (mskP pp) (2 ^ n)).2 (oddN n sd (mskP pp) (2 ^ n)).1 wh (by omega) (by omega) (by omega)) (va_cwS 3 hts gX7_odds_X7_inLeastTerms rfl rfl rfl (by decide +kernel) ⟨Nat.le_of_ble_eq_true rfl, Nat.le_of_ble_eq_true rfl⟩) (preSR hPc hK hNw) rfl rfl hl.1 rfl (lv_room (Nat.le_of_ble_eq_true rfl)) dX7_odds_109 ⟨Nat.zero_le _, Nat.zero_le _⟩)) (fun r109 w109 => ?_)
              obtain rfl := w109
              exact W.lret (v := if wh = 0 then lN ((oddN n sd (mskP pp) (2 ^ n)).2 / Nat.gcd (oddN n sd (mskP pp) (2 ^ n)).2 (oddN n sd (mskP pp) (2 ^ n)).1) else lN ((oddN n sd (mskP pp) (2 ^ n)).1 / Nat.gcd (oddN n sd (mskP pp) (2 ^ n)).2 (oddN n sd (mskP pp) (2 ^ n)).1)) hx hb hr (fun t ht hW => ⟨_, rfl, by unfold oddM; rw [if_neg hpp, if_pos hw1, if_neg c26], ht⟩) (fun _ h => absurd h List.not_mem_nil) dX7_odds_112
            · -- f49
              have l49 : i < 2 ^ n := lt_n (by omega) (by omega) c49
              refine lv_iload hx hb dX7_odds_52 (lv_at hl 5 rfl) ?_
              have hPc := hP.sub (ws' := []) [] rfl
              refine vp_callSi (va_Run.run (va_runS (As := [.int (nI i)]) (rest := []) ⟨hx, hb, hml, hown, hts⟩ (c_X7_size l D cI cO i (by omega)) (va_cwS 1 hts gX7_odds_X7_size rfl rfl rfl (by decide +kernel) ⟨Nat.le_of_ble_eq_true rfl, Nat.le_of_ble_eq_true rfl⟩) (preSR hPc hK hNw) rfl rfl hl.1 rfl (lv_room (Nat.le_of_ble_eq_true rfl)) dX7_odds_54 ⟨Nat.zero_le _, Nat.zero_le _⟩)) (fun r54 w54 => ?_)
              obtain rfl := w54
              refine lv_iconst (v := 3) hx hb dX7_odds_57 (by decide) ?_
              refine lv_icmp_ne (tgt := 97) hx hb dX7_odds_58 (by decide) (fun c58 => ?_) (fun c58 => ?_)
              · -- t58
                refine lv_iinc (v := nI (i + 1)) (lv' := [(5, .int (nI (i + 1))), (0, .ref x), (1, .int pp), (2, .int wh), (3, .int (nI (oddN n sd (mskP pp) i).1)), (4, .int (nI (oddN n sd (mskP pp) i).2))]) hx hb dX7_odds_97 hl (k := 5) rfl (nI_1 _) (by decide) rfl (fun ls hl => ?_)
                refine lv_goto (tgt := 41) hx hb dX7_odds_100 (by decide) ?_
                have e41_3 : (nI (oddN n sd (mskP pp) i).1) = nI (oddN n sd (mskP pp) (i + 1)).1 := by rw [oddN_s]; first | (rw [if_pos ⟨c58, hmk⟩]; done) | (rw [if_neg (fun q => hmk q.2)]; done) | (rw [if_neg (fun q => c58 q.1)]; done)
                have hl : lv_has ls 6 [(5, .int (nI (i + 1))), (0, .ref x), (1, .int pp), (2, .int wh), (3, .int (nI (oddN n sd (mskP pp) (i + 1)).1)), (4, .int (nI (oddN n sd (mskP pp) i).2))] := by rw [← e41_3]; exact hl
                have e41_4 : (nI (oddN n sd (mskP pp) i).2) = nI (oddN n sd (mskP pp) (i + 1)).2 := by rw [oddN_s]; first | (rw [if_pos ⟨c58, hmk⟩, if_pos b83]; exact nI_1 _) | (rw [if_pos ⟨c58, hmk⟩, if_neg b83]; exact Int32.add_zero _) | (rw [if_neg (fun q => hmk q.2)]; done) | (rw [if_neg (fun q => c58 q.1)]; done)
                have hl : lv_has ls 6 [(5, .int (nI (i + 1))), (0, .ref x), (1, .int pp), (2, .int wh), (3, .int (nI (oddN n sd (mskP pp) (i + 1)).1)), (4, .int (nI (oddN n sd (mskP pp) (i + 1)).2))] := by rw [← e41_4]; exact hl
                exact ih41 (i + 1) (by omega) (by omega) _ (lv_sub hl [1, 2, 3, 4, 5, 0] rfl)
              · -- f58
                refine lv_iload_n hx hb dX7_odds_61 rfl (lv_at hl 1 rfl) ?_
                refine lv_iconst (v := -1) hx hb dX7_odds_62 (by decide) ?_
                refine lv_icmp_eq (tgt := 75) hx hb dX7_odds_63 (by decide) (fun c63 => ?_) (fun c63 => ?_)
                · -- t63
                  exact absurd b2 (fun q => q.1 (by rw [c63]; decide))
                · -- f63
                  refine lv_iload hx hb dX7_odds_66 (lv_at hl 5 rfl) ?_
                  refine lv_iload_n hx hb dX7_odds_68 rfl (lv_at hl 1 rfl) ?_
                  refine tp_i (y := nI j) (ej) ?_
                  have hPc := hP.sub (ws' := []) [] rfl
                  refine vp_callSi (va_Run.run (va_runS (As := [.int (nI i), .int (nI j)]) (rest := []) ⟨hx, hb, hml, hown, hts⟩ (c_X7_isOf l D cI cO (nI i) j (by omega)) (va_cwS 2 hts gX7_odds_X7_isOf rfl rfl rfl (by decide +kernel) ⟨Nat.le_of_ble_eq_true rfl, Nat.le_of_ble_eq_true rfl⟩) (preSR hPc hK hNw) rfl rfl hl.1 rfl (lv_room (Nat.le_of_ble_eq_true rfl)) dX7_odds_69 ⟨Nat.zero_le _, Nat.zero_le _⟩)) (fun r69 w69 => ?_)
                  by_cases b69 : bt (nI i) j = true
                  · -- y69
                    obtain rfl := w69.1 b69
                    have hmk : (nI i &&& mskP pp) = mskP pp := by rw [ej]; exact (msk_in hj hn).mpr b69
                    refine lv_if_eq (tgt := 97) hx hb dX7_odds_72 (by decide) (fun h => absurd h (by decide)) (fun _ => ?_)
                    refine lv_iinc (v := nI ((oddN n sd (mskP pp) i).1 + 1)) (lv' := [(3, .int (nI ((oddN n sd (mskP pp) i).1 + 1))), (0, .ref x), (1, .int pp), (2, .int wh), (4, .int (nI (oddN n sd (mskP pp) i).2)), (5, .int (nI i))]) hx hb dX7_odds_75 hl (k := 3) rfl (nI_1 _) (by decide) rfl (fun ls hl => ?_)
                    refine lv_iload hx hb dX7_odds_78 (lv_at hl 4 rfl) ?_
                    refine lv_aload_n hx hb dX7_odds_80 rfl (lv_at hl 1 rfl) ?_
                    refine lv_iload hx hb dX7_odds_81 (lv_at hl 5 rfl) ?_
                    have hPc := hP.sub (ws' := [(x, .inr (7, [.int fa, .int tr, .ref so, .ref sl, .ref ce, .int (nI n), .int bar, .int (nI tn), .ref ki, .ref si, .ref th, .ref ri, .int at_, .int rp, .ref rk, .ref rs, .ref kt, .ref kr, .int kn, .int rg, .ref ab, .int am, .ref bh, .int bm, .int br, .int (nI rn), .ref wa, .ref ra])), (si, .inl (cI, 9, .inl sd))]) [0, 1] rfl
                    refine vp_callSi (va_Run.run (va_runV (As := [.int (nI i)]) (rest := [.int (nI (oddN n sd (mskP pp) i).2)]) ⟨hx, hb, hml, hown, hts⟩ (c_X7_canHang l D cI cO x fa tr so sl ce n bar tn ki si th ri at_ rp rk rs kt kr kn rg ab am bh bm br rn wa ra sd i (by assumption) (by omega)) (cwV 1 hts gX7_odds_X7_canHang rfl rfl rfl (by decide +kernel) ⟨Nat.le_of_ble_eq_true rfl, Nat.le_of_ble_eq_true rfl⟩) (preVR hPc hK hNw (va_recv hK hPc (ci := 7) (q0 := 0) rfl rfl)) rfl rfl hl.1 rfl (lv_room (Nat.le_of_ble_eq_true rfl)) dX7_odds_83 ⟨Nat.zero_le _, Nat.zero_le _⟩)) (fun r83 w83 => ?_)
                    by_cases b83 : canH n sd (nI i) = true
                    · -- y83
                      obtain rfl := w83.1 b83
                      refine lv_if_eq (tgt := 93) hx hb dX7_odds_86 (by decide) (fun h => absurd h (by decide)) (fun _ => ?_)
                      refine lv_iconst (v := 1) hx hb dX7_odds_89 (by decide) ?_
                      refine lv_goto (tgt := 94) hx hb dX7_odds_90 (by decide) ?_
                      refine lv_iadd hx hb dX7_odds_94 ?_
                      refine lv_istore (lv' := [(4, .int ((nI (oddN n sd (mskP pp) i).2) + 1)), (3, .int (nI ((oddN n sd (mskP pp) i).1 + 1))), (0, .ref x), (1, .int pp), (2, .int wh), (5, .int (nI i))]) hx hb dX7_odds_95 hl (by decide) rfl (fun ls hl => ?_)
                      refine lv_iinc (v := nI (i + 1)) (lv' := [(5, .int (nI (i + 1))), (4, .int ((nI (oddN n sd (mskP pp) i).2) + 1)), (3, .int (nI ((oddN n sd (mskP pp) i).1 + 1))), (0, .ref x), (1, .int pp), (2, .int wh)]) hx hb dX7_odds_97 hl (k := 5) rfl (nI_1 _) (by decide) rfl (fun ls hl => ?_)
                      refine lv_goto (tgt := 41) hx hb dX7_odds_100 (by decide) ?_
                      have e41_3 : (nI ((oddN n sd (mskP pp) i).1 + 1)) = nI (oddN n sd (mskP pp) (i + 1)).1 := by rw [oddN_s]; first | (rw [if_pos ⟨c58, hmk⟩]; done) | (rw [if_neg (fun q => hmk q.2)]; done) | (rw [if_neg (fun q => c58 q.1)]; done)
                      have hl : lv_has ls 6 [(5, .int (nI (i + 1))), (4, .int ((nI (oddN n sd (mskP pp) i).2) + 1)), (3, .int (nI (oddN n sd (mskP pp) (i + 1)).1)), (0, .ref x), (1, .int pp), (2, .int wh)] := by rw [← e41_3]; exact hl
                      have e41_4 : ((nI (oddN n sd (mskP pp) i).2) + 1) = nI (oddN n sd (mskP pp) (i + 1)).2 := by rw [oddN_s]; first | (rw [if_pos ⟨c58, hmk⟩, if_pos b83]; exact nI_1 _) | (rw [if_pos ⟨c58, hmk⟩, if_neg b83]; exact Int32.add_zero _) | (rw [if_neg (fun q => hmk q.2)]; done) | (rw [if_neg (fun q => c58 q.1)]; done)
                      have hl : lv_has ls 6 [(5, .int (nI (i + 1))), (4, .int (nI (oddN n sd (mskP pp) (i + 1)).2)), (3, .int (nI (oddN n sd (mskP pp) (i + 1)).1)), (0, .ref x), (1, .int pp), (2, .int wh)] := by rw [← e41_4]; exact hl
                      exact ih41 (i + 1) (by omega) (by omega) _ (lv_sub hl [3, 4, 5, 2, 1, 0] rfl)
                    · -- n83
                      obtain rfl := w83.2 b83
                      refine lv_if_eq (tgt := 93) hx hb dX7_odds_86 (by decide) (fun _ => ?_) (fun h => absurd (by decide) h)
                      refine lv_iconst (v := 0) hx hb dX7_odds_93 (by decide) ?_
                      refine lv_iadd hx hb dX7_odds_94 ?_
                      refine lv_istore (lv' := [(4, .int ((nI (oddN n sd (mskP pp) i).2) + 0)), (3, .int (nI ((oddN n sd (mskP pp) i).1 + 1))), (0, .ref x), (1, .int pp), (2, .int wh), (5, .int (nI i))]) hx hb dX7_odds_95 hl (by decide) rfl (fun ls hl => ?_)
                      refine lv_iinc (v := nI (i + 1)) (lv' := [(5, .int (nI (i + 1))), (4, .int ((nI (oddN n sd (mskP pp) i).2) + 0)), (3, .int (nI ((oddN n sd (mskP pp) i).1 + 1))), (0, .ref x), (1, .int pp), (2, .int wh)]) hx hb dX7_odds_97 hl (k := 5) rfl (nI_1 _) (by decide) rfl (fun ls hl => ?_)
                      refine lv_goto (tgt := 41) hx hb dX7_odds_100 (by decide) ?_
                      have e41_3 : (nI ((oddN n sd (mskP pp) i).1 + 1)) = nI (oddN n sd (mskP pp) (i + 1)).1 := by rw [oddN_s]; first | (rw [if_pos ⟨c58, hmk⟩]; done) | (rw [if_neg (fun q => hmk q.2)]; done) | (rw [if_neg (fun q => c58 q.1)]; done)
                      have hl : lv_has ls 6 [(5, .int (nI (i + 1))), (4, .int ((nI (oddN n sd (mskP pp) i).2) + 0)), (3, .int (nI (oddN n sd (mskP pp) (i + 1)).1)), (0, .ref x), (1, .int pp), (2, .int wh)] := by rw [← e41_3]; exact hl
                      have e41_4 : ((nI (oddN n sd (mskP pp) i).2) + 0) = nI (oddN n sd (mskP pp) (i + 1)).2 := by rw [oddN_s]; first | (rw [if_pos ⟨c58, hmk⟩, if_pos b83]; exact nI_1 _) | (rw [if_pos ⟨c58, hmk⟩, if_neg b83]; exact Int32.add_zero _) | (rw [if_neg (fun q => hmk q.2)]; done) | (rw [if_neg (fun q => c58 q.1)]; done)
                      have hl : lv_has ls 6 [(5, .int (nI (i + 1))), (4, .int (nI (oddN n sd (mskP pp) (i + 1)).2)), (3, .int (nI (oddN n sd (mskP pp) (i + 1)).1)), (0, .ref x), (1, .int pp), (2, .int wh)] := by rw [← e41_4]; exact hl
                      exact ih41 (i + 1) (by omega) (by omega) _ (lv_sub hl [3, 4, 5, 2, 1, 0] rfl)
                  · -- n69
                    obtain rfl := w69.2 b69
                    have hmk : ¬ (nI i &&& mskP pp) = mskP pp := by rw [ej]; exact fun q => b69 ((msk_in hj hn).mp q)
                    refine lv_if_eq (tgt := 97) hx hb dX7_odds_72 (by decide) (fun _ => ?_) (fun h => absurd (by decide) h)
                    refine lv_iinc (v := nI (i + 1)) (lv' := [(5, .int (nI (i + 1))), (0, .ref x), (1, .int pp), (2, .int wh), (3, .int (nI (oddN n sd (mskP pp) i).1)), (4, .int (nI (oddN n sd (mskP pp) i).2))]) hx hb dX7_odds_97 hl (k := 5) rfl (nI_1 _) (by decide) rfl (fun ls hl => ?_)
                    refine lv_goto (tgt := 41) hx hb dX7_odds_100 (by decide) ?_
                    have e41_3 : (nI (oddN n sd (mskP pp) i).1) = nI (oddN n sd (mskP pp) (i + 1)).1 := by rw [oddN_s]; first | (rw [if_pos ⟨c58, hmk⟩]; done) | (rw [if_neg (fun q => hmk q.2)]; done) | (rw [if_neg (fun q => c58 q.1)]; done)
                    have hl : lv_has ls 6 [(5, .int (nI (i + 1))), (0, .ref x), (1, .int pp), (2, .int wh), (3, .int (nI (oddN n sd (mskP pp) (i + 1)).1)), (4, .int (nI (oddN n sd (mskP pp) i).2))] := by rw [← e41_3]; exact hl
                    have e41_4 : (nI (oddN n sd (mskP pp) i).2) = nI (oddN n sd (mskP pp) (i + 1)).2 := by rw [oddN_s]; first | (rw [if_pos ⟨c58, hmk⟩, if_pos b83]; exact nI_1 _) | (rw [if_pos ⟨c58, hmk⟩, if_neg b83]; exact Int32.add_zero _) | (rw [if_neg (fun q => hmk q.2)]; done) | (rw [if_neg (fun q => c58 q.1)]; done)
                    have hl : lv_has ls 6 [(5, .int (nI (i + 1))), (0, .ref x), (1, .int pp), (2, .int wh), (3, .int (nI (oddN n sd (mskP pp) (i + 1)).1)), (4, .int (nI (oddN n sd (mskP pp) (i + 1)).2))] := by rw [← e41_4]; exact hl
                    exact ih41 (i + 1) (by omega) (by omega) _ (lv_sub hl [1, 2, 3, 4, 5, 0] rfl)
        exact lp41 _ 0 (Nat.zero_le _) (Nat.lt_succ_self _) _ (lv_sub hl [3, 4, 5, 2, 1, 0] rfl)
      · -- f26
        refine lv_ldc2 hx hb hown (hts (.constantLong RX7 59 (-9223372036854775808)) (by decide +kernel)) dX7_odds_29 ?_
        exact W.lret (v := (-9223372036854775808)) hx hb hr (fun t ht hW => ⟨_, rfl, by first | exact (if_pos hpn).symm | (unfold oddM; rw [if_neg hpp, if_neg hw0]) | (unfold oddM; rw [if_neg hpp, if_pos hw1, if_pos c26]), ht⟩) (fun _ h => absurd h List.not_mem_nil) dX7_odds_32
    · -- n16
      obtain rfl := w16.2 b16
      have hw0 : ¬ (¬ wh < 0 ∧ wh ≤ 1) := fun q => b16 (decide_eq_true ⟨q.1, fun z => le_nlt q.2 z⟩)
      refine lv_if_eq (tgt := 29) hx hb dX7_odds_19 (by decide) (fun _ => ?_) (fun h => absurd (by decide) h)
      refine lv_ldc2 hx hb hown (hts (.constantLong RX7 59 (-9223372036854775808)) (by decide +kernel)) dX7_odds_29 ?_
      exact W.lret (v := (-9223372036854775808)) hx hb hr (fun t ht hW => ⟨_, rfl, by first | exact (if_pos hpn).symm | (unfold oddM; rw [if_neg hpp, if_neg hw0]) | (unfold oddM; rw [if_neg hpp, if_pos hw1, if_pos c26]), ht⟩) (fun _ h => absurd h List.not_mem_nil) dX7_odds_32
  · -- n2
    obtain rfl := w2.2 b2
    refine lv_if_ne (tgt := 13) hx hb dX7_odds_5 (by decide) (fun h => absurd (by decide) h) (fun _ => ?_)
    refine lv_iload_n hx hb dX7_odds_8 rfl (lv_at hl 1 rfl) ?_
    refine lv_iconst (v := -1) hx hb dX7_odds_9 (by decide) ?_
    refine lv_icmp_ne (tgt := 29) hx hb dX7_odds_10 (by decide) (fun c10 => ?_) (fun c10 => ?_)
    · -- t10
      have hpn : ¬ pp = -1 ∧ isP n pp = false := ⟨c10, decide_eq_false b2⟩
      refine lv_ldc2 hx hb hown (hts (.constantLong RX7 59 (-9223372036854775808)) (by decide +kernel)) dX7_odds_29 ?_
      exact W.lret (v := (-9223372036854775808)) hx hb hr (fun t ht hW => ⟨_, rfl, by first | exact (if_pos hpn).symm | (unfold oddM; rw [if_neg hpp, if_neg hw0]) | (unfold oddM; rw [if_neg hpp, if_pos hw1, if_pos c26]), ht⟩) (fun _ h => absurd h List.not_mem_nil) dX7_odds_32
    · -- f10
      have hpp : ¬ (¬ pp = -1 ∧ isP n pp = false) := fun q => q.1 c10
      refine lv_iload_n hx hb dX7_odds_13 rfl (lv_at hl 2 rfl) ?_
      refine lv_iconst (v := 0) hx hb dX7_odds_14 (by decide) ?_
      refine lv_iconst (v := 1) hx hb dX7_odds_15 (by decide) ?_
      have hPc := hP.sub (ws' := []) [] rfl
      refine vp_callSi (va_Run.run (va_runS (As := [.int wh, .int 0, .int 1]) (rest := []) ⟨hx, hb, hml, hown, hts⟩ (c_X7_within l D cI cO wh 0 1) (va_cwS 3 hts gX7_odds_X7_within rfl rfl rfl (by decide +kernel) ⟨Nat.le_of_ble_eq_true rfl, Nat.le_of_ble_eq_true rfl⟩) (preSR hPc hK hNw) rfl rfl hl.1 rfl (lv_room (Nat.le_of_ble_eq_true rfl)) dX7_odds_16 ⟨Nat.zero_le _, Nat.zero_le _⟩)) (fun r16 w16 => ?_)
      by_cases b16 : lstT wh 0 1 = true
      · -- y16
        obtain rfl := w16.1 b16
        have hw1 : ¬ wh < 0 ∧ wh ≤ 1 := lst_in b16
        refine lv_if_eq (tgt := 29) hx hb dX7_odds_19 (by decide) (fun h => absurd h (by decide)) (fun _ => ?_)
        refine lv_aload_n hx hb dX7_odds_22 rfl (lv_at hl 0 rfl) ?_
        refine va_get (D := D) (ci := 7) (v := .int (nI n)) (C := RX7) (T := TX7) (N := 28) hx hb hts iX7 hown hK hP 0 rfl rfl 5 (by decide) f65 (fun _ h9 => h9) rfl dX7_odds_23 ?_
        refine lv_if_ne (tgt := 33) hx hb dX7_odds_26 (by decide) (fun c26 => ?_) (fun c26 => ?_)
        · -- t26
          refine lv_iconst (v := 0) hx hb dX7_odds_33 (by decide) ?_
          refine lv_istore_n (lv' := [(3, .int 0), (0, .ref x), (1, .int pp), (2, .int wh)]) hx hb dX7_odds_34 rfl hl (by decide) rfl (fun ls hl => ?_)
          refine lv_iconst (v := 0) hx hb dX7_odds_35 (by decide) ?_
          refine lv_istore (lv' := [(4, .int 0), (3, .int 0), (0, .ref x), (1, .int pp), (2, .int wh)]) hx hb dX7_odds_36 hl (by decide) rfl (fun ls hl => ?_)
          refine lv_iconst (v := 0) hx hb dX7_odds_38 (by decide) ?_
          refine lv_istore (lv' := [(5, .int 0), (4, .int 0), (3, .int 0), (0, .ref x), (1, .int pp), (2, .int wh)]) hx hb dX7_odds_39 hl (by decide) rfl (fun ls hl => ?_)
          have lp41 : ∀ (fu41 : Nat) (i : Nat) (hi : i ≤ 2 ^ n) (hm41 : 2 ^ n - i < fu41) (ls : Array Slot) (hl : lv_has ls 6 [(0, .ref x), (1, .int pp), (2, .int wh), (3, .int (nI (oddN n sd (mskP pp) i).1)), (4, .int (nI (oddN n sd (mskP pp) i).2)), (5, .int (nI i))]), W p l e (headSpec wsX7_odds ({ frames := 3, cells := 0, slots := 0, locals := 65 } : Room)).room s m ([.ref x, .int pp, .int wh]).toArray below meth c s.heap [] 0 0 (MQ below (vp_Sl (fun r => r = (oddM n sd pp wh))) ([.ref x, .int pp, .int wh]).toArray s 0 0 (fun _ => False)) (F0 m 41 ls []) := by
            intro fu41
            induction fu41 with
            | zero =>
              intros; omega
            | succ fu41 ih41 =>
              intro i hi hm41 ls hl
              refine lv_iload hx hb dX7_odds_41 (lv_at hl 5 rfl) ?_
              refine lv_iconst (v := 1) hx hb dX7_odds_43 (by decide) ?_
              refine lv_aload_n hx hb dX7_odds_44 rfl (lv_at hl 0 rfl) ?_
              refine va_get (D := D) (ci := 7) (v := .int (nI n)) (C := RX7) (T := TX7) (N := 28) hx hb hts iX7 hown hK hP 0 rfl rfl 5 (by decide) f65 (fun _ h9 => h9) rfl dX7_odds_45 ?_
              refine lv_ishl hx hb dX7_odds_48 ?_
              refine tp_i (y := nI (2 ^ n)) (hs2) ?_
              refine lv_icmp_ge (tgt := 103) hx hb dX7_odds_49 (by decide) (fun c49 => ?_) (fun c49 => ?_)
              · -- t49
                have e49 : i = 2 ^ n := by have q := ge_n (by omega) (by omega) c49; omega
                rw [e49] at hl
                refine lv_iload hx hb dX7_odds_103 (lv_at hl 4 rfl) ?_
                refine lv_i2l hx hb dX7_odds_105 rfl ?_
                refine tp_l (y := lN (oddN n sd (mskP pp) (2 ^ n)).2) (nI_l (by have q := oddN_le n sd (mskP pp) (2 ^ n); omega)) ?_
                refine lv_iload_n hx hb dX7_odds_106 rfl (lv_at hl 3 rfl) ?_
                refine lv_i2l hx hb dX7_odds_107 rfl ?_
                refine tp_l (y := lN (oddN n sd (mskP pp) (2 ^ n)).1) (nI_l (by have q := oddN_le n sd (mskP pp) (2 ^ n); omega)) ?_
                refine lv_iload_n hx hb dX7_odds_108 rfl (lv_at hl 2 rfl) ?_
                have hle := oddN_le n sd (mskP pp) (2 ^ n)
                have h3n : 3 ≤ n := h3.resolve_left (fun q => c26 (by rw [q]; rfl))
                have hal : 0 < (oddN n sd (mskP pp) (2 ^ n)).1 := by rw [c10]; exact odd_all h3n
                have hPc := hP.sub (ws' := []) [] rfl
                refine vp_callSl (va_Run.run (va_runS (As := [.long (lN (oddN n sd (mskP pp) (2 ^ n)).2), .long (lN (oddN n sd (mskP pp) (2 ^ n)).1), .int wh]) (rest := []) ⟨hx, hb, hml, hown, hts⟩ (c_X7_inLeastTerms l D cI cO (oddN n sd (mskP pp) (2 ^ n)).2 (oddN n sd (mskP pp) (2 ^ n)).1 wh (by omega) (by omega) (by omega)) (va_cwS 3 hts gX7_odds_X7_inLeastTerms rfl rfl rfl (by decide +kernel) ⟨Nat.le_of_ble_eq_true rfl, Nat.le_of_ble_eq_true rfl⟩) (preSR hPc hK hNw) rfl rfl hl.1 rfl (lv_room (Nat.le_of_ble_eq_true rfl)) dX7_odds_109 ⟨Nat.zero_le _, Nat.zero_le _⟩)) (fun r109 w109 => ?_)
                obtain rfl := w109
                exact W.lret (v := if wh = 0 then lN ((oddN n sd (mskP pp) (2 ^ n)).2 / Nat.gcd (oddN n sd (mskP pp) (2 ^ n)).2 (oddN n sd (mskP pp) (2 ^ n)).1) else lN ((oddN n sd (mskP pp) (2 ^ n)).1 / Nat.gcd (oddN n sd (mskP pp) (2 ^ n)).2 (oddN n sd (mskP pp) (2 ^ n)).1)) hx hb hr (fun t ht hW => ⟨_, rfl, by unfold oddM; rw [if_neg hpp, if_pos hw1, if_neg c26], ht⟩) (fun _ h => absurd h List.not_mem_nil) dX7_odds_112
              · -- f49
                have l49 : i < 2 ^ n := lt_n (by omega) (by omega) c49
                refine lv_iload hx hb dX7_odds_52 (lv_at hl 5 rfl) ?_
                have hPc := hP.sub (ws' := []) [] rfl
                refine vp_callSi (va_Run.run (va_runS (As := [.int (nI i)]) (rest := []) ⟨hx, hb, hml, hown, hts⟩ (c_X7_size l D cI cO i (by omega)) (va_cwS 1 hts gX7_odds_X7_size rfl rfl rfl (by decide +kernel) ⟨Nat.le_of_ble_eq_true rfl, Nat.le_of_ble_eq_true rfl⟩) (preSR hPc hK hNw) rfl rfl hl.1 rfl (lv_room (Nat.le_of_ble_eq_true rfl)) dX7_odds_54 ⟨Nat.zero_le _, Nat.zero_le _⟩)) (fun r54 w54 => ?_)
                obtain rfl := w54
                refine lv_iconst (v := 3) hx hb dX7_odds_57 (by decide) ?_
                refine lv_icmp_ne (tgt := 97) hx hb dX7_odds_58 (by decide) (fun c58 => ?_) (fun c58 => ?_)
                · -- t58
                  refine lv_iinc (v := nI (i + 1)) (lv' := [(5, .int (nI (i + 1))), (0, .ref x), (1, .int pp), (2, .int wh), (3, .int (nI (oddN n sd (mskP pp) i).1)), (4, .int (nI (oddN n sd (mskP pp) i).2))]) hx hb dX7_odds_97 hl (k := 5) rfl (nI_1 _) (by decide) rfl (fun ls hl => ?_)
                  refine lv_goto (tgt := 41) hx hb dX7_odds_100 (by decide) ?_
                  have e41_3 : (nI (oddN n sd (mskP pp) i).1) = nI (oddN n sd (mskP pp) (i + 1)).1 := by rw [oddN_s]; first | (rw [if_pos ⟨c58, hmk⟩]; done) | (rw [if_neg (fun q => hmk q.2)]; done) | (rw [if_neg (fun q => c58 q.1)]; done)
                  have hl : lv_has ls 6 [(5, .int (nI (i + 1))), (0, .ref x), (1, .int pp), (2, .int wh), (3, .int (nI (oddN n sd (mskP pp) (i + 1)).1)), (4, .int (nI (oddN n sd (mskP pp) i).2))] := by rw [← e41_3]; exact hl
                  have e41_4 : (nI (oddN n sd (mskP pp) i).2) = nI (oddN n sd (mskP pp) (i + 1)).2 := by rw [oddN_s]; first | (rw [if_pos ⟨c58, hmk⟩, if_pos b83]; exact nI_1 _) | (rw [if_pos ⟨c58, hmk⟩, if_neg b83]; exact Int32.add_zero _) | (rw [if_neg (fun q => hmk q.2)]; done) | (rw [if_neg (fun q => c58 q.1)]; done)
                  have hl : lv_has ls 6 [(5, .int (nI (i + 1))), (0, .ref x), (1, .int pp), (2, .int wh), (3, .int (nI (oddN n sd (mskP pp) (i + 1)).1)), (4, .int (nI (oddN n sd (mskP pp) (i + 1)).2))] := by rw [← e41_4]; exact hl
                  exact ih41 (i + 1) (by omega) (by omega) _ (lv_sub hl [1, 2, 3, 4, 5, 0] rfl)
                · -- f58
                  refine lv_iload_n hx hb dX7_odds_61 rfl (lv_at hl 1 rfl) ?_
                  refine lv_iconst (v := -1) hx hb dX7_odds_62 (by decide) ?_
                  refine lv_icmp_eq (tgt := 75) hx hb dX7_odds_63 (by decide) (fun c63 => ?_) (fun c63 => ?_)
                  · -- t63
                    have hmk : (nI i &&& mskP pp) = mskP pp := by rw [c63]; exact msk_m1
                    refine lv_iinc (v := nI ((oddN n sd (mskP pp) i).1 + 1)) (lv' := [(3, .int (nI ((oddN n sd (mskP pp) i).1 + 1))), (0, .ref x), (1, .int pp), (2, .int wh), (4, .int (nI (oddN n sd (mskP pp) i).2)), (5, .int (nI i))]) hx hb dX7_odds_75 hl (k := 3) rfl (nI_1 _) (by decide) rfl (fun ls hl => ?_)
                    refine lv_iload hx hb dX7_odds_78 (lv_at hl 4 rfl) ?_
                    refine lv_aload_n hx hb dX7_odds_80 rfl (lv_at hl 1 rfl) ?_
                    refine lv_iload hx hb dX7_odds_81 (lv_at hl 5 rfl) ?_
                    have hPc := hP.sub (ws' := [(x, .inr (7, [.int fa, .int tr, .ref so, .ref sl, .ref ce, .int (nI n), .int bar, .int (nI tn), .ref ki, .ref si, .ref th, .ref ri, .int at_, .int rp, .ref rk, .ref rs, .ref kt, .ref kr, .int kn, .int rg, .ref ab, .int am, .ref bh, .int bm, .int br, .int (nI rn), .ref wa, .ref ra])), (si, .inl (cI, 9, .inl sd))]) [0, 1] rfl
                    refine vp_callSi (va_Run.run (va_runV (As := [.int (nI i)]) (rest := [.int (nI (oddN n sd (mskP pp) i).2)]) ⟨hx, hb, hml, hown, hts⟩ (c_X7_canHang l D cI cO x fa tr so sl ce n bar tn ki si th ri at_ rp rk rs kt kr kn rg ab am bh bm br rn wa ra sd i (by assumption) (by omega)) (cwV 1 hts gX7_odds_X7_canHang rfl rfl rfl (by decide +kernel) ⟨Nat.le_of_ble_eq_true rfl, Nat.le_of_ble_eq_true rfl⟩) (preVR hPc hK hNw (va_recv hK hPc (ci := 7) (q0 := 0) rfl rfl)) rfl rfl hl.1 rfl (lv_room (Nat.le_of_ble_eq_true rfl)) dX7_odds_83 ⟨Nat.zero_le _, Nat.zero_le _⟩)) (fun r83 w83 => ?_)
                    by_cases b83 : canH n sd (nI i) = true
                    · -- y83
                      obtain rfl := w83.1 b83
                      refine lv_if_eq (tgt := 93) hx hb dX7_odds_86 (by decide) (fun h => absurd h (by decide)) (fun _ => ?_)
                      refine lv_iconst (v := 1) hx hb dX7_odds_89 (by decide) ?_
                      refine lv_goto (tgt := 94) hx hb dX7_odds_90 (by decide) ?_
                      refine lv_iadd hx hb dX7_odds_94 ?_
                      refine lv_istore (lv' := [(4, .int ((nI (oddN n sd (mskP pp) i).2) + 1)), (3, .int (nI ((oddN n sd (mskP pp) i).1 + 1))), (0, .ref x), (1, .int pp), (2, .int wh), (5, .int (nI i))]) hx hb dX7_odds_95 hl (by decide) rfl (fun ls hl => ?_)
                      refine lv_iinc (v := nI (i + 1)) (lv' := [(5, .int (nI (i + 1))), (4, .int ((nI (oddN n sd (mskP pp) i).2) + 1)), (3, .int (nI ((oddN n sd (mskP pp) i).1 + 1))), (0, .ref x), (1, .int pp), (2, .int wh)]) hx hb dX7_odds_97 hl (k := 5) rfl (nI_1 _) (by decide) rfl (fun ls hl => ?_)
                      refine lv_goto (tgt := 41) hx hb dX7_odds_100 (by decide) ?_
                      have e41_3 : (nI ((oddN n sd (mskP pp) i).1 + 1)) = nI (oddN n sd (mskP pp) (i + 1)).1 := by rw [oddN_s]; first | (rw [if_pos ⟨c58, hmk⟩]; done) | (rw [if_neg (fun q => hmk q.2)]; done) | (rw [if_neg (fun q => c58 q.1)]; done)
                      have hl : lv_has ls 6 [(5, .int (nI (i + 1))), (4, .int ((nI (oddN n sd (mskP pp) i).2) + 1)), (3, .int (nI (oddN n sd (mskP pp) (i + 1)).1)), (0, .ref x), (1, .int pp), (2, .int wh)] := by rw [← e41_3]; exact hl
                      have e41_4 : ((nI (oddN n sd (mskP pp) i).2) + 1) = nI (oddN n sd (mskP pp) (i + 1)).2 := by rw [oddN_s]; first | (rw [if_pos ⟨c58, hmk⟩, if_pos b83]; exact nI_1 _) | (rw [if_pos ⟨c58, hmk⟩, if_neg b83]; exact Int32.add_zero _) | (rw [if_neg (fun q => hmk q.2)]; done) | (rw [if_neg (fun q => c58 q.1)]; done)
                      have hl : lv_has ls 6 [(5, .int (nI (i + 1))), (4, .int (nI (oddN n sd (mskP pp) (i + 1)).2)), (3, .int (nI (oddN n sd (mskP pp) (i + 1)).1)), (0, .ref x), (1, .int pp), (2, .int wh)] := by rw [← e41_4]; exact hl
                      exact ih41 (i + 1) (by omega) (by omega) _ (lv_sub hl [3, 4, 5, 2, 1, 0] rfl)
                    · -- n83
                      obtain rfl := w83.2 b83
                      refine lv_if_eq (tgt := 93) hx hb dX7_odds_86 (by decide) (fun _ => ?_) (fun h => absurd (by decide) h)
                      refine lv_iconst (v := 0) hx hb dX7_odds_93 (by decide) ?_
                      refine lv_iadd hx hb dX7_odds_94 ?_
                      refine lv_istore (lv' := [(4, .int ((nI (oddN n sd (mskP pp) i).2) + 0)), (3, .int (nI ((oddN n sd (mskP pp) i).1 + 1))), (0, .ref x), (1, .int pp), (2, .int wh), (5, .int (nI i))]) hx hb dX7_odds_95 hl (by decide) rfl (fun ls hl => ?_)
                      refine lv_iinc (v := nI (i + 1)) (lv' := [(5, .int (nI (i + 1))), (4, .int ((nI (oddN n sd (mskP pp) i).2) + 0)), (3, .int (nI ((oddN n sd (mskP pp) i).1 + 1))), (0, .ref x), (1, .int pp), (2, .int wh)]) hx hb dX7_odds_97 hl (k := 5) rfl (nI_1 _) (by decide) rfl (fun ls hl => ?_)
                      refine lv_goto (tgt := 41) hx hb dX7_odds_100 (by decide) ?_
                      have e41_3 : (nI ((oddN n sd (mskP pp) i).1 + 1)) = nI (oddN n sd (mskP pp) (i + 1)).1 := by rw [oddN_s]; first | (rw [if_pos ⟨c58, hmk⟩]; done) | (rw [if_neg (fun q => hmk q.2)]; done) | (rw [if_neg (fun q => c58 q.1)]; done)
                      have hl : lv_has ls 6 [(5, .int (nI (i + 1))), (4, .int ((nI (oddN n sd (mskP pp) i).2) + 0)), (3, .int (nI (oddN n sd (mskP pp) (i + 1)).1)), (0, .ref x), (1, .int pp), (2, .int wh)] := by rw [← e41_3]; exact hl
                      have e41_4 : ((nI (oddN n sd (mskP pp) i).2) + 0) = nI (oddN n sd (mskP pp) (i + 1)).2 := by rw [oddN_s]; first | (rw [if_pos ⟨c58, hmk⟩, if_pos b83]; exact nI_1 _) | (rw [if_pos ⟨c58, hmk⟩, if_neg b83]; exact Int32.add_zero _) | (rw [if_neg (fun q => hmk q.2)]; done) | (rw [if_neg (fun q => c58 q.1)]; done)
                      have hl : lv_has ls 6 [(5, .int (nI (i + 1))), (4, .int (nI (oddN n sd (mskP pp) (i + 1)).2)), (3, .int (nI (oddN n sd (mskP pp) (i + 1)).1)), (0, .ref x), (1, .int pp), (2, .int wh)] := by rw [← e41_4]; exact hl
                      exact ih41 (i + 1) (by omega) (by omega) _ (lv_sub hl [3, 4, 5, 2, 1, 0] rfl)
                  · -- f63
                    exact absurd c10 c63
          exact lp41 _ 0 (Nat.zero_le _) (Nat.lt_succ_self _) _ (lv_sub hl [3, 4, 5, 2, 1, 0] rfl)
        · -- f26
          refine lv_ldc2 hx hb hown (hts (.constantLong RX7 59 (-9223372036854775808)) (by decide +kernel)) dX7_odds_29 ?_
          exact W.lret (v := (-9223372036854775808)) hx hb hr (fun t ht hW => ⟨_, rfl, by first | exact (if_pos hpn).symm | (unfold oddM; rw [if_neg hpp, if_neg hw0]) | (unfold oddM; rw [if_neg hpp, if_pos hw1, if_pos c26]), ht⟩) (fun _ h => absurd h List.not_mem_nil) dX7_odds_32
      · -- n16
        obtain rfl := w16.2 b16
        have hw0 : ¬ (¬ wh < 0 ∧ wh ≤ 1) := fun q => b16 (decide_eq_true ⟨q.1, fun z => le_nlt q.2 z⟩)
        refine lv_if_eq (tgt := 29) hx hb dX7_odds_19 (by decide) (fun _ => ?_) (fun h => absurd (by decide) h)
        refine lv_ldc2 hx hb hown (hts (.constantLong RX7 59 (-9223372036854775808)) (by decide +kernel)) dX7_odds_29 ?_
        exact W.lret (v := (-9223372036854775808)) hx hb hr (fun t ht hW => ⟨_, rfl, by first | exact (if_pos hpn).symm | (unfold oddM; rw [if_neg hpp, if_neg hw0]) | (unfold oddM; rw [if_neg hpp, if_pos hw1, if_pos c26]), ht⟩) (fun _ h => absurd h List.not_mem_nil) dX7_odds_32

set_option maxHeartbeats 4000000 in
set_option maxRecDepth 100000 in
theorem c_X7_copy (l : Launch) (D : va_G) (cI cO : ClassId) (x : Nat) (fa : Int32) (tr : Int32) (so : Nat) (sl : Nat) (ce : Nat) (n : Nat) (bar : Int32) (tn : Nat) (ki : Nat) (si : Nat) (th : Nat) (ri : Nat) (at_ : Int32) (rp : Int32) (rk : Nat) (rs : Nat) (kt : Nat) (kr : Nat) (kn : Int32) (rg : Int32) (ab : Nat) (am : Int32) (bh : Nat) (bm : Int32) (br : Int32) (rn : Nat) (wa : Nat) (ra : Nat) (sv : Nat → Int32) (lv : Nat → Int32) (cv : Nat → Int32) (kq : Int32) (i : Int32) (jq : Int32) (j : Int32) (v : Int32) (sz : Nat) (hom : okM sv lv) : Met l yX7_copy wsX7_copy ({ frames := 2, cells := 0, slots := 0, locals := 42 } : Room) (va_Pc [.ref x, .int kq, .int i, .int jq, .int j, .int v] (wdW D cI cO [(x, .inr (7, [.int fa, .int tr, .ref so, .ref sl, .ref ce, .int (nI n), .int bar, .int (nI tn), .ref ki, .ref si, .ref th, .ref ri, .int at_, .int rp, .ref rk, .ref rs, .ref kt, .ref kr, .int kn, .int rg, .ref ab, .int am, .ref bh, .int bm, .int br, .int (nI rn), .ref wa, .ref ra])), (so, .inl (cI, 4, .inl sv)), (sl, .inl (cI, 4, .inl lv)), (ce, .inl (cI, 240, .inl cv))] sz)) (va_Qi (S := Int32 × (Nat → Int32)) (fun r u => r = (onKK kq jq (cpMR (sv kq.toNatClampNeg) (lv kq.toNatClampNeg) (sv jq.toNatClampNeg) (lv jq.toNatClampNeg) i j v) (-1)) ∧ u.1 = (onKK kq jq (cpMA (sv kq.toNatClampNeg) (lv kq.toNatClampNeg) (sv jq.toNatClampNeg) (lv jq.toNatClampNeg) i j v) 0) ∧ u.2 = (onKK kq jq (cpMF (sv kq.toNatClampNeg) (lv kq.toNatClampNeg) (sv jq.toNatClampNeg) (lv jq.toNatClampNeg) i j v cv kq.toNatClampNeg jq.toNatClampNeg) cv)) (fun u t => va_P D vwCl [(x, .inr (7, [.int u.1, .int tr, .ref so, .ref sl, .ref ce, .int (nI n), .int bar, .int (nI tn), .ref ki, .ref si, .ref th, .ref ri, .int at_, .int rp, .ref rk, .ref rs, .ref kt, .ref kr, .int kn, .int rg, .ref ab, .int am, .ref bh, .int bm, .int br, .int (nI rn), .ref wa, .ref ra])), (so, .inl (cI, 4, .inl sv)), (sl, .inl (cI, 4, .inl lv)), (ce, .inl (cI, 240, .inl u.2))] t.heap ∧ va_K D vwCl (tyL cI cO) t ∧ va_D (va_A [(x, .inr (7, [.int fa, .int tr, .ref so, .ref sl, .ref ce, .int (nI n), .int bar, .int (nI tn), .ref ki, .ref si, .ref th, .ref ri, .int at_, .int rp, .ref rk, .ref rs, .ref kt, .ref kr, .int kn, .int rg, .ref ab, .int am, .ref bh, .int bm, .int br, .int (nI rn), .ref wa, .ref ra])), (so, .inl (cI, 4, .inl sv)), (sl, .inl (cI, 4, .inl lv)), (ce, .inl (cI, 240, .inl cv))] sz) [(x, .inr (7, [.int u.1, .int tr, .ref so, .ref sl, .ref ce, .int (nI n), .int bar, .int (nI tn), .ref ki, .ref si, .ref th, .ref ri, .int at_, .int rp, .ref rk, .ref rs, .ref kt, .ref kr, .int kn, .int rg, .ref ab, .int am, .ref bh, .int bm, .int br, .int (nI rn), .ref wa, .ref ra])), (so, .inl (cI, 4, .inl sv)), (sl, .inl (cI, 4, .inl lv)), (ce, .inl (cI, 240, .inl u.2))]) (va_A [(x, .inr (7, [.int fa, .int tr, .ref so, .ref sl, .ref ce, .int (nI n), .int bar, .int (nI tn), .ref ki, .ref si, .ref th, .ref ri, .int at_, .int rp, .ref rk, .ref rs, .ref kt, .ref kr, .int kn, .int rg, .ref ab, .int am, .ref bh, .int bm, .int br, .int (nI rn), .ref wa, .ref ra])), (so, .inl (cI, 4, .inl sv)), (sl, .inl (cI, 4, .inl lv)), (ce, .inl (cI, 240, .inl cv))] sz)) 0 0 (va_A [(x, .inr (7, [.int fa, .int tr, .ref so, .ref sl, .ref ce, .int (nI n), .int bar, .int (nI tn), .ref ki, .ref si, .ref th, .ref ri, .int at_, .int rp, .ref rk, .ref rs, .ref kt, .ref kr, .int kn, .int rg, .ref ab, .int am, .ref bh, .int bm, .int br, .int (nI rn), .ref wa, .ref ra])), (so, .inl (cI, 4, .inl sv)), (sl, .inl (cI, 4, .inl lv)), (ce, .inl (cI, 240, .inl cv))] sz) := by
  refine Met.ofW (cc := cX7_copy) (maxL := 10) (ret := (some .int)) (by decide) rfl ?_
  intro p e s m args below meth c s₁ B hml hv
  obtain ⟨rfl, hsz, hP, hK, hNw, hD0⟩ := hv
  have hx := B.exec
  have hb := B.bytes
  have hr := B.returns
  have hts := atoms_spec (ws := wsX7_copy) B.pre
  have hown : s.vm.findClass RX7 = some m.cls := findClass_of_methodNamed B.named
  have hlocks := B.notSynchronized
  have f9 := hts (.fieldLink RX7 9 "StruckThreesModel" "sorts" "[I") (by decide +kernel)
  have f13 := hts (.fieldLink RX7 13 "StruckThreesModel" "sheetLong" "[I") (by decide +kernel)
  have f16 := hts (.fieldLink RX7 16 "StruckThreesModel" "cells" "[I") (by decide +kernel)
  have f55 := hts (.fieldLink RX7 55 "StruckThreesModel" "fault" "I") (by decide +kernel)
  have iX7 : ∀ w ∈ wsX70, w ∈ wsX7_copy := by decide +kernel
  subst hsz
  have hD := hD0.self (sz := s.heap.size)
  generalize hAe : va_A [(x, .inr (7, [.int fa, .int tr, .ref so, .ref sl, .ref ce, .int (nI n), .int bar, .int (nI tn), .ref ki, .ref si, .ref th, .ref ri, .int at_, .int rp, .ref rk, .ref rs, .ref kt, .ref kr, .int kn, .int rg, .ref ab, .int am, .ref bh, .int bm, .int br, .int (nI rn), .ref wa, .ref ra])), (so, .inl (cI, 4, .inl sv)), (sl, .inl (cI, 4, .inl lv)), (ce, .inl (cI, 240, .inl cv))] s.heap.size = A at hD ⊢
  have hA : ∀ q : Nat, s.heap.size ≤ q → A q := fun q h => by rw [← hAe]; exact Or.inr h
  have hS : va_S A s.heap s.heap [] := va_S.rf
  have hP : va_P D vwCl [(x, .inr (7, [.int fa, .int tr, .ref so, .ref sl, .ref ce, .int (nI n), .int bar, .int (nI tn), .ref ki, .ref si, .ref th, .ref ri, .int at_, .int rp, .ref rk, .ref rs, .ref kt, .ref kr, .int kn, .int rg, .ref ab, .int am, .ref bh, .int bm, .int br, .int (nI rn), .ref wa, .ref ra])), (so, .inl (cI, 4, .inl sv)), (sl, .inl (cI, 4, .inl lv)), (ce, .inl (cI, 240, .inl cv))] s.heap := hP
  have hl := lv_entry ([.ref x, .int kq, .int i, .int jq, .int j, .int v]) (n := 10) (Nat.le_of_ble_eq_true rfl)
  rw [lg_entry_eq]
  generalize (lg_sl ([.ref x, .int kq, .int i, .int jq, .int j, .int v]) ++ List.replicate (10 - (lg_sl ([.ref x, .int kq, .int i, .int jq, .int j, .int v])).length) Slot.unset).toArray = ls at hl ⊢
  have hl : lv_has ls 10 [(0, .ref x), (1, .int kq), (2, .int i), (3, .int jq), (4, .int j), (5, .int v)] := hl
  refine lv_aload_n hx hb dX7_copy_0 rfl (lv_at hl 0 rfl) ?_
  refine lv_iconst (v := 0) hx hb dX7_copy_1 (by decide) ?_
  refine va_put (D := D) (ci := 7) (v := .int 0) (ty := .int) (C := RX7) (T := TX7) (N := 28) hx hb hts iX7 tyX7 tyX7_ok nmX7 hown hK hP hD hS 0 rfl rfl 0 (by decide) f55 (fun _ h9 => h9) rfl (by decide +kernel) rfl rfl (Nat.le_of_ble_eq_true rfl) dX7_copy_2 (fun H locs hP hD hS => ?_)
  have hP : va_P D vwCl [(x, .inr (7, [.int 0, .int tr, .ref so, .ref sl, .ref ce, .int (nI n), .int bar, .int (nI tn), .ref ki, .ref si, .ref th, .ref ri, .int at_, .int rp, .ref rk, .ref rs, .ref kt, .ref kr, .int kn, .int rg, .ref ab, .int am, .ref bh, .int bm, .int br, .int (nI rn), .ref wa, .ref ra])), (so, .inl (cI, 4, .inl sv)), (sl, .inl (cI, 4, .inl lv)), (ce, .inl (cI, 240, .inl cv))] H := hP
  have hD : va_D A [(x, .inr (7, [.int 0, .int tr, .ref so, .ref sl, .ref ce, .int (nI n), .int bar, .int (nI tn), .ref ki, .ref si, .ref th, .ref ri, .int at_, .int rp, .ref rk, .ref rs, .ref kt, .ref kr, .int kn, .int rg, .ref ab, .int am, .ref bh, .int bm, .int br, .int (nI rn), .ref wa, .ref ra])), (so, .inl (cI, 4, .inl sv)), (sl, .inl (cI, 4, .inl lv)), (ce, .inl (cI, 240, .inl cv))] := hD
  refine lv_iload_n hx hb dX7_copy_5 rfl (lv_at hl 1 rfl) ?_
  have hPc := hP.sub (ws' := []) [] rfl
  refine vp_callSi (va_Run.run (va_runS (As := [.int kq]) (rest := []) ⟨hx, hb, hml, hown, hts⟩ (c_X7_isSheet l D cI cO kq) (va_cwS 1 hts gX7_copy_X7_isSheet rfl rfl rfl (by decide +kernel) ⟨Nat.le_of_ble_eq_true rfl, Nat.le_of_ble_eq_true rfl⟩) (preSR hPc hK hNw) rfl rfl hl.1 rfl (lv_room (Nat.le_of_ble_eq_true rfl)) dX7_copy_6 ⟨Nat.zero_le _, Nat.zero_le _⟩)) (fun r6 w6 => ?_)
  by_cases b6 : ¬ kq < 0 ∧ kq < 4
  · -- y6
    obtain rfl := w6.1 b6
    obtain ⟨q, hq4, rfl⟩ := vp_in_of (in4 b6.1 b6.2) (by decide)
    have cq := nI_clamp (n := q) (by omega)
    have hk := b6
    refine lv_if_eq (tgt := 19) hx hb dX7_copy_9 (by decide) (fun h => absurd h (by decide)) (fun _ => ?_)
    refine lv_iload_n hx hb dX7_copy_12 rfl (lv_at hl 3 rfl) ?_
    have hPc := hP.sub (ws' := []) [] rfl
    refine vp_callSi (va_Run.run (va_runS (As := [.int jq]) (rest := []) ⟨hx, hb, hml, hown, hts⟩ (c_X7_isSheet l D cI cO jq) (va_cwS 1 hts gX7_copy_X7_isSheet rfl rfl rfl (by decide +kernel) ⟨Nat.le_of_ble_eq_true rfl, Nat.le_of_ble_eq_true rfl⟩) (preSR hPc hK hNw) rfl rfl hl.1 rfl (lv_room (Nat.le_of_ble_eq_true rfl)) dX7_copy_13 ⟨Nat.zero_le _, Nat.zero_le _⟩)) (fun r13 w13 => ?_)
    by_cases b13 : ¬ jq < 0 ∧ jq < 4
    · -- y13
      obtain rfl := w13.1 b13
      obtain ⟨o, ho4, rfl⟩ := vp_in_of (in4 b13.1 b13.2) (by decide)
      have co := nI_clamp (n := o) (by omega)
      have hk2 := b13
      refine lv_if_ne (tgt := 21) hx hb dX7_copy_16 (by decide) (fun _ => ?_) (fun h => absurd h (by decide))
      refine lv_aload_n hx hb dX7_copy_21 rfl (lv_at hl 0 rfl) ?_
      refine va_get (D := D) (ci := 7) (v := .ref so) (C := RX7) (T := TX7) (N := 28) hx hb hts iX7 hown hK hP 0 rfl rfl 2 (by decide) f9 (fun _ h9 => h9) rfl dX7_copy_22 ?_
      refine lv_iload_n hx hb dX7_copy_25 rfl (lv_at hl 1 rfl) ?_
      refine va_iald hx hb hK hP 1 0 rfl rfl (vp_in_nI (by omega) (by decide)) dX7_copy_26 ?_
      refine tp_i (y := sv q) (by rw [nI_clamp (n := q) (by omega)]) ?_
      refine lv_bipush (v := -9) hx hb dX7_copy_27 (by decide) ?_
      refine lv_icmp_eq (tgt := 43) hx hb dX7_copy_29 (by decide) (fun c29 => ?_) (fun c29 => ?_)
      · -- t29
        refine lv_aload_n hx hb dX7_copy_43 rfl (lv_at hl 0 rfl) ?_
        refine lv_iconst (v := 1) hx hb dX7_copy_44 (by decide) ?_
        have hPc := hP.sub (ws' := [(x, .inr (7, [.int 0, .int tr, .ref so, .ref sl, .ref ce, .int (nI n), .int bar, .int (nI tn), .ref ki, .ref si, .ref th, .ref ri, .int at_, .int rp, .ref rk, .ref rs, .ref kt, .ref kr, .int kn, .int rg, .ref ab, .int am, .ref bh, .int bm, .int br, .int (nI rn), .ref wa, .ref ra]))]) [0] rfl
        have hDc := hD.sub (ws' := [(x, .inr (7, [.int 0, .int tr, .ref so, .ref sl, .ref ce, .int (nI n), .int bar, .int (nI tn), .ref ki, .ref si, .ref th, .ref ri, .int at_, .int rp, .ref rk, .ref rs, .ref kt, .ref kr, .int kn, .int rg, .ref ab, .int am, .ref bh, .int bm, .int br, .int (nI rn), .ref wa, .ref ra]))]) [0] (by decide) rfl
        have hFc := va_free (wc := [(x, .inr (7, [.int 0, .int tr, .ref so, .ref sl, .ref ce, .int (nI n), .int bar, .int (nI tn), .ref ki, .ref si, .ref th, .ref ri, .int at_, .int rp, .ref rk, .ref rs, .ref kt, .ref kr, .int kn, .int rg, .ref ab, .int am, .ref bh, .int bm, .int br, .int (nI rn), .ref wa, .ref ra]))]) hD hS hA [0] rfl
        refine va_calli (va_runV (As := [.int 1]) (rest := []) ⟨hx, hb, hml, hown, hts⟩ (c_X7_fails l D cI cO x 0 tr so sl ce n bar tn ki si th ri at_ rp rk rs kt kr kn rg ab am bh bm br rn wa ra 1 _) (cwV 1 hts gX7_copy_X7_fails rfl rfl rfl (by decide +kernel) ⟨Nat.le_of_ble_eq_true rfl, Nat.le_of_ble_eq_true rfl⟩) (preVW hPc hK hNw hDc (va_recv hK hPc (ci := 7) (q0 := 0) rfl rfl)) rfl rfl hl.1 rfl (lv_room (Nat.le_of_ble_eq_true rfl)) dX7_copy_45 ⟨Nat.zero_le _, Nat.zero_le _⟩) hS (fun q _ h => hFc q h) hFc (fun r45 u t H1 locs ht hvm w45 hB hz1 hk1 hS => ?_)
        obtain ⟨hP1, hK1, hD1⟩ := hB
        rw [ht] at hP1
        try dsimp only at w45
        obtain ⟨hP, hD⟩ := va_join (wr := [(so, .inl (cI, 4, .inl sv)), (sl, .inl (cI, 4, .inl lv)), (ce, .inl (cI, 240, .inl cv))]) (w1 := [(x, .inr (7, [.int 1, .int tr, .ref so, .ref sl, .ref ce, .int (nI n), .int bar, .int (nI tn), .ref ki, .ref si, .ref th, .ref ri, .int at_, .int rp, .ref rk, .ref rs, .ref kt, .ref kr, .int kn, .int rg, .ref ab, .int am, .ref bh, .int bm, .int br, .int (nI rn), .ref wa, .ref ra]))]) hP hD [0] [1, 2, 3] rfl rfl (by decide) (by decide) hk1 hFc hP1 hD1
        generalize H1 = H at hP hS ⊢
        have hP := hP.sub (ws' := [(x, .inr (7, [.int 1, .int tr, .ref so, .ref sl, .ref ce, .int (nI n), .int bar, .int (nI tn), .ref ki, .ref si, .ref th, .ref ri, .int at_, .int rp, .ref rk, .ref rs, .ref kt, .ref kr, .int kn, .int rg, .ref ab, .int am, .ref bh, .int bm, .int br, .int (nI rn), .ref wa, .ref ra])), (so, .inl (cI, 4, .inl sv)), (sl, .inl (cI, 4, .inl lv)), (ce, .inl (cI, 240, .inl cv))]) [3, 0, 1, 2] rfl
        have hD := hD.sub (ws' := [(x, .inr (7, [.int 1, .int tr, .ref so, .ref sl, .ref ce, .int (nI n), .int bar, .int (nI tn), .ref ki, .ref si, .ref th, .ref ri, .int at_, .int rp, .ref rk, .ref rs, .ref kt, .ref kr, .int kn, .int rg, .ref ab, .int am, .ref bh, .int bm, .int br, .int (nI rn), .ref wa, .ref ra])), (so, .inl (cI, 4, .inl sv)), (sl, .inl (cI, 4, .inl lv)), (ce, .inl (cI, 240, .inl cv))]) [3, 0, 1, 2] (by decide) rfl
        obtain rfl := w45
        exact W.iret (v := -10 - 1) hx hb hr (fun t ht hW => ⟨⟨_, (1, cv), rfl, by first | (simp only [onKK, onK_out hk]; simp; done) | (simp only [onKK, onK_in hk, onK_out hk2]; simp; done) | (simp only [onKK, onK_in hk, onK_in hk2, cq, co]; simp [cpMR, cpMA, cpMF, *]; done) | (simp only [onKK, onK_in hk, onK_in hk2, cq, co]; simp [cpMR, cpMA, cpMF, c29, c40, c61, hoc, ca, ca1, ck]; done), by rw [ht]; exact hP, va_K.moved hW.alike hK, hD⟩, hS.F ht⟩) hS.2.2 dX7_copy_48
      · -- f29
        refine lv_aload_n hx hb dX7_copy_32 rfl (lv_at hl 0 rfl) ?_
        refine va_get (D := D) (ci := 7) (v := .ref so) (C := RX7) (T := TX7) (N := 28) hx hb hts iX7 hown hK hP 0 rfl rfl 2 (by decide) f9 (fun _ h9 => h9) rfl dX7_copy_33 ?_
        refine lv_iload_n hx hb dX7_copy_36 rfl (lv_at hl 3 rfl) ?_
        refine va_iald hx hb hK hP 1 0 rfl rfl (vp_in_nI (by omega) (by decide)) dX7_copy_37 ?_
        refine tp_i (y := sv o) (by rw [nI_clamp (n := o) (by omega)]) ?_
        refine lv_bipush (v := -9) hx hb dX7_copy_38 (by decide) ?_
        refine lv_icmp_ne (tgt := 49) hx hb dX7_copy_40 (by decide) (fun c40 => ?_) (fun c40 => ?_)
        · -- t40
          refine lv_aload_n hx hb dX7_copy_49 rfl (lv_at hl 0 rfl) ?_
          refine va_get (D := D) (ci := 7) (v := .ref so) (C := RX7) (T := TX7) (N := 28) hx hb hts iX7 hown hK hP 0 rfl rfl 2 (by decide) f9 (fun _ h9 => h9) rfl dX7_copy_50 ?_
          refine lv_iload_n hx hb dX7_copy_53 rfl (lv_at hl 1 rfl) ?_
          refine va_iald hx hb hK hP 1 0 rfl rfl (vp_in_nI (by omega) (by decide)) dX7_copy_54 ?_
          refine tp_i (y := sv q) (by rw [nI_clamp (n := q) (by omega)]) ?_
          refine lv_aload_n hx hb dX7_copy_55 rfl (lv_at hl 0 rfl) ?_
          refine va_get (D := D) (ci := 7) (v := .ref so) (C := RX7) (T := TX7) (N := 28) hx hb hts iX7 hown hK hP 0 rfl rfl 2 (by decide) f9 (fun _ h9 => h9) rfl dX7_copy_56 ?_
          refine lv_iload_n hx hb dX7_copy_59 rfl (lv_at hl 3 rfl) ?_
          refine va_iald hx hb hK hP 1 0 rfl rfl (vp_in_nI (by omega) (by decide)) dX7_copy_60 ?_
          refine tp_i (y := sv o) (by rw [nI_clamp (n := o) (by omega)]) ?_
          refine lv_icmp_eq (tgt := 70) hx hb dX7_copy_61 (by decide) (fun c61 => ?_) (fun c61 => ?_)
          · -- t61
            refine lv_iload_n hx hb dX7_copy_70 rfl (lv_at hl 2 rfl) ?_
            refine lv_if_lt (tgt := 109) hx hb dX7_copy_71 (by decide) (fun c71 => ?_) (fun c71 => ?_)
            · -- t71
              have hoc : okC (lv q) (lv o) i j v = false := decide_eq_false (fun z => z.1 c71)
              refine lv_iconst (v := 0) hx hb dX7_copy_109 (by decide) ?_
              refine lv_istore (lv' := [(6, .int 0), (0, .ref x), (1, .int (nI q)), (2, .int i), (3, .int (nI o)), (4, .int j), (5, .int v)]) hx hb dX7_copy_110 hl (by decide) rfl (fun ls hl => ?_)
              refine lv_iload hx hb dX7_copy_112 (lv_at hl 0 rfl) ?_
              refine lv_if_eq (tgt := 144) hx hb dX7_copy_114 (by decide) (fun _ => ?_) (fun h => absurd (by decide) h)
              refine lv_aload_n hx hb dX7_copy_144 rfl (lv_at hl 1 rfl) ?_
              refine lv_iconst (v := 3) hx hb dX7_copy_145 (by decide) ?_
              have hPc := hP.sub (ws' := [(x, .inr (7, [.int 0, .int tr, .ref so, .ref sl, .ref ce, .int (nI n), .int bar, .int (nI tn), .ref ki, .ref si, .ref th, .ref ri, .int at_, .int rp, .ref rk, .ref rs, .ref kt, .ref kr, .int kn, .int rg, .ref ab, .int am, .ref bh, .int bm, .int br, .int (nI rn), .ref wa, .ref ra]))]) [0] rfl
              have hDc := hD.sub (ws' := [(x, .inr (7, [.int 0, .int tr, .ref so, .ref sl, .ref ce, .int (nI n), .int bar, .int (nI tn), .ref ki, .ref si, .ref th, .ref ri, .int at_, .int rp, .ref rk, .ref rs, .ref kt, .ref kr, .int kn, .int rg, .ref ab, .int am, .ref bh, .int bm, .int br, .int (nI rn), .ref wa, .ref ra]))]) [0] (by decide) rfl
              have hFc := va_free (wc := [(x, .inr (7, [.int 0, .int tr, .ref so, .ref sl, .ref ce, .int (nI n), .int bar, .int (nI tn), .ref ki, .ref si, .ref th, .ref ri, .int at_, .int rp, .ref rk, .ref rs, .ref kt, .ref kr, .int kn, .int rg, .ref ab, .int am, .ref bh, .int bm, .int br, .int (nI rn), .ref wa, .ref ra]))]) hD hS hA [0] rfl
              refine va_calli (va_runV (As := [.int 3]) (rest := []) ⟨hx, hb, hml, hown, hts⟩ (c_X7_fails l D cI cO x 0 tr so sl ce n bar tn ki si th ri at_ rp rk rs kt kr kn rg ab am bh bm br rn wa ra 3 _) (cwV 1 hts gX7_copy_X7_fails rfl rfl rfl (by decide +kernel) ⟨Nat.le_of_ble_eq_true rfl, Nat.le_of_ble_eq_true rfl⟩) (preVW hPc hK hNw hDc (va_recv hK hPc (ci := 7) (q0 := 0) rfl rfl)) rfl rfl hl.1 rfl (lv_room (Nat.le_of_ble_eq_true rfl)) dX7_copy_146 ⟨Nat.zero_le _, Nat.zero_le _⟩) hS (fun q _ h => hFc q h) hFc (fun r146 u t H1 locs ht hvm w146 hB hz1 hk1 hS => ?_)
              obtain ⟨hP1, hK1, hD1⟩ := hB
              rw [ht] at hP1
              try dsimp only at w146
              obtain ⟨hP, hD⟩ := va_join (wr := [(so, .inl (cI, 4, .inl sv)), (sl, .inl (cI, 4, .inl lv)), (ce, .inl (cI, 240, .inl cv))]) (w1 := [(x, .inr (7, [.int 3, .int tr, .ref so, .ref sl, .ref ce, .int (nI n), .int bar, .int (nI tn), .ref ki, .ref si, .ref th, .ref ri, .int at_, .int rp, .ref rk, .ref rs, .ref kt, .ref kr, .int kn, .int rg, .ref ab, .int am, .ref bh, .int bm, .int br, .int (nI rn), .ref wa, .ref ra]))]) hP hD [0] [1, 2, 3] rfl rfl (by decide) (by decide) hk1 hFc hP1 hD1
              generalize H1 = H at hP hS ⊢
              have hP := hP.sub (ws' := [(x, .inr (7, [.int 3, .int tr, .ref so, .ref sl, .ref ce, .int (nI n), .int bar, .int (nI tn), .ref ki, .ref si, .ref th, .ref ri, .int at_, .int rp, .ref rk, .ref rs, .ref kt, .ref kr, .int kn, .int rg, .ref ab, .int am, .ref bh, .int bm, .int br, .int (nI rn), .ref wa, .ref ra])), (so, .inl (cI, 4, .inl sv)), (sl, .inl (cI, 4, .inl lv)), (ce, .inl (cI, 240, .inl cv))]) [3, 0, 1, 2] rfl
              have hD := hD.sub (ws' := [(x, .inr (7, [.int 3, .int tr, .ref so, .ref sl, .ref ce, .int (nI n), .int bar, .int (nI tn), .ref ki, .ref si, .ref th, .ref ri, .int at_, .int rp, .ref rk, .ref rs, .ref kt, .ref kr, .int kn, .int rg, .ref ab, .int am, .ref bh, .int bm, .int br, .int (nI rn), .ref wa, .ref ra])), (so, .inl (cI, 4, .inl sv)), (sl, .inl (cI, 4, .inl lv)), (ce, .inl (cI, 240, .inl cv))]) [3, 0, 1, 2] (by decide) rfl
              obtain rfl := w146
              exact W.iret (v := -10 - 3) hx hb hr (fun t ht hW => ⟨⟨_, (3, cv), rfl, by first | (simp only [onKK, onK_out hk]; simp; done) | (simp only [onKK, onK_in hk, onK_out hk2]; simp; done) | (simp only [onKK, onK_in hk, onK_in hk2, cq, co]; simp [cpMR, cpMA, cpMF, *]; done) | (simp only [onKK, onK_in hk, onK_in hk2, cq, co]; simp [cpMR, cpMA, cpMF, c29, c40, c61, hoc, ca, ca1, ck]; done), by rw [ht]; exact hP, va_K.moved hW.alike hK, hD⟩, hS.F ht⟩) hS.2.2 dX7_copy_149
            · -- f71
              refine lv_iload hx hb dX7_copy_74 (lv_at hl 4 rfl) ?_
              refine lv_if_lt (tgt := 109) hx hb dX7_copy_76 (by decide) (fun c76 => ?_) (fun c76 => ?_)
              · -- t76
                have hoc : okC (lv q) (lv o) i j v = false := decide_eq_false (fun z => z.2.1 c76)
                refine lv_iconst (v := 0) hx hb dX7_copy_109 (by decide) ?_
                refine lv_istore (lv' := [(6, .int 0), (0, .ref x), (1, .int (nI q)), (2, .int i), (3, .int (nI o)), (4, .int j), (5, .int v)]) hx hb dX7_copy_110 hl (by decide) rfl (fun ls hl => ?_)
                refine lv_iload hx hb dX7_copy_112 (lv_at hl 0 rfl) ?_
                refine lv_if_eq (tgt := 144) hx hb dX7_copy_114 (by decide) (fun _ => ?_) (fun h => absurd (by decide) h)
                refine lv_aload_n hx hb dX7_copy_144 rfl (lv_at hl 1 rfl) ?_
                refine lv_iconst (v := 3) hx hb dX7_copy_145 (by decide) ?_
                have hPc := hP.sub (ws' := [(x, .inr (7, [.int 0, .int tr, .ref so, .ref sl, .ref ce, .int (nI n), .int bar, .int (nI tn), .ref ki, .ref si, .ref th, .ref ri, .int at_, .int rp, .ref rk, .ref rs, .ref kt, .ref kr, .int kn, .int rg, .ref ab, .int am, .ref bh, .int bm, .int br, .int (nI rn), .ref wa, .ref ra]))]) [0] rfl
                have hDc := hD.sub (ws' := [(x, .inr (7, [.int 0, .int tr, .ref so, .ref sl, .ref ce, .int (nI n), .int bar, .int (nI tn), .ref ki, .ref si, .ref th, .ref ri, .int at_, .int rp, .ref rk, .ref rs, .ref kt, .ref kr, .int kn, .int rg, .ref ab, .int am, .ref bh, .int bm, .int br, .int (nI rn), .ref wa, .ref ra]))]) [0] (by decide) rfl
                have hFc := va_free (wc := [(x, .inr (7, [.int 0, .int tr, .ref so, .ref sl, .ref ce, .int (nI n), .int bar, .int (nI tn), .ref ki, .ref si, .ref th, .ref ri, .int at_, .int rp, .ref rk, .ref rs, .ref kt, .ref kr, .int kn, .int rg, .ref ab, .int am, .ref bh, .int bm, .int br, .int (nI rn), .ref wa, .ref ra]))]) hD hS hA [0] rfl
                refine va_calli (va_runV (As := [.int 3]) (rest := []) ⟨hx, hb, hml, hown, hts⟩ (c_X7_fails l D cI cO x 0 tr so sl ce n bar tn ki si th ri at_ rp rk rs kt kr kn rg ab am bh bm br rn wa ra 3 _) (cwV 1 hts gX7_copy_X7_fails rfl rfl rfl (by decide +kernel) ⟨Nat.le_of_ble_eq_true rfl, Nat.le_of_ble_eq_true rfl⟩) (preVW hPc hK hNw hDc (va_recv hK hPc (ci := 7) (q0 := 0) rfl rfl)) rfl rfl hl.1 rfl (lv_room (Nat.le_of_ble_eq_true rfl)) dX7_copy_146 ⟨Nat.zero_le _, Nat.zero_le _⟩) hS (fun q _ h => hFc q h) hFc (fun r146 u t H1 locs ht hvm w146 hB hz1 hk1 hS => ?_)
                obtain ⟨hP1, hK1, hD1⟩ := hB
                rw [ht] at hP1
                try dsimp only at w146
                obtain ⟨hP, hD⟩ := va_join (wr := [(so, .inl (cI, 4, .inl sv)), (sl, .inl (cI, 4, .inl lv)), (ce, .inl (cI, 240, .inl cv))]) (w1 := [(x, .inr (7, [.int 3, .int tr, .ref so, .ref sl, .ref ce, .int (nI n), .int bar, .int (nI tn), .ref ki, .ref si, .ref th, .ref ri, .int at_, .int rp, .ref rk, .ref rs, .ref kt, .ref kr, .int kn, .int rg, .ref ab, .int am, .ref bh, .int bm, .int br, .int (nI rn), .ref wa, .ref ra]))]) hP hD [0] [1, 2, 3] rfl rfl (by decide) (by decide) hk1 hFc hP1 hD1
                generalize H1 = H at hP hS ⊢
                have hP := hP.sub (ws' := [(x, .inr (7, [.int 3, .int tr, .ref so, .ref sl, .ref ce, .int (nI n), .int bar, .int (nI tn), .ref ki, .ref si, .ref th, .ref ri, .int at_, .int rp, .ref rk, .ref rs, .ref kt, .ref kr, .int kn, .int rg, .ref ab, .int am, .ref bh, .int bm, .int br, .int (nI rn), .ref wa, .ref ra])), (so, .inl (cI, 4, .inl sv)), (sl, .inl (cI, 4, .inl lv)), (ce, .inl (cI, 240, .inl cv))]) [3, 0, 1, 2] rfl
                have hD := hD.sub (ws' := [(x, .inr (7, [.int 3, .int tr, .ref so, .ref sl, .ref ce, .int (nI n), .int bar, .int (nI tn), .ref ki, .ref si, .ref th, .ref ri, .int at_, .int rp, .ref rk, .ref rs, .ref kt, .ref kr, .int kn, .int rg, .ref ab, .int am, .ref bh, .int bm, .int br, .int (nI rn), .ref wa, .ref ra])), (so, .inl (cI, 4, .inl sv)), (sl, .inl (cI, 4, .inl lv)), (ce, .inl (cI, 240, .inl cv))]) [3, 0, 1, 2] (by decide) rfl
                obtain rfl := w146
                exact W.iret (v := -10 - 3) hx hb hr (fun t ht hW => ⟨⟨_, (3, cv), rfl, by first | (simp only [onKK, onK_out hk]; simp; done) | (simp only [onKK, onK_in hk, onK_out hk2]; simp; done) | (simp only [onKK, onK_in hk, onK_in hk2, cq, co]; simp [cpMR, cpMA, cpMF, *]; done) | (simp only [onKK, onK_in hk, onK_in hk2, cq, co]; simp [cpMR, cpMA, cpMF, c29, c40, c61, hoc, ca, ca1, ck]; done), by rw [ht]; exact hP, va_K.moved hW.alike hK, hD⟩, hS.F ht⟩) hS.2.2 dX7_copy_149
              · -- f76
                refine lv_iload hx hb dX7_copy_79 (lv_at hl 5 rfl) ?_
                refine lv_if_lt (tgt := 109) hx hb dX7_copy_81 (by decide) (fun c81 => ?_) (fun c81 => ?_)
                · -- t81
                  have hoc : okC (lv q) (lv o) i j v = false := decide_eq_false (fun z => z.2.2.1 c81)
                  refine lv_iconst (v := 0) hx hb dX7_copy_109 (by decide) ?_
                  refine lv_istore (lv' := [(6, .int 0), (0, .ref x), (1, .int (nI q)), (2, .int i), (3, .int (nI o)), (4, .int j), (5, .int v)]) hx hb dX7_copy_110 hl (by decide) rfl (fun ls hl => ?_)
                  refine lv_iload hx hb dX7_copy_112 (lv_at hl 0 rfl) ?_
                  refine lv_if_eq (tgt := 144) hx hb dX7_copy_114 (by decide) (fun _ => ?_) (fun h => absurd (by decide) h)
                  refine lv_aload_n hx hb dX7_copy_144 rfl (lv_at hl 1 rfl) ?_
                  refine lv_iconst (v := 3) hx hb dX7_copy_145 (by decide) ?_
                  have hPc := hP.sub (ws' := [(x, .inr (7, [.int 0, .int tr, .ref so, .ref sl, .ref ce, .int (nI n), .int bar, .int (nI tn), .ref ki, .ref si, .ref th, .ref ri, .int at_, .int rp, .ref rk, .ref rs, .ref kt, .ref kr, .int kn, .int rg, .ref ab, .int am, .ref bh, .int bm, .int br, .int (nI rn), .ref wa, .ref ra]))]) [0] rfl
                  have hDc := hD.sub (ws' := [(x, .inr (7, [.int 0, .int tr, .ref so, .ref sl, .ref ce, .int (nI n), .int bar, .int (nI tn), .ref ki, .ref si, .ref th, .ref ri, .int at_, .int rp, .ref rk, .ref rs, .ref kt, .ref kr, .int kn, .int rg, .ref ab, .int am, .ref bh, .int bm, .int br, .int (nI rn), .ref wa, .ref ra]))]) [0] (by decide) rfl
                  have hFc := va_free (wc := [(x, .inr (7, [.int 0, .int tr, .ref so, .ref sl, .ref ce, .int (nI n), .int bar, .int (nI tn), .ref ki, .ref si, .ref th, .ref ri, .int at_, .int rp, .ref rk, .ref rs, .ref kt, .ref kr, .int kn, .int rg, .ref ab, .int am, .ref bh, .int bm, .int br, .int (nI rn), .ref wa, .ref ra]))]) hD hS hA [0] rfl
                  refine va_calli (va_runV (As := [.int 3]) (rest := []) ⟨hx, hb, hml, hown, hts⟩ (c_X7_fails l D cI cO x 0 tr so sl ce n bar tn ki si th ri at_ rp rk rs kt kr kn rg ab am bh bm br rn wa ra 3 _) (cwV 1 hts gX7_copy_X7_fails rfl rfl rfl (by decide +kernel) ⟨Nat.le_of_ble_eq_true rfl, Nat.le_of_ble_eq_true rfl⟩) (preVW hPc hK hNw hDc (va_recv hK hPc (ci := 7) (q0 := 0) rfl rfl)) rfl rfl hl.1 rfl (lv_room (Nat.le_of_ble_eq_true rfl)) dX7_copy_146 ⟨Nat.zero_le _, Nat.zero_le _⟩) hS (fun q _ h => hFc q h) hFc (fun r146 u t H1 locs ht hvm w146 hB hz1 hk1 hS => ?_)
                  obtain ⟨hP1, hK1, hD1⟩ := hB
                  rw [ht] at hP1
                  try dsimp only at w146
                  obtain ⟨hP, hD⟩ := va_join (wr := [(so, .inl (cI, 4, .inl sv)), (sl, .inl (cI, 4, .inl lv)), (ce, .inl (cI, 240, .inl cv))]) (w1 := [(x, .inr (7, [.int 3, .int tr, .ref so, .ref sl, .ref ce, .int (nI n), .int bar, .int (nI tn), .ref ki, .ref si, .ref th, .ref ri, .int at_, .int rp, .ref rk, .ref rs, .ref kt, .ref kr, .int kn, .int rg, .ref ab, .int am, .ref bh, .int bm, .int br, .int (nI rn), .ref wa, .ref ra]))]) hP hD [0] [1, 2, 3] rfl rfl (by decide) (by decide) hk1 hFc hP1 hD1
                  generalize H1 = H at hP hS ⊢
                  have hP := hP.sub (ws' := [(x, .inr (7, [.int 3, .int tr, .ref so, .ref sl, .ref ce, .int (nI n), .int bar, .int (nI tn), .ref ki, .ref si, .ref th, .ref ri, .int at_, .int rp, .ref rk, .ref rs, .ref kt, .ref kr, .int kn, .int rg, .ref ab, .int am, .ref bh, .int bm, .int br, .int (nI rn), .ref wa, .ref ra])), (so, .inl (cI, 4, .inl sv)), (sl, .inl (cI, 4, .inl lv)), (ce, .inl (cI, 240, .inl cv))]) [3, 0, 1, 2] rfl
                  have hD := hD.sub (ws' := [(x, .inr (7, [.int 3, .int tr, .ref so, .ref sl, .ref ce, .int (nI n), .int bar, .int (nI tn), .ref ki, .ref si, .ref th, .ref ri, .int at_, .int rp, .ref rk, .ref rs, .ref kt, .ref kr, .int kn, .int rg, .ref ab, .int am, .ref bh, .int bm, .int br, .int (nI rn), .ref wa, .ref ra])), (so, .inl (cI, 4, .inl sv)), (sl, .inl (cI, 4, .inl lv)), (ce, .inl (cI, 240, .inl cv))]) [3, 0, 1, 2] (by decide) rfl
                  obtain rfl := w146
                  exact W.iret (v := -10 - 3) hx hb hr (fun t ht hW => ⟨⟨_, (3, cv), rfl, by first | (simp only [onKK, onK_out hk]; simp; done) | (simp only [onKK, onK_in hk, onK_out hk2]; simp; done) | (simp only [onKK, onK_in hk, onK_in hk2, cq, co]; simp [cpMR, cpMA, cpMF, *]; done) | (simp only [onKK, onK_in hk, onK_in hk2, cq, co]; simp [cpMR, cpMA, cpMF, c29, c40, c61, hoc, ca, ca1, ck]; done), by rw [ht]; exact hP, va_K.moved hW.alike hK, hD⟩, hS.F ht⟩) hS.2.2 dX7_copy_149
                · -- f81
                  refine lv_iload_n hx hb dX7_copy_84 rfl (lv_at hl 2 rfl) ?_
                  refine lv_aload_n hx hb dX7_copy_85 rfl (lv_at hl 0 rfl) ?_
                  refine va_get (D := D) (ci := 7) (v := .ref sl) (C := RX7) (T := TX7) (N := 28) hx hb hts iX7 hown hK hP 0 rfl rfl 3 (by decide) f13 (fun _ h9 => h9) rfl dX7_copy_86 ?_
                  refine lv_iload_n hx hb dX7_copy_89 rfl (lv_at hl 1 rfl) ?_
                  refine va_iald hx hb hK hP 2 0 rfl rfl (vp_in_nI (by omega) (by decide)) dX7_copy_90 ?_
                  refine tp_i (y := lv q) (by rw [nI_clamp (n := q) (by omega)]) ?_
                  refine lv_icmp_gt (tgt := 109) hx hb dX7_copy_91 (by decide) (fun c91 => ?_) (fun c91 => ?_)
                  · -- t91
                    have hoc : okC (lv q) (lv o) i j v = false := decide_eq_false (fun z => z.2.2.2.1 c91)
                    refine lv_iconst (v := 0) hx hb dX7_copy_109 (by decide) ?_
                    refine lv_istore (lv' := [(6, .int 0), (0, .ref x), (1, .int (nI q)), (2, .int i), (3, .int (nI o)), (4, .int j), (5, .int v)]) hx hb dX7_copy_110 hl (by decide) rfl (fun ls hl => ?_)
                    refine lv_iload hx hb dX7_copy_112 (lv_at hl 0 rfl) ?_
                    refine lv_if_eq (tgt := 144) hx hb dX7_copy_114 (by decide) (fun _ => ?_) (fun h => absurd (by decide) h)
                    refine lv_aload_n hx hb dX7_copy_144 rfl (lv_at hl 1 rfl) ?_
                    refine lv_iconst (v := 3) hx hb dX7_copy_145 (by decide) ?_
                    have hPc := hP.sub (ws' := [(x, .inr (7, [.int 0, .int tr, .ref so, .ref sl, .ref ce, .int (nI n), .int bar, .int (nI tn), .ref ki, .ref si, .ref th, .ref ri, .int at_, .int rp, .ref rk, .ref rs, .ref kt, .ref kr, .int kn, .int rg, .ref ab, .int am, .ref bh, .int bm, .int br, .int (nI rn), .ref wa, .ref ra]))]) [0] rfl
                    have hDc := hD.sub (ws' := [(x, .inr (7, [.int 0, .int tr, .ref so, .ref sl, .ref ce, .int (nI n), .int bar, .int (nI tn), .ref ki, .ref si, .ref th, .ref ri, .int at_, .int rp, .ref rk, .ref rs, .ref kt, .ref kr, .int kn, .int rg, .ref ab, .int am, .ref bh, .int bm, .int br, .int (nI rn), .ref wa, .ref ra]))]) [0] (by decide) rfl
                    have hFc := va_free (wc := [(x, .inr (7, [.int 0, .int tr, .ref so, .ref sl, .ref ce, .int (nI n), .int bar, .int (nI tn), .ref ki, .ref si, .ref th, .ref ri, .int at_, .int rp, .ref rk, .ref rs, .ref kt, .ref kr, .int kn, .int rg, .ref ab, .int am, .ref bh, .int bm, .int br, .int (nI rn), .ref wa, .ref ra]))]) hD hS hA [0] rfl
                    refine va_calli (va_runV (As := [.int 3]) (rest := []) ⟨hx, hb, hml, hown, hts⟩ (c_X7_fails l D cI cO x 0 tr so sl ce n bar tn ki si th ri at_ rp rk rs kt kr kn rg ab am bh bm br rn wa ra 3 _) (cwV 1 hts gX7_copy_X7_fails rfl rfl rfl (by decide +kernel) ⟨Nat.le_of_ble_eq_true rfl, Nat.le_of_ble_eq_true rfl⟩) (preVW hPc hK hNw hDc (va_recv hK hPc (ci := 7) (q0 := 0) rfl rfl)) rfl rfl hl.1 rfl (lv_room (Nat.le_of_ble_eq_true rfl)) dX7_copy_146 ⟨Nat.zero_le _, Nat.zero_le _⟩) hS (fun q _ h => hFc q h) hFc (fun r146 u t H1 locs ht hvm w146 hB hz1 hk1 hS => ?_)
                    obtain ⟨hP1, hK1, hD1⟩ := hB
                    rw [ht] at hP1
                    try dsimp only at w146
                    obtain ⟨hP, hD⟩ := va_join (wr := [(so, .inl (cI, 4, .inl sv)), (sl, .inl (cI, 4, .inl lv)), (ce, .inl (cI, 240, .inl cv))]) (w1 := [(x, .inr (7, [.int 3, .int tr, .ref so, .ref sl, .ref ce, .int (nI n), .int bar, .int (nI tn), .ref ki, .ref si, .ref th, .ref ri, .int at_, .int rp, .ref rk, .ref rs, .ref kt, .ref kr, .int kn, .int rg, .ref ab, .int am, .ref bh, .int bm, .int br, .int (nI rn), .ref wa, .ref ra]))]) hP hD [0] [1, 2, 3] rfl rfl (by decide) (by decide) hk1 hFc hP1 hD1
                    generalize H1 = H at hP hS ⊢
                    have hP := hP.sub (ws' := [(x, .inr (7, [.int 3, .int tr, .ref so, .ref sl, .ref ce, .int (nI n), .int bar, .int (nI tn), .ref ki, .ref si, .ref th, .ref ri, .int at_, .int rp, .ref rk, .ref rs, .ref kt, .ref kr, .int kn, .int rg, .ref ab, .int am, .ref bh, .int bm, .int br, .int (nI rn), .ref wa, .ref ra])), (so, .inl (cI, 4, .inl sv)), (sl, .inl (cI, 4, .inl lv)), (ce, .inl (cI, 240, .inl cv))]) [3, 0, 1, 2] rfl
                    have hD := hD.sub (ws' := [(x, .inr (7, [.int 3, .int tr, .ref so, .ref sl, .ref ce, .int (nI n), .int bar, .int (nI tn), .ref ki, .ref si, .ref th, .ref ri, .int at_, .int rp, .ref rk, .ref rs, .ref kt, .ref kr, .int kn, .int rg, .ref ab, .int am, .ref bh, .int bm, .int br, .int (nI rn), .ref wa, .ref ra])), (so, .inl (cI, 4, .inl sv)), (sl, .inl (cI, 4, .inl lv)), (ce, .inl (cI, 240, .inl cv))]) [3, 0, 1, 2] (by decide) rfl
                    obtain rfl := w146
                    exact W.iret (v := -10 - 3) hx hb hr (fun t ht hW => ⟨⟨_, (3, cv), rfl, by first | (simp only [onKK, onK_out hk]; simp; done) | (simp only [onKK, onK_in hk, onK_out hk2]; simp; done) | (simp only [onKK, onK_in hk, onK_in hk2, cq, co]; simp [cpMR, cpMA, cpMF, *]; done) | (simp only [onKK, onK_in hk, onK_in hk2, cq, co]; simp [cpMR, cpMA, cpMF, c29, c40, c61, hoc, ca, ca1, ck]; done), by rw [ht]; exact hP, va_K.moved hW.alike hK, hD⟩, hS.F ht⟩) hS.2.2 dX7_copy_149
                  · -- f91
                    refine lv_iload hx hb dX7_copy_94 (lv_at hl 4 rfl) ?_
                    refine lv_aload_n hx hb dX7_copy_96 rfl (lv_at hl 0 rfl) ?_
                    refine va_get (D := D) (ci := 7) (v := .ref sl) (C := RX7) (T := TX7) (N := 28) hx hb hts iX7 hown hK hP 0 rfl rfl 3 (by decide) f13 (fun _ h9 => h9) rfl dX7_copy_97 ?_
                    refine lv_iload_n hx hb dX7_copy_100 rfl (lv_at hl 3 rfl) ?_
                    refine va_iald hx hb hK hP 2 0 rfl rfl (vp_in_nI (by omega) (by decide)) dX7_copy_101 ?_
                    refine tp_i (y := lv o) (by rw [nI_clamp (n := o) (by omega)]) ?_
                    refine lv_icmp_gt (tgt := 109) hx hb dX7_copy_102 (by decide) (fun c102 => ?_) (fun c102 => ?_)
                    · -- t102
                      have hoc : okC (lv q) (lv o) i j v = false := decide_eq_false (fun z => z.2.2.2.2.1 c102)
                      refine lv_iconst (v := 0) hx hb dX7_copy_109 (by decide) ?_
                      refine lv_istore (lv' := [(6, .int 0), (0, .ref x), (1, .int (nI q)), (2, .int i), (3, .int (nI o)), (4, .int j), (5, .int v)]) hx hb dX7_copy_110 hl (by decide) rfl (fun ls hl => ?_)
                      refine lv_iload hx hb dX7_copy_112 (lv_at hl 0 rfl) ?_
                      refine lv_if_eq (tgt := 144) hx hb dX7_copy_114 (by decide) (fun _ => ?_) (fun h => absurd (by decide) h)
                      refine lv_aload_n hx hb dX7_copy_144 rfl (lv_at hl 1 rfl) ?_
                      refine lv_iconst (v := 3) hx hb dX7_copy_145 (by decide) ?_
                      have hPc := hP.sub (ws' := [(x, .inr (7, [.int 0, .int tr, .ref so, .ref sl, .ref ce, .int (nI n), .int bar, .int (nI tn), .ref ki, .ref si, .ref th, .ref ri, .int at_, .int rp, .ref rk, .ref rs, .ref kt, .ref kr, .int kn, .int rg, .ref ab, .int am, .ref bh, .int bm, .int br, .int (nI rn), .ref wa, .ref ra]))]) [0] rfl
                      have hDc := hD.sub (ws' := [(x, .inr (7, [.int 0, .int tr, .ref so, .ref sl, .ref ce, .int (nI n), .int bar, .int (nI tn), .ref ki, .ref si, .ref th, .ref ri, .int at_, .int rp, .ref rk, .ref rs, .ref kt, .ref kr, .int kn, .int rg, .ref ab, .int am, .ref bh, .int bm, .int br, .int (nI rn), .ref wa, .ref ra]))]) [0] (by decide) rfl
                      have hFc := va_free (wc := [(x, .inr (7, [.int 0, .int tr, .ref so, .ref sl, .ref ce, .int (nI n), .int bar, .int (nI tn), .ref ki, .ref si, .ref th, .ref ri, .int at_, .int rp, .ref rk, .ref rs, .ref kt, .ref kr, .int kn, .int rg, .ref ab, .int am, .ref bh, .int bm, .int br, .int (nI rn), .ref wa, .ref ra]))]) hD hS hA [0] rfl
                      refine va_calli (va_runV (As := [.int 3]) (rest := []) ⟨hx, hb, hml, hown, hts⟩ (c_X7_fails l D cI cO x 0 tr so sl ce n bar tn ki si th ri at_ rp rk rs kt kr kn rg ab am bh bm br rn wa ra 3 _) (cwV 1 hts gX7_copy_X7_fails rfl rfl rfl (by decide +kernel) ⟨Nat.le_of_ble_eq_true rfl, Nat.le_of_ble_eq_true rfl⟩) (preVW hPc hK hNw hDc (va_recv hK hPc (ci := 7) (q0 := 0) rfl rfl)) rfl rfl hl.1 rfl (lv_room (Nat.le_of_ble_eq_true rfl)) dX7_copy_146 ⟨Nat.zero_le _, Nat.zero_le _⟩) hS (fun q _ h => hFc q h) hFc (fun r146 u t H1 locs ht hvm w146 hB hz1 hk1 hS => ?_)
                      obtain ⟨hP1, hK1, hD1⟩ := hB
                      rw [ht] at hP1
                      try dsimp only at w146
                      obtain ⟨hP, hD⟩ := va_join (wr := [(so, .inl (cI, 4, .inl sv)), (sl, .inl (cI, 4, .inl lv)), (ce, .inl (cI, 240, .inl cv))]) (w1 := [(x, .inr (7, [.int 3, .int tr, .ref so, .ref sl, .ref ce, .int (nI n), .int bar, .int (nI tn), .ref ki, .ref si, .ref th, .ref ri, .int at_, .int rp, .ref rk, .ref rs, .ref kt, .ref kr, .int kn, .int rg, .ref ab, .int am, .ref bh, .int bm, .int br, .int (nI rn), .ref wa, .ref ra]))]) hP hD [0] [1, 2, 3] rfl rfl (by decide) (by decide) hk1 hFc hP1 hD1
                      generalize H1 = H at hP hS ⊢
                      have hP := hP.sub (ws' := [(x, .inr (7, [.int 3, .int tr, .ref so, .ref sl, .ref ce, .int (nI n), .int bar, .int (nI tn), .ref ki, .ref si, .ref th, .ref ri, .int at_, .int rp, .ref rk, .ref rs, .ref kt, .ref kr, .int kn, .int rg, .ref ab, .int am, .ref bh, .int bm, .int br, .int (nI rn), .ref wa, .ref ra])), (so, .inl (cI, 4, .inl sv)), (sl, .inl (cI, 4, .inl lv)), (ce, .inl (cI, 240, .inl cv))]) [3, 0, 1, 2] rfl
                      have hD := hD.sub (ws' := [(x, .inr (7, [.int 3, .int tr, .ref so, .ref sl, .ref ce, .int (nI n), .int bar, .int (nI tn), .ref ki, .ref si, .ref th, .ref ri, .int at_, .int rp, .ref rk, .ref rs, .ref kt, .ref kr, .int kn, .int rg, .ref ab, .int am, .ref bh, .int bm, .int br, .int (nI rn), .ref wa, .ref ra])), (so, .inl (cI, 4, .inl sv)), (sl, .inl (cI, 4, .inl lv)), (ce, .inl (cI, 240, .inl cv))]) [3, 0, 1, 2] (by decide) rfl
                      obtain rfl := w146
                      exact W.iret (v := -10 - 3) hx hb hr (fun t ht hW => ⟨⟨_, (3, cv), rfl, by first | (simp only [onKK, onK_out hk]; simp; done) | (simp only [onKK, onK_in hk, onK_out hk2]; simp; done) | (simp only [onKK, onK_in hk, onK_in hk2, cq, co]; simp [cpMR, cpMA, cpMF, *]; done) | (simp only [onKK, onK_in hk, onK_in hk2, cq, co]; simp [cpMR, cpMA, cpMF, c29, c40, c61, hoc, ca, ca1, ck]; done), by rw [ht]; exact hP, va_K.moved hW.alike hK, hD⟩, hS.F ht⟩) hS.2.2 dX7_copy_149
                    · -- f102
                      refine lv_iconst (v := 1) hx hb dX7_copy_105 (by decide) ?_
                      refine lv_goto (tgt := 110) hx hb dX7_copy_106 (by decide) ?_
                      refine lv_istore (lv' := [(6, .int 1), (0, .ref x), (1, .int (nI q)), (2, .int i), (3, .int (nI o)), (4, .int j), (5, .int v)]) hx hb dX7_copy_110 hl (by decide) rfl (fun ls hl => ?_)
                      refine lv_iload hx hb dX7_copy_112 (lv_at hl 0 rfl) ?_
                      refine lv_if_eq (tgt := 144) hx hb dX7_copy_114 (by decide) (fun h => absurd h (by decide)) (fun _ => ?_)
                      refine lv_iload hx hb dX7_copy_117 (lv_at hl 6 rfl) ?_
                      refine lv_aload_n hx hb dX7_copy_119 rfl (lv_at hl 1 rfl) ?_
                      refine va_get (D := D) (ci := 7) (v := .ref sl) (C := RX7) (T := TX7) (N := 28) hx hb hts iX7 hown hK hP 0 rfl rfl 3 (by decide) f13 (fun _ h9 => h9) rfl dX7_copy_120 ?_
                      refine lv_iload_n hx hb dX7_copy_123 rfl (lv_at hl 2 rfl) ?_
                      refine va_iald hx hb hK hP 2 0 rfl rfl (vp_in_nI (by omega) (by decide)) dX7_copy_124 ?_
                      refine tp_i (y := lv q) (by rw [nI_clamp (n := q) (by omega)]) ?_
                      refine lv_iload_n hx hb dX7_copy_125 rfl (lv_at hl 3 rfl) ?_
                      refine lv_isub hx hb dX7_copy_126 ?_
                      refine lv_icmp_gt (tgt := 144) hx hb dX7_copy_127 (by decide) (fun c127 => ?_) (fun c127 => ?_)
                      · -- t127
                        have hoc : okC (lv q) (lv o) i j v = false := decide_eq_false (fun z => z.2.2.2.2.2.1 c127)
                        refine lv_aload_n hx hb dX7_copy_144 rfl (lv_at hl 1 rfl) ?_
                        refine lv_iconst (v := 3) hx hb dX7_copy_145 (by decide) ?_
                        have hPc := hP.sub (ws' := [(x, .inr (7, [.int 0, .int tr, .ref so, .ref sl, .ref ce, .int (nI n), .int bar, .int (nI tn), .ref ki, .ref si, .ref th, .ref ri, .int at_, .int rp, .ref rk, .ref rs, .ref kt, .ref kr, .int kn, .int rg, .ref ab, .int am, .ref bh, .int bm, .int br, .int (nI rn), .ref wa, .ref ra]))]) [0] rfl
                        have hDc := hD.sub (ws' := [(x, .inr (7, [.int 0, .int tr, .ref so, .ref sl, .ref ce, .int (nI n), .int bar, .int (nI tn), .ref ki, .ref si, .ref th, .ref ri, .int at_, .int rp, .ref rk, .ref rs, .ref kt, .ref kr, .int kn, .int rg, .ref ab, .int am, .ref bh, .int bm, .int br, .int (nI rn), .ref wa, .ref ra]))]) [0] (by decide) rfl
                        have hFc := va_free (wc := [(x, .inr (7, [.int 0, .int tr, .ref so, .ref sl, .ref ce, .int (nI n), .int bar, .int (nI tn), .ref ki, .ref si, .ref th, .ref ri, .int at_, .int rp, .ref rk, .ref rs, .ref kt, .ref kr, .int kn, .int rg, .ref ab, .int am, .ref bh, .int bm, .int br, .int (nI rn), .ref wa, .ref ra]))]) hD hS hA [0] rfl
                        refine va_calli (va_runV (As := [.int 3]) (rest := []) ⟨hx, hb, hml, hown, hts⟩ (c_X7_fails l D cI cO x 0 tr so sl ce n bar tn ki si th ri at_ rp rk rs kt kr kn rg ab am bh bm br rn wa ra 3 _) (cwV 1 hts gX7_copy_X7_fails rfl rfl rfl (by decide +kernel) ⟨Nat.le_of_ble_eq_true rfl, Nat.le_of_ble_eq_true rfl⟩) (preVW hPc hK hNw hDc (va_recv hK hPc (ci := 7) (q0 := 0) rfl rfl)) rfl rfl hl.1 rfl (lv_room (Nat.le_of_ble_eq_true rfl)) dX7_copy_146 ⟨Nat.zero_le _, Nat.zero_le _⟩) hS (fun q _ h => hFc q h) hFc (fun r146 u t H1 locs ht hvm w146 hB hz1 hk1 hS => ?_)
                        obtain ⟨hP1, hK1, hD1⟩ := hB
                        rw [ht] at hP1
                        try dsimp only at w146
                        obtain ⟨hP, hD⟩ := va_join (wr := [(so, .inl (cI, 4, .inl sv)), (sl, .inl (cI, 4, .inl lv)), (ce, .inl (cI, 240, .inl cv))]) (w1 := [(x, .inr (7, [.int 3, .int tr, .ref so, .ref sl, .ref ce, .int (nI n), .int bar, .int (nI tn), .ref ki, .ref si, .ref th, .ref ri, .int at_, .int rp, .ref rk, .ref rs, .ref kt, .ref kr, .int kn, .int rg, .ref ab, .int am, .ref bh, .int bm, .int br, .int (nI rn), .ref wa, .ref ra]))]) hP hD [0] [1, 2, 3] rfl rfl (by decide) (by decide) hk1 hFc hP1 hD1
                        generalize H1 = H at hP hS ⊢
                        have hP := hP.sub (ws' := [(x, .inr (7, [.int 3, .int tr, .ref so, .ref sl, .ref ce, .int (nI n), .int bar, .int (nI tn), .ref ki, .ref si, .ref th, .ref ri, .int at_, .int rp, .ref rk, .ref rs, .ref kt, .ref kr, .int kn, .int rg, .ref ab, .int am, .ref bh, .int bm, .int br, .int (nI rn), .ref wa, .ref ra])), (so, .inl (cI, 4, .inl sv)), (sl, .inl (cI, 4, .inl lv)), (ce, .inl (cI, 240, .inl cv))]) [3, 0, 1, 2] rfl
                        have hD := hD.sub (ws' := [(x, .inr (7, [.int 3, .int tr, .ref so, .ref sl, .ref ce, .int (nI n), .int bar, .int (nI tn), .ref ki, .ref si, .ref th, .ref ri, .int at_, .int rp, .ref rk, .ref rs, .ref kt, .ref kr, .int kn, .int rg, .ref ab, .int am, .ref bh, .int bm, .int br, .int (nI rn), .ref wa, .ref ra])), (so, .inl (cI, 4, .inl sv)), (sl, .inl (cI, 4, .inl lv)), (ce, .inl (cI, 240, .inl cv))]) [3, 0, 1, 2] (by decide) rfl
                        obtain rfl := w146
                        exact W.iret (v := -10 - 3) hx hb hr (fun t ht hW => ⟨⟨_, (3, cv), rfl, by first | (simp only [onKK, onK_out hk]; simp; done) | (simp only [onKK, onK_in hk, onK_out hk2]; simp; done) | (simp only [onKK, onK_in hk, onK_in hk2, cq, co]; simp [cpMR, cpMA, cpMF, *]; done) | (simp only [onKK, onK_in hk, onK_in hk2, cq, co]; simp [cpMR, cpMA, cpMF, c29, c40, c61, hoc, ca, ca1, ck]; done), by rw [ht]; exact hP, va_K.moved hW.alike hK, hD⟩, hS.F ht⟩) hS.2.2 dX7_copy_149
                      · -- f127
                        refine lv_iload hx hb dX7_copy_130 (lv_at hl 6 rfl) ?_
                        refine lv_aload_n hx hb dX7_copy_132 rfl (lv_at hl 1 rfl) ?_
                        refine va_get (D := D) (ci := 7) (v := .ref sl) (C := RX7) (T := TX7) (N := 28) hx hb hts iX7 hown hK hP 0 rfl rfl 3 (by decide) f13 (fun _ h9 => h9) rfl dX7_copy_133 ?_
                        refine lv_iload_n hx hb dX7_copy_136 rfl (lv_at hl 4 rfl) ?_
                        refine va_iald hx hb hK hP 2 0 rfl rfl (vp_in_nI (by omega) (by decide)) dX7_copy_137 ?_
                        refine tp_i (y := lv o) (by rw [nI_clamp (n := o) (by omega)]) ?_
                        refine lv_iload hx hb dX7_copy_138 (lv_at hl 5 rfl) ?_
                        refine lv_isub hx hb dX7_copy_140 ?_
                        refine lv_icmp_le (tgt := 150) hx hb dX7_copy_141 (by decide) (fun c141 => ?_) (fun c141 => ?_)
                        · -- t141
                          have hoc : okC (lv q) (lv o) i j v = true := decide_eq_true ⟨c71, c76, c81, c91, c102, c127, c141⟩
                          obtain ⟨L, hL, eL⟩ := hom q hq4 c29
                          obtain ⟨L2, hL2, eL2⟩ := hom o ho4 c40
                          have d91 := c91
                          have d102 := c102
                          have d127 := nlt_le c127
                          have d141 := c141
                          rw [eL] at d91 d127
                          rw [eL2] at d102 d141
                          obtain ⟨a0, k, rfl, rfl, hak⟩ := le_of_sub hL c71 d91 c81 d127
                          obtain ⟨a1, k1, rfl, ek1, hak1⟩ := le_of_sub hL2 c76 d102 c81 d141
                          have ek : k = k1 := (nI_eq (by omega) (by omega)).mp ek1
                          have ca := nI_clamp (n := a0) (by omega)
                          have ca1 := nI_clamp (n := a1) (by omega)
                          have ck := nI_clamp (n := k) (by omega)
                          refine lv_iload_n hx hb dX7_copy_150 rfl (lv_at hl 3 rfl) ?_
                          refine lv_iload hx hb dX7_copy_151 (lv_at hl 5 rfl) ?_
                          refine lv_icmp_ge (tgt := 160) hx hb dX7_copy_153 (by decide) (fun c153 => ?_) (fun c153 => ?_)
                          · -- t153
                            have z153 : a1 ≤ a0 := (nI_leI (by omega) (by omega)).mp c153
                            have hsep : 60 * o + a1 ≤ 60 * q + a0 ∨ 60 * q + a0 + k ≤ 60 * o + a1 := by omega
                            refine lv_iconst (v := 0) hx hb dX7_copy_160 (by decide) ?_
                            refine lv_istore (lv' := [(7, .int 0), (6, .int 1), (0, .ref x), (1, .int (nI q)), (2, .int (nI a0)), (3, .int (nI o)), (4, .int (nI a1)), (5, .int (nI k))]) hx hb dX7_copy_161 hl (by decide) rfl (fun ls hl => ?_)
                            refine lv_iconst (v := 0) hx hb dX7_copy_163 (by decide) ?_
                            refine lv_istore (lv' := [(8, .int 0), (7, .int 0), (6, .int 1), (0, .ref x), (1, .int (nI q)), (2, .int (nI a0)), (3, .int (nI o)), (4, .int (nI a1)), (5, .int (nI k))]) hx hb dX7_copy_164 hl (by decide) rfl (fun ls hl => ?_)
                            have lp166 : ∀ (fu166 : Nat) (p_ : Nat) (hp : p_ ≤ k) (hm166 : k - p_ < fu166) (H : Heap) (locs : List Loc) (hP : va_P D vwCl [(x, .inr (7, [.int 0, .int tr, .ref so, .ref sl, .ref ce, .int (nI n), .int bar, .int (nI tn), .ref ki, .ref si, .ref th, .ref ri, .int at_, .int rp, .ref rk, .ref rs, .ref kt, .ref kr, .int kn, .int rg, .ref ab, .int am, .ref bh, .int bm, .int br, .int (nI rn), .ref wa, .ref ra])), (so, .inl (cI, 4, .inl sv)), (sl, .inl (cI, 4, .inl lv)), (ce, .inl (cI, 240, .inl (cpA cv (60 * q + a0) (60 * o + a1) p_)))] H) (hD : va_D A [(x, .inr (7, [.int 0, .int tr, .ref so, .ref sl, .ref ce, .int (nI n), .int bar, .int (nI tn), .ref ki, .ref si, .ref th, .ref ri, .int at_, .int rp, .ref rk, .ref rs, .ref kt, .ref kr, .int kn, .int rg, .ref ab, .int am, .ref bh, .int bm, .int br, .int (nI rn), .ref wa, .ref ra])), (so, .inl (cI, 4, .inl sv)), (sl, .inl (cI, 4, .inl lv)), (ce, .inl (cI, 240, .inl (cpA cv (60 * q + a0) (60 * o + a1) p_)))]) (hS : va_S A s.heap H locs) (ls : Array Slot) (hl : lv_has ls 10 [(0, .ref x), (1, .int (nI q)), (2, .int (nI a0)), (3, .int (nI o)), (4, .int (nI a1)), (5, .int (nI k)), (7, .int 0), (8, .int (nI p_))]), W p l e (headSpec wsX7_copy ({ frames := 2, cells := 0, slots := 0, locals := 42 } : Room)).room s m ([.ref x, .int (nI q), .int (nI a0), .int (nI o), .int (nI a1), .int (nI k)]).toArray below meth c H locs 0 0 (MQ below (va_Qi (S := Int32 × (Nat → Int32)) (fun r u => r = (onKK (nI q) (nI o) (cpMR (sv (nI q).toNatClampNeg) (lv (nI q).toNatClampNeg) (sv (nI o).toNatClampNeg) (lv (nI o).toNatClampNeg) (nI a0) (nI a1) (nI k)) (-1)) ∧ u.1 = (onKK (nI q) (nI o) (cpMA (sv (nI q).toNatClampNeg) (lv (nI q).toNatClampNeg) (sv (nI o).toNatClampNeg) (lv (nI o).toNatClampNeg) (nI a0) (nI a1) (nI k)) 0) ∧ u.2 = (onKK (nI q) (nI o) (cpMF (sv (nI q).toNatClampNeg) (lv (nI q).toNatClampNeg) (sv (nI o).toNatClampNeg) (lv (nI o).toNatClampNeg) (nI a0) (nI a1) (nI k) cv (nI q).toNatClampNeg (nI o).toNatClampNeg) cv)) (fun u t => va_P D vwCl [(x, .inr (7, [.int u.1, .int tr, .ref so, .ref sl, .ref ce, .int (nI n), .int bar, .int (nI tn), .ref ki, .ref si, .ref th, .ref ri, .int at_, .int rp, .ref rk, .ref rs, .ref kt, .ref kr, .int kn, .int rg, .ref ab, .int am, .ref bh, .int bm, .int br, .int (nI rn), .ref wa, .ref ra])), (so, .inl (cI, 4, .inl sv)), (sl, .inl (cI, 4, .inl lv)), (ce, .inl (cI, 240, .inl u.2))] t.heap ∧ va_K D vwCl (tyL cI cO) t ∧ va_D A [(x, .inr (7, [.int u.1, .int tr, .ref so, .ref sl, .ref ce, .int (nI n), .int bar, .int (nI tn), .ref ki, .ref si, .ref th, .ref ri, .int at_, .int rp, .ref rk, .ref rs, .ref kt, .ref kr, .int kn, .int rg, .ref ab, .int am, .ref bh, .int bm, .int br, .int (nI rn), .ref wa, .ref ra])), (so, .inl (cI, 4, .inl sv)), (sl, .inl (cI, 4, .inl lv)), (ce, .inl (cI, 240, .inl u.2))]) A) ([.ref x, .int (nI q), .int (nI a0), .int (nI o), .int (nI a1), .int (nI k)]).toArray s 0 0 A) (F0 m 166 ls []) := by
                              intro fu166
                              induction fu166 with
                              | zero =>
                                intros; omega
                              | succ fu166 ih166 =>
                                intro p_ hp hm166 H locs hP hD hS ls hl
                                refine lv_iload hx hb dX7_copy_166 (lv_at hl 7 rfl) ?_
                                refine lv_iload hx hb dX7_copy_168 (lv_at hl 5 rfl) ?_
                                refine lv_icmp_ge (tgt := 227) hx hb dX7_copy_170 (by decide) (fun c170 => ?_) (fun c170 => ?_)
                                · -- t170
                                  have e170 : p_ = k := by have q := ge_n (by omega) (by omega) c170; omega
                                  rw [e170] at hl
                                  rw [e170] at hP hD
                                  refine lv_iload hx hb dX7_copy_227 (lv_at hl 5 rfl) ?_
                                  exact W.iret (v := nI k) hx hb hr (fun t ht hW => ⟨⟨_, (0, cpA cv (60 * q + a0) (60 * o + a1) k), rfl, by first | (simp only [onKK, onK_out hk]; simp; done) | (simp only [onKK, onK_in hk, onK_out hk2]; simp; done) | (simp only [onKK, onK_in hk, onK_in hk2, cq, co]; simp [cpMR, cpMA, cpMF, *]; done) | (simp only [onKK, onK_in hk, onK_in hk2, cq, co]; simp [cpMR, cpMA, cpMF, c29, c40, c61, hoc, ca, ca1, ck]; done), by rw [ht]; exact hP, va_K.moved hW.alike hK, hD⟩, hS.F ht⟩) hS.2.2 dX7_copy_229
                                · -- f170
                                  have l170 : p_ < k := lt_n (by omega) (by omega) c170
                                  refine lv_iload hx hb dX7_copy_173 (lv_at hl 6 rfl) ?_
                                  refine lv_if_eq (tgt := 188) hx hb dX7_copy_175 (by decide) (fun _ => ?_) (fun h => absurd (by decide) h)
                                  refine lv_iload hx hb dX7_copy_188 (lv_at hl 7 rfl) ?_
                                  refine lv_istore (lv' := [(9, .int (nI p_)), (0, .ref x), (1, .int (nI q)), (2, .int (nI a0)), (3, .int (nI o)), (4, .int (nI a1)), (5, .int (nI k)), (7, .int 0), (8, .int (nI p_))]) hx hb dX7_copy_190 hl (by decide) rfl (fun ls hl => ?_)
                                  refine lv_aload_n hx hb dX7_copy_192 rfl (lv_at hl 1 rfl) ?_
                                  refine va_get (D := D) (ci := 7) (v := .ref ce) (C := RX7) (T := TX7) (N := 28) hx hb hts iX7 hown hK hP 0 rfl rfl 4 (by decide) f16 (fun _ h9 => h9) rfl dX7_copy_193 ?_
                                  refine lv_bipush (v := 60) hx hb dX7_copy_196 (by decide) ?_
                                  refine lv_iload_n hx hb dX7_copy_198 rfl (lv_at hl 4 rfl) ?_
                                  refine lv_imul hx hb dX7_copy_199 ?_
                                  refine lv_iload hx hb dX7_copy_200 (lv_at hl 5 rfl) ?_
                                  refine lv_iadd hx hb dX7_copy_202 ?_
                                  refine lv_iload hx hb dX7_copy_203 (lv_at hl 0 rfl) ?_
                                  refine lv_iadd hx hb dX7_copy_205 ?_
                                  refine tp_i (y := nI (60 * o + a1 + p_)) (by rw [ix60_i, nI_add]) ?_
                                  refine lv_aload_n hx hb dX7_copy_206 rfl (lv_at hl 1 rfl) ?_
                                  refine va_get (D := D) (ci := 7) (v := .ref ce) (C := RX7) (T := TX7) (N := 28) hx hb hts iX7 hown hK hP 0 rfl rfl 4 (by decide) f16 (fun _ h9 => h9) rfl dX7_copy_207 ?_
                                  refine lv_bipush (v := 60) hx hb dX7_copy_210 (by decide) ?_
                                  refine lv_iload_n hx hb dX7_copy_212 rfl (lv_at hl 2 rfl) ?_
                                  refine lv_imul hx hb dX7_copy_213 ?_
                                  refine lv_iload_n hx hb dX7_copy_214 rfl (lv_at hl 3 rfl) ?_
                                  refine lv_iadd hx hb dX7_copy_215 ?_
                                  refine lv_iload hx hb dX7_copy_216 (lv_at hl 0 rfl) ?_
                                  refine lv_iadd hx hb dX7_copy_218 ?_
                                  refine tp_i (y := nI (60 * q + a0 + p_)) (by rw [ix60_i, nI_add]) ?_
                                  refine va_iald hx hb hK hP 3 0 rfl rfl (vp_in_nI (by omega) (by decide)) dX7_copy_219 ?_
                                  refine tp_i (y := (cpA cv (60 * q + a0) (60 * o + a1) p_) (60 * q + a0 + p_)) (by rw [nI_clamp (n := (60 * q + a0 + p_)) (by omega)]) ?_
                                  refine va_iast hx hb hK hP hD hS 3 0 rfl rfl (vp_in_nI (by omega) (by decide)) dX7_copy_220 (fun H locs hP hD hS => ?_)
                                  rw [nI_clamp (n := (60 * o + a1 + p_)) (by omega)] at hP hD
                                  have hP : va_P D vwCl [(x, .inr (7, [.int 0, .int tr, .ref so, .ref sl, .ref ce, .int (nI n), .int bar, .int (nI tn), .ref ki, .ref si, .ref th, .ref ri, .int at_, .int rp, .ref rk, .ref rs, .ref kt, .ref kr, .int kn, .int rg, .ref ab, .int am, .ref bh, .int bm, .int br, .int (nI rn), .ref wa, .ref ra])), (so, .inl (cI, 4, .inl sv)), (sl, .inl (cI, 4, .inl lv)), (ce, .inl (cI, 240, .inl (upd (cpA cv (60 * q + a0) (60 * o + a1) p_) (60 * o + a1 + p_) ((cpA cv (60 * q + a0) (60 * o + a1) p_) (60 * q + a0 + p_)))))] H := hP
                                  have hD : va_D A [(x, .inr (7, [.int 0, .int tr, .ref so, .ref sl, .ref ce, .int (nI n), .int bar, .int (nI tn), .ref ki, .ref si, .ref th, .ref ri, .int at_, .int rp, .ref rk, .ref rs, .ref kt, .ref kr, .int kn, .int rg, .ref ab, .int am, .ref bh, .int bm, .int br, .int (nI rn), .ref wa, .ref ra])), (so, .inl (cI, 4, .inl sv)), (sl, .inl (cI, 4, .inl lv)), (ce, .inl (cI, 240, .inl (upd (cpA cv (60 * q + a0) (60 * o + a1) p_) (60 * o + a1 + p_) ((cpA cv (60 * q + a0) (60 * o + a1) p_) (60 * q + a0 + p_)))))] := hD
                                  refine lv_iinc (v := nI (p_ + 1)) (lv' := [(8, .int (nI (p_ + 1))), (9, .int (nI p_)), (0, .ref x), (1, .int (nI q)), (2, .int (nI a0)), (3, .int (nI o)), (4, .int (nI a1)), (5, .int (nI k)), (7, .int 0)]) hx hb dX7_copy_221 hl (k := 8) rfl (nI_1 _) (by decide) rfl (fun ls hl => ?_)
                                  refine lv_goto (tgt := 166) hx hb dX7_copy_224 (by decide) ?_
                                  have ew166_3_0 : (upd (cpA cv (60 * q + a0) (60 * o + a1) p_) (60 * o + a1 + p_) ((cpA cv (60 * q + a0) (60 * o + a1) p_) (60 * q + a0 + p_))) = cpA cv (60 * q + a0) (60 * o + a1) (p_ + 1) := by first | exact cpB_s _ l170 hsep | exact cpA_s _ l170 hsep
                                  have hP : va_P D vwCl [(x, .inr (7, [.int 0, .int tr, .ref so, .ref sl, .ref ce, .int (nI n), .int bar, .int (nI tn), .ref ki, .ref si, .ref th, .ref ri, .int at_, .int rp, .ref rk, .ref rs, .ref kt, .ref kr, .int kn, .int rg, .ref ab, .int am, .ref bh, .int bm, .int br, .int (nI rn), .ref wa, .ref ra])), (so, .inl (cI, 4, .inl sv)), (sl, .inl (cI, 4, .inl lv)), (ce, .inl (cI, 240, .inl (cpA cv (60 * q + a0) (60 * o + a1) (p_ + 1))))] H := by rw [← ew166_3_0]; exact hP
                                  have hD : va_D A [(x, .inr (7, [.int 0, .int tr, .ref so, .ref sl, .ref ce, .int (nI n), .int bar, .int (nI tn), .ref ki, .ref si, .ref th, .ref ri, .int at_, .int rp, .ref rk, .ref rs, .ref kt, .ref kr, .int kn, .int rg, .ref ab, .int am, .ref bh, .int bm, .int br, .int (nI rn), .ref wa, .ref ra])), (so, .inl (cI, 4, .inl sv)), (sl, .inl (cI, 4, .inl lv)), (ce, .inl (cI, 240, .inl (cpA cv (60 * q + a0) (60 * o + a1) (p_ + 1))))] := by rw [← ew166_3_0]; exact hD
                                  exact ih166 (p_ + 1) (by omega) (by omega) _ _ hP hD hS _ (lv_sub hl [2, 3, 4, 5, 6, 7, 8, 0] rfl)
                            have ew166_3_0 : cv = cpA cv (60 * q + a0) (60 * o + a1) 0 := by first | exact (cpB_0 _ _ _ _).symm | exact (cpA_0 _ _ _).symm
                            have hP : va_P D vwCl [(x, .inr (7, [.int 0, .int tr, .ref so, .ref sl, .ref ce, .int (nI n), .int bar, .int (nI tn), .ref ki, .ref si, .ref th, .ref ri, .int at_, .int rp, .ref rk, .ref rs, .ref kt, .ref kr, .int kn, .int rg, .ref ab, .int am, .ref bh, .int bm, .int br, .int (nI rn), .ref wa, .ref ra])), (so, .inl (cI, 4, .inl sv)), (sl, .inl (cI, 4, .inl lv)), (ce, .inl (cI, 240, .inl (cpA cv (60 * q + a0) (60 * o + a1) 0)))] H := by rw [← ew166_3_0]; exact hP
                            have hD : va_D A [(x, .inr (7, [.int 0, .int tr, .ref so, .ref sl, .ref ce, .int (nI n), .int bar, .int (nI tn), .ref ki, .ref si, .ref th, .ref ri, .int at_, .int rp, .ref rk, .ref rs, .ref kt, .ref kr, .int kn, .int rg, .ref ab, .int am, .ref bh, .int bm, .int br, .int (nI rn), .ref wa, .ref ra])), (so, .inl (cI, 4, .inl sv)), (sl, .inl (cI, 4, .inl lv)), (ce, .inl (cI, 240, .inl (cpA cv (60 * q + a0) (60 * o + a1) 0)))] := by rw [← ew166_3_0]; exact hD
                            exact lp166 _ 0 (Nat.zero_le _) (Nat.lt_succ_self _) _ _ hP hD hS _ (lv_sub hl [3, 4, 5, 6, 7, 8, 1, 0] rfl)
                          · -- f153
                            have z153 : a0 < a1 := by have z := mt (nI_leI (by omega) (by omega)).mpr c153; omega
                            have hsep : 60 * q + a0 < 60 * o + a1 ∨ 60 * o + a1 + k ≤ 60 * q + a0 := by omega
                            refine lv_iconst (v := 1) hx hb dX7_copy_156 (by decide) ?_
                            refine lv_goto (tgt := 161) hx hb dX7_copy_157 (by decide) ?_
                            refine lv_istore (lv' := [(7, .int 1), (6, .int 1), (0, .ref x), (1, .int (nI q)), (2, .int (nI a0)), (3, .int (nI o)), (4, .int (nI a1)), (5, .int (nI k))]) hx hb dX7_copy_161 hl (by decide) rfl (fun ls hl => ?_)
                            refine lv_iconst (v := 0) hx hb dX7_copy_163 (by decide) ?_
                            refine lv_istore (lv' := [(8, .int 0), (7, .int 1), (6, .int 1), (0, .ref x), (1, .int (nI q)), (2, .int (nI a0)), (3, .int (nI o)), (4, .int (nI a1)), (5, .int (nI k))]) hx hb dX7_copy_164 hl (by decide) rfl (fun ls hl => ?_)
                            have lp166 : ∀ (fu166 : Nat) (p_ : Nat) (hp : p_ ≤ k) (hm166 : k - p_ < fu166) (H : Heap) (locs : List Loc) (hP : va_P D vwCl [(x, .inr (7, [.int 0, .int tr, .ref so, .ref sl, .ref ce, .int (nI n), .int bar, .int (nI tn), .ref ki, .ref si, .ref th, .ref ri, .int at_, .int rp, .ref rk, .ref rs, .ref kt, .ref kr, .int kn, .int rg, .ref ab, .int am, .ref bh, .int bm, .int br, .int (nI rn), .ref wa, .ref ra])), (so, .inl (cI, 4, .inl sv)), (sl, .inl (cI, 4, .inl lv)), (ce, .inl (cI, 240, .inl (cpB cv (60 * q + a0) (60 * o + a1) k p_)))] H) (hD : va_D A [(x, .inr (7, [.int 0, .int tr, .ref so, .ref sl, .ref ce, .int (nI n), .int bar, .int (nI tn), .ref ki, .ref si, .ref th, .ref ri, .int at_, .int rp, .ref rk, .ref rs, .ref kt, .ref kr, .int kn, .int rg, .ref ab, .int am, .ref bh, .int bm, .int br, .int (nI rn), .ref wa, .ref ra])), (so, .inl (cI, 4, .inl sv)), (sl, .inl (cI, 4, .inl lv)), (ce, .inl (cI, 240, .inl (cpB cv (60 * q + a0) (60 * o + a1) k p_)))]) (hS : va_S A s.heap H locs) (ls : Array Slot) (hl : lv_has ls 10 [(0, .ref x), (1, .int (nI q)), (2, .int (nI a0)), (3, .int (nI o)), (4, .int (nI a1)), (5, .int (nI k)), (7, .int 1), (8, .int (nI p_))]), W p l e (headSpec wsX7_copy ({ frames := 2, cells := 0, slots := 0, locals := 42 } : Room)).room s m ([.ref x, .int (nI q), .int (nI a0), .int (nI o), .int (nI a1), .int (nI k)]).toArray below meth c H locs 0 0 (MQ below (va_Qi (S := Int32 × (Nat → Int32)) (fun r u => r = (onKK (nI q) (nI o) (cpMR (sv (nI q).toNatClampNeg) (lv (nI q).toNatClampNeg) (sv (nI o).toNatClampNeg) (lv (nI o).toNatClampNeg) (nI a0) (nI a1) (nI k)) (-1)) ∧ u.1 = (onKK (nI q) (nI o) (cpMA (sv (nI q).toNatClampNeg) (lv (nI q).toNatClampNeg) (sv (nI o).toNatClampNeg) (lv (nI o).toNatClampNeg) (nI a0) (nI a1) (nI k)) 0) ∧ u.2 = (onKK (nI q) (nI o) (cpMF (sv (nI q).toNatClampNeg) (lv (nI q).toNatClampNeg) (sv (nI o).toNatClampNeg) (lv (nI o).toNatClampNeg) (nI a0) (nI a1) (nI k) cv (nI q).toNatClampNeg (nI o).toNatClampNeg) cv)) (fun u t => va_P D vwCl [(x, .inr (7, [.int u.1, .int tr, .ref so, .ref sl, .ref ce, .int (nI n), .int bar, .int (nI tn), .ref ki, .ref si, .ref th, .ref ri, .int at_, .int rp, .ref rk, .ref rs, .ref kt, .ref kr, .int kn, .int rg, .ref ab, .int am, .ref bh, .int bm, .int br, .int (nI rn), .ref wa, .ref ra])), (so, .inl (cI, 4, .inl sv)), (sl, .inl (cI, 4, .inl lv)), (ce, .inl (cI, 240, .inl u.2))] t.heap ∧ va_K D vwCl (tyL cI cO) t ∧ va_D A [(x, .inr (7, [.int u.1, .int tr, .ref so, .ref sl, .ref ce, .int (nI n), .int bar, .int (nI tn), .ref ki, .ref si, .ref th, .ref ri, .int at_, .int rp, .ref rk, .ref rs, .ref kt, .ref kr, .int kn, .int rg, .ref ab, .int am, .ref bh, .int bm, .int br, .int (nI rn), .ref wa, .ref ra])), (so, .inl (cI, 4, .inl sv)), (sl, .inl (cI, 4, .inl lv)), (ce, .inl (cI, 240, .inl u.2))]) A) ([.ref x, .int (nI q), .int (nI a0), .int (nI o), .int (nI a1), .int (nI k)]).toArray s 0 0 A) (F0 m 166 ls []) := by
                              intro fu166
                              induction fu166 with
                              | zero =>
                                intros; omega
                              | succ fu166 ih166 =>
                                intro p_ hp hm166 H locs hP hD hS ls hl
                                refine lv_iload hx hb dX7_copy_166 (lv_at hl 7 rfl) ?_
                                refine lv_iload hx hb dX7_copy_168 (lv_at hl 5 rfl) ?_
                                refine lv_icmp_ge (tgt := 227) hx hb dX7_copy_170 (by decide) (fun c170 => ?_) (fun c170 => ?_)
                                · -- t170
                                  have e170 : p_ = k := by have q := ge_n (by omega) (by omega) c170; omega
                                  rw [e170] at hl
                                  rw [e170] at hP hD
                                  have hP : va_P D vwCl [(x, .inr (7, [.int 0, .int tr, .ref so, .ref sl, .ref ce, .int (nI n), .int bar, .int (nI tn), .ref ki, .ref si, .ref th, .ref ri, .int at_, .int rp, .ref rk, .ref rs, .ref kt, .ref kr, .int kn, .int rg, .ref ab, .int am, .ref bh, .int bm, .int br, .int (nI rn), .ref wa, .ref ra])), (so, .inl (cI, 4, .inl sv)), (sl, .inl (cI, 4, .inl lv)), (ce, .inl (cI, 240, .inl (cpA cv (60 * q + a0) (60 * o + a1) k)))] H := by rw [← cpB_n]; exact hP
                                  have hD : va_D A [(x, .inr (7, [.int 0, .int tr, .ref so, .ref sl, .ref ce, .int (nI n), .int bar, .int (nI tn), .ref ki, .ref si, .ref th, .ref ri, .int at_, .int rp, .ref rk, .ref rs, .ref kt, .ref kr, .int kn, .int rg, .ref ab, .int am, .ref bh, .int bm, .int br, .int (nI rn), .ref wa, .ref ra])), (so, .inl (cI, 4, .inl sv)), (sl, .inl (cI, 4, .inl lv)), (ce, .inl (cI, 240, .inl (cpA cv (60 * q + a0) (60 * o + a1) k)))] := by rw [← cpB_n]; exact hD
                                  refine lv_iload hx hb dX7_copy_227 (lv_at hl 5 rfl) ?_
                                  exact W.iret (v := nI k) hx hb hr (fun t ht hW => ⟨⟨_, (0, cpA cv (60 * q + a0) (60 * o + a1) k), rfl, by first | (simp only [onKK, onK_out hk]; simp; done) | (simp only [onKK, onK_in hk, onK_out hk2]; simp; done) | (simp only [onKK, onK_in hk, onK_in hk2, cq, co]; simp [cpMR, cpMA, cpMF, *]; done) | (simp only [onKK, onK_in hk, onK_in hk2, cq, co]; simp [cpMR, cpMA, cpMF, c29, c40, c61, hoc, ca, ca1, ck]; done), by rw [ht]; exact hP, va_K.moved hW.alike hK, hD⟩, hS.F ht⟩) hS.2.2 dX7_copy_229
                                · -- f170
                                  have l170 : p_ < k := lt_n (by omega) (by omega) c170
                                  refine lv_iload hx hb dX7_copy_173 (lv_at hl 6 rfl) ?_
                                  refine lv_if_eq (tgt := 188) hx hb dX7_copy_175 (by decide) (fun h => absurd h (by decide)) (fun _ => ?_)
                                  refine lv_iload hx hb dX7_copy_178 (lv_at hl 5 rfl) ?_
                                  refine lv_iconst (v := 1) hx hb dX7_copy_180 (by decide) ?_
                                  refine lv_isub hx hb dX7_copy_181 ?_
                                  refine lv_iload hx hb dX7_copy_182 (lv_at hl 7 rfl) ?_
                                  refine lv_isub hx hb dX7_copy_184 ?_
                                  refine lv_goto (tgt := 190) hx hb dX7_copy_185 (by decide) ?_
                                  refine tp_i (y := nI (k - 1 - p_)) (sub2 (by omega)) ?_
                                  refine lv_istore (lv' := [(9, .int (nI (k - 1 - p_))), (0, .ref x), (1, .int (nI q)), (2, .int (nI a0)), (3, .int (nI o)), (4, .int (nI a1)), (5, .int (nI k)), (7, .int 1), (8, .int (nI p_))]) hx hb dX7_copy_190 hl (by decide) rfl (fun ls hl => ?_)
                                  refine lv_aload_n hx hb dX7_copy_192 rfl (lv_at hl 1 rfl) ?_
                                  refine va_get (D := D) (ci := 7) (v := .ref ce) (C := RX7) (T := TX7) (N := 28) hx hb hts iX7 hown hK hP 0 rfl rfl 4 (by decide) f16 (fun _ h9 => h9) rfl dX7_copy_193 ?_
                                  refine lv_bipush (v := 60) hx hb dX7_copy_196 (by decide) ?_
                                  refine lv_iload_n hx hb dX7_copy_198 rfl (lv_at hl 4 rfl) ?_
                                  refine lv_imul hx hb dX7_copy_199 ?_
                                  refine lv_iload hx hb dX7_copy_200 (lv_at hl 5 rfl) ?_
                                  refine lv_iadd hx hb dX7_copy_202 ?_
                                  refine lv_iload hx hb dX7_copy_203 (lv_at hl 0 rfl) ?_
                                  refine lv_iadd hx hb dX7_copy_205 ?_
                                  refine tp_i (y := nI (60 * o + a1 + (k - 1 - p_))) (by rw [ix60_i, nI_add]) ?_
                                  refine lv_aload_n hx hb dX7_copy_206 rfl (lv_at hl 1 rfl) ?_
                                  refine va_get (D := D) (ci := 7) (v := .ref ce) (C := RX7) (T := TX7) (N := 28) hx hb hts iX7 hown hK hP 0 rfl rfl 4 (by decide) f16 (fun _ h9 => h9) rfl dX7_copy_207 ?_
                                  refine lv_bipush (v := 60) hx hb dX7_copy_210 (by decide) ?_
                                  refine lv_iload_n hx hb dX7_copy_212 rfl (lv_at hl 2 rfl) ?_
                                  refine lv_imul hx hb dX7_copy_213 ?_
                                  refine lv_iload_n hx hb dX7_copy_214 rfl (lv_at hl 3 rfl) ?_
                                  refine lv_iadd hx hb dX7_copy_215 ?_
                                  refine lv_iload hx hb dX7_copy_216 (lv_at hl 0 rfl) ?_
                                  refine lv_iadd hx hb dX7_copy_218 ?_
                                  refine tp_i (y := nI (60 * q + a0 + (k - 1 - p_))) (by rw [ix60_i, nI_add]) ?_
                                  refine va_iald hx hb hK hP 3 0 rfl rfl (vp_in_nI (by omega) (by decide)) dX7_copy_219 ?_
                                  refine tp_i (y := (cpB cv (60 * q + a0) (60 * o + a1) k p_) (60 * q + a0 + (k - 1 - p_))) (by rw [nI_clamp (n := (60 * q + a0 + (k - 1 - p_))) (by omega)]) ?_
                                  refine va_iast hx hb hK hP hD hS 3 0 rfl rfl (vp_in_nI (by omega) (by decide)) dX7_copy_220 (fun H locs hP hD hS => ?_)
                                  rw [nI_clamp (n := (60 * o + a1 + (k - 1 - p_))) (by omega)] at hP hD
                                  have hP : va_P D vwCl [(x, .inr (7, [.int 0, .int tr, .ref so, .ref sl, .ref ce, .int (nI n), .int bar, .int (nI tn), .ref ki, .ref si, .ref th, .ref ri, .int at_, .int rp, .ref rk, .ref rs, .ref kt, .ref kr, .int kn, .int rg, .ref ab, .int am, .ref bh, .int bm, .int br, .int (nI rn), .ref wa, .ref ra])), (so, .inl (cI, 4, .inl sv)), (sl, .inl (cI, 4, .inl lv)), (ce, .inl (cI, 240, .inl (upd (cpB cv (60 * q + a0) (60 * o + a1) k p_) (60 * o + a1 + (k - 1 - p_)) ((cpB cv (60 * q + a0) (60 * o + a1) k p_) (60 * q + a0 + (k - 1 - p_))))))] H := hP
                                  have hD : va_D A [(x, .inr (7, [.int 0, .int tr, .ref so, .ref sl, .ref ce, .int (nI n), .int bar, .int (nI tn), .ref ki, .ref si, .ref th, .ref ri, .int at_, .int rp, .ref rk, .ref rs, .ref kt, .ref kr, .int kn, .int rg, .ref ab, .int am, .ref bh, .int bm, .int br, .int (nI rn), .ref wa, .ref ra])), (so, .inl (cI, 4, .inl sv)), (sl, .inl (cI, 4, .inl lv)), (ce, .inl (cI, 240, .inl (upd (cpB cv (60 * q + a0) (60 * o + a1) k p_) (60 * o + a1 + (k - 1 - p_)) ((cpB cv (60 * q + a0) (60 * o + a1) k p_) (60 * q + a0 + (k - 1 - p_))))))] := hD
                                  refine lv_iinc (v := nI (p_ + 1)) (lv' := [(8, .int (nI (p_ + 1))), (9, .int (nI (k - 1 - p_))), (0, .ref x), (1, .int (nI q)), (2, .int (nI a0)), (3, .int (nI o)), (4, .int (nI a1)), (5, .int (nI k)), (7, .int 1)]) hx hb dX7_copy_221 hl (k := 8) rfl (nI_1 _) (by decide) rfl (fun ls hl => ?_)
                                  refine lv_goto (tgt := 166) hx hb dX7_copy_224 (by decide) ?_
                                  have ew166_3_0 : (upd (cpB cv (60 * q + a0) (60 * o + a1) k p_) (60 * o + a1 + (k - 1 - p_)) ((cpB cv (60 * q + a0) (60 * o + a1) k p_) (60 * q + a0 + (k - 1 - p_)))) = cpB cv (60 * q + a0) (60 * o + a1) k (p_ + 1) := by first | exact cpB_s _ l170 hsep | exact cpA_s _ l170 hsep
                                  have hP : va_P D vwCl [(x, .inr (7, [.int 0, .int tr, .ref so, .ref sl, .ref ce, .int (nI n), .int bar, .int (nI tn), .ref ki, .ref si, .ref th, .ref ri, .int at_, .int rp, .ref rk, .ref rs, .ref kt, .ref kr, .int kn, .int rg, .ref ab, .int am, .ref bh, .int bm, .int br, .int (nI rn), .ref wa, .ref ra])), (so, .inl (cI, 4, .inl sv)), (sl, .inl (cI, 4, .inl lv)), (ce, .inl (cI, 240, .inl (cpB cv (60 * q + a0) (60 * o + a1) k (p_ + 1))))] H := by rw [← ew166_3_0]; exact hP
                                  have hD : va_D A [(x, .inr (7, [.int 0, .int tr, .ref so, .ref sl, .ref ce, .int (nI n), .int bar, .int (nI tn), .ref ki, .ref si, .ref th, .ref ri, .int at_, .int rp, .ref rk, .ref rs, .ref kt, .ref kr, .int kn, .int rg, .ref ab, .int am, .ref bh, .int bm, .int br, .int (nI rn), .ref wa, .ref ra])), (so, .inl (cI, 4, .inl sv)), (sl, .inl (cI, 4, .inl lv)), (ce, .inl (cI, 240, .inl (cpB cv (60 * q + a0) (60 * o + a1) k (p_ + 1))))] := by rw [← ew166_3_0]; exact hD
                                  exact ih166 (p_ + 1) (by omega) (by omega) _ _ hP hD hS _ (lv_sub hl [2, 3, 4, 5, 6, 7, 8, 0] rfl)
                            have ew166_3_0 : cv = cpB cv (60 * q + a0) (60 * o + a1) k 0 := by first | exact (cpB_0 _ _ _ _).symm | exact (cpA_0 _ _ _).symm
                            have hP : va_P D vwCl [(x, .inr (7, [.int 0, .int tr, .ref so, .ref sl, .ref ce, .int (nI n), .int bar, .int (nI tn), .ref ki, .ref si, .ref th, .ref ri, .int at_, .int rp, .ref rk, .ref rs, .ref kt, .ref kr, .int kn, .int rg, .ref ab, .int am, .ref bh, .int bm, .int br, .int (nI rn), .ref wa, .ref ra])), (so, .inl (cI, 4, .inl sv)), (sl, .inl (cI, 4, .inl lv)), (ce, .inl (cI, 240, .inl (cpB cv (60 * q + a0) (60 * o + a1) k 0)))] H := by rw [← ew166_3_0]; exact hP
                            have hD : va_D A [(x, .inr (7, [.int 0, .int tr, .ref so, .ref sl, .ref ce, .int (nI n), .int bar, .int (nI tn), .ref ki, .ref si, .ref th, .ref ri, .int at_, .int rp, .ref rk, .ref rs, .ref kt, .ref kr, .int kn, .int rg, .ref ab, .int am, .ref bh, .int bm, .int br, .int (nI rn), .ref wa, .ref ra])), (so, .inl (cI, 4, .inl sv)), (sl, .inl (cI, 4, .inl lv)), (ce, .inl (cI, 240, .inl (cpB cv (60 * q + a0) (60 * o + a1) k 0)))] := by rw [← ew166_3_0]; exact hD
                            exact lp166 _ 0 (Nat.zero_le _) (Nat.lt_succ_self _) _ _ hP hD hS _ (lv_sub hl [3, 4, 5, 6, 7, 8, 1, 0] rfl)
                        · -- f141
                          have hoc : okC (lv q) (lv o) i j v = false := decide_eq_false (fun z => c141 z.2.2.2.2.2.2)
                          refine lv_aload_n hx hb dX7_copy_144 rfl (lv_at hl 1 rfl) ?_
                          refine lv_iconst (v := 3) hx hb dX7_copy_145 (by decide) ?_
                          have hPc := hP.sub (ws' := [(x, .inr (7, [.int 0, .int tr, .ref so, .ref sl, .ref ce, .int (nI n), .int bar, .int (nI tn), .ref ki, .ref si, .ref th, .ref ri, .int at_, .int rp, .ref rk, .ref rs, .ref kt, .ref kr, .int kn, .int rg, .ref ab, .int am, .ref bh, .int bm, .int br, .int (nI rn), .ref wa, .ref ra]))]) [0] rfl
                          have hDc := hD.sub (ws' := [(x, .inr (7, [.int 0, .int tr, .ref so, .ref sl, .ref ce, .int (nI n), .int bar, .int (nI tn), .ref ki, .ref si, .ref th, .ref ri, .int at_, .int rp, .ref rk, .ref rs, .ref kt, .ref kr, .int kn, .int rg, .ref ab, .int am, .ref bh, .int bm, .int br, .int (nI rn), .ref wa, .ref ra]))]) [0] (by decide) rfl
                          have hFc := va_free (wc := [(x, .inr (7, [.int 0, .int tr, .ref so, .ref sl, .ref ce, .int (nI n), .int bar, .int (nI tn), .ref ki, .ref si, .ref th, .ref ri, .int at_, .int rp, .ref rk, .ref rs, .ref kt, .ref kr, .int kn, .int rg, .ref ab, .int am, .ref bh, .int bm, .int br, .int (nI rn), .ref wa, .ref ra]))]) hD hS hA [0] rfl
                          refine va_calli (va_runV (As := [.int 3]) (rest := []) ⟨hx, hb, hml, hown, hts⟩ (c_X7_fails l D cI cO x 0 tr so sl ce n bar tn ki si th ri at_ rp rk rs kt kr kn rg ab am bh bm br rn wa ra 3 _) (cwV 1 hts gX7_copy_X7_fails rfl rfl rfl (by decide +kernel) ⟨Nat.le_of_ble_eq_true rfl, Nat.le_of_ble_eq_true rfl⟩) (preVW hPc hK hNw hDc (va_recv hK hPc (ci := 7) (q0 := 0) rfl rfl)) rfl rfl hl.1 rfl (lv_room (Nat.le_of_ble_eq_true rfl)) dX7_copy_146 ⟨Nat.zero_le _, Nat.zero_le _⟩) hS (fun q _ h => hFc q h) hFc (fun r146 u t H1 locs ht hvm w146 hB hz1 hk1 hS => ?_)
                          obtain ⟨hP1, hK1, hD1⟩ := hB
                          rw [ht] at hP1
                          try dsimp only at w146
                          obtain ⟨hP, hD⟩ := va_join (wr := [(so, .inl (cI, 4, .inl sv)), (sl, .inl (cI, 4, .inl lv)), (ce, .inl (cI, 240, .inl cv))]) (w1 := [(x, .inr (7, [.int 3, .int tr, .ref so, .ref sl, .ref ce, .int (nI n), .int bar, .int (nI tn), .ref ki, .ref si, .ref th, .ref ri, .int at_, .int rp, .ref rk, .ref rs, .ref kt, .ref kr, .int kn, .int rg, .ref ab, .int am, .ref bh, .int bm, .int br, .int (nI rn), .ref wa, .ref ra]))]) hP hD [0] [1, 2, 3] rfl rfl (by decide) (by decide) hk1 hFc hP1 hD1
                          generalize H1 = H at hP hS ⊢
                          have hP := hP.sub (ws' := [(x, .inr (7, [.int 3, .int tr, .ref so, .ref sl, .ref ce, .int (nI n), .int bar, .int (nI tn), .ref ki, .ref si, .ref th, .ref ri, .int at_, .int rp, .ref rk, .ref rs, .ref kt, .ref kr, .int kn, .int rg, .ref ab, .int am, .ref bh, .int bm, .int br, .int (nI rn), .ref wa, .ref ra])), (so, .inl (cI, 4, .inl sv)), (sl, .inl (cI, 4, .inl lv)), (ce, .inl (cI, 240, .inl cv))]) [3, 0, 1, 2] rfl
                          have hD := hD.sub (ws' := [(x, .inr (7, [.int 3, .int tr, .ref so, .ref sl, .ref ce, .int (nI n), .int bar, .int (nI tn), .ref ki, .ref si, .ref th, .ref ri, .int at_, .int rp, .ref rk, .ref rs, .ref kt, .ref kr, .int kn, .int rg, .ref ab, .int am, .ref bh, .int bm, .int br, .int (nI rn), .ref wa, .ref ra])), (so, .inl (cI, 4, .inl sv)), (sl, .inl (cI, 4, .inl lv)), (ce, .inl (cI, 240, .inl cv))]) [3, 0, 1, 2] (by decide) rfl
                          obtain rfl := w146
                          exact W.iret (v := -10 - 3) hx hb hr (fun t ht hW => ⟨⟨_, (3, cv), rfl, by first | (simp only [onKK, onK_out hk]; simp; done) | (simp only [onKK, onK_in hk, onK_out hk2]; simp; done) | (simp only [onKK, onK_in hk, onK_in hk2, cq, co]; simp [cpMR, cpMA, cpMF, *]; done) | (simp only [onKK, onK_in hk, onK_in hk2, cq, co]; simp [cpMR, cpMA, cpMF, c29, c40, c61, hoc, ca, ca1, ck]; done), by rw [ht]; exact hP, va_K.moved hW.alike hK, hD⟩, hS.F ht⟩) hS.2.2 dX7_copy_149
          · -- f61
            refine lv_aload_n hx hb dX7_copy_64 rfl (lv_at hl 0 rfl) ?_
            refine lv_iconst (v := 2) hx hb dX7_copy_65 (by decide) ?_
            have hPc := hP.sub (ws' := [(x, .inr (7, [.int 0, .int tr, .ref so, .ref sl, .ref ce, .int (nI n), .int bar, .int (nI tn), .ref ki, .ref si, .ref th, .ref ri, .int at_, .int rp, .ref rk, .ref rs, .ref kt, .ref kr, .int kn, .int rg, .ref ab, .int am, .ref bh, .int bm, .int br, .int (nI rn), .ref wa, .ref ra]))]) [0] rfl
            have hDc := hD.sub (ws' := [(x, .inr (7, [.int 0, .int tr, .ref so, .ref sl, .ref ce, .int (nI n), .int bar, .int (nI tn), .ref ki, .ref si, .ref th, .ref ri, .int at_, .int rp, .ref rk, .ref rs, .ref kt, .ref kr, .int kn, .int rg, .ref ab, .int am, .ref bh, .int bm, .int br, .int (nI rn), .ref wa, .ref ra]))]) [0] (by decide) rfl
            have hFc := va_free (wc := [(x, .inr (7, [.int 0, .int tr, .ref so, .ref sl, .ref ce, .int (nI n), .int bar, .int (nI tn), .ref ki, .ref si, .ref th, .ref ri, .int at_, .int rp, .ref rk, .ref rs, .ref kt, .ref kr, .int kn, .int rg, .ref ab, .int am, .ref bh, .int bm, .int br, .int (nI rn), .ref wa, .ref ra]))]) hD hS hA [0] rfl
            refine va_calli (va_runV (As := [.int 2]) (rest := []) ⟨hx, hb, hml, hown, hts⟩ (c_X7_fails l D cI cO x 0 tr so sl ce n bar tn ki si th ri at_ rp rk rs kt kr kn rg ab am bh bm br rn wa ra 2 _) (cwV 1 hts gX7_copy_X7_fails rfl rfl rfl (by decide +kernel) ⟨Nat.le_of_ble_eq_true rfl, Nat.le_of_ble_eq_true rfl⟩) (preVW hPc hK hNw hDc (va_recv hK hPc (ci := 7) (q0 := 0) rfl rfl)) rfl rfl hl.1 rfl (lv_room (Nat.le_of_ble_eq_true rfl)) dX7_copy_66 ⟨Nat.zero_le _, Nat.zero_le _⟩) hS (fun q _ h => hFc q h) hFc (fun r66 u t H1 locs ht hvm w66 hB hz1 hk1 hS => ?_)
            obtain ⟨hP1, hK1, hD1⟩ := hB
            rw [ht] at hP1
            try dsimp only at w66
            obtain ⟨hP, hD⟩ := va_join (wr := [(so, .inl (cI, 4, .inl sv)), (sl, .inl (cI, 4, .inl lv)), (ce, .inl (cI, 240, .inl cv))]) (w1 := [(x, .inr (7, [.int 2, .int tr, .ref so, .ref sl, .ref ce, .int (nI n), .int bar, .int (nI tn), .ref ki, .ref si, .ref th, .ref ri, .int at_, .int rp, .ref rk, .ref rs, .ref kt, .ref kr, .int kn, .int rg, .ref ab, .int am, .ref bh, .int bm, .int br, .int (nI rn), .ref wa, .ref ra]))]) hP hD [0] [1, 2, 3] rfl rfl (by decide) (by decide) hk1 hFc hP1 hD1
            generalize H1 = H at hP hS ⊢
            have hP := hP.sub (ws' := [(x, .inr (7, [.int 2, .int tr, .ref so, .ref sl, .ref ce, .int (nI n), .int bar, .int (nI tn), .ref ki, .ref si, .ref th, .ref ri, .int at_, .int rp, .ref rk, .ref rs, .ref kt, .ref kr, .int kn, .int rg, .ref ab, .int am, .ref bh, .int bm, .int br, .int (nI rn), .ref wa, .ref ra])), (so, .inl (cI, 4, .inl sv)), (sl, .inl (cI, 4, .inl lv)), (ce, .inl (cI, 240, .inl cv))]) [3, 0, 1, 2] rfl
            have hD := hD.sub (ws' := [(x, .inr (7, [.int 2, .int tr, .ref so, .ref sl, .ref ce, .int (nI n), .int bar, .int (nI tn), .ref ki, .ref si, .ref th, .ref ri, .int at_, .int rp, .ref rk, .ref rs, .ref kt, .ref kr, .int kn, .int rg, .ref ab, .int am, .ref bh, .int bm, .int br, .int (nI rn), .ref wa, .ref ra])), (so, .inl (cI, 4, .inl sv)), (sl, .inl (cI, 4, .inl lv)), (ce, .inl (cI, 240, .inl cv))]) [3, 0, 1, 2] (by decide) rfl
            obtain rfl := w66
            exact W.iret (v := -10 - 2) hx hb hr (fun t ht hW => ⟨⟨_, (2, cv), rfl, by first | (simp only [onKK, onK_out hk]; simp; done) | (simp only [onKK, onK_in hk, onK_out hk2]; simp; done) | (simp only [onKK, onK_in hk, onK_in hk2, cq, co]; simp [cpMR, cpMA, cpMF, *]; done) | (simp only [onKK, onK_in hk, onK_in hk2, cq, co]; simp [cpMR, cpMA, cpMF, c29, c40, c61, hoc, ca, ca1, ck]; done), by rw [ht]; exact hP, va_K.moved hW.alike hK, hD⟩, hS.F ht⟩) hS.2.2 dX7_copy_69
        · -- f40
          refine lv_aload_n hx hb dX7_copy_43 rfl (lv_at hl 0 rfl) ?_
          refine lv_iconst (v := 1) hx hb dX7_copy_44 (by decide) ?_
          have hPc := hP.sub (ws' := [(x, .inr (7, [.int 0, .int tr, .ref so, .ref sl, .ref ce, .int (nI n), .int bar, .int (nI tn), .ref ki, .ref si, .ref th, .ref ri, .int at_, .int rp, .ref rk, .ref rs, .ref kt, .ref kr, .int kn, .int rg, .ref ab, .int am, .ref bh, .int bm, .int br, .int (nI rn), .ref wa, .ref ra]))]) [0] rfl
          have hDc := hD.sub (ws' := [(x, .inr (7, [.int 0, .int tr, .ref so, .ref sl, .ref ce, .int (nI n), .int bar, .int (nI tn), .ref ki, .ref si, .ref th, .ref ri, .int at_, .int rp, .ref rk, .ref rs, .ref kt, .ref kr, .int kn, .int rg, .ref ab, .int am, .ref bh, .int bm, .int br, .int (nI rn), .ref wa, .ref ra]))]) [0] (by decide) rfl
          have hFc := va_free (wc := [(x, .inr (7, [.int 0, .int tr, .ref so, .ref sl, .ref ce, .int (nI n), .int bar, .int (nI tn), .ref ki, .ref si, .ref th, .ref ri, .int at_, .int rp, .ref rk, .ref rs, .ref kt, .ref kr, .int kn, .int rg, .ref ab, .int am, .ref bh, .int bm, .int br, .int (nI rn), .ref wa, .ref ra]))]) hD hS hA [0] rfl
          refine va_calli (va_runV (As := [.int 1]) (rest := []) ⟨hx, hb, hml, hown, hts⟩ (c_X7_fails l D cI cO x 0 tr so sl ce n bar tn ki si th ri at_ rp rk rs kt kr kn rg ab am bh bm br rn wa ra 1 _) (cwV 1 hts gX7_copy_X7_fails rfl rfl rfl (by decide +kernel) ⟨Nat.le_of_ble_eq_true rfl, Nat.le_of_ble_eq_true rfl⟩) (preVW hPc hK hNw hDc (va_recv hK hPc (ci := 7) (q0 := 0) rfl rfl)) rfl rfl hl.1 rfl (lv_room (Nat.le_of_ble_eq_true rfl)) dX7_copy_45 ⟨Nat.zero_le _, Nat.zero_le _⟩) hS (fun q _ h => hFc q h) hFc (fun r45 u t H1 locs ht hvm w45 hB hz1 hk1 hS => ?_)
          obtain ⟨hP1, hK1, hD1⟩ := hB
          rw [ht] at hP1
          try dsimp only at w45
          obtain ⟨hP, hD⟩ := va_join (wr := [(so, .inl (cI, 4, .inl sv)), (sl, .inl (cI, 4, .inl lv)), (ce, .inl (cI, 240, .inl cv))]) (w1 := [(x, .inr (7, [.int 1, .int tr, .ref so, .ref sl, .ref ce, .int (nI n), .int bar, .int (nI tn), .ref ki, .ref si, .ref th, .ref ri, .int at_, .int rp, .ref rk, .ref rs, .ref kt, .ref kr, .int kn, .int rg, .ref ab, .int am, .ref bh, .int bm, .int br, .int (nI rn), .ref wa, .ref ra]))]) hP hD [0] [1, 2, 3] rfl rfl (by decide) (by decide) hk1 hFc hP1 hD1
          generalize H1 = H at hP hS ⊢
          have hP := hP.sub (ws' := [(x, .inr (7, [.int 1, .int tr, .ref so, .ref sl, .ref ce, .int (nI n), .int bar, .int (nI tn), .ref ki, .ref si, .ref th, .ref ri, .int at_, .int rp, .ref rk, .ref rs, .ref kt, .ref kr, .int kn, .int rg, .ref ab, .int am, .ref bh, .int bm, .int br, .int (nI rn), .ref wa, .ref ra])), (so, .inl (cI, 4, .inl sv)), (sl, .inl (cI, 4, .inl lv)), (ce, .inl (cI, 240, .inl cv))]) [3, 0, 1, 2] rfl
          have hD := hD.sub (ws' := [(x, .inr (7, [.int 1, .int tr, .ref so, .ref sl, .ref ce, .int (nI n), .int bar, .int (nI tn), .ref ki, .ref si, .ref th, .ref ri, .int at_, .int rp, .ref rk, .ref rs, .ref kt, .ref kr, .int kn, .int rg, .ref ab, .int am, .ref bh, .int bm, .int br, .int (nI rn), .ref wa, .ref ra])), (so, .inl (cI, 4, .inl sv)), (sl, .inl (cI, 4, .inl lv)), (ce, .inl (cI, 240, .inl cv))]) [3, 0, 1, 2] (by decide) rfl
          obtain rfl := w45
          exact W.iret (v := -10 - 1) hx hb hr (fun t ht hW => ⟨⟨_, (1, cv), rfl, by first | (simp only [onKK, onK_out hk]; simp; done) | (simp only [onKK, onK_in hk, onK_out hk2]; simp; done) | (simp only [onKK, onK_in hk, onK_in hk2, cq, co]; simp [cpMR, cpMA, cpMF, *]; done) | (simp only [onKK, onK_in hk, onK_in hk2, cq, co]; simp [cpMR, cpMA, cpMF, c29, c40, c61, hoc, ca, ca1, ck]; done), by rw [ht]; exact hP, va_K.moved hW.alike hK, hD⟩, hS.F ht⟩) hS.2.2 dX7_copy_48
    · -- n13
      obtain rfl := w13.2 b13
      have hk2 := b13
      refine lv_if_ne (tgt := 21) hx hb dX7_copy_16 (by decide) (fun h => absurd (by decide) h) (fun _ => ?_)
      refine lv_iconst (v := -1) hx hb dX7_copy_19 (by decide) ?_
      exact W.iret (v := -1) hx hb hr (fun t ht hW => ⟨⟨_, (0, cv), rfl, by first | (simp only [onKK, onK_out hk]; simp; done) | (simp only [onKK, onK_in hk, onK_out hk2]; simp; done) | (simp only [onKK, onK_in hk, onK_in hk2, cq, co]; simp [cpMR, cpMA, cpMF, *]; done) | (simp only [onKK, onK_in hk, onK_in hk2, cq, co]; simp [cpMR, cpMA, cpMF, c29, c40, c61, hoc, ca, ca1, ck]; done), by rw [ht]; exact hP, va_K.moved hW.alike hK, hD⟩, hS.F ht⟩) hS.2.2 dX7_copy_20
  · -- n6
    obtain rfl := w6.2 b6
    have hk := b6
    refine lv_if_eq (tgt := 19) hx hb dX7_copy_9 (by decide) (fun _ => ?_) (fun h => absurd (by decide) h)
    refine lv_iconst (v := -1) hx hb dX7_copy_19 (by decide) ?_
    exact W.iret (v := -1) hx hb hr (fun t ht hW => ⟨⟨_, (0, cv), rfl, by first | (simp only [onKK, onK_out hk]; simp; done) | (simp only [onKK, onK_in hk, onK_out hk2]; simp; done) | (simp only [onKK, onK_in hk, onK_in hk2, cq, co]; simp [cpMR, cpMA, cpMF, *]; done) | (simp only [onKK, onK_in hk, onK_in hk2, cq, co]; simp [cpMR, cpMA, cpMF, c29, c40, c61, hoc, ca, ca1, ck]; done), by rw [ht]; exact hP, va_K.moved hW.alike hK, hD⟩, hS.F ht⟩) hS.2.2 dX7_copy_20
