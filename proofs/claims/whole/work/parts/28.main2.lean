set_option maxHeartbeats 4000000 in
set_option maxRecDepth 100000 in
theorem c_X6_goesOn (l : Launch) (D : va_G) (cI cO : ClassId) (i : Nat) (x : Int32) (hi60 : i ≤ 60) : Met l yX6_goesOn wsX6_goesOn ({ frames := 1, cells := 0, slots := 0, locals := 20 } : Room) (va_Pc [.int (nI i), .int x] (wdR D cI cO [])) (vp_Si (fun r => ((goB i x = true) → r = 1) ∧ (¬ (goB i x = true) → r = 0))) 0 0 (fun _ => False) := by
  refine Met.ofW (cc := cX6_goesOn) (maxL := 2) (ret := (some .boolean)) (by decide) rfl ?_
  intro p e s m args below meth c s₁ B hml hv
  obtain ⟨rfl, hP, hK, hNw⟩ := hv
  have hx := B.exec
  have hb := B.bytes
  have hr := B.returns
  have hts := atoms_spec (ws := wsX6_goesOn) B.pre
  have hown : s.vm.findClass RX6 = some m.cls := findClass_of_methodNamed B.named
  have hlocks := B.notSynchronized
  have hP : va_P D vwCl [] s.heap := hP
  have hl := lv_entry ([.int (nI i), .int x]) (n := 2) (Nat.le_of_ble_eq_true rfl)
  rw [lg_entry_eq]
  generalize (lg_sl ([.int (nI i), .int x]) ++ List.replicate (2 - (lg_sl ([.int (nI i), .int x])).length) Slot.unset).toArray = ls at hl ⊢
  have hl : lv_has ls 2 [(0, .int (nI i)), (1, .int x)] := hl
  refine lv_iload_n hx hb dX6_goesOn_0 rfl (lv_at hl 0 rfl) ?_
  refine lv_if_ne (tgt := 16) hx hb dX6_goesOn_1 (by decide) (fun c1 => ?_) (fun c1 => ?_)
  · -- t1
    have z1 : ¬ i = 0 := fun q => c1 (by rw [q]; rfl)
    refine lv_iload_n hx hb dX6_goesOn_16 rfl (lv_at hl 0 rfl) ?_
    refine lv_bipush (v := 27) hx hb dX6_goesOn_17 (by decide) ?_
    refine lv_icmp_le (tgt := 24) hx hb dX6_goesOn_19 (by decide) (fun c19 => ?_) (fun c19 => ?_)
    · -- t19
      have z19 : ¬ 27 < i := by have q := (nI_leI (b := 27) (by omega) (by decide)).mp c19; omega
      refine lv_iload_n hx hb dX6_goesOn_24 rfl (lv_at hl 0 rfl) ?_
      refine lv_iconst (v := 3) hx hb dX6_goesOn_25 (by decide) ?_
      refine lv_irem hx hb dX6_goesOn_26 (by decide) ?_
      refine tp_i (y := nI (i % 3)) (pk_rem (d := 3) (by omega) (by decide) (by decide)) ?_
      by_cases k27_1 : nI (i % 3) = 1
      · -- case 1
        refine lv_lookup (off := 25) (tgt := 52) hx hb dX6_goesOn_27 (by decide) (by rw [k27_1]; decide) (by decide) ?_
        have z27 : i % 3 = 1 := (nI_eq (b := 1) (by omega) (by decide)).mp k27_1
        refine lv_iload_n hx hb dX6_goesOn_52 rfl (lv_at hl 1 rfl) ?_
        refine lv_bipush (v := 59) hx hb dX6_goesOn_53 (by decide) ?_
        refine lv_icmp_ne (tgt := 62) hx hb dX6_goesOn_55 (by decide) (fun c55 => ?_) (fun c55 => ?_)
        · -- t55
          refine lv_iconst (v := 0) hx hb dX6_goesOn_62 (by decide) ?_
          exact W.zret (v := 0) (ty := .boolean) hx hb hr rfl (fun t ht hW => ⟨_, rfl, by first | exact so_yes (by simp [goB, *]; done) | exact so_no (by simp [goB, *]; done), ht⟩) (fun _ h => absurd h List.not_mem_nil) dX6_goesOn_63
        · -- f55
          refine lv_iconst (v := 1) hx hb dX6_goesOn_58 (by decide) ?_
          refine lv_goto (tgt := 63) hx hb dX6_goesOn_59 (by decide) ?_
          exact W.zret (v := 1) (ty := .boolean) hx hb hr rfl (fun t ht hW => ⟨_, rfl, by first | exact so_yes (by simp [goB, *]; done) | exact so_no (by simp [goB, *]; done), ht⟩) (fun _ h => absurd h List.not_mem_nil) dX6_goesOn_63
      by_cases k27_2 : nI (i % 3) = 2
      · -- case 2
        refine lv_lookup (off := 37) (tgt := 64) hx hb dX6_goesOn_27 (by decide) (by rw [k27_2]; decide) (by decide) ?_
        have z27 : i % 3 = 2 := (nI_eq (b := 2) (by omega) (by decide)).mp k27_2
        refine lv_iload_n hx hb dX6_goesOn_64 rfl (lv_at hl 1 rfl) ?_
        have hPc := hP.sub (ws' := []) [] rfl
        refine vp_callSi (va_Run.run (va_runS (As := [.int x]) (rest := []) ⟨hx, hb, hml, hown, hts⟩ (c_X1_kindBy l D cI cO x) (va_cwS 1 hts gX6_goesOn_X1_kindBy rfl rfl rfl (by decide +kernel) ⟨Nat.le_of_ble_eq_true rfl, Nat.le_of_ble_eq_true rfl⟩) (preSR hPc hK hNw) rfl rfl hl.1 rfl (lv_room (Nat.le_of_ble_eq_true rfl)) dX6_goesOn_65 ⟨Nat.zero_le _, Nat.zero_le _⟩)) (fun r65 w65 => ?_)
        obtain rfl := w65
        refine lv_bipush (v := -9) hx hb dX6_goesOn_68 (by decide) ?_
        refine lv_icmp_eq (tgt := 77) hx hb dX6_goesOn_70 (by decide) (fun c70 => ?_) (fun c70 => ?_)
        · -- t70
          refine lv_iconst (v := 0) hx hb dX6_goesOn_77 (by decide) ?_
          exact W.zret (v := 0) (ty := .boolean) hx hb hr rfl (fun t ht hW => ⟨_, rfl, by first | exact so_yes (by simp [goB, *]; done) | exact so_no (by simp [goB, *]; done), ht⟩) (fun _ h => absurd h List.not_mem_nil) dX6_goesOn_78
        · -- f70
          refine lv_iconst (v := 1) hx hb dX6_goesOn_73 (by decide) ?_
          refine lv_goto (tgt := 78) hx hb dX6_goesOn_74 (by decide) ?_
          exact W.zret (v := 1) (ty := .boolean) hx hb hr rfl (fun t ht hW => ⟨_, rfl, by first | exact so_yes (by simp [goB, *]; done) | exact so_no (by simp [goB, *]; done), ht⟩) (fun _ h => absurd h List.not_mem_nil) dX6_goesOn_78
      refine lv_lookup (off := 52) (tgt := 79) hx hb dX6_goesOn_27 (by decide) (by show Op.lookupswitch.offset [(1, 25), (2, 37)] 52 _ = _; rw [lv_osw (k := 1) k27_1 (by decide), lv_osw (k := 2) k27_2 (by decide)]; rfl) (by decide) ?_
      have z27 : ¬ i % 3 = 1 := fun q => k27_1 (by rw [q]; rfl)
      have z28 : ¬ i % 3 = 2 := fun q => k27_2 (by rw [q]; rfl)
      refine lv_iload_n hx hb dX6_goesOn_79 rfl (lv_at hl 1 rfl) ?_
      refine lv_bipush (v := 49) hx hb dX6_goesOn_80 (by decide) ?_
      refine lv_icmp_lt (tgt := 95) hx hb dX6_goesOn_82 (by decide) (fun c82 => ?_) (fun c82 => ?_)
      · -- t82
        refine lv_iconst (v := 0) hx hb dX6_goesOn_95 (by decide) ?_
        exact W.zret (v := 0) (ty := .boolean) hx hb hr rfl (fun t ht hW => ⟨_, rfl, by first | exact so_yes (by simp [goB, *]; done) | exact so_no (by simp [goB, *]; done), ht⟩) (fun _ h => absurd h List.not_mem_nil) dX6_goesOn_96
      · -- f82
        refine lv_iload_n hx hb dX6_goesOn_85 rfl (lv_at hl 1 rfl) ?_
        refine lv_bipush (v := 57) hx hb dX6_goesOn_86 (by decide) ?_
        refine lv_icmp_gt (tgt := 95) hx hb dX6_goesOn_88 (by decide) (fun c88 => ?_) (fun c88 => ?_)
        · -- t88
          refine lv_iconst (v := 0) hx hb dX6_goesOn_95 (by decide) ?_
          exact W.zret (v := 0) (ty := .boolean) hx hb hr rfl (fun t ht hW => ⟨_, rfl, by first | exact so_yes (by simp [goB, *]; done) | exact so_no (by simp [goB, *]; done), ht⟩) (fun _ h => absurd h List.not_mem_nil) dX6_goesOn_96
        · -- f88
          refine lv_iconst (v := 1) hx hb dX6_goesOn_91 (by decide) ?_
          refine lv_goto (tgt := 96) hx hb dX6_goesOn_92 (by decide) ?_
          exact W.zret (v := 1) (ty := .boolean) hx hb hr rfl (fun t ht hW => ⟨_, rfl, by first | exact so_yes (by simp [goB, *]; done) | exact so_no (by simp [goB, *]; done), ht⟩) (fun _ h => absurd h List.not_mem_nil) dX6_goesOn_96
    · -- f19
      have z19 : 27 < i := by have q := mt (nI_leI (b := 27) (by omega) (by decide)).mpr c19; omega
      refine lv_iconst (v := 0) hx hb dX6_goesOn_22 (by decide) ?_
      exact W.zret (v := 0) (ty := .boolean) hx hb hr rfl (fun t ht hW => ⟨_, rfl, by first | exact so_yes (by simp [goB, *]; done) | exact so_no (by simp [goB, *]; done), ht⟩) (fun _ h => absurd h List.not_mem_nil) dX6_goesOn_23
  · -- f1
    have z1 : i = 0 := (nI_eq (b := 0) (by omega) (by decide)).mp c1
    refine lv_iload_n hx hb dX6_goesOn_4 rfl (lv_at hl 1 rfl) ?_
    refine lv_bipush (v := 116) hx hb dX6_goesOn_5 (by decide) ?_
    refine lv_icmp_ne (tgt := 14) hx hb dX6_goesOn_7 (by decide) (fun c7 => ?_) (fun c7 => ?_)
    · -- t7
      refine lv_iconst (v := 0) hx hb dX6_goesOn_14 (by decide) ?_
      exact W.zret (v := 0) (ty := .boolean) hx hb hr rfl (fun t ht hW => ⟨_, rfl, by first | exact so_yes (by simp [goB, *]; done) | exact so_no (by simp [goB, *]; done), ht⟩) (fun _ h => absurd h List.not_mem_nil) dX6_goesOn_15
    · -- f7
      refine lv_iconst (v := 1) hx hb dX6_goesOn_10 (by decide) ?_
      refine lv_goto (tgt := 15) hx hb dX6_goesOn_11 (by decide) ?_
      exact W.zret (v := 1) (ty := .boolean) hx hb hr rfl (fun t ht hW => ⟨_, rfl, by first | exact so_yes (by simp [goB, *]; done) | exact so_no (by simp [goB, *]; done), ht⟩) (fun _ h => absurd h List.not_mem_nil) dX6_goesOn_15

set_option maxHeartbeats 4000000 in
set_option maxRecDepth 100000 in
theorem c_X6_firstFault (l : Launch) (D : va_G) (cI cO : ClassId) (o : Nat) (ca : Nat) (ln : Int32) (L : Nat) (f : Nat → Int32) (a0 : Nat) (k : Nat) (hL : L ≤ 60) (hk : a0 + k ≤ L) : Met l yX6_firstFault wsX6_firstFault ({ frames := 2, cells := 0, slots := 0, locals := 42 } : Room) (va_Pc [.ref o, .int (nI a0), .int (nI k)] (wdR D cI cO [(o, .inr (4, [.ref ca, .int ln, .int (nI L)])), (ca, .inl (cI, 60, .inl f))])) (vp_Si (fun r => r = (ffW f a0 k k 0))) 0 0 (fun _ => False) := by
  refine Met.ofW (cc := cX6_firstFault) (maxL := 4) (ret := (some .int)) (by decide) rfl ?_
  intro p e s m args below meth c s₁ B hml hv
  obtain ⟨rfl, hP, hK, hNw⟩ := hv
  have hx := B.exec
  have hb := B.bytes
  have hr := B.returns
  have hts := atoms_spec (ws := wsX6_firstFault) B.pre
  have hown : s.vm.findClass RX6 = some m.cls := findClass_of_methodNamed B.named
  have hlocks := B.notSynchronized
  have hP : va_P D vwCl [(o, .inr (4, [.ref ca, .int ln, .int (nI L)])), (ca, .inl (cI, 60, .inl f))] s.heap := hP
  have hl := lv_entry ([.ref o, .int (nI a0), .int (nI k)]) (n := 4) (Nat.le_of_ble_eq_true rfl)
  rw [lg_entry_eq]
  generalize (lg_sl ([.ref o, .int (nI a0), .int (nI k)]) ++ List.replicate (4 - (lg_sl ([.ref o, .int (nI a0), .int (nI k)])).length) Slot.unset).toArray = ls at hl ⊢
  have hl : lv_has ls 4 [(0, .ref o), (1, .int (nI a0)), (2, .int (nI k))] := hl
  refine lv_iconst (v := 0) hx hb dX6_firstFault_0 (by decide) ?_
  refine lv_istore_n (lv' := [(3, .int 0), (0, .ref o), (1, .int (nI a0)), (2, .int (nI k))]) hx hb dX6_firstFault_1 rfl hl (by decide) rfl (fun ls hl => ?_)
  have lp2 : ∀ (fu2 : Nat) (i : Nat) (hi : i ≤ k) (hq : ffW f a0 k (k - i) i = ffW f a0 k k 0) (hm2 : k - i < fu2) (ls : Array Slot) (hl : lv_has ls 4 [(0, .ref o), (1, .int (nI a0)), (2, .int (nI k)), (3, .int (nI i))]), W p l e (headSpec wsX6_firstFault ({ frames := 2, cells := 0, slots := 0, locals := 42 } : Room)).room s m ([.ref o, .int (nI a0), .int (nI k)]).toArray below meth c s.heap [] 0 0 (MQ below (vp_Si (fun r => r = (ffW f a0 k k 0))) ([.ref o, .int (nI a0), .int (nI k)]).toArray s 0 0 (fun _ => False)) (F0 m 2 ls []) := by
    intro fu2
    induction fu2 with
    | zero =>
      intros; omega
    | succ fu2 ih2 =>
      intro i hi hq hm2 ls hl
      refine lv_iload_n hx hb dX6_firstFault_2 rfl (lv_at hl 3 rfl) ?_
      refine lv_iload_n hx hb dX6_firstFault_3 rfl (lv_at hl 2 rfl) ?_
      refine lv_icmp_ge (tgt := 29) hx hb dX6_firstFault_4 (by decide) (fun c4 => ?_) (fun c4 => ?_)
      · -- t4
        have e4 : i = k := by have q := ge_n (by omega) (by omega) c4; omega
        rw [e4] at hl
        refine lv_iload_n hx hb dX6_firstFault_29 rfl (lv_at hl 2 rfl) ?_
        refine lv_bipush (v := 10) hx hb dX6_firstFault_30 (by decide) ?_
        refine lv_icmp_lt (tgt := 46) hx hb dX6_firstFault_32 (by decide) (fun c32 => ?_) (fun c32 => ?_)
        · -- t32
          have z32 : ¬ 10 ≤ k := by have q := (nI_ltI (b := 10) (by omega) (by decide)).mp c32; omega
          refine lv_iconst (v := 0) hx hb dX6_firstFault_46 (by decide) ?_
          refine lv_istore_n (lv' := [(3, .int 0), (0, .ref o), (1, .int (nI a0)), (2, .int (nI k))]) hx hb dX6_firstFault_47 rfl hl (by decide) rfl (fun ls hl => ?_)
          refine lv_iload_n hx hb dX6_firstFault_48 rfl (lv_at hl 0 rfl) ?_
          refine lv_if_eq (tgt := 57) hx hb dX6_firstFault_49 (by decide) (fun _ => ?_) (fun h => absurd (by decide) h)
          refine lv_iload_n hx hb dX6_firstFault_57 rfl (lv_at hl 3 rfl) ?_
          exact W.iret (v := nI k) hx hb hr (fun t ht hW => ⟨_, rfl, by rw [← hq, e4, Nat.sub_self]; simp [ffW, *], ht⟩) (fun _ h => absurd h List.not_mem_nil) dX6_firstFault_58
        · -- f32
          have z32 : 10 ≤ k := by have q := mt (nI_ltI (b := 10) (by omega) (by decide)).mpr c32; omega
          refine lv_iload_n hx hb dX6_firstFault_35 rfl (lv_at hl 2 rfl) ?_
          refine lv_iconst (v := 3) hx hb dX6_firstFault_36 (by decide) ?_
          refine lv_irem hx hb dX6_firstFault_37 (by decide) ?_
          refine tp_i (y := nI (k % 3)) (pk_rem (d := 3) (by omega) (by decide) (by decide)) ?_
          refine lv_iconst (v := 1) hx hb dX6_firstFault_38 (by decide) ?_
          refine lv_icmp_ne (tgt := 46) hx hb dX6_firstFault_39 (by decide) (fun c39 => ?_) (fun c39 => ?_)
          · -- t39
            have z39 : ¬ k % 3 = 1 := fun q => c39 (by rw [q]; rfl)
            refine lv_iconst (v := 0) hx hb dX6_firstFault_46 (by decide) ?_
            refine lv_istore_n (lv' := [(3, .int 0), (0, .ref o), (1, .int (nI a0)), (2, .int (nI k))]) hx hb dX6_firstFault_47 rfl hl (by decide) rfl (fun ls hl => ?_)
            refine lv_iload_n hx hb dX6_firstFault_48 rfl (lv_at hl 0 rfl) ?_
            refine lv_if_eq (tgt := 57) hx hb dX6_firstFault_49 (by decide) (fun _ => ?_) (fun h => absurd (by decide) h)
            refine lv_iload_n hx hb dX6_firstFault_57 rfl (lv_at hl 3 rfl) ?_
            exact W.iret (v := nI k) hx hb hr (fun t ht hW => ⟨_, rfl, by rw [← hq, e4, Nat.sub_self]; simp [ffW, *], ht⟩) (fun _ h => absurd h List.not_mem_nil) dX6_firstFault_58
          · -- f39
            have z39 : k % 3 = 1 := (nI_eq (b := 1) (by omega) (by decide)).mp c39
            refine lv_iconst (v := 1) hx hb dX6_firstFault_42 (by decide) ?_
            refine lv_goto (tgt := 47) hx hb dX6_firstFault_43 (by decide) ?_
            refine lv_istore_n (lv' := [(3, .int 1), (0, .ref o), (1, .int (nI a0)), (2, .int (nI k))]) hx hb dX6_firstFault_47 rfl hl (by decide) rfl (fun ls hl => ?_)
            refine lv_iload_n hx hb dX6_firstFault_48 rfl (lv_at hl 0 rfl) ?_
            refine lv_if_eq (tgt := 57) hx hb dX6_firstFault_49 (by decide) (fun h => absurd h (by decide)) (fun _ => ?_)
            refine lv_bipush (v := -9) hx hb dX6_firstFault_52 (by decide) ?_
            refine lv_goto (tgt := 58) hx hb dX6_firstFault_54 (by decide) ?_
            exact W.iret (v := -9) hx hb hr (fun t ht hW => ⟨_, rfl, by rw [← hq, e4, Nat.sub_self]; simp [ffW, *], ht⟩) (fun _ h => absurd h List.not_mem_nil) dX6_firstFault_58
      · -- f4
        have l4 : i < k := lt_n (by omega) (by omega) c4
        refine lv_iload_n hx hb dX6_firstFault_7 rfl (lv_at hl 3 rfl) ?_
        refine lv_aload_n hx hb dX6_firstFault_8 rfl (lv_at hl 0 rfl) ?_
        refine lv_iload_n hx hb dX6_firstFault_9 rfl (lv_at hl 1 rfl) ?_
        refine lv_iload_n hx hb dX6_firstFault_10 rfl (lv_at hl 3 rfl) ?_
        refine lv_iadd hx hb dX6_firstFault_11 ?_
        refine tp_i (y := nI (a0 + i)) (nI_add _ _) ?_
        have hPc := hP.sub (ws' := [(o, .inr (4, [.ref ca, .int ln, .int (nI L)])), (ca, .inl (cI, 60, .inl f))]) [0, 1] rfl
        refine vp_callSi (va_Run.run (va_runV (As := [.int (nI (a0 + i))]) (rest := [.int (nI i)]) ⟨hx, hb, hml, hown, hts⟩ (c_X4_at l D cI cO o ca ln L f (a0 + i) (by assumption) (by omega)) (cwV 1 hts gX6_firstFault_X4_at rfl rfl rfl (by decide +kernel) ⟨Nat.le_of_ble_eq_true rfl, Nat.le_of_ble_eq_true rfl⟩) (preVR hPc hK hNw (va_recv hK hPc (ci := 4) (q0 := 0) rfl rfl)) rfl rfl hl.1 rfl (lv_room (Nat.le_of_ble_eq_true rfl)) dX6_firstFault_12 ⟨Nat.zero_le _, Nat.zero_le _⟩)) (fun r12 w12 => ?_)
        obtain rfl := w12
        have hPc := hP.sub (ws' := []) [] rfl
        refine vp_callSi (va_Run.run (va_runS (As := [.int (nI i), .int (f (a0 + i))]) (rest := []) ⟨hx, hb, hml, hown, hts⟩ (c_X6_goesOn l D cI cO i (f (a0 + i)) (by omega)) (va_cwS 2 hts gX6_firstFault_X6_goesOn rfl rfl rfl (by decide +kernel) ⟨Nat.le_of_ble_eq_true rfl, Nat.le_of_ble_eq_true rfl⟩) (preSR hPc hK hNw) rfl rfl hl.1 rfl (lv_room (Nat.le_of_ble_eq_true rfl)) dX6_firstFault_15 ⟨Nat.zero_le _, Nat.zero_le _⟩)) (fun r15 w15 => ?_)
        by_cases b15 : goB i (f (a0 + i)) = true
        · -- y15
          obtain rfl := w15.1 b15
          refine lv_if_ne (tgt := 23) hx hb dX6_firstFault_18 (by decide) (fun _ => ?_) (fun h => absurd h (by decide))
          refine lv_iinc (v := nI (i + 1)) (lv' := [(3, .int (nI (i + 1))), (0, .ref o), (1, .int (nI a0)), (2, .int (nI k))]) hx hb dX6_firstFault_23 hl (k := 3) rfl (nI_1 _) (by decide) rfl (fun ls hl => ?_)
          refine lv_goto (tgt := 2) hx hb dX6_firstFault_26 (by decide) ?_
          exact ih2 (i + 1) (by omega) (by rw [← hq, show k - i = (k - (i + 1)) + 1 by omega, ffW, if_pos b15]) (by omega) _ (lv_sub hl [1, 2, 3, 0] rfl)
        · -- n15
          obtain rfl := w15.2 b15
          refine lv_if_ne (tgt := 23) hx hb dX6_firstFault_18 (by decide) (fun h => absurd (by decide) h) (fun _ => ?_)
          refine lv_iload_n hx hb dX6_firstFault_21 rfl (lv_at hl 3 rfl) ?_
          exact W.iret (v := nI i) hx hb hr (fun t ht hW => ⟨_, rfl, by rw [← hq, show k - i = (k - (i + 1)) + 1 by omega, ffW, if_neg b15], ht⟩) (fun _ h => absurd h List.not_mem_nil) dX6_firstFault_22
  exact lp2 _ 0 (Nat.zero_le _) (rfl) (Nat.lt_succ_self _) _ (lv_sub hl [1, 2, 3, 0] rfl)

set_option maxHeartbeats 4000000 in
set_option maxRecDepth 100000 in
theorem c_X6_sheet (l : Launch) (D : va_G) (cI cO : ClassId) (h : Nat) (aS : Nat) (pe : Nat) (tq : Nat) (se : Nat) (mo : Nat) (re : Nat) (bar : Int32) (tr : Int32) (fa : Int32) (g : Nat → Option Nat) (so : Nat) (co : Nat) (ln : Int32) (le : Int32) (f : Nat → Int32) (kq : Int32) (w : Int32) (v : Int32) (sz : Nat) (hg : ¬ kq < 0 → kq < 4 → g kq.toNatClampNeg = some so) : Met l yX6_sheet wsX6_sheet ({ frames := 2, cells := 0, slots := 0, locals := 44 } : Room) (va_Pc [.ref h, .int kq, .int w, .int v] (wdW D cI cO [(h, .inr (6, [.ref aS, .ref pe, .ref tq, .ref se, .ref mo, .ref re, .int bar, .int tr, .int fa])), (aS, .inl (cO, 4, .inr (.inr (.inr (.inr g))))), (so, .inr (4, [.ref co, .int ln, .int le])), (co, .inl (cI, 60, .inl f))] sz)) (va_Qi (S := Int32 × Int32 × Int32 × (Nat → Int32)) (fun r u => r = (onK kq (shtR w v) (-1)) ∧ u.1 = (onK kq (shtA w v) 0) ∧ u.2.1 = (onK kq (if shtOk w v = true then w else ln) ln) ∧ u.2.2.1 = (onK kq (if shtOk w v = true then v else le) le) ∧ u.2.2.2 = (onK kq (if shtOk w v = true then zeroF f 60 else f) f)) (fun u t => va_P D vwCl [(h, .inr (6, [.ref aS, .ref pe, .ref tq, .ref se, .ref mo, .ref re, .int bar, .int tr, .int u.1])), (aS, .inl (cO, 4, .inr (.inr (.inr (.inr g))))), (so, .inr (4, [.ref co, .int u.2.1, .int u.2.2.1])), (co, .inl (cI, 60, .inl u.2.2.2))] t.heap ∧ va_K D vwCl (tyL cI cO) t ∧ va_D (va_A [(h, .inr (6, [.ref aS, .ref pe, .ref tq, .ref se, .ref mo, .ref re, .int bar, .int tr, .int fa])), (aS, .inl (cO, 4, .inr (.inr (.inr (.inr g))))), (so, .inr (4, [.ref co, .int ln, .int le])), (co, .inl (cI, 60, .inl f))] sz) [(h, .inr (6, [.ref aS, .ref pe, .ref tq, .ref se, .ref mo, .ref re, .int bar, .int tr, .int u.1])), (aS, .inl (cO, 4, .inr (.inr (.inr (.inr g))))), (so, .inr (4, [.ref co, .int u.2.1, .int u.2.2.1])), (co, .inl (cI, 60, .inl u.2.2.2))]) (va_A [(h, .inr (6, [.ref aS, .ref pe, .ref tq, .ref se, .ref mo, .ref re, .int bar, .int tr, .int fa])), (aS, .inl (cO, 4, .inr (.inr (.inr (.inr g))))), (so, .inr (4, [.ref co, .int ln, .int le])), (co, .inl (cI, 60, .inl f))] sz)) 0 0 (va_A [(h, .inr (6, [.ref aS, .ref pe, .ref tq, .ref se, .ref mo, .ref re, .int bar, .int tr, .int fa])), (aS, .inl (cO, 4, .inr (.inr (.inr (.inr g))))), (so, .inr (4, [.ref co, .int ln, .int le])), (co, .inl (cI, 60, .inl f))] sz) := by
  refine Met.ofW (cc := cX6_sheet) (maxL := 5) (ret := (some .int)) (by decide) rfl ?_
  intro p e s m args below meth c s₁ B hml hv
  obtain ⟨rfl, hsz, hP, hK, hNw, hD0⟩ := hv
  have hx := B.exec
  have hb := B.bytes
  have hr := B.returns
  have hts := atoms_spec (ws := wsX6_sheet) B.pre
  have hown : s.vm.findClass RX6 = some m.cls := findClass_of_methodNamed B.named
  have hlocks := B.notSynchronized
  have f53 := hts (.fieldLink RX6 53 "StruckThrees" "fault" "I") (by decide +kernel)
  have iX6 : ∀ w ∈ wsX60, w ∈ wsX6_sheet := by decide +kernel
  subst hsz
  have hD := hD0.self (sz := s.heap.size)
  generalize hAe : va_A [(h, .inr (6, [.ref aS, .ref pe, .ref tq, .ref se, .ref mo, .ref re, .int bar, .int tr, .int fa])), (aS, .inl (cO, 4, .inr (.inr (.inr (.inr g))))), (so, .inr (4, [.ref co, .int ln, .int le])), (co, .inl (cI, 60, .inl f))] s.heap.size = A at hD ⊢
  have hA : ∀ q : Nat, s.heap.size ≤ q → A q := fun q h => by rw [← hAe]; exact Or.inr h
  have hS : va_S A s.heap s.heap [] := va_S.rf
  have hP : va_P D vwCl [(h, .inr (6, [.ref aS, .ref pe, .ref tq, .ref se, .ref mo, .ref re, .int bar, .int tr, .int fa])), (aS, .inl (cO, 4, .inr (.inr (.inr (.inr g))))), (so, .inr (4, [.ref co, .int ln, .int le])), (co, .inl (cI, 60, .inl f))] s.heap := hP
  have hl := lv_entry ([.ref h, .int kq, .int w, .int v]) (n := 5) (Nat.le_of_ble_eq_true rfl)
  rw [lg_entry_eq]
  generalize (lg_sl ([.ref h, .int kq, .int w, .int v]) ++ List.replicate (5 - (lg_sl ([.ref h, .int kq, .int w, .int v])).length) Slot.unset).toArray = ls at hl ⊢
  have hl : lv_has ls 5 [(0, .ref h), (1, .int kq), (2, .int w), (3, .int v)] := hl
  refine lv_aload_n hx hb dX6_sheet_0 rfl (lv_at hl 0 rfl) ?_
  refine lv_iconst (v := 0) hx hb dX6_sheet_1 (by decide) ?_
  refine va_put (D := D) (ci := 6) (v := .int 0) (ty := .int) (C := RX6) (T := TX6) (N := 9) hx hb hts iX6 tyX6 tyX6_ok nmX6 hown hK hP hD hS 0 rfl rfl 8 (by decide) f53 (fun _ h9 => h9) rfl (by decide +kernel) rfl rfl (Nat.le_of_ble_eq_true rfl) dX6_sheet_2 (fun H locs hP hD hS => ?_)
  have hP : va_P D vwCl [(h, .inr (6, [.ref aS, .ref pe, .ref tq, .ref se, .ref mo, .ref re, .int bar, .int tr, .int 0])), (aS, .inl (cO, 4, .inr (.inr (.inr (.inr g))))), (so, .inr (4, [.ref co, .int ln, .int le])), (co, .inl (cI, 60, .inl f))] H := hP
  have hD : va_D A [(h, .inr (6, [.ref aS, .ref pe, .ref tq, .ref se, .ref mo, .ref re, .int bar, .int tr, .int 0])), (aS, .inl (cO, 4, .inr (.inr (.inr (.inr g))))), (so, .inr (4, [.ref co, .int ln, .int le])), (co, .inl (cI, 60, .inl f))] := hD
  refine lv_aload_n hx hb dX6_sheet_5 rfl (lv_at hl 0 rfl) ?_
  refine lv_iload_n hx hb dX6_sheet_6 rfl (lv_at hl 1 rfl) ?_
  have hPc := hP.sub (ws' := [(h, .inr (6, [.ref aS, .ref pe, .ref tq, .ref se, .ref mo, .ref re, .int bar, .int tr, .int 0])), (aS, .inl (cO, 4, .inr (.inr (.inr (.inr g)))))]) [0, 1] rfl
  refine va_csq (va_Run.run (va_runV (As := [.int kq]) (rest := []) ⟨hx, hb, hml, hown, hts⟩ (c_X6_sheetAt l D cI cO h aS pe tq se mo re bar tr 0 g kq) (cwV 1 hts gX6_sheet_X6_sheetAt rfl rfl rfl (by decide +kernel) ⟨Nat.le_of_ble_eq_true rfl, Nat.le_of_ble_eq_true rfl⟩) (preVR hPc hK hNw (va_recv hK hPc (ci := 6) (q0 := 0) rfl rfl)) rfl rfl hl.1 rfl (lv_room (Nat.le_of_ble_eq_true rfl)) dX6_sheet_7 ⟨Nat.zero_le _, Nat.zero_le _⟩)) (fun r7 w7 => ?_)
  obtain rfl := w7
  by_cases hk : ¬ kq < 0 ∧ kq < 4
  · -- there
    refine tp_v (y := .ref so) (by rw [shI_in hk, hg hk.1 hk.2]; rfl) ?_
    refine lv_astore (lv' := [(4, .ref so), (0, .ref h), (1, .int kq), (2, .int w), (3, .int v)]) hx hb dX6_sheet_10 hl (by decide) rfl (fun ls hl => ?_)
    refine lv_aload hx hb dX6_sheet_12 (lv_at hl 0 rfl) ?_
    refine lv_ifnonnull (tgt := 19) hx hb dX6_sheet_14 (by decide) ?_
    refine lv_iload_n hx hb dX6_sheet_19 rfl (lv_at hl 3 rfl) ?_
    have hPc := hP.sub (ws' := []) [] rfl
    refine vp_callSi (va_Run.run (va_runS (As := [.int w]) (rest := []) ⟨hx, hb, hml, hown, hts⟩ (c_X6_isLane l D cI cO w) (va_cwS 1 hts gX6_sheet_X6_isLane rfl rfl rfl (by decide +kernel) ⟨Nat.le_of_ble_eq_true rfl, Nat.le_of_ble_eq_true rfl⟩) (preSR hPc hK hNw) rfl rfl hl.1 rfl (lv_room (Nat.le_of_ble_eq_true rfl)) dX6_sheet_20 ⟨Nat.zero_le _, Nat.zero_le _⟩)) (fun r20 w20 => ?_)
    by_cases b20 : lstT w 0 2 = true
    · -- y20
      obtain rfl := w20.1 b20
      refine lv_if_eq (tgt := 32) hx hb dX6_sheet_23 (by decide) (fun h => absurd h (by decide)) (fun _ => ?_)
      refine lv_iload_n hx hb dX6_sheet_26 rfl (lv_at hl 4 rfl) ?_
      refine lv_bipush (v := 60) hx hb dX6_sheet_27 (by decide) ?_
      refine lv_icmp_le (tgt := 35) hx hb dX6_sheet_29 (by decide) (fun c29 => ?_) (fun c29 => ?_)
      · -- t29
        refine lv_iload_n hx hb dX6_sheet_35 rfl (lv_at hl 4 rfl) ?_
        refine lv_if_ge (tgt := 45) hx hb dX6_sheet_36 (by decide) (fun c36 => ?_) (fun c36 => ?_)
        · -- t36
          obtain ⟨L, hL, rfl⟩ := nI_of2 (M := 60) (n := 60) rfl (fun q => by rw [Int32.le_iff_toInt_le] at c36; rw [Int32.lt_iff_toInt_lt] at q; have z : (0 : Int32).toInt = 0 := rfl; omega) c29
          refine lv_aload hx hb dX6_sheet_45 (lv_at hl 0 rfl) ?_
          refine lv_iload_n hx hb dX6_sheet_47 rfl (lv_at hl 3 rfl) ?_
          refine lv_iload_n hx hb dX6_sheet_48 rfl (lv_at hl 4 rfl) ?_
          have hPc := hP.sub (ws' := [(so, .inr (4, [.ref co, .int ln, .int le])), (co, .inl (cI, 60, .inl f))]) [2, 3] rfl
          have hDc := hD.sub (ws' := [(so, .inr (4, [.ref co, .int ln, .int le])), (co, .inl (cI, 60, .inl f))]) [2, 3] (by decide) rfl
          have hFc := va_free (wc := [(so, .inr (4, [.ref co, .int ln, .int le])), (co, .inl (cI, 60, .inl f))]) hD hS hA [2, 3] rfl
          refine va_callv (va_runV (As := [.int w, .int (nI L)]) (rest := []) ⟨hx, hb, hml, hown, hts⟩ (c_X4_renew l D cI cO so co ln le f w L _ (by assumption)) (cwV 2 hts gX6_sheet_X4_renew rfl rfl rfl (by decide +kernel) ⟨Nat.le_of_ble_eq_true rfl, Nat.le_of_ble_eq_true rfl⟩) (preVW hPc hK hNw hDc (va_recv hK hPc (ci := 4) (q0 := 0) rfl rfl)) rfl rfl hl.1 rfl (lv_room (Nat.le_of_ble_eq_true rfl)) dX6_sheet_49 ⟨Nat.zero_le _, Nat.zero_le _⟩) hS (fun q _ h => hFc q h) hFc (fun u t H1 locs ht hvm w49 hB hz1 hk1 hS => ?_)
          obtain ⟨f1_49, rfl⟩ : ∃ z, z = u := ⟨_, rfl⟩
          obtain ⟨hP1, hK1, hD1⟩ := hB
          rw [ht] at hP1
          try dsimp only at w49
          obtain ⟨hP, hD⟩ := va_join (wr := [(h, .inr (6, [.ref aS, .ref pe, .ref tq, .ref se, .ref mo, .ref re, .int bar, .int tr, .int 0])), (aS, .inl (cO, 4, .inr (.inr (.inr (.inr g)))))]) (w1 := [(so, .inr (4, [.ref co, .int w, .int (nI L)])), (co, .inl (cI, 60, .inl f1_49))]) hP hD [2, 3] [0, 1] rfl rfl (by decide) (by decide) hk1 hFc hP1 hD1
          generalize H1 = H at hP hS ⊢
          have hP := hP.sub (ws' := [(h, .inr (6, [.ref aS, .ref pe, .ref tq, .ref se, .ref mo, .ref re, .int bar, .int tr, .int 0])), (aS, .inl (cO, 4, .inr (.inr (.inr (.inr g))))), (so, .inr (4, [.ref co, .int w, .int (nI L)])), (co, .inl (cI, 60, .inl f1_49))]) [0, 1, 2, 3] rfl
          have hD := hD.sub (ws' := [(h, .inr (6, [.ref aS, .ref pe, .ref tq, .ref se, .ref mo, .ref re, .int bar, .int tr, .int 0])), (aS, .inl (cO, 4, .inr (.inr (.inr (.inr g))))), (so, .inr (4, [.ref co, .int w, .int (nI L)])), (co, .inl (cI, 60, .inl f1_49))]) [0, 1, 2, 3] (by decide) rfl
          obtain rfl := w49
          refine lv_iconst (v := 1) hx hb dX6_sheet_52 (by decide) ?_
          exact W.iret (v := 1) hx hb hr (fun t ht hW => ⟨⟨_, (0, w, nI L, (zeroF f 60)), rfl, by first | (simp only [onK_out hk]; simp; done) | (simp only [onK_in hk]; simp [shtR, shtA, shtOk, *]; done), by rw [ht]; exact hP, va_K.moved hW.alike hK, hD⟩, hS.F ht⟩) hS.2.2 dX6_sheet_53
        · -- f36
          refine lv_aload_n hx hb dX6_sheet_39 rfl (lv_at hl 1 rfl) ?_
          refine lv_iconst (v := 4) hx hb dX6_sheet_40 (by decide) ?_
          have hPc := hP.sub (ws' := [(h, .inr (6, [.ref aS, .ref pe, .ref tq, .ref se, .ref mo, .ref re, .int bar, .int tr, .int 0]))]) [0] rfl
          have hDc := hD.sub (ws' := [(h, .inr (6, [.ref aS, .ref pe, .ref tq, .ref se, .ref mo, .ref re, .int bar, .int tr, .int 0]))]) [0] (by decide) rfl
          have hFc := va_free (wc := [(h, .inr (6, [.ref aS, .ref pe, .ref tq, .ref se, .ref mo, .ref re, .int bar, .int tr, .int 0]))]) hD hS hA [0] rfl
          refine va_calli (va_runV (As := [.int 4]) (rest := []) ⟨hx, hb, hml, hown, hts⟩ (c_X6_cameTo l D cI cO h aS pe tq se mo re bar tr 0 4 _) (cwV 1 hts gX6_sheet_X6_cameTo rfl rfl rfl (by decide +kernel) ⟨Nat.le_of_ble_eq_true rfl, Nat.le_of_ble_eq_true rfl⟩) (preVW hPc hK hNw hDc (va_recv hK hPc (ci := 6) (q0 := 0) rfl rfl)) rfl rfl hl.1 rfl (lv_room (Nat.le_of_ble_eq_true rfl)) dX6_sheet_41 ⟨Nat.zero_le _, Nat.zero_le _⟩) hS (fun q _ h => hFc q h) hFc (fun r41 u t H1 locs ht hvm w41 hB hz1 hk1 hS => ?_)
          obtain ⟨hP1, hK1, hD1⟩ := hB
          rw [ht] at hP1
          try dsimp only at w41
          obtain ⟨hP, hD⟩ := va_join (wr := [(aS, .inl (cO, 4, .inr (.inr (.inr (.inr g))))), (so, .inr (4, [.ref co, .int ln, .int le])), (co, .inl (cI, 60, .inl f))]) (w1 := [(h, .inr (6, [.ref aS, .ref pe, .ref tq, .ref se, .ref mo, .ref re, .int bar, .int tr, .int 4]))]) hP hD [0] [1, 2, 3] rfl rfl (by decide) (by decide) hk1 hFc hP1 hD1
          generalize H1 = H at hP hS ⊢
          have hP := hP.sub (ws' := [(h, .inr (6, [.ref aS, .ref pe, .ref tq, .ref se, .ref mo, .ref re, .int bar, .int tr, .int 4])), (aS, .inl (cO, 4, .inr (.inr (.inr (.inr g))))), (so, .inr (4, [.ref co, .int ln, .int le])), (co, .inl (cI, 60, .inl f))]) [3, 0, 1, 2] rfl
          have hD := hD.sub (ws' := [(h, .inr (6, [.ref aS, .ref pe, .ref tq, .ref se, .ref mo, .ref re, .int bar, .int tr, .int 4])), (aS, .inl (cO, 4, .inr (.inr (.inr (.inr g))))), (so, .inr (4, [.ref co, .int ln, .int le])), (co, .inl (cI, 60, .inl f))]) [3, 0, 1, 2] (by decide) rfl
          obtain rfl := w41
          exact W.iret (v := -10 - 4) hx hb hr (fun t ht hW => ⟨⟨_, (4, ln, le, f), rfl, by first | (simp only [onK_out hk]; simp; done) | (simp only [onK_in hk]; simp [shtR, shtA, shtOk, *]; done), by rw [ht]; exact hP, va_K.moved hW.alike hK, hD⟩, hS.F ht⟩) hS.2.2 dX6_sheet_44
      · -- f29
        refine lv_bipush (v := -2) hx hb dX6_sheet_32 (by decide) ?_
        exact W.iret (v := -2) hx hb hr (fun t ht hW => ⟨⟨_, (0, ln, le, f), rfl, by first | (simp only [onK_out hk]; simp; done) | (simp only [onK_in hk]; simp [shtR, shtA, shtOk, *]; done), by rw [ht]; exact hP, va_K.moved hW.alike hK, hD⟩, hS.F ht⟩) hS.2.2 dX6_sheet_34
    · -- n20
      obtain rfl := w20.2 b20
      refine lv_if_eq (tgt := 32) hx hb dX6_sheet_23 (by decide) (fun _ => ?_) (fun h => absurd (by decide) h)
      refine lv_bipush (v := -2) hx hb dX6_sheet_32 (by decide) ?_
      exact W.iret (v := -2) hx hb hr (fun t ht hW => ⟨⟨_, (0, ln, le, f), rfl, by first | (simp only [onK_out hk]; simp; done) | (simp only [onK_in hk]; simp [shtR, shtA, shtOk, *]; done), by rw [ht]; exact hP, va_K.moved hW.alike hK, hD⟩, hS.F ht⟩) hS.2.2 dX6_sheet_34
  · -- none such
    refine tp_v (y := .null) (by rw [shI_out hk]; rfl) ?_
    refine lv_astoreN (lv' := [(4, .null), (0, .ref h), (1, .int kq), (2, .int w), (3, .int v)]) hx hb dX6_sheet_10 hl (by decide) rfl (fun ls hl => ?_)
    refine lv_aloadN hx hb dX6_sheet_12 (lv_at hl 0 rfl) ?_
    refine lv_ifnonnullN hx hb dX6_sheet_14 ?_
    refine lv_iconst (v := -1) hx hb dX6_sheet_17 (by decide) ?_
    exact W.iret (v := -1) hx hb hr (fun t ht hW => ⟨⟨_, (0, ln, le, f), rfl, by first | (simp only [onK_out hk]; simp; done) | (simp only [onK_in hk]; simp [shtR, shtA, shtOk, *]; done), by rw [ht]; exact hP, va_K.moved hW.alike hK, hD⟩, hS.F ht⟩) hS.2.2 dX6_sheet_18

set_option maxHeartbeats 4000000 in
set_option maxRecDepth 100000 in
theorem c_X6_lose (l : Launch) (D : va_G) (cI cO : ClassId) (h : Nat) (aS : Nat) (pe : Nat) (tq : Nat) (se : Nat) (mo : Nat) (re : Nat) (bar : Int32) (tr : Int32) (fa : Int32) (g : Nat → Option Nat) (so : Nat) (co : Nat) (ln : Int32) (le : Int32) (f : Nat → Int32) (kq : Int32) (sz : Nat) (hg : ¬ kq < 0 → kq < 4 → g kq.toNatClampNeg = some so) : Met l yX6_lose wsX6_lose ({ frames := 1, cells := 0, slots := 0, locals := 21 } : Room) (va_Pc [.ref h, .int kq] (wdW D cI cO [(h, .inr (6, [.ref aS, .ref pe, .ref tq, .ref se, .ref mo, .ref re, .int bar, .int tr, .int fa])), (aS, .inl (cO, 4, .inr (.inr (.inr (.inr g))))), (so, .inr (4, [.ref co, .int ln, .int le]))] sz)) (va_Qi (S := Int32) (fun r u => r = (onK kq (if le = -1 then 0 else 1) (-1)) ∧ u = (onK kq (-1) le)) (fun u t => va_P D vwCl [(h, .inr (6, [.ref aS, .ref pe, .ref tq, .ref se, .ref mo, .ref re, .int bar, .int tr, .int fa])), (aS, .inl (cO, 4, .inr (.inr (.inr (.inr g))))), (so, .inr (4, [.ref co, .int ln, .int u]))] t.heap ∧ va_K D vwCl (tyL cI cO) t ∧ va_D (va_A [(h, .inr (6, [.ref aS, .ref pe, .ref tq, .ref se, .ref mo, .ref re, .int bar, .int tr, .int fa])), (aS, .inl (cO, 4, .inr (.inr (.inr (.inr g))))), (so, .inr (4, [.ref co, .int ln, .int le]))] sz) [(h, .inr (6, [.ref aS, .ref pe, .ref tq, .ref se, .ref mo, .ref re, .int bar, .int tr, .int fa])), (aS, .inl (cO, 4, .inr (.inr (.inr (.inr g))))), (so, .inr (4, [.ref co, .int ln, .int u]))]) (va_A [(h, .inr (6, [.ref aS, .ref pe, .ref tq, .ref se, .ref mo, .ref re, .int bar, .int tr, .int fa])), (aS, .inl (cO, 4, .inr (.inr (.inr (.inr g))))), (so, .inr (4, [.ref co, .int ln, .int le]))] sz)) 0 0 (va_A [(h, .inr (6, [.ref aS, .ref pe, .ref tq, .ref se, .ref mo, .ref re, .int bar, .int tr, .int fa])), (aS, .inl (cO, 4, .inr (.inr (.inr (.inr g))))), (so, .inr (4, [.ref co, .int ln, .int le]))] sz) := by
  refine Met.ofW (cc := cX6_lose) (maxL := 3) (ret := (some .int)) (by decide) rfl ?_
  intro p e s m args below meth c s₁ B hml hv
  obtain ⟨rfl, hsz, hP, hK, hNw, hD0⟩ := hv
  have hx := B.exec
  have hb := B.bytes
  have hr := B.returns
  have hts := atoms_spec (ws := wsX6_lose) B.pre
  have hown : s.vm.findClass RX6 = some m.cls := findClass_of_methodNamed B.named
  have hlocks := B.notSynchronized
  subst hsz
  have hD := hD0.self (sz := s.heap.size)
  generalize hAe : va_A [(h, .inr (6, [.ref aS, .ref pe, .ref tq, .ref se, .ref mo, .ref re, .int bar, .int tr, .int fa])), (aS, .inl (cO, 4, .inr (.inr (.inr (.inr g))))), (so, .inr (4, [.ref co, .int ln, .int le]))] s.heap.size = A at hD ⊢
  have hA : ∀ q : Nat, s.heap.size ≤ q → A q := fun q h => by rw [← hAe]; exact Or.inr h
  have hS : va_S A s.heap s.heap [] := va_S.rf
  have hP : va_P D vwCl [(h, .inr (6, [.ref aS, .ref pe, .ref tq, .ref se, .ref mo, .ref re, .int bar, .int tr, .int fa])), (aS, .inl (cO, 4, .inr (.inr (.inr (.inr g))))), (so, .inr (4, [.ref co, .int ln, .int le]))] s.heap := hP
  have hl := lv_entry ([.ref h, .int kq]) (n := 3) (Nat.le_of_ble_eq_true rfl)
  rw [lg_entry_eq]
  generalize (lg_sl ([.ref h, .int kq]) ++ List.replicate (3 - (lg_sl ([.ref h, .int kq])).length) Slot.unset).toArray = ls at hl ⊢
  have hl : lv_has ls 3 [(0, .ref h), (1, .int kq)] := hl
  refine lv_aload_n hx hb dX6_lose_0 rfl (lv_at hl 0 rfl) ?_
  refine lv_iload_n hx hb dX6_lose_1 rfl (lv_at hl 1 rfl) ?_
  have hPc := hP.sub (ws' := [(h, .inr (6, [.ref aS, .ref pe, .ref tq, .ref se, .ref mo, .ref re, .int bar, .int tr, .int fa])), (aS, .inl (cO, 4, .inr (.inr (.inr (.inr g)))))]) [0, 1] rfl
  refine va_csq (va_Run.run (va_runV (As := [.int kq]) (rest := []) ⟨hx, hb, hml, hown, hts⟩ (c_X6_sheetAt l D cI cO h aS pe tq se mo re bar tr fa g kq) (cwV 1 hts gX6_lose_X6_sheetAt rfl rfl rfl (by decide +kernel) ⟨Nat.le_of_ble_eq_true rfl, Nat.le_of_ble_eq_true rfl⟩) (preVR hPc hK hNw (va_recv hK hPc (ci := 6) (q0 := 0) rfl rfl)) rfl rfl hl.1 rfl (lv_room (Nat.le_of_ble_eq_true rfl)) dX6_lose_2 ⟨Nat.zero_le _, Nat.zero_le _⟩)) (fun r2 w2 => ?_)
  obtain rfl := w2
  by_cases hk : ¬ kq < 0 ∧ kq < 4
  · -- there
    refine tp_v (y := .ref so) (by rw [shI_in hk, hg hk.1 hk.2]; rfl) ?_
    refine lv_astore_n (lv' := [(2, .ref so), (0, .ref h), (1, .int kq)]) hx hb dX6_lose_5 rfl hl (by decide) rfl (fun ls hl => ?_)
    refine lv_aload_n hx hb dX6_lose_6 rfl (lv_at hl 0 rfl) ?_
    refine lv_ifnonnull (tgt := 12) hx hb dX6_lose_7 (by decide) ?_
    refine lv_aload_n hx hb dX6_lose_12 rfl (lv_at hl 0 rfl) ?_
    have hPc := hP.sub (ws' := [(so, .inr (4, [.ref co, .int ln, .int le]))]) [2] rfl
    refine vp_callSi (va_Run.run (va_runV (As := []) (rest := []) ⟨hx, hb, hml, hown, hts⟩ (c_X4_isNothing l D cI cO so co ln le) (cwV 0 hts gX6_lose_X4_isNothing rfl rfl rfl (by decide +kernel) ⟨Nat.le_of_ble_eq_true rfl, Nat.le_of_ble_eq_true rfl⟩) (preVR hPc hK hNw (va_recv hK hPc (ci := 4) (q0 := 0) rfl rfl)) rfl rfl hl.1 rfl (lv_room (Nat.le_of_ble_eq_true rfl)) dX6_lose_13 ⟨Nat.zero_le _, Nat.zero_le _⟩)) (fun r13 w13 => ?_)
    by_cases b13 : le = -1
    · -- y13
      obtain rfl := w13.1 b13
      refine lv_if_eq (tgt := 21) hx hb dX6_lose_16 (by decide) (fun h => absurd h (by decide)) (fun _ => ?_)
      refine lv_iconst (v := 0) hx hb dX6_lose_19 (by decide) ?_
      exact W.iret (v := 0) hx hb hr (fun t ht hW => ⟨⟨_, le, rfl, by first | (simp only [onK_out hk]; simp; done) | (simp only [onK_in hk]; simp [shtR, *]; done), by rw [ht]; exact hP, va_K.moved hW.alike hK, hD⟩, hS.F ht⟩) hS.2.2 dX6_lose_20
    · -- n13
      obtain rfl := w13.2 b13
      refine lv_if_eq (tgt := 21) hx hb dX6_lose_16 (by decide) (fun _ => ?_) (fun h => absurd (by decide) h)
      refine lv_aload_n hx hb dX6_lose_21 rfl (lv_at hl 0 rfl) ?_
      have hPc := hP.sub (ws' := [(so, .inr (4, [.ref co, .int ln, .int le]))]) [2] rfl
      have hDc := hD.sub (ws' := [(so, .inr (4, [.ref co, .int ln, .int le]))]) [2] (by decide) rfl
      have hFc := va_free (wc := [(so, .inr (4, [.ref co, .int ln, .int le]))]) hD hS hA [2] rfl
      refine va_callv (va_runV (As := []) (rest := []) ⟨hx, hb, hml, hown, hts⟩ (c_X4_empty l D cI cO so co ln le _) (cwV 0 hts gX6_lose_X4_empty rfl rfl rfl (by decide +kernel) ⟨Nat.le_of_ble_eq_true rfl, Nat.le_of_ble_eq_true rfl⟩) (preVW hPc hK hNw hDc (va_recv hK hPc (ci := 4) (q0 := 0) rfl rfl)) rfl rfl hl.1 rfl (lv_room (Nat.le_of_ble_eq_true rfl)) dX6_lose_22 ⟨Nat.zero_le _, Nat.zero_le _⟩) hS (fun q _ h => hFc q h) hFc (fun u t H1 locs ht hvm w22 hB hz1 hk1 hS => ?_)
      obtain ⟨hP1, hK1, hD1⟩ := hB
      rw [ht] at hP1
      try dsimp only at w22
      obtain ⟨hP, hD⟩ := va_join (wr := [(h, .inr (6, [.ref aS, .ref pe, .ref tq, .ref se, .ref mo, .ref re, .int bar, .int tr, .int fa])), (aS, .inl (cO, 4, .inr (.inr (.inr (.inr g)))))]) (w1 := [(so, .inr (4, [.ref co, .int ln, .int (-1)]))]) hP hD [2] [0, 1] rfl rfl (by decide) (by decide) hk1 hFc hP1 hD1
      generalize H1 = H at hP hS ⊢
      have hP := hP.sub (ws' := [(h, .inr (6, [.ref aS, .ref pe, .ref tq, .ref se, .ref mo, .ref re, .int bar, .int tr, .int fa])), (aS, .inl (cO, 4, .inr (.inr (.inr (.inr g))))), (so, .inr (4, [.ref co, .int ln, .int (-1)]))]) [0, 1, 2] rfl
      have hD := hD.sub (ws' := [(h, .inr (6, [.ref aS, .ref pe, .ref tq, .ref se, .ref mo, .ref re, .int bar, .int tr, .int fa])), (aS, .inl (cO, 4, .inr (.inr (.inr (.inr g))))), (so, .inr (4, [.ref co, .int ln, .int (-1)]))]) [0, 1, 2] (by decide) rfl
      refine lv_iconst (v := 1) hx hb dX6_lose_25 (by decide) ?_
      exact W.iret (v := 1) hx hb hr (fun t ht hW => ⟨⟨_, (-1), rfl, by first | (simp only [onK_out hk]; simp; done) | (simp only [onK_in hk]; simp [shtR, *]; done), by rw [ht]; exact hP, va_K.moved hW.alike hK, hD⟩, hS.F ht⟩) hS.2.2 dX6_lose_26
  · -- none such
    refine tp_v (y := .null) (by rw [shI_out hk]; rfl) ?_
    refine lv_astore_nN (lv' := [(2, .null), (0, .ref h), (1, .int kq)]) hx hb dX6_lose_5 rfl hl (by decide) rfl (fun ls hl => ?_)
    refine lv_aload_nN hx hb dX6_lose_6 rfl (lv_at hl 0 rfl) ?_
    refine lv_ifnonnullN hx hb dX6_lose_7 ?_
    refine lv_iconst (v := -1) hx hb dX6_lose_10 (by decide) ?_
    exact W.iret (v := -1) hx hb hr (fun t ht hW => ⟨⟨_, le, rfl, by first | (simp only [onK_out hk]; simp; done) | (simp only [onK_in hk]; simp [shtR, *]; done), by rw [ht]; exact hP, va_K.moved hW.alike hK, hD⟩, hS.F ht⟩) hS.2.2 dX6_lose_11

set_option maxHeartbeats 4000000 in
set_option maxRecDepth 100000 in
theorem c_X6_put (l : Launch) (D : va_G) (cI cO : ClassId) (h : Nat) (aS : Nat) (pe : Nat) (tq : Nat) (se : Nat) (mo : Nat) (re : Nat) (bar : Int32) (tr : Int32) (fa : Int32) (g : Nat → Option Nat) (so : Nat) (co : Nat) (ln : Int32) (le : Int32) (f : Nat → Int32) (kq : Int32) (i : Int32) (v : Int32) (sz : Nat) (hg : ¬ kq < 0 → kq < 4 → g kq.toNatClampNeg = some so) (hle : okL le) : Met l yX6_put wsX6_put ({ frames := 2, cells := 0, slots := 0, locals := 43 } : Room) (va_Pc [.ref h, .int kq, .int i, .int v] (wdW D cI cO [(h, .inr (6, [.ref aS, .ref pe, .ref tq, .ref se, .ref mo, .ref re, .int bar, .int tr, .int fa])), (aS, .inl (cO, 4, .inr (.inr (.inr (.inr g))))), (so, .inr (4, [.ref co, .int ln, .int le])), (co, .inl (cI, 60, .inl f))] sz)) (va_Qi (S := Int32 × (Nat → Int32)) (fun r u => r = (onK kq (putR le i) (-1)) ∧ u.1 = (onK kq (putA le i) 0) ∧ u.2 = (onK kq (putF ln le f i v) f)) (fun u t => va_P D vwCl [(h, .inr (6, [.ref aS, .ref pe, .ref tq, .ref se, .ref mo, .ref re, .int bar, .int tr, .int u.1])), (aS, .inl (cO, 4, .inr (.inr (.inr (.inr g))))), (so, .inr (4, [.ref co, .int ln, .int le])), (co, .inl (cI, 60, .inl u.2))] t.heap ∧ va_K D vwCl (tyL cI cO) t ∧ va_D (va_A [(h, .inr (6, [.ref aS, .ref pe, .ref tq, .ref se, .ref mo, .ref re, .int bar, .int tr, .int fa])), (aS, .inl (cO, 4, .inr (.inr (.inr (.inr g))))), (so, .inr (4, [.ref co, .int ln, .int le])), (co, .inl (cI, 60, .inl f))] sz) [(h, .inr (6, [.ref aS, .ref pe, .ref tq, .ref se, .ref mo, .ref re, .int bar, .int tr, .int u.1])), (aS, .inl (cO, 4, .inr (.inr (.inr (.inr g))))), (so, .inr (4, [.ref co, .int ln, .int le])), (co, .inl (cI, 60, .inl u.2))]) (va_A [(h, .inr (6, [.ref aS, .ref pe, .ref tq, .ref se, .ref mo, .ref re, .int bar, .int tr, .int fa])), (aS, .inl (cO, 4, .inr (.inr (.inr (.inr g))))), (so, .inr (4, [.ref co, .int ln, .int le])), (co, .inl (cI, 60, .inl f))] sz)) 0 0 (va_A [(h, .inr (6, [.ref aS, .ref pe, .ref tq, .ref se, .ref mo, .ref re, .int bar, .int tr, .int fa])), (aS, .inl (cO, 4, .inr (.inr (.inr (.inr g))))), (so, .inr (4, [.ref co, .int ln, .int le])), (co, .inl (cI, 60, .inl f))] sz) := by
  refine Met.ofW (cc := cX6_put) (maxL := 5) (ret := (some .int)) (by decide) rfl ?_
  intro p e s m args below meth c s₁ B hml hv
  obtain ⟨rfl, hsz, hP, hK, hNw, hD0⟩ := hv
  have hx := B.exec
  have hb := B.bytes
  have hr := B.returns
  have hts := atoms_spec (ws := wsX6_put) B.pre
  have hown : s.vm.findClass RX6 = some m.cls := findClass_of_methodNamed B.named
  have hlocks := B.notSynchronized
  have f53 := hts (.fieldLink RX6 53 "StruckThrees" "fault" "I") (by decide +kernel)
  have iX6 : ∀ w ∈ wsX60, w ∈ wsX6_put := by decide +kernel
  subst hsz
  have hD := hD0.self (sz := s.heap.size)
  generalize hAe : va_A [(h, .inr (6, [.ref aS, .ref pe, .ref tq, .ref se, .ref mo, .ref re, .int bar, .int tr, .int fa])), (aS, .inl (cO, 4, .inr (.inr (.inr (.inr g))))), (so, .inr (4, [.ref co, .int ln, .int le])), (co, .inl (cI, 60, .inl f))] s.heap.size = A at hD ⊢
  have hA : ∀ q : Nat, s.heap.size ≤ q → A q := fun q h => by rw [← hAe]; exact Or.inr h
  have hS : va_S A s.heap s.heap [] := va_S.rf
  have hP : va_P D vwCl [(h, .inr (6, [.ref aS, .ref pe, .ref tq, .ref se, .ref mo, .ref re, .int bar, .int tr, .int fa])), (aS, .inl (cO, 4, .inr (.inr (.inr (.inr g))))), (so, .inr (4, [.ref co, .int ln, .int le])), (co, .inl (cI, 60, .inl f))] s.heap := hP
  have hl := lv_entry ([.ref h, .int kq, .int i, .int v]) (n := 5) (Nat.le_of_ble_eq_true rfl)
  rw [lg_entry_eq]
  generalize (lg_sl ([.ref h, .int kq, .int i, .int v]) ++ List.replicate (5 - (lg_sl ([.ref h, .int kq, .int i, .int v])).length) Slot.unset).toArray = ls at hl ⊢
  have hl : lv_has ls 5 [(0, .ref h), (1, .int kq), (2, .int i), (3, .int v)] := hl
  refine lv_aload_n hx hb dX6_put_0 rfl (lv_at hl 0 rfl) ?_
  refine lv_iconst (v := 0) hx hb dX6_put_1 (by decide) ?_
  refine va_put (D := D) (ci := 6) (v := .int 0) (ty := .int) (C := RX6) (T := TX6) (N := 9) hx hb hts iX6 tyX6 tyX6_ok nmX6 hown hK hP hD hS 0 rfl rfl 8 (by decide) f53 (fun _ h9 => h9) rfl (by decide +kernel) rfl rfl (Nat.le_of_ble_eq_true rfl) dX6_put_2 (fun H locs hP hD hS => ?_)
  have hP : va_P D vwCl [(h, .inr (6, [.ref aS, .ref pe, .ref tq, .ref se, .ref mo, .ref re, .int bar, .int tr, .int 0])), (aS, .inl (cO, 4, .inr (.inr (.inr (.inr g))))), (so, .inr (4, [.ref co, .int ln, .int le])), (co, .inl (cI, 60, .inl f))] H := hP
  have hD : va_D A [(h, .inr (6, [.ref aS, .ref pe, .ref tq, .ref se, .ref mo, .ref re, .int bar, .int tr, .int 0])), (aS, .inl (cO, 4, .inr (.inr (.inr (.inr g))))), (so, .inr (4, [.ref co, .int ln, .int le])), (co, .inl (cI, 60, .inl f))] := hD
  refine lv_aload_n hx hb dX6_put_5 rfl (lv_at hl 0 rfl) ?_
  refine lv_iload_n hx hb dX6_put_6 rfl (lv_at hl 1 rfl) ?_
  have hPc := hP.sub (ws' := [(h, .inr (6, [.ref aS, .ref pe, .ref tq, .ref se, .ref mo, .ref re, .int bar, .int tr, .int 0])), (aS, .inl (cO, 4, .inr (.inr (.inr (.inr g)))))]) [0, 1] rfl
  refine va_csq (va_Run.run (va_runV (As := [.int kq]) (rest := []) ⟨hx, hb, hml, hown, hts⟩ (c_X6_sheetAt l D cI cO h aS pe tq se mo re bar tr 0 g kq) (cwV 1 hts gX6_put_X6_sheetAt rfl rfl rfl (by decide +kernel) ⟨Nat.le_of_ble_eq_true rfl, Nat.le_of_ble_eq_true rfl⟩) (preVR hPc hK hNw (va_recv hK hPc (ci := 6) (q0 := 0) rfl rfl)) rfl rfl hl.1 rfl (lv_room (Nat.le_of_ble_eq_true rfl)) dX6_put_7 ⟨Nat.zero_le _, Nat.zero_le _⟩)) (fun r7 w7 => ?_)
  obtain rfl := w7
  by_cases hk : ¬ kq < 0 ∧ kq < 4
  · -- there
    refine tp_v (y := .ref so) (by rw [shI_in hk, hg hk.1 hk.2]; rfl) ?_
    refine lv_astore (lv' := [(4, .ref so), (0, .ref h), (1, .int kq), (2, .int i), (3, .int v)]) hx hb dX6_put_10 hl (by decide) rfl (fun ls hl => ?_)
    refine lv_aload hx hb dX6_put_12 (lv_at hl 0 rfl) ?_
    refine lv_ifnonnull (tgt := 19) hx hb dX6_put_14 (by decide) ?_
    refine lv_aload hx hb dX6_put_19 (lv_at hl 0 rfl) ?_
    have hPc := hP.sub (ws' := [(so, .inr (4, [.ref co, .int ln, .int le]))]) [2] rfl
    refine vp_callSi (va_Run.run (va_runV (As := []) (rest := []) ⟨hx, hb, hml, hown, hts⟩ (c_X4_isNothing l D cI cO so co ln le) (cwV 0 hts gX6_put_X4_isNothing rfl rfl rfl (by decide +kernel) ⟨Nat.le_of_ble_eq_true rfl, Nat.le_of_ble_eq_true rfl⟩) (preVR hPc hK hNw (va_recv hK hPc (ci := 4) (q0 := 0) rfl rfl)) rfl rfl hl.1 rfl (lv_room (Nat.le_of_ble_eq_true rfl)) dX6_put_21 ⟨Nat.zero_le _, Nat.zero_le _⟩)) (fun r21 w21 => ?_)
    by_cases b21 : le = -1
    · -- y21
      obtain rfl := w21.1 b21
      refine lv_if_eq (tgt := 33) hx hb dX6_put_24 (by decide) (fun h => absurd h (by decide)) (fun _ => ?_)
      refine lv_aload_n hx hb dX6_put_27 rfl (lv_at hl 1 rfl) ?_
      refine lv_iconst (v := 1) hx hb dX6_put_28 (by decide) ?_
      have hPc := hP.sub (ws' := [(h, .inr (6, [.ref aS, .ref pe, .ref tq, .ref se, .ref mo, .ref re, .int bar, .int tr, .int 0]))]) [0] rfl
      have hDc := hD.sub (ws' := [(h, .inr (6, [.ref aS, .ref pe, .ref tq, .ref se, .ref mo, .ref re, .int bar, .int tr, .int 0]))]) [0] (by decide) rfl
      have hFc := va_free (wc := [(h, .inr (6, [.ref aS, .ref pe, .ref tq, .ref se, .ref mo, .ref re, .int bar, .int tr, .int 0]))]) hD hS hA [0] rfl
      refine va_calli (va_runV (As := [.int 1]) (rest := []) ⟨hx, hb, hml, hown, hts⟩ (c_X6_cameTo l D cI cO h aS pe tq se mo re bar tr 0 1 _) (cwV 1 hts gX6_put_X6_cameTo rfl rfl rfl (by decide +kernel) ⟨Nat.le_of_ble_eq_true rfl, Nat.le_of_ble_eq_true rfl⟩) (preVW hPc hK hNw hDc (va_recv hK hPc (ci := 6) (q0 := 0) rfl rfl)) rfl rfl hl.1 rfl (lv_room (Nat.le_of_ble_eq_true rfl)) dX6_put_29 ⟨Nat.zero_le _, Nat.zero_le _⟩) hS (fun q _ h => hFc q h) hFc (fun r29 u t H1 locs ht hvm w29 hB hz1 hk1 hS => ?_)
      obtain ⟨hP1, hK1, hD1⟩ := hB
      rw [ht] at hP1
      try dsimp only at w29
      obtain ⟨hP, hD⟩ := va_join (wr := [(aS, .inl (cO, 4, .inr (.inr (.inr (.inr g))))), (so, .inr (4, [.ref co, .int ln, .int le])), (co, .inl (cI, 60, .inl f))]) (w1 := [(h, .inr (6, [.ref aS, .ref pe, .ref tq, .ref se, .ref mo, .ref re, .int bar, .int tr, .int 1]))]) hP hD [0] [1, 2, 3] rfl rfl (by decide) (by decide) hk1 hFc hP1 hD1
      generalize H1 = H at hP hS ⊢
      have hP := hP.sub (ws' := [(h, .inr (6, [.ref aS, .ref pe, .ref tq, .ref se, .ref mo, .ref re, .int bar, .int tr, .int 1])), (aS, .inl (cO, 4, .inr (.inr (.inr (.inr g))))), (so, .inr (4, [.ref co, .int ln, .int le])), (co, .inl (cI, 60, .inl f))]) [3, 0, 1, 2] rfl
      have hD := hD.sub (ws' := [(h, .inr (6, [.ref aS, .ref pe, .ref tq, .ref se, .ref mo, .ref re, .int bar, .int tr, .int 1])), (aS, .inl (cO, 4, .inr (.inr (.inr (.inr g))))), (so, .inr (4, [.ref co, .int ln, .int le])), (co, .inl (cI, 60, .inl f))]) [3, 0, 1, 2] (by decide) rfl
      obtain rfl := w29
      exact W.iret (v := -10 - 1) hx hb hr (fun t ht hW => ⟨⟨_, (1, f), rfl, by first | (simp only [onK_out hk]; simp; done) | (simp only [onK_in hk]; simp [putR, putA, putF, *]; done), by rw [ht]; exact hP, va_K.moved hW.alike hK, hD⟩, hS.F ht⟩) hS.2.2 dX6_put_32
    · -- n21
      obtain rfl := w21.2 b21
      refine lv_if_eq (tgt := 33) hx hb dX6_put_24 (by decide) (fun _ => ?_) (fun h => absurd (by decide) h)
      refine lv_aload hx hb dX6_put_33 (lv_at hl 0 rfl) ?_
      refine lv_iload_n hx hb dX6_put_35 rfl (lv_at hl 3 rfl) ?_
      have hPc := hP.sub (ws' := [(so, .inr (4, [.ref co, .int ln, .int le]))]) [2] rfl
      refine vp_callSi (va_Run.run (va_runV (As := [.int i]) (rest := []) ⟨hx, hb, hml, hown, hts⟩ (c_X4_has l D cI cO so co ln le i) (cwV 1 hts gX6_put_X4_has rfl rfl rfl (by decide +kernel) ⟨Nat.le_of_ble_eq_true rfl, Nat.le_of_ble_eq_true rfl⟩) (preVR hPc hK hNw (va_recv hK hPc (ci := 4) (q0 := 0) rfl rfl)) rfl rfl hl.1 rfl (lv_room (Nat.le_of_ble_eq_true rfl)) dX6_put_36 ⟨Nat.zero_le _, Nat.zero_le _⟩)) (fun r36 w36 => ?_)
      by_cases b36 : ¬ i < 0 ∧ ¬ le ≤ i
      · -- y36
        obtain rfl := w36.1 b36
        obtain ⟨L, hL, rfl⟩ := hle.resolve_left b21
        obtain ⟨j, hj, rfl⟩ := in_nat b36 (show L < 2 ^ 31 by omega)
        have hh : hasI (nI L) (nI j) = true := decide_eq_true (nin_nI hj (by omega))
        have hcl := nI_clamp (n := j) (by omega)
        refine lv_if_ne (tgt := 48) hx hb dX6_put_39 (by decide) (fun _ => ?_) (fun h => absurd h (by decide))
        refine lv_aload hx hb dX6_put_48 (lv_at hl 0 rfl) ?_
        refine lv_iload_n hx hb dX6_put_50 rfl (lv_at hl 3 rfl) ?_
        refine lv_iload_n hx hb dX6_put_51 rfl (lv_at hl 4 rfl) ?_
        have hPc := hP.sub (ws' := [(so, .inr (4, [.ref co, .int ln, .int (nI L)])), (co, .inl (cI, 60, .inl f))]) [2, 3] rfl
        have hDc := hD.sub (ws' := [(so, .inr (4, [.ref co, .int ln, .int (nI L)])), (co, .inl (cI, 60, .inl f))]) [2, 3] (by decide) rfl
        have hFc := va_free (wc := [(so, .inr (4, [.ref co, .int ln, .int (nI L)])), (co, .inl (cI, 60, .inl f))]) hD hS hA [2, 3] rfl
        refine va_callv (va_runV (As := [.int (nI j), .int v]) (rest := []) ⟨hx, hb, hml, hown, hts⟩ (c_X4_become l D cI cO so co ln L f j v _ (by assumption) (by omega)) (cwV 2 hts gX6_put_X4_become rfl rfl rfl (by decide +kernel) ⟨Nat.le_of_ble_eq_true rfl, Nat.le_of_ble_eq_true rfl⟩) (preVW hPc hK hNw hDc (va_recv hK hPc (ci := 4) (q0 := 0) rfl rfl)) rfl rfl hl.1 rfl (lv_room (Nat.le_of_ble_eq_true rfl)) dX6_put_52 ⟨Nat.zero_le _, Nat.zero_le _⟩) hS (fun q _ h => hFc q h) hFc (fun u t H1 locs ht hvm w52 hB hz1 hk1 hS => ?_)
        obtain ⟨f1_52, rfl⟩ : ∃ z, z = u := ⟨_, rfl⟩
        obtain ⟨hP1, hK1, hD1⟩ := hB
        rw [ht] at hP1
        try dsimp only at w52
        obtain ⟨hP, hD⟩ := va_join (wr := [(h, .inr (6, [.ref aS, .ref pe, .ref tq, .ref se, .ref mo, .ref re, .int bar, .int tr, .int 0])), (aS, .inl (cO, 4, .inr (.inr (.inr (.inr g)))))]) (w1 := [(so, .inr (4, [.ref co, .int ln, .int (nI L)])), (co, .inl (cI, 60, .inl f1_52))]) hP hD [2, 3] [0, 1] rfl rfl (by decide) (by decide) hk1 hFc hP1 hD1
        generalize H1 = H at hP hS ⊢
        have hP := hP.sub (ws' := [(h, .inr (6, [.ref aS, .ref pe, .ref tq, .ref se, .ref mo, .ref re, .int bar, .int tr, .int 0])), (aS, .inl (cO, 4, .inr (.inr (.inr (.inr g))))), (so, .inr (4, [.ref co, .int ln, .int (nI L)])), (co, .inl (cI, 60, .inl f1_52))]) [0, 1, 2, 3] rfl
        have hD := hD.sub (ws' := [(h, .inr (6, [.ref aS, .ref pe, .ref tq, .ref se, .ref mo, .ref re, .int bar, .int tr, .int 0])), (aS, .inl (cO, 4, .inr (.inr (.inr (.inr g))))), (so, .inr (4, [.ref co, .int ln, .int (nI L)])), (co, .inl (cI, 60, .inl f1_52))]) [0, 1, 2, 3] (by decide) rfl
        obtain rfl := w52
        refine lv_iconst (v := 1) hx hb dX6_put_55 (by decide) ?_
        exact W.iret (v := 1) hx hb hr (fun t ht hW => ⟨⟨_, (0, (upd f j (cutI ln v))), rfl, by first | (simp only [onK_out hk]; simp; done) | (simp only [onK_in hk]; simp [putR, putA, putF, *]; done), by rw [ht]; exact hP, va_K.moved hW.alike hK, hD⟩, hS.F ht⟩) hS.2.2 dX6_put_56
      · -- n36
        obtain rfl := w36.2 b36
        have hh : hasI le i = false := decide_eq_false b36
        refine lv_if_ne (tgt := 48) hx hb dX6_put_39 (by decide) (fun h => absurd (by decide) h) (fun _ => ?_)
        refine lv_aload_n hx hb dX6_put_42 rfl (lv_at hl 1 rfl) ?_
        refine lv_iconst (v := 3) hx hb dX6_put_43 (by decide) ?_
        have hPc := hP.sub (ws' := [(h, .inr (6, [.ref aS, .ref pe, .ref tq, .ref se, .ref mo, .ref re, .int bar, .int tr, .int 0]))]) [0] rfl
        have hDc := hD.sub (ws' := [(h, .inr (6, [.ref aS, .ref pe, .ref tq, .ref se, .ref mo, .ref re, .int bar, .int tr, .int 0]))]) [0] (by decide) rfl
        have hFc := va_free (wc := [(h, .inr (6, [.ref aS, .ref pe, .ref tq, .ref se, .ref mo, .ref re, .int bar, .int tr, .int 0]))]) hD hS hA [0] rfl
        refine va_calli (va_runV (As := [.int 3]) (rest := []) ⟨hx, hb, hml, hown, hts⟩ (c_X6_cameTo l D cI cO h aS pe tq se mo re bar tr 0 3 _) (cwV 1 hts gX6_put_X6_cameTo rfl rfl rfl (by decide +kernel) ⟨Nat.le_of_ble_eq_true rfl, Nat.le_of_ble_eq_true rfl⟩) (preVW hPc hK hNw hDc (va_recv hK hPc (ci := 6) (q0 := 0) rfl rfl)) rfl rfl hl.1 rfl (lv_room (Nat.le_of_ble_eq_true rfl)) dX6_put_44 ⟨Nat.zero_le _, Nat.zero_le _⟩) hS (fun q _ h => hFc q h) hFc (fun r44 u t H1 locs ht hvm w44 hB hz1 hk1 hS => ?_)
        obtain ⟨hP1, hK1, hD1⟩ := hB
        rw [ht] at hP1
        try dsimp only at w44
        obtain ⟨hP, hD⟩ := va_join (wr := [(aS, .inl (cO, 4, .inr (.inr (.inr (.inr g))))), (so, .inr (4, [.ref co, .int ln, .int le])), (co, .inl (cI, 60, .inl f))]) (w1 := [(h, .inr (6, [.ref aS, .ref pe, .ref tq, .ref se, .ref mo, .ref re, .int bar, .int tr, .int 3]))]) hP hD [0] [1, 2, 3] rfl rfl (by decide) (by decide) hk1 hFc hP1 hD1
        generalize H1 = H at hP hS ⊢
        have hP := hP.sub (ws' := [(h, .inr (6, [.ref aS, .ref pe, .ref tq, .ref se, .ref mo, .ref re, .int bar, .int tr, .int 3])), (aS, .inl (cO, 4, .inr (.inr (.inr (.inr g))))), (so, .inr (4, [.ref co, .int ln, .int le])), (co, .inl (cI, 60, .inl f))]) [3, 0, 1, 2] rfl
        have hD := hD.sub (ws' := [(h, .inr (6, [.ref aS, .ref pe, .ref tq, .ref se, .ref mo, .ref re, .int bar, .int tr, .int 3])), (aS, .inl (cO, 4, .inr (.inr (.inr (.inr g))))), (so, .inr (4, [.ref co, .int ln, .int le])), (co, .inl (cI, 60, .inl f))]) [3, 0, 1, 2] (by decide) rfl
        obtain rfl := w44
        exact W.iret (v := -10 - 3) hx hb hr (fun t ht hW => ⟨⟨_, (3, f), rfl, by first | (simp only [onK_out hk]; simp; done) | (simp only [onK_in hk]; simp [putR, putA, putF, *]; done), by rw [ht]; exact hP, va_K.moved hW.alike hK, hD⟩, hS.F ht⟩) hS.2.2 dX6_put_47
  · -- none such
    refine tp_v (y := .null) (by rw [shI_out hk]; rfl) ?_
    refine lv_astoreN (lv' := [(4, .null), (0, .ref h), (1, .int kq), (2, .int i), (3, .int v)]) hx hb dX6_put_10 hl (by decide) rfl (fun ls hl => ?_)
    refine lv_aloadN hx hb dX6_put_12 (lv_at hl 0 rfl) ?_
    refine lv_ifnonnullN hx hb dX6_put_14 ?_
    refine lv_iconst (v := -1) hx hb dX6_put_17 (by decide) ?_
    exact W.iret (v := -1) hx hb hr (fun t ht hW => ⟨⟨_, (0, f), rfl, by first | (simp only [onK_out hk]; simp; done) | (simp only [onK_in hk]; simp [putR, putA, putF, *]; done), by rw [ht]; exact hP, va_K.moved hW.alike hK, hD⟩, hS.F ht⟩) hS.2.2 dX6_put_18

set_option maxHeartbeats 4000000 in
set_option maxRecDepth 100000 in
theorem c_X6_cell (l : Launch) (D : va_G) (cI cO : ClassId) (h : Nat) (aS : Nat) (pe : Nat) (tq : Nat) (se : Nat) (mo : Nat) (re : Nat) (bar : Int32) (tr : Int32) (fa : Int32) (g : Nat → Option Nat) (so : Nat) (co : Nat) (ln : Int32) (le : Int32) (f : Nat → Int32) (kq : Int32) (i : Int32) (w : Int32) (sz : Nat) (hg : ¬ kq < 0 → kq < 4 → g kq.toNatClampNeg = some so) (hle : okL le) : Met l yX6_cell wsX6_cell ({ frames := 2, cells := 0, slots := 0, locals := 42 } : Room) (va_Pc [.ref h, .int kq, .int i, .int w] (wdW D cI cO [(h, .inr (6, [.ref aS, .ref pe, .ref tq, .ref se, .ref mo, .ref re, .int bar, .int tr, .int fa])), (aS, .inl (cO, 4, .inr (.inr (.inr (.inr g))))), (so, .inr (4, [.ref co, .int ln, .int le])), (co, .inl (cI, 60, .inl f))] sz)) (va_Ql (S := Int32) (fun r u => r = (onK kq (if lstT w 0 2 = true then celR le ln w f i else -9223372036854775808) (-9223372036854775808)) ∧ u = (onK kq (if lstT w 0 2 = true then celA le ln w i else 0) 0)) (fun u t => va_P D vwCl [(h, .inr (6, [.ref aS, .ref pe, .ref tq, .ref se, .ref mo, .ref re, .int bar, .int tr, .int u])), (aS, .inl (cO, 4, .inr (.inr (.inr (.inr g))))), (so, .inr (4, [.ref co, .int ln, .int le])), (co, .inl (cI, 60, .inl f))] t.heap ∧ va_K D vwCl (tyL cI cO) t ∧ va_D (va_A [(h, .inr (6, [.ref aS, .ref pe, .ref tq, .ref se, .ref mo, .ref re, .int bar, .int tr, .int fa])), (aS, .inl (cO, 4, .inr (.inr (.inr (.inr g))))), (so, .inr (4, [.ref co, .int ln, .int le])), (co, .inl (cI, 60, .inl f))] sz) [(h, .inr (6, [.ref aS, .ref pe, .ref tq, .ref se, .ref mo, .ref re, .int bar, .int tr, .int u])), (aS, .inl (cO, 4, .inr (.inr (.inr (.inr g))))), (so, .inr (4, [.ref co, .int ln, .int le])), (co, .inl (cI, 60, .inl f))]) (va_A [(h, .inr (6, [.ref aS, .ref pe, .ref tq, .ref se, .ref mo, .ref re, .int bar, .int tr, .int fa])), (aS, .inl (cO, 4, .inr (.inr (.inr (.inr g))))), (so, .inr (4, [.ref co, .int ln, .int le])), (co, .inl (cI, 60, .inl f))] sz)) 0 0 (va_A [(h, .inr (6, [.ref aS, .ref pe, .ref tq, .ref se, .ref mo, .ref re, .int bar, .int tr, .int fa])), (aS, .inl (cO, 4, .inr (.inr (.inr (.inr g))))), (so, .inr (4, [.ref co, .int ln, .int le])), (co, .inl (cI, 60, .inl f))] sz) := by
  refine Met.ofW (cc := cX6_cell) (maxL := 5) (ret := (some .long)) (by decide) rfl ?_
  intro p e s m args below meth c s₁ B hml hv
  obtain ⟨rfl, hsz, hP, hK, hNw, hD0⟩ := hv
  have hx := B.exec
  have hb := B.bytes
  have hr := B.returns
  have hts := atoms_spec (ws := wsX6_cell) B.pre
  have hown : s.vm.findClass RX6 = some m.cls := findClass_of_methodNamed B.named
  have hlocks := B.notSynchronized
  have f53 := hts (.fieldLink RX6 53 "StruckThrees" "fault" "I") (by decide +kernel)
  have iX6 : ∀ w ∈ wsX60, w ∈ wsX6_cell := by decide +kernel
  subst hsz
  have hD := hD0.self (sz := s.heap.size)
  generalize hAe : va_A [(h, .inr (6, [.ref aS, .ref pe, .ref tq, .ref se, .ref mo, .ref re, .int bar, .int tr, .int fa])), (aS, .inl (cO, 4, .inr (.inr (.inr (.inr g))))), (so, .inr (4, [.ref co, .int ln, .int le])), (co, .inl (cI, 60, .inl f))] s.heap.size = A at hD ⊢
  have hA : ∀ q : Nat, s.heap.size ≤ q → A q := fun q h => by rw [← hAe]; exact Or.inr h
  have hS : va_S A s.heap s.heap [] := va_S.rf
  have hP : va_P D vwCl [(h, .inr (6, [.ref aS, .ref pe, .ref tq, .ref se, .ref mo, .ref re, .int bar, .int tr, .int fa])), (aS, .inl (cO, 4, .inr (.inr (.inr (.inr g))))), (so, .inr (4, [.ref co, .int ln, .int le])), (co, .inl (cI, 60, .inl f))] s.heap := hP
  have hl := lv_entry ([.ref h, .int kq, .int i, .int w]) (n := 5) (Nat.le_of_ble_eq_true rfl)
  rw [lg_entry_eq]
  generalize (lg_sl ([.ref h, .int kq, .int i, .int w]) ++ List.replicate (5 - (lg_sl ([.ref h, .int kq, .int i, .int w])).length) Slot.unset).toArray = ls at hl ⊢
  have hl : lv_has ls 5 [(0, .ref h), (1, .int kq), (2, .int i), (3, .int w)] := hl
  refine lv_aload_n hx hb dX6_cell_0 rfl (lv_at hl 0 rfl) ?_
  refine lv_iconst (v := 0) hx hb dX6_cell_1 (by decide) ?_
  refine va_put (D := D) (ci := 6) (v := .int 0) (ty := .int) (C := RX6) (T := TX6) (N := 9) hx hb hts iX6 tyX6 tyX6_ok nmX6 hown hK hP hD hS 0 rfl rfl 8 (by decide) f53 (fun _ h9 => h9) rfl (by decide +kernel) rfl rfl (Nat.le_of_ble_eq_true rfl) dX6_cell_2 (fun H locs hP hD hS => ?_)
  have hP : va_P D vwCl [(h, .inr (6, [.ref aS, .ref pe, .ref tq, .ref se, .ref mo, .ref re, .int bar, .int tr, .int 0])), (aS, .inl (cO, 4, .inr (.inr (.inr (.inr g))))), (so, .inr (4, [.ref co, .int ln, .int le])), (co, .inl (cI, 60, .inl f))] H := hP
  have hD : va_D A [(h, .inr (6, [.ref aS, .ref pe, .ref tq, .ref se, .ref mo, .ref re, .int bar, .int tr, .int 0])), (aS, .inl (cO, 4, .inr (.inr (.inr (.inr g))))), (so, .inr (4, [.ref co, .int ln, .int le])), (co, .inl (cI, 60, .inl f))] := hD
  refine lv_aload_n hx hb dX6_cell_5 rfl (lv_at hl 0 rfl) ?_
  refine lv_iload_n hx hb dX6_cell_6 rfl (lv_at hl 1 rfl) ?_
  have hPc := hP.sub (ws' := [(h, .inr (6, [.ref aS, .ref pe, .ref tq, .ref se, .ref mo, .ref re, .int bar, .int tr, .int 0])), (aS, .inl (cO, 4, .inr (.inr (.inr (.inr g)))))]) [0, 1] rfl
  refine va_csq (va_Run.run (va_runV (As := [.int kq]) (rest := []) ⟨hx, hb, hml, hown, hts⟩ (c_X6_sheetAt l D cI cO h aS pe tq se mo re bar tr 0 g kq) (cwV 1 hts gX6_cell_X6_sheetAt rfl rfl rfl (by decide +kernel) ⟨Nat.le_of_ble_eq_true rfl, Nat.le_of_ble_eq_true rfl⟩) (preVR hPc hK hNw (va_recv hK hPc (ci := 6) (q0 := 0) rfl rfl)) rfl rfl hl.1 rfl (lv_room (Nat.le_of_ble_eq_true rfl)) dX6_cell_7 ⟨Nat.zero_le _, Nat.zero_le _⟩)) (fun r7 w7 => ?_)
  obtain rfl := w7
  by_cases hk : ¬ kq < 0 ∧ kq < 4
  · -- there
    refine tp_v (y := .ref so) (by rw [shI_in hk, hg hk.1 hk.2]; rfl) ?_
    refine lv_astore (lv' := [(4, .ref so), (0, .ref h), (1, .int kq), (2, .int i), (3, .int w)]) hx hb dX6_cell_10 hl (by decide) rfl (fun ls hl => ?_)
    refine lv_aload hx hb dX6_cell_12 (lv_at hl 0 rfl) ?_
    refine lv_ifnull hx hb dX6_cell_14 ?_
    refine lv_iload_n hx hb dX6_cell_17 rfl (lv_at hl 4 rfl) ?_
    have hPc := hP.sub (ws' := []) [] rfl
    refine vp_callSi (va_Run.run (va_runS (As := [.int w]) (rest := []) ⟨hx, hb, hml, hown, hts⟩ (c_X6_isLane l D cI cO w) (va_cwS 1 hts gX6_cell_X6_isLane rfl rfl rfl (by decide +kernel) ⟨Nat.le_of_ble_eq_true rfl, Nat.le_of_ble_eq_true rfl⟩) (preSR hPc hK hNw) rfl rfl hl.1 rfl (lv_room (Nat.le_of_ble_eq_true rfl)) dX6_cell_18 ⟨Nat.zero_le _, Nat.zero_le _⟩)) (fun r18 w18 => ?_)
    by_cases b18 : lstT w 0 2 = true
    · -- y18
      obtain rfl := w18.1 b18
      refine lv_if_ne (tgt := 28) hx hb dX6_cell_21 (by decide) (fun _ => ?_) (fun h => absurd h (by decide))
      refine lv_aload_n hx hb dX6_cell_28 rfl (lv_at hl 1 rfl) ?_
      refine lv_aload hx hb dX6_cell_29 (lv_at hl 0 rfl) ?_
      refine lv_iload_n hx hb dX6_cell_31 rfl (lv_at hl 4 rfl) ?_
      have hPc := hP.sub (ws' := [(so, .inr (4, [.ref co, .int ln, .int le]))]) [2] rfl
      refine vp_callSi (va_Run.run (va_runV (As := [.int w]) (rest := [.ref h]) ⟨hx, hb, hml, hown, hts⟩ (c_X4_faultAs l D cI cO so co ln le w) (cwV 1 hts gX6_cell_X4_faultAs rfl rfl rfl (by decide +kernel) ⟨Nat.le_of_ble_eq_true rfl, Nat.le_of_ble_eq_true rfl⟩) (preVR hPc hK hNw (va_recv hK hPc (ci := 4) (q0 := 0) rfl rfl)) rfl rfl hl.1 rfl (lv_room (Nat.le_of_ble_eq_true rfl)) dX6_cell_32 ⟨Nat.zero_le _, Nat.zero_le _⟩)) (fun r32 w32 => ?_)
      obtain rfl := w32
      refine va_put (D := D) (ci := 6) (v := .int (fasI le ln w)) (ty := .int) (C := RX6) (T := TX6) (N := 9) hx hb hts iX6 tyX6 tyX6_ok nmX6 hown hK hP hD hS 0 rfl rfl 8 (by decide) f53 (fun _ h9 => h9) rfl (by decide +kernel) rfl rfl (Nat.le_of_ble_eq_true rfl) dX6_cell_35 (fun H locs hP hD hS => ?_)
      have hP : va_P D vwCl [(h, .inr (6, [.ref aS, .ref pe, .ref tq, .ref se, .ref mo, .ref re, .int bar, .int tr, .int (fasI le ln w)])), (aS, .inl (cO, 4, .inr (.inr (.inr (.inr g))))), (so, .inr (4, [.ref co, .int ln, .int le])), (co, .inl (cI, 60, .inl f))] H := hP
      have hD : va_D A [(h, .inr (6, [.ref aS, .ref pe, .ref tq, .ref se, .ref mo, .ref re, .int bar, .int tr, .int (fasI le ln w)])), (aS, .inl (cO, 4, .inr (.inr (.inr (.inr g))))), (so, .inr (4, [.ref co, .int ln, .int le])), (co, .inl (cI, 60, .inl f))] := hD
      refine lv_aload_n hx hb dX6_cell_38 rfl (lv_at hl 1 rfl) ?_
      refine va_get (D := D) (ci := 6) (v := .int (fasI le ln w)) (C := RX6) (T := TX6) (N := 9) hx hb hts iX6 hown hK hP 0 rfl rfl 8 (by decide) f53 (fun _ h9 => h9) rfl dX6_cell_39 ?_
      refine lv_if_ne (tgt := 59) hx hb dX6_cell_42 (by decide) (fun c42 => ?_) (fun c42 => ?_)
      · -- t42
        refine lv_aload_n hx hb dX6_cell_59 rfl (lv_at hl 1 rfl) ?_
        refine va_get (D := D) (ci := 6) (v := .int (fasI le ln w)) (C := RX6) (T := TX6) (N := 9) hx hb hts iX6 hown hK hP 0 rfl rfl 8 (by decide) f53 (fun _ h9 => h9) rfl dX6_cell_60 ?_
        refine lv_if_ne (tgt := 76) hx hb dX6_cell_63 (by decide) (fun c63 => ?_) (fun c63 => ?_)
        · -- t63
          refine lv_ldc2 hx hb hown (hts (.constantLong RX6 218 (-9223372036854775808)) (by decide +kernel)) dX6_cell_76 ?_
          exact W.lret (v := (-9223372036854775808)) hx hb hr (fun t ht hW => ⟨⟨_, (fasI le ln w), rfl, by first | (simp only [onK_out hk]; simp; done) | (simp only [onK_in hk]; simp [celR, celA, *]; done), by rw [ht]; exact hP, va_K.moved hW.alike hK, hD⟩, hS.F ht⟩) hS.2.2 dX6_cell_79
        · -- f63
          exact absurd c63 c42
      · -- f42
        refine lv_aload hx hb dX6_cell_45 (lv_at hl 0 rfl) ?_
        refine lv_iload_n hx hb dX6_cell_47 rfl (lv_at hl 3 rfl) ?_
        have hPc := hP.sub (ws' := [(so, .inr (4, [.ref co, .int ln, .int le]))]) [2] rfl
        refine vp_callSi (va_Run.run (va_runV (As := [.int i]) (rest := []) ⟨hx, hb, hml, hown, hts⟩ (c_X4_has l D cI cO so co ln le i) (cwV 1 hts gX6_cell_X4_has rfl rfl rfl (by decide +kernel) ⟨Nat.le_of_ble_eq_true rfl, Nat.le_of_ble_eq_true rfl⟩) (preVR hPc hK hNw (va_recv hK hPc (ci := 4) (q0 := 0) rfl rfl)) rfl rfl hl.1 rfl (lv_room (Nat.le_of_ble_eq_true rfl)) dX6_cell_48 ⟨Nat.zero_le _, Nat.zero_le _⟩)) (fun r48 w48 => ?_)
        by_cases b48 : ¬ i < 0 ∧ ¬ le ≤ i
        · -- y48
          obtain rfl := w48.1 b48
          obtain ⟨L, hL, rfl⟩ := hle.resolve_left (fas0 c42).1
          obtain ⟨j, hj, rfl⟩ := in_nat b48 (show L < 2 ^ 31 by omega)
          have hh : hasI (nI L) (nI j) = true := decide_eq_true (nin_nI hj (by omega))
          have hcl := nI_clamp (n := j) (by omega)
          refine lv_if_ne (tgt := 59) hx hb dX6_cell_51 (by decide) (fun _ => ?_) (fun h => absurd h (by decide))
          refine lv_aload_n hx hb dX6_cell_59 rfl (lv_at hl 1 rfl) ?_
          refine va_get (D := D) (ci := 6) (v := .int (fasI (nI L) ln w)) (C := RX6) (T := TX6) (N := 9) hx hb hts iX6 hown hK hP 0 rfl rfl 8 (by decide) f53 (fun _ h9 => h9) rfl dX6_cell_60 ?_
          refine lv_if_ne (tgt := 76) hx hb dX6_cell_63 (by decide) (fun c63 => ?_) (fun c63 => ?_)
          · -- t63
            exact absurd c42 c63
          · -- f63
            refine lv_aload hx hb dX6_cell_66 (lv_at hl 0 rfl) ?_
            refine lv_iload_n hx hb dX6_cell_68 rfl (lv_at hl 3 rfl) ?_
            have hPc := hP.sub (ws' := [(so, .inr (4, [.ref co, .int ln, .int (nI L)])), (co, .inl (cI, 60, .inl f))]) [2, 3] rfl
            refine vp_callSi (va_Run.run (va_runV (As := [.int (nI j)]) (rest := []) ⟨hx, hb, hml, hown, hts⟩ (c_X4_at l D cI cO so co ln L f j (by assumption) (by omega)) (cwV 1 hts gX6_cell_X4_at rfl rfl rfl (by decide +kernel) ⟨Nat.le_of_ble_eq_true rfl, Nat.le_of_ble_eq_true rfl⟩) (preVR hPc hK hNw (va_recv hK hPc (ci := 4) (q0 := 0) rfl rfl)) rfl rfl hl.1 rfl (lv_room (Nat.le_of_ble_eq_true rfl)) dX6_cell_69 ⟨Nat.zero_le _, Nat.zero_le _⟩)) (fun r69 w69 => ?_)
            obtain rfl := w69
            refine lv_i2l hx hb dX6_cell_72 rfl ?_
            refine lv_goto (tgt := 79) hx hb dX6_cell_73 (by decide) ?_
            exact W.lret (v := (f j).toInt64) hx hb hr (fun t ht hW => ⟨⟨_, (fasI (nI L) ln w), rfl, by first | (simp only [onK_out hk]; simp; done) | (simp only [onK_in hk]; simp [celR, celA, *]; done), by rw [ht]; exact hP, va_K.moved hW.alike hK, hD⟩, hS.F ht⟩) hS.2.2 dX6_cell_79
        · -- n48
          obtain rfl := w48.2 b48
          have hh : hasI le i = false := decide_eq_false b48
          refine lv_if_ne (tgt := 59) hx hb dX6_cell_51 (by decide) (fun h => absurd (by decide) h) (fun _ => ?_)
          refine lv_aload_n hx hb dX6_cell_54 rfl (lv_at hl 1 rfl) ?_
          refine lv_iconst (v := 3) hx hb dX6_cell_55 (by decide) ?_
          refine va_put (D := D) (ci := 6) (v := .int 3) (ty := .int) (C := RX6) (T := TX6) (N := 9) hx hb hts iX6 tyX6 tyX6_ok nmX6 hown hK hP hD hS 0 rfl rfl 8 (by decide) f53 (fun _ h9 => h9) rfl (by decide +kernel) rfl rfl (Nat.le_of_ble_eq_true rfl) dX6_cell_56 (fun H locs hP hD hS => ?_)
          have hP : va_P D vwCl [(h, .inr (6, [.ref aS, .ref pe, .ref tq, .ref se, .ref mo, .ref re, .int bar, .int tr, .int 3])), (aS, .inl (cO, 4, .inr (.inr (.inr (.inr g))))), (so, .inr (4, [.ref co, .int ln, .int le])), (co, .inl (cI, 60, .inl f))] H := hP
          have hD : va_D A [(h, .inr (6, [.ref aS, .ref pe, .ref tq, .ref se, .ref mo, .ref re, .int bar, .int tr, .int 3])), (aS, .inl (cO, 4, .inr (.inr (.inr (.inr g))))), (so, .inr (4, [.ref co, .int ln, .int le])), (co, .inl (cI, 60, .inl f))] := hD
          refine lv_aload_n hx hb dX6_cell_59 rfl (lv_at hl 1 rfl) ?_
          refine va_get (D := D) (ci := 6) (v := .int 3) (C := RX6) (T := TX6) (N := 9) hx hb hts iX6 hown hK hP 0 rfl rfl 8 (by decide) f53 (fun _ h9 => h9) rfl dX6_cell_60 ?_
          refine lv_if_ne (tgt := 76) hx hb dX6_cell_63 (by decide) (fun _ => ?_) (fun h => absurd h (by decide))
          refine lv_ldc2 hx hb hown (hts (.constantLong RX6 218 (-9223372036854775808)) (by decide +kernel)) dX6_cell_76 ?_
          exact W.lret (v := (-9223372036854775808)) hx hb hr (fun t ht hW => ⟨⟨_, 3, rfl, by first | (simp only [onK_out hk]; simp; done) | (simp only [onK_in hk]; simp [celR, celA, *]; done), by rw [ht]; exact hP, va_K.moved hW.alike hK, hD⟩, hS.F ht⟩) hS.2.2 dX6_cell_79
    · -- n18
      obtain rfl := w18.2 b18
      refine lv_if_ne (tgt := 28) hx hb dX6_cell_21 (by decide) (fun h => absurd (by decide) h) (fun _ => ?_)
      refine lv_ldc2 hx hb hown (hts (.constantLong RX6 218 (-9223372036854775808)) (by decide +kernel)) dX6_cell_24 ?_
      exact W.lret (v := (-9223372036854775808)) hx hb hr (fun t ht hW => ⟨⟨_, 0, rfl, by first | (simp only [onK_out hk]; simp; done) | (simp only [onK_in hk]; simp [celR, celA, *]; done), by rw [ht]; exact hP, va_K.moved hW.alike hK, hD⟩, hS.F ht⟩) hS.2.2 dX6_cell_27
  · -- none such
    refine tp_v (y := .null) (by rw [shI_out hk]; rfl) ?_
    refine lv_astoreN (lv' := [(4, .null), (0, .ref h), (1, .int kq), (2, .int i), (3, .int w)]) hx hb dX6_cell_10 hl (by decide) rfl (fun ls hl => ?_)
    refine lv_aloadN hx hb dX6_cell_12 (lv_at hl 0 rfl) ?_
    refine lv_ifnullN (tgt := 24) hx hb dX6_cell_14 (by decide) ?_
    refine lv_ldc2 hx hb hown (hts (.constantLong RX6 218 (-9223372036854775808)) (by decide +kernel)) dX6_cell_24 ?_
    exact W.lret (v := (-9223372036854775808)) hx hb hr (fun t ht hW => ⟨⟨_, 0, rfl, by first | (simp only [onK_out hk]; simp; done) | (simp only [onK_in hk]; simp [celR, celA, *]; done), by rw [ht]; exact hP, va_K.moved hW.alike hK, hD⟩, hS.F ht⟩) hS.2.2 dX6_cell_27

set_option maxHeartbeats 4000000 in
set_option maxRecDepth 100000 in
theorem c_X6_town (l : Launch) (D : va_G) (cI cO : ClassId) (h : Nat) (aS : Nat) (pe : Nat) (tq : Nat) (se : Nat) (mo : Nat) (re : Nat) (bar : Int32) (tr : Int32) (fa : Int32) (g : Nat → Option Nat) (so : Nat) (co : Nat) (ln : Int32) (le : Int32) (f : Nat → Int32) (ka : Nat) (sa : Nat) (n : Nat) (kd : Nat → Int32) (sd : Nat → Int32) (xa : Nat) (la : Nat) (tn : Nat) (wa : Nat) (ha : Nat) (rn : Nat) (mk : Int32) (md : Int32) (mr : Int32) (mw : Int64) (kq : Int32) (w : Int32) (i : Int32) (v : Int32) (sz : Nat) (hg : ¬ kq < 0 → kq < 4 → g kq.toNatClampNeg = some so) (hle : okL le) : Met l yX6_town wsX6_town ({ frames := 3, cells := 0, slots := 0, locals := 66 } : Room) (va_Pc [.ref h, .int kq, .int w, .int i, .int v] (wdW D cI cO [(h, .inr (6, [.ref aS, .ref pe, .ref tq, .ref se, .ref mo, .ref re, .int bar, .int tr, .int fa])), (aS, .inl (cO, 4, .inr (.inr (.inr (.inr g))))), (so, .inr (4, [.ref co, .int ln, .int le])), (co, .inl (cI, 60, .inl f)), (pe, .inr (1, [.ref ka, .ref sa, .int (nI n)])), (ka, .inl (cI, 9, .inl kd)), (sa, .inl (cI, 9, .inl sd)), (tq, .inr (5, [.ref xa, .ref la, .int (nI tn)])), (re, .inr (2, [.ref wa, .ref ha, .int (nI rn)])), (mo, .inr (0, [.int mk, .int md, .int mr, .long mw]))] sz)) (va_Qi (S := Int32 × Int32 × Nat × (Nat → Int32) × (Nat → Int32) × Nat × Nat × Int32) (fun r u => r = ((towC kq w le ln f i v).1) ∧ u.1 = (tkn (towC kq w le ln f i v).2.2 0 bar) ∧ u.2.1 = ((towC kq w le ln f i v).2.1) ∧ u.2.2.1 = (tkn (towC kq w le ln f i v).2.2 (towC kq w le ln f i v).2.2 n) ∧ u.2.2.2.1 = (tkn (towC kq w le ln f i v).2.2 (setK f i.toNatClampNeg kd (towC kq w le ln f i v).2.2) kd) ∧ u.2.2.2.2.1 = (tkn (towC kq w le ln f i v).2.2 (setS f i.toNatClampNeg sd (towC kq w le ln f i v).2.2) sd) ∧ u.2.2.2.2.2.1 = (tkn (towC kq w le ln f i v).2.2 0 tn) ∧ u.2.2.2.2.2.2.1 = (tkn (towC kq w le ln f i v).2.2 0 rn) ∧ u.2.2.2.2.2.2.2 = (tkn (towC kq w le ln f i v).2.2 0 mk)) (fun u t => va_P D vwCl [(h, .inr (6, [.ref aS, .ref pe, .ref tq, .ref se, .ref mo, .ref re, .int u.1, .int tr, .int u.2.1])), (aS, .inl (cO, 4, .inr (.inr (.inr (.inr g))))), (so, .inr (4, [.ref co, .int ln, .int le])), (co, .inl (cI, 60, .inl f)), (pe, .inr (1, [.ref ka, .ref sa, .int (nI u.2.2.1)])), (ka, .inl (cI, 9, .inl u.2.2.2.1)), (sa, .inl (cI, 9, .inl u.2.2.2.2.1)), (tq, .inr (5, [.ref xa, .ref la, .int (nI u.2.2.2.2.2.1)])), (re, .inr (2, [.ref wa, .ref ha, .int (nI u.2.2.2.2.2.2.1)])), (mo, .inr (0, [.int u.2.2.2.2.2.2.2, .int md, .int mr, .long mw]))] t.heap ∧ va_K D vwCl (tyL cI cO) t ∧ va_D (va_A [(h, .inr (6, [.ref aS, .ref pe, .ref tq, .ref se, .ref mo, .ref re, .int bar, .int tr, .int fa])), (aS, .inl (cO, 4, .inr (.inr (.inr (.inr g))))), (so, .inr (4, [.ref co, .int ln, .int le])), (co, .inl (cI, 60, .inl f)), (pe, .inr (1, [.ref ka, .ref sa, .int (nI n)])), (ka, .inl (cI, 9, .inl kd)), (sa, .inl (cI, 9, .inl sd)), (tq, .inr (5, [.ref xa, .ref la, .int (nI tn)])), (re, .inr (2, [.ref wa, .ref ha, .int (nI rn)])), (mo, .inr (0, [.int mk, .int md, .int mr, .long mw]))] sz) [(h, .inr (6, [.ref aS, .ref pe, .ref tq, .ref se, .ref mo, .ref re, .int u.1, .int tr, .int u.2.1])), (aS, .inl (cO, 4, .inr (.inr (.inr (.inr g))))), (so, .inr (4, [.ref co, .int ln, .int le])), (co, .inl (cI, 60, .inl f)), (pe, .inr (1, [.ref ka, .ref sa, .int (nI u.2.2.1)])), (ka, .inl (cI, 9, .inl u.2.2.2.1)), (sa, .inl (cI, 9, .inl u.2.2.2.2.1)), (tq, .inr (5, [.ref xa, .ref la, .int (nI u.2.2.2.2.2.1)])), (re, .inr (2, [.ref wa, .ref ha, .int (nI u.2.2.2.2.2.2.1)])), (mo, .inr (0, [.int u.2.2.2.2.2.2.2, .int md, .int mr, .long mw]))]) (va_A [(h, .inr (6, [.ref aS, .ref pe, .ref tq, .ref se, .ref mo, .ref re, .int bar, .int tr, .int fa])), (aS, .inl (cO, 4, .inr (.inr (.inr (.inr g))))), (so, .inr (4, [.ref co, .int ln, .int le])), (co, .inl (cI, 60, .inl f)), (pe, .inr (1, [.ref ka, .ref sa, .int (nI n)])), (ka, .inl (cI, 9, .inl kd)), (sa, .inl (cI, 9, .inl sd)), (tq, .inr (5, [.ref xa, .ref la, .int (nI tn)])), (re, .inr (2, [.ref wa, .ref ha, .int (nI rn)])), (mo, .inr (0, [.int mk, .int md, .int mr, .long mw]))] sz)) 0 0 (va_A [(h, .inr (6, [.ref aS, .ref pe, .ref tq, .ref se, .ref mo, .ref re, .int bar, .int tr, .int fa])), (aS, .inl (cO, 4, .inr (.inr (.inr (.inr g))))), (so, .inr (4, [.ref co, .int ln, .int le])), (co, .inl (cI, 60, .inl f)), (pe, .inr (1, [.ref ka, .ref sa, .int (nI n)])), (ka, .inl (cI, 9, .inl kd)), (sa, .inl (cI, 9, .inl sd)), (tq, .inr (5, [.ref xa, .ref la, .int (nI tn)])), (re, .inr (2, [.ref wa, .ref ha, .int (nI rn)])), (mo, .inr (0, [.int mk, .int md, .int mr, .long mw]))] sz) := by
  refine Met.ofW (cc := cX6_town) (maxL := 8) (ret := (some .int)) (by decide) rfl ?_
  intro p e s m args below meth c s₁ B hml hv
  obtain ⟨rfl, hsz, hP, hK, hNw, hD0⟩ := hv
  have hx := B.exec
  have hb := B.bytes
  have hr := B.returns
  have hts := atoms_spec (ws := wsX6_town) B.pre
  have hown : s.vm.findClass RX6 = some m.cls := findClass_of_methodNamed B.named
  have hlocks := B.notSynchronized
  have f21 := hts (.fieldLink RX6 21 "StruckThrees" "people" "LStruckThrees$People;") (by decide +kernel)
  have f28 := hts (.fieldLink RX6 28 "StruckThrees" "threes" "LStruckThrees$Threes;") (by decide +kernel)
  have f42 := hts (.fieldLink RX6 42 "StruckThrees" "most" "LStruckThrees$Most;") (by decide +kernel)
  have f49 := hts (.fieldLink RX6 49 "StruckThrees" "readings" "LStruckThrees$Readings;") (by decide +kernel)
  have f53 := hts (.fieldLink RX6 53 "StruckThrees" "fault" "I") (by decide +kernel)
  have f91 := hts (.fieldLink RX6 91 "StruckThrees" "bar" "I") (by decide +kernel)
  have f94 := hNw.f (args := ([.ref h, .int kq, .int w, .int i, .int v]).toArray) ("StruckThrees", 94, "StruckThrees$People", "count", "I") (by decide)
  have iX1 : ∀ w ∈ wsX10, w ∈ wsX6_town := by decide +kernel
  have iX6 : ∀ w ∈ wsX60, w ∈ wsX6_town := by decide +kernel
  subst hsz
  have hD := hD0.self (sz := s.heap.size)
  generalize hAe : va_A [(h, .inr (6, [.ref aS, .ref pe, .ref tq, .ref se, .ref mo, .ref re, .int bar, .int tr, .int fa])), (aS, .inl (cO, 4, .inr (.inr (.inr (.inr g))))), (so, .inr (4, [.ref co, .int ln, .int le])), (co, .inl (cI, 60, .inl f)), (pe, .inr (1, [.ref ka, .ref sa, .int (nI n)])), (ka, .inl (cI, 9, .inl kd)), (sa, .inl (cI, 9, .inl sd)), (tq, .inr (5, [.ref xa, .ref la, .int (nI tn)])), (re, .inr (2, [.ref wa, .ref ha, .int (nI rn)])), (mo, .inr (0, [.int mk, .int md, .int mr, .long mw]))] s.heap.size = A at hD ⊢
  have hA : ∀ q : Nat, s.heap.size ≤ q → A q := fun q h => by rw [← hAe]; exact Or.inr h
  have hS : va_S A s.heap s.heap [] := va_S.rf
  have hP : va_P D vwCl [(h, .inr (6, [.ref aS, .ref pe, .ref tq, .ref se, .ref mo, .ref re, .int bar, .int tr, .int fa])), (aS, .inl (cO, 4, .inr (.inr (.inr (.inr g))))), (so, .inr (4, [.ref co, .int ln, .int le])), (co, .inl (cI, 60, .inl f)), (pe, .inr (1, [.ref ka, .ref sa, .int (nI n)])), (ka, .inl (cI, 9, .inl kd)), (sa, .inl (cI, 9, .inl sd)), (tq, .inr (5, [.ref xa, .ref la, .int (nI tn)])), (re, .inr (2, [.ref wa, .ref ha, .int (nI rn)])), (mo, .inr (0, [.int mk, .int md, .int mr, .long mw]))] s.heap := hP
  have hl := lv_entry ([.ref h, .int kq, .int w, .int i, .int v]) (n := 8) (Nat.le_of_ble_eq_true rfl)
  rw [lg_entry_eq]
  generalize (lg_sl ([.ref h, .int kq, .int w, .int i, .int v]) ++ List.replicate (8 - (lg_sl ([.ref h, .int kq, .int w, .int i, .int v])).length) Slot.unset).toArray = ls at hl ⊢
  have hl : lv_has ls 8 [(0, .ref h), (1, .int kq), (2, .int w), (3, .int i), (4, .int v)] := hl
  refine lv_aload_n hx hb dX6_town_0 rfl (lv_at hl 0 rfl) ?_
  refine lv_iconst (v := 0) hx hb dX6_town_1 (by decide) ?_
  refine va_put (D := D) (ci := 6) (v := .int 0) (ty := .int) (C := RX6) (T := TX6) (N := 9) hx hb hts iX6 tyX6 tyX6_ok nmX6 hown hK hP hD hS 0 rfl rfl 8 (by decide) f53 (fun _ h9 => h9) rfl (by decide +kernel) rfl rfl (Nat.le_of_ble_eq_true rfl) dX6_town_2 (fun H locs hP hD hS => ?_)
  have hP : va_P D vwCl [(h, .inr (6, [.ref aS, .ref pe, .ref tq, .ref se, .ref mo, .ref re, .int bar, .int tr, .int 0])), (aS, .inl (cO, 4, .inr (.inr (.inr (.inr g))))), (so, .inr (4, [.ref co, .int ln, .int le])), (co, .inl (cI, 60, .inl f)), (pe, .inr (1, [.ref ka, .ref sa, .int (nI n)])), (ka, .inl (cI, 9, .inl kd)), (sa, .inl (cI, 9, .inl sd)), (tq, .inr (5, [.ref xa, .ref la, .int (nI tn)])), (re, .inr (2, [.ref wa, .ref ha, .int (nI rn)])), (mo, .inr (0, [.int mk, .int md, .int mr, .long mw]))] H := hP
  have hD : va_D A [(h, .inr (6, [.ref aS, .ref pe, .ref tq, .ref se, .ref mo, .ref re, .int bar, .int tr, .int 0])), (aS, .inl (cO, 4, .inr (.inr (.inr (.inr g))))), (so, .inr (4, [.ref co, .int ln, .int le])), (co, .inl (cI, 60, .inl f)), (pe, .inr (1, [.ref ka, .ref sa, .int (nI n)])), (ka, .inl (cI, 9, .inl kd)), (sa, .inl (cI, 9, .inl sd)), (tq, .inr (5, [.ref xa, .ref la, .int (nI tn)])), (re, .inr (2, [.ref wa, .ref ha, .int (nI rn)])), (mo, .inr (0, [.int mk, .int md, .int mr, .long mw]))] := hD
  refine lv_aload_n hx hb dX6_town_5 rfl (lv_at hl 0 rfl) ?_
  refine lv_iload_n hx hb dX6_town_6 rfl (lv_at hl 1 rfl) ?_
  have hPc := hP.sub (ws' := [(h, .inr (6, [.ref aS, .ref pe, .ref tq, .ref se, .ref mo, .ref re, .int bar, .int tr, .int 0])), (aS, .inl (cO, 4, .inr (.inr (.inr (.inr g)))))]) [0, 1] rfl
  refine va_csq (va_Run.run (va_runV (As := [.int kq]) (rest := []) ⟨hx, hb, hml, hown, hts⟩ (c_X6_sheetAt l D cI cO h aS pe tq se mo re bar tr 0 g kq) (cwV 1 hts gX6_town_X6_sheetAt rfl rfl rfl (by decide +kernel) ⟨Nat.le_of_ble_eq_true rfl, Nat.le_of_ble_eq_true rfl⟩) (preVR hPc hK hNw (va_recv hK hPc (ci := 6) (q0 := 0) rfl rfl)) rfl rfl hl.1 rfl (lv_room (Nat.le_of_ble_eq_true rfl)) dX6_town_7 ⟨Nat.zero_le _, Nat.zero_le _⟩)) (fun r7 w7 => ?_)
  obtain rfl := w7
  by_cases hk : ¬ kq < 0 ∧ kq < 4
  · -- there
    refine tp_v (y := .ref so) (by rw [shI_in hk, hg hk.1 hk.2]; rfl) ?_
    refine lv_astore (lv' := [(5, .ref so), (0, .ref h), (1, .int kq), (2, .int w), (3, .int i), (4, .int v)]) hx hb dX6_town_10 hl (by decide) rfl (fun ls hl => ?_)
    refine lv_aload hx hb dX6_town_12 (lv_at hl 0 rfl) ?_
    refine lv_ifnonnull (tgt := 19) hx hb dX6_town_14 (by decide) ?_
    refine lv_iload_n hx hb dX6_town_19 rfl (lv_at hl 3 rfl) ?_
    have hPc := hP.sub (ws' := []) [] rfl
    refine vp_callSi (va_Run.run (va_runS (As := [.int w]) (rest := []) ⟨hx, hb, hml, hown, hts⟩ (c_X6_isLane l D cI cO w) (va_cwS 1 hts gX6_town_X6_isLane rfl rfl rfl (by decide +kernel) ⟨Nat.le_of_ble_eq_true rfl, Nat.le_of_ble_eq_true rfl⟩) (preSR hPc hK hNw) rfl rfl hl.1 rfl (lv_room (Nat.le_of_ble_eq_true rfl)) dX6_town_20 ⟨Nat.zero_le _, Nat.zero_le _⟩)) (fun r20 w20 => ?_)
    by_cases b20 : lstT w 0 2 = true
    · -- y20
      obtain rfl := w20.1 b20
      refine lv_if_ne (tgt := 29) hx hb dX6_town_23 (by decide) (fun _ => ?_) (fun h => absurd h (by decide))
      refine lv_aload hx hb dX6_town_29 (lv_at hl 0 rfl) ?_
      refine lv_iload_n hx hb dX6_town_31 rfl (lv_at hl 3 rfl) ?_
      have hPc := hP.sub (ws' := [(so, .inr (4, [.ref co, .int ln, .int le]))]) [2] rfl
      refine vp_callSi (va_Run.run (va_runV (As := [.int w]) (rest := []) ⟨hx, hb, hml, hown, hts⟩ (c_X4_faultAs l D cI cO so co ln le w) (cwV 1 hts gX6_town_X4_faultAs rfl rfl rfl (by decide +kernel) ⟨Nat.le_of_ble_eq_true rfl, Nat.le_of_ble_eq_true rfl⟩) (preVR hPc hK hNw (va_recv hK hPc (ci := 4) (q0 := 0) rfl rfl)) rfl rfl hl.1 rfl (lv_room (Nat.le_of_ble_eq_true rfl)) dX6_town_32 ⟨Nat.zero_le _, Nat.zero_le _⟩)) (fun r32 w32 => ?_)
      obtain rfl := w32
      refine lv_istore (lv' := [(6, .int (fasI le ln w)), (5, .ref so), (0, .ref h), (1, .int kq), (2, .int w), (3, .int i), (4, .int v)]) hx hb dX6_town_35 hl (by decide) rfl (fun ls hl => ?_)
      refine lv_iload hx hb dX6_town_37 (lv_at hl 0 rfl) ?_
      refine lv_if_ne (tgt := 50) hx hb dX6_town_39 (by decide) (fun c39 => ?_) (fun c39 => ?_)
      · -- t39
        have hm : metT le ln w i v = fasI le ln w := if_neg c39
        refine lv_iload hx hb dX6_town_50 (lv_at hl 0 rfl) ?_
        refine lv_if_ne (tgt := 65) hx hb dX6_town_52 (by decide) (fun c52 => ?_) (fun c52 => ?_)
        · -- t52
          refine lv_iload hx hb dX6_town_65 (lv_at hl 0 rfl) ?_
          refine lv_if_eq (tgt := 77) hx hb dX6_town_67 (by decide) (fun c67 => ?_) (fun c67 => ?_)
          · -- t67
            exact absurd c67 c39
          · -- f67
            refine lv_aload_n hx hb dX6_town_70 rfl (lv_at hl 2 rfl) ?_
            refine lv_iload hx hb dX6_town_71 (lv_at hl 0 rfl) ?_
            have hPc := hP.sub (ws' := [(h, .inr (6, [.ref aS, .ref pe, .ref tq, .ref se, .ref mo, .ref re, .int bar, .int tr, .int 0]))]) [0] rfl
            have hDc := hD.sub (ws' := [(h, .inr (6, [.ref aS, .ref pe, .ref tq, .ref se, .ref mo, .ref re, .int bar, .int tr, .int 0]))]) [0] (by decide) rfl
            have hFc := va_free (wc := [(h, .inr (6, [.ref aS, .ref pe, .ref tq, .ref se, .ref mo, .ref re, .int bar, .int tr, .int 0]))]) hD hS hA [0] rfl
            refine va_calli (va_runV (As := [.int (fasI le ln w)]) (rest := []) ⟨hx, hb, hml, hown, hts⟩ (c_X6_cameTo l D cI cO h aS pe tq se mo re bar tr 0 (fasI le ln w) _) (cwV 1 hts gX6_town_X6_cameTo rfl rfl rfl (by decide +kernel) ⟨Nat.le_of_ble_eq_true rfl, Nat.le_of_ble_eq_true rfl⟩) (preVW hPc hK hNw hDc (va_recv hK hPc (ci := 6) (q0 := 0) rfl rfl)) rfl rfl hl.1 rfl (lv_room (Nat.le_of_ble_eq_true rfl)) dX6_town_73 ⟨Nat.zero_le _, Nat.zero_le _⟩) hS (fun q _ h => hFc q h) hFc (fun r73 u t H1 locs ht hvm w73 hB hz1 hk1 hS => ?_)
            obtain ⟨hP1, hK1, hD1⟩ := hB
            rw [ht] at hP1
            try dsimp only at w73
            obtain ⟨hP, hD⟩ := va_join (wr := [(aS, .inl (cO, 4, .inr (.inr (.inr (.inr g))))), (so, .inr (4, [.ref co, .int ln, .int le])), (co, .inl (cI, 60, .inl f)), (pe, .inr (1, [.ref ka, .ref sa, .int (nI n)])), (ka, .inl (cI, 9, .inl kd)), (sa, .inl (cI, 9, .inl sd)), (tq, .inr (5, [.ref xa, .ref la, .int (nI tn)])), (re, .inr (2, [.ref wa, .ref ha, .int (nI rn)])), (mo, .inr (0, [.int mk, .int md, .int mr, .long mw]))]) (w1 := [(h, .inr (6, [.ref aS, .ref pe, .ref tq, .ref se, .ref mo, .ref re, .int bar, .int tr, .int (fasI le ln w)]))]) hP hD [0] [1, 2, 3, 4, 5, 6, 7, 8, 9] rfl rfl (by decide) (by decide) hk1 hFc hP1 hD1
            generalize H1 = H at hP hS ⊢
            have hP := hP.sub (ws' := [(h, .inr (6, [.ref aS, .ref pe, .ref tq, .ref se, .ref mo, .ref re, .int bar, .int tr, .int (fasI le ln w)])), (aS, .inl (cO, 4, .inr (.inr (.inr (.inr g))))), (so, .inr (4, [.ref co, .int ln, .int le])), (co, .inl (cI, 60, .inl f)), (pe, .inr (1, [.ref ka, .ref sa, .int (nI n)])), (ka, .inl (cI, 9, .inl kd)), (sa, .inl (cI, 9, .inl sd)), (tq, .inr (5, [.ref xa, .ref la, .int (nI tn)])), (re, .inr (2, [.ref wa, .ref ha, .int (nI rn)])), (mo, .inr (0, [.int mk, .int md, .int mr, .long mw]))]) [9, 0, 1, 2, 3, 4, 5, 6, 7, 8] rfl
            have hD := hD.sub (ws' := [(h, .inr (6, [.ref aS, .ref pe, .ref tq, .ref se, .ref mo, .ref re, .int bar, .int tr, .int (fasI le ln w)])), (aS, .inl (cO, 4, .inr (.inr (.inr (.inr g))))), (so, .inr (4, [.ref co, .int ln, .int le])), (co, .inl (cI, 60, .inl f)), (pe, .inr (1, [.ref ka, .ref sa, .int (nI n)])), (ka, .inl (cI, 9, .inl kd)), (sa, .inl (cI, 9, .inl sd)), (tq, .inr (5, [.ref xa, .ref la, .int (nI tn)])), (re, .inr (2, [.ref wa, .ref ha, .int (nI rn)])), (mo, .inr (0, [.int mk, .int md, .int mr, .long mw]))]) [9, 0, 1, 2, 3, 4, 5, 6, 7, 8] (by decide) rfl
            obtain rfl := w73
            exact W.iret (v := -10 - (fasI le ln w)) hx hb hr (fun t ht hW => ⟨⟨_, (bar, (fasI le ln w), n, kd, sd, tn, rn, mk), rfl, by rw [show towC kq w le ln f i v = (-10 - metT le ln w i v, metT le ln w i v, 0) from by unfold towC; rw [if_pos hk, if_pos b20, if_neg (by rw [hm]; exact c39)]]; rw [hm]; exact ⟨rfl, rfl, rfl, rfl, rfl, rfl, rfl, rfl, rfl⟩, by rw [ht]; exact hP, va_K.moved hW.alike hK, hD⟩, hS.F ht⟩) hS.2.2 dX6_town_76
        · -- f52
          exact absurd c52 c39
      · -- f39
        refine lv_iload hx hb dX6_town_42 (lv_at hl 6 rfl) ?_
        refine lv_if_ge (tgt := 50) hx hb dX6_town_44 (by decide) (fun c44 => ?_) (fun c44 => ?_)
        · -- t44
          have hm : metT le ln w i v = focI le i v := by unfold metT; rw [if_pos c39, if_pos c44]
          refine lv_iload hx hb dX6_town_50 (lv_at hl 0 rfl) ?_
          refine lv_if_ne (tgt := 65) hx hb dX6_town_52 (by decide) (fun c52 => ?_) (fun c52 => ?_)
          · -- t52
            exact absurd c39 c52
          · -- f52
            refine lv_aload hx hb dX6_town_55 (lv_at hl 1 rfl) ?_
            refine lv_iload_n hx hb dX6_town_57 rfl (lv_at hl 5 rfl) ?_
            refine lv_iload hx hb dX6_town_58 (lv_at hl 6 rfl) ?_
            have hPc := hP.sub (ws' := [(so, .inr (4, [.ref co, .int ln, .int le]))]) [2] rfl
            refine vp_callSi (va_Run.run (va_runV (As := [.int i, .int v]) (rest := []) ⟨hx, hb, hml, hown, hts⟩ (c_X4_faultOfCells l D cI cO so co ln le i v) (cwV 2 hts gX6_town_X4_faultOfCells rfl rfl rfl (by decide +kernel) ⟨Nat.le_of_ble_eq_true rfl, Nat.le_of_ble_eq_true rfl⟩) (preVR hPc hK hNw (va_recv hK hPc (ci := 4) (q0 := 0) rfl rfl)) rfl rfl hl.1 rfl (lv_room (Nat.le_of_ble_eq_true rfl)) dX6_town_60 ⟨Nat.zero_le _, Nat.zero_le _⟩)) (fun r60 w60 => ?_)
            obtain rfl := w60
            refine lv_istore (lv' := [(6, .int (focI le i v)), (5, .ref so), (0, .ref h), (1, .int kq), (2, .int w), (3, .int i), (4, .int v)]) hx hb dX6_town_63 hl (by decide) rfl (fun ls hl => ?_)
            refine lv_iload hx hb dX6_town_65 (lv_at hl 0 rfl) ?_
            refine lv_if_eq (tgt := 77) hx hb dX6_town_67 (by decide) (fun c67 => ?_) (fun c67 => ?_)
            · -- t67
              obtain ⟨L, hL, rfl⟩ := hle.resolve_left (fas0 c39).1
              obtain ⟨a0, k, rfl, rfl, hak⟩ := foc0 hL c67
              have hm0 := hm.trans c67
              have ca := nI_clamp (n := a0) (by omega)
              have ck := nI_clamp (n := k) (by omega)
              refine lv_aload hx hb dX6_town_77 (lv_at hl 1 rfl) ?_
              refine lv_iload_n hx hb dX6_town_79 rfl (lv_at hl 5 rfl) ?_
              refine lv_iload hx hb dX6_town_80 (lv_at hl 6 rfl) ?_
              have hPc := hP.sub (ws' := [(so, .inr (4, [.ref co, .int ln, .int (nI L)])), (co, .inl (cI, 60, .inl f))]) [2, 3] rfl
              refine vp_callSi (va_Run.run (va_runS (As := [.ref so, .int (nI a0), .int (nI k)]) (rest := []) ⟨hx, hb, hml, hown, hts⟩ (c_X6_firstFault l D cI cO so co ln L f a0 k (by assumption) (by omega)) (va_cwS 3 hts gX6_town_X6_firstFault rfl rfl rfl (by decide +kernel) ⟨Nat.le_of_ble_eq_true rfl, Nat.le_of_ble_eq_true rfl⟩) (preSR hPc hK hNw) rfl rfl hl.1 rfl (lv_room (Nat.le_of_ble_eq_true rfl)) dX6_town_82 ⟨Nat.zero_le _, Nat.zero_le _⟩)) (fun r82 w82 => ?_)
              obtain rfl := w82
              refine lv_istore (lv' := [(7, .int (ffW f a0 k k 0)), (6, .int (focI (nI L) (nI a0) (nI k))), (5, .ref so), (0, .ref h), (1, .int kq), (2, .int w), (3, .int (nI a0)), (4, .int (nI k))]) hx hb dX6_town_85 hl (by decide) rfl (fun ls hl => ?_)
              refine lv_iload hx hb dX6_town_87 (lv_at hl 0 rfl) ?_
              refine lv_bipush (v := -9) hx hb dX6_town_89 (by decide) ?_
              refine lv_icmp_eq (tgt := 100) hx hb dX6_town_91 (by decide) (fun c91 => ?_) (fun c91 => ?_)
              · -- t91
                obtain ⟨mm, hk3, hm3, hm9⟩ := ffW_m (by omega) c91
                have hmk : (k - 1) / 3 = mm := by omega
                refine lv_aload_n hx hb dX6_town_100 rfl (lv_at hl 3 rfl) ?_
                refine va_get (D := D) (ci := 6) (v := .ref pe) (C := RX6) (T := TX6) (N := 9) hx hb hts iX6 hown hK hP 0 rfl rfl 1 (by decide) f21 (fun _ h9 => h9) rfl dX6_town_101 ?_
                refine lv_aload hx hb dX6_town_104 (lv_at hl 2 rfl) ?_
                refine lv_iload_n hx hb dX6_town_106 rfl (lv_at hl 6 rfl) ?_
                refine lv_iload hx hb dX6_town_107 (lv_at hl 7 rfl) ?_
                have hPc := hP.sub (ws' := [(pe, .inr (1, [.ref ka, .ref sa, .int (nI n)])), (ka, .inl (cI, 9, .inl kd)), (sa, .inl (cI, 9, .inl sd)), (so, .inr (4, [.ref co, .int ln, .int (nI L)])), (co, .inl (cI, 60, .inl f))]) [4, 5, 6, 2, 3] rfl
                have hDc := hD.sub (ws' := [(pe, .inr (1, [.ref ka, .ref sa, .int (nI n)])), (ka, .inl (cI, 9, .inl kd)), (sa, .inl (cI, 9, .inl sd)), (so, .inr (4, [.ref co, .int ln, .int (nI L)])), (co, .inl (cI, 60, .inl f))]) [4, 5, 6, 2, 3] (by decide) rfl
                have hFc := va_free (wc := [(pe, .inr (1, [.ref ka, .ref sa, .int (nI n)])), (ka, .inl (cI, 9, .inl kd)), (sa, .inl (cI, 9, .inl sd)), (so, .inr (4, [.ref co, .int ln, .int (nI L)])), (co, .inl (cI, 60, .inl f))]) hD hS hA [4, 5, 6, 2, 3] rfl
                refine va_callv (va_runV (As := [.ref so, .int (nI a0), .int (nI k)]) (rest := []) ⟨hx, hb, hml, hown, hts⟩ (c_X1_settle l D cI cO pe ka sa n kd sd so co ln L f a0 k mm _ (by assumption) (hk3) (by assumption) (by omega)) (cwV 3 hts gX6_town_X1_settle rfl rfl rfl (by decide +kernel) ⟨Nat.le_of_ble_eq_true rfl, Nat.le_of_ble_eq_true rfl⟩) (preVW hPc hK hNw hDc (va_recv hK hPc (ci := 1) (q0 := 0) rfl rfl)) rfl rfl hl.1 rfl (lv_room (Nat.le_of_ble_eq_true rfl)) dX6_town_109 ⟨Nat.zero_le _, Nat.zero_le _⟩) hS (fun q _ h => hFc q h) hFc (fun u t H1 locs ht hvm w109 hB hz1 hk1 hS => ?_)
                obtain ⟨kd1_109, sd1_109⟩ := u
                obtain ⟨hP1, hK1, hD1⟩ := hB
                rw [ht] at hP1
                try dsimp only at w109
                obtain ⟨hP, hD⟩ := va_join (wr := [(h, .inr (6, [.ref aS, .ref pe, .ref tq, .ref se, .ref mo, .ref re, .int bar, .int tr, .int 0])), (aS, .inl (cO, 4, .inr (.inr (.inr (.inr g))))), (tq, .inr (5, [.ref xa, .ref la, .int (nI tn)])), (re, .inr (2, [.ref wa, .ref ha, .int (nI rn)])), (mo, .inr (0, [.int mk, .int md, .int mr, .long mw]))]) (w1 := [(pe, .inr (1, [.ref ka, .ref sa, .int (nI mm)])), (ka, .inl (cI, 9, .inl kd1_109)), (sa, .inl (cI, 9, .inl sd1_109)), (so, .inr (4, [.ref co, .int ln, .int (nI L)])), (co, .inl (cI, 60, .inl f))]) hP hD [4, 5, 6, 2, 3] [0, 1, 7, 8, 9] rfl rfl (by decide) (by decide) hk1 hFc hP1 hD1
                generalize H1 = H at hP hS ⊢
                have hP := hP.sub (ws' := [(h, .inr (6, [.ref aS, .ref pe, .ref tq, .ref se, .ref mo, .ref re, .int bar, .int tr, .int 0])), (aS, .inl (cO, 4, .inr (.inr (.inr (.inr g))))), (so, .inr (4, [.ref co, .int ln, .int (nI L)])), (co, .inl (cI, 60, .inl f)), (pe, .inr (1, [.ref ka, .ref sa, .int (nI mm)])), (ka, .inl (cI, 9, .inl kd1_109)), (sa, .inl (cI, 9, .inl sd1_109)), (tq, .inr (5, [.ref xa, .ref la, .int (nI tn)])), (re, .inr (2, [.ref wa, .ref ha, .int (nI rn)])), (mo, .inr (0, [.int mk, .int md, .int mr, .long mw]))]) [0, 1, 8, 9, 5, 6, 7, 2, 3, 4] rfl
                have hD := hD.sub (ws' := [(h, .inr (6, [.ref aS, .ref pe, .ref tq, .ref se, .ref mo, .ref re, .int bar, .int tr, .int 0])), (aS, .inl (cO, 4, .inr (.inr (.inr (.inr g))))), (so, .inr (4, [.ref co, .int ln, .int (nI L)])), (co, .inl (cI, 60, .inl f)), (pe, .inr (1, [.ref ka, .ref sa, .int (nI mm)])), (ka, .inl (cI, 9, .inl kd1_109)), (sa, .inl (cI, 9, .inl sd1_109)), (tq, .inr (5, [.ref xa, .ref la, .int (nI tn)])), (re, .inr (2, [.ref wa, .ref ha, .int (nI rn)])), (mo, .inr (0, [.int mk, .int md, .int mr, .long mw]))]) [0, 1, 8, 9, 5, 6, 7, 2, 3, 4] (by decide) rfl
                obtain ⟨rfl, rfl⟩ := w109
                refine lv_aload_n hx hb dX6_town_112 rfl (lv_at hl 3 rfl) ?_
                refine va_get (D := D) (ci := 6) (v := .ref tq) (C := RX6) (T := TX6) (N := 9) hx hb hts iX6 hown hK hP 0 rfl rfl 2 (by decide) f28 (fun _ h9 => h9) rfl dX6_town_113 ?_
                have hPc := hP.sub (ws' := [(tq, .inr (5, [.ref xa, .ref la, .int (nI tn)]))]) [7] rfl
                have hDc := hD.sub (ws' := [(tq, .inr (5, [.ref xa, .ref la, .int (nI tn)]))]) [7] (by decide) rfl
                have hFc := va_free (wc := [(tq, .inr (5, [.ref xa, .ref la, .int (nI tn)]))]) hD hS hA [7] rfl
                refine va_callv (va_runV (As := []) (rest := []) ⟨hx, hb, hml, hown, hts⟩ (c_X5_clear l D cI cO tq xa la tn _) (cwV 0 hts gX6_town_X5_clear rfl rfl rfl (by decide +kernel) ⟨Nat.le_of_ble_eq_true rfl, Nat.le_of_ble_eq_true rfl⟩) (preVW hPc hK hNw hDc (va_recv hK hPc (ci := 5) (q0 := 0) rfl rfl)) rfl rfl hl.1 rfl (lv_room (Nat.le_of_ble_eq_true rfl)) dX6_town_116 ⟨Nat.zero_le _, Nat.zero_le _⟩) hS (fun q _ h => hFc q h) hFc (fun u t H1 locs ht hvm w116 hB hz1 hk1 hS => ?_)
                obtain ⟨hP1, hK1, hD1⟩ := hB
                rw [ht] at hP1
                try dsimp only at w116
                obtain ⟨hP, hD⟩ := va_join (wr := [(h, .inr (6, [.ref aS, .ref pe, .ref tq, .ref se, .ref mo, .ref re, .int bar, .int tr, .int 0])), (aS, .inl (cO, 4, .inr (.inr (.inr (.inr g))))), (so, .inr (4, [.ref co, .int ln, .int (nI L)])), (co, .inl (cI, 60, .inl f)), (pe, .inr (1, [.ref ka, .ref sa, .int (nI mm)])), (ka, .inl (cI, 9, .inl (setK f a0 kd mm))), (sa, .inl (cI, 9, .inl (setS f a0 sd mm))), (re, .inr (2, [.ref wa, .ref ha, .int (nI rn)])), (mo, .inr (0, [.int mk, .int md, .int mr, .long mw]))]) (w1 := [(tq, .inr (5, [.ref xa, .ref la, .int (nI 0)]))]) hP hD [7] [0, 1, 2, 3, 4, 5, 6, 8, 9] rfl rfl (by decide) (by decide) hk1 hFc hP1 hD1
                generalize H1 = H at hP hS ⊢
                have hP := hP.sub (ws' := [(h, .inr (6, [.ref aS, .ref pe, .ref tq, .ref se, .ref mo, .ref re, .int bar, .int tr, .int 0])), (aS, .inl (cO, 4, .inr (.inr (.inr (.inr g))))), (so, .inr (4, [.ref co, .int ln, .int (nI L)])), (co, .inl (cI, 60, .inl f)), (pe, .inr (1, [.ref ka, .ref sa, .int (nI mm)])), (ka, .inl (cI, 9, .inl (setK f a0 kd mm))), (sa, .inl (cI, 9, .inl (setS f a0 sd mm))), (tq, .inr (5, [.ref xa, .ref la, .int (nI 0)])), (re, .inr (2, [.ref wa, .ref ha, .int (nI rn)])), (mo, .inr (0, [.int mk, .int md, .int mr, .long mw]))]) [0, 1, 2, 3, 4, 5, 6, 9, 7, 8] rfl
                have hD := hD.sub (ws' := [(h, .inr (6, [.ref aS, .ref pe, .ref tq, .ref se, .ref mo, .ref re, .int bar, .int tr, .int 0])), (aS, .inl (cO, 4, .inr (.inr (.inr (.inr g))))), (so, .inr (4, [.ref co, .int ln, .int (nI L)])), (co, .inl (cI, 60, .inl f)), (pe, .inr (1, [.ref ka, .ref sa, .int (nI mm)])), (ka, .inl (cI, 9, .inl (setK f a0 kd mm))), (sa, .inl (cI, 9, .inl (setS f a0 sd mm))), (tq, .inr (5, [.ref xa, .ref la, .int (nI 0)])), (re, .inr (2, [.ref wa, .ref ha, .int (nI rn)])), (mo, .inr (0, [.int mk, .int md, .int mr, .long mw]))]) [0, 1, 2, 3, 4, 5, 6, 9, 7, 8] (by decide) rfl
                refine lv_aload_n hx hb dX6_town_119 rfl (lv_at hl 3 rfl) ?_
                refine va_get (D := D) (ci := 6) (v := .ref re) (C := RX6) (T := TX6) (N := 9) hx hb hts iX6 hown hK hP 0 rfl rfl 5 (by decide) f49 (fun _ h9 => h9) rfl dX6_town_120 ?_
                have hPc := hP.sub (ws' := [(re, .inr (2, [.ref wa, .ref ha, .int (nI rn)]))]) [8] rfl
                have hDc := hD.sub (ws' := [(re, .inr (2, [.ref wa, .ref ha, .int (nI rn)]))]) [8] (by decide) rfl
                have hFc := va_free (wc := [(re, .inr (2, [.ref wa, .ref ha, .int (nI rn)]))]) hD hS hA [8] rfl
                refine va_callv (va_runV (As := []) (rest := []) ⟨hx, hb, hml, hown, hts⟩ (c_X2_clear l D cI cO re wa ha rn _) (cwV 0 hts gX6_town_X2_clear rfl rfl rfl (by decide +kernel) ⟨Nat.le_of_ble_eq_true rfl, Nat.le_of_ble_eq_true rfl⟩) (preVW hPc hK hNw hDc (va_recv hK hPc (ci := 2) (q0 := 0) rfl rfl)) rfl rfl hl.1 rfl (lv_room (Nat.le_of_ble_eq_true rfl)) dX6_town_123 ⟨Nat.zero_le _, Nat.zero_le _⟩) hS (fun q _ h => hFc q h) hFc (fun u t H1 locs ht hvm w123 hB hz1 hk1 hS => ?_)
                obtain ⟨hP1, hK1, hD1⟩ := hB
                rw [ht] at hP1
                try dsimp only at w123
                obtain ⟨hP, hD⟩ := va_join (wr := [(h, .inr (6, [.ref aS, .ref pe, .ref tq, .ref se, .ref mo, .ref re, .int bar, .int tr, .int 0])), (aS, .inl (cO, 4, .inr (.inr (.inr (.inr g))))), (so, .inr (4, [.ref co, .int ln, .int (nI L)])), (co, .inl (cI, 60, .inl f)), (pe, .inr (1, [.ref ka, .ref sa, .int (nI mm)])), (ka, .inl (cI, 9, .inl (setK f a0 kd mm))), (sa, .inl (cI, 9, .inl (setS f a0 sd mm))), (tq, .inr (5, [.ref xa, .ref la, .int (nI 0)])), (mo, .inr (0, [.int mk, .int md, .int mr, .long mw]))]) (w1 := [(re, .inr (2, [.ref wa, .ref ha, .int (nI 0)]))]) hP hD [8] [0, 1, 2, 3, 4, 5, 6, 7, 9] rfl rfl (by decide) (by decide) hk1 hFc hP1 hD1
                generalize H1 = H at hP hS ⊢
                have hP := hP.sub (ws' := [(h, .inr (6, [.ref aS, .ref pe, .ref tq, .ref se, .ref mo, .ref re, .int bar, .int tr, .int 0])), (aS, .inl (cO, 4, .inr (.inr (.inr (.inr g))))), (so, .inr (4, [.ref co, .int ln, .int (nI L)])), (co, .inl (cI, 60, .inl f)), (pe, .inr (1, [.ref ka, .ref sa, .int (nI mm)])), (ka, .inl (cI, 9, .inl (setK f a0 kd mm))), (sa, .inl (cI, 9, .inl (setS f a0 sd mm))), (tq, .inr (5, [.ref xa, .ref la, .int (nI 0)])), (re, .inr (2, [.ref wa, .ref ha, .int (nI 0)])), (mo, .inr (0, [.int mk, .int md, .int mr, .long mw]))]) [0, 1, 2, 3, 4, 5, 6, 7, 9, 8] rfl
                have hD := hD.sub (ws' := [(h, .inr (6, [.ref aS, .ref pe, .ref tq, .ref se, .ref mo, .ref re, .int bar, .int tr, .int 0])), (aS, .inl (cO, 4, .inr (.inr (.inr (.inr g))))), (so, .inr (4, [.ref co, .int ln, .int (nI L)])), (co, .inl (cI, 60, .inl f)), (pe, .inr (1, [.ref ka, .ref sa, .int (nI mm)])), (ka, .inl (cI, 9, .inl (setK f a0 kd mm))), (sa, .inl (cI, 9, .inl (setS f a0 sd mm))), (tq, .inr (5, [.ref xa, .ref la, .int (nI 0)])), (re, .inr (2, [.ref wa, .ref ha, .int (nI 0)])), (mo, .inr (0, [.int mk, .int md, .int mr, .long mw]))]) [0, 1, 2, 3, 4, 5, 6, 7, 9, 8] (by decide) rfl
                refine lv_aload_n hx hb dX6_town_126 rfl (lv_at hl 3 rfl) ?_
                refine va_get (D := D) (ci := 6) (v := .ref mo) (C := RX6) (T := TX6) (N := 9) hx hb hts iX6 hown hK hP 0 rfl rfl 4 (by decide) f42 (fun _ h9 => h9) rfl dX6_town_127 ?_
                have hPc := hP.sub (ws' := [(mo, .inr (0, [.int mk, .int md, .int mr, .long mw]))]) [9] rfl
                have hDc := hD.sub (ws' := [(mo, .inr (0, [.int mk, .int md, .int mr, .long mw]))]) [9] (by decide) rfl
                have hFc := va_free (wc := [(mo, .inr (0, [.int mk, .int md, .int mr, .long mw]))]) hD hS hA [9] rfl
                refine va_callv (va_runV (As := []) (rest := []) ⟨hx, hb, hml, hown, hts⟩ (c_X0_forget l D cI cO mo mk md mr mw _) (cwV 0 hts gX6_town_X0_forget rfl rfl rfl (by decide +kernel) ⟨Nat.le_of_ble_eq_true rfl, Nat.le_of_ble_eq_true rfl⟩) (preVW hPc hK hNw hDc (va_recv hK hPc (ci := 0) (q0 := 0) rfl rfl)) rfl rfl hl.1 rfl (lv_room (Nat.le_of_ble_eq_true rfl)) dX6_town_130 ⟨Nat.zero_le _, Nat.zero_le _⟩) hS (fun q _ h => hFc q h) hFc (fun u t H1 locs ht hvm w130 hB hz1 hk1 hS => ?_)
                obtain ⟨hP1, hK1, hD1⟩ := hB
                rw [ht] at hP1
                try dsimp only at w130
                obtain ⟨hP, hD⟩ := va_join (wr := [(h, .inr (6, [.ref aS, .ref pe, .ref tq, .ref se, .ref mo, .ref re, .int bar, .int tr, .int 0])), (aS, .inl (cO, 4, .inr (.inr (.inr (.inr g))))), (so, .inr (4, [.ref co, .int ln, .int (nI L)])), (co, .inl (cI, 60, .inl f)), (pe, .inr (1, [.ref ka, .ref sa, .int (nI mm)])), (ka, .inl (cI, 9, .inl (setK f a0 kd mm))), (sa, .inl (cI, 9, .inl (setS f a0 sd mm))), (tq, .inr (5, [.ref xa, .ref la, .int (nI 0)])), (re, .inr (2, [.ref wa, .ref ha, .int (nI 0)]))]) (w1 := [(mo, .inr (0, [.int 0, .int md, .int mr, .long mw]))]) hP hD [9] [0, 1, 2, 3, 4, 5, 6, 7, 8] rfl rfl (by decide) (by decide) hk1 hFc hP1 hD1
                generalize H1 = H at hP hS ⊢
                have hP := hP.sub (ws' := [(h, .inr (6, [.ref aS, .ref pe, .ref tq, .ref se, .ref mo, .ref re, .int bar, .int tr, .int 0])), (aS, .inl (cO, 4, .inr (.inr (.inr (.inr g))))), (so, .inr (4, [.ref co, .int ln, .int (nI L)])), (co, .inl (cI, 60, .inl f)), (pe, .inr (1, [.ref ka, .ref sa, .int (nI mm)])), (ka, .inl (cI, 9, .inl (setK f a0 kd mm))), (sa, .inl (cI, 9, .inl (setS f a0 sd mm))), (tq, .inr (5, [.ref xa, .ref la, .int (nI 0)])), (re, .inr (2, [.ref wa, .ref ha, .int (nI 0)])), (mo, .inr (0, [.int 0, .int md, .int mr, .long mw]))]) [0, 1, 2, 3, 4, 5, 6, 7, 8, 9] rfl
                have hD := hD.sub (ws' := [(h, .inr (6, [.ref aS, .ref pe, .ref tq, .ref se, .ref mo, .ref re, .int bar, .int tr, .int 0])), (aS, .inl (cO, 4, .inr (.inr (.inr (.inr g))))), (so, .inr (4, [.ref co, .int ln, .int (nI L)])), (co, .inl (cI, 60, .inl f)), (pe, .inr (1, [.ref ka, .ref sa, .int (nI mm)])), (ka, .inl (cI, 9, .inl (setK f a0 kd mm))), (sa, .inl (cI, 9, .inl (setS f a0 sd mm))), (tq, .inr (5, [.ref xa, .ref la, .int (nI 0)])), (re, .inr (2, [.ref wa, .ref ha, .int (nI 0)])), (mo, .inr (0, [.int 0, .int md, .int mr, .long mw]))]) [0, 1, 2, 3, 4, 5, 6, 7, 8, 9] (by decide) rfl
                refine lv_aload_n hx hb dX6_town_133 rfl (lv_at hl 3 rfl) ?_
                refine lv_iconst (v := 0) hx hb dX6_town_134 (by decide) ?_
                refine va_put (D := D) (ci := 6) (v := .int 0) (ty := .int) (C := RX6) (T := TX6) (N := 9) hx hb hts iX6 tyX6 tyX6_ok nmX6 hown hK hP hD hS 0 rfl rfl 6 (by decide) f91 (fun _ h9 => h9) rfl (by decide +kernel) rfl rfl (Nat.le_of_ble_eq_true rfl) dX6_town_135 (fun H locs hP hD hS => ?_)
                have hP : va_P D vwCl [(h, .inr (6, [.ref aS, .ref pe, .ref tq, .ref se, .ref mo, .ref re, .int 0, .int tr, .int 0])), (aS, .inl (cO, 4, .inr (.inr (.inr (.inr g))))), (so, .inr (4, [.ref co, .int ln, .int (nI L)])), (co, .inl (cI, 60, .inl f)), (pe, .inr (1, [.ref ka, .ref sa, .int (nI mm)])), (ka, .inl (cI, 9, .inl (setK f a0 kd mm))), (sa, .inl (cI, 9, .inl (setS f a0 sd mm))), (tq, .inr (5, [.ref xa, .ref la, .int (nI 0)])), (re, .inr (2, [.ref wa, .ref ha, .int (nI 0)])), (mo, .inr (0, [.int 0, .int md, .int mr, .long mw]))] H := hP
                have hD : va_D A [(h, .inr (6, [.ref aS, .ref pe, .ref tq, .ref se, .ref mo, .ref re, .int 0, .int tr, .int 0])), (aS, .inl (cO, 4, .inr (.inr (.inr (.inr g))))), (so, .inr (4, [.ref co, .int ln, .int (nI L)])), (co, .inl (cI, 60, .inl f)), (pe, .inr (1, [.ref ka, .ref sa, .int (nI mm)])), (ka, .inl (cI, 9, .inl (setK f a0 kd mm))), (sa, .inl (cI, 9, .inl (setS f a0 sd mm))), (tq, .inr (5, [.ref xa, .ref la, .int (nI 0)])), (re, .inr (2, [.ref wa, .ref ha, .int (nI 0)])), (mo, .inr (0, [.int 0, .int md, .int mr, .long mw]))] := hD
                refine lv_aload_n hx hb dX6_town_138 rfl (lv_at hl 3 rfl) ?_
                refine va_get (D := D) (ci := 6) (v := .ref pe) (C := RX6) (T := TX6) (N := 9) hx hb hts iX6 hown hK hP 0 rfl rfl 1 (by decide) f21 (fun _ h9 => h9) rfl dX6_town_139 ?_
                refine va_getN (D := D) (ci := 1) (v := .int (nI mm)) (C := RX1) (T := TX1) (N := 3) hx hb hts iX1 hown hK hP 4 rfl rfl 2 (by decide) f94 (fun _ h9 => h9) rfl dX6_town_142 ?_
                exact W.iret (v := nI mm) hx hb hr (fun t ht hW => ⟨⟨_, (0, 0, mm, (setK f a0 kd mm), (setS f a0 sd mm), 0, 0, 0), rfl, by rw [show towC kq w (nI L) ln f (nI a0) (nI k) = (nI mm, 0, mm) from by unfold towC; rw [if_pos hk, if_pos b20, if_pos hm0, ca, ck, if_pos c91, hmk], ca]; unfold tkn; simp [show ¬ mm = 0 by omega], by rw [ht]; exact hP, va_K.moved hW.alike hK, hD⟩, hS.F ht⟩) hS.2.2 dX6_town_145
              · -- f91
                refine lv_bipush (v := -100) hx hb dX6_town_94 (by decide) ?_
                refine lv_iload hx hb dX6_town_96 (lv_at hl 0 rfl) ?_
                refine lv_isub hx hb dX6_town_98 ?_
                exact W.iret (v := (-100) - (ffW f a0 k k 0)) hx hb hr (fun t ht hW => ⟨⟨_, (bar, 0, n, kd, sd, tn, rn, mk), rfl, by rw [show towC kq w (nI L) ln f (nI a0) (nI k) = (-100 - ffW f a0 k k 0, 0, 0) from by unfold towC; rw [if_pos hk, if_pos b20, if_pos hm0, ca, ck, if_neg c91]]; exact ⟨rfl, rfl, rfl, rfl, rfl, rfl, rfl, rfl, rfl⟩, by rw [ht]; exact hP, va_K.moved hW.alike hK, hD⟩, hS.F ht⟩) hS.2.2 dX6_town_99
            · -- f67
              refine lv_aload_n hx hb dX6_town_70 rfl (lv_at hl 2 rfl) ?_
              refine lv_iload hx hb dX6_town_71 (lv_at hl 0 rfl) ?_
              have hPc := hP.sub (ws' := [(h, .inr (6, [.ref aS, .ref pe, .ref tq, .ref se, .ref mo, .ref re, .int bar, .int tr, .int 0]))]) [0] rfl
              have hDc := hD.sub (ws' := [(h, .inr (6, [.ref aS, .ref pe, .ref tq, .ref se, .ref mo, .ref re, .int bar, .int tr, .int 0]))]) [0] (by decide) rfl
              have hFc := va_free (wc := [(h, .inr (6, [.ref aS, .ref pe, .ref tq, .ref se, .ref mo, .ref re, .int bar, .int tr, .int 0]))]) hD hS hA [0] rfl
              refine va_calli (va_runV (As := [.int (focI le i v)]) (rest := []) ⟨hx, hb, hml, hown, hts⟩ (c_X6_cameTo l D cI cO h aS pe tq se mo re bar tr 0 (focI le i v) _) (cwV 1 hts gX6_town_X6_cameTo rfl rfl rfl (by decide +kernel) ⟨Nat.le_of_ble_eq_true rfl, Nat.le_of_ble_eq_true rfl⟩) (preVW hPc hK hNw hDc (va_recv hK hPc (ci := 6) (q0 := 0) rfl rfl)) rfl rfl hl.1 rfl (lv_room (Nat.le_of_ble_eq_true rfl)) dX6_town_73 ⟨Nat.zero_le _, Nat.zero_le _⟩) hS (fun q _ h => hFc q h) hFc (fun r73 u t H1 locs ht hvm w73 hB hz1 hk1 hS => ?_)
              obtain ⟨hP1, hK1, hD1⟩ := hB
              rw [ht] at hP1
              try dsimp only at w73
              obtain ⟨hP, hD⟩ := va_join (wr := [(aS, .inl (cO, 4, .inr (.inr (.inr (.inr g))))), (so, .inr (4, [.ref co, .int ln, .int le])), (co, .inl (cI, 60, .inl f)), (pe, .inr (1, [.ref ka, .ref sa, .int (nI n)])), (ka, .inl (cI, 9, .inl kd)), (sa, .inl (cI, 9, .inl sd)), (tq, .inr (5, [.ref xa, .ref la, .int (nI tn)])), (re, .inr (2, [.ref wa, .ref ha, .int (nI rn)])), (mo, .inr (0, [.int mk, .int md, .int mr, .long mw]))]) (w1 := [(h, .inr (6, [.ref aS, .ref pe, .ref tq, .ref se, .ref mo, .ref re, .int bar, .int tr, .int (focI le i v)]))]) hP hD [0] [1, 2, 3, 4, 5, 6, 7, 8, 9] rfl rfl (by decide) (by decide) hk1 hFc hP1 hD1
              generalize H1 = H at hP hS ⊢
              have hP := hP.sub (ws' := [(h, .inr (6, [.ref aS, .ref pe, .ref tq, .ref se, .ref mo, .ref re, .int bar, .int tr, .int (focI le i v)])), (aS, .inl (cO, 4, .inr (.inr (.inr (.inr g))))), (so, .inr (4, [.ref co, .int ln, .int le])), (co, .inl (cI, 60, .inl f)), (pe, .inr (1, [.ref ka, .ref sa, .int (nI n)])), (ka, .inl (cI, 9, .inl kd)), (sa, .inl (cI, 9, .inl sd)), (tq, .inr (5, [.ref xa, .ref la, .int (nI tn)])), (re, .inr (2, [.ref wa, .ref ha, .int (nI rn)])), (mo, .inr (0, [.int mk, .int md, .int mr, .long mw]))]) [9, 0, 1, 2, 3, 4, 5, 6, 7, 8] rfl
              have hD := hD.sub (ws' := [(h, .inr (6, [.ref aS, .ref pe, .ref tq, .ref se, .ref mo, .ref re, .int bar, .int tr, .int (focI le i v)])), (aS, .inl (cO, 4, .inr (.inr (.inr (.inr g))))), (so, .inr (4, [.ref co, .int ln, .int le])), (co, .inl (cI, 60, .inl f)), (pe, .inr (1, [.ref ka, .ref sa, .int (nI n)])), (ka, .inl (cI, 9, .inl kd)), (sa, .inl (cI, 9, .inl sd)), (tq, .inr (5, [.ref xa, .ref la, .int (nI tn)])), (re, .inr (2, [.ref wa, .ref ha, .int (nI rn)])), (mo, .inr (0, [.int mk, .int md, .int mr, .long mw]))]) [9, 0, 1, 2, 3, 4, 5, 6, 7, 8] (by decide) rfl
              obtain rfl := w73
              exact W.iret (v := -10 - (focI le i v)) hx hb hr (fun t ht hW => ⟨⟨_, (bar, (focI le i v), n, kd, sd, tn, rn, mk), rfl, by rw [show towC kq w le ln f i v = (-10 - metT le ln w i v, metT le ln w i v, 0) from by unfold towC; rw [if_pos hk, if_pos b20, if_neg (by rw [hm]; exact c67)]]; rw [hm]; exact ⟨rfl, rfl, rfl, rfl, rfl, rfl, rfl, rfl, rfl⟩, by rw [ht]; exact hP, va_K.moved hW.alike hK, hD⟩, hS.F ht⟩) hS.2.2 dX6_town_76
        · -- f44
          have hm : metT le ln w i v = 4 := by unfold metT; rw [if_pos c39, if_neg c44]
          refine lv_iconst (v := 4) hx hb dX6_town_47 (by decide) ?_
          refine lv_istore (lv' := [(6, .int 4), (5, .ref so), (0, .ref h), (1, .int kq), (2, .int w), (3, .int i), (4, .int v)]) hx hb dX6_town_48 hl (by decide) rfl (fun ls hl => ?_)
          refine lv_iload hx hb dX6_town_50 (lv_at hl 0 rfl) ?_
          refine lv_if_ne (tgt := 65) hx hb dX6_town_52 (by decide) (fun _ => ?_) (fun h => absurd h (by decide))
          refine lv_iload hx hb dX6_town_65 (lv_at hl 0 rfl) ?_
          refine lv_if_eq (tgt := 77) hx hb dX6_town_67 (by decide) (fun h => absurd h (by decide)) (fun _ => ?_)
          refine lv_aload_n hx hb dX6_town_70 rfl (lv_at hl 2 rfl) ?_
          refine lv_iload hx hb dX6_town_71 (lv_at hl 0 rfl) ?_
          have hPc := hP.sub (ws' := [(h, .inr (6, [.ref aS, .ref pe, .ref tq, .ref se, .ref mo, .ref re, .int bar, .int tr, .int 0]))]) [0] rfl
          have hDc := hD.sub (ws' := [(h, .inr (6, [.ref aS, .ref pe, .ref tq, .ref se, .ref mo, .ref re, .int bar, .int tr, .int 0]))]) [0] (by decide) rfl
          have hFc := va_free (wc := [(h, .inr (6, [.ref aS, .ref pe, .ref tq, .ref se, .ref mo, .ref re, .int bar, .int tr, .int 0]))]) hD hS hA [0] rfl
          refine va_calli (va_runV (As := [.int 4]) (rest := []) ⟨hx, hb, hml, hown, hts⟩ (c_X6_cameTo l D cI cO h aS pe tq se mo re bar tr 0 4 _) (cwV 1 hts gX6_town_X6_cameTo rfl rfl rfl (by decide +kernel) ⟨Nat.le_of_ble_eq_true rfl, Nat.le_of_ble_eq_true rfl⟩) (preVW hPc hK hNw hDc (va_recv hK hPc (ci := 6) (q0 := 0) rfl rfl)) rfl rfl hl.1 rfl (lv_room (Nat.le_of_ble_eq_true rfl)) dX6_town_73 ⟨Nat.zero_le _, Nat.zero_le _⟩) hS (fun q _ h => hFc q h) hFc (fun r73 u t H1 locs ht hvm w73 hB hz1 hk1 hS => ?_)
          obtain ⟨hP1, hK1, hD1⟩ := hB
          rw [ht] at hP1
          try dsimp only at w73
          obtain ⟨hP, hD⟩ := va_join (wr := [(aS, .inl (cO, 4, .inr (.inr (.inr (.inr g))))), (so, .inr (4, [.ref co, .int ln, .int le])), (co, .inl (cI, 60, .inl f)), (pe, .inr (1, [.ref ka, .ref sa, .int (nI n)])), (ka, .inl (cI, 9, .inl kd)), (sa, .inl (cI, 9, .inl sd)), (tq, .inr (5, [.ref xa, .ref la, .int (nI tn)])), (re, .inr (2, [.ref wa, .ref ha, .int (nI rn)])), (mo, .inr (0, [.int mk, .int md, .int mr, .long mw]))]) (w1 := [(h, .inr (6, [.ref aS, .ref pe, .ref tq, .ref se, .ref mo, .ref re, .int bar, .int tr, .int 4]))]) hP hD [0] [1, 2, 3, 4, 5, 6, 7, 8, 9] rfl rfl (by decide) (by decide) hk1 hFc hP1 hD1
          generalize H1 = H at hP hS ⊢
          have hP := hP.sub (ws' := [(h, .inr (6, [.ref aS, .ref pe, .ref tq, .ref se, .ref mo, .ref re, .int bar, .int tr, .int 4])), (aS, .inl (cO, 4, .inr (.inr (.inr (.inr g))))), (so, .inr (4, [.ref co, .int ln, .int le])), (co, .inl (cI, 60, .inl f)), (pe, .inr (1, [.ref ka, .ref sa, .int (nI n)])), (ka, .inl (cI, 9, .inl kd)), (sa, .inl (cI, 9, .inl sd)), (tq, .inr (5, [.ref xa, .ref la, .int (nI tn)])), (re, .inr (2, [.ref wa, .ref ha, .int (nI rn)])), (mo, .inr (0, [.int mk, .int md, .int mr, .long mw]))]) [9, 0, 1, 2, 3, 4, 5, 6, 7, 8] rfl
          have hD := hD.sub (ws' := [(h, .inr (6, [.ref aS, .ref pe, .ref tq, .ref se, .ref mo, .ref re, .int bar, .int tr, .int 4])), (aS, .inl (cO, 4, .inr (.inr (.inr (.inr g))))), (so, .inr (4, [.ref co, .int ln, .int le])), (co, .inl (cI, 60, .inl f)), (pe, .inr (1, [.ref ka, .ref sa, .int (nI n)])), (ka, .inl (cI, 9, .inl kd)), (sa, .inl (cI, 9, .inl sd)), (tq, .inr (5, [.ref xa, .ref la, .int (nI tn)])), (re, .inr (2, [.ref wa, .ref ha, .int (nI rn)])), (mo, .inr (0, [.int mk, .int md, .int mr, .long mw]))]) [9, 0, 1, 2, 3, 4, 5, 6, 7, 8] (by decide) rfl
          obtain rfl := w73
          exact W.iret (v := -10 - 4) hx hb hr (fun t ht hW => ⟨⟨_, (bar, 4, n, kd, sd, tn, rn, mk), rfl, by rw [show towC kq w le ln f i v = (-10 - metT le ln w i v, metT le ln w i v, 0) from by unfold towC; rw [if_pos hk, if_pos b20, if_neg (by rw [hm]; decide)]]; rw [hm]; exact ⟨rfl, rfl, rfl, rfl, rfl, rfl, rfl, rfl, rfl⟩, by rw [ht]; exact hP, va_K.moved hW.alike hK, hD⟩, hS.F ht⟩) hS.2.2 dX6_town_76
    · -- n20
      obtain rfl := w20.2 b20
      refine lv_if_ne (tgt := 29) hx hb dX6_town_23 (by decide) (fun h => absurd (by decide) h) (fun _ => ?_)
      refine lv_bipush (v := -2) hx hb dX6_town_26 (by decide) ?_
      exact W.iret (v := -2) hx hb hr (fun t ht hW => ⟨⟨_, (bar, 0, n, kd, sd, tn, rn, mk), rfl, by rw [show towC kq w le ln f i v = (-2, 0, 0) from by unfold towC; rw [if_pos hk, if_neg b20]]; exact ⟨rfl, rfl, rfl, rfl, rfl, rfl, rfl, rfl, rfl⟩, by rw [ht]; exact hP, va_K.moved hW.alike hK, hD⟩, hS.F ht⟩) hS.2.2 dX6_town_28
  · -- none such
    refine tp_v (y := .null) (by rw [shI_out hk]; rfl) ?_
    refine lv_astoreN (lv' := [(5, .null), (0, .ref h), (1, .int kq), (2, .int w), (3, .int i), (4, .int v)]) hx hb dX6_town_10 hl (by decide) rfl (fun ls hl => ?_)
    refine lv_aloadN hx hb dX6_town_12 (lv_at hl 0 rfl) ?_
    refine lv_ifnonnullN hx hb dX6_town_14 ?_
    refine lv_iconst (v := -1) hx hb dX6_town_17 (by decide) ?_
    exact W.iret (v := -1) hx hb hr (fun t ht hW => ⟨⟨_, (bar, 0, n, kd, sd, tn, rn, mk), rfl, by rw [show towC kq w le ln f i v = (-1, 0, 0) from if_neg hk]; exact ⟨rfl, rfl, rfl, rfl, rfl, rfl, rfl, rfl, rfl⟩, by rw [ht]; exact hP, va_K.moved hW.alike hK, hD⟩, hS.F ht⟩) hS.2.2 dX6_town_18
