set_option maxHeartbeats 4000000 in
set_option maxRecDepth 100000 in
theorem c_X6_copy (l : Launch) (D : va_G) (cI cO : ClassId) (h : Nat) (aS : Nat) (pe : Nat) (tq : Nat) (se : Nat) (mo : Nat) (re : Nat) (bar : Int32) (tr : Int32) (fa : Int32) (g : Nat → Option Nat) (so : Nat) (co : Nat) (ln : Int32) (le : Int32) (f : Nat → Int32) (so2 : Nat) (co2 : Nat) (ln2 : Int32) (le2 : Int32) (f2 : Nat → Int32) (kq : Int32) (i : Int32) (jq : Int32) (j : Int32) (v : Int32) (sz : Nat) (hg : ¬ kq < 0 → kq < 4 → g kq.toNatClampNeg = some so) (hle : okL le) (hg2 : ¬ jq < 0 → jq < 4 → g jq.toNatClampNeg = some so2) (hle2 : okL le2) : Met l yX6_copy wsX6_copy ({ frames := 1, cells := 0, slots := 0, locals := 60 } : Room) (va_Pc [.ref h, .int kq, .int i, .int jq, .int j, .int v] (wdW D cI cO [(h, .inr (6, [.ref aS, .ref pe, .ref tq, .ref se, .ref mo, .ref re, .int bar, .int tr, .int fa])), (aS, .inl (cO, 4, .inr (.inr (.inr (.inr g))))), (so, .inr (4, [.ref co, .int ln, .int le])), (co, .inl (cI, 60, .inl f)), (so2, .inr (4, [.ref co2, .int ln2, .int le2])), (co2, .inl (cI, 60, .inl f2))] sz)) (va_Qi (S := Int32 × (Nat → Int32)) (fun r u => r = (onKK kq jq (cpyR le ln le2 ln2 i j v) (-1)) ∧ u.1 = (onKK kq jq (cpyA le ln le2 ln2 i j v) 0) ∧ u.2 = (onKK kq jq (cpyF le ln le2 ln2 i j v f f2) f2)) (fun u t => va_P D vwCl [(h, .inr (6, [.ref aS, .ref pe, .ref tq, .ref se, .ref mo, .ref re, .int bar, .int tr, .int u.1])), (aS, .inl (cO, 4, .inr (.inr (.inr (.inr g))))), (so, .inr (4, [.ref co, .int ln, .int le])), (co, .inl (cI, 60, .inl f)), (so2, .inr (4, [.ref co2, .int ln2, .int le2])), (co2, .inl (cI, 60, .inl u.2))] t.heap ∧ va_K D vwCl (tyL cI cO) t ∧ va_D (va_A [(h, .inr (6, [.ref aS, .ref pe, .ref tq, .ref se, .ref mo, .ref re, .int bar, .int tr, .int fa])), (aS, .inl (cO, 4, .inr (.inr (.inr (.inr g))))), (so, .inr (4, [.ref co, .int ln, .int le])), (co, .inl (cI, 60, .inl f)), (so2, .inr (4, [.ref co2, .int ln2, .int le2])), (co2, .inl (cI, 60, .inl f2))] sz) [(h, .inr (6, [.ref aS, .ref pe, .ref tq, .ref se, .ref mo, .ref re, .int bar, .int tr, .int u.1])), (aS, .inl (cO, 4, .inr (.inr (.inr (.inr g))))), (so, .inr (4, [.ref co, .int ln, .int le])), (co, .inl (cI, 60, .inl f)), (so2, .inr (4, [.ref co2, .int ln2, .int le2])), (co2, .inl (cI, 60, .inl u.2))]) (va_A [(h, .inr (6, [.ref aS, .ref pe, .ref tq, .ref se, .ref mo, .ref re, .int bar, .int tr, .int fa])), (aS, .inl (cO, 4, .inr (.inr (.inr (.inr g))))), (so, .inr (4, [.ref co, .int ln, .int le])), (co, .inl (cI, 60, .inl f)), (so2, .inr (4, [.ref co2, .int ln2, .int le2])), (co2, .inl (cI, 60, .inl f2))] sz)) 0 0 (va_A [(h, .inr (6, [.ref aS, .ref pe, .ref tq, .ref se, .ref mo, .ref re, .int bar, .int tr, .int fa])), (aS, .inl (cO, 4, .inr (.inr (.inr (.inr g))))), (so, .inr (4, [.ref co, .int ln, .int le])), (co, .inl (cI, 60, .inl f)), (so2, .inr (4, [.ref co2, .int ln2, .int le2])), (co2, .inl (cI, 60, .inl f2))] sz) := by
  refine Met.ofW (cc := cX6_copy) (maxL := 8) (ret := (some .int)) (by decide) rfl ?_
  intro p e s m args below meth c s₁ B hml hv
  obtain ⟨rfl, hsz, hP, hK, hNw, hD0⟩ := hv
  have hx := B.exec
  have hb := B.bytes
  have hr := B.returns
  have hts := atoms_spec (ws := wsX6_copy) B.pre
  have hown : s.vm.findClass RX6 = some m.cls := findClass_of_methodNamed B.named
  have hlocks := B.notSynchronized
  have f53 := hts (.fieldLink RX6 53 "StruckThrees" "fault" "I") (by decide +kernel)
  have f242 := hNw.f (args := ([.ref h, .int kq, .int i, .int jq, .int j, .int v]).toArray) ("StruckThrees", 242, "StruckThrees$Sheet", "lane", "I") (by decide)
  have f245 := hNw.f (args := ([.ref h, .int kq, .int i, .int jq, .int j, .int v]).toArray) ("StruckThrees", 245, "StruckThrees$Sheet", "cells", "[I") (by decide)
  have iX4 : ∀ w ∈ wsX40, w ∈ wsX6_copy := by decide +kernel
  have iX6 : ∀ w ∈ wsX60, w ∈ wsX6_copy := by decide +kernel
  subst hsz
  have hD := hD0.self (sz := s.heap.size)
  generalize hAe : va_A [(h, .inr (6, [.ref aS, .ref pe, .ref tq, .ref se, .ref mo, .ref re, .int bar, .int tr, .int fa])), (aS, .inl (cO, 4, .inr (.inr (.inr (.inr g))))), (so, .inr (4, [.ref co, .int ln, .int le])), (co, .inl (cI, 60, .inl f)), (so2, .inr (4, [.ref co2, .int ln2, .int le2])), (co2, .inl (cI, 60, .inl f2))] s.heap.size = A at hD ⊢
  have hA : ∀ q : Nat, s.heap.size ≤ q → A q := fun q h => by rw [← hAe]; exact Or.inr h
  have hS : va_S A s.heap s.heap [] := va_S.rf
  have hP : va_P D vwCl [(h, .inr (6, [.ref aS, .ref pe, .ref tq, .ref se, .ref mo, .ref re, .int bar, .int tr, .int fa])), (aS, .inl (cO, 4, .inr (.inr (.inr (.inr g))))), (so, .inr (4, [.ref co, .int ln, .int le])), (co, .inl (cI, 60, .inl f)), (so2, .inr (4, [.ref co2, .int ln2, .int le2])), (co2, .inl (cI, 60, .inl f2))] s.heap := hP
  have hl := lv_entry ([.ref h, .int kq, .int i, .int jq, .int j, .int v]) (n := 8) (Nat.le_of_ble_eq_true rfl)
  rw [lg_entry_eq]
  generalize (lg_sl ([.ref h, .int kq, .int i, .int jq, .int j, .int v]) ++ List.replicate (8 - (lg_sl ([.ref h, .int kq, .int i, .int jq, .int j, .int v])).length) Slot.unset).toArray = ls at hl ⊢
  have hl : lv_has ls 8 [(0, .ref h), (1, .int kq), (2, .int i), (3, .int jq), (4, .int j), (5, .int v)] := hl
  refine lv_aload_n hx hb dX6_copy_0 rfl (lv_at hl 0 rfl) ?_
  refine lv_iconst (v := 0) hx hb dX6_copy_1 (by decide) ?_
  refine va_put (D := D) (ci := 6) (v := .int 0) (ty := .int) (C := RX6) (T := TX6) (N := 9) hx hb hts iX6 tyX6 tyX6_ok nmX6 hown hK hP hD hS 0 rfl rfl 8 (by decide) f53 (fun _ h9 => h9) rfl (by decide +kernel) rfl rfl (Nat.le_of_ble_eq_true rfl) dX6_copy_2 (fun H locs hP hD hS => ?_)
  have hP : va_P D vwCl [(h, .inr (6, [.ref aS, .ref pe, .ref tq, .ref se, .ref mo, .ref re, .int bar, .int tr, .int 0])), (aS, .inl (cO, 4, .inr (.inr (.inr (.inr g))))), (so, .inr (4, [.ref co, .int ln, .int le])), (co, .inl (cI, 60, .inl f)), (so2, .inr (4, [.ref co2, .int ln2, .int le2])), (co2, .inl (cI, 60, .inl f2))] H := hP
  have hD : va_D A [(h, .inr (6, [.ref aS, .ref pe, .ref tq, .ref se, .ref mo, .ref re, .int bar, .int tr, .int 0])), (aS, .inl (cO, 4, .inr (.inr (.inr (.inr g))))), (so, .inr (4, [.ref co, .int ln, .int le])), (co, .inl (cI, 60, .inl f)), (so2, .inr (4, [.ref co2, .int ln2, .int le2])), (co2, .inl (cI, 60, .inl f2))] := hD
  refine lv_aload_n hx hb dX6_copy_5 rfl (lv_at hl 0 rfl) ?_
  refine lv_iload_n hx hb dX6_copy_6 rfl (lv_at hl 1 rfl) ?_
  have hPc := hP.sub (ws' := [(h, .inr (6, [.ref aS, .ref pe, .ref tq, .ref se, .ref mo, .ref re, .int bar, .int tr, .int 0])), (aS, .inl (cO, 4, .inr (.inr (.inr (.inr g)))))]) [0, 1] rfl
  refine va_csq (va_Run.run (va_runV (As := [.int kq]) (rest := []) ⟨hx, hb, hml, hown, hts⟩ (c_X6_sheetAt l D cI cO h aS pe tq se mo re bar tr 0 g kq) (cwV 1 hts gX6_copy_X6_sheetAt rfl rfl rfl (by decide +kernel) ⟨Nat.le_of_ble_eq_true rfl, Nat.le_of_ble_eq_true rfl⟩) (preVR hPc hK hNw (va_recv hK hPc (ci := 6) (q0 := 0) rfl rfl)) rfl rfl hl.1 rfl (lv_room (Nat.le_of_ble_eq_true rfl)) dX6_copy_7 ⟨Nat.zero_le _, Nat.zero_le _⟩)) (fun r7 w7 => ?_)
  obtain rfl := w7
  by_cases hk : ¬ kq < 0 ∧ kq < 4
  · -- there
    refine tp_v (y := .ref so) (by rw [shI_in hk, hg hk.1 hk.2]; rfl) ?_
    refine lv_astore (lv' := [(6, .ref so), (0, .ref h), (1, .int kq), (2, .int i), (3, .int jq), (4, .int j), (5, .int v)]) hx hb dX6_copy_10 hl (by decide) rfl (fun ls hl => ?_)
    refine lv_aload_n hx hb dX6_copy_12 rfl (lv_at hl 1 rfl) ?_
    refine lv_iload_n hx hb dX6_copy_13 rfl (lv_at hl 4 rfl) ?_
    have hPc := hP.sub (ws' := [(h, .inr (6, [.ref aS, .ref pe, .ref tq, .ref se, .ref mo, .ref re, .int bar, .int tr, .int 0])), (aS, .inl (cO, 4, .inr (.inr (.inr (.inr g)))))]) [0, 1] rfl
    refine va_csq (va_Run.run (va_runV (As := [.int jq]) (rest := []) ⟨hx, hb, hml, hown, hts⟩ (c_X6_sheetAt l D cI cO h aS pe tq se mo re bar tr 0 g jq) (cwV 1 hts gX6_copy_X6_sheetAt rfl rfl rfl (by decide +kernel) ⟨Nat.le_of_ble_eq_true rfl, Nat.le_of_ble_eq_true rfl⟩) (preVR hPc hK hNw (va_recv hK hPc (ci := 6) (q0 := 0) rfl rfl)) rfl rfl hl.1 rfl (lv_room (Nat.le_of_ble_eq_true rfl)) dX6_copy_14 ⟨Nat.zero_le _, Nat.zero_le _⟩)) (fun r14 w14 => ?_)
    obtain rfl := w14
    by_cases hk2 : ¬ jq < 0 ∧ jq < 4
    · -- there
      refine tp_v (y := .ref so2) (by rw [shI_in hk2, hg2 hk2.1 hk2.2]; rfl) ?_
      refine lv_astore (lv' := [(7, .ref so2), (6, .ref so), (0, .ref h), (1, .int kq), (2, .int i), (3, .int jq), (4, .int j), (5, .int v)]) hx hb dX6_copy_17 hl (by decide) rfl (fun ls hl => ?_)
      refine lv_aload hx hb dX6_copy_19 (lv_at hl 1 rfl) ?_
      refine lv_ifnull hx hb dX6_copy_21 ?_
      refine lv_aload hx hb dX6_copy_24 (lv_at hl 0 rfl) ?_
      refine lv_ifnonnull (tgt := 31) hx hb dX6_copy_26 (by decide) ?_
      refine lv_aload hx hb dX6_copy_31 (lv_at hl 1 rfl) ?_
      have hPc := hP.sub (ws' := [(so, .inr (4, [.ref co, .int ln, .int le]))]) [2] rfl
      refine vp_callSi (va_Run.run (va_runV (As := []) (rest := []) ⟨hx, hb, hml, hown, hts⟩ (c_X4_isNothing l D cI cO so co ln le) (cwV 0 hts gX6_copy_X4_isNothing rfl rfl rfl (by decide +kernel) ⟨Nat.le_of_ble_eq_true rfl, Nat.le_of_ble_eq_true rfl⟩) (preVR hPc hK hNw (va_recv hK hPc (ci := 4) (q0 := 0) rfl rfl)) rfl rfl hl.1 rfl (lv_room (Nat.le_of_ble_eq_true rfl)) dX6_copy_33 ⟨Nat.zero_le _, Nat.zero_le _⟩)) (fun r33 w33 => ?_)
      by_cases b33 : le = -1
      · -- y33
        obtain rfl := w33.1 b33
        refine lv_if_ne (tgt := 47) hx hb dX6_copy_36 (by decide) (fun _ => ?_) (fun h => absurd h (by decide))
        refine lv_aload_n hx hb dX6_copy_47 rfl (lv_at hl 2 rfl) ?_
        refine lv_iconst (v := 1) hx hb dX6_copy_48 (by decide) ?_
        have hPc := hP.sub (ws' := [(h, .inr (6, [.ref aS, .ref pe, .ref tq, .ref se, .ref mo, .ref re, .int bar, .int tr, .int 0]))]) [0] rfl
        have hDc := hD.sub (ws' := [(h, .inr (6, [.ref aS, .ref pe, .ref tq, .ref se, .ref mo, .ref re, .int bar, .int tr, .int 0]))]) [0] (by decide) rfl
        have hFc := va_free (wc := [(h, .inr (6, [.ref aS, .ref pe, .ref tq, .ref se, .ref mo, .ref re, .int bar, .int tr, .int 0]))]) hD hS hA [0] rfl
        refine va_calli (va_runV (As := [.int 1]) (rest := []) ⟨hx, hb, hml, hown, hts⟩ (c_X6_cameTo l D cI cO h aS pe tq se mo re bar tr 0 1 _) (cwV 1 hts gX6_copy_X6_cameTo rfl rfl rfl (by decide +kernel) ⟨Nat.le_of_ble_eq_true rfl, Nat.le_of_ble_eq_true rfl⟩) (preVW hPc hK hNw hDc (va_recv hK hPc (ci := 6) (q0 := 0) rfl rfl)) rfl rfl hl.1 rfl (lv_room (Nat.le_of_ble_eq_true rfl)) dX6_copy_49 ⟨Nat.zero_le _, Nat.zero_le _⟩) hS (fun q _ h => hFc q h) hFc (fun r49 u t H1 locs ht hvm w49 hB hz1 hk1 hS => ?_)
        obtain ⟨hP1, hK1, hD1⟩ := hB
        rw [ht] at hP1
        try dsimp only at w49
        obtain ⟨hP, hD⟩ := va_join (wr := [(aS, .inl (cO, 4, .inr (.inr (.inr (.inr g))))), (so, .inr (4, [.ref co, .int ln, .int le])), (co, .inl (cI, 60, .inl f)), (so2, .inr (4, [.ref co2, .int ln2, .int le2])), (co2, .inl (cI, 60, .inl f2))]) (w1 := [(h, .inr (6, [.ref aS, .ref pe, .ref tq, .ref se, .ref mo, .ref re, .int bar, .int tr, .int 1]))]) hP hD [0] [1, 2, 3, 4, 5] rfl rfl (by decide) (by decide) hk1 hFc hP1 hD1
        generalize H1 = H at hP hS ⊢
        have hP := hP.sub (ws' := [(h, .inr (6, [.ref aS, .ref pe, .ref tq, .ref se, .ref mo, .ref re, .int bar, .int tr, .int 1])), (aS, .inl (cO, 4, .inr (.inr (.inr (.inr g))))), (so, .inr (4, [.ref co, .int ln, .int le])), (co, .inl (cI, 60, .inl f)), (so2, .inr (4, [.ref co2, .int ln2, .int le2])), (co2, .inl (cI, 60, .inl f2))]) [5, 0, 1, 2, 3, 4] rfl
        have hD := hD.sub (ws' := [(h, .inr (6, [.ref aS, .ref pe, .ref tq, .ref se, .ref mo, .ref re, .int bar, .int tr, .int 1])), (aS, .inl (cO, 4, .inr (.inr (.inr (.inr g))))), (so, .inr (4, [.ref co, .int ln, .int le])), (co, .inl (cI, 60, .inl f)), (so2, .inr (4, [.ref co2, .int ln2, .int le2])), (co2, .inl (cI, 60, .inl f2))]) [5, 0, 1, 2, 3, 4] (by decide) rfl
        obtain rfl := w49
        exact W.iret (v := -10 - 1) hx hb hr (fun t ht hW => ⟨⟨_, (1, f2), rfl, by first | (simp only [onKK, onK_out hk]; simp; done) | (simp only [onKK, onK_in hk, onK_out hk2]; simp; done) | (simp only [onKK, onK_in hk, onK_in hk2]; simp [cpyR, cpyA, cpyF, *]; done) | (simp only [onKK, onK_in hk, onK_in hk2]; simp [cpyR, cpyA, cpyF, b33, b41, c63, c80, c92, ca, ca1, ck]; done) | (simp only [onKK, onK_in hk, onK_in hk2]; simp [cpyR, cpyA, cpyF, b33, b41, c80, c92, ca, ca1, ck]; done), by rw [ht]; exact hP, va_K.moved hW.alike hK, hD⟩, hS.F ht⟩) hS.2.2 dX6_copy_52
      · -- n33
        obtain rfl := w33.2 b33
        refine lv_if_ne (tgt := 47) hx hb dX6_copy_36 (by decide) (fun h => absurd (by decide) h) (fun _ => ?_)
        refine lv_aload hx hb dX6_copy_39 (lv_at hl 0 rfl) ?_
        have hPc := hP.sub (ws' := [(so2, .inr (4, [.ref co2, .int ln2, .int le2]))]) [4] rfl
        refine vp_callSi (va_Run.run (va_runV (As := []) (rest := []) ⟨hx, hb, hml, hown, hts⟩ (c_X4_isNothing l D cI cO so2 co2 ln2 le2) (cwV 0 hts gX6_copy_X4_isNothing rfl rfl rfl (by decide +kernel) ⟨Nat.le_of_ble_eq_true rfl, Nat.le_of_ble_eq_true rfl⟩) (preVR hPc hK hNw (va_recv hK hPc (ci := 4) (q0 := 0) rfl rfl)) rfl rfl hl.1 rfl (lv_room (Nat.le_of_ble_eq_true rfl)) dX6_copy_41 ⟨Nat.zero_le _, Nat.zero_le _⟩)) (fun r41 w41 => ?_)
        by_cases b41 : le2 = -1
        · -- y41
          obtain rfl := w41.1 b41
          refine lv_if_eq (tgt := 53) hx hb dX6_copy_44 (by decide) (fun h => absurd h (by decide)) (fun _ => ?_)
          refine lv_aload_n hx hb dX6_copy_47 rfl (lv_at hl 2 rfl) ?_
          refine lv_iconst (v := 1) hx hb dX6_copy_48 (by decide) ?_
          have hPc := hP.sub (ws' := [(h, .inr (6, [.ref aS, .ref pe, .ref tq, .ref se, .ref mo, .ref re, .int bar, .int tr, .int 0]))]) [0] rfl
          have hDc := hD.sub (ws' := [(h, .inr (6, [.ref aS, .ref pe, .ref tq, .ref se, .ref mo, .ref re, .int bar, .int tr, .int 0]))]) [0] (by decide) rfl
          have hFc := va_free (wc := [(h, .inr (6, [.ref aS, .ref pe, .ref tq, .ref se, .ref mo, .ref re, .int bar, .int tr, .int 0]))]) hD hS hA [0] rfl
          refine va_calli (va_runV (As := [.int 1]) (rest := []) ⟨hx, hb, hml, hown, hts⟩ (c_X6_cameTo l D cI cO h aS pe tq se mo re bar tr 0 1 _) (cwV 1 hts gX6_copy_X6_cameTo rfl rfl rfl (by decide +kernel) ⟨Nat.le_of_ble_eq_true rfl, Nat.le_of_ble_eq_true rfl⟩) (preVW hPc hK hNw hDc (va_recv hK hPc (ci := 6) (q0 := 0) rfl rfl)) rfl rfl hl.1 rfl (lv_room (Nat.le_of_ble_eq_true rfl)) dX6_copy_49 ⟨Nat.zero_le _, Nat.zero_le _⟩) hS (fun q _ h => hFc q h) hFc (fun r49 u t H1 locs ht hvm w49 hB hz1 hk1 hS => ?_)
          obtain ⟨hP1, hK1, hD1⟩ := hB
          rw [ht] at hP1
          try dsimp only at w49
          obtain ⟨hP, hD⟩ := va_join (wr := [(aS, .inl (cO, 4, .inr (.inr (.inr (.inr g))))), (so, .inr (4, [.ref co, .int ln, .int le])), (co, .inl (cI, 60, .inl f)), (so2, .inr (4, [.ref co2, .int ln2, .int le2])), (co2, .inl (cI, 60, .inl f2))]) (w1 := [(h, .inr (6, [.ref aS, .ref pe, .ref tq, .ref se, .ref mo, .ref re, .int bar, .int tr, .int 1]))]) hP hD [0] [1, 2, 3, 4, 5] rfl rfl (by decide) (by decide) hk1 hFc hP1 hD1
          generalize H1 = H at hP hS ⊢
          have hP := hP.sub (ws' := [(h, .inr (6, [.ref aS, .ref pe, .ref tq, .ref se, .ref mo, .ref re, .int bar, .int tr, .int 1])), (aS, .inl (cO, 4, .inr (.inr (.inr (.inr g))))), (so, .inr (4, [.ref co, .int ln, .int le])), (co, .inl (cI, 60, .inl f)), (so2, .inr (4, [.ref co2, .int ln2, .int le2])), (co2, .inl (cI, 60, .inl f2))]) [5, 0, 1, 2, 3, 4] rfl
          have hD := hD.sub (ws' := [(h, .inr (6, [.ref aS, .ref pe, .ref tq, .ref se, .ref mo, .ref re, .int bar, .int tr, .int 1])), (aS, .inl (cO, 4, .inr (.inr (.inr (.inr g))))), (so, .inr (4, [.ref co, .int ln, .int le])), (co, .inl (cI, 60, .inl f)), (so2, .inr (4, [.ref co2, .int ln2, .int le2])), (co2, .inl (cI, 60, .inl f2))]) [5, 0, 1, 2, 3, 4] (by decide) rfl
          obtain rfl := w49
          exact W.iret (v := -10 - 1) hx hb hr (fun t ht hW => ⟨⟨_, (1, f2), rfl, by first | (simp only [onKK, onK_out hk]; simp; done) | (simp only [onKK, onK_in hk, onK_out hk2]; simp; done) | (simp only [onKK, onK_in hk, onK_in hk2]; simp [cpyR, cpyA, cpyF, *]; done) | (simp only [onKK, onK_in hk, onK_in hk2]; simp [cpyR, cpyA, cpyF, b33, b41, c63, c80, c92, ca, ca1, ck]; done) | (simp only [onKK, onK_in hk, onK_in hk2]; simp [cpyR, cpyA, cpyF, b33, b41, c80, c92, ca, ca1, ck]; done), by rw [ht]; exact hP, va_K.moved hW.alike hK, hD⟩, hS.F ht⟩) hS.2.2 dX6_copy_52
        · -- n41
          obtain rfl := w41.2 b41
          refine lv_if_eq (tgt := 53) hx hb dX6_copy_44 (by decide) (fun _ => ?_) (fun h => absurd (by decide) h)
          refine lv_aload hx hb dX6_copy_53 (lv_at hl 1 rfl) ?_
          refine va_getN (D := D) (ci := 4) (v := .int ln) (C := RX4) (T := TX4) (N := 3) hx hb hts iX4 hown hK hP 2 rfl rfl 1 (by decide) f242 (fun _ h9 => h9) rfl dX6_copy_55 ?_
          refine lv_aload hx hb dX6_copy_58 (lv_at hl 0 rfl) ?_
          refine va_getN (D := D) (ci := 4) (v := .int ln2) (C := RX4) (T := TX4) (N := 3) hx hb hts iX4 hown hK hP 4 rfl rfl 1 (by decide) f242 (fun _ h9 => h9) rfl dX6_copy_60 ?_
          refine lv_icmp_eq (tgt := 72) hx hb dX6_copy_63 (by decide) (fun c63 => ?_) (fun c63 => ?_)
          · -- t63
            refine lv_aload hx hb dX6_copy_72 (lv_at hl 1 rfl) ?_
            refine lv_iload_n hx hb dX6_copy_74 rfl (lv_at hl 4 rfl) ?_
            refine lv_iload hx hb dX6_copy_75 (lv_at hl 7 rfl) ?_
            have hPc := hP.sub (ws' := [(so, .inr (4, [.ref co, .int ln, .int le]))]) [2] rfl
            refine vp_callSi (va_Run.run (va_runV (As := [.int i, .int v]) (rest := []) ⟨hx, hb, hml, hown, hts⟩ (c_X4_faultOfCells l D cI cO so co ln le i v) (cwV 2 hts gX6_copy_X4_faultOfCells rfl rfl rfl (by decide +kernel) ⟨Nat.le_of_ble_eq_true rfl, Nat.le_of_ble_eq_true rfl⟩) (preVR hPc hK hNw (va_recv hK hPc (ci := 4) (q0 := 0) rfl rfl)) rfl rfl hl.1 rfl (lv_room (Nat.le_of_ble_eq_true rfl)) dX6_copy_77 ⟨Nat.zero_le _, Nat.zero_le _⟩)) (fun r77 w77 => ?_)
            obtain rfl := w77
            refine lv_if_ne (tgt := 95) hx hb dX6_copy_80 (by decide) (fun c80 => ?_) (fun c80 => ?_)
            · -- t80
              refine lv_aload_n hx hb dX6_copy_95 rfl (lv_at hl 2 rfl) ?_
              refine lv_iconst (v := 3) hx hb dX6_copy_96 (by decide) ?_
              have hPc := hP.sub (ws' := [(h, .inr (6, [.ref aS, .ref pe, .ref tq, .ref se, .ref mo, .ref re, .int bar, .int tr, .int 0]))]) [0] rfl
              have hDc := hD.sub (ws' := [(h, .inr (6, [.ref aS, .ref pe, .ref tq, .ref se, .ref mo, .ref re, .int bar, .int tr, .int 0]))]) [0] (by decide) rfl
              have hFc := va_free (wc := [(h, .inr (6, [.ref aS, .ref pe, .ref tq, .ref se, .ref mo, .ref re, .int bar, .int tr, .int 0]))]) hD hS hA [0] rfl
              refine va_calli (va_runV (As := [.int 3]) (rest := []) ⟨hx, hb, hml, hown, hts⟩ (c_X6_cameTo l D cI cO h aS pe tq se mo re bar tr 0 3 _) (cwV 1 hts gX6_copy_X6_cameTo rfl rfl rfl (by decide +kernel) ⟨Nat.le_of_ble_eq_true rfl, Nat.le_of_ble_eq_true rfl⟩) (preVW hPc hK hNw hDc (va_recv hK hPc (ci := 6) (q0 := 0) rfl rfl)) rfl rfl hl.1 rfl (lv_room (Nat.le_of_ble_eq_true rfl)) dX6_copy_97 ⟨Nat.zero_le _, Nat.zero_le _⟩) hS (fun q _ h => hFc q h) hFc (fun r97 u t H1 locs ht hvm w97 hB hz1 hk1 hS => ?_)
              obtain ⟨hP1, hK1, hD1⟩ := hB
              rw [ht] at hP1
              try dsimp only at w97
              obtain ⟨hP, hD⟩ := va_join (wr := [(aS, .inl (cO, 4, .inr (.inr (.inr (.inr g))))), (so, .inr (4, [.ref co, .int ln, .int le])), (co, .inl (cI, 60, .inl f)), (so2, .inr (4, [.ref co2, .int ln2, .int le2])), (co2, .inl (cI, 60, .inl f2))]) (w1 := [(h, .inr (6, [.ref aS, .ref pe, .ref tq, .ref se, .ref mo, .ref re, .int bar, .int tr, .int 3]))]) hP hD [0] [1, 2, 3, 4, 5] rfl rfl (by decide) (by decide) hk1 hFc hP1 hD1
              generalize H1 = H at hP hS ⊢
              have hP := hP.sub (ws' := [(h, .inr (6, [.ref aS, .ref pe, .ref tq, .ref se, .ref mo, .ref re, .int bar, .int tr, .int 3])), (aS, .inl (cO, 4, .inr (.inr (.inr (.inr g))))), (so, .inr (4, [.ref co, .int ln, .int le])), (co, .inl (cI, 60, .inl f)), (so2, .inr (4, [.ref co2, .int ln2, .int le2])), (co2, .inl (cI, 60, .inl f2))]) [5, 0, 1, 2, 3, 4] rfl
              have hD := hD.sub (ws' := [(h, .inr (6, [.ref aS, .ref pe, .ref tq, .ref se, .ref mo, .ref re, .int bar, .int tr, .int 3])), (aS, .inl (cO, 4, .inr (.inr (.inr (.inr g))))), (so, .inr (4, [.ref co, .int ln, .int le])), (co, .inl (cI, 60, .inl f)), (so2, .inr (4, [.ref co2, .int ln2, .int le2])), (co2, .inl (cI, 60, .inl f2))]) [5, 0, 1, 2, 3, 4] (by decide) rfl
              obtain rfl := w97
              exact W.iret (v := -10 - 3) hx hb hr (fun t ht hW => ⟨⟨_, (3, f2), rfl, by first | (simp only [onKK, onK_out hk]; simp; done) | (simp only [onKK, onK_in hk, onK_out hk2]; simp; done) | (simp only [onKK, onK_in hk, onK_in hk2]; simp [cpyR, cpyA, cpyF, *]; done) | (simp only [onKK, onK_in hk, onK_in hk2]; simp [cpyR, cpyA, cpyF, b33, b41, c63, c80, c92, ca, ca1, ck]; done) | (simp only [onKK, onK_in hk, onK_in hk2]; simp [cpyR, cpyA, cpyF, b33, b41, c80, c92, ca, ca1, ck]; done), by rw [ht]; exact hP, va_K.moved hW.alike hK, hD⟩, hS.F ht⟩) hS.2.2 dX6_copy_100
            · -- f80
              refine lv_aload hx hb dX6_copy_83 (lv_at hl 0 rfl) ?_
              refine lv_iload hx hb dX6_copy_85 (lv_at hl 6 rfl) ?_
              refine lv_iload hx hb dX6_copy_87 (lv_at hl 7 rfl) ?_
              have hPc := hP.sub (ws' := [(so2, .inr (4, [.ref co2, .int ln2, .int le2]))]) [4] rfl
              refine vp_callSi (va_Run.run (va_runV (As := [.int j, .int v]) (rest := []) ⟨hx, hb, hml, hown, hts⟩ (c_X4_faultOfCells l D cI cO so2 co2 ln2 le2 j v) (cwV 2 hts gX6_copy_X4_faultOfCells rfl rfl rfl (by decide +kernel) ⟨Nat.le_of_ble_eq_true rfl, Nat.le_of_ble_eq_true rfl⟩) (preVR hPc hK hNw (va_recv hK hPc (ci := 4) (q0 := 0) rfl rfl)) rfl rfl hl.1 rfl (lv_room (Nat.le_of_ble_eq_true rfl)) dX6_copy_89 ⟨Nat.zero_le _, Nat.zero_le _⟩)) (fun r89 w89 => ?_)
              obtain rfl := w89
              refine lv_if_eq (tgt := 101) hx hb dX6_copy_92 (by decide) (fun c92 => ?_) (fun c92 => ?_)
              · -- t92
                obtain ⟨L, hL, rfl⟩ := hle.resolve_left b33
                obtain ⟨L2, hL2, rfl⟩ := hle2.resolve_left b41
                obtain ⟨a0, k, rfl, rfl, hak⟩ := foc0 hL c80
                obtain ⟨a1, k1, rfl, ek1, hak1⟩ := foc0 hL2 c92
                have ek : k = k1 := (nI_eq (by omega) (by omega)).mp ek1
                have ca := nI_clamp (n := a0) (by omega)
                have ca1 := nI_clamp (n := a1) (by omega)
                have ck := nI_clamp (n := k) (by omega)
                refine lv_aload hx hb dX6_copy_101 (lv_at hl 1 rfl) ?_
                refine va_getN (D := D) (ci := 4) (v := .ref co) (C := RX4) (T := TX4) (N := 3) hx hb hts iX4 hown hK hP 2 rfl rfl 0 (by decide) f245 (fun _ h9 => h9) rfl dX6_copy_103 ?_
                refine lv_iload_n hx hb dX6_copy_106 rfl (lv_at hl 4 rfl) ?_
                refine lv_aload hx hb dX6_copy_107 (lv_at hl 0 rfl) ?_
                refine va_getN (D := D) (ci := 4) (v := .ref co2) (C := RX4) (T := TX4) (N := 3) hx hb hts iX4 hown hK hP 4 rfl rfl 0 (by decide) f245 (fun _ h9 => h9) rfl dX6_copy_109 ?_
                refine lv_iload hx hb dX6_copy_112 (lv_at hl 6 rfl) ?_
                refine lv_iload hx hb dX6_copy_114 (lv_at hl 7 rfl) ?_
                refine va_copyi hx hb (hml.trans hl.1.symm) hown (hts (.methodLink RX6 249 arraycopyName) (by decide +kernel)) (hts (.native arraycopyName) (by decide +kernel)) (hts (.static arraycopyName) (by decide +kernel)) (hts (.initialized "java/lang/System") (by decide +kernel)) hK hP hD hS 3 5 0 0 rfl rfl rfl rfl rfl (nI_pos (by omega)) (nI_pos (by omega)) (nI_pos (by omega)) (by rw [nI_clamp (n := a0) (by omega), nI_clamp (n := k) (by omega)]; omega) (by rw [nI_clamp (n := a1) (by omega), nI_clamp (n := k) (by omega)]; omega) (fun _ _ => rfl) (Nat.le_of_ble_eq_true rfl) (by decide +kernel) dX6_copy_116 (fun H locs hP hD hS => ?_)
                rw [nI_clamp (n := a0) (by omega), nI_clamp (n := a1) (by omega), nI_clamp (n := k) (by omega)] at hP hD
                have hP : va_P D vwCl [(h, .inr (6, [.ref aS, .ref pe, .ref tq, .ref se, .ref mo, .ref re, .int bar, .int tr, .int 0])), (aS, .inl (cO, 4, .inr (.inr (.inr (.inr g))))), (so, .inr (4, [.ref co, .int ln, .int (nI L)])), (co, .inl (cI, 60, .inl f)), (so2, .inr (4, [.ref co2, .int ln2, .int (nI L2)])), (co2, .inl (cI, 60, .inl (va_cpy f f2 a0 a1 k)))] H := hP
                have hD : va_D A [(h, .inr (6, [.ref aS, .ref pe, .ref tq, .ref se, .ref mo, .ref re, .int bar, .int tr, .int 0])), (aS, .inl (cO, 4, .inr (.inr (.inr (.inr g))))), (so, .inr (4, [.ref co, .int ln, .int (nI L)])), (co, .inl (cI, 60, .inl f)), (so2, .inr (4, [.ref co2, .int ln2, .int (nI L2)])), (co2, .inl (cI, 60, .inl (va_cpy f f2 a0 a1 k)))] := hD
                refine lv_iload hx hb dX6_copy_119 (lv_at hl 7 rfl) ?_
                exact W.iret (v := (nI k)) hx hb hr (fun t ht hW => ⟨⟨_, (0, va_cpy f f2 a0 a1 k), rfl, by first | (simp only [onKK, onK_out hk]; simp; done) | (simp only [onKK, onK_in hk, onK_out hk2]; simp; done) | (simp only [onKK, onK_in hk, onK_in hk2]; simp [cpyR, cpyA, cpyF, *]; done) | (simp only [onKK, onK_in hk, onK_in hk2]; simp [cpyR, cpyA, cpyF, b33, b41, c63, c80, c92, ca, ca1, ck]; done) | (simp only [onKK, onK_in hk, onK_in hk2]; simp [cpyR, cpyA, cpyF, b33, b41, c80, c92, ca, ca1, ck]; done), by rw [ht]; exact hP, va_K.moved hW.alike hK, hD⟩, hS.F ht⟩) hS.2.2 dX6_copy_121
              · -- f92
                refine lv_aload_n hx hb dX6_copy_95 rfl (lv_at hl 2 rfl) ?_
                refine lv_iconst (v := 3) hx hb dX6_copy_96 (by decide) ?_
                have hPc := hP.sub (ws' := [(h, .inr (6, [.ref aS, .ref pe, .ref tq, .ref se, .ref mo, .ref re, .int bar, .int tr, .int 0]))]) [0] rfl
                have hDc := hD.sub (ws' := [(h, .inr (6, [.ref aS, .ref pe, .ref tq, .ref se, .ref mo, .ref re, .int bar, .int tr, .int 0]))]) [0] (by decide) rfl
                have hFc := va_free (wc := [(h, .inr (6, [.ref aS, .ref pe, .ref tq, .ref se, .ref mo, .ref re, .int bar, .int tr, .int 0]))]) hD hS hA [0] rfl
                refine va_calli (va_runV (As := [.int 3]) (rest := []) ⟨hx, hb, hml, hown, hts⟩ (c_X6_cameTo l D cI cO h aS pe tq se mo re bar tr 0 3 _) (cwV 1 hts gX6_copy_X6_cameTo rfl rfl rfl (by decide +kernel) ⟨Nat.le_of_ble_eq_true rfl, Nat.le_of_ble_eq_true rfl⟩) (preVW hPc hK hNw hDc (va_recv hK hPc (ci := 6) (q0 := 0) rfl rfl)) rfl rfl hl.1 rfl (lv_room (Nat.le_of_ble_eq_true rfl)) dX6_copy_97 ⟨Nat.zero_le _, Nat.zero_le _⟩) hS (fun q _ h => hFc q h) hFc (fun r97 u t H1 locs ht hvm w97 hB hz1 hk1 hS => ?_)
                obtain ⟨hP1, hK1, hD1⟩ := hB
                rw [ht] at hP1
                try dsimp only at w97
                obtain ⟨hP, hD⟩ := va_join (wr := [(aS, .inl (cO, 4, .inr (.inr (.inr (.inr g))))), (so, .inr (4, [.ref co, .int ln, .int le])), (co, .inl (cI, 60, .inl f)), (so2, .inr (4, [.ref co2, .int ln2, .int le2])), (co2, .inl (cI, 60, .inl f2))]) (w1 := [(h, .inr (6, [.ref aS, .ref pe, .ref tq, .ref se, .ref mo, .ref re, .int bar, .int tr, .int 3]))]) hP hD [0] [1, 2, 3, 4, 5] rfl rfl (by decide) (by decide) hk1 hFc hP1 hD1
                generalize H1 = H at hP hS ⊢
                have hP := hP.sub (ws' := [(h, .inr (6, [.ref aS, .ref pe, .ref tq, .ref se, .ref mo, .ref re, .int bar, .int tr, .int 3])), (aS, .inl (cO, 4, .inr (.inr (.inr (.inr g))))), (so, .inr (4, [.ref co, .int ln, .int le])), (co, .inl (cI, 60, .inl f)), (so2, .inr (4, [.ref co2, .int ln2, .int le2])), (co2, .inl (cI, 60, .inl f2))]) [5, 0, 1, 2, 3, 4] rfl
                have hD := hD.sub (ws' := [(h, .inr (6, [.ref aS, .ref pe, .ref tq, .ref se, .ref mo, .ref re, .int bar, .int tr, .int 3])), (aS, .inl (cO, 4, .inr (.inr (.inr (.inr g))))), (so, .inr (4, [.ref co, .int ln, .int le])), (co, .inl (cI, 60, .inl f)), (so2, .inr (4, [.ref co2, .int ln2, .int le2])), (co2, .inl (cI, 60, .inl f2))]) [5, 0, 1, 2, 3, 4] (by decide) rfl
                obtain rfl := w97
                exact W.iret (v := -10 - 3) hx hb hr (fun t ht hW => ⟨⟨_, (3, f2), rfl, by first | (simp only [onKK, onK_out hk]; simp; done) | (simp only [onKK, onK_in hk, onK_out hk2]; simp; done) | (simp only [onKK, onK_in hk, onK_in hk2]; simp [cpyR, cpyA, cpyF, *]; done) | (simp only [onKK, onK_in hk, onK_in hk2]; simp [cpyR, cpyA, cpyF, b33, b41, c63, c80, c92, ca, ca1, ck]; done) | (simp only [onKK, onK_in hk, onK_in hk2]; simp [cpyR, cpyA, cpyF, b33, b41, c80, c92, ca, ca1, ck]; done), by rw [ht]; exact hP, va_K.moved hW.alike hK, hD⟩, hS.F ht⟩) hS.2.2 dX6_copy_100
          · -- f63
            refine lv_aload_n hx hb dX6_copy_66 rfl (lv_at hl 2 rfl) ?_
            refine lv_iconst (v := 2) hx hb dX6_copy_67 (by decide) ?_
            have hPc := hP.sub (ws' := [(h, .inr (6, [.ref aS, .ref pe, .ref tq, .ref se, .ref mo, .ref re, .int bar, .int tr, .int 0]))]) [0] rfl
            have hDc := hD.sub (ws' := [(h, .inr (6, [.ref aS, .ref pe, .ref tq, .ref se, .ref mo, .ref re, .int bar, .int tr, .int 0]))]) [0] (by decide) rfl
            have hFc := va_free (wc := [(h, .inr (6, [.ref aS, .ref pe, .ref tq, .ref se, .ref mo, .ref re, .int bar, .int tr, .int 0]))]) hD hS hA [0] rfl
            refine va_calli (va_runV (As := [.int 2]) (rest := []) ⟨hx, hb, hml, hown, hts⟩ (c_X6_cameTo l D cI cO h aS pe tq se mo re bar tr 0 2 _) (cwV 1 hts gX6_copy_X6_cameTo rfl rfl rfl (by decide +kernel) ⟨Nat.le_of_ble_eq_true rfl, Nat.le_of_ble_eq_true rfl⟩) (preVW hPc hK hNw hDc (va_recv hK hPc (ci := 6) (q0 := 0) rfl rfl)) rfl rfl hl.1 rfl (lv_room (Nat.le_of_ble_eq_true rfl)) dX6_copy_68 ⟨Nat.zero_le _, Nat.zero_le _⟩) hS (fun q _ h => hFc q h) hFc (fun r68 u t H1 locs ht hvm w68 hB hz1 hk1 hS => ?_)
            obtain ⟨hP1, hK1, hD1⟩ := hB
            rw [ht] at hP1
            try dsimp only at w68
            obtain ⟨hP, hD⟩ := va_join (wr := [(aS, .inl (cO, 4, .inr (.inr (.inr (.inr g))))), (so, .inr (4, [.ref co, .int ln, .int le])), (co, .inl (cI, 60, .inl f)), (so2, .inr (4, [.ref co2, .int ln2, .int le2])), (co2, .inl (cI, 60, .inl f2))]) (w1 := [(h, .inr (6, [.ref aS, .ref pe, .ref tq, .ref se, .ref mo, .ref re, .int bar, .int tr, .int 2]))]) hP hD [0] [1, 2, 3, 4, 5] rfl rfl (by decide) (by decide) hk1 hFc hP1 hD1
            generalize H1 = H at hP hS ⊢
            have hP := hP.sub (ws' := [(h, .inr (6, [.ref aS, .ref pe, .ref tq, .ref se, .ref mo, .ref re, .int bar, .int tr, .int 2])), (aS, .inl (cO, 4, .inr (.inr (.inr (.inr g))))), (so, .inr (4, [.ref co, .int ln, .int le])), (co, .inl (cI, 60, .inl f)), (so2, .inr (4, [.ref co2, .int ln2, .int le2])), (co2, .inl (cI, 60, .inl f2))]) [5, 0, 1, 2, 3, 4] rfl
            have hD := hD.sub (ws' := [(h, .inr (6, [.ref aS, .ref pe, .ref tq, .ref se, .ref mo, .ref re, .int bar, .int tr, .int 2])), (aS, .inl (cO, 4, .inr (.inr (.inr (.inr g))))), (so, .inr (4, [.ref co, .int ln, .int le])), (co, .inl (cI, 60, .inl f)), (so2, .inr (4, [.ref co2, .int ln2, .int le2])), (co2, .inl (cI, 60, .inl f2))]) [5, 0, 1, 2, 3, 4] (by decide) rfl
            obtain rfl := w68
            exact W.iret (v := -10 - 2) hx hb hr (fun t ht hW => ⟨⟨_, (2, f2), rfl, by first | (simp only [onKK, onK_out hk]; simp; done) | (simp only [onKK, onK_in hk, onK_out hk2]; simp; done) | (simp only [onKK, onK_in hk, onK_in hk2]; simp [cpyR, cpyA, cpyF, *]; done) | (simp only [onKK, onK_in hk, onK_in hk2]; simp [cpyR, cpyA, cpyF, b33, b41, c63, c80, c92, ca, ca1, ck]; done) | (simp only [onKK, onK_in hk, onK_in hk2]; simp [cpyR, cpyA, cpyF, b33, b41, c80, c92, ca, ca1, ck]; done), by rw [ht]; exact hP, va_K.moved hW.alike hK, hD⟩, hS.F ht⟩) hS.2.2 dX6_copy_71
    · -- none such
      refine tp_v (y := .null) (by rw [shI_out hk2]; rfl) ?_
      refine lv_astoreN (lv' := [(7, .null), (6, .ref so), (0, .ref h), (1, .int kq), (2, .int i), (3, .int jq), (4, .int j), (5, .int v)]) hx hb dX6_copy_17 hl (by decide) rfl (fun ls hl => ?_)
      refine lv_aload hx hb dX6_copy_19 (lv_at hl 1 rfl) ?_
      refine lv_ifnull hx hb dX6_copy_21 ?_
      refine lv_aloadN hx hb dX6_copy_24 (lv_at hl 0 rfl) ?_
      refine lv_ifnonnullN hx hb dX6_copy_26 ?_
      refine lv_iconst (v := -1) hx hb dX6_copy_29 (by decide) ?_
      exact W.iret (v := -1) hx hb hr (fun t ht hW => ⟨⟨_, (0, f2), rfl, by first | (simp only [onKK, onK_out hk]; simp; done) | (simp only [onKK, onK_in hk, onK_out hk2]; simp; done) | (simp only [onKK, onK_in hk, onK_in hk2]; simp [cpyR, cpyA, cpyF, *]; done) | (simp only [onKK, onK_in hk, onK_in hk2]; simp [cpyR, cpyA, cpyF, b33, b41, c63, c80, c92, ca, ca1, ck]; done) | (simp only [onKK, onK_in hk, onK_in hk2]; simp [cpyR, cpyA, cpyF, b33, b41, c80, c92, ca, ca1, ck]; done), by rw [ht]; exact hP, va_K.moved hW.alike hK, hD⟩, hS.F ht⟩) hS.2.2 dX6_copy_30
  · -- none such
    refine tp_v (y := .null) (by rw [shI_out hk]; rfl) ?_
    refine lv_astoreN (lv' := [(6, .null), (0, .ref h), (1, .int kq), (2, .int i), (3, .int jq), (4, .int j), (5, .int v)]) hx hb dX6_copy_10 hl (by decide) rfl (fun ls hl => ?_)
    refine lv_aload_n hx hb dX6_copy_12 rfl (lv_at hl 1 rfl) ?_
    refine lv_iload_n hx hb dX6_copy_13 rfl (lv_at hl 4 rfl) ?_
    have hPc := hP.sub (ws' := [(h, .inr (6, [.ref aS, .ref pe, .ref tq, .ref se, .ref mo, .ref re, .int bar, .int tr, .int 0])), (aS, .inl (cO, 4, .inr (.inr (.inr (.inr g)))))]) [0, 1] rfl
    refine va_csq (va_Run.run (va_runV (As := [.int jq]) (rest := []) ⟨hx, hb, hml, hown, hts⟩ (c_X6_sheetAt l D cI cO h aS pe tq se mo re bar tr 0 g jq) (cwV 1 hts gX6_copy_X6_sheetAt rfl rfl rfl (by decide +kernel) ⟨Nat.le_of_ble_eq_true rfl, Nat.le_of_ble_eq_true rfl⟩) (preVR hPc hK hNw (va_recv hK hPc (ci := 6) (q0 := 0) rfl rfl)) rfl rfl hl.1 rfl (lv_room (Nat.le_of_ble_eq_true rfl)) dX6_copy_14 ⟨Nat.zero_le _, Nat.zero_le _⟩)) (fun r14 w14 => ?_)
    obtain rfl := w14
    by_cases hk2 : ¬ jq < 0 ∧ jq < 4
    · -- there
      refine tp_v (y := .ref so2) (by rw [shI_in hk2, hg2 hk2.1 hk2.2]; rfl) ?_
      refine lv_astore (lv' := [(7, .ref so2), (6, .null), (0, .ref h), (1, .int kq), (2, .int i), (3, .int jq), (4, .int j), (5, .int v)]) hx hb dX6_copy_17 hl (by decide) rfl (fun ls hl => ?_)
      refine lv_aloadN hx hb dX6_copy_19 (lv_at hl 1 rfl) ?_
      refine lv_ifnullN (tgt := 29) hx hb dX6_copy_21 (by decide) ?_
      refine lv_iconst (v := -1) hx hb dX6_copy_29 (by decide) ?_
      exact W.iret (v := -1) hx hb hr (fun t ht hW => ⟨⟨_, (0, f2), rfl, by first | (simp only [onKK, onK_out hk]; simp; done) | (simp only [onKK, onK_in hk, onK_out hk2]; simp; done) | (simp only [onKK, onK_in hk, onK_in hk2]; simp [cpyR, cpyA, cpyF, *]; done) | (simp only [onKK, onK_in hk, onK_in hk2]; simp [cpyR, cpyA, cpyF, b33, b41, c63, c80, c92, ca, ca1, ck]; done) | (simp only [onKK, onK_in hk, onK_in hk2]; simp [cpyR, cpyA, cpyF, b33, b41, c80, c92, ca, ca1, ck]; done), by rw [ht]; exact hP, va_K.moved hW.alike hK, hD⟩, hS.F ht⟩) hS.2.2 dX6_copy_30
    · -- none such
      refine tp_v (y := .null) (by rw [shI_out hk2]; rfl) ?_
      refine lv_astoreN (lv' := [(7, .null), (6, .null), (0, .ref h), (1, .int kq), (2, .int i), (3, .int jq), (4, .int j), (5, .int v)]) hx hb dX6_copy_17 hl (by decide) rfl (fun ls hl => ?_)
      refine lv_aloadN hx hb dX6_copy_19 (lv_at hl 1 rfl) ?_
      refine lv_ifnullN (tgt := 29) hx hb dX6_copy_21 (by decide) ?_
      refine lv_iconst (v := -1) hx hb dX6_copy_29 (by decide) ?_
      exact W.iret (v := -1) hx hb hr (fun t ht hW => ⟨⟨_, (0, f2), rfl, by first | (simp only [onKK, onK_out hk]; simp; done) | (simp only [onKK, onK_in hk, onK_out hk2]; simp; done) | (simp only [onKK, onK_in hk, onK_in hk2]; simp [cpyR, cpyA, cpyF, *]; done) | (simp only [onKK, onK_in hk, onK_in hk2]; simp [cpyR, cpyA, cpyF, b33, b41, c63, c80, c92, ca, ca1, ck]; done) | (simp only [onKK, onK_in hk, onK_in hk2]; simp [cpyR, cpyA, cpyF, b33, b41, c80, c92, ca, ca1, ck]; done), by rw [ht]; exact hP, va_K.moved hW.alike hK, hD⟩, hS.F ht⟩) hS.2.2 dX6_copy_30

set_option maxHeartbeats 4000000 in
set_option maxRecDepth 100000 in
theorem c_X6_copy_same (l : Launch) (D : va_G) (cI cO : ClassId) (h : Nat) (aS : Nat) (pe : Nat) (tq : Nat) (se : Nat) (mo : Nat) (re : Nat) (bar : Int32) (tr : Int32) (fa : Int32) (g : Nat → Option Nat) (so : Nat) (co : Nat) (ln : Int32) (le : Int32) (f : Nat → Int32) (kq : Int32) (i : Int32) (jq : Int32) (j : Int32) (v : Int32) (sz : Nat) (hg : ¬ kq < 0 → kq < 4 → g kq.toNatClampNeg = some so) (hle : okL le) (hg2 : ¬ jq < 0 → jq < 4 → g jq.toNatClampNeg = some so) : Met l yX6_copy wsX6_copy ({ frames := 1, cells := 0, slots := 0, locals := 60 } : Room) (va_Pc [.ref h, .int kq, .int i, .int jq, .int j, .int v] (wdW D cI cO [(h, .inr (6, [.ref aS, .ref pe, .ref tq, .ref se, .ref mo, .ref re, .int bar, .int tr, .int fa])), (aS, .inl (cO, 4, .inr (.inr (.inr (.inr g))))), (so, .inr (4, [.ref co, .int ln, .int le])), (co, .inl (cI, 60, .inl f))] sz)) (va_Qi (S := Int32 × (Nat → Int32)) (fun r u => r = (onKK kq jq (cpyR le ln le ln i j v) (-1)) ∧ u.1 = (onKK kq jq (cpyA le ln le ln i j v) 0) ∧ u.2 = (onKK kq jq (cpyF le ln le ln i j v f f) f)) (fun u t => va_P D vwCl [(h, .inr (6, [.ref aS, .ref pe, .ref tq, .ref se, .ref mo, .ref re, .int bar, .int tr, .int u.1])), (aS, .inl (cO, 4, .inr (.inr (.inr (.inr g))))), (so, .inr (4, [.ref co, .int ln, .int le])), (co, .inl (cI, 60, .inl u.2))] t.heap ∧ va_K D vwCl (tyL cI cO) t ∧ va_D (va_A [(h, .inr (6, [.ref aS, .ref pe, .ref tq, .ref se, .ref mo, .ref re, .int bar, .int tr, .int fa])), (aS, .inl (cO, 4, .inr (.inr (.inr (.inr g))))), (so, .inr (4, [.ref co, .int ln, .int le])), (co, .inl (cI, 60, .inl f))] sz) [(h, .inr (6, [.ref aS, .ref pe, .ref tq, .ref se, .ref mo, .ref re, .int bar, .int tr, .int u.1])), (aS, .inl (cO, 4, .inr (.inr (.inr (.inr g))))), (so, .inr (4, [.ref co, .int ln, .int le])), (co, .inl (cI, 60, .inl u.2))]) (va_A [(h, .inr (6, [.ref aS, .ref pe, .ref tq, .ref se, .ref mo, .ref re, .int bar, .int tr, .int fa])), (aS, .inl (cO, 4, .inr (.inr (.inr (.inr g))))), (so, .inr (4, [.ref co, .int ln, .int le])), (co, .inl (cI, 60, .inl f))] sz)) 0 0 (va_A [(h, .inr (6, [.ref aS, .ref pe, .ref tq, .ref se, .ref mo, .ref re, .int bar, .int tr, .int fa])), (aS, .inl (cO, 4, .inr (.inr (.inr (.inr g))))), (so, .inr (4, [.ref co, .int ln, .int le])), (co, .inl (cI, 60, .inl f))] sz) := by
  refine Met.ofW (cc := cX6_copy) (maxL := 8) (ret := (some .int)) (by decide) rfl ?_
  intro p e s m args below meth c s₁ B hml hv
  obtain ⟨rfl, hsz, hP, hK, hNw, hD0⟩ := hv
  have hx := B.exec
  have hb := B.bytes
  have hr := B.returns
  have hts := atoms_spec (ws := wsX6_copy) B.pre
  have hown : s.vm.findClass RX6 = some m.cls := findClass_of_methodNamed B.named
  have hlocks := B.notSynchronized
  have f53 := hts (.fieldLink RX6 53 "StruckThrees" "fault" "I") (by decide +kernel)
  have f242 := hNw.f (args := ([.ref h, .int kq, .int i, .int jq, .int j, .int v]).toArray) ("StruckThrees", 242, "StruckThrees$Sheet", "lane", "I") (by decide)
  have f245 := hNw.f (args := ([.ref h, .int kq, .int i, .int jq, .int j, .int v]).toArray) ("StruckThrees", 245, "StruckThrees$Sheet", "cells", "[I") (by decide)
  have iX4 : ∀ w ∈ wsX40, w ∈ wsX6_copy := by decide +kernel
  have iX6 : ∀ w ∈ wsX60, w ∈ wsX6_copy := by decide +kernel
  subst hsz
  have hD := hD0.self (sz := s.heap.size)
  generalize hAe : va_A [(h, .inr (6, [.ref aS, .ref pe, .ref tq, .ref se, .ref mo, .ref re, .int bar, .int tr, .int fa])), (aS, .inl (cO, 4, .inr (.inr (.inr (.inr g))))), (so, .inr (4, [.ref co, .int ln, .int le])), (co, .inl (cI, 60, .inl f))] s.heap.size = A at hD ⊢
  have hA : ∀ q : Nat, s.heap.size ≤ q → A q := fun q h => by rw [← hAe]; exact Or.inr h
  have hS : va_S A s.heap s.heap [] := va_S.rf
  have hP : va_P D vwCl [(h, .inr (6, [.ref aS, .ref pe, .ref tq, .ref se, .ref mo, .ref re, .int bar, .int tr, .int fa])), (aS, .inl (cO, 4, .inr (.inr (.inr (.inr g))))), (so, .inr (4, [.ref co, .int ln, .int le])), (co, .inl (cI, 60, .inl f))] s.heap := hP
  have hl := lv_entry ([.ref h, .int kq, .int i, .int jq, .int j, .int v]) (n := 8) (Nat.le_of_ble_eq_true rfl)
  rw [lg_entry_eq]
  generalize (lg_sl ([.ref h, .int kq, .int i, .int jq, .int j, .int v]) ++ List.replicate (8 - (lg_sl ([.ref h, .int kq, .int i, .int jq, .int j, .int v])).length) Slot.unset).toArray = ls at hl ⊢
  have hl : lv_has ls 8 [(0, .ref h), (1, .int kq), (2, .int i), (3, .int jq), (4, .int j), (5, .int v)] := hl
  refine lv_aload_n hx hb dX6_copy_0 rfl (lv_at hl 0 rfl) ?_
  refine lv_iconst (v := 0) hx hb dX6_copy_1 (by decide) ?_
  refine va_put (D := D) (ci := 6) (v := .int 0) (ty := .int) (C := RX6) (T := TX6) (N := 9) hx hb hts iX6 tyX6 tyX6_ok nmX6 hown hK hP hD hS 0 rfl rfl 8 (by decide) f53 (fun _ h9 => h9) rfl (by decide +kernel) rfl rfl (Nat.le_of_ble_eq_true rfl) dX6_copy_2 (fun H locs hP hD hS => ?_)
  have hP : va_P D vwCl [(h, .inr (6, [.ref aS, .ref pe, .ref tq, .ref se, .ref mo, .ref re, .int bar, .int tr, .int 0])), (aS, .inl (cO, 4, .inr (.inr (.inr (.inr g))))), (so, .inr (4, [.ref co, .int ln, .int le])), (co, .inl (cI, 60, .inl f))] H := hP
  have hD : va_D A [(h, .inr (6, [.ref aS, .ref pe, .ref tq, .ref se, .ref mo, .ref re, .int bar, .int tr, .int 0])), (aS, .inl (cO, 4, .inr (.inr (.inr (.inr g))))), (so, .inr (4, [.ref co, .int ln, .int le])), (co, .inl (cI, 60, .inl f))] := hD
  refine lv_aload_n hx hb dX6_copy_5 rfl (lv_at hl 0 rfl) ?_
  refine lv_iload_n hx hb dX6_copy_6 rfl (lv_at hl 1 rfl) ?_
  have hPc := hP.sub (ws' := [(h, .inr (6, [.ref aS, .ref pe, .ref tq, .ref se, .ref mo, .ref re, .int bar, .int tr, .int 0])), (aS, .inl (cO, 4, .inr (.inr (.inr (.inr g)))))]) [0, 1] rfl
  refine va_csq (va_Run.run (va_runV (As := [.int kq]) (rest := []) ⟨hx, hb, hml, hown, hts⟩ (c_X6_sheetAt l D cI cO h aS pe tq se mo re bar tr 0 g kq) (cwV 1 hts gX6_copy_X6_sheetAt rfl rfl rfl (by decide +kernel) ⟨Nat.le_of_ble_eq_true rfl, Nat.le_of_ble_eq_true rfl⟩) (preVR hPc hK hNw (va_recv hK hPc (ci := 6) (q0 := 0) rfl rfl)) rfl rfl hl.1 rfl (lv_room (Nat.le_of_ble_eq_true rfl)) dX6_copy_7 ⟨Nat.zero_le _, Nat.zero_le _⟩)) (fun r7 w7 => ?_)
  obtain rfl := w7
  by_cases hk : ¬ kq < 0 ∧ kq < 4
  · -- there
    refine tp_v (y := .ref so) (by rw [shI_in hk, hg hk.1 hk.2]; rfl) ?_
    refine lv_astore (lv' := [(6, .ref so), (0, .ref h), (1, .int kq), (2, .int i), (3, .int jq), (4, .int j), (5, .int v)]) hx hb dX6_copy_10 hl (by decide) rfl (fun ls hl => ?_)
    refine lv_aload_n hx hb dX6_copy_12 rfl (lv_at hl 1 rfl) ?_
    refine lv_iload_n hx hb dX6_copy_13 rfl (lv_at hl 4 rfl) ?_
    have hPc := hP.sub (ws' := [(h, .inr (6, [.ref aS, .ref pe, .ref tq, .ref se, .ref mo, .ref re, .int bar, .int tr, .int 0])), (aS, .inl (cO, 4, .inr (.inr (.inr (.inr g)))))]) [0, 1] rfl
    refine va_csq (va_Run.run (va_runV (As := [.int jq]) (rest := []) ⟨hx, hb, hml, hown, hts⟩ (c_X6_sheetAt l D cI cO h aS pe tq se mo re bar tr 0 g jq) (cwV 1 hts gX6_copy_X6_sheetAt rfl rfl rfl (by decide +kernel) ⟨Nat.le_of_ble_eq_true rfl, Nat.le_of_ble_eq_true rfl⟩) (preVR hPc hK hNw (va_recv hK hPc (ci := 6) (q0 := 0) rfl rfl)) rfl rfl hl.1 rfl (lv_room (Nat.le_of_ble_eq_true rfl)) dX6_copy_14 ⟨Nat.zero_le _, Nat.zero_le _⟩)) (fun r14 w14 => ?_)
    obtain rfl := w14
    by_cases hk2 : ¬ jq < 0 ∧ jq < 4
    · -- there
      refine tp_v (y := .ref so) (by rw [shI_in hk2, hg2 hk2.1 hk2.2]; rfl) ?_
      refine lv_astore (lv' := [(7, .ref so), (6, .ref so), (0, .ref h), (1, .int kq), (2, .int i), (3, .int jq), (4, .int j), (5, .int v)]) hx hb dX6_copy_17 hl (by decide) rfl (fun ls hl => ?_)
      refine lv_aload hx hb dX6_copy_19 (lv_at hl 1 rfl) ?_
      refine lv_ifnull hx hb dX6_copy_21 ?_
      refine lv_aload hx hb dX6_copy_24 (lv_at hl 0 rfl) ?_
      refine lv_ifnonnull (tgt := 31) hx hb dX6_copy_26 (by decide) ?_
      refine lv_aload hx hb dX6_copy_31 (lv_at hl 1 rfl) ?_
      have hPc := hP.sub (ws' := [(so, .inr (4, [.ref co, .int ln, .int le]))]) [2] rfl
      refine vp_callSi (va_Run.run (va_runV (As := []) (rest := []) ⟨hx, hb, hml, hown, hts⟩ (c_X4_isNothing l D cI cO so co ln le) (cwV 0 hts gX6_copy_X4_isNothing rfl rfl rfl (by decide +kernel) ⟨Nat.le_of_ble_eq_true rfl, Nat.le_of_ble_eq_true rfl⟩) (preVR hPc hK hNw (va_recv hK hPc (ci := 4) (q0 := 0) rfl rfl)) rfl rfl hl.1 rfl (lv_room (Nat.le_of_ble_eq_true rfl)) dX6_copy_33 ⟨Nat.zero_le _, Nat.zero_le _⟩)) (fun r33 w33 => ?_)
      by_cases b33 : le = -1
      · -- y33
        obtain rfl := w33.1 b33
        refine lv_if_ne (tgt := 47) hx hb dX6_copy_36 (by decide) (fun _ => ?_) (fun h => absurd h (by decide))
        refine lv_aload_n hx hb dX6_copy_47 rfl (lv_at hl 2 rfl) ?_
        refine lv_iconst (v := 1) hx hb dX6_copy_48 (by decide) ?_
        have hPc := hP.sub (ws' := [(h, .inr (6, [.ref aS, .ref pe, .ref tq, .ref se, .ref mo, .ref re, .int bar, .int tr, .int 0]))]) [0] rfl
        have hDc := hD.sub (ws' := [(h, .inr (6, [.ref aS, .ref pe, .ref tq, .ref se, .ref mo, .ref re, .int bar, .int tr, .int 0]))]) [0] (by decide) rfl
        have hFc := va_free (wc := [(h, .inr (6, [.ref aS, .ref pe, .ref tq, .ref se, .ref mo, .ref re, .int bar, .int tr, .int 0]))]) hD hS hA [0] rfl
        refine va_calli (va_runV (As := [.int 1]) (rest := []) ⟨hx, hb, hml, hown, hts⟩ (c_X6_cameTo l D cI cO h aS pe tq se mo re bar tr 0 1 _) (cwV 1 hts gX6_copy_X6_cameTo rfl rfl rfl (by decide +kernel) ⟨Nat.le_of_ble_eq_true rfl, Nat.le_of_ble_eq_true rfl⟩) (preVW hPc hK hNw hDc (va_recv hK hPc (ci := 6) (q0 := 0) rfl rfl)) rfl rfl hl.1 rfl (lv_room (Nat.le_of_ble_eq_true rfl)) dX6_copy_49 ⟨Nat.zero_le _, Nat.zero_le _⟩) hS (fun q _ h => hFc q h) hFc (fun r49 u t H1 locs ht hvm w49 hB hz1 hk1 hS => ?_)
        obtain ⟨hP1, hK1, hD1⟩ := hB
        rw [ht] at hP1
        try dsimp only at w49
        obtain ⟨hP, hD⟩ := va_join (wr := [(aS, .inl (cO, 4, .inr (.inr (.inr (.inr g))))), (so, .inr (4, [.ref co, .int ln, .int le])), (co, .inl (cI, 60, .inl f))]) (w1 := [(h, .inr (6, [.ref aS, .ref pe, .ref tq, .ref se, .ref mo, .ref re, .int bar, .int tr, .int 1]))]) hP hD [0] [1, 2, 3] rfl rfl (by decide) (by decide) hk1 hFc hP1 hD1
        generalize H1 = H at hP hS ⊢
        have hP := hP.sub (ws' := [(h, .inr (6, [.ref aS, .ref pe, .ref tq, .ref se, .ref mo, .ref re, .int bar, .int tr, .int 1])), (aS, .inl (cO, 4, .inr (.inr (.inr (.inr g))))), (so, .inr (4, [.ref co, .int ln, .int le])), (co, .inl (cI, 60, .inl f))]) [3, 0, 1, 2] rfl
        have hD := hD.sub (ws' := [(h, .inr (6, [.ref aS, .ref pe, .ref tq, .ref se, .ref mo, .ref re, .int bar, .int tr, .int 1])), (aS, .inl (cO, 4, .inr (.inr (.inr (.inr g))))), (so, .inr (4, [.ref co, .int ln, .int le])), (co, .inl (cI, 60, .inl f))]) [3, 0, 1, 2] (by decide) rfl
        obtain rfl := w49
        exact W.iret (v := -10 - 1) hx hb hr (fun t ht hW => ⟨⟨_, (1, f), rfl, by first | (simp only [onKK, onK_out hk]; simp; done) | (simp only [onKK, onK_in hk, onK_out hk2]; simp; done) | (simp only [onKK, onK_in hk, onK_in hk2]; simp [cpyR, cpyA, cpyF, *]; done) | (simp only [onKK, onK_in hk, onK_in hk2]; simp [cpyR, cpyA, cpyF, b33, b41, c63, c80, c92, ca, ca1, ck]; done) | (simp only [onKK, onK_in hk, onK_in hk2]; simp [cpyR, cpyA, cpyF, b33, b41, c80, c92, ca, ca1, ck]; done), by rw [ht]; exact hP, va_K.moved hW.alike hK, hD⟩, hS.F ht⟩) hS.2.2 dX6_copy_52
      · -- n33
        obtain rfl := w33.2 b33
        refine lv_if_ne (tgt := 47) hx hb dX6_copy_36 (by decide) (fun h => absurd (by decide) h) (fun _ => ?_)
        refine lv_aload hx hb dX6_copy_39 (lv_at hl 0 rfl) ?_
        have hPc := hP.sub (ws' := [(so, .inr (4, [.ref co, .int ln, .int le]))]) [2] rfl
        refine vp_callSi (va_Run.run (va_runV (As := []) (rest := []) ⟨hx, hb, hml, hown, hts⟩ (c_X4_isNothing l D cI cO so co ln le) (cwV 0 hts gX6_copy_X4_isNothing rfl rfl rfl (by decide +kernel) ⟨Nat.le_of_ble_eq_true rfl, Nat.le_of_ble_eq_true rfl⟩) (preVR hPc hK hNw (va_recv hK hPc (ci := 4) (q0 := 0) rfl rfl)) rfl rfl hl.1 rfl (lv_room (Nat.le_of_ble_eq_true rfl)) dX6_copy_41 ⟨Nat.zero_le _, Nat.zero_le _⟩)) (fun r41 w41 => ?_)
        by_cases b41 : le = -1
        · -- y41
          obtain rfl := w41.1 b41
          exact absurd b41 b33
        · -- n41
          obtain rfl := w41.2 b41
          refine lv_if_eq (tgt := 53) hx hb dX6_copy_44 (by decide) (fun _ => ?_) (fun h => absurd (by decide) h)
          refine lv_aload hx hb dX6_copy_53 (lv_at hl 1 rfl) ?_
          refine va_getN (D := D) (ci := 4) (v := .int ln) (C := RX4) (T := TX4) (N := 3) hx hb hts iX4 hown hK hP 2 rfl rfl 1 (by decide) f242 (fun _ h9 => h9) rfl dX6_copy_55 ?_
          refine lv_aload hx hb dX6_copy_58 (lv_at hl 0 rfl) ?_
          refine va_getN (D := D) (ci := 4) (v := .int ln) (C := RX4) (T := TX4) (N := 3) hx hb hts iX4 hown hK hP 2 rfl rfl 1 (by decide) f242 (fun _ h9 => h9) rfl dX6_copy_60 ?_
          refine lv_icmp_eq (tgt := 72) hx hb dX6_copy_63 (by decide) (fun c63 => ?_) (fun c63 => ?_)
          · -- t63
            refine lv_aload hx hb dX6_copy_72 (lv_at hl 1 rfl) ?_
            refine lv_iload_n hx hb dX6_copy_74 rfl (lv_at hl 4 rfl) ?_
            refine lv_iload hx hb dX6_copy_75 (lv_at hl 7 rfl) ?_
            have hPc := hP.sub (ws' := [(so, .inr (4, [.ref co, .int ln, .int le]))]) [2] rfl
            refine vp_callSi (va_Run.run (va_runV (As := [.int i, .int v]) (rest := []) ⟨hx, hb, hml, hown, hts⟩ (c_X4_faultOfCells l D cI cO so co ln le i v) (cwV 2 hts gX6_copy_X4_faultOfCells rfl rfl rfl (by decide +kernel) ⟨Nat.le_of_ble_eq_true rfl, Nat.le_of_ble_eq_true rfl⟩) (preVR hPc hK hNw (va_recv hK hPc (ci := 4) (q0 := 0) rfl rfl)) rfl rfl hl.1 rfl (lv_room (Nat.le_of_ble_eq_true rfl)) dX6_copy_77 ⟨Nat.zero_le _, Nat.zero_le _⟩)) (fun r77 w77 => ?_)
            obtain rfl := w77
            refine lv_if_ne (tgt := 95) hx hb dX6_copy_80 (by decide) (fun c80 => ?_) (fun c80 => ?_)
            · -- t80
              refine lv_aload_n hx hb dX6_copy_95 rfl (lv_at hl 2 rfl) ?_
              refine lv_iconst (v := 3) hx hb dX6_copy_96 (by decide) ?_
              have hPc := hP.sub (ws' := [(h, .inr (6, [.ref aS, .ref pe, .ref tq, .ref se, .ref mo, .ref re, .int bar, .int tr, .int 0]))]) [0] rfl
              have hDc := hD.sub (ws' := [(h, .inr (6, [.ref aS, .ref pe, .ref tq, .ref se, .ref mo, .ref re, .int bar, .int tr, .int 0]))]) [0] (by decide) rfl
              have hFc := va_free (wc := [(h, .inr (6, [.ref aS, .ref pe, .ref tq, .ref se, .ref mo, .ref re, .int bar, .int tr, .int 0]))]) hD hS hA [0] rfl
              refine va_calli (va_runV (As := [.int 3]) (rest := []) ⟨hx, hb, hml, hown, hts⟩ (c_X6_cameTo l D cI cO h aS pe tq se mo re bar tr 0 3 _) (cwV 1 hts gX6_copy_X6_cameTo rfl rfl rfl (by decide +kernel) ⟨Nat.le_of_ble_eq_true rfl, Nat.le_of_ble_eq_true rfl⟩) (preVW hPc hK hNw hDc (va_recv hK hPc (ci := 6) (q0 := 0) rfl rfl)) rfl rfl hl.1 rfl (lv_room (Nat.le_of_ble_eq_true rfl)) dX6_copy_97 ⟨Nat.zero_le _, Nat.zero_le _⟩) hS (fun q _ h => hFc q h) hFc (fun r97 u t H1 locs ht hvm w97 hB hz1 hk1 hS => ?_)
              obtain ⟨hP1, hK1, hD1⟩ := hB
              rw [ht] at hP1
              try dsimp only at w97
              obtain ⟨hP, hD⟩ := va_join (wr := [(aS, .inl (cO, 4, .inr (.inr (.inr (.inr g))))), (so, .inr (4, [.ref co, .int ln, .int le])), (co, .inl (cI, 60, .inl f))]) (w1 := [(h, .inr (6, [.ref aS, .ref pe, .ref tq, .ref se, .ref mo, .ref re, .int bar, .int tr, .int 3]))]) hP hD [0] [1, 2, 3] rfl rfl (by decide) (by decide) hk1 hFc hP1 hD1
              generalize H1 = H at hP hS ⊢
              have hP := hP.sub (ws' := [(h, .inr (6, [.ref aS, .ref pe, .ref tq, .ref se, .ref mo, .ref re, .int bar, .int tr, .int 3])), (aS, .inl (cO, 4, .inr (.inr (.inr (.inr g))))), (so, .inr (4, [.ref co, .int ln, .int le])), (co, .inl (cI, 60, .inl f))]) [3, 0, 1, 2] rfl
              have hD := hD.sub (ws' := [(h, .inr (6, [.ref aS, .ref pe, .ref tq, .ref se, .ref mo, .ref re, .int bar, .int tr, .int 3])), (aS, .inl (cO, 4, .inr (.inr (.inr (.inr g))))), (so, .inr (4, [.ref co, .int ln, .int le])), (co, .inl (cI, 60, .inl f))]) [3, 0, 1, 2] (by decide) rfl
              obtain rfl := w97
              exact W.iret (v := -10 - 3) hx hb hr (fun t ht hW => ⟨⟨_, (3, f), rfl, by first | (simp only [onKK, onK_out hk]; simp; done) | (simp only [onKK, onK_in hk, onK_out hk2]; simp; done) | (simp only [onKK, onK_in hk, onK_in hk2]; simp [cpyR, cpyA, cpyF, *]; done) | (simp only [onKK, onK_in hk, onK_in hk2]; simp [cpyR, cpyA, cpyF, b33, b41, c63, c80, c92, ca, ca1, ck]; done) | (simp only [onKK, onK_in hk, onK_in hk2]; simp [cpyR, cpyA, cpyF, b33, b41, c80, c92, ca, ca1, ck]; done), by rw [ht]; exact hP, va_K.moved hW.alike hK, hD⟩, hS.F ht⟩) hS.2.2 dX6_copy_100
            · -- f80
              refine lv_aload hx hb dX6_copy_83 (lv_at hl 0 rfl) ?_
              refine lv_iload hx hb dX6_copy_85 (lv_at hl 6 rfl) ?_
              refine lv_iload hx hb dX6_copy_87 (lv_at hl 7 rfl) ?_
              have hPc := hP.sub (ws' := [(so, .inr (4, [.ref co, .int ln, .int le]))]) [2] rfl
              refine vp_callSi (va_Run.run (va_runV (As := [.int j, .int v]) (rest := []) ⟨hx, hb, hml, hown, hts⟩ (c_X4_faultOfCells l D cI cO so co ln le j v) (cwV 2 hts gX6_copy_X4_faultOfCells rfl rfl rfl (by decide +kernel) ⟨Nat.le_of_ble_eq_true rfl, Nat.le_of_ble_eq_true rfl⟩) (preVR hPc hK hNw (va_recv hK hPc (ci := 4) (q0 := 0) rfl rfl)) rfl rfl hl.1 rfl (lv_room (Nat.le_of_ble_eq_true rfl)) dX6_copy_89 ⟨Nat.zero_le _, Nat.zero_le _⟩)) (fun r89 w89 => ?_)
              obtain rfl := w89
              refine lv_if_eq (tgt := 101) hx hb dX6_copy_92 (by decide) (fun c92 => ?_) (fun c92 => ?_)
              · -- t92
                obtain ⟨L, hL, rfl⟩ := hle.resolve_left b33
                obtain ⟨a0, k, rfl, rfl, hak⟩ := foc0 hL c80
                obtain ⟨a1, k1, rfl, ek1, hak1⟩ := foc0 hL c92
                have ek : k = k1 := (nI_eq (by omega) (by omega)).mp ek1
                have ca := nI_clamp (n := a0) (by omega)
                have ca1 := nI_clamp (n := a1) (by omega)
                have ck := nI_clamp (n := k) (by omega)
                refine lv_aload hx hb dX6_copy_101 (lv_at hl 1 rfl) ?_
                refine va_getN (D := D) (ci := 4) (v := .ref co) (C := RX4) (T := TX4) (N := 3) hx hb hts iX4 hown hK hP 2 rfl rfl 0 (by decide) f245 (fun _ h9 => h9) rfl dX6_copy_103 ?_
                refine lv_iload_n hx hb dX6_copy_106 rfl (lv_at hl 4 rfl) ?_
                refine lv_aload hx hb dX6_copy_107 (lv_at hl 0 rfl) ?_
                refine va_getN (D := D) (ci := 4) (v := .ref co) (C := RX4) (T := TX4) (N := 3) hx hb hts iX4 hown hK hP 2 rfl rfl 0 (by decide) f245 (fun _ h9 => h9) rfl dX6_copy_109 ?_
                refine lv_iload hx hb dX6_copy_112 (lv_at hl 6 rfl) ?_
                refine lv_iload hx hb dX6_copy_114 (lv_at hl 7 rfl) ?_
                refine va_copyi hx hb (hml.trans hl.1.symm) hown (hts (.methodLink RX6 249 arraycopyName) (by decide +kernel)) (hts (.native arraycopyName) (by decide +kernel)) (hts (.static arraycopyName) (by decide +kernel)) (hts (.initialized "java/lang/System") (by decide +kernel)) hK hP hD hS 3 3 0 0 rfl rfl rfl rfl rfl (nI_pos (by omega)) (nI_pos (by omega)) (nI_pos (by omega)) (by rw [nI_clamp (n := a0) (by omega), nI_clamp (n := k) (by omega)]; omega) (by rw [nI_clamp (n := a1) (by omega), nI_clamp (n := k) (by omega)]; omega) (fun _ _ => rfl) (Nat.le_of_ble_eq_true rfl) (by decide +kernel) dX6_copy_116 (fun H locs hP hD hS => ?_)
                rw [nI_clamp (n := a0) (by omega), nI_clamp (n := a1) (by omega), nI_clamp (n := k) (by omega)] at hP hD
                have hP : va_P D vwCl [(h, .inr (6, [.ref aS, .ref pe, .ref tq, .ref se, .ref mo, .ref re, .int bar, .int tr, .int 0])), (aS, .inl (cO, 4, .inr (.inr (.inr (.inr g))))), (so, .inr (4, [.ref co, .int ln, .int (nI L)])), (co, .inl (cI, 60, .inl (va_cpy f f a0 a1 k)))] H := hP
                have hD : va_D A [(h, .inr (6, [.ref aS, .ref pe, .ref tq, .ref se, .ref mo, .ref re, .int bar, .int tr, .int 0])), (aS, .inl (cO, 4, .inr (.inr (.inr (.inr g))))), (so, .inr (4, [.ref co, .int ln, .int (nI L)])), (co, .inl (cI, 60, .inl (va_cpy f f a0 a1 k)))] := hD
                refine lv_iload hx hb dX6_copy_119 (lv_at hl 7 rfl) ?_
                exact W.iret (v := (nI k)) hx hb hr (fun t ht hW => ⟨⟨_, (0, va_cpy f f a0 a1 k), rfl, by first | (simp only [onKK, onK_out hk]; simp; done) | (simp only [onKK, onK_in hk, onK_out hk2]; simp; done) | (simp only [onKK, onK_in hk, onK_in hk2]; simp [cpyR, cpyA, cpyF, *]; done) | (simp only [onKK, onK_in hk, onK_in hk2]; simp [cpyR, cpyA, cpyF, b33, b41, c63, c80, c92, ca, ca1, ck]; done) | (simp only [onKK, onK_in hk, onK_in hk2]; simp [cpyR, cpyA, cpyF, b33, b41, c80, c92, ca, ca1, ck]; done), by rw [ht]; exact hP, va_K.moved hW.alike hK, hD⟩, hS.F ht⟩) hS.2.2 dX6_copy_121
              · -- f92
                refine lv_aload_n hx hb dX6_copy_95 rfl (lv_at hl 2 rfl) ?_
                refine lv_iconst (v := 3) hx hb dX6_copy_96 (by decide) ?_
                have hPc := hP.sub (ws' := [(h, .inr (6, [.ref aS, .ref pe, .ref tq, .ref se, .ref mo, .ref re, .int bar, .int tr, .int 0]))]) [0] rfl
                have hDc := hD.sub (ws' := [(h, .inr (6, [.ref aS, .ref pe, .ref tq, .ref se, .ref mo, .ref re, .int bar, .int tr, .int 0]))]) [0] (by decide) rfl
                have hFc := va_free (wc := [(h, .inr (6, [.ref aS, .ref pe, .ref tq, .ref se, .ref mo, .ref re, .int bar, .int tr, .int 0]))]) hD hS hA [0] rfl
                refine va_calli (va_runV (As := [.int 3]) (rest := []) ⟨hx, hb, hml, hown, hts⟩ (c_X6_cameTo l D cI cO h aS pe tq se mo re bar tr 0 3 _) (cwV 1 hts gX6_copy_X6_cameTo rfl rfl rfl (by decide +kernel) ⟨Nat.le_of_ble_eq_true rfl, Nat.le_of_ble_eq_true rfl⟩) (preVW hPc hK hNw hDc (va_recv hK hPc (ci := 6) (q0 := 0) rfl rfl)) rfl rfl hl.1 rfl (lv_room (Nat.le_of_ble_eq_true rfl)) dX6_copy_97 ⟨Nat.zero_le _, Nat.zero_le _⟩) hS (fun q _ h => hFc q h) hFc (fun r97 u t H1 locs ht hvm w97 hB hz1 hk1 hS => ?_)
                obtain ⟨hP1, hK1, hD1⟩ := hB
                rw [ht] at hP1
                try dsimp only at w97
                obtain ⟨hP, hD⟩ := va_join (wr := [(aS, .inl (cO, 4, .inr (.inr (.inr (.inr g))))), (so, .inr (4, [.ref co, .int ln, .int le])), (co, .inl (cI, 60, .inl f))]) (w1 := [(h, .inr (6, [.ref aS, .ref pe, .ref tq, .ref se, .ref mo, .ref re, .int bar, .int tr, .int 3]))]) hP hD [0] [1, 2, 3] rfl rfl (by decide) (by decide) hk1 hFc hP1 hD1
                generalize H1 = H at hP hS ⊢
                have hP := hP.sub (ws' := [(h, .inr (6, [.ref aS, .ref pe, .ref tq, .ref se, .ref mo, .ref re, .int bar, .int tr, .int 3])), (aS, .inl (cO, 4, .inr (.inr (.inr (.inr g))))), (so, .inr (4, [.ref co, .int ln, .int le])), (co, .inl (cI, 60, .inl f))]) [3, 0, 1, 2] rfl
                have hD := hD.sub (ws' := [(h, .inr (6, [.ref aS, .ref pe, .ref tq, .ref se, .ref mo, .ref re, .int bar, .int tr, .int 3])), (aS, .inl (cO, 4, .inr (.inr (.inr (.inr g))))), (so, .inr (4, [.ref co, .int ln, .int le])), (co, .inl (cI, 60, .inl f))]) [3, 0, 1, 2] (by decide) rfl
                obtain rfl := w97
                exact W.iret (v := -10 - 3) hx hb hr (fun t ht hW => ⟨⟨_, (3, f), rfl, by first | (simp only [onKK, onK_out hk]; simp; done) | (simp only [onKK, onK_in hk, onK_out hk2]; simp; done) | (simp only [onKK, onK_in hk, onK_in hk2]; simp [cpyR, cpyA, cpyF, *]; done) | (simp only [onKK, onK_in hk, onK_in hk2]; simp [cpyR, cpyA, cpyF, b33, b41, c63, c80, c92, ca, ca1, ck]; done) | (simp only [onKK, onK_in hk, onK_in hk2]; simp [cpyR, cpyA, cpyF, b33, b41, c80, c92, ca, ca1, ck]; done), by rw [ht]; exact hP, va_K.moved hW.alike hK, hD⟩, hS.F ht⟩) hS.2.2 dX6_copy_100
          · -- f63
            exact absurd rfl c63
    · -- none such
      refine tp_v (y := .null) (by rw [shI_out hk2]; rfl) ?_
      refine lv_astoreN (lv' := [(7, .null), (6, .ref so), (0, .ref h), (1, .int kq), (2, .int i), (3, .int jq), (4, .int j), (5, .int v)]) hx hb dX6_copy_17 hl (by decide) rfl (fun ls hl => ?_)
      refine lv_aload hx hb dX6_copy_19 (lv_at hl 1 rfl) ?_
      refine lv_ifnull hx hb dX6_copy_21 ?_
      refine lv_aloadN hx hb dX6_copy_24 (lv_at hl 0 rfl) ?_
      refine lv_ifnonnullN hx hb dX6_copy_26 ?_
      refine lv_iconst (v := -1) hx hb dX6_copy_29 (by decide) ?_
      exact W.iret (v := -1) hx hb hr (fun t ht hW => ⟨⟨_, (0, f), rfl, by first | (simp only [onKK, onK_out hk]; simp; done) | (simp only [onKK, onK_in hk, onK_out hk2]; simp; done) | (simp only [onKK, onK_in hk, onK_in hk2]; simp [cpyR, cpyA, cpyF, *]; done) | (simp only [onKK, onK_in hk, onK_in hk2]; simp [cpyR, cpyA, cpyF, b33, b41, c63, c80, c92, ca, ca1, ck]; done) | (simp only [onKK, onK_in hk, onK_in hk2]; simp [cpyR, cpyA, cpyF, b33, b41, c80, c92, ca, ca1, ck]; done), by rw [ht]; exact hP, va_K.moved hW.alike hK, hD⟩, hS.F ht⟩) hS.2.2 dX6_copy_30
  · -- none such
    refine tp_v (y := .null) (by rw [shI_out hk]; rfl) ?_
    refine lv_astoreN (lv' := [(6, .null), (0, .ref h), (1, .int kq), (2, .int i), (3, .int jq), (4, .int j), (5, .int v)]) hx hb dX6_copy_10 hl (by decide) rfl (fun ls hl => ?_)
    refine lv_aload_n hx hb dX6_copy_12 rfl (lv_at hl 1 rfl) ?_
    refine lv_iload_n hx hb dX6_copy_13 rfl (lv_at hl 4 rfl) ?_
    have hPc := hP.sub (ws' := [(h, .inr (6, [.ref aS, .ref pe, .ref tq, .ref se, .ref mo, .ref re, .int bar, .int tr, .int 0])), (aS, .inl (cO, 4, .inr (.inr (.inr (.inr g)))))]) [0, 1] rfl
    refine va_csq (va_Run.run (va_runV (As := [.int jq]) (rest := []) ⟨hx, hb, hml, hown, hts⟩ (c_X6_sheetAt l D cI cO h aS pe tq se mo re bar tr 0 g jq) (cwV 1 hts gX6_copy_X6_sheetAt rfl rfl rfl (by decide +kernel) ⟨Nat.le_of_ble_eq_true rfl, Nat.le_of_ble_eq_true rfl⟩) (preVR hPc hK hNw (va_recv hK hPc (ci := 6) (q0 := 0) rfl rfl)) rfl rfl hl.1 rfl (lv_room (Nat.le_of_ble_eq_true rfl)) dX6_copy_14 ⟨Nat.zero_le _, Nat.zero_le _⟩)) (fun r14 w14 => ?_)
    obtain rfl := w14
    by_cases hk2 : ¬ jq < 0 ∧ jq < 4
    · -- there
      refine tp_v (y := .ref so) (by rw [shI_in hk2, hg2 hk2.1 hk2.2]; rfl) ?_
      refine lv_astore (lv' := [(7, .ref so), (6, .null), (0, .ref h), (1, .int kq), (2, .int i), (3, .int jq), (4, .int j), (5, .int v)]) hx hb dX6_copy_17 hl (by decide) rfl (fun ls hl => ?_)
      refine lv_aloadN hx hb dX6_copy_19 (lv_at hl 1 rfl) ?_
      refine lv_ifnullN (tgt := 29) hx hb dX6_copy_21 (by decide) ?_
      refine lv_iconst (v := -1) hx hb dX6_copy_29 (by decide) ?_
      exact W.iret (v := -1) hx hb hr (fun t ht hW => ⟨⟨_, (0, f), rfl, by first | (simp only [onKK, onK_out hk]; simp; done) | (simp only [onKK, onK_in hk, onK_out hk2]; simp; done) | (simp only [onKK, onK_in hk, onK_in hk2]; simp [cpyR, cpyA, cpyF, *]; done) | (simp only [onKK, onK_in hk, onK_in hk2]; simp [cpyR, cpyA, cpyF, b33, b41, c63, c80, c92, ca, ca1, ck]; done) | (simp only [onKK, onK_in hk, onK_in hk2]; simp [cpyR, cpyA, cpyF, b33, b41, c80, c92, ca, ca1, ck]; done), by rw [ht]; exact hP, va_K.moved hW.alike hK, hD⟩, hS.F ht⟩) hS.2.2 dX6_copy_30
    · -- none such
      refine tp_v (y := .null) (by rw [shI_out hk2]; rfl) ?_
      refine lv_astoreN (lv' := [(7, .null), (6, .null), (0, .ref h), (1, .int kq), (2, .int i), (3, .int jq), (4, .int j), (5, .int v)]) hx hb dX6_copy_17 hl (by decide) rfl (fun ls hl => ?_)
      refine lv_aloadN hx hb dX6_copy_19 (lv_at hl 1 rfl) ?_
      refine lv_ifnullN (tgt := 29) hx hb dX6_copy_21 (by decide) ?_
      refine lv_iconst (v := -1) hx hb dX6_copy_29 (by decide) ?_
      exact W.iret (v := -1) hx hb hr (fun t ht hW => ⟨⟨_, (0, f), rfl, by first | (simp only [onKK, onK_out hk]; simp; done) | (simp only [onKK, onK_in hk, onK_out hk2]; simp; done) | (simp only [onKK, onK_in hk, onK_in hk2]; simp [cpyR, cpyA, cpyF, *]; done) | (simp only [onKK, onK_in hk, onK_in hk2]; simp [cpyR, cpyA, cpyF, b33, b41, c63, c80, c92, ca, ca1, ck]; done) | (simp only [onKK, onK_in hk, onK_in hk2]; simp [cpyR, cpyA, cpyF, b33, b41, c80, c92, ca, ca1, ck]; done), by rw [ht]; exact hP, va_K.moved hW.alike hK, hD⟩, hS.F ht⟩) hS.2.2 dX6_copy_30
