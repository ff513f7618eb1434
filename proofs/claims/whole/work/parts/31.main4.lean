set_option maxHeartbeats 4000000 in
set_option maxRecDepth 100000 in
theorem c_X6_season (l : Launch) (D : va_G) (cI cO : ClassId) (h : Nat) (aS : Nat) (pe : Nat) (tq : Nat) (se : Nat) (mo : Nat) (re : Nat) (bar : Int32) (tr : Int32) (fa : Int32) (g : Nat → Option Nat) (so : Nat) (co : Nat) (ln : Int32) (le : Int32) (f : Nat → Int32) (ka : Nat) (sa : Nat) (n : Nat) (kd : Nat → Int32) (sd : Nat → Int32) (xa : Nat) (la : Nat) (tn : Nat) (ts : Nat → Int32) (tl : Nat → Int32) (tt : Nat) (rg : Int32) (xb : Nat) (lb : Nat) (vn : Nat) (us : Nat → Int32) (ul : Nat → Int32) (kq : Int32) (w : Int32) (i : Int32) (v : Int32) (x : Int32) (sz : Nat) (hg : ¬ kq < 0 → kq < 4 → g kq.toNatClampNeg = some so) (hle : okL le) (hn : n ≤ 9) (ht3 : tn ≤ 3) : Met l yX6_season wsX6_season ({ frames := 5, cells := 0, slots := 0, locals := 117 } : Room) (va_Pc [.ref h, .int kq, .int w, .int i, .int v, .int x] (wdW D cI cO [(h, .inr (6, [.ref aS, .ref pe, .ref tq, .ref se, .ref mo, .ref re, .int bar, .int tr, .int fa])), (aS, .inl (cO, 4, .inr (.inr (.inr (.inr g))))), (so, .inr (4, [.ref co, .int ln, .int le])), (co, .inl (cI, 60, .inl f)), (pe, .inr (1, [.ref ka, .ref sa, .int (nI n)])), (ka, .inl (cI, 9, .inl kd)), (sa, .inl (cI, 9, .inl sd)), (tq, .inr (5, [.ref xa, .ref la, .int (nI tn)])), (xa, .inl (cI, 3, .inl ts)), (la, .inl (cI, 3, .inl tl)), (se, .inr (3, [.ref tt, .int rg])), (tt, .inr (5, [.ref xb, .ref lb, .int (nI vn)])), (xb, .inl (cI, 3, .inl us)), (lb, .inl (cI, 3, .inl ul))] sz)) (va_Qi (S := Int32 × Int32 × Nat × (Nat → Int32) × (Nat → Int32)) (fun r u => r = (ifb (seaC n kq w le ln f i v x).2.2 (seaR x (seaP n kd sd tn ts tl f i v us ul)) (seaC n kq w le ln f i v x).1) ∧ u.1 = (seaC n kq w le ln f i v x).2.1 ∧ u.2.1 = (ifb (seaC n kq w le ln f i v x).2.2 (seaP n kd sd tn ts tl f i v us ul).2.2.2.2 rg) ∧ u.2.2.1 = (ifb (seaC n kq w le ln f i v x).2.2 (seaP n kd sd tn ts tl f i v us ul).2.1 vn) ∧ u.2.2.2.1 = (ifb (seaC n kq w le ln f i v x).2.2 (seaP n kd sd tn ts tl f i v us ul).2.2.1 us) ∧ u.2.2.2.2 = (ifb (seaC n kq w le ln f i v x).2.2 (seaP n kd sd tn ts tl f i v us ul).2.2.2.1 ul)) (fun u t => va_P D vwCl [(h, .inr (6, [.ref aS, .ref pe, .ref tq, .ref se, .ref mo, .ref re, .int bar, .int tr, .int u.1])), (aS, .inl (cO, 4, .inr (.inr (.inr (.inr g))))), (so, .inr (4, [.ref co, .int ln, .int le])), (co, .inl (cI, 60, .inl f)), (pe, .inr (1, [.ref ka, .ref sa, .int (nI n)])), (ka, .inl (cI, 9, .inl kd)), (sa, .inl (cI, 9, .inl sd)), (tq, .inr (5, [.ref xa, .ref la, .int (nI tn)])), (xa, .inl (cI, 3, .inl ts)), (la, .inl (cI, 3, .inl tl)), (se, .inr (3, [.ref tt, .int u.2.1])), (tt, .inr (5, [.ref xb, .ref lb, .int (nI u.2.2.1)])), (xb, .inl (cI, 3, .inl u.2.2.2.1)), (lb, .inl (cI, 3, .inl u.2.2.2.2))] t.heap ∧ va_K D vwCl (tyL cI cO) t ∧ va_D (va_A [(h, .inr (6, [.ref aS, .ref pe, .ref tq, .ref se, .ref mo, .ref re, .int bar, .int tr, .int fa])), (aS, .inl (cO, 4, .inr (.inr (.inr (.inr g))))), (so, .inr (4, [.ref co, .int ln, .int le])), (co, .inl (cI, 60, .inl f)), (pe, .inr (1, [.ref ka, .ref sa, .int (nI n)])), (ka, .inl (cI, 9, .inl kd)), (sa, .inl (cI, 9, .inl sd)), (tq, .inr (5, [.ref xa, .ref la, .int (nI tn)])), (xa, .inl (cI, 3, .inl ts)), (la, .inl (cI, 3, .inl tl)), (se, .inr (3, [.ref tt, .int rg])), (tt, .inr (5, [.ref xb, .ref lb, .int (nI vn)])), (xb, .inl (cI, 3, .inl us)), (lb, .inl (cI, 3, .inl ul))] sz) [(h, .inr (6, [.ref aS, .ref pe, .ref tq, .ref se, .ref mo, .ref re, .int bar, .int tr, .int u.1])), (aS, .inl (cO, 4, .inr (.inr (.inr (.inr g))))), (so, .inr (4, [.ref co, .int ln, .int le])), (co, .inl (cI, 60, .inl f)), (pe, .inr (1, [.ref ka, .ref sa, .int (nI n)])), (ka, .inl (cI, 9, .inl kd)), (sa, .inl (cI, 9, .inl sd)), (tq, .inr (5, [.ref xa, .ref la, .int (nI tn)])), (xa, .inl (cI, 3, .inl ts)), (la, .inl (cI, 3, .inl tl)), (se, .inr (3, [.ref tt, .int u.2.1])), (tt, .inr (5, [.ref xb, .ref lb, .int (nI u.2.2.1)])), (xb, .inl (cI, 3, .inl u.2.2.2.1)), (lb, .inl (cI, 3, .inl u.2.2.2.2))]) (va_A [(h, .inr (6, [.ref aS, .ref pe, .ref tq, .ref se, .ref mo, .ref re, .int bar, .int tr, .int fa])), (aS, .inl (cO, 4, .inr (.inr (.inr (.inr g))))), (so, .inr (4, [.ref co, .int ln, .int le])), (co, .inl (cI, 60, .inl f)), (pe, .inr (1, [.ref ka, .ref sa, .int (nI n)])), (ka, .inl (cI, 9, .inl kd)), (sa, .inl (cI, 9, .inl sd)), (tq, .inr (5, [.ref xa, .ref la, .int (nI tn)])), (xa, .inl (cI, 3, .inl ts)), (la, .inl (cI, 3, .inl tl)), (se, .inr (3, [.ref tt, .int rg])), (tt, .inr (5, [.ref xb, .ref lb, .int (nI vn)])), (xb, .inl (cI, 3, .inl us)), (lb, .inl (cI, 3, .inl ul))] sz)) 0 0 (va_A [(h, .inr (6, [.ref aS, .ref pe, .ref tq, .ref se, .ref mo, .ref re, .int bar, .int tr, .int fa])), (aS, .inl (cO, 4, .inr (.inr (.inr (.inr g))))), (so, .inr (4, [.ref co, .int ln, .int le])), (co, .inl (cI, 60, .inl f)), (pe, .inr (1, [.ref ka, .ref sa, .int (nI n)])), (ka, .inl (cI, 9, .inl kd)), (sa, .inl (cI, 9, .inl sd)), (tq, .inr (5, [.ref xa, .ref la, .int (nI tn)])), (xa, .inl (cI, 3, .inl ts)), (la, .inl (cI, 3, .inl tl)), (se, .inr (3, [.ref tt, .int rg])), (tt, .inr (5, [.ref xb, .ref lb, .int (nI vn)])), (xb, .inl (cI, 3, .inl us)), (lb, .inl (cI, 3, .inl ul))] sz) := by
  refine Met.ofW (cc := cX6_season) (maxL := 9) (ret := (some .int)) (by decide) rfl ?_
  intro p e s m args below meth c s₁ B hml hv
  obtain ⟨rfl, hsz, hP, hK, hNw, hD0⟩ := hv
  have hx := B.exec
  have hb := B.bytes
  have hr := B.returns
  have hts := atoms_spec (ws := wsX6_season) B.pre
  have hown : s.vm.findClass RX6 = some m.cls := findClass_of_methodNamed B.named
  have hlocks := B.notSynchronized
  have f21 := hts (.fieldLink RX6 21 "StruckThrees" "people" "LStruckThrees$People;") (by decide +kernel)
  have f28 := hts (.fieldLink RX6 28 "StruckThrees" "threes" "LStruckThrees$Threes;") (by decide +kernel)
  have f35 := hts (.fieldLink RX6 35 "StruckThrees" "season" "LStruckThrees$Season;") (by decide +kernel)
  have f53 := hts (.fieldLink RX6 53 "StruckThrees" "fault" "I") (by decide +kernel)
  have f94 := hNw.f (args := ([.ref h, .int kq, .int w, .int i, .int v, .int x]).toArray) ("StruckThrees", 94, "StruckThrees$People", "count", "I") (by decide)
  have f169 := hNw.f (args := ([.ref h, .int kq, .int w, .int i, .int v, .int x]).toArray) ("StruckThrees", 169, "StruckThrees$Season", "trial", "LStruckThrees$Threes;") (by decide)
  have f172 := hNw.f (args := ([.ref h, .int kq, .int w, .int i, .int v, .int x]).toArray) ("StruckThrees", 172, "StruckThrees$Season", "rang", "I") (by decide)
  have iX1 : ∀ w ∈ wsX10, w ∈ wsX6_season := by decide +kernel
  have iX3 : ∀ w ∈ wsX30, w ∈ wsX6_season := by decide +kernel
  have iX6 : ∀ w ∈ wsX60, w ∈ wsX6_season := by decide +kernel
  subst hsz
  have hD := hD0.self (sz := s.heap.size)
  generalize hAe : va_A [(h, .inr (6, [.ref aS, .ref pe, .ref tq, .ref se, .ref mo, .ref re, .int bar, .int tr, .int fa])), (aS, .inl (cO, 4, .inr (.inr (.inr (.inr g))))), (so, .inr (4, [.ref co, .int ln, .int le])), (co, .inl (cI, 60, .inl f)), (pe, .inr (1, [.ref ka, .ref sa, .int (nI n)])), (ka, .inl (cI, 9, .inl kd)), (sa, .inl (cI, 9, .inl sd)), (tq, .inr (5, [.ref xa, .ref la, .int (nI tn)])), (xa, .inl (cI, 3, .inl ts)), (la, .inl (cI, 3, .inl tl)), (se, .inr (3, [.ref tt, .int rg])), (tt, .inr (5, [.ref xb, .ref lb, .int (nI vn)])), (xb, .inl (cI, 3, .inl us)), (lb, .inl (cI, 3, .inl ul))] s.heap.size = A at hD ⊢
  have hA : ∀ q : Nat, s.heap.size ≤ q → A q := fun q h => by rw [← hAe]; exact Or.inr h
  have hS : va_S A s.heap s.heap [] := va_S.rf
  have hP : va_P D vwCl [(h, .inr (6, [.ref aS, .ref pe, .ref tq, .ref se, .ref mo, .ref re, .int bar, .int tr, .int fa])), (aS, .inl (cO, 4, .inr (.inr (.inr (.inr g))))), (so, .inr (4, [.ref co, .int ln, .int le])), (co, .inl (cI, 60, .inl f)), (pe, .inr (1, [.ref ka, .ref sa, .int (nI n)])), (ka, .inl (cI, 9, .inl kd)), (sa, .inl (cI, 9, .inl sd)), (tq, .inr (5, [.ref xa, .ref la, .int (nI tn)])), (xa, .inl (cI, 3, .inl ts)), (la, .inl (cI, 3, .inl tl)), (se, .inr (3, [.ref tt, .int rg])), (tt, .inr (5, [.ref xb, .ref lb, .int (nI vn)])), (xb, .inl (cI, 3, .inl us)), (lb, .inl (cI, 3, .inl ul))] s.heap := hP
  have hl := lv_entry ([.ref h, .int kq, .int w, .int i, .int v, .int x]) (n := 9) (Nat.le_of_ble_eq_true rfl)
  rw [lg_entry_eq]
  generalize (lg_sl ([.ref h, .int kq, .int w, .int i, .int v, .int x]) ++ List.replicate (9 - (lg_sl ([.ref h, .int kq, .int w, .int i, .int v, .int x])).length) Slot.unset).toArray = ls at hl ⊢
  have hl : lv_has ls 9 [(0, .ref h), (1, .int kq), (2, .int w), (3, .int i), (4, .int v), (5, .int x)] := hl
  refine lv_aload_n hx hb dX6_season_0 rfl (lv_at hl 0 rfl) ?_
  refine lv_iconst (v := 0) hx hb dX6_season_1 (by decide) ?_
  refine va_put (D := D) (ci := 6) (v := .int 0) (ty := .int) (C := RX6) (T := TX6) (N := 9) hx hb hts iX6 tyX6 tyX6_ok nmX6 hown hK hP hD hS 0 rfl rfl 8 (by decide) f53 (fun _ h9 => h9) rfl (by decide +kernel) rfl rfl (Nat.le_of_ble_eq_true rfl) dX6_season_2 (fun H locs hP hD hS => ?_)
  have hP : va_P D vwCl [(h, .inr (6, [.ref aS, .ref pe, .ref tq, .ref se, .ref mo, .ref re, .int bar, .int tr, .int 0])), (aS, .inl (cO, 4, .inr (.inr (.inr (.inr g))))), (so, .inr (4, [.ref co, .int ln, .int le])), (co, .inl (cI, 60, .inl f)), (pe, .inr (1, [.ref ka, .ref sa, .int (nI n)])), (ka, .inl (cI, 9, .inl kd)), (sa, .inl (cI, 9, .inl sd)), (tq, .inr (5, [.ref xa, .ref la, .int (nI tn)])), (xa, .inl (cI, 3, .inl ts)), (la, .inl (cI, 3, .inl tl)), (se, .inr (3, [.ref tt, .int rg])), (tt, .inr (5, [.ref xb, .ref lb, .int (nI vn)])), (xb, .inl (cI, 3, .inl us)), (lb, .inl (cI, 3, .inl ul))] H := hP
  have hD : va_D A [(h, .inr (6, [.ref aS, .ref pe, .ref tq, .ref se, .ref mo, .ref re, .int bar, .int tr, .int 0])), (aS, .inl (cO, 4, .inr (.inr (.inr (.inr g))))), (so, .inr (4, [.ref co, .int ln, .int le])), (co, .inl (cI, 60, .inl f)), (pe, .inr (1, [.ref ka, .ref sa, .int (nI n)])), (ka, .inl (cI, 9, .inl kd)), (sa, .inl (cI, 9, .inl sd)), (tq, .inr (5, [.ref xa, .ref la, .int (nI tn)])), (xa, .inl (cI, 3, .inl ts)), (la, .inl (cI, 3, .inl tl)), (se, .inr (3, [.ref tt, .int rg])), (tt, .inr (5, [.ref xb, .ref lb, .int (nI vn)])), (xb, .inl (cI, 3, .inl us)), (lb, .inl (cI, 3, .inl ul))] := hD
  refine lv_aload_n hx hb dX6_season_5 rfl (lv_at hl 0 rfl) ?_
  refine lv_iload_n hx hb dX6_season_6 rfl (lv_at hl 1 rfl) ?_
  have hPc := hP.sub (ws' := [(h, .inr (6, [.ref aS, .ref pe, .ref tq, .ref se, .ref mo, .ref re, .int bar, .int tr, .int 0])), (aS, .inl (cO, 4, .inr (.inr (.inr (.inr g)))))]) [0, 1] rfl
  refine va_csq (va_Run.run (va_runV (As := [.int kq]) (rest := []) ⟨hx, hb, hml, hown, hts⟩ (c_X6_sheetAt l D cI cO h aS pe tq se mo re bar tr 0 g kq) (cwV 1 hts gX6_season_X6_sheetAt rfl rfl rfl (by decide +kernel) ⟨Nat.le_of_ble_eq_true rfl, Nat.le_of_ble_eq_true rfl⟩) (preVR hPc hK hNw (va_recv hK hPc (ci := 6) (q0 := 0) rfl rfl)) rfl rfl hl.1 rfl (lv_room (Nat.le_of_ble_eq_true rfl)) dX6_season_7 ⟨Nat.zero_le _, Nat.zero_le _⟩)) (fun r7 w7 => ?_)
  obtain rfl := w7
  by_cases hk : ¬ kq < 0 ∧ kq < 4
  · -- there
    refine tp_v (y := .ref so) (by rw [shI_in hk, hg hk.1 hk.2]; rfl) ?_
    refine lv_astore (lv' := [(6, .ref so), (0, .ref h), (1, .int kq), (2, .int w), (3, .int i), (4, .int v), (5, .int x)]) hx hb dX6_season_10 hl (by decide) rfl (fun ls hl => ?_)
    refine lv_aload hx hb dX6_season_12 (lv_at hl 0 rfl) ?_
    refine lv_ifnonnull (tgt := 19) hx hb dX6_season_14 (by decide) ?_
    refine lv_iload_n hx hb dX6_season_19 rfl (lv_at hl 3 rfl) ?_
    have hPc := hP.sub (ws' := []) [] rfl
    refine vp_callSi (va_Run.run (va_runS (As := [.int w]) (rest := []) ⟨hx, hb, hml, hown, hts⟩ (c_X6_isLane l D cI cO w) (va_cwS 1 hts gX6_season_X6_isLane rfl rfl rfl (by decide +kernel) ⟨Nat.le_of_ble_eq_true rfl, Nat.le_of_ble_eq_true rfl⟩) (preSR hPc hK hNw) rfl rfl hl.1 rfl (lv_room (Nat.le_of_ble_eq_true rfl)) dX6_season_20 ⟨Nat.zero_le _, Nat.zero_le _⟩)) (fun r20 w20 => ?_)
    by_cases b20 : lstT w 0 2 = true
    · -- y20
      obtain rfl := w20.1 b20
      refine lv_if_eq (tgt := 49) hx hb dX6_season_23 (by decide) (fun h => absurd h (by decide)) (fun _ => ?_)
      refine lv_iload hx hb dX6_season_26 (lv_at hl 5 rfl) ?_
      refine lv_if_lt (tgt := 49) hx hb dX6_season_28 (by decide) (fun c28 => ?_) (fun c28 => ?_)
      · -- t28
        refine lv_bipush (v := -2) hx hb dX6_season_49 (by decide) ?_
        exact W.iret (v := -2) hx hb hr (fun t ht hW => ⟨⟨_, (0, rg, vn, us, ul), rfl, by rw [show seaC n kq w le ln f i v x = (-2, 0, false) from by unfold seaC; rw [if_pos hk, if_neg (by unfold seaOk; simp [*])]]; exact ⟨rfl, rfl, rfl, rfl, rfl, rfl⟩, by rw [ht]; exact hP, va_K.moved hW.alike hK, hD⟩, hS.F ht⟩) hS.2.2 dX6_season_51
      · -- f28
        refine lv_iload hx hb dX6_season_31 (lv_at hl 5 rfl) ?_
        refine lv_bipush (v := 20) hx hb dX6_season_33 (by decide) ?_
        refine lv_icmp_gt (tgt := 49) hx hb dX6_season_35 (by decide) (fun c35 => ?_) (fun c35 => ?_)
        · -- t35
          refine lv_bipush (v := -2) hx hb dX6_season_49 (by decide) ?_
          exact W.iret (v := -2) hx hb hr (fun t ht hW => ⟨⟨_, (0, rg, vn, us, ul), rfl, by rw [show seaC n kq w le ln f i v x = (-2, 0, false) from by unfold seaC; rw [if_pos hk, if_neg (by unfold seaOk; simp [*])]]; exact ⟨rfl, rfl, rfl, rfl, rfl, rfl⟩, by rw [ht]; exact hP, va_K.moved hW.alike hK, hD⟩, hS.F ht⟩) hS.2.2 dX6_season_51
        · -- f35
          refine lv_iload hx hb dX6_season_38 (lv_at hl 6 rfl) ?_
          refine lv_if_lt (tgt := 49) hx hb dX6_season_40 (by decide) (fun c40 => ?_) (fun c40 => ?_)
          · -- t40
            refine lv_bipush (v := -2) hx hb dX6_season_49 (by decide) ?_
            exact W.iret (v := -2) hx hb hr (fun t ht hW => ⟨⟨_, (0, rg, vn, us, ul), rfl, by rw [show seaC n kq w le ln f i v x = (-2, 0, false) from by unfold seaC; rw [if_pos hk, if_neg (by unfold seaOk; simp [*])]]; exact ⟨rfl, rfl, rfl, rfl, rfl, rfl⟩, by rw [ht]; exact hP, va_K.moved hW.alike hK, hD⟩, hS.F ht⟩) hS.2.2 dX6_season_51
          · -- f40
            refine lv_iload hx hb dX6_season_43 (lv_at hl 6 rfl) ?_
            refine lv_iconst (v := 4) hx hb dX6_season_45 (by decide) ?_
            refine lv_icmp_le (tgt := 52) hx hb dX6_season_46 (by decide) (fun c46 => ?_) (fun c46 => ?_)
            · -- t46
              have hok : seaOk w v x = true := by unfold seaOk; rw [b20, decide_eq_true (show ¬ v < 0 ∧ ¬ 20 < v ∧ ¬ x < 0 ∧ x ≤ 4 from ⟨c28, c35, c40, c46⟩)]; rfl
              obtain ⟨k, hk20, rfl⟩ := nI_of2 (M := 20) (n := 20) rfl c28 (by rw [Int32.lt_iff_toInt_lt] at c35; rw [Int32.le_iff_toInt_le]; omega)
              have ck := nI_clamp (n := k) (by omega)
              refine lv_aload hx hb dX6_season_52 (lv_at hl 0 rfl) ?_
              refine lv_iload_n hx hb dX6_season_54 rfl (lv_at hl 3 rfl) ?_
              have hPc := hP.sub (ws' := [(so, .inr (4, [.ref co, .int ln, .int le]))]) [2] rfl
              refine vp_callSi (va_Run.run (va_runV (As := [.int w]) (rest := []) ⟨hx, hb, hml, hown, hts⟩ (c_X4_faultAs l D cI cO so co ln le w) (cwV 1 hts gX6_season_X4_faultAs rfl rfl rfl (by decide +kernel) ⟨Nat.le_of_ble_eq_true rfl, Nat.le_of_ble_eq_true rfl⟩) (preVR hPc hK hNw (va_recv hK hPc (ci := 4) (q0 := 0) rfl rfl)) rfl rfl hl.1 rfl (lv_room (Nat.le_of_ble_eq_true rfl)) dX6_season_55 ⟨Nat.zero_le _, Nat.zero_le _⟩)) (fun r55 w55 => ?_)
              obtain rfl := w55
              refine lv_istore (lv' := [(7, .int (fasI le ln w)), (6, .ref so), (0, .ref h), (1, .int kq), (2, .int w), (3, .int i), (4, .int (nI k)), (5, .int x)]) hx hb dX6_season_58 hl (by decide) rfl (fun ls hl => ?_)
              refine lv_iload hx hb dX6_season_60 (lv_at hl 0 rfl) ?_
              refine lv_if_ne (tgt := 77) hx hb dX6_season_62 (by decide) (fun c62 => ?_) (fun c62 => ?_)
              · -- t62
                have hm : metS le ln w i (2 * nI k) = fasI le ln w := if_neg c62
                refine lv_iload hx hb dX6_season_77 (lv_at hl 0 rfl) ?_
                refine lv_if_eq (tgt := 89) hx hb dX6_season_79 (by decide) (fun c79 => ?_) (fun c79 => ?_)
                · -- t79
                  exact absurd c79 c62
                · -- f79
                  refine lv_aload_n hx hb dX6_season_82 rfl (lv_at hl 2 rfl) ?_
                  refine lv_iload hx hb dX6_season_83 (lv_at hl 0 rfl) ?_
                  have hPc := hP.sub (ws' := [(h, .inr (6, [.ref aS, .ref pe, .ref tq, .ref se, .ref mo, .ref re, .int bar, .int tr, .int 0]))]) [0] rfl
                  have hDc := hD.sub (ws' := [(h, .inr (6, [.ref aS, .ref pe, .ref tq, .ref se, .ref mo, .ref re, .int bar, .int tr, .int 0]))]) [0] (by decide) rfl
                  have hFc := va_free (wc := [(h, .inr (6, [.ref aS, .ref pe, .ref tq, .ref se, .ref mo, .ref re, .int bar, .int tr, .int 0]))]) hD hS hA [0] rfl
                  refine va_calli (va_runV (As := [.int (fasI le ln w)]) (rest := []) ⟨hx, hb, hml, hown, hts⟩ (c_X6_cameTo l D cI cO h aS pe tq se mo re bar tr 0 (fasI le ln w) _) (cwV 1 hts gX6_season_X6_cameTo rfl rfl rfl (by decide +kernel) ⟨Nat.le_of_ble_eq_true rfl, Nat.le_of_ble_eq_true rfl⟩) (preVW hPc hK hNw hDc (va_recv hK hPc (ci := 6) (q0 := 0) rfl rfl)) rfl rfl hl.1 rfl (lv_room (Nat.le_of_ble_eq_true rfl)) dX6_season_85 ⟨Nat.zero_le _, Nat.zero_le _⟩) hS (fun q _ h => hFc q h) hFc (fun r85 u t H1 locs ht hvm w85 hB hz1 hk1 hS => ?_)
                  obtain ⟨hP1, hK1, hD1⟩ := hB
                  rw [ht] at hP1
                  try dsimp only at w85
                  obtain ⟨hP, hD⟩ := va_join (wr := [(aS, .inl (cO, 4, .inr (.inr (.inr (.inr g))))), (so, .inr (4, [.ref co, .int ln, .int le])), (co, .inl (cI, 60, .inl f)), (pe, .inr (1, [.ref ka, .ref sa, .int (nI n)])), (ka, .inl (cI, 9, .inl kd)), (sa, .inl (cI, 9, .inl sd)), (tq, .inr (5, [.ref xa, .ref la, .int (nI tn)])), (xa, .inl (cI, 3, .inl ts)), (la, .inl (cI, 3, .inl tl)), (se, .inr (3, [.ref tt, .int rg])), (tt, .inr (5, [.ref xb, .ref lb, .int (nI vn)])), (xb, .inl (cI, 3, .inl us)), (lb, .inl (cI, 3, .inl ul))]) (w1 := [(h, .inr (6, [.ref aS, .ref pe, .ref tq, .ref se, .ref mo, .ref re, .int bar, .int tr, .int (fasI le ln w)]))]) hP hD [0] [1, 2, 3, 4, 5, 6, 7, 8, 9, 10, 11, 12, 13] rfl rfl (by decide) (by decide) hk1 hFc hP1 hD1
                  generalize H1 = H at hP hS ⊢
                  have hP := hP.sub (ws' := [(h, .inr (6, [.ref aS, .ref pe, .ref tq, .ref se, .ref mo, .ref re, .int bar, .int tr, .int (fasI le ln w)])), (aS, .inl (cO, 4, .inr (.inr (.inr (.inr g))))), (so, .inr (4, [.ref co, .int ln, .int le])), (co, .inl (cI, 60, .inl f)), (pe, .inr (1, [.ref ka, .ref sa, .int (nI n)])), (ka, .inl (cI, 9, .inl kd)), (sa, .inl (cI, 9, .inl sd)), (tq, .inr (5, [.ref xa, .ref la, .int (nI tn)])), (xa, .inl (cI, 3, .inl ts)), (la, .inl (cI, 3, .inl tl)), (se, .inr (3, [.ref tt, .int rg])), (tt, .inr (5, [.ref xb, .ref lb, .int (nI vn)])), (xb, .inl (cI, 3, .inl us)), (lb, .inl (cI, 3, .inl ul))]) [13, 0, 1, 2, 3, 4, 5, 6, 7, 8, 9, 10, 11, 12] rfl
                  have hD := hD.sub (ws' := [(h, .inr (6, [.ref aS, .ref pe, .ref tq, .ref se, .ref mo, .ref re, .int bar, .int tr, .int (fasI le ln w)])), (aS, .inl (cO, 4, .inr (.inr (.inr (.inr g))))), (so, .inr (4, [.ref co, .int ln, .int le])), (co, .inl (cI, 60, .inl f)), (pe, .inr (1, [.ref ka, .ref sa, .int (nI n)])), (ka, .inl (cI, 9, .inl kd)), (sa, .inl (cI, 9, .inl sd)), (tq, .inr (5, [.ref xa, .ref la, .int (nI tn)])), (xa, .inl (cI, 3, .inl ts)), (la, .inl (cI, 3, .inl tl)), (se, .inr (3, [.ref tt, .int rg])), (tt, .inr (5, [.ref xb, .ref lb, .int (nI vn)])), (xb, .inl (cI, 3, .inl us)), (lb, .inl (cI, 3, .inl ul))]) [13, 0, 1, 2, 3, 4, 5, 6, 7, 8, 9, 10, 11, 12] (by decide) rfl
                  obtain rfl := w85
                  exact W.iret (v := -10 - (fasI le ln w)) hx hb hr (fun t ht hW => ⟨⟨_, ((fasI le ln w), rg, vn, us, ul), rfl, by rw [show seaC n kq w le ln f i (nI k) x = (-10 - metS le ln w i (2 * nI k), metS le ln w i (2 * nI k), false) from by unfold seaC; rw [if_pos hk, if_pos hok, if_neg (by rw [hm]; exact c62)]]; rw [hm]; exact ⟨rfl, rfl, rfl, rfl, rfl, rfl⟩, by rw [ht]; exact hP, va_K.moved hW.alike hK, hD⟩, hS.F ht⟩) hS.2.2 dX6_season_88
              · -- f62
                have hm : metS le ln w i (2 * nI k) = focI le i (nI (2 * k)) := by unfold metS; rw [if_pos c62, show (2 : Int32) = nI 2 from rfl, pk_mul]
                refine lv_aload hx hb dX6_season_65 (lv_at hl 1 rfl) ?_
                refine lv_iload_n hx hb dX6_season_67 rfl (lv_at hl 5 rfl) ?_
                refine lv_iconst (v := 2) hx hb dX6_season_68 (by decide) ?_
                refine lv_iload hx hb dX6_season_69 (lv_at hl 6 rfl) ?_
                refine lv_imul hx hb dX6_season_71 ?_
                refine tp_i (y := nI (2 * k)) (by rw [show (2 : Int32) = nI 2 from rfl, pk_mul]) ?_
                have hPc := hP.sub (ws' := [(so, .inr (4, [.ref co, .int ln, .int le]))]) [2] rfl
                refine vp_callSi (va_Run.run (va_runV (As := [.int i, .int (nI (2 * k))]) (rest := []) ⟨hx, hb, hml, hown, hts⟩ (c_X4_faultOfCells l D cI cO so co ln le i (nI (2 * k))) (cwV 2 hts gX6_season_X4_faultOfCells rfl rfl rfl (by decide +kernel) ⟨Nat.le_of_ble_eq_true rfl, Nat.le_of_ble_eq_true rfl⟩) (preVR hPc hK hNw (va_recv hK hPc (ci := 4) (q0 := 0) rfl rfl)) rfl rfl hl.1 rfl (lv_room (Nat.le_of_ble_eq_true rfl)) dX6_season_72 ⟨Nat.zero_le _, Nat.zero_le _⟩)) (fun r72 w72 => ?_)
                obtain rfl := w72
                refine lv_istore (lv' := [(7, .int (focI le i (nI (2 * k)))), (6, .ref so), (0, .ref h), (1, .int kq), (2, .int w), (3, .int i), (4, .int (nI k)), (5, .int x)]) hx hb dX6_season_75 hl (by decide) rfl (fun ls hl => ?_)
                refine lv_iload hx hb dX6_season_77 (lv_at hl 0 rfl) ?_
                refine lv_if_eq (tgt := 89) hx hb dX6_season_79 (by decide) (fun c79 => ?_) (fun c79 => ?_)
                · -- t79
                  obtain ⟨L, hL, rfl⟩ := hle.resolve_left (fas0 c62).1
                  obtain ⟨a0, k2, rfl, ek2, hak⟩ := foc0 hL c79
                  have ek3 : 2 * k = k2 := (nI_eq (by omega) (by omega)).mp ek2
                  have hm0 := hm.trans c79
                  have ca := nI_clamp (n := a0) (by omega)
                  refine lv_aload_n hx hb dX6_season_89 rfl (lv_at hl 2 rfl) ?_
                  refine va_get (D := D) (ci := 6) (v := .ref pe) (C := RX6) (T := TX6) (N := 9) hx hb hts iX6 hown hK hP 0 rfl rfl 1 (by decide) f21 (fun _ h9 => h9) rfl dX6_season_90 ?_
                  refine va_getN (D := D) (ci := 1) (v := .int (nI n)) (C := RX1) (T := TX1) (N := 3) hx hb hts iX1 hown hK hP 4 rfl rfl 2 (by decide) f94 (fun _ h9 => h9) rfl dX6_season_93 ?_
                  refine lv_if_ne (tgt := 102) hx hb dX6_season_96 (by decide) (fun c96 => ?_) (fun c96 => ?_)
                  · -- t96
                    refine lv_aload hx hb dX6_season_102 (lv_at hl 1 rfl) ?_
                    refine lv_iload_n hx hb dX6_season_104 rfl (lv_at hl 5 rfl) ?_
                    refine lv_iload hx hb dX6_season_105 (lv_at hl 6 rfl) ?_
                    have hPc := hP.sub (ws' := [(so, .inr (4, [.ref co, .int ln, .int (nI L)])), (co, .inl (cI, 60, .inl f))]) [2, 3] rfl
                    refine vp_callSi (va_Run.run (va_runS (As := [.ref so, .int (nI a0), .int (nI k)]) (rest := []) ⟨hx, hb, hml, hown, hts⟩ (c_X3_isAsTold l D cI cO so co ln L f a0 k (by assumption) (by omega)) (va_cwS 3 hts gX6_season_X3_isAsTold rfl rfl rfl (by decide +kernel) ⟨Nat.le_of_ble_eq_true rfl, Nat.le_of_ble_eq_true rfl⟩) (preSR hPc hK hNw) rfl rfl hl.1 rfl (lv_room (Nat.le_of_ble_eq_true rfl)) dX6_season_107 ⟨Nat.zero_le _, Nat.zero_le _⟩)) (fun r107 w107 => ?_)
                    by_cases b107 : toldW f a0 k 0 = true
                    · -- y107
                      obtain rfl := w107.1 b107
                      have hsc : seaC n kq w (nI L) ln f (nI a0) (nI k) x = (0, 0, true) := by unfold seaC; rw [if_pos hk, if_pos hok, if_pos hm0, if_neg c96, ca, ck, if_pos b107]
                      have hf9 : ∀ i, i < k → ∃ a, a ≤ 9 ∧ f (a0 + 2 * i) = nI a := fun i hi => tld_9 (told_f k 0 b107 i (Nat.zero_le _) (by omega))
                      refine lv_if_ne (tgt := 116) hx hb dX6_season_110 (by decide) (fun _ => ?_) (fun h => absurd h (by decide))
                      refine lv_aload_n hx hb dX6_season_116 rfl (lv_at hl 2 rfl) ?_
                      refine va_get (D := D) (ci := 6) (v := .ref se) (C := RX6) (T := TX6) (N := 9) hx hb hts iX6 hown hK hP 0 rfl rfl 3 (by decide) f35 (fun _ h9 => h9) rfl dX6_season_117 ?_
                      refine lv_aload_n hx hb dX6_season_120 rfl (lv_at hl 2 rfl) ?_
                      refine va_get (D := D) (ci := 6) (v := .ref tq) (C := RX6) (T := TX6) (N := 9) hx hb hts iX6 hown hK hP 0 rfl rfl 2 (by decide) f28 (fun _ h9 => h9) rfl dX6_season_121 ?_
                      refine lv_aload_n hx hb dX6_season_124 rfl (lv_at hl 2 rfl) ?_
                      refine va_get (D := D) (ci := 6) (v := .ref pe) (C := RX6) (T := TX6) (N := 9) hx hb hts iX6 hown hK hP 0 rfl rfl 1 (by decide) f21 (fun _ h9 => h9) rfl dX6_season_125 ?_
                      refine lv_aload hx hb dX6_season_128 (lv_at hl 1 rfl) ?_
                      refine lv_iload_n hx hb dX6_season_130 rfl (lv_at hl 5 rfl) ?_
                      refine lv_iload hx hb dX6_season_131 (lv_at hl 6 rfl) ?_
                      have hPc := hP.sub (ws' := [(se, .inr (3, [.ref tt, .int rg])), (tt, .inr (5, [.ref xb, .ref lb, .int (nI vn)])), (xb, .inl (cI, 3, .inl us)), (lb, .inl (cI, 3, .inl ul)), (tq, .inr (5, [.ref xa, .ref la, .int (nI tn)])), (xa, .inl (cI, 3, .inl ts)), (la, .inl (cI, 3, .inl tl)), (pe, .inr (1, [.ref ka, .ref sa, .int (nI n)])), (ka, .inl (cI, 9, .inl kd)), (sa, .inl (cI, 9, .inl sd)), (so, .inr (4, [.ref co, .int ln, .int (nI L)])), (co, .inl (cI, 60, .inl f))]) [10, 11, 12, 13, 7, 8, 9, 4, 5, 6, 2, 3] rfl
                      have hDc := hD.sub (ws' := [(se, .inr (3, [.ref tt, .int rg])), (tt, .inr (5, [.ref xb, .ref lb, .int (nI vn)])), (xb, .inl (cI, 3, .inl us)), (lb, .inl (cI, 3, .inl ul)), (tq, .inr (5, [.ref xa, .ref la, .int (nI tn)])), (xa, .inl (cI, 3, .inl ts)), (la, .inl (cI, 3, .inl tl)), (pe, .inr (1, [.ref ka, .ref sa, .int (nI n)])), (ka, .inl (cI, 9, .inl kd)), (sa, .inl (cI, 9, .inl sd)), (so, .inr (4, [.ref co, .int ln, .int (nI L)])), (co, .inl (cI, 60, .inl f))]) [10, 11, 12, 13, 7, 8, 9, 4, 5, 6, 2, 3] (by decide) rfl
                      have hFc := va_free (wc := [(se, .inr (3, [.ref tt, .int rg])), (tt, .inr (5, [.ref xb, .ref lb, .int (nI vn)])), (xb, .inl (cI, 3, .inl us)), (lb, .inl (cI, 3, .inl ul)), (tq, .inr (5, [.ref xa, .ref la, .int (nI tn)])), (xa, .inl (cI, 3, .inl ts)), (la, .inl (cI, 3, .inl tl)), (pe, .inr (1, [.ref ka, .ref sa, .int (nI n)])), (ka, .inl (cI, 9, .inl kd)), (sa, .inl (cI, 9, .inl sd)), (so, .inr (4, [.ref co, .int ln, .int (nI L)])), (co, .inl (cI, 60, .inl f))]) hD hS hA [10, 11, 12, 13, 7, 8, 9, 4, 5, 6, 2, 3] rfl
                      refine va_calli (va_runV (As := [.ref tq, .ref pe, .ref so, .int (nI a0), .int (nI k)]) (rest := []) ⟨hx, hb, hml, hown, hts⟩ (c_X3_play l D cI cO se tt rg xb lb vn us ul tq xa la tn ts tl pe ka sa n kd sd so co ln L f a0 k _ (by assumption) (by assumption) (by assumption) (by omega) (hf9)) (cwV 5 hts gX6_season_X3_play rfl rfl rfl (by decide +kernel) ⟨Nat.le_of_ble_eq_true rfl, Nat.le_of_ble_eq_true rfl⟩) (preVW hPc hK hNw hDc (va_recv hK hPc (ci := 3) (q0 := 0) rfl rfl)) rfl rfl hl.1 rfl (lv_room (Nat.le_of_ble_eq_true rfl)) dX6_season_133 ⟨Nat.zero_le _, Nat.zero_le _⟩) hS (fun q _ h => hFc q h) hFc (fun r133 u t H1 locs ht hvm w133 hB hz1 hk1 hS => ?_)
                      obtain ⟨tn1_133, ts1_133, tl1_133, rg1_133⟩ := u
                      obtain ⟨hP1, hK1, hD1⟩ := hB
                      rw [ht] at hP1
                      try dsimp only at w133
                      obtain ⟨hP, hD⟩ := va_join (wr := [(h, .inr (6, [.ref aS, .ref pe, .ref tq, .ref se, .ref mo, .ref re, .int bar, .int tr, .int 0])), (aS, .inl (cO, 4, .inr (.inr (.inr (.inr g)))))]) (w1 := [(se, .inr (3, [.ref tt, .int rg1_133])), (tt, .inr (5, [.ref xb, .ref lb, .int (nI tn1_133)])), (xb, .inl (cI, 3, .inl ts1_133)), (lb, .inl (cI, 3, .inl tl1_133)), (tq, .inr (5, [.ref xa, .ref la, .int (nI tn)])), (xa, .inl (cI, 3, .inl ts)), (la, .inl (cI, 3, .inl tl)), (pe, .inr (1, [.ref ka, .ref sa, .int (nI n)])), (ka, .inl (cI, 9, .inl kd)), (sa, .inl (cI, 9, .inl sd)), (so, .inr (4, [.ref co, .int ln, .int (nI L)])), (co, .inl (cI, 60, .inl f))]) hP hD [10, 11, 12, 13, 7, 8, 9, 4, 5, 6, 2, 3] [0, 1] rfl rfl (by decide) (by decide) hk1 hFc hP1 hD1
                      generalize H1 = H at hP hS ⊢
                      have hP := hP.sub (ws' := [(h, .inr (6, [.ref aS, .ref pe, .ref tq, .ref se, .ref mo, .ref re, .int bar, .int tr, .int 0])), (aS, .inl (cO, 4, .inr (.inr (.inr (.inr g))))), (so, .inr (4, [.ref co, .int ln, .int (nI L)])), (co, .inl (cI, 60, .inl f)), (pe, .inr (1, [.ref ka, .ref sa, .int (nI n)])), (ka, .inl (cI, 9, .inl kd)), (sa, .inl (cI, 9, .inl sd)), (tq, .inr (5, [.ref xa, .ref la, .int (nI tn)])), (xa, .inl (cI, 3, .inl ts)), (la, .inl (cI, 3, .inl tl)), (se, .inr (3, [.ref tt, .int rg1_133])), (tt, .inr (5, [.ref xb, .ref lb, .int (nI tn1_133)])), (xb, .inl (cI, 3, .inl ts1_133)), (lb, .inl (cI, 3, .inl tl1_133))]) [0, 1, 12, 13, 9, 10, 11, 6, 7, 8, 2, 3, 4, 5] rfl
                      have hD := hD.sub (ws' := [(h, .inr (6, [.ref aS, .ref pe, .ref tq, .ref se, .ref mo, .ref re, .int bar, .int tr, .int 0])), (aS, .inl (cO, 4, .inr (.inr (.inr (.inr g))))), (so, .inr (4, [.ref co, .int ln, .int (nI L)])), (co, .inl (cI, 60, .inl f)), (pe, .inr (1, [.ref ka, .ref sa, .int (nI n)])), (ka, .inl (cI, 9, .inl kd)), (sa, .inl (cI, 9, .inl sd)), (tq, .inr (5, [.ref xa, .ref la, .int (nI tn)])), (xa, .inl (cI, 3, .inl ts)), (la, .inl (cI, 3, .inl tl)), (se, .inr (3, [.ref tt, .int rg1_133])), (tt, .inr (5, [.ref xb, .ref lb, .int (nI tn1_133)])), (xb, .inl (cI, 3, .inl ts1_133)), (lb, .inl (cI, 3, .inl tl1_133))]) [0, 1, 12, 13, 9, 10, 11, 6, 7, 8, 2, 3, 4, 5] (by decide) rfl
                      obtain ⟨rfl, rfl, rfl, rfl, rfl⟩ := w133
                      have hz3 := plW_le n kd sd f a0 k 0 (tn, cpF ts us 3, cpF tl ul 3, 0)
                      have hsz : seaP n kd sd tn ts tl f (nI a0) (nI k) us ul = plW n kd sd f a0 k 0 (tn, cpF ts us 3, cpF tl ul 3, 0) := by unfold seaP; rw [ca, ck]
                      generalize plW n kd sd f a0 k 0 (tn, cpF ts us 3, cpF tl ul 3, 0) = zz at hP hD hz3 hsz ⊢
                      have hz3 : zz.2.1 ≤ 3 := Nat.le_trans hz3 ht3
                      refine lv_istore (lv' := [(8, .int zz.1), (7, .int (focI (nI L) (nI a0) (nI (2 * k)))), (6, .ref so), (0, .ref h), (1, .int kq), (2, .int w), (3, .int (nI a0)), (4, .int (nI k)), (5, .int x)]) hx hb dX6_season_136 hl (by decide) rfl (fun ls hl => ?_)
                      refine lv_iload hx hb dX6_season_138 (lv_at hl 8 rfl) ?_
                      refine lv_iconst (v := 1) hx hb dX6_season_140 (by decide) ?_
                      refine lv_icmp_ne (tgt := 147) hx hb dX6_season_141 (by decide) (fun c141 => ?_) (fun c141 => ?_)
                      · -- t141
                        refine lv_iload hx hb dX6_season_147 (lv_at hl 0 rfl) ?_
                        refine lv_bipush (v := -9) hx hb dX6_season_149 (by decide) ?_
                        refine lv_icmp_eq (tgt := 160) hx hb dX6_season_151 (by decide) (fun c151 => ?_) (fun c151 => ?_)
                        · -- t151
                          refine lv_iload hx hb dX6_season_160 (lv_at hl 8 rfl) ?_
                          by_cases k162_0 : x = 0
                          · -- case 0
                            refine lv_tableIn (off := 30) (tgt := 192) hx hb dX6_season_162 (by rw [k162_0]; decide) (by rw [k162_0]; decide) (by rw [k162_0]; decide) (by decide) ?_
                            refine lv_aload_n hx hb dX6_season_192 rfl (lv_at hl 3 rfl) ?_
                            refine va_get (D := D) (ci := 6) (v := .ref se) (C := RX6) (T := TX6) (N := 9) hx hb hts iX6 hown hK hP 0 rfl rfl 3 (by decide) f35 (fun _ h9 => h9) rfl dX6_season_193 ?_
                            refine va_getN (D := D) (ci := 3) (v := .ref tt) (C := RX3) (T := TX3) (N := 2) hx hb hts iX3 hown hK hP 10 rfl rfl 0 (by decide) f169 (fun _ h9 => h9) rfl dX6_season_196 ?_
                            have hPc := hP.sub (ws' := [(tt, .inr (5, [.ref xb, .ref lb, .int (nI zz.2.1)])), (lb, .inl (cI, 3, .inl zz.2.2.2.1))]) [11, 13] rfl
                            refine vp_callSi (va_Run.run (va_runV (As := []) (rest := []) ⟨hx, hb, hml, hown, hts⟩ (c_X5_ringing l D cI cO tt xb lb zz.2.1 zz.2.2.2.1 (hz3)) (cwV 0 hts gX6_season_X5_ringing rfl rfl rfl (by decide +kernel) ⟨Nat.le_of_ble_eq_true rfl, Nat.le_of_ble_eq_true rfl⟩) (preVR hPc hK hNw (va_recv hK hPc (ci := 5) (q0 := 0) rfl rfl)) rfl rfl hl.1 rfl (lv_room (Nat.le_of_ble_eq_true rfl)) dX6_season_199 ⟨Nat.zero_le _, Nat.zero_le _⟩)) (fun r199 w199 => ?_)
                            obtain rfl := w199
                            exact W.iret (v := cntW zz.2.2.2.1 zz.2.1) hx hb hr (fun t ht hW => ⟨⟨_, (0, zz.2.2.2.2, zz.2.1, zz.2.2.1, zz.2.2.2.1), rfl, by rw [hsc, hsz]; simp [ifb, seaR, *], by rw [ht]; exact hP, va_K.moved hW.alike hK, hD⟩, hS.F ht⟩) hS.2.2 dX6_season_202
                          by_cases k162_1 : x = 1
                          · -- case 1
                            refine lv_tableIn (off := 60) (tgt := 222) hx hb dX6_season_162 (by rw [k162_1]; decide) (by rw [k162_1]; decide) (by rw [k162_1]; decide) (by decide) ?_
                            exact absurd k162_1 c141
                          by_cases k162_2 : x = 2
                          · -- case 2
                            refine lv_tableIn (off := 41) (tgt := 203) hx hb dX6_season_162 (by rw [k162_2]; decide) (by rw [k162_2]; decide) (by rw [k162_2]; decide) (by decide) ?_
                            refine lv_aload_n hx hb dX6_season_203 rfl (lv_at hl 3 rfl) ?_
                            refine va_get (D := D) (ci := 6) (v := .ref se) (C := RX6) (T := TX6) (N := 9) hx hb hts iX6 hown hK hP 0 rfl rfl 3 (by decide) f35 (fun _ h9 => h9) rfl dX6_season_204 ?_
                            refine va_getN (D := D) (ci := 3) (v := .int zz.2.2.2.2) (C := RX3) (T := TX3) (N := 2) hx hb hts iX3 hown hK hP 10 rfl rfl 1 (by decide) f172 (fun _ h9 => h9) rfl dX6_season_207 ?_
                            exact W.iret (v := zz.2.2.2.2) hx hb hr (fun t ht hW => ⟨⟨_, (0, zz.2.2.2.2, zz.2.1, zz.2.2.1, zz.2.2.2.1), rfl, by rw [hsc, hsz]; simp [ifb, seaR, *], by rw [ht]; exact hP, va_K.moved hW.alike hK, hD⟩, hS.F ht⟩) hS.2.2 dX6_season_210
                          by_cases k162_3 : x = 3
                          · -- case 3
                            refine lv_tableIn (off := 49) (tgt := 211) hx hb dX6_season_162 (by rw [k162_3]; decide) (by rw [k162_3]; decide) (by rw [k162_3]; decide) (by decide) ?_
                            refine lv_aload_n hx hb dX6_season_211 rfl (lv_at hl 3 rfl) ?_
                            refine va_get (D := D) (ci := 6) (v := .ref se) (C := RX6) (T := TX6) (N := 9) hx hb hts iX6 hown hK hP 0 rfl rfl 3 (by decide) f35 (fun _ h9 => h9) rfl dX6_season_212 ?_
                            refine va_getN (D := D) (ci := 3) (v := .ref tt) (C := RX3) (T := TX3) (N := 2) hx hb hts iX3 hown hK hP 10 rfl rfl 0 (by decide) f169 (fun _ h9 => h9) rfl dX6_season_215 ?_
                            have hPc := hP.sub (ws' := [(tt, .inr (5, [.ref xb, .ref lb, .int (nI zz.2.1)])), (xb, .inl (cI, 3, .inl zz.2.2.1))]) [11, 12] rfl
                            refine vp_callSi (va_Run.run (va_runV (As := []) (rest := []) ⟨hx, hb, hml, hown, hts⟩ (c_X5_allHung l D cI cO tt xb lb zz.2.1 zz.2.2.1 (hz3)) (cwV 0 hts gX6_season_X5_allHung rfl rfl rfl (by decide +kernel) ⟨Nat.le_of_ble_eq_true rfl, Nat.le_of_ble_eq_true rfl⟩) (preVR hPc hK hNw (va_recv hK hPc (ci := 5) (q0 := 0) rfl rfl)) rfl rfl hl.1 rfl (lv_room (Nat.le_of_ble_eq_true rfl)) dX6_season_218 ⟨Nat.zero_le _, Nat.zero_le _⟩)) (fun r218 w218 => ?_)
                            obtain rfl := w218
                            exact W.iret (v := orW zz.2.2.1 zz.2.1) hx hb hr (fun t ht hW => ⟨⟨_, (0, zz.2.2.2.2, zz.2.1, zz.2.2.1, zz.2.2.2.1), rfl, by rw [hsc, hsz]; simp [ifb, seaR, *], by rw [ht]; exact hP, va_K.moved hW.alike hK, hD⟩, hS.F ht⟩) hS.2.2 dX6_season_221
                          have t162_0 := lv_neT (k := 0) (a := 0) k162_0 (by decide)
                          have t162_1 := lv_neT (k := 1) (a := 1) k162_1 (by decide)
                          have t162_2 := lv_neT (k := 2) (a := 2) k162_2 (by decide)
                          have t162_3 := lv_neT (k := 3) (a := 3) k162_3 (by decide)
                          refine lv_tableOut (tgt := 222) hx hb dX6_season_162 (by omega) (by decide) ?_
                          refine lv_aload_n hx hb dX6_season_222 rfl (lv_at hl 3 rfl) ?_
                          refine va_get (D := D) (ci := 6) (v := .ref se) (C := RX6) (T := TX6) (N := 9) hx hb hts iX6 hown hK hP 0 rfl rfl 3 (by decide) f35 (fun _ h9 => h9) rfl dX6_season_223 ?_
                          refine va_getN (D := D) (ci := 3) (v := .ref tt) (C := RX3) (T := TX3) (N := 2) hx hb hts iX3 hown hK hP 10 rfl rfl 0 (by decide) f169 (fun _ h9 => h9) rfl dX6_season_226 ?_
                          have hPc := hP.sub (ws' := [(tt, .inr (5, [.ref xb, .ref lb, .int (nI zz.2.1)])), (lb, .inl (cI, 3, .inl zz.2.2.2.1))]) [11, 13] rfl
                          refine vp_callSi (va_Run.run (va_runV (As := []) (rest := []) ⟨hx, hb, hml, hown, hts⟩ (c_X5_leftTogether l D cI cO tt xb lb zz.2.1 zz.2.2.2.1 (hz3)) (cwV 0 hts gX6_season_X5_leftTogether rfl rfl rfl (by decide +kernel) ⟨Nat.le_of_ble_eq_true rfl, Nat.le_of_ble_eq_true rfl⟩) (preVR hPc hK hNw (va_recv hK hPc (ci := 5) (q0 := 0) rfl rfl)) rfl rfl hl.1 rfl (lv_room (Nat.le_of_ble_eq_true rfl)) dX6_season_229 ⟨Nat.zero_le _, Nat.zero_le _⟩)) (fun r229 w229 => ?_)
                          obtain rfl := w229
                          exact W.iret (v := addW zz.2.2.2.1 zz.2.1) hx hb hr (fun t ht hW => ⟨⟨_, (0, zz.2.2.2.2, zz.2.1, zz.2.2.1, zz.2.2.2.1), rfl, by rw [hsc, hsz]; simp [ifb, seaR, *], by rw [ht]; exact hP, va_K.moved hW.alike hK, hD⟩, hS.F ht⟩) hS.2.2 dX6_season_232
                        · -- f151
                          refine lv_bipush (v := -100) hx hb dX6_season_154 (by decide) ?_
                          refine lv_iload hx hb dX6_season_156 (lv_at hl 0 rfl) ?_
                          refine lv_isub hx hb dX6_season_158 ?_
                          exact W.iret (v := (-100) - zz.1) hx hb hr (fun t ht hW => ⟨⟨_, (0, zz.2.2.2.2, zz.2.1, zz.2.2.1, zz.2.2.2.1), rfl, by rw [hsc, hsz]; simp [ifb, seaR, *], by rw [ht]; exact hP, va_K.moved hW.alike hK, hD⟩, hS.F ht⟩) hS.2.2 dX6_season_159
                      · -- f141
                        refine lv_iload hx hb dX6_season_144 (lv_at hl 0 rfl) ?_
                        exact W.iret (v := zz.1) hx hb hr (fun t ht hW => ⟨⟨_, (0, zz.2.2.2.2, zz.2.1, zz.2.2.1, zz.2.2.2.1), rfl, by rw [hsc, hsz]; simp [ifb, seaR, *], by rw [ht]; exact hP, va_K.moved hW.alike hK, hD⟩, hS.F ht⟩) hS.2.2 dX6_season_146
                    · -- n107
                      obtain rfl := w107.2 b107
                      refine lv_if_ne (tgt := 116) hx hb dX6_season_110 (by decide) (fun h => absurd (by decide) h) (fun _ => ?_)
                      refine lv_bipush (v := -2) hx hb dX6_season_113 (by decide) ?_
                      exact W.iret (v := -2) hx hb hr (fun t ht hW => ⟨⟨_, (0, rg, vn, us, ul), rfl, by rw [show seaC n kq w (nI L) ln f (nI a0) (nI k) x = (-2, 0, false) from by unfold seaC; rw [if_pos hk, if_pos hok, if_pos hm0, if_neg c96, ca, ck, if_neg b107]]; exact ⟨rfl, rfl, rfl, rfl, rfl, rfl⟩, by rw [ht]; exact hP, va_K.moved hW.alike hK, hD⟩, hS.F ht⟩) hS.2.2 dX6_season_115
                  · -- f96
                    refine lv_bipush (v := -3) hx hb dX6_season_99 (by decide) ?_
                    exact W.iret (v := -3) hx hb hr (fun t ht hW => ⟨⟨_, (0, rg, vn, us, ul), rfl, by rw [show seaC n kq w (nI L) ln f (nI a0) (nI k) x = (-3, 0, false) from by unfold seaC; rw [if_pos hk, if_pos hok, if_pos hm0, if_pos c96]]; exact ⟨rfl, rfl, rfl, rfl, rfl, rfl⟩, by rw [ht]; exact hP, va_K.moved hW.alike hK, hD⟩, hS.F ht⟩) hS.2.2 dX6_season_101
                · -- f79
                  refine lv_aload_n hx hb dX6_season_82 rfl (lv_at hl 2 rfl) ?_
                  refine lv_iload hx hb dX6_season_83 (lv_at hl 0 rfl) ?_
                  have hPc := hP.sub (ws' := [(h, .inr (6, [.ref aS, .ref pe, .ref tq, .ref se, .ref mo, .ref re, .int bar, .int tr, .int 0]))]) [0] rfl
                  have hDc := hD.sub (ws' := [(h, .inr (6, [.ref aS, .ref pe, .ref tq, .ref se, .ref mo, .ref re, .int bar, .int tr, .int 0]))]) [0] (by decide) rfl
                  have hFc := va_free (wc := [(h, .inr (6, [.ref aS, .ref pe, .ref tq, .ref se, .ref mo, .ref re, .int bar, .int tr, .int 0]))]) hD hS hA [0] rfl
                  refine va_calli (va_runV (As := [.int (focI le i (nI (2 * k)))]) (rest := []) ⟨hx, hb, hml, hown, hts⟩ (c_X6_cameTo l D cI cO h aS pe tq se mo re bar tr 0 (focI le i (nI (2 * k))) _) (cwV 1 hts gX6_season_X6_cameTo rfl rfl rfl (by decide +kernel) ⟨Nat.le_of_ble_eq_true rfl, Nat.le_of_ble_eq_true rfl⟩) (preVW hPc hK hNw hDc (va_recv hK hPc (ci := 6) (q0 := 0) rfl rfl)) rfl rfl hl.1 rfl (lv_room (Nat.le_of_ble_eq_true rfl)) dX6_season_85 ⟨Nat.zero_le _, Nat.zero_le _⟩) hS (fun q _ h => hFc q h) hFc (fun r85 u t H1 locs ht hvm w85 hB hz1 hk1 hS => ?_)
                  obtain ⟨hP1, hK1, hD1⟩ := hB
                  rw [ht] at hP1
                  try dsimp only at w85
                  obtain ⟨hP, hD⟩ := va_join (wr := [(aS, .inl (cO, 4, .inr (.inr (.inr (.inr g))))), (so, .inr (4, [.ref co, .int ln, .int le])), (co, .inl (cI, 60, .inl f)), (pe, .inr (1, [.ref ka, .ref sa, .int (nI n)])), (ka, .inl (cI, 9, .inl kd)), (sa, .inl (cI, 9, .inl sd)), (tq, .inr (5, [.ref xa, .ref la, .int (nI tn)])), (xa, .inl (cI, 3, .inl ts)), (la, .inl (cI, 3, .inl tl)), (se, .inr (3, [.ref tt, .int rg])), (tt, .inr (5, [.ref xb, .ref lb, .int (nI vn)])), (xb, .inl (cI, 3, .inl us)), (lb, .inl (cI, 3, .inl ul))]) (w1 := [(h, .inr (6, [.ref aS, .ref pe, .ref tq, .ref se, .ref mo, .ref re, .int bar, .int tr, .int (focI le i (nI (2 * k)))]))]) hP hD [0] [1, 2, 3, 4, 5, 6, 7, 8, 9, 10, 11, 12, 13] rfl rfl (by decide) (by decide) hk1 hFc hP1 hD1
                  generalize H1 = H at hP hS ⊢
                  have hP := hP.sub (ws' := [(h, .inr (6, [.ref aS, .ref pe, .ref tq, .ref se, .ref mo, .ref re, .int bar, .int tr, .int (focI le i (nI (2 * k)))])), (aS, .inl (cO, 4, .inr (.inr (.inr (.inr g))))), (so, .inr (4, [.ref co, .int ln, .int le])), (co, .inl (cI, 60, .inl f)), (pe, .inr (1, [.ref ka, .ref sa, .int (nI n)])), (ka, .inl (cI, 9, .inl kd)), (sa, .inl (cI, 9, .inl sd)), (tq, .inr (5, [.ref xa, .ref la, .int (nI tn)])), (xa, .inl (cI, 3, .inl ts)), (la, .inl (cI, 3, .inl tl)), (se, .inr (3, [.ref tt, .int rg])), (tt, .inr (5, [.ref xb, .ref lb, .int (nI vn)])), (xb, .inl (cI, 3, .inl us)), (lb, .inl (cI, 3, .inl ul))]) [13, 0, 1, 2, 3, 4, 5, 6, 7, 8, 9, 10, 11, 12] rfl
                  have hD := hD.sub (ws' := [(h, .inr (6, [.ref aS, .ref pe, .ref tq, .ref se, .ref mo, .ref re, .int bar, .int tr, .int (focI le i (nI (2 * k)))])), (aS, .inl (cO, 4, .inr (.inr (.inr (.inr g))))), (so, .inr (4, [.ref co, .int ln, .int le])), (co, .inl (cI, 60, .inl f)), (pe, .inr (1, [.ref ka, .ref sa, .int (nI n)])), (ka, .inl (cI, 9, .inl kd)), (sa, .inl (cI, 9, .inl sd)), (tq, .inr (5, [.ref xa, .ref la, .int (nI tn)])), (xa, .inl (cI, 3, .inl ts)), (la, .inl (cI, 3, .inl tl)), (se, .inr (3, [.ref tt, .int rg])), (tt, .inr (5, [.ref xb, .ref lb, .int (nI vn)])), (xb, .inl (cI, 3, .inl us)), (lb, .inl (cI, 3, .inl ul))]) [13, 0, 1, 2, 3, 4, 5, 6, 7, 8, 9, 10, 11, 12] (by decide) rfl
                  obtain rfl := w85
                  exact W.iret (v := -10 - (focI le i (nI (2 * k)))) hx hb hr (fun t ht hW => ⟨⟨_, ((focI le i (nI (2 * k))), rg, vn, us, ul), rfl, by rw [show seaC n kq w le ln f i (nI k) x = (-10 - metS le ln w i (2 * nI k), metS le ln w i (2 * nI k), false) from by unfold seaC; rw [if_pos hk, if_pos hok, if_neg (by rw [hm]; exact c79)]]; rw [hm]; exact ⟨rfl, rfl, rfl, rfl, rfl, rfl⟩, by rw [ht]; exact hP, va_K.moved hW.alike hK, hD⟩, hS.F ht⟩) hS.2.2 dX6_season_88
            · -- f46
              refine lv_bipush (v := -2) hx hb dX6_season_49 (by decide) ?_
              exact W.iret (v := -2) hx hb hr (fun t ht hW => ⟨⟨_, (0, rg, vn, us, ul), rfl, by rw [show seaC n kq w le ln f i v x = (-2, 0, false) from by unfold seaC; rw [if_pos hk, if_neg (by unfold seaOk; simp [*])]]; exact ⟨rfl, rfl, rfl, rfl, rfl, rfl⟩, by rw [ht]; exact hP, va_K.moved hW.alike hK, hD⟩, hS.F ht⟩) hS.2.2 dX6_season_51
    · -- n20
      obtain rfl := w20.2 b20
      refine lv_if_eq (tgt := 49) hx hb dX6_season_23 (by decide) (fun _ => ?_) (fun h => absurd (by decide) h)
      refine lv_bipush (v := -2) hx hb dX6_season_49 (by decide) ?_
      exact W.iret (v := -2) hx hb hr (fun t ht hW => ⟨⟨_, (0, rg, vn, us, ul), rfl, by rw [show seaC n kq w le ln f i v x = (-2, 0, false) from by unfold seaC; rw [if_pos hk, if_neg (by unfold seaOk; simp [*])]]; exact ⟨rfl, rfl, rfl, rfl, rfl, rfl⟩, by rw [ht]; exact hP, va_K.moved hW.alike hK, hD⟩, hS.F ht⟩) hS.2.2 dX6_season_51
  · -- none such
    refine tp_v (y := .null) (by rw [shI_out hk]; rfl) ?_
    refine lv_astoreN (lv' := [(6, .null), (0, .ref h), (1, .int kq), (2, .int w), (3, .int i), (4, .int v), (5, .int x)]) hx hb dX6_season_10 hl (by decide) rfl (fun ls hl => ?_)
    refine lv_aloadN hx hb dX6_season_12 (lv_at hl 0 rfl) ?_
    refine lv_ifnonnullN hx hb dX6_season_14 ?_
    refine lv_iconst (v := -1) hx hb dX6_season_17 (by decide) ?_
    exact W.iret (v := -1) hx hb hr (fun t ht hW => ⟨⟨_, (0, rg, vn, us, ul), rfl, by rw [show seaC n kq w le ln f i v x = (-1, 0, false) from by exact if_neg hk]; exact ⟨rfl, rfl, rfl, rfl, rfl, rfl⟩, by rw [ht]; exact hP, va_K.moved hW.alike hK, hD⟩, hS.F ht⟩) hS.2.2 dX6_season_18

set_option maxHeartbeats 4000000 in
set_option maxRecDepth 100000 in
theorem c_X6_allAreStruckAt (l : Launch) (D : va_G) (cI cO : ClassId) (h : Nat) (aS : Nat) (pe : Nat) (tq : Nat) (se : Nat) (mo : Nat) (re : Nat) (bar : Int32) (tr : Int32) (fa : Int32) (so : Nat) (co : Nat) (ln : Int32) (L : Nat) (f : Nat → Int32) (ka : Nat) (sa : Nat) (n : Nat) (kd : Nat → Int32) (sd : Nat → Int32) (xa : Nat) (la : Nat) (tn : Nat) (ts : Nat → Int32) (x : Int32) (a0 : Nat) (hn : n ≤ 9) (ht3 : tn ≤ 3) (hL : L ≤ 60) (hk : a0 + tn ≤ L) : Met l yX6_allAreStruckAt wsX6_allAreStruckAt ({ frames := 2, cells := 0, slots := 0, locals := 42 } : Room) (va_Pc [.ref h, .int x, .ref so, .int (nI a0)] (wdR D cI cO [(h, .inr (6, [.ref aS, .ref pe, .ref tq, .ref se, .ref mo, .ref re, .int bar, .int tr, .int fa])), (so, .inr (4, [.ref co, .int ln, .int (nI L)])), (co, .inl (cI, 60, .inl f)), (pe, .inr (1, [.ref ka, .ref sa, .int (nI n)])), (sa, .inl (cI, 9, .inl sd)), (tq, .inr (5, [.ref xa, .ref la, .int (nI tn)])), (xa, .inl (cI, 3, .inl ts))])) (vp_Si (fun r => ((stkW n sd ts f a0 x tn 0 = true) → r = 1) ∧ (¬ (stkW n sd ts f a0 x tn 0 = true) → r = 0))) 0 0 (fun _ => False) := by
  refine Met.ofW (cc := cX6_allAreStruckAt) (maxL := 7) (ret := (some .boolean)) (by decide) rfl ?_
  intro p e s m args below meth c s₁ B hml hv
  obtain ⟨rfl, hP, hK, hNw⟩ := hv
  have hx := B.exec
  have hb := B.bytes
  have hr := B.returns
  have hts := atoms_spec (ws := wsX6_allAreStruckAt) B.pre
  have hown : s.vm.findClass RX6 = some m.cls := findClass_of_methodNamed B.named
  have hlocks := B.notSynchronized
  have f21 := hts (.fieldLink RX6 21 "StruckThrees" "people" "LStruckThrees$People;") (by decide +kernel)
  have f28 := hts (.fieldLink RX6 28 "StruckThrees" "threes" "LStruckThrees$Threes;") (by decide +kernel)
  have f195 := hNw.f (args := ([.ref h, .int x, .ref so, .int (nI a0)]).toArray) ("StruckThrees", 195, "StruckThrees$Threes", "count", "I") (by decide)
  have iX5 : ∀ w ∈ wsX50, w ∈ wsX6_allAreStruckAt := by decide +kernel
  have iX6 : ∀ w ∈ wsX60, w ∈ wsX6_allAreStruckAt := by decide +kernel
  have hP : va_P D vwCl [(h, .inr (6, [.ref aS, .ref pe, .ref tq, .ref se, .ref mo, .ref re, .int bar, .int tr, .int fa])), (so, .inr (4, [.ref co, .int ln, .int (nI L)])), (co, .inl (cI, 60, .inl f)), (pe, .inr (1, [.ref ka, .ref sa, .int (nI n)])), (sa, .inl (cI, 9, .inl sd)), (tq, .inr (5, [.ref xa, .ref la, .int (nI tn)])), (xa, .inl (cI, 3, .inl ts))] s.heap := hP
  have hl := lv_entry ([.ref h, .int x, .ref so, .int (nI a0)]) (n := 7) (Nat.le_of_ble_eq_true rfl)
  rw [lg_entry_eq]
  generalize (lg_sl ([.ref h, .int x, .ref so, .int (nI a0)]) ++ List.replicate (7 - (lg_sl ([.ref h, .int x, .ref so, .int (nI a0)])).length) Slot.unset).toArray = ls at hl ⊢
  have hl : lv_has ls 7 [(0, .ref h), (1, .int x), (2, .ref so), (3, .int (nI a0))] := hl
  refine lv_iconst (v := 0) hx hb dX6_allAreStruckAt_0 (by decide) ?_
  refine lv_istore (lv' := [(4, .int 0), (0, .ref h), (1, .int x), (2, .ref so), (3, .int (nI a0))]) hx hb dX6_allAreStruckAt_1 hl (by decide) rfl (fun ls hl => ?_)
  have lp3 : ∀ (fu3 : Nat) (i : Nat) (hi : i ≤ tn) (hq : stkW n sd ts f a0 x (tn - i) i = stkW n sd ts f a0 x tn 0) (hm3 : tn - i < fu3) (ls : Array Slot) (hl : lv_has ls 7 [(0, .ref h), (1, .int x), (2, .ref so), (3, .int (nI a0)), (4, .int (nI i))]), W p l e (headSpec wsX6_allAreStruckAt ({ frames := 2, cells := 0, slots := 0, locals := 42 } : Room)).room s m ([.ref h, .int x, .ref so, .int (nI a0)]).toArray below meth c s.heap [] 0 0 (MQ below (vp_Si (fun r => ((stkW n sd ts f a0 x tn 0 = true) → r = 1) ∧ (¬ (stkW n sd ts f a0 x tn 0 = true) → r = 0))) ([.ref h, .int x, .ref so, .int (nI a0)]).toArray s 0 0 (fun _ => False)) (F0 m 3 ls []) := by
    intro fu3
    induction fu3 with
    | zero =>
      intros; omega
    | succ fu3 ih3 =>
      intro i hi hq hm3 ls hl
      refine lv_iload hx hb dX6_allAreStruckAt_3 (lv_at hl 4 rfl) ?_
      refine lv_aload_n hx hb dX6_allAreStruckAt_5 rfl (lv_at hl 0 rfl) ?_
      refine va_get (D := D) (ci := 6) (v := .ref tq) (C := RX6) (T := TX6) (N := 9) hx hb hts iX6 hown hK hP 0 rfl rfl 2 (by decide) f28 (fun _ h9 => h9) rfl dX6_allAreStruckAt_6 ?_
      refine va_getN (D := D) (ci := 5) (v := .int (nI tn)) (C := RX5) (T := TX5) (N := 3) hx hb hts iX5 hown hK hP 5 rfl rfl 2 (by decide) f195 (fun _ h9 => h9) rfl dX6_allAreStruckAt_9 ?_
      refine lv_icmp_ge (tgt := 71) hx hb dX6_allAreStruckAt_12 (by decide) (fun c12 => ?_) (fun c12 => ?_)
      · -- t12
        have e12 : i = tn := by have q := ge_n (by omega) (by omega) c12; omega
        rw [e12] at hl
        refine lv_iconst (v := 1) hx hb dX6_allAreStruckAt_71 (by decide) ?_
        exact W.zret (v := 1) (ty := .boolean) hx hb hr rfl (fun t ht hW => ⟨_, rfl, by exact so_yes (by rw [← hq, e12, Nat.sub_self]; rfl), ht⟩) (fun _ h => absurd h List.not_mem_nil) dX6_allAreStruckAt_72
      · -- f12
        have l12 : i < tn := lt_n (by omega) (by omega) c12
        refine lv_iload_n hx hb dX6_allAreStruckAt_15 rfl (lv_at hl 1 rfl) ?_
        refine lv_aload_n hx hb dX6_allAreStruckAt_16 rfl (lv_at hl 2 rfl) ?_
        refine lv_iload_n hx hb dX6_allAreStruckAt_17 rfl (lv_at hl 3 rfl) ?_
        refine lv_iload hx hb dX6_allAreStruckAt_18 (lv_at hl 4 rfl) ?_
        refine lv_iadd hx hb dX6_allAreStruckAt_20 ?_
        refine tp_i (y := nI (a0 + i)) (nI_add _ _) ?_
        have hPc := hP.sub (ws' := [(so, .inr (4, [.ref co, .int ln, .int (nI L)])), (co, .inl (cI, 60, .inl f))]) [1, 2] rfl
        refine vp_callSi (va_Run.run (va_runV (As := [.int (nI (a0 + i))]) (rest := [.int x]) ⟨hx, hb, hml, hown, hts⟩ (c_X4_at l D cI cO so co ln L f (a0 + i) (by assumption) (by omega)) (cwV 1 hts gX6_allAreStruckAt_X4_at rfl rfl rfl (by decide +kernel) ⟨Nat.le_of_ble_eq_true rfl, Nat.le_of_ble_eq_true rfl⟩) (preVR hPc hK hNw (va_recv hK hPc (ci := 4) (q0 := 0) rfl rfl)) rfl rfl hl.1 rfl (lv_room (Nat.le_of_ble_eq_true rfl)) dX6_allAreStruckAt_21 ⟨Nat.zero_le _, Nat.zero_le _⟩)) (fun r21 w21 => ?_)
        obtain rfl := w21
        refine lv_isub hx hb dX6_allAreStruckAt_24 ?_
        refine lv_istore (lv' := [(5, .int (x - (f (a0 + i)))), (0, .ref h), (1, .int x), (2, .ref so), (3, .int (nI a0)), (4, .int (nI i))]) hx hb dX6_allAreStruckAt_25 hl (by decide) rfl (fun ls hl => ?_)
        refine lv_aload_n hx hb dX6_allAreStruckAt_27 rfl (lv_at hl 1 rfl) ?_
        refine va_get (D := D) (ci := 6) (v := .ref pe) (C := RX6) (T := TX6) (N := 9) hx hb hts iX6 hown hK hP 0 rfl rfl 1 (by decide) f21 (fun _ h9 => h9) rfl dX6_allAreStruckAt_28 ?_
        refine lv_aload_n hx hb dX6_allAreStruckAt_31 rfl (lv_at hl 1 rfl) ?_
        refine va_get (D := D) (ci := 6) (v := .ref tq) (C := RX6) (T := TX6) (N := 9) hx hb hts iX6 hown hK hP 0 rfl rfl 2 (by decide) f28 (fun _ h9 => h9) rfl dX6_allAreStruckAt_32 ?_
        refine lv_iload hx hb dX6_allAreStruckAt_35 (lv_at hl 5 rfl) ?_
        have hPc := hP.sub (ws' := [(tq, .inr (5, [.ref xa, .ref la, .int (nI tn)])), (xa, .inl (cI, 3, .inl ts))]) [5, 6] rfl
        refine vp_callSi (va_Run.run (va_runV (As := [.int (nI i)]) (rest := [.ref pe]) ⟨hx, hb, hml, hown, hts⟩ (c_X5_setOf l D cI cO tq xa la tn ts i (by assumption) (by assumption)) (cwV 1 hts gX6_allAreStruckAt_X5_setOf rfl rfl rfl (by decide +kernel) ⟨Nat.le_of_ble_eq_true rfl, Nat.le_of_ble_eq_true rfl⟩) (preVR hPc hK hNw (va_recv hK hPc (ci := 5) (q0 := 0) rfl rfl)) rfl rfl hl.1 rfl (lv_room (Nat.le_of_ble_eq_true rfl)) dX6_allAreStruckAt_37 ⟨Nat.zero_le _, Nat.zero_le _⟩)) (fun r37 w37 => ?_)
        obtain rfl := w37
        have hPc := hP.sub (ws' := [(pe, .inr (1, [.ref ka, .ref sa, .int (nI n)])), (sa, .inl (cI, 9, .inl sd))]) [3, 4] rfl
        refine vp_callSi (va_Run.run (va_runV (As := [.int (ts i)]) (rest := []) ⟨hx, hb, hml, hown, hts⟩ (c_X1_pitchOf l D cI cO pe ka sa n sd (ts i) (by assumption)) (cwV 1 hts gX6_allAreStruckAt_X1_pitchOf rfl rfl rfl (by decide +kernel) ⟨Nat.le_of_ble_eq_true rfl, Nat.le_of_ble_eq_true rfl⟩) (preVR hPc hK hNw (va_recv hK hPc (ci := 1) (q0 := 0) rfl rfl)) rfl rfl hl.1 rfl (lv_room (Nat.le_of_ble_eq_true rfl)) dX6_allAreStruckAt_40 ⟨Nat.zero_le _, Nat.zero_le _⟩)) (fun r40 w40 => ?_)
        obtain rfl := w40
        refine lv_istore (lv' := [(6, .int (sumW sd (ts i) n)), (5, .int (x - (f (a0 + i)))), (0, .ref h), (1, .int x), (2, .ref so), (3, .int (nI a0)), (4, .int (nI i))]) hx hb dX6_allAreStruckAt_43 hl (by decide) rfl (fun ls hl => ?_)
        refine lv_iload hx hb dX6_allAreStruckAt_45 (lv_at hl 1 rfl) ?_
        refine lv_if_lt (tgt := 63) hx hb dX6_allAreStruckAt_47 (by decide) (fun c47 => ?_) (fun c47 => ?_)
        · -- t47
          refine lv_iconst (v := 0) hx hb dX6_allAreStruckAt_63 (by decide) ?_
          exact W.zret (v := 0) (ty := .boolean) hx hb hr rfl (fun t ht hW => ⟨_, rfl, by exact so_no (by rw [← hq, show tn - i = (tn - (i + 1)) + 1 by omega, stkW, if_neg (fun q => by first | exact q.1 c47 | exact q.2.1 c52 | exact c60 q.2.2)]), ht⟩) (fun _ h => absurd h List.not_mem_nil) dX6_allAreStruckAt_64
        · -- f47
          refine lv_iload hx hb dX6_allAreStruckAt_50 (lv_at hl 0 rfl) ?_
          refine lv_if_le (tgt := 63) hx hb dX6_allAreStruckAt_52 (by decide) (fun c52 => ?_) (fun c52 => ?_)
          · -- t52
            refine lv_iconst (v := 0) hx hb dX6_allAreStruckAt_63 (by decide) ?_
            exact W.zret (v := 0) (ty := .boolean) hx hb hr rfl (fun t ht hW => ⟨_, rfl, by exact so_no (by rw [← hq, show tn - i = (tn - (i + 1)) + 1 by omega, stkW, if_neg (fun q => by first | exact q.1 c47 | exact q.2.1 c52 | exact c60 q.2.2)]), ht⟩) (fun _ h => absurd h List.not_mem_nil) dX6_allAreStruckAt_64
          · -- f52
            refine lv_iload hx hb dX6_allAreStruckAt_55 (lv_at hl 1 rfl) ?_
            refine lv_iload hx hb dX6_allAreStruckAt_57 (lv_at hl 0 rfl) ?_
            refine lv_irem hx hb dX6_allAreStruckAt_59 (fun q => c52 (by rw [q]; decide)) ?_
            refine lv_if_eq (tgt := 65) hx hb dX6_allAreStruckAt_60 (by decide) (fun c60 => ?_) (fun c60 => ?_)
            · -- t60
              refine lv_iinc (v := nI (i + 1)) (lv' := [(4, .int (nI (i + 1))), (6, .int (sumW sd (ts i) n)), (5, .int (x - (f (a0 + i)))), (0, .ref h), (1, .int x), (2, .ref so), (3, .int (nI a0))]) hx hb dX6_allAreStruckAt_65 hl (k := 6) rfl (nI_1 _) (by decide) rfl (fun ls hl => ?_)
              refine lv_goto (tgt := 3) hx hb dX6_allAreStruckAt_68 (by decide) ?_
              exact ih3 (i + 1) (by omega) (by rw [← hq, show tn - i = (tn - (i + 1)) + 1 by omega, stkW, if_pos ⟨c47, c52, c60⟩]) (by omega) _ (lv_sub hl [3, 4, 5, 6, 0] rfl)
            · -- f60
              refine lv_iconst (v := 0) hx hb dX6_allAreStruckAt_63 (by decide) ?_
              exact W.zret (v := 0) (ty := .boolean) hx hb hr rfl (fun t ht hW => ⟨_, rfl, by exact so_no (by rw [← hq, show tn - i = (tn - (i + 1)) + 1 by omega, stkW, if_neg (fun q => by first | exact q.1 c47 | exact q.2.1 c52 | exact c60 q.2.2)]), ht⟩) (fun _ h => absurd h List.not_mem_nil) dX6_allAreStruckAt_64
  exact lp3 _ 0 (Nat.zero_le _) (rfl) (Nat.lt_succ_self _) _ (lv_sub hl [1, 2, 3, 4, 0] rfl)

set_option maxHeartbeats 4000000 in
set_option maxRecDepth 100000 in
theorem c_X6_together (l : Launch) (D : va_G) (cI cO : ClassId) (h : Nat) (aS : Nat) (pe : Nat) (tq : Nat) (se : Nat) (mo : Nat) (re : Nat) (bar : Int32) (tr : Int32) (fa : Int32) (g : Nat → Option Nat) (so : Nat) (co : Nat) (ln : Int32) (le : Int32) (f : Nat → Int32) (ka : Nat) (sa : Nat) (n : Nat) (kd : Nat → Int32) (sd : Nat → Int32) (xa : Nat) (la : Nat) (tn : Nat) (ts : Nat → Int32) (kq : Int32) (w : Int32) (i : Int32) (sz : Nat) (hg : ¬ kq < 0 → kq < 4 → g kq.toNatClampNeg = some so) (hle : okL le) (hn : n ≤ 9) (ht3 : tn ≤ 3) (hpd : ∀ t, t < tn → ∃ d : Nat, 1 ≤ d ∧ d ≤ 81 ∧ sumW sd (ts t) n = nI d) : Met l yX6_together wsX6_together ({ frames := 3, cells := 0, slots := 0, locals := 68 } : Room) (va_Pc [.ref h, .int kq, .int w, .int i] (wdW D cI cO [(h, .inr (6, [.ref aS, .ref pe, .ref tq, .ref se, .ref mo, .ref re, .int bar, .int tr, .int fa])), (aS, .inl (cO, 4, .inr (.inr (.inr (.inr g))))), (so, .inr (4, [.ref co, .int ln, .int le])), (co, .inl (cI, 60, .inl f)), (pe, .inr (1, [.ref ka, .ref sa, .int (nI n)])), (sa, .inl (cI, 9, .inl sd)), (tq, .inr (5, [.ref xa, .ref la, .int (nI tn)])), (xa, .inl (cI, 3, .inl ts))] sz)) (va_Qi (S := Int32) (fun r u => r = (togC n sd tn ts kq w le ln f i).1 ∧ u = (togC n sd tn ts kq w le ln f i).2) (fun u t => va_P D vwCl [(h, .inr (6, [.ref aS, .ref pe, .ref tq, .ref se, .ref mo, .ref re, .int bar, .int tr, .int u])), (aS, .inl (cO, 4, .inr (.inr (.inr (.inr g))))), (so, .inr (4, [.ref co, .int ln, .int le])), (co, .inl (cI, 60, .inl f)), (pe, .inr (1, [.ref ka, .ref sa, .int (nI n)])), (sa, .inl (cI, 9, .inl sd)), (tq, .inr (5, [.ref xa, .ref la, .int (nI tn)])), (xa, .inl (cI, 3, .inl ts))] t.heap ∧ va_K D vwCl (tyL cI cO) t ∧ va_D (va_A [(h, .inr (6, [.ref aS, .ref pe, .ref tq, .ref se, .ref mo, .ref re, .int bar, .int tr, .int fa])), (aS, .inl (cO, 4, .inr (.inr (.inr (.inr g))))), (so, .inr (4, [.ref co, .int ln, .int le])), (co, .inl (cI, 60, .inl f)), (pe, .inr (1, [.ref ka, .ref sa, .int (nI n)])), (sa, .inl (cI, 9, .inl sd)), (tq, .inr (5, [.ref xa, .ref la, .int (nI tn)])), (xa, .inl (cI, 3, .inl ts))] sz) [(h, .inr (6, [.ref aS, .ref pe, .ref tq, .ref se, .ref mo, .ref re, .int bar, .int tr, .int u])), (aS, .inl (cO, 4, .inr (.inr (.inr (.inr g))))), (so, .inr (4, [.ref co, .int ln, .int le])), (co, .inl (cI, 60, .inl f)), (pe, .inr (1, [.ref ka, .ref sa, .int (nI n)])), (sa, .inl (cI, 9, .inl sd)), (tq, .inr (5, [.ref xa, .ref la, .int (nI tn)])), (xa, .inl (cI, 3, .inl ts))]) (va_A [(h, .inr (6, [.ref aS, .ref pe, .ref tq, .ref se, .ref mo, .ref re, .int bar, .int tr, .int fa])), (aS, .inl (cO, 4, .inr (.inr (.inr (.inr g))))), (so, .inr (4, [.ref co, .int ln, .int le])), (co, .inl (cI, 60, .inl f)), (pe, .inr (1, [.ref ka, .ref sa, .int (nI n)])), (sa, .inl (cI, 9, .inl sd)), (tq, .inr (5, [.ref xa, .ref la, .int (nI tn)])), (xa, .inl (cI, 3, .inl ts))] sz)) 0 0 (va_A [(h, .inr (6, [.ref aS, .ref pe, .ref tq, .ref se, .ref mo, .ref re, .int bar, .int tr, .int fa])), (aS, .inl (cO, 4, .inr (.inr (.inr (.inr g))))), (so, .inr (4, [.ref co, .int ln, .int le])), (co, .inl (cI, 60, .inl f)), (pe, .inr (1, [.ref ka, .ref sa, .int (nI n)])), (sa, .inl (cI, 9, .inl sd)), (tq, .inr (5, [.ref xa, .ref la, .int (nI tn)])), (xa, .inl (cI, 3, .inl ts))] sz) := by
  refine Met.ofW (cc := cX6_together) (maxL := 8) (ret := (some .int)) (by decide) rfl ?_
  intro p e s m args below meth c s₁ B hml hv
  obtain ⟨rfl, hsz, hP, hK, hNw, hD0⟩ := hv
  have hx := B.exec
  have hb := B.bytes
  have hr := B.returns
  have hts := atoms_spec (ws := wsX6_together) B.pre
  have hown : s.vm.findClass RX6 = some m.cls := findClass_of_methodNamed B.named
  have hlocks := B.notSynchronized
  have f21 := hts (.fieldLink RX6 21 "StruckThrees" "people" "LStruckThrees$People;") (by decide +kernel)
  have f28 := hts (.fieldLink RX6 28 "StruckThrees" "threes" "LStruckThrees$Threes;") (by decide +kernel)
  have f53 := hts (.fieldLink RX6 53 "StruckThrees" "fault" "I") (by decide +kernel)
  have f195 := hNw.f (args := ([.ref h, .int kq, .int w, .int i]).toArray) ("StruckThrees", 195, "StruckThrees$Threes", "count", "I") (by decide)
  have iX5 : ∀ w ∈ wsX50, w ∈ wsX6_together := by decide +kernel
  have iX6 : ∀ w ∈ wsX60, w ∈ wsX6_together := by decide +kernel
  subst hsz
  have hD := hD0.self (sz := s.heap.size)
  generalize hAe : va_A [(h, .inr (6, [.ref aS, .ref pe, .ref tq, .ref se, .ref mo, .ref re, .int bar, .int tr, .int fa])), (aS, .inl (cO, 4, .inr (.inr (.inr (.inr g))))), (so, .inr (4, [.ref co, .int ln, .int le])), (co, .inl (cI, 60, .inl f)), (pe, .inr (1, [.ref ka, .ref sa, .int (nI n)])), (sa, .inl (cI, 9, .inl sd)), (tq, .inr (5, [.ref xa, .ref la, .int (nI tn)])), (xa, .inl (cI, 3, .inl ts))] s.heap.size = A at hD ⊢
  have hA : ∀ q : Nat, s.heap.size ≤ q → A q := fun q h => by rw [← hAe]; exact Or.inr h
  have hS : va_S A s.heap s.heap [] := va_S.rf
  have hP : va_P D vwCl [(h, .inr (6, [.ref aS, .ref pe, .ref tq, .ref se, .ref mo, .ref re, .int bar, .int tr, .int fa])), (aS, .inl (cO, 4, .inr (.inr (.inr (.inr g))))), (so, .inr (4, [.ref co, .int ln, .int le])), (co, .inl (cI, 60, .inl f)), (pe, .inr (1, [.ref ka, .ref sa, .int (nI n)])), (sa, .inl (cI, 9, .inl sd)), (tq, .inr (5, [.ref xa, .ref la, .int (nI tn)])), (xa, .inl (cI, 3, .inl ts))] s.heap := hP
  have hl := lv_entry ([.ref h, .int kq, .int w, .int i]) (n := 8) (Nat.le_of_ble_eq_true rfl)
  rw [lg_entry_eq]
  generalize (lg_sl ([.ref h, .int kq, .int w, .int i]) ++ List.replicate (8 - (lg_sl ([.ref h, .int kq, .int w, .int i])).length) Slot.unset).toArray = ls at hl ⊢
  have hl : lv_has ls 8 [(0, .ref h), (1, .int kq), (2, .int w), (3, .int i)] := hl
  refine lv_aload_n hx hb dX6_together_0 rfl (lv_at hl 0 rfl) ?_
  refine lv_iconst (v := 0) hx hb dX6_together_1 (by decide) ?_
  refine va_put (D := D) (ci := 6) (v := .int 0) (ty := .int) (C := RX6) (T := TX6) (N := 9) hx hb hts iX6 tyX6 tyX6_ok nmX6 hown hK hP hD hS 0 rfl rfl 8 (by decide) f53 (fun _ h9 => h9) rfl (by decide +kernel) rfl rfl (Nat.le_of_ble_eq_true rfl) dX6_together_2 (fun H locs hP hD hS => ?_)
  have hP : va_P D vwCl [(h, .inr (6, [.ref aS, .ref pe, .ref tq, .ref se, .ref mo, .ref re, .int bar, .int tr, .int 0])), (aS, .inl (cO, 4, .inr (.inr (.inr (.inr g))))), (so, .inr (4, [.ref co, .int ln, .int le])), (co, .inl (cI, 60, .inl f)), (pe, .inr (1, [.ref ka, .ref sa, .int (nI n)])), (sa, .inl (cI, 9, .inl sd)), (tq, .inr (5, [.ref xa, .ref la, .int (nI tn)])), (xa, .inl (cI, 3, .inl ts))] H := hP
  have hD : va_D A [(h, .inr (6, [.ref aS, .ref pe, .ref tq, .ref se, .ref mo, .ref re, .int bar, .int tr, .int 0])), (aS, .inl (cO, 4, .inr (.inr (.inr (.inr g))))), (so, .inr (4, [.ref co, .int ln, .int le])), (co, .inl (cI, 60, .inl f)), (pe, .inr (1, [.ref ka, .ref sa, .int (nI n)])), (sa, .inl (cI, 9, .inl sd)), (tq, .inr (5, [.ref xa, .ref la, .int (nI tn)])), (xa, .inl (cI, 3, .inl ts))] := hD
  refine lv_aload_n hx hb dX6_together_5 rfl (lv_at hl 0 rfl) ?_
  refine lv_iload_n hx hb dX6_together_6 rfl (lv_at hl 1 rfl) ?_
  have hPc := hP.sub (ws' := [(h, .inr (6, [.ref aS, .ref pe, .ref tq, .ref se, .ref mo, .ref re, .int bar, .int tr, .int 0])), (aS, .inl (cO, 4, .inr (.inr (.inr (.inr g)))))]) [0, 1] rfl
  refine va_csq (va_Run.run (va_runV (As := [.int kq]) (rest := []) ⟨hx, hb, hml, hown, hts⟩ (c_X6_sheetAt l D cI cO h aS pe tq se mo re bar tr 0 g kq) (cwV 1 hts gX6_together_X6_sheetAt rfl rfl rfl (by decide +kernel) ⟨Nat.le_of_ble_eq_true rfl, Nat.le_of_ble_eq_true rfl⟩) (preVR hPc hK hNw (va_recv hK hPc (ci := 6) (q0 := 0) rfl rfl)) rfl rfl hl.1 rfl (lv_room (Nat.le_of_ble_eq_true rfl)) dX6_together_7 ⟨Nat.zero_le _, Nat.zero_le _⟩)) (fun r7 w7 => ?_)
  obtain rfl := w7
  by_cases hk : ¬ kq < 0 ∧ kq < 4
  · -- there
    refine tp_v (y := .ref so) (by rw [shI_in hk, hg hk.1 hk.2]; rfl) ?_
    refine lv_astore (lv' := [(4, .ref so), (0, .ref h), (1, .int kq), (2, .int w), (3, .int i)]) hx hb dX6_together_10 hl (by decide) rfl (fun ls hl => ?_)
    refine lv_aload hx hb dX6_together_12 (lv_at hl 0 rfl) ?_
    refine lv_ifnonnull (tgt := 19) hx hb dX6_together_14 (by decide) ?_
    refine lv_iload_n hx hb dX6_together_19 rfl (lv_at hl 3 rfl) ?_
    have hPc := hP.sub (ws' := []) [] rfl
    refine vp_callSi (va_Run.run (va_runS (As := [.int w]) (rest := []) ⟨hx, hb, hml, hown, hts⟩ (c_X6_isLane l D cI cO w) (va_cwS 1 hts gX6_together_X6_isLane rfl rfl rfl (by decide +kernel) ⟨Nat.le_of_ble_eq_true rfl, Nat.le_of_ble_eq_true rfl⟩) (preSR hPc hK hNw) rfl rfl hl.1 rfl (lv_room (Nat.le_of_ble_eq_true rfl)) dX6_together_20 ⟨Nat.zero_le _, Nat.zero_le _⟩)) (fun r20 w20 => ?_)
    by_cases b20 : lstT w 0 2 = true
    · -- y20
      obtain rfl := w20.1 b20
      refine lv_if_ne (tgt := 29) hx hb dX6_together_23 (by decide) (fun _ => ?_) (fun h => absurd h (by decide))
      refine lv_aload_n hx hb dX6_together_29 rfl (lv_at hl 1 rfl) ?_
      refine va_get (D := D) (ci := 6) (v := .ref tq) (C := RX6) (T := TX6) (N := 9) hx hb hts iX6 hown hK hP 0 rfl rfl 2 (by decide) f28 (fun _ h9 => h9) rfl dX6_together_30 ?_
      refine va_getN (D := D) (ci := 5) (v := .int (nI tn)) (C := RX5) (T := TX5) (N := 3) hx hb hts iX5 hown hK hP 6 rfl rfl 2 (by decide) f195 (fun _ h9 => h9) rfl dX6_together_33 ?_
      refine lv_if_ne (tgt := 42) hx hb dX6_together_36 (by decide) (fun c36 => ?_) (fun c36 => ?_)
      · -- t36
        refine lv_aload hx hb dX6_together_42 (lv_at hl 0 rfl) ?_
        refine lv_iload_n hx hb dX6_together_44 rfl (lv_at hl 3 rfl) ?_
        have hPc := hP.sub (ws' := [(so, .inr (4, [.ref co, .int ln, .int le]))]) [2] rfl
        refine vp_callSi (va_Run.run (va_runV (As := [.int w]) (rest := []) ⟨hx, hb, hml, hown, hts⟩ (c_X4_faultAs l D cI cO so co ln le w) (cwV 1 hts gX6_together_X4_faultAs rfl rfl rfl (by decide +kernel) ⟨Nat.le_of_ble_eq_true rfl, Nat.le_of_ble_eq_true rfl⟩) (preVR hPc hK hNw (va_recv hK hPc (ci := 4) (q0 := 0) rfl rfl)) rfl rfl hl.1 rfl (lv_room (Nat.le_of_ble_eq_true rfl)) dX6_together_45 ⟨Nat.zero_le _, Nat.zero_le _⟩)) (fun r45 w45 => ?_)
        obtain rfl := w45
        refine lv_istore (lv' := [(5, .int (fasI le ln w)), (4, .ref so), (0, .ref h), (1, .int kq), (2, .int w), (3, .int i)]) hx hb dX6_together_48 hl (by decide) rfl (fun ls hl => ?_)
        refine lv_iload hx hb dX6_together_50 (lv_at hl 0 rfl) ?_
        refine lv_if_ne (tgt := 70) hx hb dX6_together_52 (by decide) (fun c52 => ?_) (fun c52 => ?_)
        · -- t52
          have hm : metS le ln w i (nI tn) = fasI le ln w := if_neg c52
          refine lv_iload hx hb dX6_together_70 (lv_at hl 0 rfl) ?_
          refine lv_if_eq (tgt := 82) hx hb dX6_together_72 (by decide) (fun c72 => ?_) (fun c72 => ?_)
          · -- t72
            exact absurd c72 c52
          · -- f72
            refine lv_aload_n hx hb dX6_together_75 rfl (lv_at hl 2 rfl) ?_
            refine lv_iload hx hb dX6_together_76 (lv_at hl 0 rfl) ?_
            have hPc := hP.sub (ws' := [(h, .inr (6, [.ref aS, .ref pe, .ref tq, .ref se, .ref mo, .ref re, .int bar, .int tr, .int 0]))]) [0] rfl
            have hDc := hD.sub (ws' := [(h, .inr (6, [.ref aS, .ref pe, .ref tq, .ref se, .ref mo, .ref re, .int bar, .int tr, .int 0]))]) [0] (by decide) rfl
            have hFc := va_free (wc := [(h, .inr (6, [.ref aS, .ref pe, .ref tq, .ref se, .ref mo, .ref re, .int bar, .int tr, .int 0]))]) hD hS hA [0] rfl
            refine va_calli (va_runV (As := [.int (fasI le ln w)]) (rest := []) ⟨hx, hb, hml, hown, hts⟩ (c_X6_cameTo l D cI cO h aS pe tq se mo re bar tr 0 (fasI le ln w) _) (cwV 1 hts gX6_together_X6_cameTo rfl rfl rfl (by decide +kernel) ⟨Nat.le_of_ble_eq_true rfl, Nat.le_of_ble_eq_true rfl⟩) (preVW hPc hK hNw hDc (va_recv hK hPc (ci := 6) (q0 := 0) rfl rfl)) rfl rfl hl.1 rfl (lv_room (Nat.le_of_ble_eq_true rfl)) dX6_together_78 ⟨Nat.zero_le _, Nat.zero_le _⟩) hS (fun q _ h => hFc q h) hFc (fun r78 u t H1 locs ht hvm w78 hB hz1 hk1 hS => ?_)
            obtain ⟨hP1, hK1, hD1⟩ := hB
            rw [ht] at hP1
            try dsimp only at w78
            obtain ⟨hP, hD⟩ := va_join (wr := [(aS, .inl (cO, 4, .inr (.inr (.inr (.inr g))))), (so, .inr (4, [.ref co, .int ln, .int le])), (co, .inl (cI, 60, .inl f)), (pe, .inr (1, [.ref ka, .ref sa, .int (nI n)])), (sa, .inl (cI, 9, .inl sd)), (tq, .inr (5, [.ref xa, .ref la, .int (nI tn)])), (xa, .inl (cI, 3, .inl ts))]) (w1 := [(h, .inr (6, [.ref aS, .ref pe, .ref tq, .ref se, .ref mo, .ref re, .int bar, .int tr, .int (fasI le ln w)]))]) hP hD [0] [1, 2, 3, 4, 5, 6, 7] rfl rfl (by decide) (by decide) hk1 hFc hP1 hD1
            generalize H1 = H at hP hS ⊢
            have hP := hP.sub (ws' := [(h, .inr (6, [.ref aS, .ref pe, .ref tq, .ref se, .ref mo, .ref re, .int bar, .int tr, .int (fasI le ln w)])), (aS, .inl (cO, 4, .inr (.inr (.inr (.inr g))))), (so, .inr (4, [.ref co, .int ln, .int le])), (co, .inl (cI, 60, .inl f)), (pe, .inr (1, [.ref ka, .ref sa, .int (nI n)])), (sa, .inl (cI, 9, .inl sd)), (tq, .inr (5, [.ref xa, .ref la, .int (nI tn)])), (xa, .inl (cI, 3, .inl ts))]) [7, 0, 1, 2, 3, 4, 5, 6] rfl
            have hD := hD.sub (ws' := [(h, .inr (6, [.ref aS, .ref pe, .ref tq, .ref se, .ref mo, .ref re, .int bar, .int tr, .int (fasI le ln w)])), (aS, .inl (cO, 4, .inr (.inr (.inr (.inr g))))), (so, .inr (4, [.ref co, .int ln, .int le])), (co, .inl (cI, 60, .inl f)), (pe, .inr (1, [.ref ka, .ref sa, .int (nI n)])), (sa, .inl (cI, 9, .inl sd)), (tq, .inr (5, [.ref xa, .ref la, .int (nI tn)])), (xa, .inl (cI, 3, .inl ts))]) [7, 0, 1, 2, 3, 4, 5, 6] (by decide) rfl
            obtain rfl := w78
            exact W.iret (v := -10 - (fasI le ln w)) hx hb hr (fun t ht hW => ⟨⟨_, (fasI le ln w), rfl, by rw [show togC n sd tn ts kq w le ln f i = (-10 - metS le ln w i (nI tn), metS le ln w i (nI tn)) from by unfold togC; rw [if_pos hk, if_pos b20, if_neg c36, if_neg (by rw [hm]; exact c52)]]; rw [hm]; exact ⟨rfl, rfl⟩, by rw [ht]; exact hP, va_K.moved hW.alike hK, hD⟩, hS.F ht⟩) hS.2.2 dX6_together_81
        · -- f52
          have hm : metS le ln w i (nI tn) = focI le i (nI tn) := if_pos c52
          refine lv_aload hx hb dX6_together_55 (lv_at hl 1 rfl) ?_
          refine lv_iload_n hx hb dX6_together_57 rfl (lv_at hl 5 rfl) ?_
          refine lv_aload_n hx hb dX6_together_58 rfl (lv_at hl 2 rfl) ?_
          refine va_get (D := D) (ci := 6) (v := .ref tq) (C := RX6) (T := TX6) (N := 9) hx hb hts iX6 hown hK hP 0 rfl rfl 2 (by decide) f28 (fun _ h9 => h9) rfl dX6_together_59 ?_
          refine va_getN (D := D) (ci := 5) (v := .int (nI tn)) (C := RX5) (T := TX5) (N := 3) hx hb hts iX5 hown hK hP 6 rfl rfl 2 (by decide) f195 (fun _ h9 => h9) rfl dX6_together_62 ?_
          have hPc := hP.sub (ws' := [(so, .inr (4, [.ref co, .int ln, .int le]))]) [2] rfl
          refine vp_callSi (va_Run.run (va_runV (As := [.int i, .int (nI tn)]) (rest := []) ⟨hx, hb, hml, hown, hts⟩ (c_X4_faultOfCells l D cI cO so co ln le i (nI tn)) (cwV 2 hts gX6_together_X4_faultOfCells rfl rfl rfl (by decide +kernel) ⟨Nat.le_of_ble_eq_true rfl, Nat.le_of_ble_eq_true rfl⟩) (preVR hPc hK hNw (va_recv hK hPc (ci := 4) (q0 := 0) rfl rfl)) rfl rfl hl.1 rfl (lv_room (Nat.le_of_ble_eq_true rfl)) dX6_together_65 ⟨Nat.zero_le _, Nat.zero_le _⟩)) (fun r65 w65 => ?_)
          obtain rfl := w65
          refine lv_istore (lv' := [(5, .int (focI le i (nI tn))), (4, .ref so), (0, .ref h), (1, .int kq), (2, .int w), (3, .int i)]) hx hb dX6_together_68 hl (by decide) rfl (fun ls hl => ?_)
          refine lv_iload hx hb dX6_together_70 (lv_at hl 0 rfl) ?_
          refine lv_if_eq (tgt := 82) hx hb dX6_together_72 (by decide) (fun c72 => ?_) (fun c72 => ?_)
          · -- t72
            obtain ⟨L, hL, rfl⟩ := hle.resolve_left (fas0 c52).1
            obtain ⟨a0, k2, rfl, ek2, hak⟩ := foc0 hL c72
            have ek3 : tn = k2 := (nI_eq (by omega) (by omega)).mp ek2
            have hm0 := hm.trans c72
            have ca := nI_clamp (n := a0) (by omega)
            have htn0 : 0 < tn := Nat.pos_of_ne_zero (fun q => c36 (by rw [q]; rfl))
            obtain ⟨d, hd1, hd81, ed⟩ := hpd 0 htn0
            refine lv_iconst (v := 0) hx hb dX6_together_82 (by decide) ?_
            refine lv_istore (lv' := [(6, .int 0), (5, .int (focI (nI L) (nI a0) (nI tn))), (4, .ref so), (0, .ref h), (1, .int kq), (2, .int w), (3, .int (nI a0))]) hx hb dX6_together_83 hl (by decide) rfl (fun ls hl => ?_)
            have lp85 : ∀ (fu85 : Nat) (t_ : Nat) (hi : t_ ≤ tn) (hq : in99 f a0 (tn - t_) t_ = in99 f a0 tn 0) (hm85 : tn - t_ < fu85) (H : Heap) (locs : List Loc) (hP : va_P D vwCl [(h, .inr (6, [.ref aS, .ref pe, .ref tq, .ref se, .ref mo, .ref re, .int bar, .int tr, .int 0])), (aS, .inl (cO, 4, .inr (.inr (.inr (.inr g))))), (so, .inr (4, [.ref co, .int ln, .int (nI L)])), (co, .inl (cI, 60, .inl f)), (pe, .inr (1, [.ref ka, .ref sa, .int (nI n)])), (sa, .inl (cI, 9, .inl sd)), (tq, .inr (5, [.ref xa, .ref la, .int (nI tn)])), (xa, .inl (cI, 3, .inl ts))] H) (hD : va_D A [(h, .inr (6, [.ref aS, .ref pe, .ref tq, .ref se, .ref mo, .ref re, .int bar, .int tr, .int 0])), (aS, .inl (cO, 4, .inr (.inr (.inr (.inr g))))), (so, .inr (4, [.ref co, .int ln, .int (nI L)])), (co, .inl (cI, 60, .inl f)), (pe, .inr (1, [.ref ka, .ref sa, .int (nI n)])), (sa, .inl (cI, 9, .inl sd)), (tq, .inr (5, [.ref xa, .ref la, .int (nI tn)])), (xa, .inl (cI, 3, .inl ts))]) (hS : va_S A s.heap H locs) (ls : Array Slot) (hl : lv_has ls 8 [(0, .ref h), (1, .int kq), (2, .int w), (3, .int (nI a0)), (4, .ref so), (6, .int (nI t_))]), W p l e (headSpec wsX6_together ({ frames := 3, cells := 0, slots := 0, locals := 68 } : Room)).room s m ([.ref h, .int kq, .int w, .int (nI a0)]).toArray below meth c H locs 0 0 (MQ below (va_Qi (S := Int32) (fun r u => r = (togC n sd tn ts kq w (nI L) ln f (nI a0)).1 ∧ u = (togC n sd tn ts kq w (nI L) ln f (nI a0)).2) (fun u t => va_P D vwCl [(h, .inr (6, [.ref aS, .ref pe, .ref tq, .ref se, .ref mo, .ref re, .int bar, .int tr, .int u])), (aS, .inl (cO, 4, .inr (.inr (.inr (.inr g))))), (so, .inr (4, [.ref co, .int ln, .int (nI L)])), (co, .inl (cI, 60, .inl f)), (pe, .inr (1, [.ref ka, .ref sa, .int (nI n)])), (sa, .inl (cI, 9, .inl sd)), (tq, .inr (5, [.ref xa, .ref la, .int (nI tn)])), (xa, .inl (cI, 3, .inl ts))] t.heap ∧ va_K D vwCl (tyL cI cO) t ∧ va_D A [(h, .inr (6, [.ref aS, .ref pe, .ref tq, .ref se, .ref mo, .ref re, .int bar, .int tr, .int u])), (aS, .inl (cO, 4, .inr (.inr (.inr (.inr g))))), (so, .inr (4, [.ref co, .int ln, .int (nI L)])), (co, .inl (cI, 60, .inl f)), (pe, .inr (1, [.ref ka, .ref sa, .int (nI n)])), (sa, .inl (cI, 9, .inl sd)), (tq, .inr (5, [.ref xa, .ref la, .int (nI tn)])), (xa, .inl (cI, 3, .inl ts))]) A) ([.ref h, .int kq, .int w, .int (nI a0)]).toArray s 0 0 A) (F0 m 85 ls []) := by
              intro fu85
              induction fu85 with
              | zero =>
                intros; omega
              | succ fu85 ih85 =>
                intro t_ hi hq hm85 H locs hP hD hS ls hl
                refine lv_iload hx hb dX6_together_85 (lv_at hl 5 rfl) ?_
                refine lv_aload_n hx hb dX6_together_87 rfl (lv_at hl 0 rfl) ?_
                refine va_get (D := D) (ci := 6) (v := .ref tq) (C := RX6) (T := TX6) (N := 9) hx hb hts iX6 hown hK hP 0 rfl rfl 2 (by decide) f28 (fun _ h9 => h9) rfl dX6_together_88 ?_
                refine va_getN (D := D) (ci := 5) (v := .int (nI tn)) (C := RX5) (T := TX5) (N := 3) hx hb hts iX5 hown hK hP 6 rfl rfl 2 (by decide) f195 (fun _ h9 => h9) rfl dX6_together_91 ?_
                refine lv_icmp_ge (tgt := 132) hx hb dX6_together_94 (by decide) (fun c94 => ?_) (fun c94 => ?_)
                · -- t94
                  have e94 : t_ = tn := by have q := ge_n (by omega) (by omega) c94; omega
                  rw [e94] at hl
                  have h99 : in99 f a0 tn 0 = true := by rw [← hq, e94, Nat.sub_self]; rfl
                  obtain ⟨x0, hx0, ex0⟩ := in99_f tn 0 h99 0 (Nat.le_refl _) (by omega)
                  refine lv_iconst (v := 1) hx hb dX6_together_132 (by decide) ?_
                  refine lv_aload_n hx hb dX6_together_133 rfl (lv_at hl 0 rfl) ?_
                  refine va_get (D := D) (ci := 6) (v := .ref pe) (C := RX6) (T := TX6) (N := 9) hx hb hts iX6 hown hK hP 0 rfl rfl 1 (by decide) f21 (fun _ h9 => h9) rfl dX6_together_134 ?_
                  refine lv_aload_n hx hb dX6_together_137 rfl (lv_at hl 0 rfl) ?_
                  refine va_get (D := D) (ci := 6) (v := .ref tq) (C := RX6) (T := TX6) (N := 9) hx hb hts iX6 hown hK hP 0 rfl rfl 2 (by decide) f28 (fun _ h9 => h9) rfl dX6_together_138 ?_
                  refine lv_iconst (v := 0) hx hb dX6_together_141 (by decide) ?_
                  refine tp_i (y := nI 0) (rfl) ?_
                  have hPc := hP.sub (ws' := [(tq, .inr (5, [.ref xa, .ref la, .int (nI tn)])), (xa, .inl (cI, 3, .inl ts))]) [6, 7] rfl
                  refine vp_callSi (va_Run.run (va_runV (As := [.int (nI 0)]) (rest := [.ref pe, .int 1]) ⟨hx, hb, hml, hown, hts⟩ (c_X5_setOf l D cI cO tq xa la tn ts 0 (by assumption) (htn0)) (cwV 1 hts gX6_together_X5_setOf rfl rfl rfl (by decide +kernel) ⟨Nat.le_of_ble_eq_true rfl, Nat.le_of_ble_eq_true rfl⟩) (preVR hPc hK hNw (va_recv hK hPc (ci := 5) (q0 := 0) rfl rfl)) rfl rfl hl.1 rfl (lv_room (Nat.le_of_ble_eq_true rfl)) dX6_together_142 ⟨Nat.zero_le _, Nat.zero_le _⟩)) (fun r142 w142 => ?_)
                  obtain rfl := w142
                  have hPc := hP.sub (ws' := [(pe, .inr (1, [.ref ka, .ref sa, .int (nI n)])), (sa, .inl (cI, 9, .inl sd))]) [4, 5] rfl
                  refine vp_callSi (va_Run.run (va_runV (As := [.int (ts 0)]) (rest := [.int 1]) ⟨hx, hb, hml, hown, hts⟩ (c_X1_pitchOf l D cI cO pe ka sa n sd (ts 0) (by assumption)) (cwV 1 hts gX6_together_X1_pitchOf rfl rfl rfl (by decide +kernel) ⟨Nat.le_of_ble_eq_true rfl, Nat.le_of_ble_eq_true rfl⟩) (preVR hPc hK hNw (va_recv hK hPc (ci := 1) (q0 := 0) rfl rfl)) rfl rfl hl.1 rfl (lv_room (Nat.le_of_ble_eq_true rfl)) dX6_together_145 ⟨Nat.zero_le _, Nat.zero_le _⟩)) (fun r145 w145 => ?_)
                  obtain rfl := w145
                  refine tp_i (y := nI d) (ed) ?_
                  refine va_mmax hx hb (hml.trans hl.1.symm) hown (hts (.methodLink RX6 199 Lib.Math.max.name) (by decide +kernel)) (hts (.static Lib.Math.max.name) (by decide +kernel)) (hts (.initialized "java/lang/Math") (by decide +kernel)) (hts (.code Lib.Math.max.name Lib.Math.max.code 2 (some .int)) (by decide +kernel)) (Nat.le_of_ble_eq_true rfl) (Nat.le_of_ble_eq_true rfl) (Nat.zero_le _) (Nat.zero_le _) dX6_together_148 ?_
                  refine tp_i (y := nI d) (max1 hd1 (by omega)) ?_
                  refine lv_istore (lv' := [(6, .int (nI d)), (0, .ref h), (1, .int kq), (2, .int w), (3, .int (nI a0)), (4, .ref so)]) hx hb dX6_together_151 hl (by decide) rfl (fun ls hl => ?_)
                  refine lv_aload hx hb dX6_together_153 (lv_at hl 5 rfl) ?_
                  refine lv_iload_n hx hb dX6_together_155 rfl (lv_at hl 4 rfl) ?_
                  have hPc := hP.sub (ws' := [(so, .inr (4, [.ref co, .int ln, .int (nI L)])), (co, .inl (cI, 60, .inl f))]) [2, 3] rfl
                  refine vp_callSi (va_Run.run (va_runV (As := [.int (nI a0)]) (rest := []) ⟨hx, hb, hml, hown, hts⟩ (c_X4_at l D cI cO so co ln L f a0 (by assumption) (by omega)) (cwV 1 hts gX6_together_X4_at rfl rfl rfl (by decide +kernel) ⟨Nat.le_of_ble_eq_true rfl, Nat.le_of_ble_eq_true rfl⟩) (preVR hPc hK hNw (va_recv hK hPc (ci := 4) (q0 := 0) rfl rfl)) rfl rfl hl.1 rfl (lv_room (Nat.le_of_ble_eq_true rfl)) dX6_together_156 ⟨Nat.zero_le _, Nat.zero_le _⟩)) (fun r156 w156 => ?_)
                  obtain rfl := w156
                  refine tp_i (y := nI x0) (ex0) ?_
                  refine lv_istore (lv' := [(7, .int (nI x0)), (6, .int (nI d)), (0, .ref h), (1, .int kq), (2, .int w), (3, .int (nI a0)), (4, .ref so)]) hx hb dX6_together_159 hl (by decide) rfl (fun ls hl => ?_)
                  have lp161 : ∀ (fu161 : Nat) (x : Nat) (kf : Nat) (hxk : 1000 ≤ x + kf) (hx2 : x ≤ 2000) (hq2 : togW n sd ts f a0 tn d kf x = togW n sd ts f a0 tn d 1000 x0) (hm161 : 2000 - x < fu161) (H : Heap) (locs : List Loc) (hP : va_P D vwCl [(h, .inr (6, [.ref aS, .ref pe, .ref tq, .ref se, .ref mo, .ref re, .int bar, .int tr, .int 0])), (aS, .inl (cO, 4, .inr (.inr (.inr (.inr g))))), (so, .inr (4, [.ref co, .int ln, .int (nI L)])), (co, .inl (cI, 60, .inl f)), (pe, .inr (1, [.ref ka, .ref sa, .int (nI n)])), (sa, .inl (cI, 9, .inl sd)), (tq, .inr (5, [.ref xa, .ref la, .int (nI tn)])), (xa, .inl (cI, 3, .inl ts))] H) (hD : va_D A [(h, .inr (6, [.ref aS, .ref pe, .ref tq, .ref se, .ref mo, .ref re, .int bar, .int tr, .int 0])), (aS, .inl (cO, 4, .inr (.inr (.inr (.inr g))))), (so, .inr (4, [.ref co, .int ln, .int (nI L)])), (co, .inl (cI, 60, .inl f)), (pe, .inr (1, [.ref ka, .ref sa, .int (nI n)])), (sa, .inl (cI, 9, .inl sd)), (tq, .inr (5, [.ref xa, .ref la, .int (nI tn)])), (xa, .inl (cI, 3, .inl ts))]) (hS : va_S A s.heap H locs) (ls : Array Slot) (hl : lv_has ls 8 [(0, .ref h), (3, .int (nI a0)), (4, .ref so), (6, .int (nI d)), (7, .int (nI x))]), W p l e (headSpec wsX6_together ({ frames := 3, cells := 0, slots := 0, locals := 68 } : Room)).room s m ([.ref h, .int kq, .int w, .int (nI a0)]).toArray below meth c H locs 0 0 (MQ below (va_Qi (S := Int32) (fun r u => r = (togC n sd tn ts kq w (nI L) ln f (nI a0)).1 ∧ u = (togC n sd tn ts kq w (nI L) ln f (nI a0)).2) (fun u t => va_P D vwCl [(h, .inr (6, [.ref aS, .ref pe, .ref tq, .ref se, .ref mo, .ref re, .int bar, .int tr, .int u])), (aS, .inl (cO, 4, .inr (.inr (.inr (.inr g))))), (so, .inr (4, [.ref co, .int ln, .int (nI L)])), (co, .inl (cI, 60, .inl f)), (pe, .inr (1, [.ref ka, .ref sa, .int (nI n)])), (sa, .inl (cI, 9, .inl sd)), (tq, .inr (5, [.ref xa, .ref la, .int (nI tn)])), (xa, .inl (cI, 3, .inl ts))] t.heap ∧ va_K D vwCl (tyL cI cO) t ∧ va_D A [(h, .inr (6, [.ref aS, .ref pe, .ref tq, .ref se, .ref mo, .ref re, .int bar, .int tr, .int u])), (aS, .inl (cO, 4, .inr (.inr (.inr (.inr g))))), (so, .inr (4, [.ref co, .int ln, .int (nI L)])), (co, .inl (cI, 60, .inl f)), (pe, .inr (1, [.ref ka, .ref sa, .int (nI n)])), (sa, .inl (cI, 9, .inl sd)), (tq, .inr (5, [.ref xa, .ref la, .int (nI tn)])), (xa, .inl (cI, 3, .inl ts))]) A) ([.ref h, .int kq, .int w, .int (nI a0)]).toArray s 0 0 A) (F0 m 161 ls []) := by
                    intro fu161
                    induction fu161 with
                    | zero =>
                      intros; omega
                    | succ fu161 ih161 =>
                      intro x kf hxk hx2 hq2 hm161 H locs hP hD hS ls hl
                      refine lv_iload hx hb dX6_together_161 (lv_at hl 4 rfl) ?_
                      refine lv_sipush (v := 999) hx hb dX6_together_163 (by decide) ?_
                      refine lv_icmp_gt (tgt := 194) hx hb dX6_together_166 (by decide) (fun c166 => ?_) (fun c166 => ?_)
                      · -- t166
                        have z166 : 999 < x := (nI_ltI (a := 999) (by decide) (by omega)).mp c166
                        refine lv_bipush (v := -9) hx hb dX6_together_194 (by decide) ?_
                        exact W.iret (v := -9) hx hb hr (fun t ht hW => ⟨⟨_, 0, rfl, by rw [show togC n sd tn ts kq w (nI L) ln f (nI a0) = (-9, 0) from by unfold togC; rw [if_pos hk, if_pos b20, if_neg c36, if_pos hm0, ca, if_pos h99, ed, nI_clamp (n := d) (by omega), show f a0 = nI x0 from ex0, nI_clamp (n := x0) (by omega), ← hq2]; cases kf with | zero => rfl | succ e => rw [togW, if_pos z166]]; exact ⟨rfl, rfl⟩, by rw [ht]; exact hP, va_K.moved hW.alike hK, hD⟩, hS.F ht⟩) hS.2.2 dX6_together_196
                      · -- f166
                        have z166 : ¬ 999 < x := fun q => c166 (nI_lt (a := 999) q (by omega))
                        refine lv_aload_n hx hb dX6_together_169 rfl (lv_at hl 0 rfl) ?_
                        refine lv_iload hx hb dX6_together_170 (lv_at hl 4 rfl) ?_
                        refine lv_aload hx hb dX6_together_172 (lv_at hl 2 rfl) ?_
                        refine lv_iload_n hx hb dX6_together_174 rfl (lv_at hl 1 rfl) ?_
                        have hPc := hP.sub (ws' := [(h, .inr (6, [.ref aS, .ref pe, .ref tq, .ref se, .ref mo, .ref re, .int bar, .int tr, .int 0])), (so, .inr (4, [.ref co, .int ln, .int (nI L)])), (co, .inl (cI, 60, .inl f)), (pe, .inr (1, [.ref ka, .ref sa, .int (nI n)])), (sa, .inl (cI, 9, .inl sd)), (tq, .inr (5, [.ref xa, .ref la, .int (nI tn)])), (xa, .inl (cI, 3, .inl ts))]) [0, 2, 3, 4, 5, 6, 7] rfl
                        refine vp_callSi (va_Run.run (va_runV (As := [.int (nI x), .ref so, .int (nI a0)]) (rest := []) ⟨hx, hb, hml, hown, hts⟩ (c_X6_allAreStruckAt l D cI cO h aS pe tq se mo re bar tr 0 so co ln L f ka sa n (fun _ => 0) sd xa la tn ts (nI x) a0 (by assumption) (by assumption) (by assumption) (by omega)) (cwV 3 hts gX6_together_X6_allAreStruckAt rfl rfl rfl (by decide +kernel) ⟨Nat.le_of_ble_eq_true rfl, Nat.le_of_ble_eq_true rfl⟩) (preVR hPc hK hNw (va_recv hK hPc (ci := 6) (q0 := 0) rfl rfl)) rfl rfl hl.1 rfl (lv_room (Nat.le_of_ble_eq_true rfl)) dX6_together_175 ⟨Nat.zero_le _, Nat.zero_le _⟩)) (fun r175 w175 => ?_)
                        by_cases b175 : stkW n sd ts f a0 (nI x) tn 0 = true
                        · -- y175
                          obtain rfl := w175.1 b175
                          refine lv_if_eq (tgt := 184) hx hb dX6_together_178 (by decide) (fun h => absurd h (by decide)) (fun _ => ?_)
                          refine lv_iload hx hb dX6_together_181 (lv_at hl 4 rfl) ?_
                          exact W.iret (v := nI x) hx hb hr (fun t ht hW => ⟨⟨_, 0, rfl, by rw [show togC n sd tn ts kq w (nI L) ln f (nI a0) = (nI x, 0) from by unfold togC; rw [if_pos hk, if_pos b20, if_neg c36, if_pos hm0, ca, if_pos h99, ed, nI_clamp (n := d) (by omega), show f a0 = nI x0 from ex0, nI_clamp (n := x0) (by omega), ← hq2]; obtain ⟨e, rfl⟩ : ∃ e, kf = e + 1 := ⟨kf - 1, by omega⟩; rw [togW, if_neg z166, if_pos b175]]; exact ⟨rfl, rfl⟩, by rw [ht]; exact hP, va_K.moved hW.alike hK, hD⟩, hS.F ht⟩) hS.2.2 dX6_together_183
                        · -- n175
                          obtain rfl := w175.2 b175
                          refine lv_if_eq (tgt := 184) hx hb dX6_together_178 (by decide) (fun _ => ?_) (fun h => absurd (by decide) h)
                          refine lv_iload hx hb dX6_together_184 (lv_at hl 4 rfl) ?_
                          refine lv_iload hx hb dX6_together_186 (lv_at hl 3 rfl) ?_
                          refine lv_iadd hx hb dX6_together_188 ?_
                          refine tp_i (y := nI (x + d)) (nI_add _ _) ?_
                          refine lv_istore (lv' := [(7, .int (nI (x + d))), (0, .ref h), (3, .int (nI a0)), (4, .ref so), (6, .int (nI d))]) hx hb dX6_together_189 hl (by decide) rfl (fun ls hl => ?_)
                          refine lv_goto (tgt := 161) hx hb dX6_together_191 (by decide) ?_
                          exact ih161 (x + d) (kf - 1) (by omega) (by omega) (by rw [← hq2]; obtain ⟨e, rfl⟩ : ∃ e, kf = e + 1 := ⟨kf - 1, by omega⟩; rw [togW, if_neg z166, if_neg b175]; rfl) (by omega) _ _ hP hD hS _ (lv_sub hl [1, 2, 3, 4, 0] rfl)
                  exact lp161 _ x0 1000 (by omega) (by omega) (rfl) (Nat.lt_succ_self _) _ _ hP hD hS _ (lv_sub hl [2, 5, 6, 1, 0] rfl)
                · -- f94
                  have l94 : t_ < tn := lt_n (by omega) (by omega) c94
                  refine lv_aload hx hb dX6_together_97 (lv_at hl 4 rfl) ?_
                  refine lv_iload_n hx hb dX6_together_99 rfl (lv_at hl 3 rfl) ?_
                  refine lv_iload hx hb dX6_together_100 (lv_at hl 5 rfl) ?_
                  refine lv_iadd hx hb dX6_together_102 ?_
                  refine tp_i (y := nI (a0 + t_)) (nI_add _ _) ?_
                  have hPc := hP.sub (ws' := [(so, .inr (4, [.ref co, .int ln, .int (nI L)])), (co, .inl (cI, 60, .inl f))]) [2, 3] rfl
                  refine vp_callSi (va_Run.run (va_runV (As := [.int (nI (a0 + t_))]) (rest := []) ⟨hx, hb, hml, hown, hts⟩ (c_X4_at l D cI cO so co ln L f (a0 + t_) (by assumption) (by omega)) (cwV 1 hts gX6_together_X4_at rfl rfl rfl (by decide +kernel) ⟨Nat.le_of_ble_eq_true rfl, Nat.le_of_ble_eq_true rfl⟩) (preVR hPc hK hNw (va_recv hK hPc (ci := 4) (q0 := 0) rfl rfl)) rfl rfl hl.1 rfl (lv_room (Nat.le_of_ble_eq_true rfl)) dX6_together_103 ⟨Nat.zero_le _, Nat.zero_le _⟩)) (fun r103 w103 => ?_)
                  obtain rfl := w103
                  refine lv_if_lt (tgt := 123) hx hb dX6_together_106 (by decide) (fun c106 => ?_) (fun c106 => ?_)
                  · -- t106
                    refine lv_bipush (v := -2) hx hb dX6_together_123 (by decide) ?_
                    exact W.iret (v := -2) hx hb hr (fun t ht hW => ⟨⟨_, 0, rfl, by rw [show togC n sd tn ts kq w (nI L) ln f (nI a0) = (-2, 0) from by unfold togC; rw [if_pos hk, if_pos b20, if_neg c36, if_pos hm0, ca, if_neg (by rw [← hq, show tn - t_ = (tn - (t_ + 1)) + 1 by omega, in99, if_neg (fun q => by first | exact q.1 c106 | exact c120 q.2)]; decide)]]; exact ⟨rfl, rfl⟩, by rw [ht]; exact hP, va_K.moved hW.alike hK, hD⟩, hS.F ht⟩) hS.2.2 dX6_together_125
                  · -- f106
                    refine lv_aload hx hb dX6_together_109 (lv_at hl 4 rfl) ?_
                    refine lv_iload_n hx hb dX6_together_111 rfl (lv_at hl 3 rfl) ?_
                    refine lv_iload hx hb dX6_together_112 (lv_at hl 5 rfl) ?_
                    refine lv_iadd hx hb dX6_together_114 ?_
                    refine tp_i (y := nI (a0 + t_)) (nI_add _ _) ?_
                    have hPc := hP.sub (ws' := [(so, .inr (4, [.ref co, .int ln, .int (nI L)])), (co, .inl (cI, 60, .inl f))]) [2, 3] rfl
                    refine vp_callSi (va_Run.run (va_runV (As := [.int (nI (a0 + t_))]) (rest := []) ⟨hx, hb, hml, hown, hts⟩ (c_X4_at l D cI cO so co ln L f (a0 + t_) (by assumption) (by omega)) (cwV 1 hts gX6_together_X4_at rfl rfl rfl (by decide +kernel) ⟨Nat.le_of_ble_eq_true rfl, Nat.le_of_ble_eq_true rfl⟩) (preVR hPc hK hNw (va_recv hK hPc (ci := 4) (q0 := 0) rfl rfl)) rfl rfl hl.1 rfl (lv_room (Nat.le_of_ble_eq_true rfl)) dX6_together_115 ⟨Nat.zero_le _, Nat.zero_le _⟩)) (fun r115 w115 => ?_)
                    obtain rfl := w115
                    refine lv_bipush (v := 99) hx hb dX6_together_118 (by decide) ?_
                    refine lv_icmp_le (tgt := 126) hx hb dX6_together_120 (by decide) (fun c120 => ?_) (fun c120 => ?_)
                    · -- t120
                      refine lv_iinc (v := nI (t_ + 1)) (lv' := [(6, .int (nI (t_ + 1))), (0, .ref h), (1, .int kq), (2, .int w), (3, .int (nI a0)), (4, .ref so)]) hx hb dX6_together_126 hl (k := 5) rfl (nI_1 _) (by decide) rfl (fun ls hl => ?_)
                      refine lv_goto (tgt := 85) hx hb dX6_together_129 (by decide) ?_
                      exact ih85 (t_ + 1) (by omega) (by rw [← hq, show tn - t_ = (tn - (t_ + 1)) + 1 by omega, in99, if_pos ⟨c106, c120⟩]) (by omega) _ _ hP hD hS _ (lv_sub hl [1, 2, 3, 4, 5, 0] rfl)
                    · -- f120
                      refine lv_bipush (v := -2) hx hb dX6_together_123 (by decide) ?_
                      exact W.iret (v := -2) hx hb hr (fun t ht hW => ⟨⟨_, 0, rfl, by rw [show togC n sd tn ts kq w (nI L) ln f (nI a0) = (-2, 0) from by unfold togC; rw [if_pos hk, if_pos b20, if_neg c36, if_pos hm0, ca, if_neg (by rw [← hq, show tn - t_ = (tn - (t_ + 1)) + 1 by omega, in99, if_neg (fun q => by first | exact q.1 c106 | exact c120 q.2)]; decide)]]; exact ⟨rfl, rfl⟩, by rw [ht]; exact hP, va_K.moved hW.alike hK, hD⟩, hS.F ht⟩) hS.2.2 dX6_together_125
            exact lp85 _ 0 (Nat.zero_le _) (rfl) (Nat.lt_succ_self _) _ _ hP hD hS _ (lv_sub hl [3, 4, 5, 6, 2, 0] rfl)
          · -- f72
            refine lv_aload_n hx hb dX6_together_75 rfl (lv_at hl 2 rfl) ?_
            refine lv_iload hx hb dX6_together_76 (lv_at hl 0 rfl) ?_
            have hPc := hP.sub (ws' := [(h, .inr (6, [.ref aS, .ref pe, .ref tq, .ref se, .ref mo, .ref re, .int bar, .int tr, .int 0]))]) [0] rfl
            have hDc := hD.sub (ws' := [(h, .inr (6, [.ref aS, .ref pe, .ref tq, .ref se, .ref mo, .ref re, .int bar, .int tr, .int 0]))]) [0] (by decide) rfl
            have hFc := va_free (wc := [(h, .inr (6, [.ref aS, .ref pe, .ref tq, .ref se, .ref mo, .ref re, .int bar, .int tr, .int 0]))]) hD hS hA [0] rfl
            refine va_calli (va_runV (As := [.int (focI le i (nI tn))]) (rest := []) ⟨hx, hb, hml, hown, hts⟩ (c_X6_cameTo l D cI cO h aS pe tq se mo re bar tr 0 (focI le i (nI tn)) _) (cwV 1 hts gX6_together_X6_cameTo rfl rfl rfl (by decide +kernel) ⟨Nat.le_of_ble_eq_true rfl, Nat.le_of_ble_eq_true rfl⟩) (preVW hPc hK hNw hDc (va_recv hK hPc (ci := 6) (q0 := 0) rfl rfl)) rfl rfl hl.1 rfl (lv_room (Nat.le_of_ble_eq_true rfl)) dX6_together_78 ⟨Nat.zero_le _, Nat.zero_le _⟩) hS (fun q _ h => hFc q h) hFc (fun r78 u t H1 locs ht hvm w78 hB hz1 hk1 hS => ?_)
            obtain ⟨hP1, hK1, hD1⟩ := hB
            rw [ht] at hP1
            try dsimp only at w78
            obtain ⟨hP, hD⟩ := va_join (wr := [(aS, .inl (cO, 4, .inr (.inr (.inr (.inr g))))), (so, .inr (4, [.ref co, .int ln, .int le])), (co, .inl (cI, 60, .inl f)), (pe, .inr (1, [.ref ka, .ref sa, .int (nI n)])), (sa, .inl (cI, 9, .inl sd)), (tq, .inr (5, [.ref xa, .ref la, .int (nI tn)])), (xa, .inl (cI, 3, .inl ts))]) (w1 := [(h, .inr (6, [.ref aS, .ref pe, .ref tq, .ref se, .ref mo, .ref re, .int bar, .int tr, .int (focI le i (nI tn))]))]) hP hD [0] [1, 2, 3, 4, 5, 6, 7] rfl rfl (by decide) (by decide) hk1 hFc hP1 hD1
            generalize H1 = H at hP hS ⊢
            have hP := hP.sub (ws' := [(h, .inr (6, [.ref aS, .ref pe, .ref tq, .ref se, .ref mo, .ref re, .int bar, .int tr, .int (focI le i (nI tn))])), (aS, .inl (cO, 4, .inr (.inr (.inr (.inr g))))), (so, .inr (4, [.ref co, .int ln, .int le])), (co, .inl (cI, 60, .inl f)), (pe, .inr (1, [.ref ka, .ref sa, .int (nI n)])), (sa, .inl (cI, 9, .inl sd)), (tq, .inr (5, [.ref xa, .ref la, .int (nI tn)])), (xa, .inl (cI, 3, .inl ts))]) [7, 0, 1, 2, 3, 4, 5, 6] rfl
            have hD := hD.sub (ws' := [(h, .inr (6, [.ref aS, .ref pe, .ref tq, .ref se, .ref mo, .ref re, .int bar, .int tr, .int (focI le i (nI tn))])), (aS, .inl (cO, 4, .inr (.inr (.inr (.inr g))))), (so, .inr (4, [.ref co, .int ln, .int le])), (co, .inl (cI, 60, .inl f)), (pe, .inr (1, [.ref ka, .ref sa, .int (nI n)])), (sa, .inl (cI, 9, .inl sd)), (tq, .inr (5, [.ref xa, .ref la, .int (nI tn)])), (xa, .inl (cI, 3, .inl ts))]) [7, 0, 1, 2, 3, 4, 5, 6] (by decide) rfl
            obtain rfl := w78
            exact W.iret (v := -10 - (focI le i (nI tn))) hx hb hr (fun t ht hW => ⟨⟨_, (focI le i (nI tn)), rfl, by rw [show togC n sd tn ts kq w le ln f i = (-10 - metS le ln w i (nI tn), metS le ln w i (nI tn)) from by unfold togC; rw [if_pos hk, if_pos b20, if_neg c36, if_neg (by rw [hm]; exact c72)]]; rw [hm]; exact ⟨rfl, rfl⟩, by rw [ht]; exact hP, va_K.moved hW.alike hK, hD⟩, hS.F ht⟩) hS.2.2 dX6_together_81
      · -- f36
        refine lv_bipush (v := -3) hx hb dX6_together_39 (by decide) ?_
        exact W.iret (v := -3) hx hb hr (fun t ht hW => ⟨⟨_, 0, rfl, by rw [show togC n sd tn ts kq w le ln f i = (-3, 0) from by unfold togC; rw [if_pos hk, if_pos b20, if_pos c36]]; exact ⟨rfl, rfl⟩, by rw [ht]; exact hP, va_K.moved hW.alike hK, hD⟩, hS.F ht⟩) hS.2.2 dX6_together_41
    · -- n20
      obtain rfl := w20.2 b20
      refine lv_if_ne (tgt := 29) hx hb dX6_together_23 (by decide) (fun h => absurd (by decide) h) (fun _ => ?_)
      refine lv_bipush (v := -2) hx hb dX6_together_26 (by decide) ?_
      exact W.iret (v := -2) hx hb hr (fun t ht hW => ⟨⟨_, 0, rfl, by rw [show togC n sd tn ts kq w le ln f i = (-2, 0) from by unfold togC; rw [if_pos hk, if_neg b20]]; exact ⟨rfl, rfl⟩, by rw [ht]; exact hP, va_K.moved hW.alike hK, hD⟩, hS.F ht⟩) hS.2.2 dX6_together_28
  · -- none such
    refine tp_v (y := .null) (by rw [shI_out hk]; rfl) ?_
    refine lv_astoreN (lv' := [(4, .null), (0, .ref h), (1, .int kq), (2, .int w), (3, .int i)]) hx hb dX6_together_10 hl (by decide) rfl (fun ls hl => ?_)
    refine lv_aloadN hx hb dX6_together_12 (lv_at hl 0 rfl) ?_
    refine lv_ifnonnullN hx hb dX6_together_14 ?_
    refine lv_iconst (v := -1) hx hb dX6_together_17 (by decide) ?_
    exact W.iret (v := -1) hx hb hr (fun t ht hW => ⟨⟨_, 0, rfl, by rw [show togC n sd tn ts kq w le ln f i = (-1, 0) from by exact if_neg hk]; exact ⟨rfl, rfl⟩, by rw [ht]; exact hP, va_K.moved hW.alike hK, hD⟩, hS.F ht⟩) hS.2.2 dX6_together_18
