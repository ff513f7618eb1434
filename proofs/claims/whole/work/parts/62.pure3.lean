/-! seasons: what a row holds beyond its range doesn't matter -/
abbrev sZ : Type := Nat × (Nat → Int32) × (Nat → Int32) × Int32
def eqv (z y : sZ) : Prop := z.1 = y.1 ∧ z.1 ≤ 3 ∧ (∀ j, j < 3 → z.2.1 j = y.2.1 j) ∧ (∀ j, j < 3 → z.2.2.1 j = y.2.2.1 j) ∧ z.2.2.2 = y.2.2.2
theorem cnt_cg {f g : Nat → Int32} : ∀ k, (∀ j, j < k → f j = g j) → cntW f k = cntW g k
  | 0, _ => rfl
  | k + 1, h => by unfold cntW; rw [cnt_cg k (fun j hj => h j (by omega)), h k (by omega)]
theorem or_cg {f g : Nat → Int32} : ∀ k, (∀ j, j < k → f j = g j) → orW f k = orW g k
  | 0, _ => rfl
  | k + 1, h => by unfold orW; rw [or_cg k (fun j hj => h j (by omega)), h k (by omega)]
theorem add_cg {f g : Nat → Int32} : ∀ k, (∀ j, j < k → f j = g j) → addW f k = addW g k
  | 0, _ => rfl
  | k + 1, h => by unfold addW; rw [add_cg k (fun j hj => h j (by omega)), h k (by omega)]
theorem it_cg {tn : Nat} {tl ul : Nat → Int32} {rg : Int32} (ht : tn ≤ 3) (h : ∀ j, j < 3 → tl j = ul j) : ∀ i, (∀ j, j < 3 → (itB tn tl rg i).1 j = (itB tn ul rg i).1 j) ∧ (itB tn tl rg i).2 = (itB tn ul rg i).2
  | 0 => ⟨h, rfl⟩
  | i + 1 => by
    obtain ⟨h1, h2⟩ := it_cg (rg := rg) ht h i
    refine ⟨fun j hj => ?_, ?_⟩
    · show goF (itB tn tl rg i).1 1 tn j = goF (itB tn ul rg i).1 1 tn j
      unfold goF; rw [h1 j hj]
    · show (if cntW (itB tn tl rg i).1 tn ≤ 0 then (itB tn tl rg i).2 else (itB tn tl rg i).2 + 1) = (if cntW (itB tn ul rg i).1 tn ≤ 0 then (itB tn ul rg i).2 else (itB tn ul rg i).2 + 1)
      rw [cnt_cg tn (fun j hj => h1 j (by omega)), h2]
theorem canB_cg {z y : sZ} {a : Nat} {act : Int32} (h : eqv z y) : canB z.1 z.2.2.1 a act = canB y.1 y.2.2.1 a act := by
  obtain ⟨h1, h2, h3, h4, h5⟩ := h
  unfold canB
  rw [← h1]
  by_cases c : a < z.1
  · rw [h4 a (by omega)]
  · simp [c]
theorem canB_a {tn : Nat} {tl : Nat → Int32} {a : Nat} {act : Int32} (h : canB tn tl a act = true) (h2 : act = 0 ∨ act = 1 ∨ act = 3) : a < tn := by
  unfold canB at h
  rcases h2 with q | q | q
  · rw [if_pos q] at h; exact (of_decide_eq_true h).1
  · rw [if_neg (by rw [q]; decide), if_pos q] at h; exact (of_decide_eq_true h).1
  · rw [if_neg (by rw [q]; decide), if_neg (by rw [q]; decide), if_pos q] at h; exact of_decide_eq_true h
theorem pfm_cg {n : Nat} {kd sd : Nat → Int32} {z y : sZ} {a : Nat} {act : Int32} (h : eqv z y) (hc : canB z.1 z.2.2.1 a act = true) : eqv (pfm n kd sd a act z) (pfm n kd sd a act y) := by
  have h0 := h
  obtain ⟨h1, h2, h3, h4, h5⟩ := h
  unfold pfm
  by_cases c0 : act = 0
  · rw [if_pos c0, if_pos c0]
    have ha := canB_a hc (Or.inl c0)
    refine ⟨h1, h2, h3, fun j hj => ?_, h5⟩
    show upd z.2.2.1 a _ j = upd y.2.2.1 a _ j
    unfold upd; rw [h3 a (by omega), h4 j hj]
  · rw [if_neg c0, if_neg c0]
    by_cases c1 : act = 1
    · rw [if_pos c1, if_pos c1]
      refine ⟨h1, h2, h3, fun j hj => ?_, h5⟩
      show upd z.2.2.1 a _ j = upd y.2.2.1 a _ j
      unfold upd; rw [h4 j hj]
    · rw [if_neg c1, if_neg c1]
      by_cases c3 : act = 3
      · rw [if_pos c3, if_pos c3]
        refine ⟨?_, ?_, fun j hj => ?_, fun j hj => ?_, h5⟩
        · show z.1 - 1 = y.1 - 1; rw [h1]
        · show z.1 - 1 ≤ 3; omega
        · show shF z.2.1 a z.1 j = shF y.2.1 a y.1 j
          unfold shF; rw [← h1]
          by_cases q : a ≤ j ∧ j + 1 < z.1
          · rw [if_pos q, if_pos q, h3 _ (by omega)]
          · rw [if_neg q, if_neg q, h3 j hj]
        · show shF z.2.2.1 a z.1 j = shF y.2.2.1 a y.1 j
          unfold shF; rw [← h1]
          by_cases q : a ≤ j ∧ j + 1 < z.1
          · rw [if_pos q, if_pos q, h4 _ (by omega)]
          · rw [if_neg q, if_neg q, h4 j hj]
      · rw [if_neg c3, if_neg c3]
        have q := it_cg (rg := z.2.2.2) h2 h4 a
        refine ⟨h1, h2, h3, fun j hj => ?_, ?_⟩
        · show (itB z.1 z.2.2.1 z.2.2.2 a).1 j = (itB y.1 y.2.2.1 y.2.2.2 a).1 j
          rw [← h1, ← h5]; exact q.1 j hj
        · show (itB z.1 z.2.2.1 z.2.2.2 a).2 = (itB y.1 y.2.2.1 y.2.2.2 a).2
          rw [← h1, ← h5]; exact q.2
theorem plW_cg {n : Nat} {kd sd f g : Nat → Int32} {a b : Nat} : ∀ (k i : Nat) (z y : sZ), (∀ j, i ≤ j → j < i + k → f (a + 2 * j) = g (b + 2 * j) ∧ f (a + 2 * j + 1) = g (b + 2 * j + 1)) → eqv z y → (plW n kd sd f a k i z).1 = (plW n kd sd g b k i y).1 ∧ eqv (plW n kd sd f a k i z).2 (plW n kd sd g b k i y).2
  | 0, _, z, y, _, h => ⟨rfl, h⟩
  | k + 1, i, z, y, hf, h => by
    obtain ⟨e1, e2⟩ := hf i (Nat.le_refl _) (by omega)
    unfold plW
    rw [← e1, ← e2, ← canB_cg h]
    by_cases c : canB z.1 z.2.2.1 (f (a + 2 * i)).toNatClampNeg (f (a + 2 * i + 1)) = true
    · rw [if_pos c, if_pos c]
      exact plW_cg k (i + 1) _ _ (fun j h1 h2 => hf j (by omega) (by omega)) (pfm_cg h c)
    · rw [if_neg c, if_neg c]; exact ⟨rfl, h⟩
theorem seaR_cg {x : Int32} {z y : Int32 × sZ} (h1 : z.1 = y.1) (h : eqv z.2 y.2) : seaR x z = seaR x y := by
  obtain ⟨g1, g2, g3, g4, g5⟩ := h
  unfold seaR
  rw [← h1, ← g1, cnt_cg z.2.1 (fun j hj => g4 j (by omega)), or_cg z.2.1 (fun j hj => g3 j (by omega)), add_cg z.2.1 (fun j hj => g4 j (by omega)), g5]
theorem told_cg {f g : Nat → Int32} {a b : Nat} : ∀ (k i : Nat), (∀ j, i ≤ j → j < i + k → f (a + 2 * j) = g (b + 2 * j) ∧ f (a + 2 * j + 1) = g (b + 2 * j + 1)) → toldW f a k i = toldW g b k i
  | 0, _, _ => rfl
  | k + 1, i, h => by
    obtain ⟨e1, e2⟩ := h i (Nat.le_refl _) (by omega)
    unfold toldW; rw [e1, e2, told_cg k (i + 1) (fun j h1 h2 => h j (by omega) (by omega))]
theorem sea_k {w v x : Int32} (h : seaOk w v x = true) : ∃ k : Nat, k ≤ 20 ∧ v = nI k := by
  unfold seaOk at h
  rw [Bool.and_eq_true] at h
  have h := of_decide_eq_true h.2
  exact nI_of2 (M := 20) (n := 20) rfl h.1 (nlt_le h.2.1)
theorem ifb_ff (a b : Int32) : ifb false a b = b := rfl
theorem ifb_tt (a b : Int32) : ifb true a b = a := rfl
theorem sea_same {k n : Nat} {kq w ln le : Int32} {kd sd f sv lv cv ts tl us ul : Nat → Int32} {tn : Nat} {i v x : Int32} (hk : ¬ kq < 0 → kq < 4 → kq.toNatClampNeg = k) (h : RSH k ln le f sv lv cv) (ht : tn ≤ 3) :
    ifb (seaC n kq w le ln f i v x).2.2 (seaR x (seaP n kd sd tn ts tl f i v us ul)) (seaC n kq w le ln f i v x).1 = ifb (seaM n kq w (sv kq.toNatClampNeg) (lv kq.toNatClampNeg) cv i v x).2.2 (seaR x (seaPM n kd sd tn ts tl cv kq i v)) (seaM n kq w (sv kq.toNatClampNeg) (lv kq.toNatClampNeg) cv i v x).1 ∧
    (seaC n kq w le ln f i v x).2.1 = (seaM n kq w (sv kq.toNatClampNeg) (lv kq.toNatClampNeg) cv i v x).2.1 := by
  unfold seaC seaM
  by_cases c : ¬ kq < 0 ∧ kq < 4
  · rw [if_pos c, if_pos c, hk c.1 c.2]
    by_cases c2 : seaOk w v x = true
    · rw [if_pos c2, if_pos c2]
      obtain ⟨m, hm, rfl⟩ := sea_k c2
      have e2 : 2 * nI m = nI (2 * m) := by rw [show (2 : Int32) = nI 2 from rfl, pk_mul]
      rw [metS_ag h (by rw [e2]; exact nI_pos' (by omega))]
      by_cases c3 : agI (sv k) (lv k) w i (2 * nI m) = 0
      · rw [if_pos c3, if_pos c3]
        have c3' := c3
        obtain ⟨L, hL, -, eL, -⟩ := h.m (ag9 c3)
        rw [eL] at c3'
        obtain ⟨-, -, a, m2, rfl, em, ham⟩ := ag0 hL c3'
        rw [e2] at em
        have em := (nI_eq (by omega) (by omega)).mp em
        rw [nI_clamp (n := a) (by omega), nI_clamp (n := m) (by omega)]
        have hf : ∀ j, 0 ≤ j → j < 0 + m → f (a + 2 * j) = cv (60 * k + a + 2 * j) ∧ f (a + 2 * j + 1) = cv (60 * k + a + 2 * j + 1) := fun j _ hj => by
          rw [h.2.2.2 _ (by omega), h.2.2.2 _ (by omega)]
          exact ⟨by congr 1; omega, by congr 1; omega⟩
        by_cases c4 : nI n = 0
        · rw [if_pos c4, if_pos c4]; exact ⟨(ifb_ff _ _).trans (ifb_ff _ _).symm, rfl⟩
        · rw [if_neg c4, if_neg c4, told_cg m 0 hf]
          by_cases c5 : toldW cv (60 * k + a) m 0 = true
          · rw [if_pos c5]
            refine ⟨?_, rfl⟩
            refine (ifb_tt _ _).trans (Eq.trans ?_ (ifb_tt _ _).symm)
            unfold seaP seaPM
            rw [hk c.1 c.2, nI_clamp (n := a) (by omega), nI_clamp (n := m) (by omega)]
            have q := plW_cg (n := n) (kd := kd) (sd := sd) m 0 (tn, cpF ts us 3, cpF tl ul 3, 0) (tn, ts, tl, 0) hf ⟨rfl, ht, fun j hj => if_pos hj, fun j hj => if_pos hj, rfl⟩
            exact seaR_cg q.1 q.2
          · rw [if_neg c5]; exact ⟨(ifb_ff _ _).trans (ifb_ff _ _).symm, rfl⟩
      · rw [if_neg c3, if_neg c3]; exact ⟨(ifb_ff _ _).trans (ifb_ff _ _).symm, rfl⟩
    · rw [if_neg c2, if_neg c2]; exact ⟨(ifb_ff _ _).trans (ifb_ff _ _).symm, rfl⟩
  · rw [if_neg c, if_neg c]; exact ⟨(ifb_ff _ _).trans (ifb_ff _ _).symm, rfl⟩
/-! together -/
theorem stk_cg {n : Nat} {sd ts f g : Nat → Int32} {a b : Nat} {x : Int32} : ∀ (k t : Nat), (∀ j, t ≤ j → j < t + k → f (a + j) = g (b + j)) → stkW n sd ts f a x k t = stkW n sd ts g b x k t
  | 0, _, _ => rfl
  | k + 1, t, h => by unfold stkW; rw [h t (Nat.le_refl _) (by omega), stk_cg k (t + 1) (fun j h1 h2 => h j (by omega) (by omega))]
theorem in99_cg {f g : Nat → Int32} {a b : Nat} : ∀ (k t : Nat), (∀ j, t ≤ j → j < t + k → f (a + j) = g (b + j)) → in99 f a k t = in99 g b k t
  | 0, _, _ => rfl
  | k + 1, t, h => by unfold in99; rw [h t (Nat.le_refl _) (by omega), in99_cg k (t + 1) (fun j h1 h2 => h j (by omega) (by omega))]
/-- at a bar that isn't one of the first three's, not all are struck -/
theorem stk_no {n : Nat} {sd ts f : Nat → Int32} {a0 tn d x0 x : Nat} (h0 : 0 < tn) (hx0 : f a0 = nI x0) (hd : sumW sd (ts 0) n = nI d) (hd1 : 1 ≤ d) (hd2 : d ≤ 81) (hx9 : x0 ≤ 99) (hx : x ≤ 2000) (h : stkW n sd ts f a0 (nI x) tn 0 = true) : x0 ≤ x ∧ (x - x0) % d = 0 := by
  obtain ⟨m, rfl⟩ : ∃ m, tn = m + 1 := ⟨tn - 1, by omega⟩
  unfold stkW at h
  rw [Nat.add_zero, hx0, hd] at h
  by_cases c : ¬ nI x - nI x0 < 0 ∧ ¬ nI d ≤ 0 ∧ nI x - nI x0 - (nI x - nI x0) / nI d * nI d = 0
  · have h1 : x0 ≤ x := by
      rcases Nat.lt_or_ge x x0 with q | q
      · exact absurd (pk_sneg (by omega) q) c.1
      · exact q
    have c3 := c.2.2
    rw [pk_sub h1, pk_rem (by omega) (by omega) (by omega)] at c3
    exact ⟨h1, (nI_zero (Nat.lt_of_le_of_lt (Nat.mod_le _ _) (by omega))).mp c3⟩
  · rw [if_neg c] at h; exact absurd h (by decide)
/-- the reference's search, from any bar on, once the first three's bars alone count -/
theorem tog_M {n : Nat} {sd ts f : Nat → Int32} {a0 tn d x0 : Nat} (h0 : 0 < tn) (hx0 : f a0 = nI x0) (hd : sumW sd (ts 0) n = nI d) (hd1 : 1 ≤ d) (hd2 : d ≤ 81) (hx9 : x0 ≤ 99) : ∀ (s x y : Nat), y + s = x → x ≤ 1000 → (∀ z, y ≤ z → z < x → ¬ stkW n sd ts f a0 (nI z) tn 0 = true) → togM n sd ts f a0 tn (1000 - y) y = togM n sd ts f a0 tn (1000 - x) x
  | 0, x, y, h, _, _ => by rw [show y = x by omega]
  | s + 1, x, y, h, hx, hz => by
    rw [show 1000 - y = (1000 - (y + 1)) + 1 by omega, togM, if_neg (hz y (Nat.le_refl _) (by omega))]
    exact tog_M h0 hx0 hd hd1 hd2 hx9 s x (y + 1) (by omega) hx (fun z h1 h2 => hz z (by omega) h2)
theorem tog_W {n : Nat} {sd ts f : Nat → Int32} {a0 tn d x0 : Nat} (h0 : 0 < tn) (hx0 : f a0 = nI x0) (hd : sumW sd (ts 0) n = nI d) (hd1 : 1 ≤ d) (hd2 : d ≤ 81) (hx9 : x0 ≤ 99) : ∀ (k x : Nat), 1000 ≤ x + k → x0 ≤ x → (x - x0) % d = 0 → x ≤ 1100 → togW n sd ts f a0 tn d k x = togM n sd ts f a0 tn (1000 - x) x
  | 0, x, hk, _, _, _ => by
    rw [show 1000 - x = 0 by omega]; rfl
  | k + 1, x, hk, hx, hm, hxx => by
    unfold togW
    by_cases c : 999 < x
    · rw [if_pos c, show 1000 - x = 0 by omega]; rfl
    · rw [if_neg c]
      by_cases g : stkW n sd ts f a0 (nI x) tn 0 = true
      · rw [if_pos g, show 1000 - x = (1000 - (x + 1)) + 1 by omega, togM, if_pos g]
      · rw [if_neg g]
        have step : (x + d - x0) % d = 0 := by
          rw [show x + d - x0 = (x - x0) + d by omega, Nat.add_mod_right]; exact hm
        have no : ∀ z, x + 1 ≤ z → z < x + d → ¬ stkW n sd ts f a0 (nI z) tn 0 = true := fun z h1 h2 q => by
          have q2 := stk_no h0 hx0 hd hd1 hd2 hx9 (by omega) q
          have e : z - x0 = (x - x0) + (z - x) := by omega
          rw [e, Nat.add_mod, hm, Nat.zero_add, Nat.mod_mod, Nat.mod_eq_of_lt (by omega)] at q2
          omega
        rw [tog_W h0 hx0 hd hd1 hd2 hx9 k (x + d) (by omega) (by omega) step (by omega)]
        rw [show 1000 - x = (1000 - (x + 1)) + 1 by omega, togM, if_neg g]
        rcases Nat.lt_or_ge 1000 (x + d) with q | q
        · rw [show 1000 - (x + d) = 0 by omega]
          have := tog_M h0 hx0 hd hd1 hd2 hx9 (1000 - (x + 1)) 1000 (x + 1) (by omega) (Nat.le_refl _) (fun z h1 h2 => no z h1 (by omega))
          rw [this]; rfl
        · exact (tog_M h0 hx0 hd hd1 hd2 hx9 (d - 1) (x + d) (x + 1) (by omega) q (fun z h1 h2 => no z h1 h2)).symm
theorem tog_same {k n : Nat} {kq w ln le : Int32} {sd f sv lv cv ts : Nat → Int32} {tn : Nat} {i : Int32} (hk : ¬ kq < 0 → kq < 4 → kq.toNatClampNeg = k) (h : RSH k ln le f sv lv cv) (ht : tn ≤ 3) (hpd : ∀ t, t < tn → ∃ d : Nat, 1 ≤ d ∧ d ≤ 81 ∧ sumW sd (ts t) n = nI d) :
    togC n sd tn ts kq w le ln f i = tgM n sd tn ts kq w (sv kq.toNatClampNeg) (lv kq.toNatClampNeg) cv i := by
  unfold togC tgM
  by_cases c : ¬ kq < 0 ∧ kq < 4
  · rw [if_pos c, if_pos c, hk c.1 c.2]
    by_cases c2 : lstT w 0 2 = true
    · rw [if_pos c2, if_pos c2]
      by_cases c3 : nI tn = 0
      · rw [if_pos c3, if_pos c3]
      · rw [if_neg c3, if_neg c3, metS_ag h (nI_pos' (by omega))]
        by_cases c4 : agI (sv k) (lv k) w i (nI tn) = 0
        · rw [if_pos c4, if_pos c4]
          have c4' := c4
          obtain ⟨L, hL, -, eL, -⟩ := h.m (ag9 c4)
          rw [eL] at c4'
          obtain ⟨-, -, a, m, rfl, em, ham⟩ := ag0 hL c4'
          have em := (nI_eq (by omega) (by omega)).mp em
          have h0 : 0 < tn := Nat.pos_of_ne_zero (fun q => c3 (by rw [q]; rfl))
          rw [nI_clamp (n := a) (by omega)]
          have hf : ∀ j, 0 ≤ j → j < 0 + tn → f (a + j) = cv (60 * k + a + j) := fun j _ hj => by rw [h.2.2.2 _ (by omega)]; congr 1; omega
          rw [in99_cg tn 0 hf]
          by_cases c5 : in99 cv (60 * k + a) tn 0 = true
          · rw [if_pos c5, if_pos c5]
            obtain ⟨d, hd1, hd2, ed⟩ := hpd 0 h0
            obtain ⟨x0, hx9, ex⟩ := in99_f tn 0 c5 0 (Nat.le_refl _) (by omega)
            have ex : cv (60 * k + a) = nI x0 := ex
            have ef : f a = nI x0 := by have := hf 0 (Nat.le_refl _) (by omega); rw [Nat.add_zero, Nat.add_zero] at this; rw [this, ex]
            rw [ed, nI_clamp (n := d) (by omega), ef, nI_clamp (n := x0) (by omega)]
            have s1 : ∀ x, stkW n sd ts f a x tn 0 = stkW n sd ts cv (60 * k + a) x tn 0 := fun x => stk_cg tn 0 hf
            have s2 : ∀ (q x : Nat), togW n sd ts f a tn d q x = togW n sd ts cv (60 * k + a) tn d q x := by
              intro q
              induction q with
              | zero => intro x; rfl
              | succ q ih => intro x; unfold togW; rw [s1, ih]
            rw [s2, tog_W h0 ex ed hd1 hd2 hx9 1000 x0 (by omega) (Nat.le_refl _) (by rw [Nat.sub_self]; exact Nat.zero_mod d) (by omega)]
            rw [← tog_M h0 ex ed hd1 hd2 hx9 x0 x0 0 (by omega) (by omega) (fun z _ hz q => by have := stk_no h0 ex ed hd1 hd2 hx9 (by omega) q; omega)]
          · rw [if_neg c5, if_neg c5]
        · rw [if_neg c4, if_neg c4]
    · rw [if_neg c2, if_neg c2]
  · rw [if_neg c, if_neg c]
