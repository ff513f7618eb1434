/-! a sheet of the class and the reference's rows -/
def RSH (k : Nat) (ln le : Int32) (f sv lv cv : Nat → Int32) : Prop := okL le ∧ (le = -1 ↔ sv k = -9) ∧ (¬ le = -1 → ln = sv k ∧ le = lv k) ∧ ∀ j, j < 60 → f j = cv (60 * k + j)
theorem RSH.m {k : Nat} {ln le : Int32} {f sv lv cv : Nat → Int32} (h : RSH k ln le f sv lv cv) (h9 : ¬ sv k = -9) : ∃ L : Nat, L ≤ 60 ∧ le = nI L ∧ lv k = nI L ∧ ln = sv k := by
  have h1 : ¬ le = -1 := fun q => h9 (h.2.1.mp q)
  obtain ⟨L, hL, e⟩ := h.1.resolve_left h1
  have h2 := h.2.2.1 h1
  exact ⟨L, hL, e, by rw [← h2.2, e], h2.1⟩
theorem met_ag {k : Nat} {ln le : Int32} {f sv lv cv : Nat → Int32} {w i n : Int32} (h : RSH k ln le f sv lv cv) : metT le ln w i n = agI (sv k) (lv k) w i n := by
  unfold metT agI fasI
  by_cases c : le = -1
  · have c2 := h.2.1.mp c
    rw [if_pos c, if_neg (by decide), if_neg (fun q => q.1 c2), if_pos c2]
  · have c2 : ¬ sv k = -9 := fun q => c (h.2.1.mpr q)
    have h2 := h.2.2.1 c
    rw [if_neg c]
    by_cases d : ln = w
    · rw [if_pos d, if_pos rfl, if_neg (show ¬ (¬ sv k = -9 ∧ ¬ sv k = w) from fun q => q.2 (h2.1 ▸ d)), if_neg c2, h2.2]
      by_cases e : 0 ≤ n
      · rw [if_pos e, if_pos e]
        unfold focI
        by_cases a1 : i < 0
        · rw [if_pos a1, if_pos a1]
        · rw [if_neg a1, if_neg a1, if_pos e]
      · rw [if_neg e, if_neg e]
    · rw [if_neg d, if_neg (by decide), if_pos ⟨c2, fun q => d (h2.1.trans q)⟩]
theorem metS_ag {k : Nat} {ln le : Int32} {f sv lv cv : Nat → Int32} {w i n : Int32} (h : RSH k ln le f sv lv cv) (hn : 0 ≤ n) : metS le ln w i n = agI (sv k) (lv k) w i n := by
  rw [← met_ag h]
  unfold metS metT
  by_cases c : fasI le ln w = 0
  · rw [if_pos c, if_pos c, if_pos hn]
  · rw [if_neg c, if_neg c]
theorem ff_cg {f g : Nat → Int32} {a b N : Nat} (h : ∀ j, j < N → f (a + j) = g (b + j)) : ∀ (k i : Nat), i + k = N → ffW f a N k i = ffW g b N k i
  | 0, _, _ => rfl
  | k + 1, i, hi => by unfold ffW; rw [h i (by omega), ff_cg h k (i + 1) (by omega)]
theorem tow_same {k : Nat} {kq w ln le : Int32} {f sv lv cv : Nat → Int32} {i v : Int32} (hk : ¬ kq < 0 → kq < 4 → kq.toNatClampNeg = k) (h : RSH k ln le f sv lv cv) : towC kq w le ln f i v = towM kq w (sv kq.toNatClampNeg) (lv kq.toNatClampNeg) cv i v := by
  unfold towC towM
  by_cases c : ¬ kq < 0 ∧ kq < 4
  · rw [if_pos c, if_pos c, hk c.1 c.2, met_ag h]
    by_cases c2 : lstT w 0 2 = true
    · rw [if_pos c2, if_pos c2]
      by_cases c3 : agI (sv k) (lv k) w i v = 0
      · rw [if_pos c3, if_pos c3]
        obtain ⟨L, hL, -, eL, -⟩ := h.m (ag9 c3)
        rw [eL] at c3
        obtain ⟨-, -, a, m, rfl, rfl, ham⟩ := ag0 hL c3
        rw [nI_clamp (by omega), nI_clamp (by omega), ff_cg (g := cv) (b := 60 * k + a) (fun j hj => by rw [h.2.2.2 _ (by omega), Nat.add_assoc]) m 0 (by omega)]
      · rw [if_neg c3, if_neg c3]
    · rw [if_neg c2, if_neg c2]
  · rw [if_neg c, if_neg c]
theorem tow_arr {k : Nat} {kq w ln le : Int32} {f sv lv cv : Nat → Int32} {i v : Int32} (hk : ¬ kq < 0 → kq < 4 → kq.toNatClampNeg = k) (h : RSH k ln le f sv lv cv) (hm : ¬ (towC kq w le ln f i v).2.2 = 0) :
    3 ≤ (towC kq w le ln f i v).2.2 ∧ (towC kq w le ln f i v).2.2 ≤ 9 ∧ (∀ p, p < (towC kq w le ln f i v).2.2 → f (i.toNatClampNeg + 3 * p + 2) = cv (60 * kq.toNatClampNeg + i.toNatClampNeg + 3 * p + 2) ∧ f (i.toNatClampNeg + 3 * p + 3) = cv (60 * kq.toNatClampNeg + i.toNatClampNeg + 3 * p + 3) ∧ ¬ kindI (f (i.toNatClampNeg + 3 * p + 2)) = -9 ∧ ¬ f (i.toNatClampNeg + 3 * p + 3) < 49 ∧ ¬ 57 < f (i.toNatClampNeg + 3 * p + 3)) := by
  unfold towC at hm ⊢
  by_cases c : ¬ kq < 0 ∧ kq < 4
  · rw [if_pos c] at hm ⊢
    by_cases c2 : lstT w 0 2 = true
    · rw [if_pos c2] at hm ⊢
      by_cases c3 : metT le ln w i v = 0
      · rw [if_pos c3] at hm ⊢
        have c3' := c3
        rw [met_ag h] at c3'
        obtain ⟨L, hL, eL, eL2, -⟩ := h.m (ag9 c3')
        rw [eL2] at c3'
        obtain ⟨-, -, a, m, rfl, rfl, ham⟩ := ag0 hL c3'
        rw [nI_clamp (by omega), nI_clamp (by omega)] at hm ⊢
        by_cases c4 : ffW f a m m 0 = -9
        · rw [if_pos c4] at hm ⊢
          obtain ⟨q, hq, h3, h9⟩ := ffW_m (by omega) c4
          have e : (m - 1) / 3 = q := by omega
          obtain ⟨-, hg⟩ := ffW_9 m 0 (by omega) (by omega) c4
          show 3 ≤ (m - 1) / 3 ∧ (m - 1) / 3 ≤ 9 ∧ ∀ p, p < (m - 1) / 3 → _
          rw [e, hk c.1 c.2]
          refine ⟨h3, h9, fun p hp => ⟨?_, ?_, ?_, ?_⟩⟩
          · rw [h.2.2.2 _ (by omega)]; congr 1; omega
          · rw [h.2.2.2 _ (by omega)]; congr 1; omega
          · have := hg (1 + 3 * p + 1) (Nat.zero_le _) (by omega)
            rw [go_let (by omega)] at this
            have := of_decide_eq_true this
            rw [show a + (1 + 3 * p + 1) = a + 3 * p + 2 by omega] at this; exact this
          · have := hg (1 + 3 * p + 2) (Nat.zero_le _) (by omega)
            rw [go_dig (by omega)] at this
            have := of_decide_eq_true this
            rw [show a + (1 + 3 * p + 2) = a + 3 * p + 3 by omega] at this; exact this
        · rw [if_neg c4] at hm; exact absurd rfl hm
      · rw [if_neg c3] at hm; exact absurd rfl hm
    · rw [if_neg c2] at hm; exact absurd rfl hm
  · rw [if_neg c] at hm; exact absurd rfl hm
theorem has_lst {L : Nat} {i : Int32} (hL : L ≤ 60) : hasI (nI L) i = lstT i 0 (nI L - 1) := by
  by_cases c : lstT i 0 (nI L - 1) = true
  · rw [c]
    obtain ⟨j, hj, rfl⟩ := lst_L hL c
    exact decide_eq_true (nin_nI hj (by omega))
  · have c' : lstT i 0 (nI L - 1) = false := by simpa using c
    rw [c']
    refine decide_eq_false (fun q => c ?_)
    obtain ⟨j, hj, rfl⟩ := in_nat q (by omega)
    exact lst_Ln hL hj
theorem put_same {k : Nat} {ln le : Int32} {f sv lv cv : Nat → Int32} {i : Int32} (h : RSH k ln le f sv lv cv) : putR le i = putM (sv k) (lv k) i ∧ putA le i = putMA (sv k) (lv k) i := by
  unfold putR putM putA putMA
  by_cases c : le = -1
  · have c2 := h.2.1.mp c
    rw [if_pos c, if_pos c2, if_pos c, if_pos c2]; exact ⟨rfl, rfl⟩
  · have c2 : ¬ sv k = -9 := fun q => c (h.2.1.mpr q)
    obtain ⟨L, hL, e1, e2, -⟩ := h.m c2
    rw [if_neg c, if_neg c2, if_neg c, if_neg c2, e1, e2, has_lst hL]; exact ⟨rfl, rfl⟩
theorem cel_same {k : Nat} {ln le : Int32} {f sv lv cv : Nat → Int32} {w i : Int32} (h : RSH k ln le f sv lv cv) : celA le ln w i = celMA (sv k) (lv k) w i ∧ celR le ln w f i = celM (sv k) (lv k) w cv k i := by
  have key : celA le ln w i = celMA (sv k) (lv k) w i := by
    unfold celA celMA fasI
    by_cases c : le = -1
    · have c2 := h.2.1.mp c
      rw [if_pos c, if_neg (by decide), if_neg (fun q => q.1 c2), if_pos c2]
    · have c2 : ¬ sv k = -9 := fun q => c (h.2.1.mpr q)
      obtain ⟨L, hL, e1, e2, e3⟩ := h.m c2
      rw [if_neg c]
      by_cases d : ln = w
      · rw [if_pos d, if_pos rfl, if_neg (show ¬ (¬ sv k = -9 ∧ ¬ sv k = w) from fun q => q.2 (e3 ▸ d)), if_neg c2, e1, e2, has_lst hL]
      · rw [if_neg d, if_neg (by decide), if_pos ⟨c2, fun q => d (e3.trans q)⟩]
  refine ⟨key, ?_⟩
  unfold celR celM
  rw [← key]
  by_cases z : celA le ln w i = 0
  · rw [if_pos z, if_pos z]
    have z2 := z
    unfold celA at z2
    by_cases d : fasI le ln w = 0
    · rw [if_pos d] at z2
      by_cases g : hasI le i = true
      · obtain ⟨L, hL, e⟩ := h.1.resolve_left (fas0 d).1
        rw [e] at g
        obtain ⟨j, hj, rfl⟩ := in_nat (of_decide_eq_true g) (show L < 2 ^ 31 by omega)
        rw [nI_clamp (by omega), h.2.2.2 j (by omega)]
      · rw [if_neg g] at z2; exact absurd z2 (by decide)
    · rw [if_neg d] at z2; exact absurd z2 d
  · rw [if_neg z, if_neg z]
/-- rows outside block k stay -/
def cvK (k : Nat) (cv cv' : Nat → Int32) : Prop := ∀ j x, ¬ j = k → x < 60 → cv' (60 * j + x) = cv (60 * j + x)
theorem RSH.oth {k j : Nat} {ln le : Int32} {f sv lv cv sv' lv' cv' : Nat → Int32} (h : RSH j ln le f sv lv cv) (hs : sv' j = sv j) (hl : lv' j = lv j) (hc : cvK k cv cv') (hjk : ¬ j = k) : RSH j ln le f sv' lv' cv' :=
  ⟨h.1, by rw [hs]; exact h.2.1, by rw [hs, hl]; exact h.2.2.1, fun x hx => by rw [hc j x hjk hx]; exact h.2.2.2 x hx⟩
theorem put_rel {k : Nat} {ln le : Int32} {f sv lv cv : Nat → Int32} {i v : Int32} (h : RSH k ln le f sv lv cv) : RSH k ln le (putF ln le f i v) sv lv (putMF (sv k) (lv k) cv k i v) ∧ cvK k cv (putMF (sv k) (lv k) cv k i v) := by
  unfold putF putMF
  by_cases c : le = -1
  · have c2 := h.2.1.mp c
    rw [if_pos c, if_pos c2]; exact ⟨h, fun _ _ _ _ => rfl⟩
  · have c2 : ¬ sv k = -9 := fun q => c (h.2.1.mpr q)
    obtain ⟨L, hL, e1, e2, e3⟩ := h.m c2
    rw [if_neg c, if_neg c2, e1, e2, has_lst hL]
    by_cases g : lstT i 0 (nI L - 1) = true
    · rw [if_pos g, if_pos g]
      obtain ⟨j, hj, rfl⟩ := lst_L hL g
      rw [nI_clamp (by omega), e3]
      refine ⟨⟨by rw [← e1]; exact h.1, by rw [← e1]; exact h.2.1, fun _ => ⟨rfl, e2.symm⟩, fun x hx => ?_⟩, fun y x hy hx => ?_⟩
      · unfold upd
        by_cases q : x = j
        · rw [if_pos q, if_pos (by omega)]
        · rw [if_neg q, if_neg (by omega)]; exact h.2.2.2 x hx
      · unfold upd; rw [if_neg (by omega)]
    · rw [if_neg g, if_neg g]
      refine ⟨?_, fun _ _ _ _ => rfl⟩
      rw [← e1]; exact h
theorem sht_rel {k : Nat} {ln le : Int32} {f sv lv cv : Nat → Int32} {w v : Int32} (h : RSH k ln le f sv lv cv) (ok : shtOk w v = true) : RSH k w v (zeroF f 60) (upd sv k w) (upd lv k v) (zroM cv (60 * k) 60) ∧ cvK k cv (zroM cv (60 * k) 60) := by
  unfold shtOk at ok
  rw [Bool.and_eq_true, Bool.and_eq_true] at ok
  obtain ⟨⟨o1, o2⟩, o3⟩ := ok
  have o2 := of_decide_eq_true o2
  have o3 := of_decide_eq_true o3
  have o1 := of_decide_eq_true o1
  obtain ⟨L, hL, rfl⟩ := nI_of2 (M := 60) (n := 60) rfl (fun q => le_nlt o3 q) o2
  refine ⟨⟨Or.inr ⟨L, hL, rfl⟩, ?_, fun _ => ⟨(if_pos rfl).symm, (if_pos rfl).symm⟩, fun x hx => ?_⟩, fun y x hy hx => ?_⟩
  · have e1 : upd sv k w k = w := if_pos rfl
    rw [e1]
    constructor
    · intro q
      have := congrArg Int32.toInt q
      rw [nI_toInt (by omega)] at this
      have z : (-1 : Int32).toInt = -1 := rfl
      omega
    · intro q
      rw [q] at o1
      exact absurd o1.1 (by decide)
  · unfold zeroF zroM; rw [if_pos hx, if_pos (by omega)]
  · unfold zroM; rw [if_neg (by omega)]
theorem los_rel {k : Nat} {ln le : Int32} {f sv lv cv : Nat → Int32} (h : RSH k ln le f sv lv cv) : RSH k ln (-1) f (upd sv k (-9)) lv cv ∧ (if le = -1 then (0 : Int32) else 1) = (if sv k = -9 then 0 else 1) := by
  refine ⟨⟨Or.inl rfl, ⟨fun _ => if_pos rfl, fun _ => rfl⟩, fun q => absurd rfl q, h.2.2.2⟩, ?_⟩
  by_cases c : le = -1
  · rw [if_pos c, if_pos (h.2.1.mp c)]
  · rw [if_neg c, if_neg (fun q => c (h.2.1.mpr q))]
/-- copies -/
theorem okC_foc {L L2 : Nat} {i j v : Int32} (hL : L ≤ 60) (hL2 : L2 ≤ 60) : okC (nI L) (nI L2) i j v = true ↔ focI (nI L) i v = 0 ∧ focI (nI L2) j v = 0 := by
  constructor
  · intro h
    have h := of_decide_eq_true h
    have h3 := nlt_le h.2.2.1
    refine ⟨?_, ?_⟩
    · unfold focI; rw [if_neg h.1, if_neg h.2.2.2.1, if_pos h3, if_pos (nlt_le h.2.2.2.2.2.1)]
    · unfold focI; rw [if_neg h.2.1, if_neg h.2.2.2.2.1, if_pos h3, if_pos h.2.2.2.2.2.2]
  · rintro ⟨h1, h2⟩
    obtain ⟨a, k, rfl, rfl, hak⟩ := foc0 hL h1
    obtain ⟨b, k2, rfl, ek, hbk⟩ := foc0 hL2 h2
    have ek := (nI_eq (by omega) (by omega)).mp ek
    refine decide_eq_true ⟨nI_pos (by omega), nI_pos (by omega), nI_pos (by omega), nI_nlt (by omega) (by omega), nI_nlt (by omega) (by omega), ?_, ?_⟩
    · rw [pk_sub (by omega)]; exact nI_nlt (by omega) (by omega)
    · rw [pk_sub (by omega)]; exact nI_le (by omega) (by omega)
theorem cpy_ans {k o : Nat} {ln le ln2 le2 : Int32} {f f2 sv lv cv : Nat → Int32} {i j v : Int32} (h : RSH k ln le f sv lv cv) (h2 : RSH o ln2 le2 f2 sv lv cv) :
    cpyR le ln le2 ln2 i j v = cpMR (sv k) (lv k) (sv o) (lv o) i j v ∧ cpyA le ln le2 ln2 i j v = cpMA (sv k) (lv k) (sv o) (lv o) i j v := by
  unfold cpyR cpMR cpyA cpMA
  by_cases c : le = -1
  · have d := h.2.1.mp c
    rw [if_pos c, if_pos d, if_pos c, if_pos d]; exact ⟨rfl, rfl⟩
  have d : ¬ sv k = -9 := fun q => c (h.2.1.mpr q)
  obtain ⟨L, hL, e1, e2, e3⟩ := h.m d
  rw [if_neg c, if_neg d, if_neg c, if_neg d]
  by_cases c2 : le2 = -1
  · have d2 := h2.2.1.mp c2
    rw [if_pos c2, if_pos d2, if_pos c2, if_pos d2]; exact ⟨rfl, rfl⟩
  have d2 : ¬ sv o = -9 := fun q => c2 (h2.2.1.mpr q)
  obtain ⟨L2, hL2, g1, g2, g3⟩ := h2.m d2
  rw [if_neg c2, if_neg d2, if_neg c2, if_neg d2, e3, g3]
  by_cases c3 : sv k = sv o
  · rw [if_pos c3, if_pos c3, if_pos c3, if_pos c3, e1, e2, g1, g2]
    by_cases c4 : focI (nI L) i v = 0
    · by_cases c5 : focI (nI L2) j v = 0
      · have := (okC_foc hL hL2).mpr ⟨c4, c5⟩
        rw [if_pos c4, if_pos c5, if_pos this, if_pos c4, if_pos c5, if_pos this]; exact ⟨rfl, rfl⟩
      · have : ¬ okC (nI L) (nI L2) i j v = true := fun q => c5 ((okC_foc hL hL2).mp q).2
        rw [if_pos c4, if_neg c5, if_neg this, if_pos c4, if_neg c5, if_neg this]; exact ⟨rfl, rfl⟩
    · have : ¬ okC (nI L) (nI L2) i j v = true := fun q => c4 ((okC_foc hL hL2).mp q).1
      rw [if_neg c4, if_neg this, if_neg c4, if_neg this]; exact ⟨rfl, rfl⟩
  · rw [if_neg c3, if_neg c3, if_neg c3, if_neg c3]; exact ⟨rfl, rfl⟩
theorem cpy_rel {k o : Nat} {ln le ln2 le2 : Int32} {f f2 sv lv cv : Nat → Int32} {i j v : Int32} (h : RSH k ln le f sv lv cv) (h2 : RSH o ln2 le2 f2 sv lv cv) :
    RSH o ln2 le2 (cpyF le ln le2 ln2 i j v f f2) sv lv (cpMF (sv k) (lv k) (sv o) (lv o) i j v cv k o) ∧ cvK o cv (cpMF (sv k) (lv k) (sv o) (lv o) i j v cv k o) := by
  unfold cpyF cpMF
  by_cases c : le = -1
  · have d := h.2.1.mp c
    rw [if_pos c, if_pos d]; exact ⟨h2, fun _ _ _ _ => rfl⟩
  have d : ¬ sv k = -9 := fun q => c (h.2.1.mpr q)
  obtain ⟨L, hL, e1, e2, e3⟩ := h.m d
  rw [if_neg c, if_neg d]
  by_cases c2 : le2 = -1
  · have d2 := h2.2.1.mp c2
    rw [if_pos c2, if_pos d2]; exact ⟨h2, fun _ _ _ _ => rfl⟩
  have d2 : ¬ sv o = -9 := fun q => c2 (h2.2.1.mpr q)
  obtain ⟨L2, hL2, g1, g2, g3⟩ := h2.m d2
  rw [if_neg c2, if_neg d2]
  by_cases c3 : ln = ln2
  · have c3' : sv k = sv o := by rw [← e3, ← g3]; exact c3
    rw [if_pos c3, if_pos c3', e1, e2, g2]
    by_cases c4 : focI (nI L) i v = 0
    · rw [if_pos c4, g1]
      by_cases c5 : focI (nI L2) j v = 0
      · have := (okC_foc hL hL2).mpr ⟨c4, c5⟩
        rw [if_pos c5, if_pos this]
        obtain ⟨a, m, rfl, rfl, ham⟩ := foc0 hL c4
        obtain ⟨b, m2, rfl, em, hbm⟩ := foc0 hL2 c5
        have em := (nI_eq (by omega) (by omega)).mp em
        rw [nI_clamp (by omega), nI_clamp (by omega), nI_clamp (by omega)]
        refine ⟨⟨by rw [← g1]; exact h2.1, by rw [← g1]; exact h2.2.1, fun _ => ⟨g3, g2.symm⟩, fun x hx => ?_⟩, fun y x hy hx => ?_⟩
        · unfold cpA
          by_cases q : b ≤ x ∧ x < b + m
          · rw [pk_cpy_in q.1 q.2, if_pos (by omega), h.2.2.2 _ (by omega)]
            congr 1; omega
          · rw [pk_cpy_out (by omega), if_neg (by omega)]; exact h2.2.2.2 x hx
        · unfold cpA; rw [if_neg (by omega)]
      · have : ¬ okC (nI L) (nI L2) i j v = true := fun q => c5 ((okC_foc hL hL2).mp q).2
        rw [if_neg c5, if_neg this]
        refine ⟨?_, fun _ _ _ _ => rfl⟩
        rw [← g1]; exact h2
    · have : ¬ okC (nI L) (nI L2) i j v = true := fun q => c4 ((okC_foc hL hL2).mp q).1
      rw [if_neg c4, if_neg this]; exact ⟨h2, fun _ _ _ _ => rfl⟩
  · have c3' : ¬ sv k = sv o := by rw [← e3, ← g3]; exact c3
    rw [if_neg c3, if_neg c3']; exact ⟨h2, fun _ _ _ _ => rfl⟩
