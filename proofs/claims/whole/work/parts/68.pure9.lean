/-! the state that both sides hold; each call keeps it -/
abbrev plT (n : Nat) (kd sd : Nat → Int32) : mZ := plc n kd sd 512 (2 ^ n - 1) 0 0 41231686041 (0, 0, 41231686041)
def Vnt (n : Nat) (kd sd : Nat → Int32) (tn : Nat) (ts tl : Nat → Int32) (rn : Nat) (rw_ : Nat → Int32) (mk md mr : Int32) (mw : Int64) : Prop :=
  n ≤ 9 ∧ (n = 0 ∨ 3 ≤ n) ∧ okK n kd ∧ okS n sd ∧ tn ≤ 3 ∧ okT n sd tn ts ∧ nnT tl tn ∧ rn ≤ 8 ∧ (∀ k, k < rn → ∃ w, w < n ∧ rw_ k = nI w) ∧ (mk = 0 ∨ (md, mr, mw) = plT n kd sd)
theorem onQ_or {n : Nat} {pp : Int32} (hn : n < 2 ^ 31) : (∃ j, j < n ∧ ∀ {α : Type} (F : Nat → α) (d : α), onQ n pp F d = F j) ∨ (∀ {α : Type} (F : Nat → α) (d : α), onQ n pp F d = d) := by
  by_cases c : ¬ pp < 0 ∧ ¬ nI n ≤ pp
  · obtain ⟨j, hj, rfl⟩ := in_nat c hn
    exact Or.inl ⟨j, hj, fun F d => onQ_in hj hn⟩
  · exact Or.inr (fun F d => onQ_out c)
section VNT
variable {n : Nat} {kd sd : Nat → Int32} {tn : Nat} {ts tl : Nat → Int32} {rn : Nat} {rw_ : Nat → Int32} {mk md mr : Int32} {mw : Int64}
theorem v_bend {pp v : Int32} (h : Vnt n kd sd tn ts tl rn rw_ mk md mr mw) : Vnt n kd (onQ n pp (fun j => if v < 1 then sd else if v ≤ 9 then (if thrW ts j tn 0 = -9 then upd sd j v else sd) else sd) sd) tn ts tl rn rw_ (onQ n pp (fun j => if v < 1 then mk else if v ≤ 9 then (if thrW ts j tn 0 = -9 then 0 else mk) else mk) mk) md mr mw := by
  have hq := h
  obtain ⟨hn, h3, hk, hs, ht, hT, hnn, hr, hw, hm⟩ := h
  rcases onQ_or (n := n) (pp := pp) (by omega) with ⟨j, hj, e⟩ | e
  · rw [e, e]
    by_cases c1 : v < 1
    · rw [if_pos c1, if_pos c1]; exact hq
    · rw [if_neg c1, if_neg c1]
      by_cases c2 : v ≤ 9
      · rw [if_pos c2, if_pos c2]
        by_cases c3 : thrW ts j tn 0 = -9
        · rw [if_pos c3, if_pos c3]
          exact ⟨hn, h3, hk, bend_S hs c1 c2, ht, bend_ok hn ht c3 hT, hnn, hr, hw, Or.inl rfl⟩
        · rw [if_neg c3, if_neg c3]; exact hq
      · rw [if_neg c2, if_neg c2]; exact hq
  · rw [e, e]; exact hq
theorem v_hang {a b c : Int32} (h : Vnt n kd sd tn ts tl rn rw_ mk md mr mw) : Vnt n kd sd (in2 (hgC n sd tn ts a b c) (tn + 1) tn) (in2 (hgC n sd tn ts a b c) (upd ts tn (bit3 a b c)) ts) (in2 (hgC n sd tn ts a b c) (upd tl tn 0) tl) rn rw_ mk md mr mw := by
  obtain ⟨hn, h3, hk, hs, ht, hT, hnn, hr, hw, hm⟩ := h
  obtain ⟨o1, o2⟩ := hang_ok (a := a) (b := b) (c := c) hn ht hT
  refine ⟨hn, h3, hk, hs, o2, o1, ?_, hr, hw, hm⟩
  by_cases q : hgC n sd tn ts a b c = 2
  · unfold in2
    rw [if_pos q, if_pos q]
    intro j hj
    unfold upd
    by_cases z : j = tn
    · rw [if_pos z]; decide
    · rw [if_neg z]; exact hnn j (by omega)
  · unfold in2; rw [if_neg q, if_neg q]; exact hnn
theorem v_strike {pp : Int32} (h : Vnt n kd sd tn ts tl rn rw_ mk md mr mw) : Vnt n kd sd tn ts (onQ tn pp (fun j => if tl j ≤ 0 then upd tl j (sumW (rgF kd sd) (ts j) n) else tl) tl) rn rw_ mk md mr mw := by
  obtain ⟨hn, h3, hk, hs, ht, hT, hnn, hr, hw, hm⟩ := h
  refine ⟨hn, h3, hk, hs, ht, hT, ?_, hr, hw, hm⟩
  rcases onQ_or (n := tn) (pp := pp) (by omega) with ⟨j, hj, e⟩ | e
  · rw [e]
    by_cases c : tl j ≤ 0
    · rw [if_pos c]; exact upd_nn hnn (rings_nn hn hk hs)
    · rw [if_neg c]; exact hnn
  · rw [e]; exact hnn
theorem v_touch {pp : Int32} (h : Vnt n kd sd tn ts tl rn rw_ mk md mr mw) : Vnt n kd sd tn ts (onQ tn pp (fun j => if tl j = 0 then tl else upd tl j 0) tl) rn rw_ mk md mr mw := by
  obtain ⟨hn, h3, hk, hs, ht, hT, hnn, hr, hw, hm⟩ := h
  refine ⟨hn, h3, hk, hs, ht, hT, ?_, hr, hw, hm⟩
  rcases onQ_or (n := tn) (pp := pp) (by omega) with ⟨j, hj, e⟩ | e
  · rw [e]
    by_cases c : tl j = 0
    · rw [if_pos c]; exact hnn
    · rw [if_neg c]; exact upd_nn hnn (by decide)
  · rw [e]; exact hnn
theorem v_bars {v : Int32} (h : Vnt n kd sd tn ts tl rn rw_ mk md mr mw) : Vnt n kd sd tn ts (if v < 1 then tl else if v ≤ 99 then (if nI n = 0 then tl else goF tl v tn) else tl) rn rw_ mk md mr mw := by
  obtain ⟨hn, h3, hk, hs, ht, hT, hnn, hr, hw, hm⟩ := h
  refine ⟨hn, h3, hk, hs, ht, hT, ?_, hr, hw, hm⟩
  by_cases c1 : v < 1
  · rw [if_pos c1]; exact hnn
  · rw [if_neg c1]
    by_cases c2 : v ≤ 99
    · rw [if_pos c2]
      by_cases c3 : nI n = 0
      · rw [if_pos c3]; exact hnn
      · rw [if_neg c3]; exact go_nn tn hnn
    · rw [if_neg c2]; exact hnn
theorem v_leave {pp : Int32} (h : Vnt n kd sd tn ts tl rn rw_ mk md mr mw) : Vnt n kd sd (onQ tn pp (fun _ => tn - 1) tn) (onQ tn pp (fun j => shF ts j tn) ts) (onQ tn pp (fun j => shF tl j tn) tl) rn rw_ mk md mr mw := by
  have hq := h
  obtain ⟨hn, h3, hk, hs, ht, hT, hnn, hr, hw, hm⟩ := h
  rcases onQ_or (n := tn) (pp := pp) (by omega) with ⟨j, hj, e⟩ | e
  · rw [e, e, e]
    exact ⟨hn, h3, hk, hs, by omega, leave_ok hj hT, sh_nn hnn, hr, hw, hm⟩
  · rw [e, e, e]; exact hq
theorem v_reading {pp v : Int32} (h : Vnt n kd sd tn ts tl rn rw_ mk md mr mw) : Vnt n kd sd tn ts tl (onQ n pp (fun j => if v < 0 then rn else if v ≤ 18 then (if nI rn < 8 then rn + 1 else rn) else rn) rn) (onQ n pp (fun j => if v < 0 then rw_ else if v ≤ 18 then (if nI rn < 8 then upd rw_ rn (nI j) else rw_) else rw_) rw_) mk md mr mw := by
  have hq := h
  obtain ⟨hn, h3, hk, hs, ht, hT, hnn, hr, hw, hm⟩ := h
  rcases onQ_or (n := n) (pp := pp) (by omega) with ⟨j, hj, e⟩ | e
  · rw [e, e]
    by_cases c1 : v < 0
    · rw [if_pos c1, if_pos c1]; exact hq
    · rw [if_neg c1, if_neg c1]
      by_cases c2 : v ≤ 18
      · rw [if_pos c2, if_pos c2]
        by_cases c3 : nI rn < 8
        · rw [if_pos c3, if_pos c3]
          have hr7 : rn < 8 := (nI_ltI (b := 8) (by omega) (by decide)).mp c3
          refine ⟨hn, h3, hk, hs, ht, hT, hnn, by omega, fun k hk2 => ?_, hm⟩
          by_cases z : k = rn
          · exact ⟨j, hj, if_pos z⟩
          · obtain ⟨w, h1, h2⟩ := hw k (by omega)
            exact ⟨w, h1, (if_neg z).trans h2⟩
        · rw [if_neg c3, if_neg c3]; exact hq
      · rw [if_neg c2, if_neg c2]; exact hq
  · rw [e, e]; exact hq
theorem bck_le {v : Int32} : bckN rn v ≤ rn := by
  unfold bckN
  by_cases c1 : v < 0
  · rw [if_pos c1]; exact Nat.le_refl _
  · rw [if_neg c1]
    by_cases c2 : v ≤ nI rn
    · rw [if_pos c2]; exact Nat.sub_le _ _
    · rw [if_neg c2]; exact Nat.le_refl _
theorem v_back {v : Int32} (h : Vnt n kd sd tn ts tl rn rw_ mk md mr mw) : Vnt n kd sd tn ts tl (bckN rn v) rw_ mk md mr mw := by
  obtain ⟨hn, h3, hk, hs, ht, hT, hnn, hr, hw, hm⟩ := h
  have hb := bck_le (rn := rn) (v := v)
  exact ⟨hn, h3, hk, hs, ht, hT, hnn, by omega, fun k hk2 => hw k (by omega), hm⟩
theorem fnd_T (h : Vnt n kd sd tn ts tl rn rw_ mk md mr mw) : fndZ n kd sd mk (md, mr, mw) = plT n kd sd := by
  obtain ⟨hn, h3, hk, hs, ht, hT, hnn, hr, hw, hm⟩ := h
  unfold fndZ
  by_cases c : mk = 0
  · rw [if_pos c]
  · rw [if_neg c]; exact hm.resolve_left c
theorem v_most {kk : Int32} (h : Vnt n kd sd tn ts tl rn rw_ mk md mr mw) : Vnt n kd sd tn ts tl rn rw_ (if kk < -2 then mk else if kk < 9 then (if nI n = 0 then mk else (if mk = 0 then 1 else mk)) else mk) (if kk < -2 then md else if kk < 9 then (if nI n = 0 then md else (fndZ n kd sd mk (md, mr, mw)).1) else md) (if kk < -2 then mr else if kk < 9 then (if nI n = 0 then mr else (fndZ n kd sd mk (md, mr, mw)).2.1) else mr) (if kk < -2 then mw else if kk < 9 then (if nI n = 0 then mw else (fndZ n kd sd mk (md, mr, mw)).2.2) else mw) := by
  have hq := h
  rw [fnd_T h]
  obtain ⟨hn, h3, hk, hs, ht, hT, hnn, hr, hw, hm⟩ := h
  by_cases c1 : kk < -2
  · simp only [if_pos c1]; exact hq
  · simp only [if_neg c1]
    by_cases c2 : kk < 9
    · simp only [if_pos c2]
      by_cases c3 : nI n = 0
      · simp only [if_pos c3]; exact hq
      · simp only [if_neg c3]
        exact ⟨hn, h3, hk, hs, ht, hT, hnn, hr, hw, Or.inr rfl⟩
    · simp only [if_neg c2]; exact hq
theorem lst28 {kk : Int32} : lstT kk (-2) 8 = true ↔ ¬ kk < -2 ∧ kk < 9 := by
  unfold lstT
  rw [decide_eq_true_iff]
  have z8 : (8 : Int32).toInt = 8 := rfl
  have z9 : (9 : Int32).toInt = 9 := rfl
  refine ⟨fun h => ⟨h.1, ?_⟩, fun h => ⟨h.1, fun q => ?_⟩⟩
  · have := h.2
    rw [Int32.lt_iff_toInt_lt] at this ⊢; omega
  · have := h.2
    rw [Int32.lt_iff_toInt_lt] at this q; omega
theorem most_ans {av bv : Nat → Int32} {br kk : Int32} (h : Vnt n kd sd tn ts tl rn rw_ mk md mr mw) : (if kk < -2 then -2 else if kk < 9 then (if nI n = 0 then -3 else if kk = -2 then (fndZ n kd sd mk (md, mr, mw)).1 else if kk = -1 then (fndZ n kd sd mk (md, mr, mw)).2.1 else mrT (fndZ n kd sd mk (md, mr, mw)).2.2 kk.toNatClampNeg) else -2) = (if lstT kk (-2) 8 = true then (if nI n = 0 then -3 else if kk < 0 then (if kk = -2 then (fmZ n kd sd av br bv).1 else (fmZ n kd sd av br bv).2.1) else (if plI ((fmZ n kd sd av br bv).2.2 0) ((fmZ n kd sd av br bv).2.2 1) ((fmZ n kd sd av br bv).2.2 2) kk.toNatClampNeg = 9 then -9 else plI ((fmZ n kd sd av br bv).2.2 0) ((fmZ n kd sd av br bv).2.2 1) ((fmZ n kd sd av br bv).2.2 2) kk.toNatClampNeg)) else -2) := by
  rw [fnd_T h]
  obtain ⟨hn, h3, hk, hs, ht, hT, hnn, hr, hw, hm⟩ := h
  obtain ⟨m1, m2, m3⟩ := most_same hn hk hs av br bv
  by_cases c1 : kk < -2
  · rw [if_pos c1, if_neg (fun q => (lst28.mp q).1 c1)]
  · rw [if_neg c1]
    by_cases c2 : kk < 9
    · rw [if_pos c2, if_pos (lst28.mpr ⟨c1, c2⟩)]
      by_cases c3 : nI n = 0
      · rw [if_pos c3, if_pos c3]
      · rw [if_neg c3, if_neg c3]
        by_cases c4 : kk = -2
        · rw [if_pos c4, if_pos (by rw [c4]; decide), if_pos c4]; exact m1
        · rw [if_neg c4]
          by_cases c5 : kk = -1
          · rw [if_pos c5, if_pos (by rw [c5]; decide), if_neg c4]; exact m2
          · rw [if_neg c5]
            obtain ⟨j, hj, ej⟩ := kk_j c1 c2 c4 c5
            rw [if_neg (by rw [ej]; exact nI_pos (by omega)), ej, nI_clamp (n := j) (by omega)]
            exact m3 j hj
    · rw [if_neg c2, if_neg (fun q => c2 (lst28.mp q).2)]
theorem kind_3 {x : Int32} (h : ¬ kindI x = -9) : kindI x = 0 ∨ kindI x = 1 ∨ kindI x = 2 := by
  unfold kindI at h ⊢
  by_cases a : x = 98
  · rw [if_pos a]; exact Or.inr (Or.inr rfl)
  · rw [if_neg a] at h ⊢
    by_cases b : x = 115
    · rw [if_pos b]; exact Or.inl rfl
    · rw [if_neg b] at h ⊢
      by_cases c : x = 119
      · rw [if_pos c]; exact Or.inr (Or.inl rfl)
      · rw [if_neg c] at h; exact absurd rfl h
theorem dig_9 {x : Int32} (h1 : ¬ x < 49) (h2 : ¬ 57 < x) : ∃ d : Nat, 1 ≤ d ∧ d ≤ 9 ∧ x - 48 = nI d := by
  have z0 : (0 : Int32).toInt = 0 := rfl
  have z49 : (49 : Int32).toInt = 49 := rfl
  obtain ⟨y, hy, rfl⟩ := nI_of2 (M := 57) (n := 57) rfl (x := x) (by rw [Int32.lt_iff_toInt_lt] at h1 ⊢; omega) (nlt_le h2)
  rw [Int32.lt_iff_toInt_lt, nI_toInt (by omega)] at h1
  exact ⟨y - 48, by omega, by omega, pk_sub (b := 48) (by omega)⟩
theorem v_town {k : Nat} {kq w ln le : Int32} {f sv lv cv : Nat → Int32} {i v : Int32} (hk0 : ¬ kq < 0 → kq < 4 → kq.toNatClampNeg = k) (hR : RSH k ln le f sv lv cv) (h : Vnt n kd sd tn ts tl rn rw_ mk md mr mw) : Vnt (tkn (towC kq w le ln f i v).2.2 (towC kq w le ln f i v).2.2 n) (tkn (towC kq w le ln f i v).2.2 (setK f i.toNatClampNeg kd (towC kq w le ln f i v).2.2) kd) (tkn (towC kq w le ln f i v).2.2 (setS f i.toNatClampNeg sd (towC kq w le ln f i v).2.2) sd) (tkn (towC kq w le ln f i v).2.2 0 tn) ts tl (tkn (towC kq w le ln f i v).2.2 0 rn) rw_ (tkn (towC kq w le ln f i v).2.2 0 mk) md mr mw := by
  have hA := tow_arr (w := w) (i := i) (v := v) hk0 hR
  generalize (towC kq w le ln f i v).2.2 = m at hA ⊢
  unfold tkn
  by_cases c : m = 0
  · simp only [if_pos c]; exact h
  · simp only [if_neg c]
    obtain ⟨h3, h9, hp⟩ := hA c
    refine ⟨h9, Or.inr h3, fun j hj => ?_, fun j hj => ?_, Nat.zero_le _, ⟨fun t ht => absurd ht (Nat.not_lt_zero t), fun t u ht => absurd ht (Nat.not_lt_zero t)⟩, fun j hj => absurd hj (Nat.not_lt_zero j), Nat.zero_le _, fun k hk => absurd hk (Nat.not_lt_zero k), Or.inl rfl⟩
    · have e : setK f i.toNatClampNeg kd m j = kindI (f (i.toNatClampNeg + 3 * j + 2)) := if_pos hj
      rw [e]; exact kind_3 (hp j hj).2.2.1
    · have e : setS f i.toNatClampNeg sd m j = f (i.toNatClampNeg + 3 * j + 3) - 48 := if_pos hj
      rw [e]; exact dig_9 (hp j hj).2.2.2.1 (hp j hj).2.2.2.2
theorem tow_fn {k : Nat} {kq w ln le : Int32} {f sv lv cv : Nat → Int32} {i v : Int32} (hk0 : ¬ kq < 0 → kq < 4 → kq.toNatClampNeg = k) (hR : RSH k ln le f sv lv cv) : tkn (towC kq w le ln f i v).2.2 (setK cv (60 * kq.toNatClampNeg + i.toNatClampNeg) kd (towC kq w le ln f i v).2.2) kd = tkn (towC kq w le ln f i v).2.2 (setK f i.toNatClampNeg kd (towC kq w le ln f i v).2.2) kd ∧ tkn (towC kq w le ln f i v).2.2 (setS cv (60 * kq.toNatClampNeg + i.toNatClampNeg) sd (towC kq w le ln f i v).2.2) sd = tkn (towC kq w le ln f i v).2.2 (setS f i.toNatClampNeg sd (towC kq w le ln f i v).2.2) sd := by
  have hA := tow_arr (w := w) (i := i) (v := v) hk0 hR
  generalize (towC kq w le ln f i v).2.2 = m at hA ⊢
  unfold tkn
  by_cases c : m = 0
  · simp only [if_pos c, and_self]
  · simp only [if_neg c]
    obtain ⟨h3, h9, hp⟩ := hA c
    constructor
    · funext j
      show (if j < m then kindI (cv (60 * kq.toNatClampNeg + i.toNatClampNeg + 3 * j + 2)) else kd j) = (if j < m then kindI (f (i.toNatClampNeg + 3 * j + 2)) else kd j)
      by_cases z : j < m
      · rw [if_pos z, if_pos z, (hp j z).1]
      · rw [if_neg z, if_neg z]
    · funext j
      show (if j < m then cv (60 * kq.toNatClampNeg + i.toNatClampNeg + 3 * j + 3) - 48 else sd j) = (if j < m then f (i.toNatClampNeg + 3 * j + 3) - 48 else sd j)
      by_cases z : j < m
      · rw [if_pos z, if_pos z, (hp j z).2.1]
      · rw [if_neg z, if_neg z]
theorem thr_ans {pp x : Int32} (h : Vnt n kd sd tn ts tl rn rw_ mk md mr mw) : onQ tn pp (fun j => if x = 0 then ts j else if x = 1 then sumW sd (ts j) n else if x = 2 then sumW (rgF kd sd) (ts j) n else if x = 3 then 3 - bcE (lenW sd (ts j) n) else if x = 4 then cornW sd (ts j) n else if x = 5 then tl j else -2) (-1) = onQ tn pp (fun j => if x = 0 then ts j else if x = 1 then sumW sd (ts j) n else if x = 2 then sumW (rgF kd sd) (ts j) n else if x = 3 then shpI sd (ts j) n else if x = 4 then cornW sd (ts j) n else if x = 5 then tl j else -2) (-1) := by
  obtain ⟨hn, h3, hk, hs, ht, hT, hnn, hr, hw, hm⟩ := h
  refine onQ_cg (by omega) (fun j hj => ?_)
  obtain ⟨k, hk2, ek, hc⟩ := hT.1 j hj
  have e : 3 - bcE (lenW sd (ts j) n) = shpI sd (ts j) n := by rw [ek]; exact shape_same hn hs hk2 hc
  simp only [e]
theorem sid_ans {rh : Nat → Int32} {pp : Int32} (h : Vnt n kd sd tn ts tl rn rw_ mk md mr mw) : onQ n pp (fun j => setW (sidP kd sd rw_ rh rn j) 10) (-1) = onQ n pp (fun j => setW (sidM kd sd rw_ rh rn j) 10) (-1) := by
  obtain ⟨hn, h3, hk, hs, ht, hT, hnn, hr, hw, hm⟩ := h
  exact onQ_cg (by omega) (fun j hj => congrArg (fun z => setW z 10) (sid_same hj hn hw))
theorem kin_ans {rh : Nat → Int32} {pp : Int32} (h : Vnt n kd sd tn ts tl rn rw_ mk md mr mw) : onQ n pp (fun j => setW (kinP kd sd rw_ rh rn j) 3) (-1) = onQ n pp (fun j => setW (kinM kd sd rw_ rh rn j) 3) (-1) := by
  obtain ⟨hn, h3, hk, hs, ht, hT, hnn, hr, hw, hm⟩ := h
  exact onQ_cg (by omega) (fun j hj => congrArg (fun z => setW z 3) (kin_same hj hn hw))
theorem rat_ans (h : Vnt n kd sd tn ts tl rn rw_ mk md mr mw) : (if nI n = 0 then -3 else ratW n kd sd tn ts (2 ^ n) 0) = (if nI n = 0 then -3 else ratM n kd sd tn ts (2 ^ n) 0) := by
  obtain ⟨hn, h3, hk, hs, ht, hT, hnn, hr, hw, hm⟩ := h
  rw [rat_same hn hk hs (2 ^ n) 0 (Nat.zero_add _)]
end VNT
/-! the sheets: one is called (or two), the others stay -/
def Arr4 (kA kB kC kD : Nat) : Prop := (∀ q, q < 4 → q = kA ∨ q = kB ∨ q = kC ∨ q = kD) ∧ ¬ kB = kA ∧ ¬ kC = kA ∧ ¬ kD = kA ∧ ¬ kA = kB ∧ ¬ kC = kB ∧ ¬ kD = kB
def Rs4 (kA kB kC kD : Nat) (lnA leA : Int32) (fA : Nat → Int32) (lnB leB : Int32) (fB : Nat → Int32) (lnC leC : Int32) (fC : Nat → Int32) (lnD leD : Int32) (fD : Nat → Int32) (sv lv cv : Nat → Int32) : Prop := RSH kA lnA leA fA sv lv cv ∧ RSH kB lnB leB fB sv lv cv ∧ RSH kC lnC leC fC sv lv cv ∧ RSH kD lnD leD fD sv lv cv
section RS4
variable {kA kB kC kD : Nat} {lnA leA : Int32} {fA : Nat → Int32} {lnB leB : Int32} {fB : Nat → Int32} {lnC leC : Int32} {fC : Nat → Int32} {lnD leD : Int32} {fD : Nat → Int32} {sv lv cv : Nat → Int32}
theorem okM_of (hA : Arr4 kA kB kC kD) (h : Rs4 kA kB kC kD lnA leA fA lnB leB fB lnC leC fC lnD leD fD sv lv cv) : okM sv lv := fun q hq h9 => by
  rcases hA.1 q hq with e | e | e | e
  · rw [e] at h9 ⊢; obtain ⟨L, h1, -, h2, -⟩ := h.1.m h9; exact ⟨L, h1, h2⟩
  · rw [e] at h9 ⊢; obtain ⟨L, h1, -, h2, -⟩ := h.2.1.m h9; exact ⟨L, h1, h2⟩
  · rw [e] at h9 ⊢; obtain ⟨L, h1, -, h2, -⟩ := h.2.2.1.m h9; exact ⟨L, h1, h2⟩
  · rw [e] at h9 ⊢; obtain ⟨L, h1, -, h2, -⟩ := h.2.2.2.m h9; exact ⟨L, h1, h2⟩
theorem sht_all {kq w v : Int32} (hA : Arr4 kA kB kC kD) (hk : ¬ kq < 0 → kq < 4 → kq.toNatClampNeg = kA) (h : Rs4 kA kB kC kD lnA leA fA lnB leB fB lnC leC fC lnD leD fD sv lv cv) : Rs4 kA kB kC kD (onK kq (if shtOk w v = true then w else lnA) lnA) (onK kq (if shtOk w v = true then v else leA) leA) (onK kq (if shtOk w v = true then zeroF fA 60 else fA) fA) lnB leB fB lnC leC fC lnD leD fD (onK kq (if shtOk w v = true then upd sv kq.toNatClampNeg w else sv) sv) (onK kq (if shtOk w v = true then upd lv kq.toNatClampNeg v else lv) lv) (onK kq (if shtOk w v = true then zroM cv (60 * kq.toNatClampNeg) 60 else cv) cv) := by
  by_cases c : ¬ kq < 0 ∧ kq < 4
  · simp only [onK_in c]
    by_cases ok : shtOk w v = true
    · simp only [if_pos ok]
      rw [hk c.1 c.2]
      obtain ⟨a, b⟩ := sht_rel h.1 ok
      exact ⟨a, h.2.1.oth (if_neg hA.2.1) (if_neg hA.2.1) b hA.2.1, h.2.2.1.oth (if_neg hA.2.2.1) (if_neg hA.2.2.1) b hA.2.2.1, h.2.2.2.oth (if_neg hA.2.2.2.1) (if_neg hA.2.2.2.1) b hA.2.2.2.1⟩
    · simp only [if_neg ok]; exact h
  · simp only [onK_out c]; exact h
theorem los_all {kq : Int32} (hA : Arr4 kA kB kC kD) (hk : ¬ kq < 0 → kq < 4 → kq.toNatClampNeg = kA) (h : Rs4 kA kB kC kD lnA leA fA lnB leB fB lnC leC fC lnD leD fD sv lv cv) : Rs4 kA kB kC kD lnA (onK kq (-1) leA) fA lnB leB fB lnC leC fC lnD leD fD (onK kq (upd sv kq.toNatClampNeg (-9)) sv) lv cv := by
  by_cases c : ¬ kq < 0 ∧ kq < 4
  · simp only [onK_in c]
    rw [hk c.1 c.2]
    have b : cvK kA cv cv := fun _ _ _ _ => rfl
    exact ⟨(los_rel h.1).1, h.2.1.oth (if_neg hA.2.1) rfl b hA.2.1, h.2.2.1.oth (if_neg hA.2.2.1) rfl b hA.2.2.1, h.2.2.2.oth (if_neg hA.2.2.2.1) rfl b hA.2.2.2.1⟩
  · simp only [onK_out c]; exact h
theorem los_ans {kq : Int32} (hk : ¬ kq < 0 → kq < 4 → kq.toNatClampNeg = kA) (h : Rs4 kA kB kC kD lnA leA fA lnB leB fB lnC leC fC lnD leD fD sv lv cv) : onK kq (if leA = -1 then (0 : Int32) else 1) (-1) = onK kq (if sv kq.toNatClampNeg = -9 then 0 else 1) (-1) := by
  by_cases c : ¬ kq < 0 ∧ kq < 4
  · simp only [onK_in c]
    rw [hk c.1 c.2]; exact (los_rel h.1).2
  · simp only [onK_out c]
theorem put_all {kq i v : Int32} (hA : Arr4 kA kB kC kD) (hk : ¬ kq < 0 → kq < 4 → kq.toNatClampNeg = kA) (h : Rs4 kA kB kC kD lnA leA fA lnB leB fB lnC leC fC lnD leD fD sv lv cv) : Rs4 kA kB kC kD lnA leA (onK kq (putF lnA leA fA i v) fA) lnB leB fB lnC leC fC lnD leD fD sv lv (onK kq (putMF (sv kq.toNatClampNeg) (lv kq.toNatClampNeg) cv kq.toNatClampNeg i v) cv) := by
  by_cases c : ¬ kq < 0 ∧ kq < 4
  · simp only [onK_in c]
    rw [hk c.1 c.2]
    obtain ⟨a, b⟩ := put_rel (i := i) (v := v) h.1
    exact ⟨a, h.2.1.oth rfl rfl b hA.2.1, h.2.2.1.oth rfl rfl b hA.2.2.1, h.2.2.2.oth rfl rfl b hA.2.2.2.1⟩
  · simp only [onK_out c]; exact h
theorem put_ans {kq i : Int32} (hk : ¬ kq < 0 → kq < 4 → kq.toNatClampNeg = kA) (h : Rs4 kA kB kC kD lnA leA fA lnB leB fB lnC leC fC lnD leD fD sv lv cv) : onK kq (putR leA i) (-1) = onK kq (putM (sv kq.toNatClampNeg) (lv kq.toNatClampNeg) i) (-1) ∧ onK kq (putA leA i) 0 = onK kq (putMA (sv kq.toNatClampNeg) (lv kq.toNatClampNeg) i) 0 := by
  by_cases c : ¬ kq < 0 ∧ kq < 4
  · simp only [onK_in c]
    rw [hk c.1 c.2]; exact put_same h.1
  · simp only [onK_out c, and_self]
theorem cel_ans {kq i w : Int32} (hk : ¬ kq < 0 → kq < 4 → kq.toNatClampNeg = kA) (h : Rs4 kA kB kC kD lnA leA fA lnB leB fB lnC leC fC lnD leD fD sv lv cv) : onK kq (if lstT w 0 2 = true then celR leA lnA w fA i else -9223372036854775808) (-9223372036854775808) = onK kq (if lstT w 0 2 = true then celM (sv kq.toNatClampNeg) (lv kq.toNatClampNeg) w cv kq.toNatClampNeg i else -9223372036854775808) (-9223372036854775808) ∧ onK kq (if lstT w 0 2 = true then celA leA lnA w i else 0) 0 = onK kq (if lstT w 0 2 = true then celMA (sv kq.toNatClampNeg) (lv kq.toNatClampNeg) w i else 0) 0 := by
  by_cases c : ¬ kq < 0 ∧ kq < 4
  · simp only [onK_in c]
    rw [hk c.1 c.2]
    obtain ⟨a, b⟩ := cel_same (w := w) (i := i) h.1
    rw [a, b]; exact ⟨rfl, rfl⟩
  · simp only [onK_out c, and_self]
theorem cpy_all {kq jq i j v : Int32} (hA : Arr4 kA kB kC kD) (hk : ¬ kq < 0 → kq < 4 → kq.toNatClampNeg = kA) (hj : ¬ jq < 0 → jq < 4 → jq.toNatClampNeg = kB) (h : Rs4 kA kB kC kD lnA leA fA lnB leB fB lnC leC fC lnD leD fD sv lv cv) : Rs4 kA kB kC kD lnA leA fA lnB leB (onKK kq jq (cpyF leA lnA leB lnB i j v fA fB) fB) lnC leC fC lnD leD fD sv lv (onKK kq jq (cpMF (sv kq.toNatClampNeg) (lv kq.toNatClampNeg) (sv jq.toNatClampNeg) (lv jq.toNatClampNeg) i j v cv kq.toNatClampNeg jq.toNatClampNeg) cv) := by
  unfold onKK
  by_cases c : ¬ kq < 0 ∧ kq < 4
  · simp only [onK_in c]
    by_cases c2 : ¬ jq < 0 ∧ jq < 4
    · simp only [onK_in c2]
      rw [hk c.1 c.2, hj c2.1 c2.2]
      obtain ⟨a, b⟩ := cpy_rel (i := i) (j := j) (v := v) h.1 h.2.1
      exact ⟨h.1.oth rfl rfl b hA.2.2.2.2.1, a, h.2.2.1.oth rfl rfl b hA.2.2.2.2.2.1, h.2.2.2.oth rfl rfl b hA.2.2.2.2.2.2⟩
    · simp only [onK_out c2]; exact h
  · simp only [onK_out c]; exact h
theorem cpy_allS {kq jq i j v : Int32} (hA : Arr4 kA kB kC kD) (hk : ¬ kq < 0 → kq < 4 → kq.toNatClampNeg = kA) (hj : ¬ jq < 0 → jq < 4 → jq.toNatClampNeg = kA) (h : Rs4 kA kB kC kD lnA leA fA lnB leB fB lnC leC fC lnD leD fD sv lv cv) : Rs4 kA kB kC kD lnA leA (onKK kq jq (cpyF leA lnA leA lnA i j v fA fA) fA) lnB leB fB lnC leC fC lnD leD fD sv lv (onKK kq jq (cpMF (sv kq.toNatClampNeg) (lv kq.toNatClampNeg) (sv jq.toNatClampNeg) (lv jq.toNatClampNeg) i j v cv kq.toNatClampNeg jq.toNatClampNeg) cv) := by
  unfold onKK
  by_cases c : ¬ kq < 0 ∧ kq < 4
  · simp only [onK_in c]
    by_cases c2 : ¬ jq < 0 ∧ jq < 4
    · simp only [onK_in c2]
      rw [hk c.1 c.2, hj c2.1 c2.2]
      obtain ⟨a, b⟩ := cpy_rel (i := i) (j := j) (v := v) h.1 h.1
      exact ⟨a, h.2.1.oth rfl rfl b hA.2.1, h.2.2.1.oth rfl rfl b hA.2.2.1, h.2.2.2.oth rfl rfl b hA.2.2.2.1⟩
    · simp only [onK_out c2]; exact h
  · simp only [onK_out c]; exact h
theorem cpy_an {kq jq i j v : Int32} (hk : ¬ kq < 0 → kq < 4 → kq.toNatClampNeg = kA) (hj : ¬ jq < 0 → jq < 4 → jq.toNatClampNeg = kB) (h : Rs4 kA kB kC kD lnA leA fA lnB leB fB lnC leC fC lnD leD fD sv lv cv) : onKK kq jq (cpyR leA lnA leB lnB i j v) (-1) = onKK kq jq (cpMR (sv kq.toNatClampNeg) (lv kq.toNatClampNeg) (sv jq.toNatClampNeg) (lv jq.toNatClampNeg) i j v) (-1) ∧ onKK kq jq (cpyA leA lnA leB lnB i j v) 0 = onKK kq jq (cpMA (sv kq.toNatClampNeg) (lv kq.toNatClampNeg) (sv jq.toNatClampNeg) (lv jq.toNatClampNeg) i j v) 0 := by
  unfold onKK
  by_cases c : ¬ kq < 0 ∧ kq < 4
  · simp only [onK_in c]
    by_cases c2 : ¬ jq < 0 ∧ jq < 4
    · simp only [onK_in c2]
      rw [hk c.1 c.2, hj c2.1 c2.2]; exact cpy_ans h.1 h.2.1
    · simp only [onK_out c2, and_self]
  · simp only [onK_out c, and_self]
theorem cpy_anS {kq jq i j v : Int32} (hk : ¬ kq < 0 → kq < 4 → kq.toNatClampNeg = kA) (hj : ¬ jq < 0 → jq < 4 → jq.toNatClampNeg = kA) (h : Rs4 kA kB kC kD lnA leA fA lnB leB fB lnC leC fC lnD leD fD sv lv cv) : onKK kq jq (cpyR leA lnA leA lnA i j v) (-1) = onKK kq jq (cpMR (sv kq.toNatClampNeg) (lv kq.toNatClampNeg) (sv jq.toNatClampNeg) (lv jq.toNatClampNeg) i j v) (-1) ∧ onKK kq jq (cpyA leA lnA leA lnA i j v) 0 = onKK kq jq (cpMA (sv kq.toNatClampNeg) (lv kq.toNatClampNeg) (sv jq.toNatClampNeg) (lv jq.toNatClampNeg) i j v) 0 := by
  unfold onKK
  by_cases c : ¬ kq < 0 ∧ kq < 4
  · simp only [onK_in c]
    by_cases c2 : ¬ jq < 0 ∧ jq < 4
    · simp only [onK_in c2]
      rw [hk c.1 c.2, hj c2.1 c2.2]; exact cpy_ans h.1 h.1
    · simp only [onK_out c2, and_self]
  · simp only [onK_out c, and_self]
theorem Rs4.swB (h : Rs4 kA kB kC kD lnA leA fA lnB leB fB lnC leC fC lnD leD fD sv lv cv) : Rs4 kB kA kC kD lnB leB fB lnA leA fA lnC leC fC lnD leD fD sv lv cv := ⟨h.2.1, h.1, h.2.2.1, h.2.2.2⟩
theorem Rs4.swC (h : Rs4 kA kB kC kD lnA leA fA lnB leB fB lnC leC fC lnD leD fD sv lv cv) : Rs4 kC kB kA kD lnC leC fC lnB leB fB lnA leA fA lnD leD fD sv lv cv := ⟨h.2.2.1, h.2.1, h.1, h.2.2.2⟩
theorem Rs4.swD (h : Rs4 kA kB kC kD lnA leA fA lnB leB fB lnC leC fC lnD leD fD sv lv cv) : Rs4 kD kB kC kA lnD leD fD lnB leB fB lnC leC fC lnA leA fA sv lv cv := ⟨h.2.2.2, h.2.1, h.2.2.1, h.1⟩
theorem Rs4.swBC (h : Rs4 kA kB kC kD lnA leA fA lnB leB fB lnC leC fC lnD leD fD sv lv cv) : Rs4 kA kC kB kD lnA leA fA lnC leC fC lnB leB fB lnD leD fD sv lv cv := ⟨h.1, h.2.2.1, h.2.1, h.2.2.2⟩
theorem Rs4.swBD (h : Rs4 kA kB kC kD lnA leA fA lnB leB fB lnC leC fC lnD leD fD sv lv cv) : Rs4 kA kD kC kB lnA leA fA lnD leD fD lnC leC fC lnB leB fB sv lv cv := ⟨h.1, h.2.2.2, h.2.2.1, h.2.1⟩
end RS4
