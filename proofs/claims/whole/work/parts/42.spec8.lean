/-! pure words: the reference's threes and seasons -/
theorem lst_in {v a b : Int32} (h : lstT v a b = true) : ¬ v < a ∧ v ≤ b := by
  have h := of_decide_eq_true h
  exact ⟨h.1, nlt_le h.2⟩
theorem lst_out {v a b : Int32} (h : ¬ lstT v a b = true) : v < a ∨ ¬ v ≤ b := by
  by_cases c : v < a
  · exact Or.inl c
  · refine Or.inr (fun q => h (decide_eq_true ⟨c, fun z => le_nlt q z⟩))
def nnT (tl : Nat → Int32) (tn : Nat) : Prop := ∀ j, j < tn → 0 ≤ tl j
theorem t0 : (0 : Int32).toInt = 0 := rfl
theorem t1 : (1 : Int32).toInt = 1 := rfl
theorem sub_in {x : Int32} {k : Nat} (h : 0 ≤ x) (hk : k ≤ 1000) : (x - nI k).toInt = x.toInt - k := by
  rw [Int32.le_iff_toInt_le, t0] at h
  rw [Int32.toInt_sub, nI_toInt (by omega)]
  have h2 := Int32.toInt_lt x
  exact Int.bmod_eq_of_le (by omega) (by omega)
/-- bars that go by one at a time -/
theorem go_y {x : Int32} (h : 0 ≤ x) (c : ¬ x ≤ 0) : x - 1 = (if 0 < x - 1 then x - 1 else 0) := by
  by_cases d : 0 < x - 1
  · rw [if_pos d]
  · rw [if_neg d]
    have e := sub_in (k := 1) h (by decide)
    rw [Int32.le_iff_toInt_le] at c h
    rw [Int32.lt_iff_toInt_lt, show x - 1 = x - nI 1 from rfl, e] at d
    rw [t0] at c h d
    apply Int32.toInt_inj.mp
    rw [show x - 1 = x - nI 1 from rfl, e, t0]; omega
theorem go_n {x : Int32} (h : 0 ≤ x) (c : x ≤ 0) : x - 0 = (if 0 < x - 1 then x - 1 else 0) := by
  have e : x = 0 := by
    apply Int32.toInt_inj.mp
    rw [Int32.le_iff_toInt_le] at c h; omega
  subst e; decide
theorem go_nn {tl : Nat → Int32} {tn : Nat} {b : Int32} (i : Nat) (h : nnT tl tn) : nnT (goF tl b i) tn := fun j hj => by
  unfold goF
  by_cases c : j < i
  · rw [if_pos c]
    by_cases d : 0 < tl j - b
    · rw [if_pos d]; rw [Int32.lt_iff_toInt_lt] at d; rw [Int32.le_iff_toInt_le]; omega
    · rw [if_neg d]; decide
  · rw [if_neg c]; exact h j hj
theorem go_0 {tl : Nat → Int32} {tn : Nat} (h : nnT tl tn) : goF tl (nI 0) tn = tl := funext fun j => by
  unfold goF
  by_cases c : j < tn
  · rw [if_pos c]
    have e : tl j - nI 0 = tl j := Int32.sub_zero _
    rw [e]
    by_cases d : 0 < tl j
    · rw [if_pos d]
    · rw [if_neg d]
      have := h j c
      apply Int32.toInt_inj.mp
      rw [Int32.lt_iff_toInt_lt] at d; rw [Int32.le_iff_toInt_le] at this; omega
  · rw [if_neg c]
theorem go_s {tl : Nat → Int32} {tn k : Nat} (hk : k < 900) (h : nnT tl tn) : goF (goF tl (nI k) tn) 1 tn = goF tl (nI (k + 1)) tn := funext fun j => by
  by_cases c : j < tn
  · have hx := h j c
    have e1 := sub_in (k := k) hx (by omega)
    have e2 := sub_in (k := k + 1) hx (by omega)
    rw [Int32.le_iff_toInt_le, t0] at hx
    unfold goF
    rw [if_pos c, if_pos c, if_pos c]
    by_cases d : 0 < tl j - nI k
    · rw [if_pos d]
      have dd := d
      rw [Int32.lt_iff_toInt_lt, e1, t0] at dd
      have e3 := sub_in (k := 1) (x := tl j - nI k) (by rw [Int32.le_iff_toInt_le, e1, t0]; omega) (by decide)
      have e4 : tl j - nI k - 1 = tl j - nI (k + 1) := by
        apply Int32.toInt_inj.mp
        rw [show tl j - nI k - 1 = tl j - nI k - nI 1 from rfl, e3, e1, e2]; omega
      rw [e4]
    · rw [if_neg d]
      rw [Int32.lt_iff_toInt_lt, e1, t0] at d
      have n2 : ¬ 0 < tl j - nI (k + 1) := by rw [Int32.lt_iff_toInt_lt, e2, t0]; omega
      rw [if_neg n2]; decide
  · unfold goF; rw [if_neg c, if_neg c, if_neg c]
/-- hang, as the reference looks -/
def hgM (n : Nat) (sd : Nat → Int32) (tn : Nat) (ts : Nat → Int32) (a b c : Int32) : Nat :=
  if isP n a = true ∧ isP n b = true ∧ isP n c = true ∧ ¬ a = b ∧ ¬ a = c ∧ ¬ b = c then
    (if thrW ts a.toNatClampNeg tn 0 = -9 ∧ thrW ts b.toNatClampNeg tn 0 = -9 ∧ thrW ts c.toNatClampNeg tn 0 = -9 ∧ canH n sd (bit3 a b c) = true then 2 else 1) else 0
theorem or_nI (a b : Nat) : nI a ||| nI b = nI (a ||| b) := by
  unfold nI
  apply Int32.toBitVec_inj.mp
  rw [Int32.toBitVec_or]
  show BitVec.ofNat 32 a ||| BitVec.ofNat 32 b = BitVec.ofNat 32 (a ||| b)
  apply BitVec.eq_of_getLsbD_eq
  intro i hi
  simp [BitVec.getLsbD_or, BitVec.getLsbD_ofNat, hi, Nat.testBit_or]
theorem bit3_n {n i j k : Nat} (hn : n ≤ 9) (hi : i < n) (hj : j < n) (hk : k < n) : ∃ m, m < 2 ^ n ∧ bit3 (nI i) (nI j) (nI k) = nI m := by
  refine ⟨2 ^ i ||| 2 ^ j ||| 2 ^ k, ?_, ?_⟩
  · exact Nat.or_lt_two_pow (Nat.or_lt_two_pow (Nat.pow_lt_pow_right (by decide) hi) (Nat.pow_lt_pow_right (by decide) hj)) (Nat.pow_lt_pow_right (by decide) hk)
  · unfold bit3; rw [sh1 i (by omega), sh1 j (by omega), sh1 k (by omega), or_nI, or_nI]
/-- rings are small numbers -/
def okS (n : Nat) (sd : Nat → Int32) : Prop := ∀ j, j < n → ∃ d : Nat, 1 ≤ d ∧ d ≤ 9 ∧ sd j = nI d
def okK (n : Nat) (kd : Nat → Int32) : Prop := ∀ j, j < n → kd j = 0 ∨ kd j = 1 ∨ kd j = 2
theorem ring_nat {k : Int32} {d : Nat} (hk : k = 0 ∨ k = 1 ∨ k = 2) (hd : d ≤ 9) : ∃ r : Nat, r ≤ 18 ∧ ringI k (nI d) = nI r := by
  rcases hk with h | h | h
  · subst h; exact ⟨d, by omega, rfl⟩
  · subst h; exact ⟨d / 2, by omega, pk_div (d := 2) (by omega) (by decide) (by decide)⟩
  · subst h; exact ⟨2 * d, by omega, pk_mul 2 d⟩
theorem sum_nat {f : Nat → Int32} {c : Nat} {set : Int32} : ∀ n, (∀ j, j < n → ∃ r : Nat, r ≤ c ∧ f j = nI r) → ∃ s : Nat, s ≤ c * n ∧ sumW f set n = nI s
  | 0, _ => ⟨0, Nat.le_refl _, rfl⟩
  | n + 1, h => by
    obtain ⟨s, hs, e⟩ := sum_nat (f := f) (set := set) n (fun j hj => h j (by omega))
    obtain ⟨r, hr, er⟩ := h n (by omega)
    unfold sumW
    by_cases q : bt set n = true
    · rw [if_pos q, e, er, nI_add]; exact ⟨s + r, by rw [Nat.mul_succ]; omega, rfl⟩
    · rw [if_neg q, e]; exact ⟨s, by rw [Nat.mul_succ]; omega, rfl⟩
theorem rings_nn {n : Nat} {kd sd : Nat → Int32} {set : Int32} (hn : n ≤ 9) (hk : okK n kd) (hs : okS n sd) : 0 ≤ sumW (rgF kd sd) set n := by
  obtain ⟨s, h, e⟩ := sum_nat (f := rgF kd sd) (c := 18) (set := set) n (fun j hj => by
    obtain ⟨d, -, h9, e⟩ := hs j hj
    show ∃ r : Nat, r ≤ 18 ∧ ringI (kd j) (sd j) = nI r
    rw [e]; exact ring_nat (hk j hj) h9)
  rw [e]; exact nI_pos' (by have : 18 * n ≤ 18 * 9 := Nat.mul_le_mul_left _ hn; omega)
theorem upd_nn {tl : Nat → Int32} {tn a : Nat} {v : Int32} (h : nnT tl tn) (hv : 0 ≤ v) : nnT (upd tl a v) tn := fun j hj => by
  unfold upd
  by_cases c : j = a
  · rw [if_pos c]; exact hv
  · rw [if_neg c]; exact h j hj
theorem sh_nn {tl : Nat → Int32} {tn a : Nat} (h : nnT tl tn) : nnT (shF tl a tn) (tn - 1) := fun j hj => by
  unfold shF
  by_cases c : a ≤ j ∧ j + 1 < tn
  · rw [if_pos c]; exact h _ c.2
  · rw [if_neg c]; exact h j (by omega)
theorem it_nn {tl : Nat → Int32} {tn : Nat} {rg : Int32} (h : nnT tl tn) : ∀ i, nnT (itB tn tl rg i).1 tn
  | 0 => h
  | i + 1 => go_nn tn (it_nn h i)
theorem pfm_nn {n : Nat} {kd sd : Nat → Int32} {a : Nat} {act : Int32} {z : Nat × (Nat → Int32) × (Nat → Int32) × Int32} (hn : n ≤ 9) (hk : okK n kd) (hs : okS n sd) (h : nnT z.2.2.1 z.1) : nnT (pfm n kd sd a act z).2.2.1 (pfm n kd sd a act z).1 := by
  unfold pfm
  by_cases h0 : act = 0
  · rw [if_pos h0]; exact upd_nn h (rings_nn hn hk hs)
  · rw [if_neg h0]
    by_cases h1 : act = 1
    · rw [if_pos h1]; exact upd_nn h (by decide)
    · rw [if_neg h1]
      by_cases h3 : act = 3
      · rw [if_pos h3]; exact sh_nn h
      · rw [if_neg h3]; exact it_nn h a
/-- an array's cell, by what it holds in range -/
theorem va_cg {D : va_G} {cl : List vw_C} {ws : va_W} {H : Heap} {k a n : Nat} {cA : ClassId} {f g : Nat → Int32} (hP : va_P D cl ws H) (hk : ws[k]? = some (a, .inl (cA, n, .inl f))) (h : ∀ j, j < n → f j = g j) : va_P D cl (ws.set k (a, .inl (cA, n, .inl g))) H := by
  intro i q hq
  rw [List.getElem?_set] at hq
  by_cases e : k = i
  · rw [if_pos e] at hq
    by_cases l : k < ws.length
    · rw [if_pos l] at hq
      cases hq
      have h1 := hP k _ hk
      show H[a]? = some (vp_cell cA (n, .inl g))
      have h2 : H[a]? = some (vp_cell cA (n, .inl f)) := h1
      rw [h2]
      congr 1
      show arrV cA n (fun j => Value.int (f j)) = arrV cA n (fun j => Value.int (g j))
      unfold arrV
      congr 1
      apply Array.ext'
      simp only [Array.toList_ofFn]
      congr 1
      funext j
      rw [h j.val j.isLt]
    · rw [if_neg l] at hq; cases hq
  · rw [if_neg e] at hq; exact hP i q hq
theorem nn_0 {x : Int32} (h : 0 ≤ x) (c : ¬ 0 < x) : x = 0 := by
  apply Int32.toInt_inj.mp
  rw [Int32.lt_iff_toInt_lt] at c; rw [Int32.le_iff_toInt_le] at h; omega
theorem nn_p {x : Int32} (h : 0 ≤ x) (c : ¬ x = 0) : ¬ x ≤ 0 := fun q => c (by
  apply Int32.toInt_inj.mp
  rw [Int32.le_iff_toInt_le] at h q; omega)
