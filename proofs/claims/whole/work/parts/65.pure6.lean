/-! the most that can hang: families of threes, and their worth as one number -/
def fup (P : Nat → Nat) (h s : Nat) : Nat → Nat := fun i => if i = h then s else P i
def sbs (s w : Nat) : Prop := ∀ p, s.testBit p = true → w.testBit p = true
def dsj (a b : Nat) : Prop := ∀ p, a.testBit p = true → b.testBit p = false
theorem dsj_iff {a b : Nat} : a &&& b = 0 ↔ dsj a b := by
  constructor
  · intro h p hp
    have h2 : (a &&& b).testBit p = false := by rw [h, Nat.zero_testBit]
    rw [Nat.testBit_and, hp, Bool.true_and] at h2
    exact h2
  · intro h
    apply Nat.eq_of_testBit_eq
    intro p
    rw [Nat.testBit_and, Nat.zero_testBit]
    cases hp : a.testBit p
    · rfl
    · rw [h p hp]; rfl
theorem lws_le {k p : Nat} : ∀ f q, q ≤ p → p < q + f → k.testBit p = true → lwS k f q ≤ p
  | 0, q, h1, h2, _ => by omega
  | f + 1, q, h1, h2, hb => by
    unfold lwS
    by_cases c : k.testBit q = true
    · rw [if_pos c]; exact h1
    · rw [if_neg c]
      rcases Nat.eq_or_lt_of_le h1 with e | e
      · rw [e] at c; exact absurd hb c
      · exact lws_le f (q + 1) e (by omega) hb
theorem low_le {k p : Nat} (hp : p < 10) (hb : k.testBit p = true) : lowI k ≤ p := lws_le 10 0 (Nat.zero_le _) (by omega) hb
theorem lws_bit {k : Nat} : ∀ f q, lwS k f q < q + f → k.testBit (lwS k f q) = true
  | 0, q, h => by have h : q < q + 0 := h; omega
  | f + 1, q, h => by
    unfold lwS at h ⊢
    by_cases c : k.testBit q = true
    · rw [if_pos c]; exact c
    · rw [if_neg c] at h ⊢; exact lws_bit f (q + 1) (by omega)
theorem low_bit {k : Nat} (h : lowI k < 10) : k.testBit (lowI k) = true := lws_bit 10 0 (by have q : lwS k 10 0 < 10 := h; omega)
theorem bit_9 {k p : Nat} (h : k < 512) (hb : k.testBit p = true) : p < 9 := by
  rcases Nat.lt_or_ge p 9 with q | q
  · exact q
  · rw [Nat.testBit_lt_two_pow (Nat.lt_of_lt_of_le (show k < 2 ^ 9 from h) (Nat.pow_le_pow_right (by decide) q))] at hb; exact absurd hb (by decide)
theorem low_sub {s w : Nat} (h : sbs s w) : lowI w ≤ lowI s := by
  rcases Nat.lt_or_ge (lowI s) 10 with q | q
  · exact low_le q (h _ (low_bit q))
  · exact Nat.le_trans lowI_lt q
theorem sub_lt {s w n : Nat} (h : sbs s w) (hw : w < 2 ^ n) : s < 2 ^ n := by
  apply Nat.lt_pow_two_of_testBit
  intro i hi
  cases hb : s.testBit i
  · rfl
  · have h1 := h i hb
    rw [Nat.testBit_lt_two_pow (Nat.lt_of_lt_of_le hw (Nat.pow_le_pow_right (by decide) hi))] at h1
    exact absurd h1 (by decide)
def Fam (n : Nat) (sd : Nat → Int32) (m : Nat) (T : Nat → Nat) : Prop := (∀ i, i < m → T i < 2 ^ n ∧ canH n sd (nI (T i)) = true) ∧ ∀ i j, i < j → j < m → dsj (T i) (T j) ∧ lowI (T i) < lowI (T j)
def orT (T : Nat → Nat) (h : Nat) : Nat → Nat
  | 0 => 0
  | k + 1 => orT T h k ||| T (h + k)
theorem orT_bit {T : Nat → Nat} {h p : Nat} : ∀ k, (orT T h k).testBit p = true → ∃ i, h ≤ i ∧ i < h + k ∧ (T i).testBit p = true
  | 0, hb => by
    have hb : (0 : Nat).testBit p = true := hb
    rw [Nat.zero_testBit] at hb; exact absurd hb (by decide)
  | k + 1, hb => by
    have hb : (orT T h k ||| T (h + k)).testBit p = true := hb
    rw [Nat.testBit_or, Bool.or_eq_true] at hb
    rcases hb with q | q
    · obtain ⟨i, a, b, c⟩ := orT_bit k q
      exact ⟨i, a, by omega, c⟩
    · exact ⟨h + k, by omega, by omega, q⟩
theorem pc_mono {s w : Nat} (h : sbs s w) : ∀ m, pcS s m ≤ pcS w m
  | 0 => Nat.le_refl _
  | m + 1 => by
    have ih := pc_mono h m
    show pcS s m + (if s.testBit m = true then 1 else 0) ≤ pcS w m + (if w.testBit m = true then 1 else 0)
    by_cases c : s.testBit m = true
    · rw [if_pos c, if_pos (h m c)]; omega
    · rw [if_neg c]; omega
theorem orT_pc {n : Nat} {sd : Nat → Int32} {m : Nat} {T : Nat → Nat} {h : Nat} (hn : n ≤ 9) (hF : Fam n sd m T) : ∀ k, h + k ≤ m → pcS (orT T h k) 9 = 3 * k
  | 0, _ => by show pcS 0 9 = 0; decide
  | k + 1, hk => by
    have ih := orT_pc (h := h) hn hF k (by omega)
    have hb := bnd_t hn
    have hA := hF.1 (h + k) (by omega)
    show pcS (orT T h k ||| T (h + k)) 9 = _
    rw [pc_or (dsj_iff.mpr (fun p hp => by
      obtain ⟨i, a, b, c⟩ := orT_bit k hp
      exact (hF.2 i (h + k) b (by omega)).1 p c)) 9, ih, pc_3 (by omega) hA.2]
    omega
theorem fam_cnt {n : Nat} {sd : Nat → Int32} {m : Nat} {T : Nat → Nat} {h w : Nat} (hn : n ≤ 9) (hF : Fam n sd m T) (hm : h ≤ m) (hE : ∀ i, h ≤ i → i < m → sbs (T i) w) : 3 * (m - h) ≤ pcS w 9 := by
  have a := orT_pc (h := h) hn hF (m - h) (by omega)
  have b := pc_mono (s := orT T h (m - h)) (w := w) (fun p hp => by
    obtain ⟨i, x, y, z⟩ := orT_bit _ hp
    exact hE i x (by omega) p z) 9
  omega
theorem fam_3 {n : Nat} {sd : Nat → Int32} {m : Nat} {T : Nat → Nat} (hn : n ≤ 9) (hF : Fam n sd m T) : m ≤ 3 := by
  have a := orT_pc (h := 0) hn hF m (by omega)
  have b := pcS_le (orT T 0 m) 9
  omega
def rgN (n : Nat) (kd sd : Nat → Int32) (s : Nat) : Nat := (sumW (rgF kd sd) (nI s) n).toNatClampNeg
theorem rg_nI {n : Nat} {kd sd : Nat → Int32} (hn : n ≤ 9) (hk : okK n kd) (hs : okS n sd) (s : Nat) : sumW (rgF kd sd) (nI s) n = nI (rgN n kd sd s) ∧ rgN n kd sd s ≤ 162 := by
  obtain ⟨x, h, e⟩ := sum_nat (f := rgF kd sd) (c := 18) (set := nI s) n (fun j hj => by
    obtain ⟨d, -, h9, e⟩ := hs j hj
    show ∃ r : Nat, r ≤ 18 ∧ ringI (kd j) (sd j) = nI r
    rw [e]; exact ring_nat (hk j hj) h9)
  have h2 : 18 * n ≤ 18 * 9 := Nat.mul_le_mul_left _ hn
  unfold rgN
  rw [e, nI_clamp (by omega)]
  exact ⟨rfl, by omega⟩
def rgS (n : Nat) (kd sd : Nat → Int32) (T : Nat → Nat) : Nat → Nat
  | 0 => 0
  | k + 1 => rgS n kd sd T k + rgN n kd sd (T k)
theorem rgS_le {n : Nat} {kd sd : Nat → Int32} {T : Nat → Nat} (hn : n ≤ 9) (hk : okK n kd) (hs : okS n sd) : ∀ k, rgS n kd sd T k ≤ 162 * k
  | 0 => Nat.le_refl _
  | k + 1 => by
    have ih := rgS_le (T := T) hn hk hs k
    have h2 := (rg_nI hn hk hs (T k)).2
    show rgS n kd sd T k + rgN n kd sd (T k) ≤ _
    omega
theorem rgS_cg {n : Nat} {kd sd : Nat → Int32} {T S : Nat → Nat} : ∀ k, (∀ i, i < k → T i = S i) → rgS n kd sd T k = rgS n kd sd S k
  | 0, _ => rfl
  | k + 1, h => by
    show rgS n kd sd T k + rgN n kd sd (T k) = rgS n kd sd S k + rgN n kd sd (S k)
    rw [rgS_cg k (fun i hi => h i (by omega)), h k (by omega)]
def dgT (T : Nat → Nat) : Nat → Nat → Nat
  | 0, _ => 9
  | m + 1, p => if (T m).testBit p = true then m else dgT T m p
theorem dgT_le {T : Nat → Nat} {p : Nat} : ∀ m, m ≤ 9 → dgT T m p ≤ 9
  | 0, _ => Nat.le_refl _
  | m + 1, h => by
    have ih := dgT_le (T := T) (p := p) m (by omega)
    unfold dgT
    by_cases c : (T m).testBit p = true
    · rw [if_pos c]; omega
    · rw [if_neg c]; exact ih
theorem dgT_cg {T S : Nat → Nat} {p : Nat} : ∀ m, (∀ i, i < m → T i = S i) → dgT T m p = dgT S m p
  | 0, _ => rfl
  | m + 1, h => by
    show (if (T m).testBit p = true then m else dgT T m p) = (if (S m).testBit p = true then m else dgT S m p)
    rw [h m (by omega), dgT_cg m (fun i hi => h i (by omega))]
theorem dg_9 {T : Nat → Nat} {p : Nat} : ∀ m, (∀ i, i < m → (T i).testBit p = false) → dgT T m p = 9
  | 0, _ => rfl
  | m + 1, h => by
    show (if (T m).testBit p = true then m else dgT T m p) = 9
    rw [h m (by omega), dg_9 m (fun i hi => h i (by omega))]; rfl
def lnN (D : Nat → Nat) : Nat → Nat
  | 0 => 0
  | k + 1 => D (8 - k) * 16 ^ k + lnN D k
theorem lnN_lt {D : Nat → Nat} (h : ∀ p, D p ≤ 9) : ∀ k, lnN D k < 16 ^ k
  | 0 => by show 0 < 16 ^ 0; decide
  | k + 1 => by
    have ih := lnN_lt h k
    have h2 : D (8 - k) * 16 ^ k ≤ 15 * 16 ^ k := Nat.mul_le_mul_right _ (by have := h (8 - k); omega)
    show D (8 - k) * 16 ^ k + lnN D k < 16 ^ (k + 1)
    rw [Nat.pow_succ]
    omega
theorem lnN_cg {D E : Nat → Nat} : ∀ k, k ≤ 9 → (∀ p, p < 9 → 9 ≤ p + k → D p = E p) → lnN D k = lnN E k
  | 0, _, _ => rfl
  | k + 1, h9, h => by
    show D (8 - k) * 16 ^ k + lnN D k = E (8 - k) * 16 ^ k + lnN E k
    rw [h (8 - k) (by omega) (by omega), lnN_cg k (by omega) (fun p h1 h2 => h p h1 (by omega))]
def wth (n : Nat) (kd sd : Nat → Int32) (m : Nat) (T : Nat → Nat) : Nat := m * 2 ^ 60 + rgS n kd sd T m * 2 ^ 36 + (2 ^ 36 - 1 - lnN (dgT T m) 9)
theorem wth_cg {n : Nat} {kd sd : Nat → Int32} {m : Nat} {T S : Nat → Nat} (h : ∀ i, i < m → T i = S i) : wth n kd sd m T = wth n kd sd m S := by
  unfold wth
  rw [rgS_cg m h, lnN_cg 9 (Nat.le_refl _) (fun p _ _ => dgT_cg m h)]
theorem ln_36 {T : Nat → Nat} {m : Nat} (h : m ≤ 3) : lnN (dgT T m) 9 < 2 ^ 36 := by
  have := lnN_lt (D := dgT T m) (fun p => dgT_le m (by omega)) 9
  have e : (16 : Nat) ^ 9 = 2 ^ 36 := by decide
  omega
theorem cmpN {a b : Nat} (ha : a < 2 ^ 63) (hb : b < 2 ^ 63) : lg_cmp (lN a) (lN b) < 0 ↔ a < b := by
  unfold lg_cmp
  by_cases c : lN a > lN b
  · rw [if_pos c]
    have c2 := (pk_lLT hb ha).mp c
    exact ⟨fun q => absurd q (by decide), fun q => by omega⟩
  · rw [if_neg c]
    have c2 : ¬ b < a := fun q => c ((pk_lLT hb ha).mpr q)
    by_cases d : lN a = lN b
    · rw [if_pos d]
      have := (pk_lEQ ha hb).mp d
      exact ⟨fun q => absurd q (by decide), fun q => by omega⟩
    · rw [if_neg d]
      have : ¬ a = b := fun q => d (by rw [q])
      exact ⟨fun _ => by omega, fun _ => by decide⟩
theorem kb_iff {m r l h r' l' : Nat} (hm : m < 2 ^ 31) (hh : h < 2 ^ 31) (hr : r < 2 ^ 31) (hr' : r' < 2 ^ 31) (hl : l < 2 ^ 63) (hl' : l' < 2 ^ 63) : kbB (nI m, nI r, lN l) (nI h) (nI r') (lN l') = true ↔ m ≤ h ∧ (h = m → r ≤ r' ∧ (r' = r → l' < l)) := by
  unfold kbB
  rw [Bool.and_eq_true, decide_eq_true_iff]
  show nI m ≤ nI h ∧ _ ↔ _
  rw [nI_leI hm hh]
  by_cases e : h = m
  · subst e
    rw [if_pos rfl, Bool.and_eq_true, decide_eq_true_iff]
    show _ ∧ nI r ≤ nI r' ∧ _ ↔ _
    rw [nI_leI hr hr']
    by_cases e2 : r' = r
    · subst e2
      rw [if_pos rfl, decide_eq_true_iff]
      show _ ∧ _ ∧ lg_cmp (lN l') (lN l) < 0 ↔ _
      rw [cmpN hl' hl]
      exact ⟨fun q => ⟨q.1, fun _ => ⟨q.2.1, fun _ => q.2.2⟩⟩, fun q => ⟨q.1, (q.2 rfl).1, (q.2 rfl).2 rfl⟩⟩
    · rw [if_neg (fun q => e2 ((nI_eq hr' hr).mp q))]
      exact ⟨fun q => ⟨q.1, fun _ => ⟨q.2.1, fun z => absurd z e2⟩⟩, fun q => ⟨q.1, (q.2 rfl).1, rfl⟩⟩
  · rw [if_neg (fun q => e ((nI_eq hh hm).mp q))]
    exact ⟨fun q => ⟨q.1, fun z => absurd z e⟩, fun q => ⟨q.1, rfl⟩⟩
def RZ (n : Nat) (kd sd : Nat → Int32) (z : mZ) (m : Nat) (F : Nat → Nat) : Prop := z = (nI m, nI (rgS n kd sd F m), lN (lnN (dgT F m) 9)) ∧ Fam n sd m F
theorem kb_step {n : Nat} {kd sd : Nat → Int32} (hn : n ≤ 9) (hk : okK n kd) (hs : okS n sd) {z : mZ} {m : Nat} {F : Nat → Nat} {h : Nat} {P : Nat → Nat} (hz : RZ n kd sd z m F) (hP : Fam n sd h P) : ∃ m' F', RZ n kd sd (kbZ z (nI h) (nI (rgS n kd sd P h)) (lN (lnN (dgT P h) 9))) m' F' ∧ wth n kd sd m F ≤ wth n kd sd m' F' ∧ wth n kd sd h P ≤ wth n kd sd m' F' := by
  obtain ⟨rfl, hF⟩ := hz
  have m3 := fam_3 hn hF
  have h3 := fam_3 hn hP
  have r1 := rgS_le (T := F) hn hk hs m
  have r2 := rgS_le (T := P) hn hk hs h
  have l1 := ln_36 (T := F) m3
  have l2 := ln_36 (T := P) h3
  have key := kb_iff (m := m) (r := rgS n kd sd F m) (l := lnN (dgT F m) 9) (h := h) (r' := rgS n kd sd P h) (l' := lnN (dgT P h) 9) (by omega) (by omega) (by omega) (by omega) (by omega) (by omega)
  unfold kbZ
  by_cases c : kbB (nI m, nI (rgS n kd sd F m), lN (lnN (dgT F m) 9)) (nI h) (nI (rgS n kd sd P h)) (lN (lnN (dgT P h) 9)) = true
  · rw [if_pos c]
    have k := key.mp c
    refine ⟨h, P, ⟨rfl, hP⟩, ?_, Nat.le_refl _⟩
    unfold wth
    generalize rgS n kd sd F m = a at *
    generalize rgS n kd sd P h = b at *
    generalize lnN (dgT F m) 9 = x at *
    generalize lnN (dgT P h) 9 = y at *
    omega
  · rw [if_neg c]
    have k : ¬ (m ≤ h ∧ (h = m → rgS n kd sd F m ≤ rgS n kd sd P h ∧ (rgS n kd sd P h = rgS n kd sd F m → lnN (dgT P h) 9 < lnN (dgT F m) 9))) := fun q => c (key.mpr q)
    refine ⟨m, F, ⟨rfl, hF⟩, Nat.le_refl _, ?_⟩
    unfold wth
    generalize rgS n kd sd F m = a at *
    generalize rgS n kd sd P h = b at *
    generalize lnN (dgT F m) 9 = x at *
    generalize lnN (dgT P h) 9 = y at *
    omega
/-- a three is written into the line -/
theorem ln_upd {D : Nat → Nat} {k v : Nat} (hk : k < 9) : lnN (fun p => if p = k then v else D p) 9 + D k * 16 ^ (8 - k) = lnN D 9 + v * 16 ^ (8 - k) := by
  rcases (show k = 0 ∨ k = 1 ∨ k = 2 ∨ k = 3 ∨ k = 4 ∨ k = 5 ∨ k = 6 ∨ k = 7 ∨ k = 8 by omega) with rfl | rfl | rfl | rfl | rfl | rfl | rfl | rfl | rfl <;> simp [lnN] <;> omega
theorem sh_dig : ∀ h, h < 10 → ∀ k, k < 9 → ((9 - nI h).toInt64 <<< ((plO (nI k)).toInt64 &&& 63)) = lN ((9 - h) * 16 ^ (8 - k)) := by decide +kernel
theorem wr_ln {D : Nat → Nat} {s h : Nat} (h9 : h < 10) (hD : ∀ p, p < 9 → s.testBit p = true → D p = 9) : ∀ k, k ≤ 9 → wrW (lN (lnN D 9)) (nI s) (nI h) k = lN (lnN (fun p => if p < k ∧ s.testBit p = true then h else D p) 9)
  | 0, _ => by
    have e : (fun p => if p < 0 ∧ s.testBit p = true then h else D p) = D := funext fun p => if_neg (fun q => absurd q.1 (Nat.not_lt_zero p))
    rw [e]; rfl
  | k + 1, hk => by
    have ih := wr_ln h9 hD k (by omega)
    show (if bt (nI s) k = true then wrW (lN (lnN D 9)) (nI s) (nI h) k - ((9 - nI h).toInt64 <<< ((plO (nI k)).toInt64 &&& 63)) else wrW (lN (lnN D 9)) (nI s) (nI h) k) = _
    rw [bt_nI (by omega), ih]
    by_cases c : s.testBit k = true
    · rw [if_pos c, sh_dig h h9 k (by omega)]
      have hDk := hD k (by omega) c
      have e : (fun p => if p < k + 1 ∧ s.testBit p = true then h else D p) = (fun p => if p = k then h else if p < k ∧ s.testBit p = true then h else D p) := funext fun p => by
        by_cases q : p = k
        · subst q; rw [if_pos ⟨Nat.lt_succ_self _, c⟩, if_pos rfl]
        · show (if p < k + 1 ∧ s.testBit p = true then h else D p) = (if p = k then h else (if p < k ∧ s.testBit p = true then h else D p))
          rw [if_neg q]
          by_cases g : p < k ∧ s.testBit p = true
          · rw [if_pos g, if_pos ⟨by omega, g.2⟩]
          · rw [if_neg g, if_neg (fun z => g ⟨by omega, z.2⟩)]
      have u : lnN (fun p => if p = k then h else if p < k ∧ s.testBit p = true then h else D p) 9 + (if k < k ∧ s.testBit k = true then h else D k) * 16 ^ (8 - k) = lnN (fun p => if p < k ∧ s.testBit p = true then h else D p) 9 + h * 16 ^ (8 - k) := ln_upd (D := fun p => if p < k ∧ s.testBit p = true then h else D p) (v := h) (show k < 9 by omega)
      have ek : (if k < k ∧ s.testBit k = true then h else D k) = 9 := by
        rw [if_neg (fun q => Nat.lt_irrefl k q.1), hDk]
      rw [ek] at u
      rw [e]
      generalize lnN (fun p => if p = k then h else if p < k ∧ s.testBit p = true then h else D p) 9 = A at u ⊢
      generalize lnN (fun p => if p < k ∧ s.testBit p = true then h else D p) 9 = B at u ⊢
      have m : (9 - h) * 16 ^ (8 - k) + h * 16 ^ (8 - k) = 9 * 16 ^ (8 - k) := by rw [← Nat.add_mul]; congr 1; omega
      generalize (9 - h) * 16 ^ (8 - k) = X at m ⊢
      generalize h * 16 ^ (8 - k) = Y at m u
      rw [lN_sub (by omega)]
      exact congrArg lN (by omega)
    · have e : (fun p => if p < k + 1 ∧ s.testBit p = true then h else D p) = (fun p => if p < k ∧ s.testBit p = true then h else D p) := funext fun p => by
        by_cases g : p < k ∧ s.testBit p = true
        · rw [if_pos g, if_pos ⟨by omega, g.2⟩]
        · rw [if_neg g, if_neg (fun z => g ⟨by
            rcases Nat.eq_or_lt_of_le (Nat.le_of_lt_succ z.1) with q | q
            · rw [q] at z; exact absurd z.2 c
            · exact q, z.2⟩)]
      rw [if_neg c, e]
theorem wr_fam {P : Nat → Nat} {h s : Nat} (h8 : h ≤ 8) (hd : ∀ i, i < h → dsj (P i) s) : wrW (lN (lnN (dgT P h) 9)) (nI s) (nI h) 9 = lN (lnN (dgT (fup P h s) (h + 1)) 9) := by
  have hd2 : ∀ p, s.testBit p = true → ∀ i, i < h → (P i).testBit p = false := fun p hp i hi => by
    cases hb : (P i).testBit p
    · rfl
    · have := hd i hi p hb
      rw [this] at hp; exact absurd hp (by decide)
  rw [wr_ln (by omega) (fun p _ hp => dg_9 h (hd2 p hp)) 9 (Nat.le_refl _)]
  refine congrArg lN (lnN_cg 9 (Nat.le_refl _) (fun p hp _ => ?_))
  show (if p < 9 ∧ s.testBit p = true then h else dgT P h p) = (if (fup P h s h).testBit p = true then h else dgT (fup P h s) h p)
  have e1 : fup P h s h = s := if_pos rfl
  rw [e1, dgT_cg (T := fup P h s) (S := P) h (fun i hi => if_neg (by omega))]
  by_cases c : s.testBit p = true
  · rw [if_pos ⟨hp, c⟩, if_pos c]
  · rw [if_neg (fun q => c q.2), if_neg c]
theorem rg_fam {n : Nat} {kd sd : Nat → Int32} {P : Nat → Nat} {h s : Nat} (hn : n ≤ 9) (hk : okK n kd) (hs : okS n sd) : nI (rgS n kd sd P h) + sumW (rgF kd sd) (nI s) n = nI (rgS n kd sd (fup P h s) (h + 1)) := by
  rw [(rg_nI hn hk hs s).1, nI_add]
  refine congrArg nI ?_
  show _ = rgS n kd sd (fup P h s) h + rgN n kd sd (fup P h s h)
  have e1 : fup P h s h = s := if_pos rfl
  rw [e1, rgS_cg (T := fup P h s) (S := P) h (fun i hi => if_neg (by omega))]
