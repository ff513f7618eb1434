/-! the shape of a three -/
set_option maxRecDepth 100000 in
theorem three_bits : ∀ k, k < 512 → pcS k 9 = 3 → ∃ a, a < 9 ∧ ∃ b, b < 9 ∧ ∃ c, c < 9 ∧ a < b ∧ b < c ∧ k = 2 ^ a ||| 2 ^ b ||| 2 ^ c := by decide +kernel
theorem or_zero (x : Int32) : (0 : Int32) ||| x = x := b_ext (fun i _ => by rw [b_or, b_0, Bool.false_or])
abbrev Sb (x : Int32) : Int32 := (1 : Int32) <<< (x &&& 31)
theorem len_ph {sd : Nat → Int32} {set : Int32} {a b c : Nat} (hab : a < b) (hbc : b < c) (hb : ∀ p, p < 32 → bt set p = (decide (p = a) || decide (p = b) || decide (p = c))) : ∀ m, m ≤ 32 → lenW sd set m = (if m ≤ a then 0 else if m ≤ b then Sb (sd a) else if m ≤ c then Sb (sd a) ||| Sb (sd b) else Sb (sd a) ||| Sb (sd b) ||| Sb (sd c))
  | 0, _ => by rw [if_pos (Nat.zero_le _)]; rfl
  | m + 1, hm => by
    have ih := len_ph (sd := sd) hab hbc hb m (by omega)
    unfold lenW
    rw [ih, hb m (by omega)]
    by_cases e1 : m = a
    · subst e1
      simp only [decide_true, Bool.true_or, if_true]
      rw [if_pos (Nat.le_refl _), if_neg (by omega), if_pos (by omega), or_zero]
    · by_cases e2 : m = b
      · subst e2
        simp only [decide_true, Bool.true_or, Bool.or_true, if_true]
        rw [if_neg (by omega), if_pos (Nat.le_refl _), if_neg (by omega), if_neg (by omega), if_pos (by omega)]
      · by_cases e3 : m = c
        · subst e3
          simp only [decide_true, Bool.or_true, if_true]
          rw [if_neg (by omega), if_neg (by omega), if_pos (Nat.le_refl _), if_neg (by omega), if_neg (by omega), if_neg (by omega)]
        · simp only [e1, e2, e3, decide_false, Bool.or_false, Bool.false_eq_true, if_false]
          by_cases q1 : m ≤ a
          · rw [if_pos q1, if_pos (by omega)]
          · by_cases q2 : m ≤ b
            · rw [if_neg q1, if_pos q2, if_neg (by omega), if_pos (by omega)]
            · by_cases q3 : m ≤ c
              · rw [if_neg q1, if_neg q2, if_pos q3, if_neg (by omega), if_neg (by omega), if_pos (by omega)]
              · rw [if_neg q1, if_neg q2, if_neg q3, if_neg (by omega), if_neg (by omega), if_neg (by omega)]
def eqI (x y : Int32) : Int32 := if x = y then 1 else 0
theorem alkI_no {sd : Nat → Int32} {set : Int32} {p : Nat} {ac : Int32} (h : bt set p = false) : ∀ q, alkI sd set p ac q = ac
  | 0 => rfl
  | q + 1 => by unfold alkI; rw [if_neg (fun z => by rw [h] at z; exact absurd z.1 (by decide)), alkI_no h q]
theorem alkI_ph {sd : Nat → Int32} {set : Int32} {a b c p : Nat} {ac : Int32} (hab : a < b) (hbc : b < c) (hb : ∀ p, p < 32 → bt set p = (decide (p = a) || decide (p = b) || decide (p = c))) (hp : bt set p = true) : ∀ q, q ≤ 32 → q ≤ c → alkI sd set p ac q = (if q ≤ a then ac else if q ≤ b then ac + eqI (sd p) (sd a) else ac + eqI (sd p) (sd a) + eqI (sd p) (sd b))
  | 0, _, _ => by rw [if_pos (Nat.zero_le _)]; rfl
  | q + 1, h32, hqc => by
    have ih := alkI_ph (sd := sd) (ac := ac) hab hbc hb hp q (by omega) (by omega)
    unfold alkI
    rw [ih]
    by_cases e1 : q = a
    · subst e1
      have hq : bt set q = true := by rw [hb q (by omega)]; simp
      rw [if_pos (Nat.le_refl q), if_neg (show ¬ q + 1 ≤ q by omega), if_pos (show q + 1 ≤ b by omega)]
      unfold eqI
      by_cases z : sd p = sd q
      · rw [if_pos ⟨hp, hq, z⟩, if_pos z]
      · rw [if_neg (fun y => z y.2.2), if_neg z]; exact (Int32.add_zero _).symm
    · by_cases e2 : q = b
      · subst e2
        have hq : bt set q = true := by rw [hb q (by omega)]; simp
        rw [if_neg (show ¬ q ≤ a by omega), if_pos (Nat.le_refl q), if_neg (show ¬ q + 1 ≤ a by omega), if_neg (show ¬ q + 1 ≤ q by omega)]
        by_cases z : sd p = sd q
        · rw [if_pos ⟨hp, hq, z⟩]; unfold eqI; rw [if_pos z]
        · rw [if_neg (fun y => z y.2.2)]; unfold eqI; rw [if_neg z]; exact (Int32.add_zero _).symm
      · have hq : bt set q = false := by rw [hb q (by omega)]; simp [e1, e2]; omega
        rw [if_neg (fun y => by rw [hq] at y; exact absurd y.2.1 (by decide))]
        by_cases q1 : q ≤ a
        · rw [if_pos q1, if_pos (by omega)]
        · by_cases q2 : q ≤ b
          · rw [if_neg q1, if_pos q2, if_neg (by omega), if_pos (by omega)]
          · rw [if_neg q1, if_neg q2, if_neg (by omega), if_neg (by omega)]
theorem alk_ph {sd : Nat → Int32} {set : Int32} {a b c : Nat} (hab : a < b) (hbc : b < c) (hb : ∀ p, p < 32 → bt set p = (decide (p = a) || decide (p = b) || decide (p = c))) : ∀ m, m ≤ 32 → alkW sd set m = (if m ≤ b then 0 else if m ≤ c then 0 + eqI (sd b) (sd a) else 0 + eqI (sd b) (sd a) + eqI (sd c) (sd a) + eqI (sd c) (sd b))
  | 0, _ => by rw [if_pos (Nat.zero_le _)]; rfl
  | m + 1, hm => by
    have ih := alk_ph (sd := sd) hab hbc hb m (by omega)
    show alkI sd set m (alkW sd set m) m = _
    rw [ih]
    by_cases e1 : m = a
    · subst e1
      have hp : bt set m = true := by rw [hb m (by omega)]; simp
      rw [alkI_ph hab hbc hb hp m (by omega) (by omega), if_pos (Nat.le_refl _), if_pos (by omega), if_pos (by omega)]
    · by_cases e2 : m = b
      · subst e2
        have hp : bt set m = true := by rw [hb m (by omega)]; simp
        rw [alkI_ph hab hbc hb hp m (by omega) (by omega), if_neg (by omega), if_pos (Nat.le_refl _), if_pos (Nat.le_refl _), if_neg (by omega), if_pos (by omega)]
      · by_cases e3 : m = c
        · subst e3
          have hp : bt set m = true := by rw [hb m (by omega)]; simp
          rw [alkI_ph hab hbc hb hp m (by omega) (Nat.le_refl _), if_neg (by omega), if_neg (by omega), if_neg (by omega), if_pos (Nat.le_refl _), if_neg (by omega), if_neg (by omega)]
        · have hp : bt set m = false := by rw [hb m (by omega)]; simp [e1, e2, e3]
          rw [alkI_no hp]
          by_cases q2 : m ≤ b
          · rw [if_pos q2, if_pos (by omega)]
          · by_cases q3 : m ≤ c
            · rw [if_neg q2, if_pos q3, if_neg (by omega), if_pos (by omega)]
            · rw [if_neg q2, if_neg q3, if_neg (by omega), if_neg (by omega)]
def shN (x y z : Nat) : Bool := decide (3 - bcE (Sb (nI x) ||| Sb (nI y) ||| Sb (nI z)) = (if 0 + eqI (nI y) (nI x) + eqI (nI z) (nI x) + eqI (nI z) (nI y) = 3 then 2 else 0 + eqI (nI y) (nI x) + eqI (nI z) (nI x) + eqI (nI z) (nI y)))
set_option maxRecDepth 100000 in
theorem shN_ok : ∀ x, x < 10 → ∀ y, y < 10 → ∀ z, z < 10 → shN x y z = true := by decide +kernel
theorem shape_same {n : Nat} {sd : Nat → Int32} {k : Nat} (hn : n ≤ 9) (hs : okS n sd) (hk : k < 2 ^ n) (hc : canH n sd (nI k) = true) : 3 - bcE (lenW sd (nI k) n) = shpI sd (nI k) n := by
  have hb := bnd_t hn
  obtain ⟨a, ha, b, hb9, c, hc9, hab, hbc, e⟩ := three_bits k (by omega) (pc_3 (by omega) hc)
  have hbt : ∀ p, p < 32 → bt (nI k) p = (decide (p = a) || decide (p = b) || decide (p = c)) := fun p hp => by
    rw [bt_nI hp, e, Nat.testBit_or, Nat.testBit_or, Nat.testBit_two_pow, Nat.testBit_two_pow, Nat.testBit_two_pow]
    simp only [eq_comm]
  have hcn : c < n := by
    rcases Nat.lt_or_ge c n with q | q
    · exact q
    · exfalso
      have h1 := Nat.testBit_lt_two_pow (Nat.lt_of_lt_of_le hk (Nat.pow_le_pow_right (by decide) q))
      have h2 := hbt c (by omega)
      rw [bt_nI (by omega), h1] at h2
      simp at h2
  rw [len_ph hab hbc hbt n (by omega), if_neg (by omega), if_neg (by omega), if_neg (by omega)]
  unfold shpI
  rw [alk_ph hab hbc hbt n (by omega), if_neg (show ¬ n ≤ b by omega), if_neg (show ¬ n ≤ c by omega)]
  obtain ⟨x, -, hx, ex⟩ := hs a (by omega)
  obtain ⟨y, -, hy, ey⟩ := hs b (by omega)
  obtain ⟨z, -, hz, ez⟩ := hs c (by omega)
  rw [ex, ey, ez]
  exact of_decide_eq_true (shN_ok x (by omega) y (by omega) z (by omega))
