/-! pure words: the reference's other calls -/
theorem tl2 {x : Int32} (h : ∃ d : Nat, 1 ≤ d ∧ d ≤ 9 ∧ x = nI d) : 2 * x + 100 = x + 100 + x := by
  obtain ⟨d, -, -, rfl⟩ := h
  rw [show (100 : Int32) = nI 100 from rfl, show (2 : Int32) = nI 2 from rfl, pk_mul, nI_add, nI_add, nI_add]
  congr 1; omega
def okM (sv lv : Nat → Int32) : Prop := ∀ q, q < 4 → ¬ sv q = -9 → ∃ L : Nat, L ≤ 60 ∧ lv q = nI L
/-- b .. b + i - 1 are 0 -/
def zroM (cv : Nat → Int32) (b i : Nat) : Nat → Int32 := fun j => if b ≤ j ∧ j < b + i then 0 else cv j
theorem zroM_0 (cv : Nat → Int32) (b : Nat) : zroM cv b 0 = cv := funext fun j => if_neg (by omega)
theorem zroM_s (cv : Nat → Int32) (b i : Nat) : upd (zroM cv b i) (b + i) 0 = zroM cv b (i + 1) := funext fun j => by
  unfold upd zroM
  by_cases a : j = b + i
  · subst a; simp
  · by_cases g : b ≤ j ∧ j < b + i
    · rw [if_neg a, if_pos g, if_pos (by omega)]
    · rw [if_neg a, if_neg g, if_neg (by omega)]
theorem lst_L {i : Int32} {L : Nat} (hL : L ≤ 60) (h : lstT i 0 (nI L - 1) = true) : ∃ j, j < L ∧ i = nI j := by
  have h := of_decide_eq_true h
  rcases Nat.eq_zero_or_pos L with e | e
  · subst e
    exfalso
    have h1 := h.1; have h2 := h.2
    rw [Int32.lt_iff_toInt_lt] at h1 h2
    have z : (nI 0 - 1 : Int32).toInt = -1 := rfl
    have z0 : (0 : Int32).toInt = 0 := rfl
    omega
  · obtain ⟨m, rfl⟩ : ∃ m, L = m + 1 := ⟨L - 1, by omega⟩
    rw [nI_pred] at h
    obtain ⟨j, hj, rfl⟩ := nI_of2 (nI_toInt (n := m) (by omega)) h.1 (nlt_le h.2)
    exact ⟨j, by omega, rfl⟩
theorem lst_Ln {j L : Nat} (hL : L ≤ 60) (h : j < L) : lstT (nI j) 0 (nI L - 1) = true := by
  obtain ⟨m, rfl⟩ : ∃ m, L = m + 1 := ⟨L - 1, by omega⟩
  rw [nI_pred]
  exact decide_eq_true ⟨nI_pos (by omega), nI_nlt (by omega) (by omega)⟩
def ix60 (q i : Nat) : Nat := 60 * q + i
theorem ix60_i (q i : Nat) : 60 * nI q + nI i = nI (60 * q + i) := by rw [show (60 : Int32) = nI 60 from rfl, pk_mul, nI_add]
def putM (sq lq i : Int32) : Int32 := if sq = -9 then -11 else if lstT i 0 (lq - 1) = true then 1 else -13
def putMA (sq lq i : Int32) : Int32 := if sq = -9 then 1 else if lstT i 0 (lq - 1) = true then 0 else 3
def putMF (sq lq : Int32) (cv : Nat → Int32) (q : Nat) (i v : Int32) : Nat → Int32 := if sq = -9 then cv else if lstT i 0 (lq - 1) = true then upd cv (60 * q + i.toNatClampNeg) (cutI sq v) else cv
def celMA (sq lq w i : Int32) : Int32 := if ¬ sq = -9 ∧ ¬ sq = w then 2 else if sq = -9 then 1 else if lstT i 0 (lq - 1) = true then 0 else 3
def celM (sq lq w : Int32) (cv : Nat → Int32) (q : Nat) (i : Int32) : Int64 := if celMA sq lq w i = 0 then (cv (60 * q + i.toNatClampNeg)).toInt64 else -9223372036854775808
theorem upd_cu {f g : Nat → Int32} {j : Nat} {v : Int32} (h : ∀ k, ¬ k = j → f k = g k) : upd f j v = upd g j v := funext fun k => by
  unfold upd
  by_cases c : k = j
  · rw [if_pos c, if_pos c]
  · rw [if_neg c, if_neg c, h k c]
theorem upd_id {f g : Nat → Int32} {j : Nat} (h : ∀ k, ¬ k = j → f k = g k) : upd f j (g j) = g := funext fun k => by
  unfold upd
  by_cases c : k = j
  · rw [if_pos c, c]
  · rw [if_neg c, h k c]
def soM (kd sd rw_ rh : Nat → Int32) : Nat → Nat → Bool
  | 0, _ => true
  | k + 1, i => if ringI (kd (rw_ i).toNatClampNeg) (sd (rw_ i).toNatClampNeg) = rh i then soM kd sd rw_ rh k (i + 1) else false
def sidM (kd sd rw_ rh : Nat → Int32) (rn j : Nat) : Nat → Bool := fun v => decide (1 ≤ v) && soM kd (upd sd j (nI v)) rw_ rh rn 0
def kinM (kd sd rw_ rh : Nat → Int32) (rn j : Nat) : Nat → Bool := fun v => soM (upd kd j (nI v)) sd rw_ rh rn 0
def togM (n : Nat) (sd ts f : Nat → Int32) (a0 tn : Nat) : Nat → Nat → Int32
  | 0, _ => -9
  | k + 1, x => if stkW n sd ts f a0 (nI x) tn 0 = true then nI x else togM n sd ts f a0 tn k (x + 1)
def bI (b : Bool) : Int32 := if b = true then 1 else 0
def raW (n : Nat) (kd sd : Nat → Int32) (tn : Nat) (ts : Nat → Int32) (set : Int32) : Nat → Bool
  | 0 => canH n sd set
  | p + 1 => raW n kd sd tn ts set p && (!bt set p || decide (¬ sumW (rgF kd sd) set n ≤ joyI n kd sd tn ts p))
def ratM (n : Nat) (kd sd : Nat → Int32) (tn : Nat) (ts : Nat → Int32) : Nat → Nat → Int32
  | 0, _ => -9
  | k + 1, i => if raW n kd sd tn ts (nI i) n = true then nI i else ratM n kd sd tn ts k (i + 1)
theorem msk_in {n j k : Nat} (hj : j < n) (hn : n ≤ 9) : (nI k &&& mskP (nI j)) = mskP (nI j) ↔ bt (nI k) j = true := by
  have e : mskP (nI j) = (1 : Int32) <<< (nI j &&& 31) := by
    unfold mskP; rw [if_neg]
    intro z
    have := congrArg Int32.toInt z
    rw [nI_toInt (by omega)] at this
    have q : (-1 : Int32).toInt = -1 := rfl
    omega
  rw [e]
  constructor
  · intro h
    by_cases c : bt (nI k) j = true
    · exact c
    · have c : bt (nI k) j = false := by simpa using c
      have := (bt_and0 (nI k) (show j < 32 by omega)).mpr c
      rw [this] at h
      have h2 := congrArg (fun z => bt z j) h
      simp only [b_0, b_shl j (show j < 32 by omega) 1 (show j < 32 by omega), Nat.le_refl, decide_true, Nat.sub_self, bt_one, Bool.and_self] at h2
      exact absurd h2 (by decide)
  · intro h
    refine b_ext (fun i hi => ?_)
    rw [b_and, b_shl j (show j < 32 by omega) 1 hi, bt_one]
    by_cases c : i = j
    · subst c; rw [h]; simp
    · by_cases g : j ≤ i
      · rw [decide_eq_false (show ¬ i - j = 0 by omega)]; simp
      · rw [decide_eq_false g]; simp
theorem cmp0 {y : Nat} (h : y < 2 ^ 31) : lg_cmp (lN y) 0 = 0 ↔ y = 0 := by
  unfold lg_cmp
  by_cases c : lN y > 0
  · rw [if_pos c]
    refine ⟨fun q => absurd q (by decide), fun q => ?_⟩
    subst q; exact absurd c (by decide)
  · rw [if_neg c]
    by_cases d : lN y = 0
    · rw [if_pos d]; exact ⟨fun _ => (lN_eq h (by decide)).mp (show lN y = lN 0 from d), fun _ => rfl⟩
    · rw [if_neg d]; exact ⟨fun q => absurd q (by decide), fun q => absurd (by rw [q]; rfl) d⟩
theorem okK_u {n j i : Nat} {kd : Nat → Int32} (h : okK n kd) (hi : i < 3) : okK n (upd kd j (nI i)) := fun k hk => by
  unfold upd
  by_cases c : k = j
  · rw [if_pos c]
    rcases (show i = 0 ∨ i = 1 ∨ i = 2 by omega) with q | q | q <;> subst q
    · exact Or.inl rfl
    · exact Or.inr (Or.inl rfl)
    · exact Or.inr (Or.inr rfl)
  · rw [if_neg c]; exact h k hk
