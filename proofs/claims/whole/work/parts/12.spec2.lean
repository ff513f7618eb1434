/-! pure words: arrays -/
theorem max0 {k : Nat} (h : k < 2 ^ 31) : (if (0 : Int32) < nI k then nI k else 0) = nI k := by
  by_cases z : (0 : Int32) < nI k
  · rw [if_pos z]
  · rw [if_neg z]
    rcases Nat.eq_zero_or_pos k with e | e
    · rw [e]; rfl
    · exact absurd (nI_lt (a := 0) e h) z
def zeroF (f : Nat → Int32) (i : Nat) : Nat → Int32 := fun j => if j < i then 0 else f j
theorem zeroF_0 (f : Nat → Int32) : zeroF f 0 = f := funext fun j => if_neg (Nat.not_lt_zero j)
theorem zeroF_s (f : Nat → Int32) (i : Nat) : upd (zeroF f i) i 0 = zeroF f (i + 1) := funext fun j => by
  unfold upd zeroF
  by_cases a : j = i
  · subst a; simp
  · by_cases b : j < i
    · simp [a, b, Nat.lt_succ_of_lt b]
    · simp [a, b, show ¬ j < i + 1 by omega]
def cutI (ln v : Int32) : Int32 := if ln = 0 then v.toInt8.toInt32 else if ln = 1 then v.toInt16.toInt32 else v
def fasI (le ln w : Int32) : Int32 := if le = -1 then 1 else if ln = w then 0 else 2
def focI (le fr mn : Int32) : Int32 := if fr < 0 then 3 else if le < fr then 3 else if 0 ≤ mn then (if mn ≤ le - fr then 0 else 3) else 3
/-- the first of k rows from i on that holds person j; -9 -/
def thrW (ts : Nat → Int32) (j : Nat) : Nat → Nat → Int32
  | 0, _ => -9
  | k + 1, i => if bt (ts i) j = true then nI i else thrW ts j k (i + 1)
def orW (f : Nat → Int32) : Nat → Int32
  | 0 => 0
  | k + 1 => orW f k ||| f k
def addW (f : Nat → Int32) : Nat → Int32
  | 0 => 0
  | k + 1 => addW f k + f k
def cntW (f : Nat → Int32) : Nat → Int32
  | 0 => 0
  | k + 1 => if f k ≤ 0 then cntW f k else cntW f k + 1
/-- b bars go by for the first i -/
def goF (f : Nat → Int32) (b : Int32) (i : Nat) : Nat → Int32 := fun j => if j < i then (if 0 < f j - b then f j - b else 0) else f j
theorem goF_0 (f : Nat → Int32) (b : Int32) : goF f b 0 = f := funext fun j => if_neg (Nat.not_lt_zero j)
theorem goF_s (f : Nat → Int32) (b : Int32) (i : Nat) : upd (goF f b i) i (if 0 < goF f b i i - b then goF f b i i - b else 0) = goF f b (i + 1) := funext fun j => by
  have e : goF f b i i = f i := if_neg (Nat.lt_irrefl i)
  rw [e]
  unfold upd goF
  by_cases a : j = i
  · subst a; simp
  · by_cases g : j < i
    · simp [a, g, Nat.lt_succ_of_lt g]
    · simp [a, g, show ¬ j < i + 1 by omega]
/-- rows t .. are moved one down, up to n -/
def shF (f : Nat → Int32) (t n : Nat) : Nat → Int32 := fun j => if t ≤ j ∧ j + 1 < n then f (j + 1) else f j
theorem shF_0 (f : Nat → Int32) (t : Nat) : shF f t (t + 1) = f := funext fun j => if_neg (by omega)
theorem shF_s (f : Nat → Int32) {t i : Nat} (h : t ≤ i) : upd (shF f t (i + 1)) i (shF f t (i + 1) (i + 1)) = shF f t (i + 1 + 1) := funext fun j => by
  have e : shF f t (i + 1) (i + 1) = f (i + 1) := if_neg (by omega)
  rw [e]
  unfold upd shF
  by_cases a : j = i
  · subst a; simp [h]
  · by_cases g : t ≤ j ∧ j + 1 < i + 1
    · rw [if_neg a, if_pos g, if_pos ⟨g.1, by omega⟩]
    · rw [if_neg a, if_neg g, if_neg (by omega)]
/-- the first i of g, the rest of f -/
def cpF (g f : Nat → Int32) (i : Nat) : Nat → Int32 := fun j => if j < i then g j else f j
theorem cpF_0 (g f : Nat → Int32) : cpF g f 0 = f := funext fun j => if_neg (Nat.not_lt_zero j)
theorem cpF_s (g f : Nat → Int32) (i : Nat) : upd (cpF g f i) i (g i) = cpF g f (i + 1) := funext fun j => by
  unfold upd cpF
  by_cases a : j = i
  · subst a; simp
  · by_cases b : j < i
    · simp [a, b, Nat.lt_succ_of_lt b]
    · simp [a, b, show ¬ j < i + 1 by omega]
/-- the first i by F, the rest of f -/
def cpG (F f : Nat → Int32) (i : Nat) : Nat → Int32 := fun j => if j < i then F j else f j
theorem cp_0 (F f : Nat → Int32) : cpG F f 0 = f := funext fun j => if_neg (Nat.not_lt_zero j)
theorem cp_s (F f : Nat → Int32) (i : Nat) : upd (cpG F f i) i (F i) = cpG F f (i + 1) := cpF_s F f i
abbrev setK (f : Nat → Int32) (a0 : Nat) (kd : Nat → Int32) (i : Nat) : Nat → Int32 := cpG (fun p => kindI (f (a0 + 3 * p + 2))) kd i
abbrev setS (f : Nat → Int32) (a0 : Nat) (sd : Nat → Int32) (i : Nat) : Nat → Int32 := cpG (fun p => f (a0 + 3 * p + 3) - 48) sd i
