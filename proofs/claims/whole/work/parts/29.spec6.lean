/-! pure words: the class's other calls -/
theorem bnd_t {x : Nat} (h : x ≤ 9) : 2 ^ x ≤ 512 := by
  have := Nat.pow_le_pow_right (n := 2) (by decide) h
  omega
/-- pitched: k sets from set i on, many found so far -/
def pitW (n : Nat) (sd : Nat → Int32) (v kk : Int32) : Nat → Nat → Int32 → Int32
  | 0, _, mn => if kk = -1 then mn else -9
  | k + 1, i, mn => if canH n sd (nI i) = true ∧ sumW sd (nI i) n = v then (if mn = kk then nI i else pitW n sd v kk k (i + 1) (mn + 1)) else pitW n sd v kk k (i + 1) mn
def pitR (n : Nat) (sd : Nat → Int32) (v kk : Int32) : Int32 :=
  if ¬ v < 3 ∧ ¬ 27 < v ∧ ¬ kk < -1 ∧ kk ≤ 83 then (if nI n = 0 then -3 else pitW n sd v kk (2 ^ n) 0 0) else -2
def ratW (n : Nat) (kd sd : Nat → Int32) (tn : Nat) (ts : Nat → Int32) : Nat → Nat → Int32
  | 0, _ => -9
  | k + 1, i => if canH n sd (nI i) = true ∧ ¬ sumW (rgF kd sd) (nI i) n ≤ gjW n kd sd tn ts (nI i) n then nI i else ratW n kd sd tn ts k (i + 1)
/-- odds: how many sets of three, and how many of them can hang -/
def oddN (n : Nat) (sd : Nat → Int32) (mask : Int32) : Nat → Nat × Nat
  | 0 => (0, 0)
  | k + 1 => if bcE (nI k) = 3 ∧ (nI k &&& mask) = mask then ((oddN n sd mask k).1 + 1, if canH n sd (nI k) = true then (oddN n sd mask k).2 + 1 else (oddN n sd mask k).2) else oddN n sd mask k
theorem oddN_le (n : Nat) (sd : Nat → Int32) (mask : Int32) : ∀ k, (oddN n sd mask k).1 ≤ k ∧ (oddN n sd mask k).2 ≤ (oddN n sd mask k).1
  | 0 => ⟨Nat.le_refl _, Nat.le_refl _⟩
  | k + 1 => by
    have ih := oddN_le n sd mask k
    unfold oddN
    by_cases c : bcE (nI k) = 3 ∧ (nI k &&& mask) = mask
    · rw [if_pos c]
      by_cases d : canH n sd (nI k) = true
      · rw [if_pos d]; exact ⟨by omega, by omega⟩
      · rw [if_neg d]; exact ⟨by omega, by omega⟩
    · rw [if_neg c]; exact ⟨by omega, ih.2⟩
/-- one number of a share: the greatest divisor is looked for from d down -/
def lstN (a b : Nat) : Nat → Nat
  | 0 => a
  | 1 => a
  | d + 2 => if a % (d + 2) = 0 ∧ b % (d + 2) = 0 then a / (d + 2) else lstN a b (d + 1)
def mxN (a b : Nat) : Nat := if a < b then b else a
def mskP (p : Int32) : Int32 := if p = -1 then 0 else (1 : Int32) <<< (p &&& 31)
def oddC (n : Nat) (sd : Nat → Int32) (p wh : Int32) : Int64 :=
  if ¬ p = -1 ∧ isP n p = false then -9223372036854775808 else if ¬ wh < 0 ∧ wh ≤ 1 then (if nI n = 0 then -9223372036854775808 else
    (if wh = 0 then (nI (lstN (oddN n sd (mskP p) (2 ^ n)).2 (oddN n sd (mskP p) (2 ^ n)).1 (mxN (oddN n sd (mskP p) (2 ^ n)).2 (oddN n sd (mskP p) (2 ^ n)).1))).toInt64
     else (nI (lstN (oddN n sd (mskP p) (2 ^ n)).1 (oddN n sd (mskP p) (2 ^ n)).2 (mxN (oddN n sd (mskP p) (2 ^ n)).1 (oddN n sd (mskP p) (2 ^ n)).2))).toInt64)) else -9223372036854775808
theorem mx_i {a b : Nat} (ha : a < 2 ^ 31) (hb : b < 2 ^ 31) : (if nI a < nI b then nI b else nI a) = nI (mxN a b) := by
  unfold mxN
  by_cases c : a < b
  · rw [if_pos c, if_pos (nI_lt c hb)]
  · rw [if_neg c, if_neg (nI_nlt (by omega) ha)]
/-- sides, kinds -/
def sidP (kd sd rw_ rh : Nat → Int32) (rn j : Nat) : Nat → Bool := fun v => decide (1 ≤ v) && soW kd sd rw_ rh j (ringI (kd j) (nI v)) rn 0
def kinP (kd sd rw_ rh : Nat → Int32) (rn j : Nat) : Nat → Bool := fun v => soW kd sd rw_ rh j (ringI (nI v) (sd j)) rn 0
/-- together: all of k threes from t on are struck at bar x -/
def stkW (n : Nat) (sd : Nat → Int32) (ts f : Nat → Int32) (a0 : Nat) (x : Int32) : Nat → Nat → Bool
  | 0, _ => true
  | k + 1, t => if ¬ x - f (a0 + t) < 0 ∧ ¬ sumW sd (ts t) n ≤ 0 ∧ x - f (a0 + t) - (x - f (a0 + t)) / sumW sd (ts t) n * sumW sd (ts t) n = 0 then stkW n sd ts f a0 x k (t + 1) else false
def in99 (f : Nat → Int32) (a0 : Nat) : Nat → Nat → Bool
  | 0, _ => true
  | k + 1, t => if ¬ f (a0 + t) < 0 ∧ f (a0 + t) ≤ 99 then in99 f a0 k (t + 1) else false
/-- bars x, x + d, .. up to 999 -/
def togW (n : Nat) (sd ts f : Nat → Int32) (a0 tn d : Nat) : Nat → Nat → Int32
  | 0, _ => -9
  | k + 1, x => if 999 < x then -9 else if stkW n sd ts f a0 (nI x) tn 0 = true then nI x else togW n sd ts f a0 tn d k (x + d)
def togC (n : Nat) (sd : Nat → Int32) (tn : Nat) (ts : Nat → Int32) (kq w le ln : Int32) (f : Nat → Int32) (i : Int32) : Int32 × Int32 :=
  if ¬ kq < 0 ∧ kq < 4 then (if lstT w 0 2 = true then (if nI tn = 0 then (-3, 0) else if metS le ln w i (nI tn) = 0 then
    (if in99 f i.toNatClampNeg tn 0 = true then (togW n sd ts f i.toNatClampNeg tn (sumW sd (ts 0) n).toNatClampNeg 1000 (f i.toNatClampNeg).toNatClampNeg, 0) else (-2, 0))
    else (-10 - metS le ln w i (nI tn), metS le ln w i (nI tn))) else (-2, 0)) else (-1, 0)
def seaOk (w n x : Int32) : Bool := lstT w 0 2 && decide (¬ n < 0 ∧ ¬ 20 < n ∧ ¬ x < 0 ∧ x ≤ 4)
abbrev seaP (n : Nat) (kd sd : Nat → Int32) (tn : Nat) (ts tl f : Nat → Int32) (i v : Int32) (us ul : Nat → Int32) : Int32 × Nat × (Nat → Int32) × (Nat → Int32) × Int32 :=
  plW n kd sd f i.toNatClampNeg v.toNatClampNeg 0 (tn, cpF ts us 3, cpF tl ul 3, 0)
/-- what a season tells, behind it -/
def seaR (x : Int32) (z : Int32 × Nat × (Nat → Int32) × (Nat → Int32) × Int32) : Int32 :=
  if x = 1 then z.1 else if z.1 = -9 then (if x = 0 then cntW z.2.2.2.1 z.2.1 else if x = 2 then z.2.2.2.2 else if x = 3 then orW z.2.2.1 z.2.1 else addW z.2.2.2.1 z.2.1) else -100 - z.1
/-- 0: refused ahead of the play -/
def seaC (n : Nat) (kq w le ln : Int32) (f : Nat → Int32) (i v x : Int32) : Int32 × Int32 × Bool :=
  if ¬ kq < 0 ∧ kq < 4 then (if seaOk w v x = true then (if metS le ln w i (2 * v) = 0 then (if nI n = 0 then (-3, 0, false) else if toldW f i.toNatClampNeg v.toNatClampNeg 0 = true then (0, 0, true) else (-2, 0, false))
    else (-10 - metS le ln w i (2 * v), metS le ln w i (2 * v), false)) else (-2, 0, false)) else (-1, 0, false)
theorem tld_9 {x act : Int32} (h : tldB x act = true) : ∃ a : Nat, a ≤ 9 ∧ x = nI a := by
  have h := of_decide_eq_true h
  refine nI_of2 (M := 9) (n := 9) rfl h.2.2.1 ?_
  by_cases c : act = 2
  · have := h.2.2.2; rw [if_pos c] at this; exact this
  · have := h.2.2.2; rw [if_neg c] at this
    rw [Int32.le_iff_toInt_le] at this ⊢
    have z2 : (2 : Int32).toInt = 2 := rfl
    have z9 : (9 : Int32).toInt = 9 := rfl
    omega
theorem told_f {f : Nat → Int32} {a0 : Nat} : ∀ (k i : Nat), toldW f a0 k i = true → ∀ j, i ≤ j → j < i + k → tldB (f (a0 + 2 * j)) (f (a0 + 2 * j + 1)) = true
  | 0, i, _, j, h1, h2 => by omega
  | k + 1, i, h, j, h1, h2 => by
    unfold toldW at h
    by_cases c : tldB (f (a0 + 2 * i)) (f (a0 + 2 * i + 1)) = true
    · rw [if_pos c] at h
      rcases Nat.eq_or_lt_of_le h1 with e | e
      · rw [← e]; exact c
      · exact told_f k (i + 1) h j e (by omega)
    · rw [if_neg c] at h; exact absurd h (by decide)
theorem nI_zero {n : Nat} (h : n < 2 ^ 31) : nI n = 0 ↔ n = 0 := nI_eq (b := 0) h (by decide)
def ifb {α : Type} (b : Bool) (x y : α) : α := if b = true then x else y
theorem plW_le (n : Nat) (kd sd f : Nat → Int32) (a0 : Nat) : ∀ (k i : Nat) (z : Nat × (Nat → Int32) × (Nat → Int32) × Int32), (plW n kd sd f a0 k i z).2.1 ≤ z.1
  | 0, _, z => Nat.le_refl _
  | k + 1, i, z => by
    unfold plW
    by_cases c : canB z.1 z.2.2.1 (f (a0 + 2 * i)).toNatClampNeg (f (a0 + 2 * i + 1)) = true
    · rw [if_pos c]; exact Nat.le_trans (plW_le n kd sd f a0 k (i + 1) _) (pfm_le _ _ _ _ _ _)
    · rw [if_neg c]; exact Nat.le_refl _
def bckN (rn : Nat) (v : Int32) : Nat := if v < 0 then rn else if v ≤ nI rn then rn - v.toNatClampNeg else rn
def bckR (rn : Nat) (v : Int32) : Int32 := if v < 0 then -2 else if v ≤ nI rn then nI (bckN rn v) else -2
def cpyR (le ln le2 ln2 i j v : Int32) : Int32 := if le = -1 then -11 else if le2 = -1 then -11 else if ln = ln2 then (if focI le i v = 0 then (if focI le2 j v = 0 then v else -13) else -13) else -12
def cpyA (le ln le2 ln2 i j v : Int32) : Int32 := if le = -1 then 1 else if le2 = -1 then 1 else if ln = ln2 then (if focI le i v = 0 then (if focI le2 j v = 0 then 0 else 3) else 3) else 2
def cpyF (le ln le2 ln2 i j v : Int32) (f f2 : Nat → Int32) : Nat → Int32 := if le = -1 then f2 else if le2 = -1 then f2 else if ln = ln2 then (if focI le i v = 0 then (if focI le2 j v = 0 then va_cpy f f2 i.toNatClampNeg j.toNatClampNeg v.toNatClampNeg else f2) else f2) else f2
def onKK {α : Type} (kq jq : Int32) (x d : α) : α := onK kq (onK jq x d) d
theorem max1 {d : Nat} (h1 : 1 ≤ d) (h : d < 2 ^ 31) : (if (1 : Int32) < nI d then nI d else 1) = nI d := by
  by_cases z : (1 : Int32) < nI d
  · rw [if_pos z]
  · rw [if_neg z]
    rcases Nat.eq_or_lt_of_le h1 with e | e
    · rw [← e]; rfl
    · exact absurd (nI_lt (a := 1) e h) z
theorem in99_f {f : Nat → Int32} {a0 : Nat} : ∀ (k t : Nat), in99 f a0 k t = true → ∀ j, t ≤ j → j < t + k → ∃ x : Nat, x ≤ 99 ∧ f (a0 + j) = nI x
  | 0, t, _, j, h1, h2 => by omega
  | k + 1, t, h, j, h1, h2 => by
    unfold in99 at h
    by_cases c : ¬ f (a0 + t) < 0 ∧ f (a0 + t) ≤ 99
    · rw [if_pos c] at h
      rcases Nat.eq_or_lt_of_le h1 with e | e
      · rw [← e]; exact nI_of2 (M := 99) (n := 99) rfl c.1 c.2
      · exact in99_f k (t + 1) h j e (by omega)
    · rw [if_neg c] at h; exact absurd h (by decide)
theorem oddN_s (n : Nat) (sd : Nat → Int32) (mask : Int32) (k : Nat) : oddN n sd mask (k + 1) = if bcE (nI k) = 3 ∧ (nI k &&& mask) = mask then ((oddN n sd mask k).1 + 1, if canH n sd (nI k) = true then (oddN n sd mask k).2 + 1 else (oddN n sd mask k).2) else oddN n sd mask k := rfl
