/-! pure words: calls on sheets, as the class computes -/
def onK {α : Type} (kq : Int32) (x d : α) : α := if ¬ kq < 0 ∧ kq < 4 then x else d
theorem onK_in {α : Type} {kq : Int32} {x d : α} (h : ¬ kq < 0 ∧ kq < 4) : onK kq x d = x := if_pos h
theorem onK_out {α : Type} {kq : Int32} {x d : α} (h : ¬ (¬ kq < 0 ∧ kq < 4)) : onK kq x d = d := if_neg h
theorem shI_in {g : Nat → Option Nat} {kq : Int32} (h : ¬ kq < 0 ∧ kq < 4) : shI g kq = g kq.toNatClampNeg := by
  unfold shI; rw [if_neg h.1, if_pos h.2]
theorem shI_out {g : Nat → Option Nat} {kq : Int32} (h : ¬ (¬ kq < 0 ∧ kq < 4)) : shI g kq = none := by
  unfold shI
  by_cases a : kq < 0
  · rw [if_pos a]
  · rw [if_neg a, if_neg (fun b => h ⟨a, b⟩)]
/-- a sheet's length as it stands -/
def okL (le : Int32) : Prop := le = -1 ∨ ∃ L : Nat, L ≤ 60 ∧ le = nI L
def hasI (le i : Int32) : Bool := decide (¬ i < 0 ∧ ¬ le ≤ i)
def putR (le i : Int32) : Int32 := if le = -1 then -11 else if hasI le i = true then 1 else -13
def putA (le i : Int32) : Int32 := if le = -1 then 1 else if hasI le i = true then 0 else 3
def putF (ln le : Int32) (f : Nat → Int32) (i v : Int32) : Nat → Int32 := if le = -1 then f else if hasI le i = true then upd f i.toNatClampNeg (cutI ln v) else f
def celA (le ln w i : Int32) : Int32 := if fasI le ln w = 0 then (if hasI le i = true then 0 else 3) else fasI le ln w
def celR (le ln w : Int32) (f : Nat → Int32) (i : Int32) : Int64 := if celA le ln w i = 0 then (f i.toNatClampNeg).toInt64 else -9223372036854775808
def shtOk (w n : Int32) : Bool := lstT w 0 2 && decide (n ≤ 60) && decide (0 ≤ n)
def shtR (w n : Int32) : Int32 := if lstT w 0 2 = true ∧ n ≤ 60 then (if 0 ≤ n then 1 else -14) else -2
def shtA (w n : Int32) : Int32 := if lstT w 0 2 = true ∧ n ≤ 60 then (if 0 ≤ n then 0 else 4) else 0
/-- the fault that cells from i on come to: season, together -/
def metS (le ln w i n : Int32) : Int32 := if fasI le ln w = 0 then focI le i n else fasI le ln w
/-- and town's -/
def metT (le ln w i n : Int32) : Int32 := if fasI le ln w = 0 then (if 0 ≤ n then focI le i n else 4) else fasI le ln w
theorem fas0 {le ln w : Int32} (h : fasI le ln w = 0) : ¬ le = -1 ∧ ln = w := by
  unfold fasI at h
  by_cases a : le = -1
  · rw [if_pos a] at h; exact absurd h (by decide)
  · rw [if_neg a] at h
    by_cases b : ln = w
    · exact ⟨a, b⟩
    · rw [if_neg b] at h; exact absurd h (by decide)
theorem foc0 {L : Nat} {i n : Int32} (hL : L ≤ 60) (h : focI (nI L) i n = 0) : ∃ a k : Nat, i = nI a ∧ n = nI k ∧ a + k ≤ L := by
  unfold focI at h
  by_cases c1 : i < 0
  · rw [if_pos c1] at h; exact absurd h (by decide)
  rw [if_neg c1] at h
  by_cases c2 : nI L < i
  · rw [if_pos c2] at h; exact absurd h (by decide)
  rw [if_neg c2] at h
  by_cases c3 : 0 ≤ n
  · rw [if_pos c3] at h
    by_cases c4 : n ≤ nI L - i
    · have hi : i ≤ nI L := by rw [Int32.lt_iff_toInt_lt] at c2; rw [Int32.le_iff_toInt_le]; omega
      obtain ⟨a, ha, rfl⟩ := nI_of2 (nI_toInt (n := L) (by omega)) c1 hi
      rw [pk_sub ha] at c4
      have hn : ¬ n < 0 := by rw [Int32.le_iff_toInt_le] at c3; rw [Int32.lt_iff_toInt_lt]; omega
      obtain ⟨k, hk, rfl⟩ := nI_of2 (nI_toInt (n := L - a) (by omega)) hn c4
      exact ⟨a, k, rfl, rfl, by omega⟩
    · rw [if_neg c4] at h; exact absurd h (by decide)
  · rw [if_neg c3] at h; exact absurd h (by decide)
theorem foc_ok {L a k : Nat} (hL : L ≤ 60) (h : a + k ≤ L) : focI (nI L) (nI a) (nI k) = 0 := by
  unfold focI
  rw [if_neg (nI_pos (by omega)), if_neg (nI_nlt (by omega) (by omega)), if_pos (nI_pos' (by omega)), if_pos]
  rw [pk_sub (by omega)]; exact nI_le (by omega) (by omega)
/-- the text: which code may stand at place i -/
def goB (i : Nat) (x : Int32) : Bool := if i = 0 then decide (x = 116) else if 27 < i then false else if i % 3 = 1 then decide (x = 59) else if i % 3 = 2 then decide (¬ kindI x = -9) else decide (¬ x < 49 ∧ ¬ 57 < x)
/-- the first fault of a text of N codes, k of them from place i on; -9: it is a town's -/
def ffW (f : Nat → Int32) (a0 N : Nat) : Nat → Nat → Int32
  | 0, _ => if 10 ≤ N ∧ N % 3 = 1 then -9 else nI N
  | k + 1, i => if goB i (f (a0 + i)) = true then ffW f a0 N k (i + 1) else nI i
def towC (kq w le ln : Int32) (f : Nat → Int32) (i n : Int32) : Int32 × Int32 × Nat :=
  if ¬ kq < 0 ∧ kq < 4 then (if lstT w 0 2 = true then (if metT le ln w i n = 0 then
    (if ffW f i.toNatClampNeg n.toNatClampNeg n.toNatClampNeg 0 = -9 then (nI ((n.toNatClampNeg - 1) / 3), 0, (n.toNatClampNeg - 1) / 3) else (-100 - ffW f i.toNatClampNeg n.toNatClampNeg n.toNatClampNeg 0, 0, 0))
    else (-10 - metT le ln w i n, metT le ln w i n, 0)) else (-2, 0, 0)) else (-1, 0, 0)
/-- a town was taken (m people), or not -/
def tkn {α : Type} (m : Nat) (x y : α) : α := if m = 0 then y else x
theorem ffW_9 {f : Nat → Int32} {a0 N : Nat} : ∀ (k i : Nat), i + k = N → N < 2 ^ 31 → ffW f a0 N k i = -9 → (10 ≤ N ∧ N % 3 = 1) ∧ ∀ j, i ≤ j → j < N → goB j (f (a0 + j)) = true
  | 0, i, hi, hN, h => by
    unfold ffW at h
    by_cases c : 10 ≤ N ∧ N % 3 = 1
    · exact ⟨c, fun j h1 h2 => by omega⟩
    · rw [if_neg c] at h; exact absurd h (nI_nm9 hN)
  | k + 1, i, hi, hN, h => by
    unfold ffW at h
    by_cases c : goB i (f (a0 + i)) = true
    · rw [if_pos c] at h
      obtain ⟨h1, h2⟩ := ffW_9 k (i + 1) (by omega) hN h
      refine ⟨h1, fun j ha hb => ?_⟩
      rcases Nat.eq_or_lt_of_le ha with e | e
      · rw [← e]; exact c
      · exact h2 j e hb
    · rw [if_neg c] at h; exact absurd h (nI_nm9 (by omega))
theorem ffW_m {f : Nat → Int32} {a0 N : Nat} (hN : N < 2 ^ 31) (h : ffW f a0 N N 0 = -9) : ∃ m, N = 3 * m + 1 ∧ 3 ≤ m ∧ m ≤ 9 := by
  obtain ⟨h1, h2⟩ := ffW_9 N 0 (by omega) hN h
  refine ⟨(N - 1) / 3, by omega, by omega, ?_⟩
  rcases Nat.lt_or_ge 28 N with q | q
  · have := h2 28 (by omega) q
    simp [goB] at this
  · omega
