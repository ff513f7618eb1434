/-! pure words: what the calls answer -/
def onQ {α : Type} (n : Nat) (pp : Int32) (F : Nat → α) (d : α) : α := if ¬ pp < 0 ∧ ¬ nI n ≤ pp then F pp.toNatClampNeg else d
theorem onQ_in {α : Type} {n j : Nat} {F : Nat → α} {d : α} (h : j < n) (hn : n < 2 ^ 31) : onQ n (nI j) F d = F j := by
  unfold onQ; rw [if_pos (nin_nI h hn), nI_clamp (by omega)]
theorem onQ_out {α : Type} {n : Nat} {pp : Int32} {F : Nat → α} {d : α} (h : ¬ (¬ pp < 0 ∧ ¬ nI n ≤ pp)) : onQ n pp F d = d := if_neg h
theorem sideF_in {n j : Nat} {sd : Nat → Int32} (h : j < n) (hn : n < 2 ^ 31) : sideF n sd (nI j) = sd j := by
  unfold sideF; rw [if_pos (nin_nI h hn), nI_clamp (by omega)]
theorem nI_nm9 {t : Nat} (h : t < 2 ^ 31) : ¬ nI t = -9 := fun z => by
  have := congrArg Int32.toInt z
  rw [nI_toInt h] at this
  have q : (-9 : Int32).toInt = -9 := rfl
  omega
theorem thrW_or (ts : Nat → Int32) (j : Nat) : ∀ k i, thrW ts j k i = -9 ∨ ∃ t, i ≤ t ∧ t < i + k ∧ thrW ts j k i = nI t
  | 0, _ => Or.inl rfl
  | k + 1, i => by
    unfold thrW
    by_cases h : bt (ts i) j = true
    · rw [if_pos h]; exact Or.inr ⟨i, Nat.le_refl _, by omega, rfl⟩
    · rw [if_neg h]
      rcases thrW_or ts j k (i + 1) with q | ⟨t, h1, h2, q⟩
      · exact Or.inl q
      · exact Or.inr ⟨t, by omega, by omega, q⟩
theorem thrW_in {ts : Nat → Int32} {j k : Nat} (h : ¬ thrW ts j k 0 = -9) : ∃ t, t < k ∧ thrW ts j k 0 = nI t := by
  rcases thrW_or ts j k 0 with q | ⟨t, -, h2, q⟩
  · exact absurd q h
  · exact ⟨t, by omega, q⟩
abbrev rgF (kd sd : Nat → Int32) : Nat → Int32 := fun p => ringI (kd p) (sd p)
def joyI (n : Nat) (kd sd : Nat → Int32) (tn : Nat) (ts : Nat → Int32) (j : Nat) : Int32 := if thrW ts j tn 0 = -9 then 0 else sumW (rgF kd sd) (ts (thrW ts j tn 0).toNatClampNeg) n
def gjW (n : Nat) (kd sd : Nat → Int32) (tn : Nat) (ts : Nat → Int32) (set : Int32) : Nat → Int32
  | 0 => 0
  | k + 1 => if bt set k = true then (if gjW n kd sd tn ts set k < joyI n kd sd tn ts k then joyI n kd sd tn ts k else gjW n kd sd tn ts set k) else gjW n kd sd tn ts set k
def setW (P : Nat → Bool) : Nat → Int32
  | 0 => 0
  | k + 1 => if P k = true then setW P k ||| ((1 : Int32) <<< (nI k &&& 31)) else setW P k
/-- hang, as the class looks: 0 nobody such, 1 they can't, 2 they do -/
def bit3 (a b c : Int32) : Int32 := ((1 : Int32) <<< (a &&& 31)) ||| ((1 : Int32) <<< (b &&& 31)) ||| ((1 : Int32) <<< (c &&& 31))
def isP (n : Nat) (pp : Int32) : Bool := decide (¬ pp < 0 ∧ ¬ nI n ≤ pp)
def hgC (n : Nat) (sd : Nat → Int32) (tn : Nat) (ts : Nat → Int32) (a b c : Int32) : Nat :=
  if isP n a = true ∧ isP n b = true ∧ isP n c = true ∧ ¬ a = b ∧ ¬ a = c ∧ ¬ b = c then
    (if (orW ts tn &&& bit3 a b c) = 0 ∧ canH n sd (bit3 a b c) = true then 2 else 1) else 0
def hgR (tn k : Nat) : Int32 := if k = 0 then -1 else if k = 1 then -3 else nI tn
def in2 {α : Type} (k : Nat) (x y : α) : α := if k = 2 then x else y
def lstT (x : Int32) (a b : Int32) : Bool := decide (¬ x < a ∧ ¬ b < x)
def shI (g : Nat → Option Nat) (k : Int32) : Option Nat := if k < 0 then none else if k < 4 then g k.toNatClampNeg else none
theorem in4 {k : Int32} (h : ¬ k < 0) (h2 : k < 4) : vp_in k 4 := by
  rw [vp_in_iff]
  rw [Int32.lt_iff_toInt_lt] at h h2
  have z : (0 : Int32).toInt = 0 := rfl
  have z4 : (4 : Int32).toInt = 4 := rfl
  omega
