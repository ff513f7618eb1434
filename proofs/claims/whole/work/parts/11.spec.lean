/-! pure words: what the methods compute -/
theorem ge_n {i n : Nat} (hn : n < 2 ^ 31) (hi : i < 2 ^ 31) (h : nI n ≤ nI i) : n ≤ i := (nI_leI hn hi).mp h
theorem lt_n {i n : Nat} (hn : n < 2 ^ 31) (hi : i < 2 ^ 31) (h : ¬ nI n ≤ nI i) : i < n := Nat.lt_of_not_le (fun q => h ((nI_leI hn hi).mpr q))
/-- Integer.bitCount, step by step -/
def bcE (x : Int32) : Int32 :=
  let a := x - ((x.toUInt32 >>> ((1 : Int32).toUInt32 &&& Int32.toUInt32 31)).toInt32 &&& 1431655765)
  let b := (a &&& 858993459) + ((a.toUInt32 >>> ((2 : Int32).toUInt32 &&& Int32.toUInt32 31)).toInt32 &&& 858993459)
  let d := (b + (b.toUInt32 >>> ((4 : Int32).toUInt32 &&& Int32.toUInt32 31)).toInt32) &&& 252645135
  let e := d + (d.toUInt32 >>> ((8 : Int32).toUInt32 &&& Int32.toUInt32 31)).toInt32
  let f := e + (e.toUInt32 >>> ((16 : Int32).toUInt32 &&& Int32.toUInt32 31)).toInt32
  f &&& 63
def ringI (k s : Int32) : Int32 := if k = 1 then s / 2 else if k = 2 then 2 * s else s
def kindI (x : Int32) : Int32 := if x = 98 then 2 else if x = 115 then 0 else if x = 119 then 1 else -9
/-- the sum over the set's people of the first k -/
def sumW (f : Nat → Int32) (set : Int32) : Nat → Int32
  | 0 => 0
  | k + 1 => if bt set k = true then sumW f set k + f k else sumW f set k
def sideF (n : Nat) (sd : Nat → Int32) (p : Int32) : Int32 := if ¬ p < 0 ∧ ¬ nI n ≤ p then sd p.toNatClampNeg else 0
def cornW (sd : Nat → Int32) (set : Int32) : Nat → Int32
  | 0 => -9
  | k + 1 => if bt set k = true ∧ (cornW sd set k = -9 ∨ sd (cornW sd set k).toNatClampNeg ≤ sd k) then nI k else cornW sd set k
theorem cornW_or (sd : Nat → Int32) (set : Int32) : ∀ k, cornW sd set k = -9 ∨ ∃ j, j < k ∧ cornW sd set k = nI j
  | 0 => Or.inl rfl
  | k + 1 => by
    unfold cornW
    by_cases h : bt set k = true ∧ (cornW sd set k = -9 ∨ sd (cornW sd set k).toNatClampNeg ≤ sd k)
    · rw [if_pos h]; exact Or.inr ⟨k, by omega, rfl⟩
    · rw [if_neg h]
      rcases cornW_or sd set k with q | ⟨j, hj, q⟩
      · exact Or.inl q
      · exact Or.inr ⟨j, by omega, q⟩
/-- the longest side so far, as sideOf tells it -/
theorem sideF_corn {n : Nat} {sd : Nat → Int32} {set : Int32} {i : Nat} (hs : ∀ j, j < n → 1 ≤ sd j) (hn : n < 2 ^ 31) (hi : i < n) :
    sideF n sd (cornW sd set i) ≤ sd i ↔ (cornW sd set i = -9 ∨ sd (cornW sd set i).toNatClampNeg ≤ sd i) := by
  rcases cornW_or sd set i with q | ⟨j, hj, q⟩
  · rw [q]
    have e : sideF n sd (-9) = 0 := by unfold sideF; rw [if_neg (fun h => h.1 (by decide))]
    rw [e]
    refine ⟨fun _ => Or.inl rfl, fun _ => ?_⟩
    have := hs i hi
    rw [Int32.le_iff_toInt_le] at this ⊢
    have z : (0 : Int32).toInt = 0 := rfl
    have o : (1 : Int32).toInt = 1 := rfl
    omega
  · rw [q]
    have e : sideF n sd (nI j) = sd (nI j).toNatClampNeg := by unfold sideF; rw [if_pos (nin_nI (by omega) hn)]
    rw [e]
    refine ⟨Or.inr, fun h => h.resolve_left (fun z => ?_)⟩
    have := congrArg Int32.toInt z
    rw [nI_toInt (by omega)] at this
    have z : (-9 : Int32).toInt = -9 := rfl
    omega
/-- one more person, by how the class compares -/
theorem cornW_s {n : Nat} {sd : Nat → Int32} {set : Int32} {i : Nat} (hs : ∀ j, j < n → 1 ≤ sd j) (hn : n < 2 ^ 31) (hi : i < n) (hb : bt set i = true) (c : ¬ sd i < sideF n sd (cornW sd set i)) : nI i = cornW sd set (i + 1) := by
  have h : sideF n sd (cornW sd set i) ≤ sd i := by
    rw [Int32.lt_iff_toInt_lt] at c; rw [Int32.le_iff_toInt_le]; omega
  show nI i = cornW sd set (i + 1)
  rw [cornW, if_pos ⟨hb, (sideF_corn hs hn hi).mp h⟩]
theorem cornW_k {n : Nat} {sd : Nat → Int32} {set : Int32} {i : Nat} (hs : ∀ j, j < n → 1 ≤ sd j) (hn : n < 2 ^ 31) (hi : i < n) (c : sd i < sideF n sd (cornW sd set i)) : cornW sd set i = cornW sd set (i + 1) := by
  have h : ¬ sideF n sd (cornW sd set i) ≤ sd i := by
    rw [Int32.lt_iff_toInt_lt] at c; rw [Int32.le_iff_toInt_le]; omega
  rw [cornW, if_neg (fun q => h ((sideF_corn hs hn hi).mpr q.2))]
/-- the lengths there are, as a set -/
def lenW (sd : Nat → Int32) (set : Int32) : Nat → Int32
  | 0 => 0
  | k + 1 => if bt set k = true then lenW sd set k ||| ((1 : Int32) <<< (sd k &&& 31)) else lenW sd set k
def canH (n : Nat) (sd : Nat → Int32) (set : Int32) : Bool := decide (bcE set = 3 ∧ ¬ sumW sd set n ≤ 2 * sideF n sd (cornW sd set n))
