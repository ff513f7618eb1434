/-! pure words: seasons, readings -/
theorem ix2 (a i : Nat) : nI a + 2 * nI i = nI (a + 2 * i) := by rw [show (2 : Int32) = nI 2 from rfl, pk_mul, nI_add]
theorem ix21 (a i : Nat) : nI a + 2 * nI i + 1 = nI (a + 2 * i + 1) := by rw [ix2, nI_1]
/-- pair by pair: as told -/
def tldB (x act : Int32) : Bool := decide (¬ act < 0 ∧ ¬ 3 < act ∧ ¬ x < 0 ∧ x ≤ (if act = 2 then 9 else 2))
def toldW (f : Nat → Int32) (a0 : Nat) : Nat → Nat → Bool
  | 0, _ => true
  | k + 1, i => if tldB (f (a0 + 2 * i)) (f (a0 + 2 * i + 1)) = true then toldW f a0 k (i + 1) else false
/-- an act that can be -/
def canB (tn : Nat) (tl : Nat → Int32) (a : Nat) (act : Int32) : Bool :=
  if act = 0 then decide (a < tn ∧ tl a = 0) else if act = 1 then decide (a < tn ∧ ¬ tl a ≤ 0) else if act = 3 then decide (a < tn) else true
/-- bars that go by: the rows behind i of them, and in how many any rang -/
def itB (tn : Nat) (tl : Nat → Int32) (rg : Int32) : Nat → (Nat → Int32) × Int32
  | 0 => (tl, rg)
  | i + 1 => (goF (itB tn tl rg i).1 1 tn, if cntW (itB tn tl rg i).1 tn ≤ 0 then (itB tn tl rg i).2 else (itB tn tl rg i).2 + 1)
/-- an act done -/
def pfm (n : Nat) (kd sd : Nat → Int32) (a : Nat) (act : Int32) (z : Nat × (Nat → Int32) × (Nat → Int32) × Int32) : Nat × (Nat → Int32) × (Nat → Int32) × Int32 :=
  if act = 0 then (z.1, z.2.1, upd z.2.2.1 a (sumW (fun p => ringI (kd p) (sd p)) (z.2.1 a) n), z.2.2.2)
  else if act = 1 then (z.1, z.2.1, upd z.2.2.1 a 0, z.2.2.2)
  else if act = 3 then (z.1 - 1, shF z.2.1 a z.1, shF z.2.2.1 a z.1, z.2.2.2)
  else (z.1, z.2.1, (itB z.1 z.2.2.1 z.2.2.2 a).1, (itB z.1 z.2.2.1 z.2.2.2 a).2)
/-- k pairs from pair i on: the first that can't be (-9: all can), and what is then -/
def plW (n : Nat) (kd sd f : Nat → Int32) (a0 : Nat) : Nat → Nat → Nat × (Nat → Int32) × (Nat → Int32) × Int32 → Int32 × Nat × (Nat → Int32) × (Nat → Int32) × Int32
  | 0, _, z => (-9, z)
  | k + 1, i, z => if canB z.1 z.2.2.1 (f (a0 + 2 * i)).toNatClampNeg (f (a0 + 2 * i + 1)) = true
      then plW n kd sd f a0 k (i + 1) (pfm n kd sd (f (a0 + 2 * i)).toNatClampNeg (f (a0 + 2 * i + 1)) z) else (nI i, z)
/-- readings are so, with rp for person j's ring -/
def soW (kd sd rw_ rh : Nat → Int32) (j : Nat) (rp : Int32) : Nat → Nat → Bool
  | 0, _ => true
  | k + 1, i => if (if rw_ i = nI j then rp else ringI (kd (rw_ i).toNatClampNeg) (sd (rw_ i).toNatClampNeg)) = rh i then soW kd sd rw_ rh j rp k (i + 1) else false
theorem pfm_le (n : Nat) (kd sd : Nat → Int32) (a : Nat) (act : Int32) (z : Nat × (Nat → Int32) × (Nat → Int32) × Int32) : (pfm n kd sd a act z).1 ≤ z.1 := by
  unfold pfm
  by_cases h0 : act = 0
  · rw [if_pos h0]; exact Nat.le_refl _
  · rw [if_neg h0]
    by_cases h1 : act = 1
    · rw [if_pos h1]; exact Nat.le_refl _
    · rw [if_neg h1]
      by_cases h3 : act = 3
      · rw [if_pos h3]; exact Nat.sub_le _ _
      · rw [if_neg h3]; exact Nat.le_refl _
