/-! pure words: the reference's own -/
theorem nlt_le {a b : Int32} (h : ¬ a < b) : b ≤ a := by rw [Int32.lt_iff_toInt_lt] at h; rw [Int32.le_iff_toInt_le]; omega
theorem le_nlt {a b : Int32} (h : b ≤ a) (h2 : a < b) : False := by rw [Int32.lt_iff_toInt_lt] at h2; rw [Int32.le_iff_toInt_le] at h; omega
theorem lst03 {v : Int32} : lstT v 0 3 = true ↔ (¬ v < 0 ∧ v < 4) := by
  unfold lstT
  rw [decide_eq_true_iff]
  refine ⟨fun h => ⟨h.1, ?_⟩, fun h => ⟨h.1, ?_⟩⟩
  · have := h.2
    rw [Int32.lt_iff_toInt_lt] at this ⊢
    have z3 : (3 : Int32).toInt = 3 := rfl
    have z4 : (4 : Int32).toInt = 4 := rfl
    omega
  · have := h.2
    rw [Int32.lt_iff_toInt_lt] at this ⊢
    have z3 : (3 : Int32).toInt = 3 := rfl
    have z4 : (4 : Int32).toInt = 4 := rfl
    omega
def agI (srt len w i n : Int32) : Int32 := if ¬ srt = -9 ∧ ¬ srt = w then 2 else if srt = -9 then 1 else if 0 ≤ n then (if i < 0 then 3 else if len < i then 3 else if n ≤ len - i then 0 else 3) else 4
set_option maxRecDepth 100000 in
theorem bc_s : ∀ l, l < 512 → bcE (nI l) = (nI l &&& 1) + bcE (nI (l / 2)) := by decide +kernel
theorem hf2 {l : Nat} (h : l < 2 ^ 31) : nI l >>> ((1 : Int32) &&& 31) = nI (l / 2) := pk_shrN h _ 1 (by decide)
theorem bt_nI {k j : Nat} (hj : j < 32) : bt (nI k) j = k.testBit j := by
  unfold bt nI
  rw [show (Int32.ofNat k).toBitVec = BitVec.ofNat 32 k from rfl, BitVec.getLsbD_ofNat]
  simp [hj]
set_option maxRecDepth 100000 in
theorem bc_0 : ∀ k, k < 512 → bcE (nI k) = 3 → ¬ k = 0 := by decide +kernel
theorem corn_ne {sd : Nat → Int32} {set : Int32} : ∀ (n j : Nat), j < n → n < 2 ^ 31 → bt set j = true → ¬ cornW sd set n = -9
  | 0, j, h, _, _ => by omega
  | n + 1, j, h, hn, hb => by
    unfold cornW
    by_cases c : bt set n = true ∧ (cornW sd set n = -9 ∨ sd (cornW sd set n).toNatClampNeg ≤ sd n)
    · rw [if_pos c]; exact nI_nm9 (by omega)
    · rw [if_neg c]
      rcases Nat.lt_or_ge j n with q | q
      · exact corn_ne n j q (by omega) hb
      · have e : j = n := by omega
        subst e
        intro z
        exact c ⟨hb, Or.inl z⟩
theorem corn_in {n k : Nat} {sd : Nat → Int32} (hn : n ≤ 9) (hk : k < 2 ^ n) (h : bcE (nI k) = 3) : ∃ t, t < n ∧ cornW sd (nI k) n = nI t := by
  have hb := bnd_t hn
  have h0 := bc_0 k (by omega) h
  obtain ⟨j, hj⟩ := Nat.exists_testBit_of_ne_zero h0
  have hjn : j < n := by
    rcases Nat.lt_or_ge j n with q | q
    · exact q
    · have := Nat.testBit_lt_two_pow (Nat.lt_of_lt_of_le hk (Nat.pow_le_pow_right (by decide) q))
      rw [this] at hj; exact absurd hj (by decide)
  exact (cornW_or sd (nI k) n).resolve_left (corn_ne n j hjn (by omega) (by rw [bt_nI (by omega)]; exact hj))
/-- pairs alike -/
def alkI (sd : Nat → Int32) (set : Int32) (p : Nat) (ac : Int32) : Nat → Int32
  | 0 => ac
  | q + 1 => if bt set p = true ∧ bt set q = true ∧ sd p = sd q then alkI sd set p ac q + 1 else alkI sd set p ac q
def alkW (sd : Nat → Int32) (set : Int32) : Nat → Int32
  | 0 => 0
  | p + 1 => alkI sd set p (alkW sd set p) p
def shpI (sd : Nat → Int32) (set : Int32) (n : Nat) : Int32 := if alkW sd set n = 3 then 2 else alkW sd set n
