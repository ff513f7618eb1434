/-! pure words: the most that can hang, as the class looks for it -/
abbrev mZ : Type := Int32 × Int32 × Int64
def plO (p : Int32) : Int32 := 4 * (8 - p)
def mrT (mw : Int64) (j : Nat) : Int32 := if (mw >>> ((plO (nI j)).toInt64 &&& 63)).toInt32 &&& 15 = 9 then -9 else (mw >>> ((plO (nI j)).toInt64 &&& 63)).toInt32 &&& 15
def wrW (ln : Int64) (set th : Int32) : Nat → Int64
  | 0 => ln
  | k + 1 => if bt set k = true then wrW ln set th k - ((9 - th).toInt64 <<< ((plO (nI k)).toInt64 &&& 63)) else wrW ln set th k
def kbB (z : mZ) (h r : Int32) (l : Int64) : Bool := decide (z.1 ≤ h) && (if h = z.1 then decide (z.2.1 ≤ r) && (if r = z.2.1 then decide (lg_cmp l z.2.2 < 0) else true) else true)
def kbZ (z : mZ) (h r : Int32) (l : Int64) : mZ := if kbB z h r l = true then (h, r, l) else z
def lowN (w : Nat) : Nat := w - (w &&& (w - 1))
def othN (w : Nat) : Nat := w &&& (w - 1)
def set3 (w b c : Nat) : Nat := lowN w ||| 2 ^ b ||| 2 ^ c
def andn (w s : Nat) : Nat := w &&& (511 ^^^ s)
/-- the third of a three: c from c on, k of them -/
def lpC (n : Nat) (kd sd : Nat → Int32) (F : Nat → Nat → Int32 → Int64 → mZ → mZ) (w h : Nat) (r : Int32) (l : Int64) (b : Nat) : Nat → Nat → mZ → mZ
  | 0, _, z => z
  | k + 1, c, z => lpC n kd sd F w h r l b k (c + 1) (if (othN w).testBit c = true ∧ canH n sd (nI (set3 w b c)) = true then F (andn w (set3 w b c)) (h + 1) (r + sumW (rgF kd sd) (nI (set3 w b c)) n) (wrW l (nI (set3 w b c)) (nI h) 9) z else z)
def lpB (n : Nat) (kd sd : Nat → Int32) (F : Nat → Nat → Int32 → Int64 → mZ → mZ) (w h : Nat) (r : Int32) (l : Int64) : Nat → Nat → mZ → mZ
  | 0, _, z => z
  | k + 1, b, z => lpB n kd sd F w h r l k (b + 1) (if (othN w).testBit b = true then lpC n kd sd F w h r l b (n - (b + 1)) (b + 1) z else z)
def plc (n : Nat) (kd sd : Nat → Int32) : Nat → Nat → Nat → Int32 → Int64 → mZ → mZ
  | 0, _, _, _, _, z => z
  | d + 1, w, h, r, l, z => if z.1 ≤ nI h + bcE (nI w) / 3 then (if w = 0 then kbZ z (nI h) r l else plc n kd sd d (othN w) h r l (lpB n kd sd (plc n kd sd d) w h r l n 0 z)) else z
set_option maxRecDepth 100000 in
theorem low_i : ∀ w, w < 512 → (nI w &&& -nI w) = nI (lowN w) := by decide +kernel
set_option maxRecDepth 100000 in
theorem oth_i : ∀ w, w < 512 → (nI w &&& (nI (lowN w) ^^^ (-1))) = nI (othN w) := by decide +kernel
theorem oth_lt {w : Nat} (h : ¬ w = 0) : othN w < w := by
  unfold othN; have := Nat.and_le_right (n := w) (m := w - 1); omega
theorem lt_pow9 : (512 : Nat) = 2 ^ 9 := by decide
theorem set3_lt {w b c : Nat} (hw : w < 512) (hb : b < 9) (hc : c < 9) : set3 w b c < 512 := by
  unfold set3
  have h1 : lowN w < 2 ^ 9 := by unfold lowN; omega
  have h2 : 2 ^ b < 2 ^ 9 := Nat.pow_lt_pow_right (by decide) hb
  have h3 : 2 ^ c < 2 ^ 9 := Nat.pow_lt_pow_right (by decide) hc
  exact Nat.or_lt_two_pow (Nat.or_lt_two_pow h1 h2) h3
theorem set3_i {w b c : Nat} (hb : b < 9) (hc : c < 9) : nI (lowN w) ||| ((1 : Int32) <<< (nI b &&& 31)) ||| ((1 : Int32) <<< (nI c &&& 31)) = nI (set3 w b c) := by
  rw [sh1 b (by omega), sh1 c (by omega), or_nI, or_nI]; rfl
theorem b_xorm1 (x : Int32) (i : Nat) (hi : i < 32) : bt (x ^^^ (-1)) i = !bt x i := by rw [b_xor, b_m1 i hi]; cases bt x i <;> rfl
theorem andn_i {w s : Nat} (hw : w < 512) (hs : s < 512) : (nI w &&& (nI s ^^^ (-1))) = nI (andn w s) := by
  refine b_ext (fun i hi => ?_)
  rw [b_and, b_xorm1 _ _ hi, bt_nI hi, bt_nI hi, bt_nI hi]
  unfold andn
  rw [Nat.testBit_and, Nat.testBit_xor]
  rcases Nat.lt_or_ge i 9 with q | q
  · have h5 : (511 : Nat).testBit i = true := by
      have : ∀ i, i < 9 → (511 : Nat).testBit i = true := by decide
      exact this i q
    rw [h5]; cases w.testBit i <;> cases s.testBit i <;> rfl
  · rw [Nat.testBit_lt_two_pow (Nat.lt_of_lt_of_le (show w < 2 ^ 9 from hw) (Nat.pow_le_pow_right (by decide) q))]; rfl
set_option maxRecDepth 100000 in
theorem low_b : ∀ w, w < 512 → ¬ w = 0 → ∃ i, i < 9 ∧ w.testBit i = true ∧ (lowN w).testBit i = true := by decide +kernel
theorem andn_lt {w b c : Nat} (hw : w < 512) (h0 : ¬ w = 0) : andn w (set3 w b c) < w := by
  have hle : andn w (set3 w b c) ≤ w := Nat.and_le_left
  rcases Nat.eq_or_lt_of_le hle with e | e
  · exfalso
    obtain ⟨i, hi, h1, h2⟩ := low_b w hw h0
    have h3 : (andn w (set3 w b c)).testBit i = false := by
      unfold andn set3
      rw [Nat.testBit_and, Nat.testBit_xor, Nat.testBit_or, Nat.testBit_or, h2]
      have : ∀ i, i < 9 → (511 : Nat).testBit i = true := by decide
      rw [this i hi]; simp
    rw [e, h1] at h3; exact absurd h3 (by decide)
  · exact e
theorem bit_z {w c : Nat} (hc : c < 32) : (nI w &&& ((1 : Int32) <<< (nI c &&& 31))) = 0 ↔ w.testBit c = false := by rw [bt_and0 _ hc, bt_nI hc]
theorem plc_s (n : Nat) (kd sd : Nat → Int32) (d w h : Nat) (r : Int32) (l : Int64) (z : mZ) : plc n kd sd (d + 1) w h r l z = if z.1 ≤ nI h + bcE (nI w) / 3 then (if w = 0 then kbZ z (nI h) r l else plc n kd sd d (othN w) h r l (lpB n kd sd (plc n kd sd d) w h r l n 0 z)) else z := rfl
theorem lpB_s (n : Nat) (kd sd : Nat → Int32) (F : Nat → Nat → Int32 → Int64 → mZ → mZ) (w h : Nat) (r : Int32) (l : Int64) (k b : Nat) (z : mZ) : lpB n kd sd F w h r l (k + 1) b z = lpB n kd sd F w h r l k (b + 1) (if (othN w).testBit b = true then lpC n kd sd F w h r l b (n - (b + 1)) (b + 1) z else z) := rfl
theorem lpC_s (n : Nat) (kd sd : Nat → Int32) (F : Nat → Nat → Int32 → Int64 → mZ → mZ) (w h : Nat) (r : Int32) (l : Int64) (b k c : Nat) (z : mZ) : lpC n kd sd F w h r l b (k + 1) c z = lpC n kd sd F w h r l b k (c + 1) (if (othN w).testBit c = true ∧ canH n sd (nI (set3 w b c)) = true then F (andn w (set3 w b c)) (h + 1) (r + sumW (rgF kd sd) (nI (set3 w b c)) n) (wrW l (nI (set3 w b c)) (nI h) 9) z else z) := rfl
/-- what find leaves -/
def fndZ (n : Nat) (kd sd : Nat → Int32) (mk : Int32) (z : mZ) : mZ := if mk = 0 then plc n kd sd 512 (2 ^ n - 1) 0 0 41231686041 (0, 0, 41231686041) else z
theorem kk_j {kk : Int32} (h1 : ¬ kk < -2) (h2 : kk < 9) (h3 : ¬ kk = -2) (h4 : ¬ kk = -1) : ∃ j, j < 9 ∧ kk = nI j := by
  have e3 : ¬ kk.toInt = -2 := fun q => h3 (Int32.toInt_inj.mp (by rw [q]; rfl))
  have e4 : ¬ kk.toInt = -1 := fun q => h4 (Int32.toInt_inj.mp (by rw [q]; rfl))
  rw [Int32.lt_iff_toInt_lt] at h1 h2
  have z2 : (-2 : Int32).toInt = -2 := rfl
  have z9 : (9 : Int32).toInt = 9 := rfl
  have z8 : (8 : Int32).toInt = 8 := rfl
  have z0 : (0 : Int32).toInt = 0 := rfl
  obtain ⟨j, hj, e⟩ := nI_of2 (M := 8) (n := 8) rfl (x := kk) (by rw [Int32.lt_iff_toInt_lt]; omega) (by rw [Int32.le_iff_toInt_le]; omega)
  exact ⟨j, by omega, e⟩
