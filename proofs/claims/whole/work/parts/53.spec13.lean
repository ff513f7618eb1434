/-! pure words: the most that can hang, as the reference looks for it -/
def ablW (n : Nat) (sd av : Nat → Int32) : Nat → (Nat → Int32) × Nat
  | 0 => (av, 0)
  | k + 1 => if canH n sd (nI k) = true then (upd (ablW n sd av k).1 (ablW n sd av k).2 (nI k), (ablW n sd av k).2 + 1) else ablW n sd av k
theorem ablW_s (n : Nat) (sd av : Nat → Int32) (k : Nat) : ablW n sd av (k + 1) = if canH n sd (nI k) = true then (upd (ablW n sd av k).1 (ablW n sd av k).2 (nI k), (ablW n sd av k).2 + 1) else ablW n sd av k := rfl
def cnt3 : Nat → Nat
  | 0 => 0
  | k + 1 => if bcE (nI k) = 3 then cnt3 k + 1 else cnt3 k
theorem cnt3_le : ∀ (d k : Nat), cnt3 k ≤ cnt3 (k + d)
  | 0, k => Nat.le_refl _
  | d + 1, k => Nat.le_trans (cnt3_le d k) (by
      show cnt3 (k + d) ≤ (if bcE (nI (k + d)) = 3 then cnt3 (k + d) + 1 else cnt3 (k + d))
      by_cases c : bcE (nI (k + d)) = 3
      · rw [if_pos c]; omega
      · rw [if_neg c]; exact Nat.le_refl _)
set_option maxRecDepth 100000 in
theorem cnt3_512 : cnt3 512 = 84 := by decide +kernel
theorem canH_3 {n : Nat} {sd : Nat → Int32} {set : Int32} (h : canH n sd set = true) : bcE set = 3 := (of_decide_eq_true h).1
theorem abl_le (n : Nat) (sd av : Nat → Int32) : ∀ k, (ablW n sd av k).2 ≤ cnt3 k
  | 0 => Nat.le_refl _
  | k + 1 => by
    have ih := abl_le n sd av k
    rw [ablW_s]
    show _ ≤ (if bcE (nI k) = 3 then cnt3 k + 1 else cnt3 k)
    by_cases c : canH n sd (nI k) = true
    · rw [if_pos c, if_pos (canH_3 c)]; exact Nat.succ_le_succ ih
    · rw [if_neg c]
      by_cases d : bcE (nI k) = 3
      · rw [if_pos d]; omega
      · rw [if_neg d]; exact ih
theorem abl_84 {n : Nat} {sd av : Nat → Int32} {k : Nat} (hk : k < 512) (h : canH n sd (nI k) = true) : (ablW n sd av k).2 < 84 := by
  have h1 := abl_le n sd av k
  have h2 := cnt3_le (512 - (k + 1)) (k + 1)
  rw [show k + 1 + (512 - (k + 1)) = 512 by omega, cnt3_512] at h2
  have h3 : cnt3 (k + 1) = cnt3 k + 1 := by show (if bcE (nI k) = 3 then cnt3 k + 1 else cnt3 k) = _; rw [if_pos (canH_3 h)]
  omega
theorem abl_am {n : Nat} {sd av : Nat → Int32} {k : Nat} (hk : k ≤ 512) : (ablW n sd av k).2 ≤ 84 := by
  have h1 := abl_le n sd av k
  have h2 := cnt3_le (512 - k) k
  rw [show k + (512 - k) = 512 by omega, cnt3_512] at h2
  omega
/-- rows of able sets hold sets -/
def aN (av : Nat → Int32) (z : Nat) : Nat := (av z).toNatClampNeg
def okA (av : Nat → Int32) (m : Nat) : Prop := ∀ z, z < m → av z = nI (aN av z) ∧ aN av z < 512 ∧ ¬ aN av z = 0
theorem abl_ok (n : Nat) (sd av : Nat → Int32) : ∀ k, k ≤ 512 → okA (ablW n sd av k).1 (ablW n sd av k).2
  | 0, _ => fun z h => absurd h (Nat.not_lt_zero z)
  | k + 1, hk => by
    have ih := abl_ok n sd av k (by omega)
    rw [ablW_s]
    by_cases c : canH n sd (nI k) = true
    · rw [if_pos c]
      intro z hz
      by_cases e : z = (ablW n sd av k).2
      · subst e
        have e1 : upd (ablW n sd av k).1 (ablW n sd av k).2 (nI k) (ablW n sd av k).2 = nI k := if_pos rfl
        have e2 : aN (upd (ablW n sd av k).1 (ablW n sd av k).2 (nI k)) (ablW n sd av k).2 = k := by unfold aN; rw [e1, nI_clamp (by omega)]
        show upd _ _ _ _ = _ ∧ _
        rw [e1, e2]
        exact ⟨rfl, by omega, bc_0 k (by omega) (canH_3 c)⟩
      · have e1 : upd (ablW n sd av k).1 (ablW n sd av k).2 (nI k) z = (ablW n sd av k).1 z := if_neg e
        have hz2 : z < (ablW n sd av k).2 := by have : z < (ablW n sd av k).2 + 1 := hz; omega
        have g : aN (upd (ablW n sd av k).1 (ablW n sd av k).2 (nI k)) z = aN (ablW n sd av k).1 z := by unfold aN; rw [e1]
        have this := ih z hz2
        show upd (ablW n sd av k).1 (ablW n sd av k).2 (nI k) z = nI (aN (upd (ablW n sd av k).1 (ablW n sd av k).2 (nI k)) z) ∧ aN (upd (ablW n sd av k).1 (ablW n sd av k).2 (nI k)) z < 512 ∧ ¬ aN (upd (ablW n sd av k).1 (ablW n sd av k).2 (nI k)) z = 0
        rw [g, e1]; exact this
    · rw [if_neg c]; exact ih
def lwS (k : Nat) : Nat → Nat → Nat
  | 0, p => p
  | f + 1, p => if k.testBit p = true then p else lwS k f (p + 1)
def lowI (k : Nat) : Nat := lwS k 10 0
theorem k_zero {k : Nat} (hk : k < 512) (h : ∀ j, j < 9 → k.testBit j = false) : k = 0 := by
  apply Nat.eq_of_testBit_eq
  intro i
  rw [Nat.zero_testBit]
  rcases Nat.lt_or_ge i 9 with q | q
  · exact h i q
  · exact Nat.testBit_lt_two_pow (Nat.lt_of_lt_of_le (show k < 2 ^ 9 from hk) (Nat.pow_le_pow_right (by decide) q))
def plI (a b c : Int32) (p : Nat) : Int32 := if bt a p = true then 0 else if bt b p = true then 1 else if bt c p = true then 2 else 9
def ahW (a b c x y w : Int32) : Nat → Nat → Bool
  | 0, _ => false
  | k + 1, p => if plI a b c p = plI x y w p then ahW a b c x y w k (p + 1) else decide (¬ plI x y w p ≤ plI a b c p)
abbrev tZ : Type := Int32 × Int32 × (Nat → Int32)
def one0 (a : Int32) : Int32 := if a = 0 then 0 else 1
def mny (a b c : Int32) : Int32 := one0 a + one0 b + one0 c
def lou (n : Nat) (kd sd : Nat → Int32) (a b c : Int32) : Int32 := sumW (rgF kd sd) a n + sumW (rgF kd sd) b n + sumW (rgF kd sd) c n
def ttB (n : Nat) (kd sd : Nat → Int32) (T : tZ) (a b c : Int32) : Bool :=
  decide (T.1 < mny a b c) || (decide (mny a b c = T.1) && (decide (T.2.1 < lou n kd sd a b c) || (decide (lou n kd sd a b c = T.2.1) && ahW a b c (T.2.2 0) (T.2.2 1) (T.2.2 2) n 0)))
def ttZ (n : Nat) (kd sd : Nat → Int32) (T : tZ) (a b c : Int32) : tZ := if ttB n kd sd T a b c = true then (mny a b c, lou n kd sd a b c, upd (upd (upd T.2.2 0 a) 1 b) 2 c) else T
def bhB (s o : Nat) : Bool := decide (s &&& o = 0) && decide (lowI s < lowI o)
def thW (n : Nat) (kd sd av : Nat → Int32) (a b : Nat) : Nat → Nat → tZ → tZ
  | 0, _, T => T
  | k + 1, z, T => thW n kd sd av a b k (z + 1) (if a &&& aN av z = 0 ∧ bhB b (aN av z) = true then ttZ n kd sd T (nI a) (nI b) (nI (aN av z)) else T)
def ftZ (n : Nat) (kd sd av : Nat → Int32) (am a b : Nat) (T : tZ) : tZ := thW n kd sd av a b am 0 (ttZ n kd sd T (nI a) (nI b) 0)
def yyW (n : Nat) (kd sd av : Nat → Int32) (am x : Nat) : Nat → Nat → tZ → tZ
  | 0, _, T => T
  | k + 1, y, T => yyW n kd sd av am x k (y + 1) (if bhB (aN av x) (aN av y) = true then ftZ n kd sd av am (aN av x) (aN av y) T else T)
def xxW (n : Nat) (kd sd av : Nat → Int32) (am : Nat) : Nat → Nat → tZ → tZ
  | 0, _, T => T
  | k + 1, x, T => xxW n kd sd av am k (x + 1) (yyW n kd sd av am x am 0 (ttZ n kd sd T (nI (aN av x)) 0 0))
def fmZ (n : Nat) (kd sd av : Nat → Int32) (br : Int32) (bv : Nat → Int32) : tZ :=
  xxW n kd sd (ablW n sd av (2 ^ n)).1 (ablW n sd av (2 ^ n)).2 (ablW n sd av (2 ^ n)).2 0 (ttZ n kd sd (-9, br, upd (upd (upd bv 0 0) 1 0) 2 0) 0 0 0)
theorem thW_s (n : Nat) (kd sd av : Nat → Int32) (a b k z : Nat) (T : tZ) : thW n kd sd av a b (k + 1) z T = thW n kd sd av a b k (z + 1) (if a &&& aN av z = 0 ∧ bhB b (aN av z) = true then ttZ n kd sd T (nI a) (nI b) (nI (aN av z)) else T) := rfl
theorem yyW_s (n : Nat) (kd sd av : Nat → Int32) (am x k y : Nat) (T : tZ) : yyW n kd sd av am x (k + 1) y T = yyW n kd sd av am x k (y + 1) (if bhB (aN av x) (aN av y) = true then ftZ n kd sd av am (aN av x) (aN av y) T else T) := rfl
theorem xxW_s (n : Nat) (kd sd av : Nat → Int32) (am k x : Nat) (T : tZ) : xxW n kd sd av am (k + 1) x T = xxW n kd sd av am k (x + 1) (yyW n kd sd av am x am 0 (ttZ n kd sd T (nI (aN av x)) 0 0)) := rfl
theorem and_nI (a b : Nat) : nI a &&& nI b = nI (a &&& b) := by
  unfold nI
  apply Int32.toBitVec_inj.mp
  rw [Int32.toBitVec_and]
  show BitVec.ofNat 32 a &&& BitVec.ofNat 32 b = BitVec.ofNat 32 (a &&& b)
  apply BitVec.eq_of_getLsbD_eq
  intro i hi
  simp [BitVec.getLsbD_and, BitVec.getLsbD_ofNat, hi, Nat.testBit_and]
theorem lowI_lt {k : Nat} : lowI k ≤ 10 := by
  have key : ∀ f p, lwS k f p ≤ p + f := by
    intro f
    induction f with
    | zero => intro p; exact Nat.le_refl _
    | succ f ih =>
      intro p
      unfold lwS
      by_cases c : k.testBit p = true
      · rw [if_pos c]; omega
      · rw [if_neg c]; have := ih (p + 1); omega
  exact key 10 0
theorem nle_lt {x : Int32} (h : ¬ 0 ≤ x) : x < 0 := by rw [Int32.le_iff_toInt_le] at h; rw [Int32.lt_iff_toInt_lt]; omega
theorem kk_j2 {kk : Int32} (h : 0 ≤ kk) (h2 : lstT kk (-2) 8 = true) : ∃ j, j < 9 ∧ kk = nI j := by
  obtain ⟨j, hj, e⟩ := nI_of2 (M := 8) (n := 8) rfl (x := kk) (by rw [Int32.le_iff_toInt_le] at h; rw [Int32.lt_iff_toInt_lt]; omega) (lst_in h2).2
  exact ⟨j, by omega, e⟩
