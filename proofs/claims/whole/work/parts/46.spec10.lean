/-! pure words: the reference's season, together, odds -/
theorem ag0 {sq w i n : Int32} {L : Nat} (hL : L ≤ 60) (h : agI sq (nI L) w i n = 0) : ¬ sq = -9 ∧ sq = w ∧ ∃ a k : Nat, i = nI a ∧ n = nI k ∧ a + k ≤ L := by
  unfold agI at h
  by_cases c1 : ¬ sq = -9 ∧ ¬ sq = w
  · rw [if_pos c1] at h; exact absurd h (by decide)
  rw [if_neg c1] at h
  by_cases c2 : sq = -9
  · rw [if_pos c2] at h; exact absurd h (by decide)
  rw [if_neg c2] at h
  by_cases c3 : 0 ≤ n
  · rw [if_pos c3] at h
    refine ⟨c2, ?_, foc0 hL ?_⟩
    · by_cases c4 : sq = w
      · exact c4
      · exact absurd ⟨c2, c4⟩ c1
    · unfold focI
      by_cases d1 : i < 0
      · rw [if_pos d1] at h; exact absurd h (by decide)
      rw [if_neg d1] at h ⊢
      by_cases d2 : nI L < i
      · rw [if_pos d2] at h; exact absurd h (by decide)
      rw [if_neg d2] at h ⊢
      rw [if_pos c3]; exact h
  · rw [if_neg c3] at h; exact absurd h (by decide)
theorem ag9 {sq lq w i n : Int32} (h : agI sq lq w i n = 0) : ¬ sq = -9 := fun e => by
  unfold agI at h
  rw [if_neg (fun q => q.1 e), if_pos e] at h
  exact absurd h (by decide)
def seaM (n : Nat) (kq w sq lq : Int32) (cv : Nat → Int32) (i v x : Int32) : Int32 × Int32 × Bool :=
  if ¬ kq < 0 ∧ kq < 4 then (if seaOk w v x = true then (if agI sq lq w i (2 * v) = 0 then (if nI n = 0 then (-3, 0, false) else if toldW cv (60 * kq.toNatClampNeg + i.toNatClampNeg) v.toNatClampNeg 0 = true then (0, 0, true) else (-2, 0, false))
    else (-10 - agI sq lq w i (2 * v), agI sq lq w i (2 * v), false)) else (-2, 0, false)) else (-1, 0, false)
abbrev seaPM (n : Nat) (kd sd : Nat → Int32) (tn : Nat) (ts tl cv : Nat → Int32) (kq i v : Int32) : Int32 × Nat × (Nat → Int32) × (Nat → Int32) × Int32 :=
  plW n kd sd cv (60 * kq.toNatClampNeg + i.toNatClampNeg) v.toNatClampNeg 0 (tn, ts, tl, 0)
def tgM (n : Nat) (sd : Nat → Int32) (tn : Nat) (ts : Nat → Int32) (kq w sq lq : Int32) (cv : Nat → Int32) (i : Int32) : Int32 × Int32 :=
  if ¬ kq < 0 ∧ kq < 4 then (if lstT w 0 2 = true then (if nI tn = 0 then (-3, 0) else if agI sq lq w i (nI tn) = 0 then
    (if in99 cv (60 * kq.toNatClampNeg + i.toNatClampNeg) tn 0 = true then (togM n sd ts cv (60 * kq.toNatClampNeg + i.toNatClampNeg) tn 1000 0, 0) else (-2, 0))
    else (-10 - agI sq lq w i (nI tn), agI sq lq w i (nI tn))) else (-2, 0)) else (-1, 0)
theorem tld_act {x act : Int32} (h : tldB x act = true) : act = 0 ∨ act = 1 ∨ act = 2 ∨ act = 3 := by
  have h := of_decide_eq_true h
  obtain ⟨a, ha, rfl⟩ := nI_of2 (M := 3) (n := 3) rfl h.1 (nlt_le h.2.1)
  rcases (show a = 0 ∨ a = 1 ∨ a = 2 ∨ a = 3 by omega) with q | q | q | q <;> subst q
  · exact Or.inl rfl
  · exact Or.inr (Or.inl rfl)
  · exact Or.inr (Or.inr (Or.inl rfl))
  · exact Or.inr (Or.inr (Or.inr rfl))
theorem plW_nn {n : Nat} {kd sd f : Nat → Int32} {a0 : Nat} (hn : n ≤ 9) (hk : okK n kd) (hs : okS n sd) : ∀ (k i : Nat) (z : Nat × (Nat → Int32) × (Nat → Int32) × Int32), nnT z.2.2.1 z.1 → nnT (plW n kd sd f a0 k i z).2.2.2.1 (plW n kd sd f a0 k i z).2.1
  | 0, _, z, h => h
  | k + 1, i, z, h => by
    unfold plW
    by_cases c : canB z.1 z.2.2.1 (f (a0 + 2 * i)).toNatClampNeg (f (a0 + 2 * i + 1)) = true
    · rw [if_pos c]; exact plW_nn hn hk hs k (i + 1) _ (pfm_nn hn hk hs h)
    · rw [if_neg c]; exact h
def oddM (n : Nat) (sd : Nat → Int32) (p wh : Int32) : Int64 :=
  if ¬ p = -1 ∧ isP n p = false then -9223372036854775808 else if ¬ wh < 0 ∧ wh ≤ 1 then (if nI n = 0 then -9223372036854775808 else
    (if wh = 0 then lN ((oddN n sd (mskP p) (2 ^ n)).2 / Nat.gcd (oddN n sd (mskP p) (2 ^ n)).2 (oddN n sd (mskP p) (2 ^ n)).1)
     else lN ((oddN n sd (mskP p) (2 ^ n)).1 / Nat.gcd (oddN n sd (mskP p) (2 ^ n)).2 (oddN n sd (mskP p) (2 ^ n)).1))) else -9223372036854775808
