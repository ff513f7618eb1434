/-! pure words: the reference's odds, copy, town -/
theorem oddN_pos {n : Nat} {sd : Nat → Int32} {m : Int32} {k : Nat} (h1 : bcE (nI k) = 3) (h2 : (nI k &&& m) = m) : ∀ N, k < N → 0 < (oddN n sd m N).1
  | 0, h => by omega
  | N + 1, h => by
    rw [oddN_s]
    rcases Nat.lt_or_ge k N with q | q
    · have ih := oddN_pos (n := n) (sd := sd) h1 h2 N q
      by_cases c : bcE (nI N) = 3 ∧ (nI N &&& m) = m
      · rw [if_pos c]; exact Nat.succ_pos _
      · rw [if_neg c]; exact ih
    · have e : N = k := by omega
      subst e
      rw [if_pos ⟨h1, h2⟩]; exact Nat.succ_pos _
theorem odd_k : ∀ j, j < 9 → bcE (nI (if j < 3 then 7 else 3 + 2 ^ j)) = 3 ∧ (if j < 3 then 7 else 3 + 2 ^ j).testBit j = true := by decide +kernel
theorem odd_l {n j : Nat} (h3 : 3 ≤ n) (hj : j < n) : (if j < 3 then 7 else 3 + 2 ^ j) < 2 ^ n := by
  by_cases c : j < 3
  · rw [if_pos c]; exact Nat.lt_of_lt_of_le (by decide : 7 < 2 ^ 3) (Nat.pow_le_pow_right (by decide) h3)
  · rw [if_neg c]
    have : 2 ^ (j + 1) ≤ 2 ^ n := Nat.pow_le_pow_right (by decide) hj
    have h8 : 2 ^ 3 ≤ 2 ^ j := Nat.pow_le_pow_right (by decide) (by omega)
    rw [Nat.pow_succ] at this
    omega
theorem odd_all {n : Nat} {sd : Nat → Int32} (h3 : 3 ≤ n) : 0 < (oddN n sd (mskP (-1)) (2 ^ n)).1 :=
  oddN_pos (k := 7) (by decide +kernel) (by decide +kernel) _ (Nat.lt_of_lt_of_le (by decide : 7 < 2 ^ 3) (Nat.pow_le_pow_right (by decide) h3))
theorem odd_one {n j : Nat} {sd : Nat → Int32} (h3 : 3 ≤ n) (hn : n ≤ 9) (hj : j < n) : 0 < (oddN n sd (mskP (nI j)) (2 ^ n)).1 :=
  oddN_pos (odd_k j (by omega)).1 ((msk_in hj hn).mpr (by rw [bt_nI (by omega)]; exact (odd_k j (by omega)).2)) _ (odd_l h3 hj)
theorem msk_m1 {k : Nat} : (nI k &&& mskP (-1)) = mskP (-1) := by
  have e : mskP (-1) = 0 := by decide
  rw [e]; exact b_ext (fun i _ => by rw [b_and, b_0, Bool.and_false])
/-- copies, from the front and from the back -/
def cpA (cv : Nat → Int32) (S T q : Nat) : Nat → Int32 := fun x => if T ≤ x ∧ x < T + q then cv (S + (x - T)) else cv x
def cpB (cv : Nat → Int32) (S T n q : Nat) : Nat → Int32 := fun x => if T + (n - q) ≤ x ∧ x < T + n then cv (S + (x - T)) else cv x
theorem cpA_0 (cv : Nat → Int32) (S T : Nat) : cpA cv S T 0 = cv := funext fun x => if_neg (by omega)
theorem cpB_0 (cv : Nat → Int32) (S T n : Nat) : cpB cv S T n 0 = cv := funext fun x => if_neg (by omega)
theorem cpA_s (cv : Nat → Int32) {S T n q : Nat} (hq : q < n) (h : T ≤ S ∨ S + n ≤ T) : upd (cpA cv S T q) (T + q) (cpA cv S T q (S + q)) = cpA cv S T (q + 1) := funext fun x => by
  have e : cpA cv S T q (S + q) = cv (S + q) := if_neg (by omega)
  rw [e]
  unfold upd cpA
  by_cases c : x = T + q
  · rw [if_pos c, if_pos (by omega)]; congr 1; omega
  · by_cases d : T ≤ x ∧ x < T + q
    · rw [if_neg c, if_pos d, if_pos (by omega)]
    · rw [if_neg c, if_neg d, if_neg (by omega)]
theorem cpB_s (cv : Nat → Int32) {S T n q : Nat} (hq : q < n) (h : S < T ∨ T + n ≤ S) : upd (cpB cv S T n q) (T + (n - 1 - q)) (cpB cv S T n q (S + (n - 1 - q))) = cpB cv S T n (q + 1) := funext fun x => by
  have e : cpB cv S T n q (S + (n - 1 - q)) = cv (S + (n - 1 - q)) := if_neg (by omega)
  rw [e]
  unfold upd cpB
  by_cases c : x = T + (n - 1 - q)
  · rw [if_pos c, if_pos (by omega)]; congr 1; omega
  · by_cases d : T + (n - q) ≤ x ∧ x < T + n
    · rw [if_neg c, if_pos d, if_pos (by omega)]
    · rw [if_neg c, if_neg d, if_neg (by omega)]
theorem cpB_n (cv : Nat → Int32) (S T n : Nat) : cpB cv S T n n = cpA cv S T n := funext fun x => by
  unfold cpB cpA; rw [Nat.sub_self, Nat.add_zero]
def okC (lq lj i j v : Int32) : Bool := decide (¬ i < 0 ∧ ¬ j < 0 ∧ ¬ v < 0 ∧ ¬ lq < i ∧ ¬ lj < j ∧ ¬ lq - i < v ∧ v ≤ lj - j)
def cpMR (sq lq sj lj i j v : Int32) : Int32 := if sq = -9 then -11 else if sj = -9 then -11 else if sq = sj then (if okC lq lj i j v = true then v else -13) else -12
def cpMA (sq lq sj lj i j v : Int32) : Int32 := if sq = -9 then 1 else if sj = -9 then 1 else if sq = sj then (if okC lq lj i j v = true then 0 else 3) else 2
def cpMF (sq lq sj lj i j v : Int32) (cv : Nat → Int32) (q o : Nat) : Nat → Int32 := if sq = -9 then cv else if sj = -9 then cv else if sq = sj then (if okC lq lj i j v = true then cpA cv (60 * q + i.toNatClampNeg) (60 * o + j.toNatClampNeg) v.toNatClampNeg else cv) else cv
theorem le_of_sub {L : Nat} {i n : Int32} (hL : L ≤ 60) (c1 : ¬ i < 0) (c2 : ¬ nI L < i) (c3 : ¬ n < 0) (c4 : n ≤ nI L - i) : ∃ a k : Nat, i = nI a ∧ n = nI k ∧ a + k ≤ L := by
  refine foc0 hL ?_
  unfold focI
  rw [if_neg c1, if_neg c2, if_pos (nlt_le c3), if_pos c4]
/-- the text read: how a code is looked at, people so far -/
theorem ff_stop {f : Nat → Int32} {a0 N i : Nat} (hg : ∀ j, j < i → goB j (f (a0 + j)) = true) (hi : i ≤ N) (h1 : i < N → goB i (f (a0 + i)) = false) (h2 : i = N → ¬ (10 ≤ N ∧ N % 3 = 1)) : ffW f a0 N N 0 = nI i := by
  have key : ∀ (k j : Nat), j + k = N → j ≤ i → ffW f a0 N k j = nI i := by
    intro k
    induction k with
    | zero => intro j hj hji
              have e : i = N := by omega
              unfold ffW; rw [if_neg (h2 e), e]
    | succ k ih =>
      intro j hj hji
      unfold ffW
      rcases Nat.eq_or_lt_of_le hji with e | e
      · subst e; rw [h1 (by omega)]; simp
      · rw [if_pos (hg j e)]; exact ih (j + 1) (by omega) e
  exact key N 0 (by omega) (by omega)
theorem ff_ok {f : Nat → Int32} {a0 N : Nat} (hg : ∀ j, j < N → goB j (f (a0 + j)) = true) (h2 : 10 ≤ N ∧ N % 3 = 1) : ffW f a0 N N 0 = -9 := by
  have key : ∀ (k j : Nat), j + k = N → ffW f a0 N k j = -9 := by
    intro k
    induction k with
    | zero => intro j hj; unfold ffW; rw [if_pos h2]
    | succ k ih => intro j hj; unfold ffW; rw [if_pos (hg j (by omega))]; exact ih (j + 1) (by omega)
  exact key N 0 (by omega)
theorem go_more {f : Nat → Int32} {a0 i : Nat} (hg : ∀ j, j < i → goB j (f (a0 + j)) = true) (h : goB i (f (a0 + i)) = true) : ∀ j, j < i + 1 → goB j (f (a0 + j)) = true := fun j hj => by
  rcases Nat.eq_or_lt_of_le (Nat.le_of_lt_succ hj) with e | e
  · rw [e]; exact h
  · exact hg j e
theorem go_semi {q : Nat} (h9 : q < 9) {x : Int32} : goB (1 + 3 * q) x = decide (x = 59) := by
  unfold goB; rw [if_neg (by omega), if_neg (by omega), if_pos (by omega)]
theorem go_let {q : Nat} (h9 : q < 9) {x : Int32} : goB (1 + 3 * q + 1) x = decide (¬ kindI x = -9) := by
  unfold goB; rw [if_neg (by omega), if_neg (by omega), if_neg (by omega), if_pos (by omega)]
theorem go_dig {q : Nat} (h9 : q < 9) {x : Int32} : goB (1 + 3 * q + 2) x = decide (¬ x < 49 ∧ ¬ 57 < x) := by
  unfold goB; rw [if_neg (by omega), if_neg (by omega), if_neg (by omega), if_neg (by omega)]
theorem go_28 {x : Int32} : goB 28 x = false := by unfold goB; rw [if_neg (by decide), if_pos (by decide)]
/-- the kind that the reference reads -/
theorem kindM {x : Int32} : (if x = 115 then (0 : Int32) else if x = 119 then 1 else if x = 98 then 2 else -9) = kindI x := by
  unfold kindI
  by_cases a : x = 98
  · subst a; decide
  · by_cases b : x = 115
    · subst b; decide
    · by_cases c : x = 119
      · subst c; decide
      · simp [a, b, c]
theorem sub2 {k p : Nat} (h : p < k) : nI k - 1 - nI p = nI (k - 1 - p) := by
  obtain ⟨m, rfl⟩ : ∃ m, k = m + 1 := ⟨k - 1, by omega⟩
  rw [nI_pred, pk_sub (by omega)]; congr 1
theorem rt_no {cv : Nat → Int32} {t e_ pq : Nat} (h9 : pq < 9) (he : e_ ≤ 240) (h1 : t + 1 + 3 * pq < e_) (hg : ∀ j, j < 1 + 3 * pq + 1 → goB j (cv (t + j)) = true)
    (hb : ¬ (t + 1 + 3 * pq + 1 < e_ ∧ ¬ kindI (cv (t + 1 + 3 * pq + 1)) = -9 ∧ t + 1 + 3 * pq + 1 + 1 < e_ ∧ lstT (cv (t + 1 + 3 * pq + 1 + 1)) 49 57 = true)) :
    t ≤ (if t + 1 + 3 * pq + 1 < e_ ∧ ¬ kindI (cv (t + 1 + 3 * pq + 1)) = -9 then t + 1 + 3 * pq + 1 + 1 else t + 1 + 3 * pq + 1) ∧ (if t + 1 + 3 * pq + 1 < e_ ∧ ¬ kindI (cv (t + 1 + 3 * pq + 1)) = -9 then t + 1 + 3 * pq + 1 + 1 else t + 1 + 3 * pq + 1) ≤ 240 ∧ ffW cv t (e_ - t) (e_ - t) 0 = nI ((if t + 1 + 3 * pq + 1 < e_ ∧ ¬ kindI (cv (t + 1 + 3 * pq + 1)) = -9 then t + 1 + 3 * pq + 1 + 1 else t + 1 + 3 * pq + 1) - t) := by
  by_cases c : t + 1 + 3 * pq + 1 < e_ ∧ ¬ kindI (cv (t + 1 + 3 * pq + 1)) = -9
  · rw [if_pos c]
    refine ⟨by omega, by omega, ?_⟩
    rw [show t + 1 + 3 * pq + 1 + 1 - t = 1 + 3 * pq + 2 by omega]
    refine ff_stop (go_more hg (by rw [go_let h9]; exact decide_eq_true (by rw [show t + (1 + 3 * pq + 1) = t + 1 + 3 * pq + 1 by omega]; exact c.2))) (by omega) (fun q => ?_) (fun q => by omega)
    rw [go_dig h9]
    refine decide_eq_false (fun z => hb ⟨c.1, c.2, by omega, decide_eq_true ?_⟩)
    rw [show t + 1 + 3 * pq + 1 + 1 = t + (1 + 3 * pq + 2) by omega]; exact z
  · rw [if_neg c]
    refine ⟨by omega, by omega, ?_⟩
    rw [show t + 1 + 3 * pq + 1 - t = 1 + 3 * pq + 1 by omega]
    refine ff_stop hg (by omega) (fun q => ?_) (fun q => by omega)
    rw [go_let h9]
    refine decide_eq_false (fun z => c ⟨by omega, ?_⟩)
    rw [show t + 1 + 3 * pq + 1 = t + (1 + 3 * pq + 1) by omega]; exact z
theorem kv_s {cv kw sx : Nat → Int32} {t pq k : Nat} (h : ∀ k, k < pq → kw k = kindI (cv (t + 3 * k + 2)) ∧ sx k = cv (t + 3 * k + 3) - 48) (hk : k < pq + 1) :
    upd kw pq (kindI (cv (t + 1 + 3 * pq + 1))) k = kindI (cv (t + 3 * k + 2)) ∧ upd sx pq (cv (t + 1 + 3 * pq + 1 + 1) - 48) k = cv (t + 3 * k + 3) - 48 := by
  unfold upd
  by_cases c : k = pq
  · subst c
    rw [if_pos rfl, if_pos rfl, show t + 1 + 3 * k + 1 = t + 3 * k + 2 by omega]
    exact ⟨rfl, rfl⟩
  · rw [if_neg c, if_neg c]; exact h k (by omega)
def towM (kq w sq lq : Int32) (cv : Nat → Int32) (i n : Int32) : Int32 × Int32 × Nat :=
  if ¬ kq < 0 ∧ kq < 4 then (if lstT w 0 2 = true then (if agI sq lq w i n = 0 then
    (if ffW cv (60 * kq.toNatClampNeg + i.toNatClampNeg) n.toNatClampNeg n.toNatClampNeg 0 = -9 then (nI ((n.toNatClampNeg - 1) / 3), 0, (n.toNatClampNeg - 1) / 3) else (-100 - ffW cv (60 * kq.toNatClampNeg + i.toNatClampNeg) n.toNatClampNeg n.toNatClampNeg 0, 0, 0))
    else (-10 - agI sq lq w i n, agI sq lq w i n, 0)) else (-2, 0, 0)) else (-1, 0, 0)
