/-! the class's words and the reference's: hang, readings, rather, odds -/
theorem bt_or_iff (ts : Nat → Int32) (p : Nat) : ∀ tn, bt (orW ts tn) p = false ↔ ∀ t, t < tn → bt (ts t) p = false
  | 0 => ⟨fun _ t h => absurd h (Nat.not_lt_zero t), fun _ => b_0 p⟩
  | tn + 1 => by
    have ih := bt_or_iff ts p tn
    show bt (orW ts tn ||| ts tn) p = false ↔ _
    rw [b_or, Bool.or_eq_false_iff, ih]
    constructor
    · intro h t ht
      rcases Nat.eq_or_lt_of_le (Nat.le_of_lt_succ ht) with e | e
      · rw [e]; exact h.2
      · exact h.1 t e
    · intro h
      exact ⟨fun t ht => h t (by omega), h tn (by omega)⟩
theorem thr_iff (ts : Nat → Int32) (p : Nat) : ∀ k i, thrW ts p k i = -9 ∨ True → (i + k < 2 ^ 31) → (thrW ts p k i = -9 ↔ ∀ t, i ≤ t → t < i + k → bt (ts t) p = false)
  | 0, i, _, _ => ⟨fun _ t h1 h2 => by omega, fun _ => rfl⟩
  | k + 1, i, _, hb => by
    have ih := thr_iff ts p k (i + 1) (Or.inr trivial) (by omega)
    unfold thrW
    by_cases c : bt (ts i) p = true
    · rw [if_pos c]
      refine ⟨fun h => absurd h (nI_nm9 (by omega)), fun h => ?_⟩
      have := h i (Nat.le_refl _) (by omega)
      rw [c] at this; exact absurd this (by decide)
    · rw [if_neg c, ih]
      have c' : bt (ts i) p = false := by simpa using c
      constructor
      · intro h t h1 h2
        rcases Nat.eq_or_lt_of_le h1 with e | e
        · rw [← e]; exact c'
        · exact h t e (by omega)
      · intro h t h1 h2
        exact h t (by omega) (by omega)
theorem thr_or (ts : Nat → Int32) (p tn : Nat) (h : tn < 2 ^ 31) : thrW ts p tn 0 = -9 ↔ bt (orW ts tn) p = false := by
  rw [thr_iff ts p tn 0 (Or.inr trivial) (by omega), bt_or_iff]
  exact ⟨fun q t ht => q t (Nat.zero_le _) (by omega), fun q t _ ht => q t (by omega)⟩
theorem bt_sh1 {i j : Nat} (hi : i < 32) (hj : j < 32) : bt ((1 : Int32) <<< (nI i &&& 31)) j = decide (j = i) := by
  rw [b_shl i hi 1 hj, bt_one]
  by_cases c : j = i
  · subst c; simp
  · by_cases d : i ≤ j
    · rw [decide_eq_false (show ¬ j - i = 0 by omega), decide_eq_false c]; simp
    · rw [decide_eq_false d, decide_eq_false c]; simp
theorem bit3_bt {a b c p : Nat} (ha : a < 32) (hb : b < 32) (hc : c < 32) (hp : p < 32) : bt (bit3 (nI a) (nI b) (nI c)) p = (decide (p = a) || decide (p = b) || decide (p = c)) := by
  unfold bit3; rw [b_or, b_or, bt_sh1 ha hp, bt_sh1 hb hp, bt_sh1 hc hp]
theorem and3_z {x : Int32} {a b c : Nat} (ha : a < 32) (hb : b < 32) (hc : c < 32) : (x &&& bit3 (nI a) (nI b) (nI c)) = 0 ↔ bt x a = false ∧ bt x b = false ∧ bt x c = false := by
  constructor
  · intro h
    have key : ∀ p, p < 32 → (bt x p && (decide (p = a) || decide (p = b) || decide (p = c))) = false := fun p hp => by
      have := congrArg (fun z => bt z p) h
      simp only [b_and, b_0, bit3_bt ha hb hc hp] at this
      exact this
    refine ⟨?_, ?_, ?_⟩
    · have := key a ha; simpa using this
    · have := key b hb; simpa using this
    · have := key c hc; simpa using this
  · intro h
    refine b_ext (fun p hp => ?_)
    rw [b_and, b_0, bit3_bt ha hb hc hp]
    by_cases e1 : p = a
    · subst e1; rw [h.1]; rfl
    · by_cases e2 : p = b
      · subst e2; rw [h.2.1]; rfl
      · by_cases e3 : p = c
        · subst e3; rw [h.2.2]; rfl
        · simp [e1, e2, e3]
theorem isP_in {n : Nat} {a : Int32} (hn : n < 2 ^ 31) (h : isP n a = true) : ∃ j, j < n ∧ a = nI j := in_nat (of_decide_eq_true h) hn
theorem hg_same {n : Nat} {sd : Nat → Int32} {tn : Nat} {ts : Nat → Int32} {a b c : Int32} (hn : n ≤ 9) (ht : tn ≤ 3) : hgC n sd tn ts a b c = hgM n sd tn ts a b c := by
  unfold hgC hgM
  by_cases h : isP n a = true ∧ isP n b = true ∧ isP n c = true ∧ ¬ a = b ∧ ¬ a = c ∧ ¬ b = c
  · rw [if_pos h, if_pos h]
    obtain ⟨i, hi, rfl⟩ := isP_in (by omega) h.1
    obtain ⟨j, hj, rfl⟩ := isP_in (by omega) h.2.1
    obtain ⟨k, hk, rfl⟩ := isP_in (by omega) h.2.2.1
    rw [nI_clamp (by omega), nI_clamp (by omega), nI_clamp (by omega)]
    have e : ((orW ts tn &&& bit3 (nI i) (nI j) (nI k)) = 0 ∧ canH n sd (bit3 (nI i) (nI j) (nI k)) = true) ↔ (thrW ts i tn 0 = -9 ∧ thrW ts j tn 0 = -9 ∧ thrW ts k tn 0 = -9 ∧ canH n sd (bit3 (nI i) (nI j) (nI k)) = true) := by
      rw [and3_z (by omega) (by omega) (by omega), thr_or _ _ _ (by omega), thr_or _ _ _ (by omega), thr_or _ _ _ (by omega)]
      exact ⟨fun q => ⟨q.1.1, q.1.2.1, q.1.2.2, q.2⟩, fun q => ⟨⟨q.1, q.2.1, q.2.2.1⟩, q.2.2.2⟩⟩
    by_cases g : (orW ts tn &&& bit3 (nI i) (nI j) (nI k)) = 0 ∧ canH n sd (bit3 (nI i) (nI j) (nI k)) = true
    · rw [if_pos g, if_pos (e.mp g)]
    · rw [if_neg g, if_neg (fun q => g (e.mpr q))]
  · rw [if_neg h, if_neg h]
/-- readings, with somebody's side or kind another -/
theorem so_side {kd sd rw_ rh : Nat → Int32} {j n : Nat} {v : Int32} (hj : j < n) (hn : n ≤ 9) : ∀ (k i : Nat), (∀ q, i ≤ q → q < i + k → ∃ w, w < n ∧ rw_ q = nI w) → soW kd sd rw_ rh j (ringI (kd j) v) k i = soM kd (upd sd j v) rw_ rh k i
  | 0, _, _ => rfl
  | k + 1, i, h => by
    obtain ⟨w, hw, e⟩ := h i (Nat.le_refl _) (by omega)
    have ih := so_side (kd := kd) (sd := sd) (rh := rh) (v := v) hj hn k (i + 1) (fun q h1 h2 => h q (by omega) (by omega))
    unfold soW soM
    rw [ih, e, nI_clamp (by omega)]
    by_cases c : w = j
    · subst c
      rw [if_pos rfl]
      have : upd sd w v w = v := if_pos rfl
      rw [this]
    · rw [if_neg (fun q => c ((nI_eq (by omega) (by omega)).mp q))]
      have : upd sd j v w = sd w := if_neg c
      rw [this]
theorem so_kind {kd sd rw_ rh : Nat → Int32} {j n : Nat} {v : Int32} (hj : j < n) (hn : n ≤ 9) : ∀ (k i : Nat), (∀ q, i ≤ q → q < i + k → ∃ w, w < n ∧ rw_ q = nI w) → soW kd sd rw_ rh j (ringI v (sd j)) k i = soM (upd kd j v) sd rw_ rh k i
  | 0, _, _ => rfl
  | k + 1, i, h => by
    obtain ⟨w, hw, e⟩ := h i (Nat.le_refl _) (by omega)
    have ih := so_kind (kd := kd) (sd := sd) (rh := rh) (v := v) hj hn k (i + 1) (fun q h1 h2 => h q (by omega) (by omega))
    unfold soW soM
    rw [ih, e, nI_clamp (by omega)]
    by_cases c : w = j
    · subst c
      rw [if_pos rfl]
      have : upd kd w v w = v := if_pos rfl
      rw [this]
    · rw [if_neg (fun q => c ((nI_eq (by omega) (by omega)).mp q))]
      have : upd kd j v w = kd w := if_neg c
      rw [this]
theorem sid_same {kd sd rw_ rh : Nat → Int32} {rn j n : Nat} (hj : j < n) (hn : n ≤ 9) (hw : ∀ k, k < rn → ∃ w, w < n ∧ rw_ k = nI w) : sidP kd sd rw_ rh rn j = sidM kd sd rw_ rh rn j := funext fun v => by
  unfold sidP sidM; rw [so_side hj hn rn 0 (fun q _ h2 => hw q (by omega))]
theorem kin_same {kd sd rw_ rh : Nat → Int32} {rn j n : Nat} (hj : j < n) (hn : n ≤ 9) (hw : ∀ k, k < rn → ∃ w, w < n ∧ rw_ k = nI w) : kinP kd sd rw_ rh rn j = kinM kd sd rw_ rh rn j := funext fun v => by
  unfold kinP kinM; rw [so_kind hj hn rn 0 (fun q _ h2 => hw q (by omega))]
theorem onQ_cg {α : Type} {n : Nat} {pp : Int32} {F G : Nat → α} {d : α} (hn : n < 2 ^ 31) (h : ∀ j, j < n → F j = G j) : onQ n pp F d = onQ n pp G d := by
  unfold onQ
  by_cases c : ¬ pp < 0 ∧ ¬ nI n ≤ pp
  · rw [if_pos c, if_pos c]
    obtain ⟨j, hj, rfl⟩ := in_nat c hn
    rw [nI_clamp (by omega)]; exact h j hj
  · rw [if_neg c, if_neg c]
/-- rather -/
theorem joy_nn {n : Nat} {kd sd : Nat → Int32} {tn : Nat} {ts : Nat → Int32} {j : Nat} (hn : n ≤ 9) (hk : okK n kd) (hs : okS n sd) : 0 ≤ joyI n kd sd tn ts j := by
  unfold joyI
  by_cases c : thrW ts j tn 0 = -9
  · rw [if_pos c]; decide
  · rw [if_neg c]; exact rings_nn hn hk hs
theorem i_trans {a b c : Int32} (h : a ≤ b) (h2 : b ≤ c) : a ≤ c := by rw [Int32.le_iff_toInt_le] at *; omega
theorem gj_iff {n : Nat} {kd sd : Nat → Int32} {tn : Nat} {ts : Nat → Int32} {set x : Int32} : ∀ k, gjW n kd sd tn ts set k < x ↔ 0 < x ∧ ∀ p, p < k → bt set p = true → joyI n kd sd tn ts p < x
  | 0 => ⟨fun h => ⟨h, fun p hp => absurd hp (Nat.not_lt_zero p)⟩, fun h => h.1⟩
  | k + 1 => by
    have ih := gj_iff (n := n) (kd := kd) (sd := sd) (tn := tn) (ts := ts) (set := set) (x := x) k
    unfold gjW
    by_cases c : bt set k = true
    · rw [if_pos c]
      by_cases d : gjW n kd sd tn ts set k < joyI n kd sd tn ts k
      · rw [if_pos d]
        constructor
        · intro h
          have h2 := ih.mp (by rw [Int32.lt_iff_toInt_lt] at *; omega)
          refine ⟨h2.1, fun p hp hb => ?_⟩
          rcases Nat.eq_or_lt_of_le (Nat.le_of_lt_succ hp) with e | e
          · rw [e]; exact h
          · exact h2.2 p e hb
        · intro h; exact h.2 k (by omega) c
      · rw [if_neg d, ih]
        constructor
        · intro h
          refine ⟨h.1, fun p hp hb => ?_⟩
          rcases Nat.eq_or_lt_of_le (Nat.le_of_lt_succ hp) with e | e
          · rw [e]
            have h3 := ih.mpr h
            rw [Int32.lt_iff_toInt_lt] at *; omega
          · exact h.2 p e hb
        · intro h; exact ⟨h.1, fun p hp => h.2 p (by omega)⟩
    · rw [if_neg c, ih]
      constructor
      · intro h
        refine ⟨h.1, fun p hp hb => ?_⟩
        rcases Nat.eq_or_lt_of_le (Nat.le_of_lt_succ hp) with e | e
        · rw [e] at hb; exact absurd hb c
        · exact h.2 p e hb
      · intro h; exact ⟨h.1, fun p hp => h.2 p (by omega)⟩
theorem ra_iff {n : Nat} {kd sd : Nat → Int32} {tn : Nat} {ts : Nat → Int32} {set : Int32} : ∀ k, raW n kd sd tn ts set k = true ↔ canH n sd set = true ∧ ∀ p, p < k → bt set p = true → ¬ sumW (rgF kd sd) set n ≤ joyI n kd sd tn ts p
  | 0 => ⟨fun h => ⟨h, fun p hp => absurd hp (Nat.not_lt_zero p)⟩, fun h => h.1⟩
  | k + 1 => by
    have ih := ra_iff (n := n) (kd := kd) (sd := sd) (tn := tn) (ts := ts) (set := set) k
    unfold raW
    rw [Bool.and_eq_true, ih, Bool.or_eq_true, Bool.not_eq_true', decide_eq_true_iff]
    constructor
    · rintro ⟨⟨h1, h2⟩, h3⟩
      refine ⟨h1, fun p hp hb => ?_⟩
      rcases Nat.eq_or_lt_of_le (Nat.le_of_lt_succ hp) with e | e
      · subst e
        rcases h3 with q | q
        · rw [q] at hb; exact absurd hb (by decide)
        · exact q
      · exact h2 p e hb
    · rintro ⟨h1, h2⟩
      refine ⟨⟨h1, fun p hp => h2 p (by omega)⟩, ?_⟩
      by_cases c : bt set k = true
      · exact Or.inr (h2 k (by omega) c)
      · exact Or.inl (by simpa using c)
theorem rat_same {n : Nat} {kd sd : Nat → Int32} {tn : Nat} {ts : Nat → Int32} (hn : n ≤ 9) (hk : okK n kd) (hs : okS n sd) : ∀ (k i : Nat), i + k = 2 ^ n → ratW n kd sd tn ts k i = ratM n kd sd tn ts k i
  | 0, _, _ => rfl
  | k + 1, i, hi => by
    have ih := rat_same (tn := tn) (ts := ts) hn hk hs k (i + 1) (by omega)
    unfold ratW ratM
    rw [ih]
    have e : (canH n sd (nI i) = true ∧ ¬ sumW (rgF kd sd) (nI i) n ≤ gjW n kd sd tn ts (nI i) n) ↔ raW n kd sd tn ts (nI i) n = true := by
      rw [ra_iff]
      have lt_le : ∀ {a b : Int32}, ¬ a ≤ b ↔ b < a := fun {a b} => by rw [Int32.le_iff_toInt_le, Int32.lt_iff_toInt_lt]; omega
      constructor
      · rintro ⟨h1, h2⟩
        refine ⟨h1, fun p hp hb => lt_le.mpr ((gj_iff n).mp (lt_le.mp h2) |>.2 p hp hb)⟩
      · rintro ⟨h1, h2⟩
        refine ⟨h1, lt_le.mpr ((gj_iff n).mpr ⟨?_, fun p hp hb => lt_le.mp (h2 p hp hb)⟩)⟩
        obtain ⟨t, ht, et⟩ := corn_in (sd := sd) hn (show i < 2 ^ n by omega) (canH_3 h1)
        have h0 := bc_0 i (by have := bnd_t hn; omega) (canH_3 h1)
        obtain ⟨j, hj⟩ := Nat.exists_testBit_of_ne_zero h0
        have hjn : j < n := by
          rcases Nat.lt_or_ge j n with q | q
          · exact q
          · have := Nat.testBit_lt_two_pow (Nat.lt_of_lt_of_le (show i < 2 ^ n by omega) (Nat.pow_le_pow_right (by decide) q))
            rw [this] at hj; exact absurd hj (by decide)
        have h3 := lt_le.mp (h2 j hjn (by rw [bt_nI (by omega)]; exact hj))
        have h4 := joy_nn (tn := tn) (ts := ts) (j := j) hn hk hs
        rw [Int32.lt_iff_toInt_lt] at *; rw [Int32.le_iff_toInt_le] at h4; omega
    by_cases g : canH n sd (nI i) = true ∧ ¬ sumW (rgF kd sd) (nI i) n ≤ gjW n kd sd tn ts (nI i) n
    · rw [if_pos g, if_pos (e.mp g)]
    · rw [if_neg g, if_neg (fun q => g (e.mpr q))]
/-- shares in least terms -/
theorem lst_gcd {a b : Nat} (hab : 0 < a ∨ 0 < b) : ∀ d, (∀ e, d < e → ¬ (a % e = 0 ∧ b % e = 0)) → 0 < d → lstN a b d = a / Nat.gcd a b
  | 0, _, h => absurd h (Nat.lt_irrefl 0)
  | 1, hd, _ => by
    have hg : 0 < Nat.gcd a b := by
      rcases hab with h | h
      · exact Nat.gcd_pos_of_pos_left b h
      · exact Nat.gcd_pos_of_pos_right a h
    have : Nat.gcd a b = 1 := by
      rcases Nat.lt_or_ge 1 (Nat.gcd a b) with q | q
      · exact absurd ⟨Nat.mod_eq_zero_of_dvd (Nat.gcd_dvd_left a b), Nat.mod_eq_zero_of_dvd (Nat.gcd_dvd_right a b)⟩ (hd _ q)
      · omega
    show a = _
    rw [this, Nat.div_one]
  | d + 2, hd, _ => by
    unfold lstN
    by_cases c : a % (d + 2) = 0 ∧ b % (d + 2) = 0
    · rw [if_pos c]
      have h1 : d + 2 ∣ Nat.gcd a b := Nat.dvd_gcd (Nat.dvd_of_mod_eq_zero c.1) (Nat.dvd_of_mod_eq_zero c.2)
      have hg : 0 < Nat.gcd a b := by
        rcases hab with h | h
        · exact Nat.gcd_pos_of_pos_left b h
        · exact Nat.gcd_pos_of_pos_right a h
      have h2 := Nat.le_of_dvd hg h1
      have h3 : Nat.gcd a b = d + 2 := by
        rcases Nat.lt_or_ge (d + 2) (Nat.gcd a b) with q | q
        · exact absurd ⟨Nat.mod_eq_zero_of_dvd (Nat.gcd_dvd_left a b), Nat.mod_eq_zero_of_dvd (Nat.gcd_dvd_right a b)⟩ (hd _ q)
        · omega
      rw [h3]
    · rw [if_neg c]
      refine lst_gcd hab (d + 1) (fun e he => ?_) (by omega)
      rcases Nat.eq_or_lt_of_le (show d + 2 ≤ e by omega) with q | q
      · rw [← q]; exact c
      · exact hd e q
theorem lst_mx {a b : Nat} (hab : 0 < a ∨ 0 < b) : lstN a b (mxN a b) = a / Nat.gcd a b := by
  refine lst_gcd hab _ (fun e he q => ?_) ?_
  · have h1 : a ≤ mxN a b := by unfold mxN; by_cases c : a < b <;> simp [c] <;> omega
    have h2 : b ≤ mxN a b := by unfold mxN; by_cases c : a < b <;> simp [c] <;> omega
    rcases hab with h | h
    · have := Nat.le_of_dvd h (Nat.dvd_of_mod_eq_zero q.1); omega
    · have := Nat.le_of_dvd h (Nat.dvd_of_mod_eq_zero q.2); omega
  · unfold mxN; by_cases c : a < b <;> simp [c] <;> omega
theorem odd_same {n : Nat} {sd : Nat → Int32} {p wh : Int32} (hn : n ≤ 9) (h3 : n = 0 ∨ 3 ≤ n) : oddC n sd p wh = oddM n sd p wh := by
  have hb := bnd_t hn
  unfold oddC oddM
  by_cases c1 : ¬ p = -1 ∧ isP n p = false
  · rw [if_pos c1, if_pos c1]
  rw [if_neg c1, if_neg c1]
  by_cases c2 : ¬ wh < 0 ∧ wh ≤ 1
  · rw [if_pos c2, if_pos c2]
    by_cases c3 : nI n = 0
    · rw [if_pos c3, if_pos c3]
    rw [if_neg c3, if_neg c3]
    have h3n : 3 ≤ n := h3.resolve_left (fun q => c3 (by rw [q]; rfl))
    have hal : 0 < (oddN n sd (mskP p) (2 ^ n)).1 := by
      by_cases e : p = -1
      · rw [e]; exact odd_all h3n
      · have : isP n p = true := by
          cases q : isP n p with
          | true => rfl
          | false => exact absurd ⟨e, q⟩ c1
        obtain ⟨j, hj, rfl⟩ := isP_in (by omega) this
        exact odd_one h3n hn hj
    have hle := oddN_le n sd (mskP p) (2 ^ n)
    have hd : ∀ x y, x / y ≤ x := fun x y => Nat.div_le_self x y
    by_cases c4 : wh = 0
    · rw [if_pos c4, if_pos c4, lst_mx (Or.inr hal), nI_l (by have := hd (oddN n sd (mskP p) (2 ^ n)).2 (Nat.gcd (oddN n sd (mskP p) (2 ^ n)).2 (oddN n sd (mskP p) (2 ^ n)).1); omega)]
    · rw [if_neg c4, if_neg c4, lst_mx (Or.inl hal), Nat.gcd_comm, nI_l (by have := hd (oddN n sd (mskP p) (2 ^ n)).1 (Nat.gcd (oddN n sd (mskP p) (2 ^ n)).2 (oddN n sd (mskP p) (2 ^ n)).1); omega)]
  · rw [if_neg c2, if_neg c2]
