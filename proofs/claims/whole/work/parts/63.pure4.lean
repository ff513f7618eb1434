/-! the threes that hang: sets of three, apart from one another -/
def okT (n : Nat) (sd : Nat → Int32) (tn : Nat) (ts : Nat → Int32) : Prop := (∀ t, t < tn → ∃ k, k < 2 ^ n ∧ ts t = nI k ∧ canH n sd (nI k) = true) ∧ ∀ t u, t < tn → u < tn → ¬ t = u → (ts t &&& ts u) = 0
def pcS (k : Nat) : Nat → Nat
  | 0 => 0
  | i + 1 => pcS k i + (if k.testBit i = true then 1 else 0)
set_option maxRecDepth 100000 in
theorem bc_pc : ∀ k, k < 512 → bcE (nI k) = nI (pcS k 9) := by decide +kernel
theorem pcS_le (k : Nat) : ∀ m, pcS k m ≤ m
  | 0 => Nat.le_refl _
  | m + 1 => by
    have := pcS_le k m
    unfold pcS
    by_cases c : k.testBit m = true
    · rw [if_pos c]; omega
    · rw [if_neg c]; omega
theorem pc_or {a b : Nat} (h : a &&& b = 0) : ∀ m, pcS (a ||| b) m = pcS a m + pcS b m
  | 0 => rfl
  | m + 1 => by
    have ih := pc_or h m
    have hb : (a.testBit m && b.testBit m) = false := by rw [← Nat.testBit_and, h, Nat.zero_testBit]
    unfold pcS
    rw [ih, Nat.testBit_or]
    cases ha : a.testBit m <;> cases hc : b.testBit m
    · simp
    · simp; omega
    · simp; omega
    · rw [ha, hc] at hb; exact absurd hb (by decide)
theorem pc_full {k : Nat} : ∀ m, pcS k m = m → ∀ i, i < m → k.testBit i = true
  | 0, _, i, h => absurd h (Nat.not_lt_zero i)
  | m + 1, e, i, h => by
    have hl := pcS_le k m
    unfold pcS at e
    by_cases c : k.testBit m = true
    · rw [if_pos c] at e
      rcases Nat.eq_or_lt_of_le (Nat.le_of_lt_succ h) with q | q
      · rw [q]; exact c
      · exact pc_full m (by omega) i q
    · rw [if_neg c] at e; omega
theorem pc_3 {n : Nat} {sd : Nat → Int32} {k : Nat} (hk : k < 512) (h : canH n sd (nI k) = true) : pcS k 9 = 3 := by
  have h1 := bc_pc k hk
  rw [canH_3 h] at h1
  have := pcS_le k 9
  exact ((nI_eq (a := 3) (by decide) (by omega)).mp h1).symm
theorem and_nz {a b : Nat} (ha : a < 512) (h : nI a &&& nI b = 0) : a &&& b = 0 := by
  rw [and_nI] at h
  exact (nI_zero (Nat.lt_of_le_of_lt Nat.and_le_left (by omega))).mp h
theorem hang_room {n : Nat} {sd : Nat → Int32} {tn : Nat} {ts : Nat → Int32} {a b c : Int32} (hn : n ≤ 9) (ht : tn ≤ 3) (ok : okT n sd tn ts) (h : hgC n sd tn ts a b c = 2) : tn < 3 := by
  rcases Nat.lt_or_ge tn 3 with q | q
  · exact q
  have e : tn = 3 := by omega
  subst e
  exfalso
  have hb := bnd_t hn
  unfold hgC at h
  by_cases g : isP n a = true ∧ isP n b = true ∧ isP n c = true ∧ ¬ a = b ∧ ¬ a = c ∧ ¬ b = c
  · rw [if_pos g] at h
    by_cases g2 : (orW ts 3 &&& bit3 a b c) = 0 ∧ canH n sd (bit3 a b c) = true
    · obtain ⟨i, hi, rfl⟩ := isP_in (by omega) g.1
      obtain ⟨j, hj, rfl⟩ := isP_in (by omega) g.2.1
      obtain ⟨k, hk, rfl⟩ := isP_in (by omega) g.2.2.1
      have hz := ((and3_z (by omega) (by omega) (by omega)).mp g2.1).1
      have hz := (bt_or_iff ts i 3).mp hz
      obtain ⟨k0, l0, e0, c0⟩ := ok.1 0 (by decide)
      obtain ⟨k1, l1, e1, c1⟩ := ok.1 1 (by decide)
      obtain ⟨k2, l2, e2, c2⟩ := ok.1 2 (by decide)
      have d01 := ok.2 0 1 (by decide) (by decide) (by decide)
      have d02 := ok.2 0 2 (by decide) (by decide) (by decide)
      have d12 := ok.2 1 2 (by decide) (by decide) (by decide)
      rw [e0, e1] at d01; rw [e0, e2] at d02; rw [e1, e2] at d12
      have d01 := and_nz (by omega) d01
      have d02 := and_nz (by omega) d02
      have d12 := and_nz (by omega) d12
      have d : (k0 ||| k1) &&& k2 = 0 := by rw [Nat.and_comm, Nat.and_or_distrib_left, Nat.and_comm k2 k0, Nat.and_comm k2 k1, d02, d12]; rfl
      have p : pcS (k0 ||| k1 ||| k2) 9 = 9 := by rw [pc_or d, pc_or d01, pc_3 (by omega) c0, pc_3 (by omega) c1, pc_3 (by omega) c2]
      have f := pc_full 9 p i (by omega)
      rw [Nat.testBit_or, Nat.testBit_or] at f
      have z0 := hz 0 (by decide); have z1 := hz 1 (by decide); have z2 := hz 2 (by decide)
      rw [e0, bt_nI (by omega)] at z0
      rw [e1, bt_nI (by omega)] at z1
      rw [e2, bt_nI (by omega)] at z2
      rw [z0, z1, z2] at f
      exact absurd f (by decide)
    · rw [if_neg g2] at h; exact absurd h (by decide)
  · rw [if_neg g] at h; exact absurd h (by decide)
theorem b_comm (x y : Int32) : x &&& y = y &&& x := b_ext (fun i _ => by rw [b_and, b_and, Bool.and_comm])
theorem hang_ok {n : Nat} {sd : Nat → Int32} {tn : Nat} {ts : Nat → Int32} {a b c : Int32} (hn : n ≤ 9) (ht : tn ≤ 3) (ok : okT n sd tn ts) : okT n sd (in2 (hgC n sd tn ts a b c) (tn + 1) tn) (in2 (hgC n sd tn ts a b c) (upd ts tn (bit3 a b c)) ts) ∧ in2 (hgC n sd tn ts a b c) (tn + 1) tn ≤ 3 := by
  by_cases h : hgC n sd tn ts a b c = 2
  · have hr := hang_room hn ht ok h
    rw [h]
    show okT n sd (tn + 1) (upd ts tn (bit3 a b c)) ∧ tn + 1 ≤ 3
    refine ⟨?_, by omega⟩
    unfold hgC at h
    by_cases g : isP n a = true ∧ isP n b = true ∧ isP n c = true ∧ ¬ a = b ∧ ¬ a = c ∧ ¬ b = c
    · rw [if_pos g] at h
      by_cases g2 : (orW ts tn &&& bit3 a b c) = 0 ∧ canH n sd (bit3 a b c) = true
      · obtain ⟨i, hi, rfl⟩ := isP_in (by omega) g.1
        obtain ⟨j, hj, rfl⟩ := isP_in (by omega) g.2.1
        obtain ⟨k, hk, rfl⟩ := isP_in (by omega) g.2.2.1
        have hz := (and3_z (by omega) (by omega) (by omega)).mp g2.1
        have hd : ∀ t, t < tn → (ts t &&& bit3 (nI i) (nI j) (nI k)) = 0 := fun t h9 =>
          (and3_z (by omega) (by omega) (by omega)).mpr ⟨(bt_or_iff ts i tn).mp hz.1 t h9, (bt_or_iff ts j tn).mp hz.2.1 t h9, (bt_or_iff ts k tn).mp hz.2.2 t h9⟩
        refine ⟨fun t h9 => ?_, fun t u h9 h8 h7 => ?_⟩
        · unfold upd
          by_cases e : t = tn
          · rw [if_pos e]
            obtain ⟨m, hm, em⟩ := bit3_n hn hi hj hk
            exact ⟨m, hm, em, by rw [← em]; exact g2.2⟩
          · rw [if_neg e]; exact ok.1 t (by omega)
        · unfold upd
          by_cases e : t = tn
          · rw [if_pos e, if_neg (by omega), b_comm]; exact hd u (by omega)
          · by_cases e2 : u = tn
            · rw [if_neg e, if_pos e2]; exact hd t (by omega)
            · rw [if_neg e, if_neg e2]; exact ok.2 t u (by omega) (by omega) h7
      · rw [if_neg g2] at h; exact absurd h (by decide)
    · rw [if_neg g] at h; exact absurd h (by decide)
  · unfold in2; rw [if_neg h, if_neg h]; exact ⟨ok, ht⟩
theorem leave_ok {n : Nat} {sd : Nat → Int32} {tn j : Nat} {ts : Nat → Int32} (hj : j < tn) (ok : okT n sd tn ts) : okT n sd (tn - 1) (shF ts j tn) := by
  have e : ∀ t, t < tn - 1 → ∃ s, s < tn ∧ shF ts j tn t = ts s ∧ s = (if j ≤ t then t + 1 else t) := fun t ht => by
    unfold shF
    by_cases c : j ≤ t
    · rw [if_pos ⟨c, by omega⟩, if_pos c]; exact ⟨t + 1, by omega, rfl, rfl⟩
    · rw [if_neg (fun q => c q.1), if_neg c]; exact ⟨t, by omega, rfl, rfl⟩
  refine ⟨fun t ht => ?_, fun t u ht hu htu => ?_⟩
  · obtain ⟨s, hs, es, -⟩ := e t ht
    rw [es]; exact ok.1 s hs
  · obtain ⟨s, hs, es, e1⟩ := e t ht
    obtain ⟨r, hr, er, e2⟩ := e u hu
    rw [es, er]
    refine ok.2 s r hs hr (fun q => htu ?_)
    rw [e1, e2] at q
    by_cases c : j ≤ t
    · rw [if_pos c] at q
      by_cases d : j ≤ u
      · rw [if_pos d] at q; omega
      · rw [if_neg d] at q; omega
    · rw [if_neg c] at q
      by_cases d : j ≤ u
      · rw [if_pos d] at q; omega
      · rw [if_neg d] at q; omega
/-- who isn't in a set doesn't matter to it -/
theorem sum_bend {f : Nat → Int32} {set v : Int32} {j : Nat} (h : bt set j = false) : ∀ k, sumW (upd f j v) set k = sumW f set k
  | 0 => rfl
  | k + 1 => by
    unfold sumW
    rw [sum_bend h k]
    by_cases c : bt set k = true
    · have : upd f j v k = f k := if_neg (fun q => by rw [q, h] at c; exact absurd c (by decide))
      rw [this]
    · rw [if_neg c, if_neg c]
theorem corn_in2 {sd : Nat → Int32} {set : Int32} : ∀ k, cornW sd set k = -9 ∨ ∃ t, t < k ∧ cornW sd set k = nI t ∧ bt set t = true
  | 0 => Or.inl rfl
  | k + 1 => by
    unfold cornW
    by_cases h : bt set k = true ∧ (cornW sd set k = -9 ∨ sd (cornW sd set k).toNatClampNeg ≤ sd k)
    · rw [if_pos h]; exact Or.inr ⟨k, by omega, rfl, h.1⟩
    · rw [if_neg h]
      rcases corn_in2 (sd := sd) (set := set) k with q | ⟨t, h1, h2, h3⟩
      · exact Or.inl q
      · exact Or.inr ⟨t, by omega, h2, h3⟩
theorem corn_bend {sd : Nat → Int32} {set v : Int32} {j : Nat} (h : bt set j = false) : ∀ k, k < 2 ^ 31 → cornW (upd sd j v) set k = cornW sd set k
  | 0, _ => rfl
  | k + 1, hk => by
    have ih := corn_bend (sd := sd) (v := v) h k (by omega)
    unfold cornW
    rw [ih]
    by_cases c : bt set k = true
    · have ek : upd sd j v k = sd k := if_neg (fun q => by rw [q, h] at c; exact absurd c (by decide))
      rw [ek]
      rcases corn_in2 (sd := sd) (set := set) k with q | ⟨t, h1, h2, h3⟩
      · rw [q]; simp
      · have et : upd sd j v t = sd t := if_neg (fun q => by rw [q, h] at h3; exact absurd h3 (by decide))
        rw [h2, nI_clamp (by omega), et]
    · rw [if_neg (fun q => c q.1), if_neg (fun q => c q.1)]
theorem can_bend {n : Nat} {sd : Nat → Int32} {set v : Int32} {j : Nat} (hn : n ≤ 9) (h : bt set j = false) : canH n (upd sd j v) set = canH n sd set := by
  unfold canH
  rw [sum_bend h, corn_bend h n (by omega)]
  have e : sideF n (upd sd j v) (cornW sd set n) = sideF n sd (cornW sd set n) := by
    rcases corn_in2 (sd := sd) (set := set) n with q | ⟨t, h1, h2, h3⟩
    · rw [q]; unfold sideF; rw [if_neg (fun z => z.1 (by decide)), if_neg (fun z => z.1 (by decide))]
    · have et : upd sd j v t = sd t := if_neg (fun q => by rw [q, h] at h3; exact absurd h3 (by decide))
      rw [h2, sideF_in h1 (by omega), sideF_in h1 (by omega), et]
  rw [e]
theorem bend_ok {n : Nat} {sd : Nat → Int32} {tn : Nat} {ts : Nat → Int32} {j : Nat} {v : Int32} (hn : n ≤ 9) (ht : tn ≤ 3) (hj : thrW ts j tn 0 = -9) (ok : okT n sd tn ts) : okT n (upd sd j v) tn ts := by
  have h := (bt_or_iff ts j tn).mp ((thr_or ts j tn (by omega)).mp hj)
  refine ⟨fun t h9 => ?_, ok.2⟩
  obtain ⟨k, h1, h2, h3⟩ := ok.1 t h9
  refine ⟨k, h1, h2, ?_⟩
  rw [can_bend hn (by rw [← h2]; exact h t h9)]; exact h3
theorem bend_S {n : Nat} {sd : Nat → Int32} {j : Nat} {v : Int32} (h : okS n sd) (h1 : ¬ v < 1) (h9 : v ≤ 9) : okS n (upd sd j v) := fun k hk => by
  unfold upd
  by_cases c : k = j
  · rw [if_pos c]
    have z1 : (1 : Int32).toInt = 1 := rfl
    have z0 : (0 : Int32).toInt = 0 := rfl
    obtain ⟨d, hd, rfl⟩ := nI_of2 (M := 9) (n := 9) rfl (x := v) (by rw [Int32.lt_iff_toInt_lt] at h1 ⊢; omega) h9
    refine ⟨d, ?_, hd, rfl⟩
    rcases Nat.eq_zero_or_pos d with q | q
    · subst q; exact absurd (by decide) h1
    · exact q
  · rw [if_neg c]; exact h k hk
theorem S_1 {n : Nat} {sd : Nat → Int32} (h : okS n sd) : ∀ j, j < n → 1 ≤ sd j := fun j hj => by
  obtain ⟨d, h1, h9, e⟩ := h j hj
  rw [e]; exact nI_le (a := 1) h1 (by omega)
theorem pitch_d {n : Nat} {sd : Nat → Int32} {tn : Nat} {ts : Nat → Int32} (hn : n ≤ 9) (hs : okS n sd) (ok : okT n sd tn ts) : ∀ t, t < tn → ∃ d : Nat, 1 ≤ d ∧ d ≤ 81 ∧ sumW sd (ts t) n = nI d := fun t ht => by
  obtain ⟨k, h1, h2, h3⟩ := ok.1 t ht
  obtain ⟨s, hs9, e⟩ := sum_nat (f := sd) (c := 9) (set := ts t) n (fun j hj => by obtain ⟨d, -, h9, e⟩ := hs j hj; exact ⟨d, h9, e⟩)
  have hle : 9 * n ≤ 9 * 9 := Nat.mul_le_mul_left _ hn
  refine ⟨s, ?_, by omega, e⟩
  rcases Nat.eq_zero_or_pos s with q | q
  · exfalso
    subst q
    have h4 := (of_decide_eq_true h3).2
    rw [← h2, e] at h4
    obtain ⟨u, hu, eu⟩ := corn_in (sd := sd) hn h1 (canH_3 h3)
    rw [h2, eu, sideF_in hu (by omega)] at h4
    obtain ⟨d, h5, h6, e2⟩ := hs u hu
    rw [e2, show (2 : Int32) = nI 2 from rfl, pk_mul] at h4
    exact h4 (nI_le (Nat.zero_le _) (by omega))
  · exact q
