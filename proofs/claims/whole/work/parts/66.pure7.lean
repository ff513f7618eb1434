/-! the most that can hang: the class's recursion finds the worthiest family -/
set_option maxRecDepth 100000 in
theorem low_bits : ∀ w, w < 512 → ¬ w = 0 → lowN w = 2 ^ lowI w ∧ lowI w < 9 := by decide +kernel
set_option maxRecDepth 100000 in
theorem oth_bits : ∀ w, w < 512 → ¬ w = 0 → ∀ p, p < 9 → (othN w).testBit p = (w.testBit p && decide (¬ p = lowI w)) := by decide +kernel
theorem oth_sub {w : Nat} : sbs (othN w) w := fun p hp => by
  unfold othN at hp
  rw [Nat.testBit_and, Bool.and_eq_true] at hp; exact hp.1
theorem andn_bit {w s : Nat} (hw : w < 512) (p : Nat) : (andn w s).testBit p = (w.testBit p && !s.testBit p) := by
  unfold andn
  rw [Nat.testBit_and, Nat.testBit_xor]
  cases hb : w.testBit p
  · rfl
  · have hp := bit_9 hw hb
    have h5 : (511 : Nat).testBit p = true := (by decide : ∀ i, i < 9 → (511 : Nat).testBit i = true) p hp
    rw [h5]; cases s.testBit p <;> rfl
theorem andn_sub {w s : Nat} (hw : w < 512) : sbs (andn w s) w := fun p hp => by
  rw [andn_bit hw, Bool.and_eq_true] at hp; exact hp.1
theorem set3_bit {w b c p : Nat} (hw : w < 512) (h0 : ¬ w = 0) : (set3 w b c).testBit p = true ↔ p = lowI w ∨ p = b ∨ p = c := by
  unfold set3
  rw [(low_bits w hw h0).1, Nat.testBit_or, Nat.testBit_or, Nat.testBit_two_pow, Nat.testBit_two_pow, Nat.testBit_two_pow, Bool.or_eq_true, Bool.or_eq_true, decide_eq_true_iff, decide_eq_true_iff, decide_eq_true_iff]
  constructor
  · rintro ((h | h) | h)
    · exact Or.inl h.symm
    · exact Or.inr (Or.inl h.symm)
    · exact Or.inr (Or.inr h.symm)
  · rintro (h | h | h)
    · exact Or.inl (Or.inl h.symm)
    · exact Or.inl (Or.inr h.symm)
    · exact Or.inr h.symm
theorem low_in {w : Nat} (hw : w < 512) (h0 : ¬ w = 0) : w.testBit (lowI w) = true := low_bit (by have := (low_bits w hw h0).2; omega)
theorem set3_sub {w b c : Nat} (hw : w < 512) (h0 : ¬ w = 0) (hb : (othN w).testBit b = true) (hc : (othN w).testBit c = true) : sbs (set3 w b c) w := fun p hp => by
  rcases (set3_bit hw h0).mp hp with e | e | e
  · rw [e]; exact low_in hw h0
  · rw [e]; exact oth_sub b hb
  · rw [e]; exact oth_sub c hc
theorem set3_low {w b c : Nat} (hw : w < 512) (h0 : ¬ w = 0) (hb : (othN w).testBit b = true) (hc : (othN w).testBit c = true) : lowI (set3 w b c) = lowI w := by
  have h1 := low_sub (set3_sub hw h0 hb hc)
  have h2 := low_le (k := set3 w b c) (p := lowI w) (by have := (low_bits w hw h0).2; omega) ((set3_bit hw h0).mpr (Or.inl rfl))
  omega
def Ext (w h : Nat) (P : Nat → Nat) (mm : Nat) (T : Nat → Nat) : Prop := h ≤ mm ∧ (∀ i, i < h → T i = P i) ∧ ∀ i, h ≤ i → i < mm → sbs (T i) w
def Inv (n : Nat) (sd : Nat → Int32) (w h : Nat) (P : Nat → Nat) : Prop := Fam n sd h P ∧ (∀ i, i < h → dsj (P i) w ∧ lowI (P i) < lowI w) ∧ 3 * h + pcS w 9 ≤ 9
theorem inv_oth {n : Nat} {sd : Nat → Int32} {w h : Nat} {P : Nat → Nat} (hI : Inv n sd w h P) : Inv n sd (othN w) h P := by
  refine ⟨hI.1, fun i hi => ⟨fun p hp => ?_, Nat.lt_of_lt_of_le (hI.2.1 i hi).2 (low_sub oth_sub)⟩, ?_⟩
  · cases hb : (othN w).testBit p
    · rfl
    · have h1 := (hI.2.1 i hi).1 p hp
      rw [oth_sub p hb] at h1; exact absurd h1 (by decide)
  · have := pc_mono (oth_sub (w := w)) 9
    have := hI.2.2
    omega
theorem inv_three {n : Nat} {sd : Nat → Int32} {w h b c : Nat} {P : Nat → Nat} (hn : n ≤ 9) (hw : w < 2 ^ n) (h0 : ¬ w = 0) (hI : Inv n sd w h P) (hb : (othN w).testBit b = true) (hc : (othN w).testBit c = true) (hS : canH n sd (nI (set3 w b c)) = true) : Inv n sd (andn w (set3 w b c)) (h + 1) (fup P h (set3 w b c)) := by
  have hb2 := bnd_t hn
  have hw5 : w < 512 := by omega
  have hsub := set3_sub hw5 h0 hb hc
  have hlow := set3_low hw5 h0 hb hc
  have hlt : set3 w b c < 2 ^ n := sub_lt hsub hw
  have hf := (low_bits w hw5 h0).2
  generalize hSe : set3 w b c = S at *
  have hPS : ∀ i, i < h → dsj (P i) S := fun i hi p hp => by
    cases hq : S.testBit p
    · rfl
    · have h1 := (hI.2.1 i hi).1 p hp
      rw [hsub p hq] at h1; exact absurd h1 (by decide)
  have hfS : S.testBit (lowI w) = true := by rw [← hSe]; exact (set3_bit hw5 h0).mpr (Or.inl rfl)
  refine ⟨⟨fun i hi => ?_, fun i j hij hj => ?_⟩, fun i hi => ?_, ?_⟩
  · unfold fup
    by_cases e : i = h
    · rw [if_pos e]; exact ⟨hlt, hS⟩
    · rw [if_neg e]; exact hI.1.1 i (by omega)
  · unfold fup
    rw [if_neg (show ¬ i = h by omega)]
    by_cases e : j = h
    · rw [if_pos e]
      exact ⟨hPS i (by omega), by rw [hlow]; exact (hI.2.1 i (by omega)).2⟩
    · rw [if_neg e]; exact hI.1.2 i j hij (by omega)
  · unfold fup
    by_cases e : i = h
    · rw [if_pos e]
      refine ⟨fun p hp => by rw [andn_bit hw5, hp]; simp, ?_⟩
      have h1 := low_sub (andn_sub (s := S) hw5)
      rcases Nat.eq_or_lt_of_le h1 with q | q
      · exfalso
        have h2 := low_bit (k := andn w S) (by omega)
        rw [← q, andn_bit hw5, hfS] at h2
        simp at h2
      · rw [hlow]; exact q
    · rw [if_neg e]
      refine ⟨fun p hp => ?_, Nat.lt_of_lt_of_le (hI.2.1 i (by omega)).2 (low_sub (andn_sub hw5))⟩
      rw [andn_bit hw5, (hI.2.1 i (by omega)).1 p hp]; rfl
  · have e1 : andn w S ||| S = w := by
      apply Nat.eq_of_testBit_eq
      intro p
      rw [Nat.testBit_or, andn_bit hw5]
      cases hq : S.testBit p
      · simp
      · rw [hsub p hq]; simp
    have e2 := pc_or (a := andn w S) (b := S) (dsj_iff.mpr (fun p hp => by
      rw [andn_bit hw5, Bool.and_eq_true] at hp
      have := hp.2
      simpa using this)) 9
    rw [e1, pc_3 (by omega) hS] at e2
    have := hI.2.2
    omega
/-- a family that goes on from here leaves the first who waits out, or has it in its next three -/
theorem ext_split {n : Nat} {sd : Nat → Int32} {w h : Nat} {P : Nat → Nat} {mm : Nat} {T : Nat → Nat} (hn : n ≤ 9) (hw : w < 2 ^ n) (h0 : ¬ w = 0) (hT : Fam n sd mm T) (hE : Ext w h P mm T) : Ext (othN w) h P mm T ∨ ∃ b c, b < c ∧ c < n ∧ (othN w).testBit b = true ∧ (othN w).testBit c = true ∧ canH n sd (nI (set3 w b c)) = true ∧ Ext (andn w (set3 w b c)) (h + 1) (fup P h (set3 w b c)) mm T := by
  have hb2 := bnd_t hn
  have hw5 : w < 512 := by omega
  have hf := (low_bits w hw5 h0).2
  by_cases c : ∃ i, h ≤ i ∧ i < mm ∧ (T i).testBit (lowI w) = true
  · obtain ⟨i, hi1, hi2, hib⟩ := c
    have hih : i = h := by
      rcases Nat.eq_or_lt_of_le hi1 with q | q
      · exact q.symm
      · exfalso
        have h1 := (hT.2 h i q hi2).2
        have h2 := low_le (by omega) hib
        have h3 := low_sub (hE.2.2 h (Nat.le_refl _) (by omega))
        omega
    subst hih
    have hA := hT.1 i hi2
    have hs := hE.2.2 i (Nat.le_refl _) hi2
    obtain ⟨x, hx, y, hy, z, hz, hxy, hyz, e⟩ := three_bits (T i) (by omega) (pc_3 (by omega) hA.2)
    have bits : ∀ p, (T i).testBit p = true ↔ p = x ∨ p = y ∨ p = z := fun p => by
      rw [e, Nat.testBit_or, Nat.testBit_or, Nat.testBit_two_pow, Nat.testBit_two_pow, Nat.testBit_two_pow, Bool.or_eq_true, Bool.or_eq_true, decide_eq_true_iff, decide_eq_true_iff, decide_eq_true_iff]
      constructor
      · rintro ((h | h) | h)
        · exact Or.inl h.symm
        · exact Or.inr (Or.inl h.symm)
        · exact Or.inr (Or.inr h.symm)
      · rintro (h | h | h)
        · exact Or.inl (Or.inl h.symm)
        · exact Or.inl (Or.inr h.symm)
        · exact Or.inr h.symm
    have hfx : lowI w = x := by
      have h1 := low_le (k := w) (p := x) (by omega) (hs x ((bits x).mpr (Or.inl rfl)))
      have h2 := (bits _).mp hib
      omega
    have hset : T i = set3 w y z := by
      apply Nat.eq_of_testBit_eq
      intro p
      have h1 := bits p
      have h2 := set3_bit (b := y) (c := z) (p := p) hw5 h0
      rw [hfx, ← h1] at h2
      cases q1 : (T i).testBit p <;> cases q2 : (set3 w y z).testBit p
      · rfl
      · exact absurd (h2.mp q2) (by rw [q1]; decide)
      · exact absurd (h2.mpr q1) (by rw [q2]; decide)
      · rfl
    have hyo : (othN w).testBit y = true := by
      rw [oth_bits w hw5 h0 y hy, hs y ((bits y).mpr (Or.inr (Or.inl rfl))), decide_eq_true (show ¬ y = lowI w by omega)]; rfl
    have hzo : (othN w).testBit z = true := by
      rw [oth_bits w hw5 h0 z hz, hs z ((bits z).mpr (Or.inr (Or.inr rfl))), decide_eq_true (show ¬ z = lowI w by omega)]; rfl
    have hzn : z < n := by
      rcases Nat.lt_or_ge z n with q | q
      · exact q
      · exfalso
        have h1 := Nat.testBit_lt_two_pow (Nat.lt_of_lt_of_le hA.1 (Nat.pow_le_pow_right (by decide) q))
        rw [(bits z).mpr (Or.inr (Or.inr rfl))] at h1
        exact absurd h1 (by decide)
    refine Or.inr ⟨y, z, hyz, hzn, hyo, hzo, by rw [← hset]; exact hA.2, by omega, fun j hj => ?_, fun j hj1 hj2 p hp => ?_⟩
    · unfold fup
      by_cases q : j = i
      · rw [if_pos q, q]; exact hset
      · rw [if_neg q]; exact hE.2.1 j (by omega)
    · rw [andn_bit hw5, hE.2.2 j (by omega) hj2 p hp, ← hset]
      cases q : (T i).testBit p
      · rfl
      · have h1 := (hT.2 i j (by omega) hj2).1 p q
        rw [hp] at h1; exact absurd h1 (by decide)
  · refine Or.inl ⟨hE.1, hE.2.1, fun i hi1 hi2 p hp => ?_⟩
    have h1 := hE.2.2 i hi1 hi2 p hp
    rw [oth_bits w hw5 h0 p (bit_9 hw5 h1), h1, decide_eq_true (show ¬ p = lowI w from fun q => c ⟨i, hi1, hi2, by rw [← q]; exact hp⟩)]; rfl
abbrev plA (n : Nat) (kd sd : Nat → Int32) (Fn : Nat → Nat → Int32 → Int64 → mZ → mZ) (w h : Nat) (P : Nat → Nat) (z : mZ) : mZ := Fn w h (nI (rgS n kd sd P h)) (lN (lnN (dgT P h) 9)) z
def FnOk (n : Nat) (kd sd : Nat → Int32) (Fn : Nat → Nat → Int32 → Int64 → mZ → mZ) (w h : Nat) (P : Nat → Nat) : Prop := ∀ z m F, RZ n kd sd z m F → ∃ m' F', RZ n kd sd (Fn w h (nI (rgS n kd sd P h)) (lN (lnN (dgT P h) 9)) z) m' F' ∧ wth n kd sd m F ≤ wth n kd sd m' F' ∧ ∀ mm T, Fam n sd mm T → Ext w h P mm T → wth n kd sd mm T ≤ wth n kd sd m' F'
theorem lpC_ok {n : Nat} {kd sd : Nat → Int32} (hn : n ≤ 9) (hk : okK n kd) (hs : okS n sd) {Fn : Nat → Nat → Int32 → Int64 → mZ → mZ} {w h b : Nat} {P : Nat → Nat} (hw : w < 2 ^ n) (h0 : ¬ w = 0) (hI : Inv n sd w h P) (hb : (othN w).testBit b = true) (hIH : ∀ w' h' P', w' < w → w' < 2 ^ n → Inv n sd w' h' P' → FnOk n kd sd Fn w' h' P') : ∀ (k c : Nat) (z : mZ) (m : Nat) (F : Nat → Nat), RZ n kd sd z m F → ∃ m' F', RZ n kd sd (lpC n kd sd Fn w h (nI (rgS n kd sd P h)) (lN (lnN (dgT P h) 9)) b k c z) m' F' ∧ wth n kd sd m F ≤ wth n kd sd m' F' ∧ ∀ c', c ≤ c' → c' < c + k → (othN w).testBit c' = true → canH n sd (nI (set3 w b c')) = true → ∀ mm T, Fam n sd mm T → Ext (andn w (set3 w b c')) (h + 1) (fup P h (set3 w b c')) mm T → wth n kd sd mm T ≤ wth n kd sd m' F'
  | 0, c, z, m, F, hz => ⟨m, F, hz, Nat.le_refl _, fun c' h1 h2 => by omega⟩
  | k + 1, c, z, m, F, hz => by
    rw [lpC_s]
    by_cases q : (othN w).testBit c = true ∧ canH n sd (nI (set3 w b c)) = true
    · rw [if_pos q]
      have hb2 := bnd_t hn
      have hI2 := inv_three hn hw h0 hI hb q.1 q.2
      have h9 := hI.2.2
      have hlt := andn_lt (b := b) (c := c) (show w < 512 by omega) h0
      have hdj : ∀ i, i < h → dsj (P i) (set3 w b c) := fun i hi p hp => by
        cases hq : (set3 w b c).testBit p
        · rfl
        · have h1 := (hI.2.1 i hi).1 p hp
          rw [set3_sub (show w < 512 by omega) h0 hb q.1 p hq] at h1; exact absurd h1 (by decide)
      rw [rg_fam hn hk hs, wr_fam (by omega) hdj]
      obtain ⟨m1, F1, hz1, hv1, hc1⟩ := hIH (andn w (set3 w b c)) (h + 1) (fup P h (set3 w b c)) hlt (by omega) hI2 z m F hz
      obtain ⟨m2, F2, hz2, hv2, hc2⟩ := lpC_ok hn hk hs hw h0 hI hb hIH k (c + 1) _ m1 F1 hz1
      refine ⟨m2, F2, hz2, Nat.le_trans hv1 hv2, fun c' h1 h2 h3 h4 mm T hT hE => ?_⟩
      rcases Nat.eq_or_lt_of_le h1 with e | e
      · subst e; exact Nat.le_trans (hc1 mm T hT hE) hv2
      · exact hc2 c' e (by omega) h3 h4 mm T hT hE
    · rw [if_neg q]
      obtain ⟨m2, F2, hz2, hv2, hc2⟩ := lpC_ok hn hk hs hw h0 hI hb hIH k (c + 1) z m F hz
      refine ⟨m2, F2, hz2, hv2, fun c' h1 h2 h3 h4 mm T hT hE => ?_⟩
      rcases Nat.eq_or_lt_of_le h1 with e | e
      · subst e; exact absurd ⟨h3, h4⟩ q
      · exact hc2 c' e (by omega) h3 h4 mm T hT hE
theorem lpB_ok {n : Nat} {kd sd : Nat → Int32} (hn : n ≤ 9) (hk : okK n kd) (hs : okS n sd) {Fn : Nat → Nat → Int32 → Int64 → mZ → mZ} {w h : Nat} {P : Nat → Nat} (hw : w < 2 ^ n) (h0 : ¬ w = 0) (hI : Inv n sd w h P) (hIH : ∀ w' h' P', w' < w → w' < 2 ^ n → Inv n sd w' h' P' → FnOk n kd sd Fn w' h' P') : ∀ (k b : Nat) (z : mZ) (m : Nat) (F : Nat → Nat), RZ n kd sd z m F → ∃ m' F', RZ n kd sd (lpB n kd sd Fn w h (nI (rgS n kd sd P h)) (lN (lnN (dgT P h) 9)) k b z) m' F' ∧ wth n kd sd m F ≤ wth n kd sd m' F' ∧ ∀ b' c', b ≤ b' → b' < b + k → b' < c' → c' < n → (othN w).testBit b' = true → (othN w).testBit c' = true → canH n sd (nI (set3 w b' c')) = true → ∀ mm T, Fam n sd mm T → Ext (andn w (set3 w b' c')) (h + 1) (fup P h (set3 w b' c')) mm T → wth n kd sd mm T ≤ wth n kd sd m' F'
  | 0, b, z, m, F, hz => ⟨m, F, hz, Nat.le_refl _, fun b' c' h1 h2 => by omega⟩
  | k + 1, b, z, m, F, hz => by
    rw [lpB_s]
    by_cases q : (othN w).testBit b = true
    · rw [if_pos q]
      obtain ⟨m1, F1, hz1, hv1, hc1⟩ := lpC_ok hn hk hs hw h0 hI q hIH (n - (b + 1)) (b + 1) z m F hz
      obtain ⟨m2, F2, hz2, hv2, hc2⟩ := lpB_ok hn hk hs hw h0 hI hIH k (b + 1) _ m1 F1 hz1
      refine ⟨m2, F2, hz2, Nat.le_trans hv1 hv2, fun b' c' h1 h2 hbc hcn h3 h4 h5 mm T hT hE => ?_⟩
      rcases Nat.eq_or_lt_of_le h1 with e | e
      · subst e; exact Nat.le_trans (hc1 c' (by omega) (by omega) h4 h5 mm T hT hE) hv2
      · exact hc2 b' c' e (by omega) hbc hcn h3 h4 h5 mm T hT hE
    · rw [if_neg q]
      obtain ⟨m2, F2, hz2, hv2, hc2⟩ := lpB_ok hn hk hs hw h0 hI hIH k (b + 1) z m F hz
      refine ⟨m2, F2, hz2, hv2, fun b' c' h1 h2 hbc hcn h3 h4 h5 mm T hT hE => ?_⟩
      rcases Nat.eq_or_lt_of_le h1 with e | e
      · subst e; exact absurd h3 q
      · exact hc2 b' c' e (by omega) hbc hcn h3 h4 h5 mm T hT hE
theorem plc_ok {n : Nat} {kd sd : Nat → Int32} (hn : n ≤ 9) (hk : okK n kd) (hs : okS n sd) : ∀ (d w h : Nat) (P : Nat → Nat), w < d → w < 2 ^ n → Inv n sd w h P → FnOk n kd sd (plc n kd sd d) w h P
  | 0, w, _, _, hwd, _, _ => absurd hwd (Nat.not_lt_zero w)
  | d + 1, w, h, P, hwd, hw, hI => by
    intro z m F hz
    have hb2 := bnd_t hn
    have hw5 : w < 512 := by omega
    have epc : nI h + bcE (nI w) / 3 = nI (h + pcS w 9 / 3) := by
      rw [bc_pc w hw5, show (3 : Int32) = nI 3 from rfl, pk_div (by have := pcS_le w 9; omega) (by decide) (by decide), nI_add]
    have hm3 := fam_3 hn hz.2
    have hp9 := pcS_le w 9
    have h9 := hI.2.2
    rw [plc_s]
    by_cases c : z.1 ≤ nI h + bcE (nI w) / 3
    · rw [if_pos c]
      by_cases hw0 : w = 0
      · rw [if_pos hw0]
        obtain ⟨m', F', a, b, e⟩ := kb_step hn hk hs hz hI.1
        refine ⟨m', F', a, b, fun mm T hT hE => ?_⟩
        have h1 := fam_cnt hn hT hE.1 hE.2.2
        have h2 : pcS w 9 = 0 := by rw [hw0]; decide
        have h3 : mm = h := by have := hE.1; omega
        subst h3
        rw [wth_cg hE.2.1]; exact e
      · rw [if_neg hw0]
        have hol := oth_lt hw0
        obtain ⟨m1, F1, z1, v1, c1⟩ := lpB_ok hn hk hs hw hw0 hI (fun w' h' P' a b c => plc_ok hn hk hs d w' h' P' (by omega) b c) n 0 z m F hz
        obtain ⟨m2, F2, z2, v2, c2⟩ := plc_ok hn hk hs d (othN w) h P (by omega) (by omega) (inv_oth hI) _ m1 F1 z1
        refine ⟨m2, F2, z2, Nat.le_trans v1 v2, fun mm T hT hE => ?_⟩
        rcases ext_split hn hw hw0 hT hE with q | ⟨b, c', h1, h2, h3, h4, h5, h6⟩
        · exact c2 mm T hT q
        · exact Nat.le_trans (c1 b c' (Nat.zero_le _) (by omega) h1 h2 h3 h4 h5 mm T hT h6) v2
    · rw [if_neg c]
      refine ⟨m, F, hz, Nat.le_refl _, fun mm T hT hE => ?_⟩
      have h1 := fam_cnt hn hT hE.1 hE.2.2
      have h4 := hE.1
      have c2 : ¬ m ≤ h + pcS w 9 / 3 := fun q => c (by rw [epc, hz.1]; exact nI_le q (by omega))
      have r1 := rgS_le (T := T) hn hk hs mm
      have mm3 := fam_3 hn hT
      unfold wth
      generalize rgS n kd sd F m = a at *
      generalize rgS n kd sd T mm = b at *
      generalize lnN (dgT F m) 9 = x at *
      generalize lnN (dgT T mm) 9 = y at *
      omega
theorem find_ok {n : Nat} {kd sd : Nat → Int32} (hn : n ≤ 9) (hk : okK n kd) (hs : okS n sd) : ∃ m F, RZ n kd sd (plc n kd sd 512 (2 ^ n - 1) 0 0 41231686041 (0, 0, 41231686041)) m F ∧ ∀ mm T, Fam n sd mm T → wth n kd sd mm T ≤ wth n kd sd m F := by
  have hb2 := bnd_t hn
  have hp : 0 < 2 ^ n := Nat.pow_pos (by decide)
  have hF0 : Fam n sd 0 (fun _ => 0) := ⟨fun i hi => absurd hi (Nat.not_lt_zero i), fun i j _ hj => absurd hj (Nat.not_lt_zero j)⟩
  have e0 : lN (lnN (dgT (fun _ => 0) 0) 9) = 41231686041 := by decide +kernel
  have hz : RZ n kd sd (0, 0, 41231686041) 0 (fun _ => 0) := ⟨by rw [e0]; rfl, hF0⟩
  obtain ⟨m, F, a, b, c⟩ := plc_ok hn hk hs 512 (2 ^ n - 1) 0 (fun _ => 0) (by omega) (by omega) ⟨hF0, fun i hi => absurd hi (Nat.not_lt_zero i), by have := pcS_le (2 ^ n - 1) 9; omega⟩ _ 0 _ hz
  rw [e0] at a
  refine ⟨m, F, a, fun mm T hT => c mm T hT ⟨Nat.zero_le _, fun i hi => absurd hi (Nat.not_lt_zero i), fun i _ hi p hp => ?_⟩⟩
  rw [Nat.testBit_two_pow_sub_one]
  rcases Nat.lt_or_ge p n with q | q
  · exact decide_eq_true q
  · exfalso
    rw [Nat.testBit_lt_two_pow (Nat.lt_of_lt_of_le (hT.1 i hi).1 (Nat.pow_le_pow_right (by decide) q))] at hp
    exact absurd hp (by decide)
