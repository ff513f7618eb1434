/-! the most that can hang: the reference finds the worthiest family too -/
theorem abl_mem (n : Nat) (sd av : Nat → Int32) : ∀ k, k ≤ 512 → ∀ z, z < (ablW n sd av k).2 → aN (ablW n sd av k).1 z < k ∧ canH n sd (nI (aN (ablW n sd av k).1 z)) = true
  | 0, _, z, h => absurd h (Nat.not_lt_zero z)
  | k + 1, hk, z, h => by
    have ih := abl_mem n sd av k (by omega)
    rw [ablW_s] at h ⊢
    by_cases c : canH n sd (nI k) = true
    · rw [if_pos c] at h ⊢
      by_cases e : z = (ablW n sd av k).2
      · have e2 : aN (upd (ablW n sd av k).1 (ablW n sd av k).2 (nI k)) z = k := by unfold aN upd; rw [if_pos e, nI_clamp (by omega)]
        show aN (upd (ablW n sd av k).1 (ablW n sd av k).2 (nI k)) z < k + 1 ∧ canH n sd (nI (aN (upd (ablW n sd av k).1 (ablW n sd av k).2 (nI k)) z)) = true
        rw [e2]; exact ⟨Nat.lt_succ_self k, c⟩
      · have e2 : aN (upd (ablW n sd av k).1 (ablW n sd av k).2 (nI k)) z = aN (ablW n sd av k).1 z := by unfold aN upd; rw [if_neg e]
        have h2 : z < (ablW n sd av k).2 + 1 := h
        have h3 := ih z (by omega)
        show aN (upd (ablW n sd av k).1 (ablW n sd av k).2 (nI k)) z < k + 1 ∧ canH n sd (nI (aN (upd (ablW n sd av k).1 (ablW n sd av k).2 (nI k)) z)) = true
        rw [e2]; exact ⟨by omega, h3.2⟩
    · rw [if_neg c] at h ⊢
      have h3 := ih z h
      exact ⟨by omega, h3.2⟩
theorem abl_all (n : Nat) (sd av : Nat → Int32) : ∀ k, k ≤ 512 → ∀ s, s < k → canH n sd (nI s) = true → ∃ z, z < (ablW n sd av k).2 ∧ aN (ablW n sd av k).1 z = s
  | 0, _, s, h, _ => absurd h (Nat.not_lt_zero s)
  | k + 1, hk, s, h, hs => by
    have ih := abl_all n sd av k (by omega)
    rw [ablW_s]
    by_cases c : canH n sd (nI k) = true
    · rw [if_pos c]
      by_cases e : s = k
      · refine ⟨(ablW n sd av k).2, Nat.lt_succ_self _, ?_⟩
        show aN (upd (ablW n sd av k).1 (ablW n sd av k).2 (nI k)) (ablW n sd av k).2 = s
        unfold aN upd
        rw [if_pos rfl, nI_clamp (by omega), e]
      · obtain ⟨z, hz, ez⟩ := ih s (by omega) hs
        refine ⟨z, Nat.lt_succ_of_lt hz, ?_⟩
        show aN (upd (ablW n sd av k).1 (ablW n sd av k).2 (nI k)) z = s
        rw [← ez]
        unfold aN upd
        rw [if_neg (show ¬ z = (ablW n sd av k).2 by omega)]
    · rw [if_neg c]
      rcases Nat.eq_or_lt_of_le (Nat.le_of_lt_succ h) with e | e
      · rw [e] at hs; exact absurd hs c
      · exact ih s e hs
abbrev cut0 (m : Nat) (F : Nat → Nat) (i : Nat) : Nat := if i < m then F i else 0
def RT (n : Nat) (kd sd : Nat → Int32) (T : tZ) (m : Nat) (F : Nat → Nat) : Prop := T.1 = nI m ∧ T.2.1 = nI (rgS n kd sd F m) ∧ (∀ i, i < 3 → T.2.2 i = nI (cut0 m F i)) ∧ Fam n sd m F
theorem fam_ne {n : Nat} {sd : Nat → Int32} {m : Nat} {F : Nat → Nat} (hn : n ≤ 9) (hF : Fam n sd m F) {i : Nat} (hi : i < m) : ¬ F i = 0 ∧ F i < 512 := by
  have hb := bnd_t hn
  have h := hF.1 i hi
  exact ⟨bc_0 _ (by omega) (canH_3 h.2), by omega⟩
theorem one_cut {n : Nat} {sd : Nat → Int32} {m : Nat} {F : Nat → Nat} (hn : n ≤ 9) (hF : Fam n sd m F) (i : Nat) : one0 (nI (cut0 m F i)) = nI (if i < m then 1 else 0) := by
  unfold one0 cut0
  by_cases c : i < m
  · have h := fam_ne hn hF c
    rw [if_pos c, if_pos c, if_neg (fun q => h.1 ((nI_zero (by omega)).mp q))]; rfl
  · rw [if_neg c, if_neg c, if_pos (show nI 0 = 0 from rfl)]; rfl
theorem m_4 {m : Nat} (h : m ≤ 3) : m = 0 ∨ m = 1 ∨ m = 2 ∨ m = 3 := by omega
theorem mny_fam {n : Nat} {sd : Nat → Int32} {m : Nat} {F : Nat → Nat} (hn : n ≤ 9) (hF : Fam n sd m F) : mny (nI (cut0 m F 0)) (nI (cut0 m F 1)) (nI (cut0 m F 2)) = nI m := by
  unfold mny
  rw [one_cut hn hF, one_cut hn hF, one_cut hn hF, nI_add, nI_add]
  rcases m_4 (fam_3 hn hF) with e | e | e | e <;> subst e <;> rfl
theorem sum_z (f : Nat → Int32) : ∀ k, sumW f (nI 0) k = 0
  | 0 => rfl
  | k + 1 => by
    show (if bt (nI 0) k = true then sumW f (nI 0) k + f k else sumW f (nI 0) k) = 0
    rw [show bt (nI 0) k = false from b_0 k]; exact sum_z f k
theorem rg_0 {n : Nat} {kd sd : Nat → Int32} : rgN n kd sd 0 = 0 := by unfold rgN; rw [sum_z]; rfl
theorem lou_fam {n : Nat} {kd sd : Nat → Int32} {m : Nat} {F : Nat → Nat} (hn : n ≤ 9) (hk : okK n kd) (hs : okS n sd) (hF : Fam n sd m F) : lou n kd sd (nI (cut0 m F 0)) (nI (cut0 m F 1)) (nI (cut0 m F 2)) = nI (rgS n kd sd F m) := by
  unfold lou
  rw [(rg_nI hn hk hs _).1, (rg_nI hn hk hs _).1, (rg_nI hn hk hs _).1, nI_add, nI_add]
  refine congrArg nI ?_
  rcases m_4 (fam_3 hn hF) with e | e | e | e <;> subst e <;> simp [cut0, rgS, rg_0]
theorem pl_dg {n : Nat} {sd : Nat → Int32} {m : Nat} {F : Nat → Nat} (hn : n ≤ 9) (hF : Fam n sd m F) {p : Nat} (hp : p < 9) : plI (nI (cut0 m F 0)) (nI (cut0 m F 1)) (nI (cut0 m F 2)) p = nI (dgT F m p) := by
  unfold plI
  rw [bt_nI (by omega), bt_nI (by omega), bt_nI (by omega)]
  have hd : ∀ i j, i < j → j < m → (F i).testBit p = true → (F j).testBit p = false := fun i j h1 h2 h3 => (hF.2 i j h1 h2).1 p h3
  rcases m_4 (fam_3 hn hF) with e | e | e | e <;> subst e
  · simp only [cut0, dgT, Nat.zero_testBit, if_false, Nat.not_lt_zero, Bool.false_eq_true]; rfl
  · simp only [cut0, dgT, Nat.zero_testBit, Nat.lt_irrefl, if_false, if_true, Nat.zero_lt_one, Nat.not_lt_zero, show ¬ (1 : Nat) < 1 by omega, show ¬ (2 : Nat) < 1 by omega, Bool.false_eq_true]
    by_cases c : (F 0).testBit p = true
    · rw [if_pos c, if_pos c]; rfl
    · rw [if_neg c, if_neg c]; rfl
  · have d01 := hd 0 1 (by omega) (by omega)
    simp only [cut0, dgT, Nat.zero_testBit, if_false, if_true, show (0 : Nat) < 2 by omega, show (1 : Nat) < 2 by omega, show ¬ (2 : Nat) < 2 by omega, Bool.false_eq_true]
    by_cases c : (F 0).testBit p = true
    · rw [if_pos c, d01 c, if_neg (by decide), if_pos c]; rfl
    · rw [if_neg c, if_neg c]
      by_cases c1 : (F 1).testBit p = true
      · rw [if_pos c1, if_pos c1]; rfl
      · rw [if_neg c1, if_neg c1]; rfl
  · have d01 := hd 0 1 (by omega) (by omega)
    have d02 := hd 0 2 (by omega) (by omega)
    have d12 := hd 1 2 (by omega) (by omega)
    simp only [cut0, dgT, if_true, show (0 : Nat) < 3 by omega, show (1 : Nat) < 3 by omega, show (2 : Nat) < 3 by omega]
    by_cases c : (F 0).testBit p = true
    · rw [if_pos c, d02 c, if_neg (by decide), d01 c, if_neg (by decide), if_pos c]; rfl
    · rw [if_neg c, if_neg c]
      by_cases c1 : (F 1).testBit p = true
      · rw [if_pos c1, d12 c1, if_neg (by decide), if_pos c1]; rfl
      · rw [if_neg c1, if_neg c1]
        by_cases c2 : (F 2).testBit p = true
        · rw [if_pos c2, if_pos c2]; rfl
        · rw [if_neg c2, if_neg c2]; rfl
theorem ah_ln {n : Nat} {D E : Nat → Nat} {a b c x y w : Int32} (hn : n ≤ 9) (hD : ∀ p, p < 9 → plI x y w p = nI (D p)) (hE : ∀ p, p < 9 → plI a b c p = nI (E p)) (bD : ∀ p, D p ≤ 9) (bE : ∀ p, E p ≤ 9) (hi : ∀ p, n ≤ p → D p = E p) : ∀ k p, p + k = n → (ahW a b c x y w k p = true ↔ lnN E (9 - p) < lnN D (9 - p))
  | 0, p, hp => by
    rw [lnN_cg (D := E) (E := D) (9 - p) (by omega) (fun q h1 h2 => (hi q (by omega)).symm)]
    exact ⟨fun h => absurd h (by unfold ahW; decide), fun h => absurd h (Nat.lt_irrefl _)⟩
  | k + 1, p, hp => by
    have ih := ah_ln hn hD hE bD bE hi k (p + 1) (by omega)
    have e1 : 9 - p = (9 - (p + 1)) + 1 := by omega
    have e2 : 8 - (9 - (p + 1)) = p := by omega
    unfold ahW
    rw [hD p (by omega), hE p (by omega), e1]
    show _ ↔ E (8 - (9 - (p + 1))) * 16 ^ (9 - (p + 1)) + lnN E (9 - (p + 1)) < D (8 - (9 - (p + 1))) * 16 ^ (9 - (p + 1)) + lnN D (9 - (p + 1))
    rw [e2]
    have b1 := bD p
    have b2 := bE p
    by_cases e : E p = D p
    · rw [if_pos (by rw [e]), ih, e]
      constructor
      · intro h; omega
      · intro h; omega
    · rw [if_neg (fun q => e ((nI_eq (by omega) (by omega)).mp q)), decide_eq_true_iff, nI_leI (by omega) (by omega)]
      have t1 := lnN_lt bE (9 - (p + 1))
      have t2 := lnN_lt bD (9 - (p + 1))
      generalize 16 ^ (9 - (p + 1)) = X at *
      generalize lnN E (9 - (p + 1)) = le at *
      generalize lnN D (9 - (p + 1)) = ld at *
      constructor
      · intro h
        have h2 := Nat.mul_le_mul_right X (show E p + 1 ≤ D p by omega)
        rw [Nat.add_mul, Nat.one_mul] at h2
        omega
      · intro h h2
        have h3 := Nat.mul_le_mul_right X (show D p + 1 ≤ E p by omega)
        rw [Nat.add_mul, Nat.one_mul] at h3
        omega
theorem tt_step {n : Nat} {kd sd : Nat → Int32} (hn : n ≤ 9) (hk : okK n kd) (hs : okS n sd) {T : tZ} {m : Nat} {F : Nat → Nat} {h : Nat} {P : Nat → Nat} {a b c : Int32} (hz : RT n kd sd T m F) (hP : Fam n sd h P) (ha : a = nI (cut0 h P 0)) (hb : b = nI (cut0 h P 1)) (hc : c = nI (cut0 h P 2)) : ∃ m' F', RT n kd sd (ttZ n kd sd T a b c) m' F' ∧ wth n kd sd m F ≤ wth n kd sd m' F' ∧ wth n kd sd h P ≤ wth n kd sd m' F' := by
  obtain ⟨t1, t2, t3, hF⟩ := hz
  have m3 := fam_3 hn hF
  have h3 := fam_3 hn hP
  have r1 := rgS_le (T := F) hn hk hs m
  have r2 := rgS_le (T := P) hn hk hs h
  have l1 := ln_36 (T := F) m3
  have l2 := ln_36 (T := P) h3
  have e1 : mny a b c = nI h := by rw [ha, hb, hc]; exact mny_fam hn hP
  have e2 : lou n kd sd a b c = nI (rgS n kd sd P h) := by rw [ha, hb, hc]; exact lou_fam hn hk hs hP
  have out : ∀ (k : Nat) (G : Nat → Nat), Fam n sd k G → ∀ p, n ≤ p → dgT G k p = 9 := fun k G hG p hp => dg_9 k (fun i hi => Nat.testBit_lt_two_pow (Nat.lt_of_lt_of_le (hG.1 i hi).1 (Nat.pow_le_pow_right (by decide) hp)))
  have e3 : ahW a b c (T.2.2 0) (T.2.2 1) (T.2.2 2) n 0 = true ↔ lnN (dgT P h) 9 < lnN (dgT F m) 9 := by
    have := ah_ln (n := n) (D := dgT F m) (E := dgT P h) (a := a) (b := b) (c := c) (x := T.2.2 0) (y := T.2.2 1) (w := T.2.2 2) hn (fun p hp => by rw [t3 0 (by omega), t3 1 (by omega), t3 2 (by omega)]; exact pl_dg hn hF hp) (fun p hp => by rw [ha, hb, hc]; exact pl_dg hn hP hp) (fun p => dgT_le m (by omega)) (fun p => dgT_le h (by omega)) (fun p hp => by rw [out m F hF p hp, out h P hP p hp]) n 0 (by omega)
    exact this
  have key : ttB n kd sd T a b c = true ↔ m < h ∨ (h = m ∧ (rgS n kd sd F m < rgS n kd sd P h ∨ (rgS n kd sd P h = rgS n kd sd F m ∧ lnN (dgT P h) 9 < lnN (dgT F m) 9))) := by
    unfold ttB
    rw [Bool.or_eq_true, Bool.and_eq_true, Bool.or_eq_true, Bool.and_eq_true, decide_eq_true_iff, decide_eq_true_iff, decide_eq_true_iff, decide_eq_true_iff, e3, e1, e2, t1, t2, nI_ltI (by omega) (by omega), nI_eq (by omega) (by omega), nI_ltI (by omega) (by omega), nI_eq (by omega) (by omega)]
  unfold ttZ
  by_cases q : ttB n kd sd T a b c = true
  · rw [if_pos q]
    have k := key.mp q
    refine ⟨h, P, ⟨e1, e2, fun i hi => ?_, hP⟩, ?_, Nat.le_refl _⟩
    · show upd (upd (upd T.2.2 0 a) 1 b) 2 c i = _
      rcases (show i = 0 ∨ i = 1 ∨ i = 2 by omega) with e | e | e <;> subst e
      · exact ha
      · exact hb
      · exact hc
    · unfold wth
      generalize rgS n kd sd F m = u at *
      generalize rgS n kd sd P h = v at *
      generalize lnN (dgT F m) 9 = x at *
      generalize lnN (dgT P h) 9 = y at *
      omega
  · rw [if_neg q]
    have k : ¬ (m < h ∨ (h = m ∧ (rgS n kd sd F m < rgS n kd sd P h ∨ (rgS n kd sd P h = rgS n kd sd F m ∧ lnN (dgT P h) 9 < lnN (dgT F m) 9)))) := fun z => q (key.mpr z)
    refine ⟨m, F, ⟨t1, t2, t3, hF⟩, Nat.le_refl _, ?_⟩
    unfold wth
    generalize rgS n kd sd F m = u at *
    generalize rgS n kd sd P h = v at *
    generalize lnN (dgT F m) 9 = x at *
    generalize lnN (dgT P h) 9 = y at *
    omega
def tri (a b c : Nat) : Nat → Nat := fun i => if i = 0 then a else if i = 1 then b else c
def Abl (n : Nat) (sd : Nat → Int32) (s : Nat) : Prop := s < 2 ^ n ∧ canH n sd (nI s) = true
theorem tri_1 {n : Nat} {sd : Nat → Int32} {a : Nat} (ha : Abl n sd a) (b c : Nat) : Fam n sd 1 (tri a b c) := ⟨fun i hi => by
  have e : i = 0 := by omega
  subst e; exact ha, fun i j h1 h2 => by omega⟩
theorem bh_iff {a b : Nat} : bhB a b = true ↔ dsj a b ∧ lowI a < lowI b := by
  unfold bhB
  rw [Bool.and_eq_true, decide_eq_true_iff, decide_eq_true_iff, dsj_iff]
theorem tri_2 {n : Nat} {sd : Nat → Int32} {a b : Nat} (ha : Abl n sd a) (hb : Abl n sd b) (h : bhB a b = true) (c : Nat) : Fam n sd 2 (tri a b c) := ⟨fun i hi => by
  rcases (show i = 0 ∨ i = 1 by omega) with e | e <;> subst e
  · exact ha
  · exact hb, fun i j h1 h2 => by
  have e : i = 0 := by omega
  have e2 : j = 1 := by omega
  subst e; subst e2; exact bh_iff.mp h⟩
theorem tri_3 {n : Nat} {sd : Nat → Int32} {a b c : Nat} (ha : Abl n sd a) (hb : Abl n sd b) (hc : Abl n sd c) (h : bhB a b = true) (h2 : bhB b c = true) (h3 : a &&& c = 0) : Fam n sd 3 (tri a b c) := ⟨fun i hi => by
  rcases (show i = 0 ∨ i = 1 ∨ i = 2 by omega) with e | e | e <;> subst e
  · exact ha
  · exact hb
  · exact hc, fun i j h1 hj => by
  have q1 := bh_iff.mp h
  have q2 := bh_iff.mp h2
  rcases (show (i = 0 ∧ j = 1) ∨ (i = 0 ∧ j = 2) ∨ (i = 1 ∧ j = 2) by omega) with ⟨e, e2⟩ | ⟨e, e2⟩ | ⟨e, e2⟩ <;> subst e <;> subst e2
  · exact q1
  · exact ⟨dsj_iff.mp h3, Nat.lt_trans q1.2 q2.2⟩
  · exact q2⟩
theorem th_ok {n : Nat} {kd sd av : Nat → Int32} {am a b : Nat} (hn : n ≤ 9) (hk : okK n kd) (hs : okS n sd) (hav : ∀ z, z < am → Abl n sd (aN av z)) (ha : Abl n sd a) (hb : Abl n sd b) (hab : bhB a b = true) : ∀ (k z : Nat) (T : tZ) (m : Nat) (F : Nat → Nat), z + k ≤ am → RT n kd sd T m F → ∃ m' F', RT n kd sd (thW n kd sd av a b k z T) m' F' ∧ wth n kd sd m F ≤ wth n kd sd m' F' ∧ ∀ z', z ≤ z' → z' < z + k → a &&& aN av z' = 0 → bhB b (aN av z') = true → wth n kd sd 3 (tri a b (aN av z')) ≤ wth n kd sd m' F'
  | 0, z, T, m, F, _, hz => ⟨m, F, hz, Nat.le_refl _, fun z' h1 h2 => by omega⟩
  | k + 1, z, T, m, F, hzk, hz => by
    rw [thW_s]
    by_cases q : a &&& aN av z = 0 ∧ bhB b (aN av z) = true
    · rw [if_pos q]
      obtain ⟨m1, F1, hz1, hv1, hc1⟩ := tt_step (a := nI a) (b := nI b) (c := nI (aN av z)) hn hk hs hz (tri_3 ha hb (hav z (by omega)) hab q.2 q.1) rfl rfl rfl
      obtain ⟨m2, F2, hz2, hv2, hc2⟩ := th_ok hn hk hs hav ha hb hab k (z + 1) _ m1 F1 (by omega) hz1
      refine ⟨m2, F2, hz2, Nat.le_trans hv1 hv2, fun z' h1 h2 h3 h4 => ?_⟩
      rcases Nat.eq_or_lt_of_le h1 with e | e
      · subst e; exact Nat.le_trans hc1 hv2
      · exact hc2 z' e (by omega) h3 h4
    · rw [if_neg q]
      obtain ⟨m2, F2, hz2, hv2, hc2⟩ := th_ok hn hk hs hav ha hb hab k (z + 1) T m F (by omega) hz
      refine ⟨m2, F2, hz2, hv2, fun z' h1 h2 h3 h4 => ?_⟩
      rcases Nat.eq_or_lt_of_le h1 with e | e
      · subst e; exact absurd ⟨h3, h4⟩ q
      · exact hc2 z' e (by omega) h3 h4
theorem yy_ok {n : Nat} {kd sd av : Nat → Int32} {am x : Nat} (hn : n ≤ 9) (hk : okK n kd) (hs : okS n sd) (hav : ∀ z, z < am → Abl n sd (aN av z)) (hx : x < am) : ∀ (k y : Nat) (T : tZ) (m : Nat) (F : Nat → Nat), y + k ≤ am → RT n kd sd T m F → ∃ m' F', RT n kd sd (yyW n kd sd av am x k y T) m' F' ∧ wth n kd sd m F ≤ wth n kd sd m' F' ∧ ∀ y', y ≤ y' → y' < y + k → bhB (aN av x) (aN av y') = true → (∀ c, wth n kd sd 2 (tri (aN av x) (aN av y') c) ≤ wth n kd sd m' F') ∧ ∀ z', z' < am → aN av x &&& aN av z' = 0 → bhB (aN av y') (aN av z') = true → wth n kd sd 3 (tri (aN av x) (aN av y') (aN av z')) ≤ wth n kd sd m' F'
  | 0, y, T, m, F, _, hz => ⟨m, F, hz, Nat.le_refl _, fun y' h1 h2 => by omega⟩
  | k + 1, y, T, m, F, hyk, hz => by
    rw [yyW_s]
    by_cases q : bhB (aN av x) (aN av y) = true
    · rw [if_pos q]
      have hA := hav x hx
      have hB := hav y (by omega)
      obtain ⟨m0, F0, hz0, hv0, hc0⟩ := tt_step (a := nI (aN av x)) (b := nI (aN av y)) (c := 0) hn hk hs hz (tri_2 hA hB q 0) rfl rfl rfl
      obtain ⟨m1, F1, hz1, hv1, hc1⟩ := th_ok hn hk hs hav hA hB q am 0 _ m0 F0 (by omega) hz0
      obtain ⟨m2, F2, hz2, hv2, hc2⟩ := yy_ok hn hk hs hav hx k (y + 1) _ m1 F1 (by omega) hz1
      refine ⟨m2, F2, hz2, Nat.le_trans hv0 (Nat.le_trans hv1 hv2), fun y' h1 h2 h3 => ?_⟩
      rcases Nat.eq_or_lt_of_le h1 with e | e
      · subst e
        refine ⟨fun c => ?_, fun z' g1 g2 g3 => Nat.le_trans (hc1 z' (Nat.zero_le _) (by omega) g2 g3) hv2⟩
        rw [wth_cg (S := tri (aN av x) (aN av y) 0) (fun i hi => by
          rcases (show i = 0 ∨ i = 1 by omega) with e | e <;> subst e <;> rfl)]
        exact Nat.le_trans hc0 (Nat.le_trans hv1 hv2)
      · exact hc2 y' e (by omega) h3
    · rw [if_neg q]
      obtain ⟨m2, F2, hz2, hv2, hc2⟩ := yy_ok hn hk hs hav hx k (y + 1) T m F (by omega) hz
      refine ⟨m2, F2, hz2, hv2, fun y' h1 h2 h3 => ?_⟩
      rcases Nat.eq_or_lt_of_le h1 with e | e
      · subst e; exact absurd h3 q
      · exact hc2 y' e (by omega) h3
theorem xx_ok {n : Nat} {kd sd av : Nat → Int32} {am : Nat} (hn : n ≤ 9) (hk : okK n kd) (hs : okS n sd) (hav : ∀ z, z < am → Abl n sd (aN av z)) : ∀ (k x : Nat) (T : tZ) (m : Nat) (F : Nat → Nat), x + k ≤ am → RT n kd sd T m F → ∃ m' F', RT n kd sd (xxW n kd sd av am k x T) m' F' ∧ wth n kd sd m F ≤ wth n kd sd m' F' ∧ ∀ x', x ≤ x' → x' < x + k → (∀ b c, wth n kd sd 1 (tri (aN av x') b c) ≤ wth n kd sd m' F') ∧ ∀ y', y' < am → bhB (aN av x') (aN av y') = true → (∀ c, wth n kd sd 2 (tri (aN av x') (aN av y') c) ≤ wth n kd sd m' F') ∧ ∀ z', z' < am → aN av x' &&& aN av z' = 0 → bhB (aN av y') (aN av z') = true → wth n kd sd 3 (tri (aN av x') (aN av y') (aN av z')) ≤ wth n kd sd m' F'
  | 0, x, T, m, F, _, hz => ⟨m, F, hz, Nat.le_refl _, fun x' h1 h2 => by omega⟩
  | k + 1, x, T, m, F, hxk, hz => by
    rw [xxW_s]
    have hA := hav x (by omega)
    obtain ⟨m0, F0, hz0, hv0, hc0⟩ := tt_step (a := nI (aN av x)) (b := 0) (c := 0) hn hk hs hz (tri_1 hA 0 0) rfl rfl rfl
    obtain ⟨m1, F1, hz1, hv1, hc1⟩ := yy_ok (x := x) hn hk hs hav (by omega) am 0 _ m0 F0 (by omega) hz0
    obtain ⟨m2, F2, hz2, hv2, hc2⟩ := xx_ok hn hk hs hav k (x + 1) _ m1 F1 (by omega) hz1
    refine ⟨m2, F2, hz2, Nat.le_trans hv0 (Nat.le_trans hv1 hv2), fun x' h1 h2 => ?_⟩
    rcases Nat.eq_or_lt_of_le h1 with e | e
    · subst e
      refine ⟨fun b c => ?_, fun y' g1 g2 => ?_⟩
      · rw [wth_cg (S := tri (aN av x) 0 0) (fun i hi => by
          have e : i = 0 := by omega
          subst e; rfl)]
        exact Nat.le_trans hc0 (Nat.le_trans hv1 hv2)
      · have g := hc1 y' (Nat.zero_le _) (by omega) g2
        exact ⟨fun c => Nat.le_trans (g.1 c) hv2, fun z' a1 a2 a3 => Nat.le_trans (g.2 z' a1 a2 a3) hv2⟩
    · exact hc2 x' e (by omega)
theorem tri_cg {n : Nat} {kd sd : Nat → Int32} {m : Nat} {T : Nat → Nat} (h : m ≤ 3) : wth n kd sd m T = wth n kd sd m (tri (T 0) (T 1) (T 2)) := wth_cg (fun i hi => by
  rcases (show i = 0 ∨ i = 1 ∨ i = 2 by omega) with e | e | e <;> subst e <;> rfl)
theorem fm_ok {n : Nat} {kd sd : Nat → Int32} (hn : n ≤ 9) (hk : okK n kd) (hs : okS n sd) (av : Nat → Int32) (br : Int32) (bv : Nat → Int32) : ∃ m F, RT n kd sd (fmZ n kd sd av br bv) m F ∧ ∀ mm T, Fam n sd mm T → wth n kd sd mm T ≤ wth n kd sd m F := by
  have hb2 := bnd_t hn
  have hmem := abl_mem n sd av (2 ^ n) (by omega)
  have hall := abl_all n sd av (2 ^ n) (by omega)
  unfold fmZ
  generalize (ablW n sd av (2 ^ n)).1 = aw at *
  generalize (ablW n sd av (2 ^ n)).2 = am at *
  have hF0 : Fam n sd 0 (fun _ => 0) := ⟨fun i hi => absurd hi (Nat.not_lt_zero i), fun i j _ hj => absurd hj (Nat.not_lt_zero j)⟩
  have hT0 : RT n kd sd (ttZ n kd sd (-9, br, upd (upd (upd bv 0 0) 1 0) 2 0) 0 0 0) 0 (fun _ => 0) := by
    have q : ttB n kd sd (-9, br, upd (upd (upd bv 0 0) 1 0) 2 0) 0 0 0 = true := by
      unfold ttB
      rw [show mny 0 0 0 = 0 from rfl, show decide (((-9, br, upd (upd (upd bv 0 0) 1 0) 2 0) : tZ).1 < 0) = true from (by decide : decide ((-9 : Int32) < 0) = true)]; rfl
    unfold ttZ
    rw [if_pos q]
    refine ⟨rfl, ?_, fun i hi => ?_, hF0⟩
    · show lou n kd sd (nI 0) (nI 0) (nI 0) = _
      unfold lou; rw [sum_z]; rfl
    · rcases (show i = 0 ∨ i = 1 ∨ i = 2 by omega) with e | e | e <;> subst e <;> rfl
  obtain ⟨m, F, hz, hv, hc⟩ := xx_ok hn hk hs (fun z hz => hmem z hz) am 0 _ 0 _ (by omega) hT0
  refine ⟨m, F, hz, fun mm T hT => ?_⟩
  have h3 := fam_3 hn hT
  have hab : ∀ i, i < mm → ∃ z, z < am ∧ aN aw z = T i := fun i hi => hall (T i) (hT.1 i hi).1 (hT.1 i hi).2
  rcases m_4 h3 with e | e | e | e <;> subst e
  · rw [wth_cg (T := T) (S := fun _ => 0) (fun i hi => absurd hi (Nat.not_lt_zero i))]; exact hv
  · obtain ⟨x, hx, ex⟩ := hab 0 (by omega)
    rw [tri_cg (by omega), ← ex]
    exact (hc x (Nat.zero_le _) (by omega)).1 _ _
  · obtain ⟨x, hx, ex⟩ := hab 0 (by omega)
    obtain ⟨y, hy, ey⟩ := hab 1 (by omega)
    have h01 := hT.2 0 1 (by omega) (by omega)
    rw [← ex, ← ey] at h01
    rw [tri_cg (by omega), ← ex, ← ey]
    exact ((hc x (Nat.zero_le _) (by omega)).2 y hy (bh_iff.mpr h01)).1 _
  · obtain ⟨x, hx, ex⟩ := hab 0 (by omega)
    obtain ⟨y, hy, ey⟩ := hab 1 (by omega)
    obtain ⟨z, hz2, ez⟩ := hab 2 (by omega)
    have h01 := hT.2 0 1 (by omega) (by omega)
    have h02 := hT.2 0 2 (by omega) (by omega)
    have h12 := hT.2 1 2 (by omega) (by omega)
    rw [← ex, ← ey] at h01
    rw [← ex, ← ez] at h02
    rw [← ey, ← ez] at h12
    rw [tri_cg (by omega), ← ex, ← ey, ← ez]
    exact ((hc x (Nat.zero_le _) (by omega)).2 y hy (bh_iff.mpr h01)).2 z hz2 (dsj_iff.mpr h02.1) (bh_iff.mpr h12)
theorem sh_amt : ∀ j, j < 9 → (((plO (nI j)).toInt64 &&& 63).toBitVec.smod 64).toNat = 4 * (8 - j) := by decide +kernel
theorem shr_lN {a d : Nat} {D : Int64} (hD : (D.toBitVec.smod 64).toNat = d) (h : a < 2 ^ 62) : lN a >>> D = lN (a / 2 ^ d) := by
  have hd : a / 2 ^ d ≤ a := Nat.div_le_self _ _
  apply Int64.toInt_inj.mp
  have e : (lN a >>> D).toInt = (lN a).toInt >>> d := by
    rw [← hD]
    exact BitVec.toInt_sshiftRight ..
  rw [e, Int.shiftRight_eq_div_pow, pk_lT (by omega), pk_lT (by omega)]
  norm_cast
theorem ln_dig {D : Nat → Nat} (h : ∀ p, D p ≤ 9) {j : Nat} (hj : j < 9) : lnN D 9 / 2 ^ (4 * (8 - j)) % 16 = D j := by
  have h0 := h 0; have h1 := h 1; have h2 := h 2; have h3 := h 3; have h4 := h 4; have h5 := h 5; have h6 := h 6; have h7 := h 7; have h8 := h 8
  rcases (show j = 0 ∨ j = 1 ∨ j = 2 ∨ j = 3 ∨ j = 4 ∨ j = 5 ∨ j = 6 ∨ j = 7 ∨ j = 8 by omega) with rfl | rfl | rfl | rfl | rfl | rfl | rfl | rfl | rfl <;> simp [lnN] <;> omega
theorem mr_dig {D : Nat → Nat} (h : ∀ p, D p ≤ 9) {j : Nat} (hj : j < 9) : mrT (lN (lnN D 9)) j = (if D j = 9 then -9 else nI (D j)) := by
  have hl := lnN_lt h 9
  have e16 : (16 : Nat) ^ 9 = 2 ^ 36 := by decide
  have hd := h j
  have e : ((lN (lnN D 9)) >>> ((plO (nI j)).toInt64 &&& 63)).toInt32 &&& 15 = nI (D j) := by
    rw [shr_lN (sh_amt j hj) (by omega), lN_i, show (15 : Int32) = nI 15 from rfl, and_nI, show (15 : Nat) = 2 ^ 4 - 1 from rfl, Nat.and_two_pow_sub_one_eq_mod, show (2 : Nat) ^ 4 = 16 from rfl, ln_dig h hj]
  unfold mrT
  rw [e]
  by_cases c : D j = 9
  · rw [if_pos c, if_pos (by rw [c]; rfl)]
  · rw [if_neg c, if_neg (show ¬ nI (D j) = 9 from fun q => c ((nI_eq (b := 9) (by omega) (by decide)).mp q))]
theorem most_same {n : Nat} {kd sd : Nat → Int32} (hn : n ≤ 9) (hk : okK n kd) (hs : okS n sd) (av : Nat → Int32) (br : Int32) (bv : Nat → Int32) : (plc n kd sd 512 (2 ^ n - 1) 0 0 41231686041 (0, 0, 41231686041)).1 = (fmZ n kd sd av br bv).1 ∧ (plc n kd sd 512 (2 ^ n - 1) 0 0 41231686041 (0, 0, 41231686041)).2.1 = (fmZ n kd sd av br bv).2.1 ∧ ∀ j, j < 9 → mrT (plc n kd sd 512 (2 ^ n - 1) 0 0 41231686041 (0, 0, 41231686041)).2.2 j = (if plI ((fmZ n kd sd av br bv).2.2 0) ((fmZ n kd sd av br bv).2.2 1) ((fmZ n kd sd av br bv).2.2 2) j = 9 then -9 else plI ((fmZ n kd sd av br bv).2.2 0) ((fmZ n kd sd av br bv).2.2 1) ((fmZ n kd sd av br bv).2.2 2) j) := by
  obtain ⟨m, F, hz, hmax⟩ := find_ok hn hk hs
  obtain ⟨m', F', hz', hmax'⟩ := fm_ok hn hk hs av br bv
  have w1 := hmax m' F' hz'.2.2.2
  have w2 := hmax' m F hz.2
  have m3 := fam_3 hn hz.2
  have m3' := fam_3 hn hz'.2.2.2
  have r1 := rgS_le (T := F) hn hk hs m
  have r2 := rgS_le (T := F') hn hk hs m'
  have l1 := ln_36 (T := F) m3
  have l2 := ln_36 (T := F') m3'
  have key : m = m' ∧ rgS n kd sd F m = rgS n kd sd F' m' ∧ lnN (dgT F m) 9 = lnN (dgT F' m') 9 := by
    unfold wth at w1 w2
    clear hmax hmax' hz hz'
    generalize rgS n kd sd F m = u at *
    generalize rgS n kd sd F' m' = v at *
    generalize lnN (dgT F m) 9 = x at *
    generalize lnN (dgT F' m') 9 = y at *
    omega
  obtain ⟨k1, k2, k3⟩ := key
  rw [hz.1]
  refine ⟨?_, ?_, fun j hj => ?_⟩
  · rw [hz'.1, k1]
  · rw [hz'.2.1, ← k2]
  · show mrT (lN (lnN (dgT F m) 9)) j = _
    have e : plI ((fmZ n kd sd av br bv).2.2 0) ((fmZ n kd sd av br bv).2.2 1) ((fmZ n kd sd av br bv).2.2 2) j = nI (dgT F' m' j) := by
      rw [hz'.2.2.1 0 (by omega), hz'.2.2.1 1 (by omega), hz'.2.2.1 2 (by omega)]; exact pl_dg hn hz'.2.2.2 hj
    have hd := dgT_le (T := F') (p := j) m' (by omega)
    rw [e, k3, mr_dig (fun p => dgT_le m' (by omega)) hj]
    by_cases c : dgT F' m' j = 9
    · rw [if_pos c, if_pos (by rw [c]; rfl)]
    · rw [if_neg c, if_neg (show ¬ nI (dgT F' m' j) = 9 from fun q => c ((nI_eq (b := 9) (by omega) (by decide)).mp q))]
