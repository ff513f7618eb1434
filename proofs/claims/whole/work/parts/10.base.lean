/-! rows on bits, shifts and unsigned numbers, to paste: each family out of a closed proof of our own, whole with what it rests on; each by itself clean at Lean in its own claim (generation 39, form 5). Take a family whole -/
/-! ===== Int32 by its bits: bt x i ===== -/
def bt (x : Int32) (i : Nat) : Bool := x.toBitVec.getLsbD i
theorem b_ext {x y : Int32} (h : ∀ i, i < 32 → bt x i = bt y i) : x = y := Int32.toBitVec_inj.mp (BitVec.eq_of_getLsbD_eq (fun i hi => h i hi))
theorem b_or (x y : Int32) (i : Nat) : bt (x ||| y) i = (bt x i || bt y i) := by unfold bt; rw [Int32.toBitVec_or, BitVec.getLsbD_or]
theorem b_and (x y : Int32) (i : Nat) : bt (x &&& y) i = (bt x i && bt y i) := by unfold bt; rw [Int32.toBitVec_and, BitVec.getLsbD_and]
theorem b_xor (x y : Int32) (i : Nat) : bt (x ^^^ y) i = (bt x i ^^ bt y i) := by unfold bt; rw [Int32.toBitVec_xor, BitVec.getLsbD_xor]
theorem b_big {x : Int32} {i : Nat} (h : 32 ≤ i) : bt x i = false := BitVec.getLsbD_of_ge _ _ h
theorem b_255 (i : Nat) : bt 255 i = decide (i < 8) := by
  rcases Nat.lt_or_ge i 32 with h | h
  · exact (by decide +kernel : ∀ i, i < 32 → bt 255 i = decide (i < 8)) i h
  · rw [b_big h, decide_eq_false (by omega)]
theorem b_65535 (i : Nat) : bt 65535 i = decide (i < 16) := by
  rcases Nat.lt_or_ge i 32 with h | h
  · exact (by decide +kernel : ∀ i, i < 32 → bt 65535 i = decide (i < 16)) i h
  · rw [b_big h, decide_eq_false (by omega)]
theorem b_m1 : ∀ i, i < 32 → bt (-1) i = true := by decide +kernel
theorem b_0 (i : Nat) : bt 0 i = false := BitVec.getLsbD_zero
theorem s_l : ∀ n, n < 32 → ((nI n &&& 31).toBitVec.smod 32).toNat = n := by decide +kernel
theorem s_u : ∀ n, n < 32 → (((nI n).toUInt32 &&& Int32.toUInt32 31).toBitVec % 32).toNat = n := by decide +kernel
theorem b_shl (n : Nat) (hn : n < 32) (x : Int32) {i : Nat} (hi : i < 32) : bt (x <<< (nI n &&& 31)) i = (decide (n ≤ i) && bt x (i - n)) := by
  unfold bt
  rw [Int32.toBitVec_shiftLeft]
  show (x.toBitVec <<< ((nI n &&& 31).toBitVec.smod 32).toNat).getLsbD i = _
  rw [s_l n hn, BitVec.getLsbD_shiftLeft]
  rcases Nat.lt_or_ge i n with h | h
  · simp [h, Nat.not_le.mpr h]
  · simp [hi, h, Nat.not_lt.mpr h]
theorem b_ushr (n : Nat) (hn : n < 32) (x : Int32) (i : Nat) : bt ((x.toUInt32 >>> ((nI n).toUInt32 &&& Int32.toUInt32 31)).toInt32) i = bt x (n + i) := by
  show (x.toUInt32 >>> ((nI n).toUInt32 &&& Int32.toUInt32 31)).toBitVec.getLsbD i = x.toUInt32.toBitVec.getLsbD (n + i)
  rw [UInt32.toBitVec_shiftRight]
  show (x.toUInt32.toBitVec >>> (((nI n).toUInt32 &&& Int32.toUInt32 31).toBitVec % 32).toNat).getLsbD i = _
  rw [s_u n hn, BitVec.getLsbD_ushiftRight]
theorem b_sshr (n : Nat) (hn : n < 32) (x : Int32) {i : Nat} (hi : i < 32) : bt (x >>> (nI n &&& 31)) i = if n + i < 32 then bt x (n + i) else bt x 31 := by
  unfold bt
  rw [Int32.toBitVec_shiftRight]
  show (x.toBitVec.sshiftRight ((nI n &&& 31).toBitVec.smod 32).toNat).getLsbD i = _
  rw [s_l n hn, BitVec.getLsbD_sshiftRight, BitVec.msb_eq_getLsbD_last]
  simp [hi]
/-! the world's words, and rows that the walks share -/
abbrev tyL (cI cO : ClassId) : List (ClassId × FieldType) := [(cI, .int), (cO, .object "StruckThrees$Sheet")]
/-- links to private members of a nest mate: (own, index, class, name, descriptor) -/
def nestF : List (String × Nat × String × String × String) := [("StruckThrees", 169, "StruckThrees$Season", "trial", "LStruckThrees$Threes;"), ("StruckThrees", 172, "StruckThrees$Season", "rang", "I"), ("StruckThrees", 185, "StruckThrees$Most", "made", "I"), ("StruckThrees", 188, "StruckThrees$Most", "rings", "I"), ("StruckThrees", 195, "StruckThrees$Threes", "count", "I"), ("StruckThrees", 208, "StruckThrees$Readings", "count", "I"), ("StruckThrees", 242, "StruckThrees$Sheet", "lane", "I"), ("StruckThrees", 245, "StruckThrees$Sheet", "cells", "[I"), ("StruckThrees", 94, "StruckThrees$People", "count", "I"), ("StruckThrees$Most", 54, "StruckThrees$People", "count", "I")]
def nestM : List (String × Nat × String) := [("StruckThrees", 11, "StruckThrees$Sheet"), ("StruckThrees", 20, "StruckThrees$People"), ("StruckThrees", 27, "StruckThrees$Threes"), ("StruckThrees", 34, "StruckThrees$Season"), ("StruckThrees", 41, "StruckThrees$Most"), ("StruckThrees", 48, "StruckThrees$Readings"), ("StruckThrees$Season", 11, "StruckThrees$Threes")]
def nestW (U : State) : Prop := (∀ q ∈ nestF, va_Nw (.fieldLinkNest q.1 q.2.1 q.2.2.1 q.2.2.2.1 q.2.2.2.2 "StruckThrees") U) ∧ ∀ q ∈ nestM, va_Nw (.methodLinkNest q.1 q.2.1 ⟨q.2.2, "<init>", "()V"⟩ "StruckThrees") U
theorem nestW.warm {s U : State} (hW : s.WarmedH U.vm) (h : nestW s) : nestW U := ⟨fun q hq => va_Nw.warmF hW (h.1 q hq), fun q hq => va_Nw.warmM hW (h.2 q hq)⟩
theorem nestW.call {U : State} {g : JFrame} {mk : MethodId} {a : Array Value} (h : nestW U) : nestW (U.calling g mk a) := ⟨fun q hq => va_Nw.same (u := U) (U := U.calling g mk a) rfl rfl (h.1 q hq), fun q hq => va_Nw.same (u := U) (U := U.calling g mk a) rfl rfl (h.2 q hq)⟩
theorem nestW.f {s : State} (h : nestW s) {args : Array Value} (q : String × Nat × String × String × String) (hq : q ∈ nestF) : (Cond.fieldLinkNest q.1 q.2.1 q.2.2.1 q.2.2.2.1 q.2.2.2.2 "StruckThrees").before args s = true := (h.1 q hq).use rfl
theorem nestW.m {s : State} (h : nestW s) {args : Array Value} (q : String × Nat × String) (hq : q ∈ nestM) : (Cond.methodLinkNest q.1 q.2.1 ⟨q.2.2, "<init>", "()V"⟩ "StruckThrees").before args s = true := (h.2 q hq).use rfl
abbrev wdR (D : va_G) (cI cO : ClassId) (ws : va_W) : State → Prop := fun U => va_P D vwCl ws U.heap ∧ va_K D vwCl (tyL cI cO) U ∧ nestW U
abbrev wdW (D : va_G) (cI cO : ClassId) (ws : va_W) (sz : Nat) : State → Prop := fun U => U.heap.size = sz ∧ va_P D vwCl ws U.heap ∧ va_K D vwCl (tyL cI cO) U ∧ nestW U ∧ va_D (fun _ => True) ws
theorem fbR {D : va_G} {cI cO : ClassId} {ws : va_W} {av : List Value} : FrameBlind (va_Pc av (wdR D cI cO ws)) := fun a U g mk q => by
  obtain ⟨q0, qP, qK, qN⟩ := q
  exact ⟨q0, qP, va_K.moved (u := U) (U := U.calling g mk a) (Vm.Alike.refl U.vm) qK, qN.call⟩
theorem fbW {D : va_G} {cI cO : ClassId} {ws : va_W} {av : List Value} {sz : Nat} : FrameBlind (va_Pc av (wdW D cI cO ws sz)) := fun a U g mk q => by
  obtain ⟨q0, q1, qP, qK, qN, qD⟩ := q
  exact ⟨q0, q1, qP, va_K.moved (u := U) (U := U.calling g mk a) (Vm.Alike.refl U.vm) qK, qN.call, qD⟩
theorem preSR {D : va_G} {cI cO : ClassId} {ws : va_W} {s : State} {H : Heap} {As : List Value} (hP : va_P D vwCl ws H) (hK : va_K D vwCl (tyL cI cO) s) (hN : nestW s) : PreS s H (va_Pc As (wdR D cI cO ws)) As :=
  ⟨fbR, fun U hU hW => ⟨rfl, by rw [hU]; exact hP, va_K.moved hW.alike hK, hN.warm hW⟩⟩
theorem preVR {D : va_G} {cI cO : ClassId} {ws : va_W} {s : State} {H : Heap} {As : List Value} {C : String} {b : Addr} (hP : va_P D vwCl ws H) (hK : va_K D vwCl (tyL cI cO) s) (hN : nestW s) (hr : ∃ cellB : Cell, H[b]? = some cellB ∧ cellB.vm.isStatics = false ∧ s.vm.findClass C = some cellB.cls) : PreV s H C b (va_Pc (.ref b :: As) (wdR D cI cO ws)) As :=
  ⟨fbR, hr, fun U hU hW => ⟨rfl, by rw [hU]; exact hP, va_K.moved hW.alike hK, hN.warm hW⟩⟩
theorem preSW {D : va_G} {cI cO : ClassId} {ws : va_W} {s : State} {H : Heap} {A : Nat → Prop} {As : List Value} (hP : va_P D vwCl ws H) (hK : va_K D vwCl (tyL cI cO) s) (hN : nestW s) (hD : va_D A ws) : PreS s H (va_Pc As (wdW D cI cO ws H.size)) As :=
  ⟨fbW, fun U hU hW => ⟨rfl, by rw [hU], by rw [hU]; exact hP, va_K.moved hW.alike hK, hN.warm hW, hD.weaken (fun _ _ _ _ => trivial)⟩⟩
theorem preVW {D : va_G} {cI cO : ClassId} {ws : va_W} {s : State} {H : Heap} {A : Nat → Prop} {As : List Value} {C : String} {b : Addr} (hP : va_P D vwCl ws H) (hK : va_K D vwCl (tyL cI cO) s) (hN : nestW s) (hD : va_D A ws) (hr : ∃ cellB : Cell, H[b]? = some cellB ∧ cellB.vm.isStatics = false ∧ s.vm.findClass C = some cellB.cls) : PreV s H C b (va_Pc (.ref b :: As) (wdW D cI cO ws H.size)) As :=
  ⟨fbW, hr, fun U hU hW => ⟨rfl, by rw [hU], by rw [hU]; exact hP, va_K.moved hW.alike hK, hN.warm hW, hD.weaken (fun _ _ _ _ => trivial)⟩⟩
section TP
variable {p : Program} {l : Launch} {e : Env} {R : Room} {s : State} {m : MethodId} {args : Array Value} {below : List Frame} {meth : Method} {c : Code} {H : Heap} {locs : List Loc} {cells slots : Nat} {Q : State → Prop} {pc : Nat} {ls : Array Slot} {rest : List Value}
theorem tp_i {x y : Int32} (h : x = y) (k : W p l e R s m args below meth c H locs cells slots Q (F0 m pc ls (.int y :: rest))) : W p l e R s m args below meth c H locs cells slots Q (F0 m pc ls (.int x :: rest)) := h ▸ k
theorem tp_l {x y : Int64} (h : x = y) (k : W p l e R s m args below meth c H locs cells slots Q (F0 m pc ls (.long y :: rest))) : W p l e R s m args below meth c H locs cells slots Q (F0 m pc ls (.long x :: rest)) := h ▸ k
theorem tp_i1 {x y : Int32} {v : Value} (h : x = y) (k : W p l e R s m args below meth c H locs cells slots Q (F0 m pc ls (v :: .int y :: rest))) : W p l e R s m args below meth c H locs cells slots Q (F0 m pc ls (v :: .int x :: rest)) := h ▸ k
theorem tp_v {x y : Value} (h : x = y) (k : W p l e R s m args below meth c H locs cells slots Q (F0 m pc ls (y :: rest))) : W p l e R s m args below meth c H locs cells slots Q (F0 m pc ls (x :: rest)) := h ▸ k
theorem av_aload_n {cc : ByteArray} (hexec : p.tables.exec = Jvm.exec) (hb : c.code = cc) {k : Fin 4} {i : Nat} {x : Option Nat} (hdg : decode cc pc = .ok (.aload_n k, 1)) (hi : (k : Nat) = i) (hl : ls[i]? = some (.val (va_rf x))) (kk : W p l e R s m args below meth c H locs cells slots Q (F0 m (pc + 1) ls (va_rf x :: rest))) : W p l e R s m args below meth c H locs cells slots Q (F0 m pc ls rest) := by
  cases x with
  | none => exact lv_aload_nN hexec hb hdg hi hl kk
  | some y => exact lv_aload_n hexec hb hdg hi hl kk
end TP
theorem bt_one (i : Nat) : bt 1 i = decide (i = 0) := by
  rcases Nat.lt_or_ge i 32 with h | h
  · exact (by decide +kernel : ∀ i, i < 32 → bt 1 i = decide (i = 0)) i h
  · rw [b_big h]; symm; exact decide_eq_false (by omega)
theorem bt_and0 (x : Int32) {i : Nat} (hi : i < 32) : (x &&& ((1 : Int32) <<< (nI i &&& 31))) = 0 ↔ bt x i = false := by
  constructor
  · intro h
    have h2 := congrArg (fun z => bt z i) h
    simp only [b_and, b_shl i hi 1 hi, b_0, Nat.le_refl, decide_true, Nat.sub_self, bt_one, Bool.true_and, Bool.and_true] at h2
    exact h2
  · intro h
    refine b_ext (fun j hj => ?_)
    rw [b_and, b_shl i hi 1 hj, b_0, bt_one]
    by_cases e : j = i
    · subst e; rw [h]; rfl
    · by_cases g : i ≤ j
      · rw [decide_eq_false (show ¬ j - i = 0 by omega)]; simp
      · rw [decide_eq_false g]; simp
theorem bt_shr1 (x : Int32) {i : Nat} (hi : i < 32) : ((x >>> (nI i &&& 31)) &&& 1) = 1 ↔ bt x i = true := by
  constructor
  · intro h
    have h2 := congrArg (fun z => bt z 0) h
    simp only [b_and, b_sshr i hi x (show (0 : Nat) < 32 by decide), bt_one, Nat.add_zero, if_pos hi, decide_true, Bool.and_true] at h2
    exact h2
  · intro h
    refine b_ext (fun j hj => ?_)
    rw [b_and, b_sshr i hi x hj, bt_one]
    by_cases e : j = 0
    · subst e; rw [Nat.add_zero, if_pos hi, h]; rfl
    · rw [decide_eq_false e]; simp
theorem in_of {p : Int32} {n N : Nat} (h : ¬ p < 0 ∧ ¬ nI n ≤ p) (hn : n ≤ N) (hN : N < 2 ^ 31) : vp_in p N := by
  rw [vp_in_iff]
  have a := h.1; have b := h.2
  rw [Int32.lt_iff_toInt_lt] at a; rw [Int32.le_iff_toInt_le, nI_toInt (by omega)] at b
  have z : (0 : Int32).toInt = 0 := rfl
  omega
theorem in_nat {p : Int32} {n : Nat} (h : ¬ p < 0 ∧ ¬ nI n ≤ p) (hn : n < 2 ^ 31) : ∃ j : Nat, j < n ∧ p = nI j := vp_in_of (in_of h (Nat.le_refl n) hn) hn
theorem nin_nI {n j : Nat} (h : j < n) (hn : n < 2 ^ 31) : ¬ nI j < 0 ∧ ¬ nI n ≤ nI j := ⟨nI_pos (by omega), fun q => absurd ((nI_leI hn (by omega)).mp q) (by omega)⟩
theorem so_yes {b : Bool} (h : b = true) : (b = true → (1 : Int32) = 1) ∧ (¬ b = true → (1 : Int32) = 0) := ⟨fun _ => rfl, fun q => absurd h q⟩
theorem so_no {b : Bool} (h : b = false) : (b = true → (0 : Int32) = 1) ∧ (¬ b = true → (0 : Int32) = 0) := ⟨fun q => absurd (h.symm.trans q) (by decide), fun _ => rfl⟩
theorem sh1 : ∀ n, n < 31 → ((1 : Int32) <<< (nI n &&& 31)) = nI (2 ^ n) := by decide +kernel
theorem div3 {m : Nat} (h : m < 2 ^ 20) : (nI (3 * m + 1) - 1) / 3 = nI m := by
  rw [nI_pred, show (3 : Int32) = nI 3 from rfl, pk_div (by omega) (by decide) (by decide)]
  congr 1; omega
theorem ix3 (a i d : Nat) : nI a + 3 * nI i + nI d = nI (a + 3 * i + d) := by rw [show (3 : Int32) = nI 3 from rfl, pk_mul, nI_add, nI_add]
