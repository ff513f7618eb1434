/-! THE CLAIM OUT OF ONE WALK OF THE LAW'S BODY. Your part is whole_start (and what it stands on); all else here is the same for every law, but numbers. -/
def R_law : String := "StruckThreesLaw"
def lw_P (b : Addr) (xs : List Int32) (args : Array Value) (s : State) : Prop := args = #[.ref b] ∧ s.IntsAt b xs ∧ xs.length ≤ 3072 ∧ (Jvm.Cond.and given_1 narrow_1).before args s = true
def lw_Q (_ : Array Value) (s : State) (o : Outcome) (t : State) : Prop := o = .returned (some (.int 1)) ∧ Framed s o t [] 600000 7302250
def lw_Z (below : List Frame) (a : Array Value) (s : State) : State → Prop := fun t => ∃ o, t.status = .running ∧ Ended t below o ∧ lw_Q a s o t
/-- the law's own end, with 1 on the stack, nothing written that was there before, its room as the claim has it -/
theorem lw_ret {p : Program} {l : Launch} {e : Env} {s : State} {m : MethodId} {below : List Frame} {meth : Method} {c : Code} {b : Nat} (hx : p.tables.exec = Jvm.exec) (hb : c.code = code) (hr : meth.sig.returnType = ret) (hlocks : meth.locks = false) {pc : Nat} {H : Heap} {ls : Array Slot} (hdg : decode code pc = .ok (.ireturn, 1)) : W p l e room_1 s m #[Value.ref b] below meth c H [] 600000 7302250 (lw_Z below #[Value.ref b] s) (F0 m pc ls [.int 1]) := by
  intro T hT X
  obtain ⟨fs, hret, hrun, hended, hW, hframe⟩ := X.leave (v := some (.int 1)) (hlocks := hlocks) (fun h => by rw [hr] at h; cases h)
  have hmeth' : T.vm.method? m = some meth := X.method'
  refine ⟨T.setFrames fs, ?_, .returned (some (.int 1)), hrun, hended, rfl, ⟨_, rfl⟩, hW, hframe⟩
  jvm_step X.here [X.here.top, hx, hb, hdg, hmeth', hr, ret, narrow_b1]
  (try refine ⟨rfl, ?_⟩); (try refine ⟨rfl, ?_⟩)
  first | (intro acts; rw [hret _ acts rfl rfl rfl]) | rw [hret _ _ rfl rfl rfl]
  exact Steps.refl _
/-- what holds at the law's entry: the machine, the code, the tables' words (any of lw_tbl by 'hts w (by decide +kernel)'), the script of L ints xs at the cell b, what the Statement gives of the start (any of its parts by flat_of_before) -/
def lw_At (p : Program) (s : State) (m : MethodId) (meth : Method) (c : Code) (b L : Nat) (xs : Nat → Int32) : Prop :=
  p.tables.exec = Jvm.exec ∧ c.code = code ∧ meth.sig.returnType = ret ∧ c.maxLocals = 4 ∧ s.vm.findClass R_law = some m.cls ∧ (∀ w ∈ lw_tbl, w.before #[Value.ref b] s = true) ∧ va_X b L xs s s.heap ∧ b < s.heap.size ∧ meth.locks = false ∧ (Jvm.Cond.and given_1 narrow_1).before #[Value.ref b] s = true
/-! small words of the law -/
theorem lgc_self (a : Int64) : lg_cmp a a = 0 := by
  unfold lg_cmp
  rw [if_neg (fun q => by have q2 : a < a := q; rw [Int64.lt_iff_toInt_lt] at q2; omega), if_pos rfl]
theorem cl_0 {kq : Int32} (h1 : ¬ kq.toNatClampNeg = 1) (h2 : ¬ kq.toNatClampNeg = 2) (h3 : ¬ kq.toNatClampNeg = 3) (a : ¬ kq < 0) (b : kq < 4) : kq.toNatClampNeg = 0 := by
  obtain ⟨j, hj, rfl⟩ := vp_in_of (in4 a b) (by decide)
  have e := nI_clamp (n := j) (by omega)
  omega
theorem nest_in : (∀ q ∈ nestF, Cond.fieldLinkNest q.1 q.2.1 q.2.2.1 q.2.2.2.1 q.2.2.2.2 "StruckThrees" ∈ lw_tbl) ∧ ∀ q ∈ nestM, Cond.methodLinkNest q.1 q.2.1 ⟨q.2.2, "<init>", "()V"⟩ "StruckThrees" ∈ lw_tbl := ⟨by decide +kernel, by decide +kernel⟩
theorem preSWA {D : va_G} {cI cO : ClassId} {ws : va_W} {s : State} {H : Heap} {A : Nat → Prop} {As : List Value} {C : String} (hP : va_P D vwCl ws H) (hK : va_K D vwCl (tyL cI cO) s) (hN : nestW s) (hD : va_D A ws) (hAO : va_AO C s) : PreS s H (va_Pc As (fun U => wdW D cI cO ws H.size U ∧ va_AO C U)) As :=
  ⟨fun a U g mk q => by
    obtain ⟨q0, ⟨q1, qP, qK, qN, qD⟩, qA⟩ := q
    exact ⟨q0, ⟨q1, qP, va_K.moved (u := U) (U := U.calling g mk a) (Vm.Alike.refl U.vm) qK, qN.call, qD⟩, va_AO.moved (u := U) (U := U.calling g mk a) (Vm.Alike.refl U.vm) qA⟩, fun U hU hW => ⟨rfl, ⟨by rw [hU], by rw [hU]; exact hP, va_K.moved hW.alike hK, hN.warm hW, hD.weaken (fun _ _ _ _ => trivial)⟩, va_AO.moved hW.alike hAO⟩⟩
abbrev fz : Nat → Int32 := fun _ => 0
abbrev sv_0 : Nat → Int32 := upd (upd (upd (upd (fun _ => 0) 0 (-9)) 1 (-9)) 2 (-9)) 3 (-9)
theorem v_zero : Vnt 0 fz fz 0 fz fz 0 fz 0 0 0 41231686041 := ⟨by decide, Or.inl rfl, fun j hj => absurd hj (Nat.not_lt_zero j), fun j hj => absurd hj (Nat.not_lt_zero j), by decide, ⟨fun t ht => absurd ht (Nat.not_lt_zero t), fun t u ht => absurd ht (Nat.not_lt_zero t)⟩, fun j hj => absurd hj (Nat.not_lt_zero j), by decide, fun k hk => absurd hk (Nat.not_lt_zero k), Or.inl rfl⟩
theorem r_one {k : Nat} (h : sv_0 k = -9) : RSH k 0 (-1) fz sv_0 fz fz := ⟨Or.inl rfl, ⟨fun _ => h, fun _ => rfl⟩, fun q => absurd rfl q, fun j hj => rfl⟩
theorem r_zero : Rs4 0 1 2 3 0 (-1) fz 0 (-1) fz 0 (-1) fz 0 (-1) fz sv_0 fz fz := ⟨r_one rfl, r_one rfl, r_one rfl, r_one rfl⟩
theorem ar_0123 : Arr4 0 1 2 3 := ⟨fun q hq => by omega, by decide, by decide, by decide, by decide, by decide, by decide⟩
theorem ar_0213 : Arr4 0 2 1 3 := ⟨fun q hq => by omega, by decide, by decide, by decide, by decide, by decide, by decide⟩
theorem ar_0321 : Arr4 0 3 2 1 := ⟨fun q hq => by omega, by decide, by decide, by decide, by decide, by decide, by decide⟩
theorem ar_1023 : Arr4 1 0 2 3 := ⟨fun q hq => by omega, by decide, by decide, by decide, by decide, by decide, by decide⟩
theorem ar_1203 : Arr4 1 2 0 3 := ⟨fun q hq => by omega, by decide, by decide, by decide, by decide, by decide, by decide⟩
theorem ar_1320 : Arr4 1 3 2 0 := ⟨fun q hq => by omega, by decide, by decide, by decide, by decide, by decide, by decide⟩
theorem ar_2013 : Arr4 2 0 1 3 := ⟨fun q hq => by omega, by decide, by decide, by decide, by decide, by decide, by decide⟩
theorem ar_2103 : Arr4 2 1 0 3 := ⟨fun q hq => by omega, by decide, by decide, by decide, by decide, by decide, by decide⟩
theorem ar_2301 : Arr4 2 3 0 1 := ⟨fun q hq => by omega, by decide, by decide, by decide, by decide, by decide, by decide⟩
theorem ar_3021 : Arr4 3 0 2 1 := ⟨fun q hq => by omega, by decide, by decide, by decide, by decide, by decide, by decide⟩
theorem ar_3120 : Arr4 3 1 2 0 := ⟨fun q hq => by omega, by decide, by decide, by decide, by decide, by decide, by decide⟩
theorem ar_3210 : Arr4 3 2 1 0 := ⟨fun q hq => by omega, by decide, by decide, by decide, by decide, by decide, by decide⟩
