set_option maxHeartbeats 4000000 in
set_option maxRecDepth 100000 in
/-- the law, a call after another -/
theorem law_loop {p : Program} {l : Launch} {e : Env} {s : State} {m : MethodId} {below : List Frame} {meth : Method} {c : Code} {b L : Nat} {xs : Nat → Int32} (C0 : lw_At p s m meth c b L xs) {D : va_G} {cI cO : ClassId} (hK : va_K D vwCl (tyL cI cO) s) (hNw : nestW s) {A : Nat → Prop} (hA : ∀ q : Nat, s.heap.size ≤ q → A q) (hbA : ¬ A b) (hAr : ∀ q : Nat, A q → s.heap.size ≤ q) {h aS s0 c0 s1 c1 s2 c2 s3 c3 pe ka sa tq xa la se tt xb lb mo re wa ha mx so sl ce ki si th ri rk rs kt kr ab bh wb ra : Nat} {g : Nat → Option Nat} (hg : g 0 = some s0 ∧ g 1 = some s1 ∧ g 2 = some s2 ∧ g 3 = some s3) (hL : L ≤ 3072) : ∀ (fu ii : Nat) (hfu : L - ii < fu) (hiL : ii ≤ L) (H : Heap) (locs : List Loc) (hG : GoodP D cI cO A 0 1 2 3 h aS s0 c0 s1 c1 s2 c2 s3 c3 pe ka sa tq xa la se tt xb lb mo re wa ha mx so sl ce ki si th ri rk rs kt kr ab bh wb ra g H) (hS : va_S A s.heap H locs) (ls : Array Slot) (hl : lv_has ls 4 [(0, .ref b), (1, .ref h), (2, .ref mx), (3, .int (nI ii))]), W p l e room_1 s m #[Value.ref b] below meth c H locs 40 756 (lw_Z below #[Value.ref b] s) (F0 m 18 ls []) := by
  obtain ⟨hx, hb, hr, hml, hown, hts0, hX, hbl, hlocks, hgv⟩ := id C0
  intro fu
  induction fu with
  | zero => intros; omega
  | succ fu ih =>
    intro ii hfu hiL H locs hG hS ls hl
    refine lv_iload_n hx hb dL_law_18 rfl (lv_at hl 3 rfl) ?_
    refine lv_aload_n hx hb dL_law_19 rfl (lv_at hl 0 rfl) ?_
    refine va_slen hx hb hX hbl hbA hS dL_law_20 ?_
    refine lv_bipush (v := 6) hx hb dL_law_21 (by decide) ?_
    refine lv_isub hx hb dL_law_23 ?_
    refine lv_icmp_gt (tgt := 1116) hx hb dL_law_24 (by decide) (fun c24 => ?_) (fun c24 => ?_)
    · refine lv_iconst (v := 1) hx hb dL_law_1116 (by decide) ?_
      refine va_forget (fun q hq => hAr _ (hS.2.2 q hq)) ?_
      refine W.widen (k := 600000) (n := 7302250) (by omega) (by omega) ?_
      exact lw_ret hx hb hr hlocks dL_law_1117
    · have e6 := sub_in (x := nI L) (k := 6) (nI_pos' (by omega)) (by decide)
      rw [nI_toInt (by omega)] at e6
      have c25 : ¬ (nI L - nI 6 < nI ii) := c24
      rw [Int32.lt_iff_toInt_lt, e6, nI_toInt (by omega)] at c25
      have hii : ii + 6 ≤ L := by omega
      have kont : ∀ (H : Heap) (locs : List Loc) (ls : Array Slot), GoodP D cI cO A 0 1 2 3 h aS s0 c0 s1 c1 s2 c2 s3 c3 pe ka sa tq xa la se tt xb lb mo re wa ha mx so sl ce ki si th ri rk rs kt kr ab bh wb ra g H → va_S A s.heap H locs → lv_has ls 4 [(0, .ref b), (1, .ref h), (2, .ref mx), (3, .int (nI ii))] → W p l e room_1 s m #[Value.ref b] below meth c H locs 40 756 (lw_Z below #[Value.ref b] s) (F0 m 1110 ls []) := by
        intro H locs ls hG hS hl
        refine lv_iinc (v := nI (ii + 6)) (lv' := [(3, .int (nI (ii + 6))), (0, .ref b), (1, .ref h), (2, .ref mx)]) hx hb dL_law_1110 hl (k := 3) rfl (show nI ii + 6 = nI (ii + 6) from nI_add ii 6) (by decide) rfl (fun ls hl => ?_)
        refine lv_goto (tgt := 18) hx hb dL_law_1113 (by decide) ?_
        exact ih (ii + 6) (by omega) (by omega) H locs hG hS ls (lv_sub hl [1, 2, 3, 0] rfl)
      refine lv_aload_n hx hb dL_law_27 rfl (lv_at hl 0 rfl) ?_
      refine lv_iload_n hx hb dL_law_28 rfl (lv_at hl 3 rfl) ?_
      refine va_sld hx hb hX hbl hbA hS (vp_in_nI (by omega) (by omega)) dL_law_29 ?_
      refine lv_bipush (v := 31) hx hb dL_law_30 (by decide) ?_
      refine lv_iand hx hb dL_law_32 ?_
      refine lv_topi (fun v33 ev33 => ?_)
      by_cases k33_0 : v33 = 0
      · refine lv_tableIn (off := 135) (tgt := 168) hx hb dL_law_33 (by rw [k33_0]; decide) (by rw [k33_0]; decide) (by rw [k33_0]; decide) (by decide) ?_
        exact st_town C0 hK hNw hA hbA hii hL hg hG hS hl kont
      by_cases k33_1 : v33 = 1
      · refine lv_tableIn (off := 188) (tgt := 221) hx hb dL_law_33 (by rw [k33_1]; decide) (by rw [k33_1]; decide) (by rw [k33_1]; decide) (by decide) ?_
        exact st_ofPerson C0 hK hNw hA hbA hii hL hG hS hl kont
      by_cases k33_2 : v33 = 2
      · refine lv_tableIn (off := 221) (tgt := 254) hx hb dL_law_33 (by rw [k33_2]; decide) (by rw [k33_2]; decide) (by rw [k33_2]; decide) (by decide) ?_
        exact st_bend C0 hK hNw hA hbA hii hL hG hS hl kont
      by_cases k33_3 : v33 = 3
      · refine lv_tableIn (off := 254) (tgt := 287) hx hb dL_law_33 (by rw [k33_3]; decide) (by rw [k33_3]; decide) (by rw [k33_3]; decide) (by decide) ?_
        exact st_hang C0 hK hNw hA hbA hii hL hG hS hl kont
      by_cases k33_4 : v33 = 4
      · refine lv_tableIn (off := 297) (tgt := 330) hx hb dL_law_33 (by rw [k33_4]; decide) (by rw [k33_4]; decide) (by rw [k33_4]; decide) (by decide) ?_
        exact st_ofThree C0 hK hNw hA hbA hii hL hG hS hl kont
      by_cases k33_5 : v33 = 5
      · refine lv_tableIn (off := 330) (tgt := 363) hx hb dL_law_33 (by rw [k33_5]; decide) (by rw [k33_5]; decide) (by rw [k33_5]; decide) (by decide) ?_
        exact st_strike C0 hK hNw hA hbA hii hL hG hS hl kont
      by_cases k33_6 : v33 = 6
      · refine lv_tableIn (off := 353) (tgt := 386) hx hb dL_law_33 (by rw [k33_6]; decide) (by rw [k33_6]; decide) (by rw [k33_6]; decide) (by decide) ?_
        exact st_touch C0 hK hNw hA hbA hii hL hG hS hl kont
      by_cases k33_7 : v33 = 7
      · refine lv_tableIn (off := 376) (tgt := 409) hx hb dL_law_33 (by rw [k33_7]; decide) (by rw [k33_7]; decide) (by rw [k33_7]; decide) (by decide) ?_
        exact st_bars C0 hK hNw hA hbA hii hL hG hS hl kont
      by_cases k33_8 : v33 = 8
      · refine lv_tableIn (off := 399) (tgt := 432) hx hb dL_law_33 (by rw [k33_8]; decide) (by rw [k33_8]; decide) (by rw [k33_8]; decide) (by decide) ?_
        exact st_leave C0 hK hNw hA hbA hii hL hG hS hl kont
      by_cases k33_9 : v33 = 9
      · refine lv_tableIn (off := 422) (tgt := 455) hx hb dL_law_33 (by rw [k33_9]; decide) (by rw [k33_9]; decide) (by rw [k33_9]; decide) (by decide) ?_
        exact st_season C0 hK hNw hA hbA hii hL hg hG hS hl kont
      by_cases k33_10 : v33 = 10
      · refine lv_tableIn (off := 485) (tgt := 518) hx hb dL_law_33 (by rw [k33_10]; decide) (by rw [k33_10]; decide) (by rw [k33_10]; decide) (by decide) ?_
        exact st_pitched C0 hK hNw hA hbA hii hL hG hS hl kont
      by_cases k33_11 : v33 = 11
      · refine lv_tableIn (off := 518) (tgt := 551) hx hb dL_law_33 (by rw [k33_11]; decide) (by rw [k33_11]; decide) (by rw [k33_11]; decide) (by decide) ?_
        exact st_most C0 hK hNw hA hbA hii hL hG hS hl kont
      by_cases k33_12 : v33 = 12
      · refine lv_tableIn (off := 541) (tgt := 574) hx hb dL_law_33 (by rw [k33_12]; decide) (by rw [k33_12]; decide) (by rw [k33_12]; decide) (by decide) ?_
        exact st_rather C0 hK hNw hA hbA hii hL hG hS hl kont
      by_cases k33_13 : v33 = 13
      · refine lv_tableIn (off := 554) (tgt := 587) hx hb dL_law_33 (by rw [k33_13]; decide) (by rw [k33_13]; decide) (by rw [k33_13]; decide) (by decide) ?_
        exact st_together C0 hK hNw hA hbA hii hL hg hG hS hl kont
      by_cases k33_14 : v33 = 14
      · refine lv_tableIn (off := 597) (tgt := 630) hx hb dL_law_33 (by rw [k33_14]; decide) (by rw [k33_14]; decide) (by rw [k33_14]; decide) (by decide) ?_
        exact st_reading C0 hK hNw hA hbA hii hL hG hS hl kont
      by_cases k33_15 : v33 = 15
      · refine lv_tableIn (off := 630) (tgt := 663) hx hb dL_law_33 (by rw [k33_15]; decide) (by rw [k33_15]; decide) (by rw [k33_15]; decide) (by decide) ?_
        exact st_back C0 hK hNw hA hbA hii hL hG hS hl kont
      by_cases k33_16 : v33 = 16
      · refine lv_tableIn (off := 653) (tgt := 686) hx hb dL_law_33 (by rw [k33_16]; decide) (by rw [k33_16]; decide) (by rw [k33_16]; decide) (by decide) ?_
        exact st_sides C0 hK hNw hA hbA hii hL hG hS hl kont
      by_cases k33_17 : v33 = 17
      · refine lv_tableIn (off := 676) (tgt := 709) hx hb dL_law_33 (by rw [k33_17]; decide) (by rw [k33_17]; decide) (by rw [k33_17]; decide) (by decide) ?_
        exact st_kinds C0 hK hNw hA hbA hii hL hG hS hl kont
      by_cases k33_18 : v33 = 18
      · refine lv_tableIn (off := 699) (tgt := 732) hx hb dL_law_33 (by rw [k33_18]; decide) (by rw [k33_18]; decide) (by rw [k33_18]; decide) (by decide) ?_
        exact st_odds C0 hK hNw hA hbA hii hL hG hS hl kont
      by_cases k33_19 : v33 = 19
      · refine lv_tableIn (off := 733) (tgt := 766) hx hb dL_law_33 (by rw [k33_19]; decide) (by rw [k33_19]; decide) (by rw [k33_19]; decide) (by decide) ?_
        exact st_sheet C0 hK hNw hA hbA hii hL hg hG hS hl kont
      by_cases k33_20 : v33 = 20
      · refine lv_tableIn (off := 776) (tgt := 809) hx hb dL_law_33 (by rw [k33_20]; decide) (by rw [k33_20]; decide) (by rw [k33_20]; decide) (by decide) ?_
        exact st_lose C0 hK hNw hA hbA hii hL hg hG hS hl kont
      by_cases k33_21 : v33 = 21
      · refine lv_tableIn (off := 799) (tgt := 832) hx hb dL_law_33 (by rw [k33_21]; decide) (by rw [k33_21]; decide) (by rw [k33_21]; decide) (by decide) ?_
        exact st_put C0 hK hNw hA hbA hii hL hg hG hS hl kont
      by_cases k33_22 : v33 = 22
      · refine lv_tableIn (off := 842) (tgt := 875) hx hb dL_law_33 (by rw [k33_22]; decide) (by rw [k33_22]; decide) (by rw [k33_22]; decide) (by decide) ?_
        exact st_cell C0 hK hNw hA hbA hii hL hg hG hS hl kont
      by_cases k33_23 : v33 = 23
      · refine lv_tableIn (off := 886) (tgt := 919) hx hb dL_law_33 (by rw [k33_23]; decide) (by rw [k33_23]; decide) (by rw [k33_23]; decide) (by decide) ?_
        exact st_copy C0 hK hNw hA hbA hii hL hg hG hS hl kont
      by_cases k33_24 : v33 = 24
      · refine lv_tableIn (off := 949) (tgt := 982) hx hb dL_law_33 (by rw [k33_24]; decide) (by rw [k33_24]; decide) (by rw [k33_24]; decide) (by decide) ?_
        exact st_tell C0 hK hNw hA hbA hii hL hG hS hl kont
      by_cases k33_25 : v33 = 25
      · refine lv_tableIn (off := 972) (tgt := 1005) hx hb dL_law_33 (by rw [k33_25]; decide) (by rw [k33_25]; decide) (by rw [k33_25]; decide) (by decide) ?_
        exact st_count C0 hK hNw hA hbA hii hL hG hS hl kont
      by_cases k33_26 : v33 = 26
      · refine lv_tableIn (off := 995) (tgt := 1028) hx hb dL_law_33 (by rw [k33_26]; decide) (by rw [k33_26]; decide) (by rw [k33_26]; decide) (by decide) ?_
        exact st_as C0 hK hNw hA hbA hii hL hG hS hl kont
      by_cases k33_27 : v33 = 27
      · refine lv_tableIn (off := 1028) (tgt := 1061) hx hb dL_law_33 (by rw [k33_27]; decide) (by rw [k33_27]; decide) (by rw [k33_27]; decide) (by decide) ?_
        exact st_trace C0 hK hNw hA hbA hii hL hG hS hl kont
      by_cases k33_28 : v33 = 28
      · refine lv_tableIn (off := 1041) (tgt := 1074) hx hb dL_law_33 (by rw [k33_28]; decide) (by rw [k33_28]; decide) (by rw [k33_28]; decide) (by decide) ?_
        exact st_fault C0 hK hNw hA hbA hii hL hG hS hl kont
      by_cases k33_29 : v33 = 29
      · refine lv_tableIn (off := 1054) (tgt := 1087) hx hb dL_law_33 (by rw [k33_29]; decide) (by rw [k33_29]; decide) (by rw [k33_29]; decide) (by decide) ?_
        exact st_many C0 hK hNw hA hbA hii hL hG hS hl kont
      have t33_0 := lv_neT (k := 0) (a := 0) k33_0 (by decide)
      have t33_1 := lv_neT (k := 1) (a := 1) k33_1 (by decide)
      have t33_2 := lv_neT (k := 2) (a := 2) k33_2 (by decide)
      have t33_3 := lv_neT (k := 3) (a := 3) k33_3 (by decide)
      have t33_4 := lv_neT (k := 4) (a := 4) k33_4 (by decide)
      have t33_5 := lv_neT (k := 5) (a := 5) k33_5 (by decide)
      have t33_6 := lv_neT (k := 6) (a := 6) k33_6 (by decide)
      have t33_7 := lv_neT (k := 7) (a := 7) k33_7 (by decide)
      have t33_8 := lv_neT (k := 8) (a := 8) k33_8 (by decide)
      have t33_9 := lv_neT (k := 9) (a := 9) k33_9 (by decide)
      have t33_10 := lv_neT (k := 10) (a := 10) k33_10 (by decide)
      have t33_11 := lv_neT (k := 11) (a := 11) k33_11 (by decide)
      have t33_12 := lv_neT (k := 12) (a := 12) k33_12 (by decide)
      have t33_13 := lv_neT (k := 13) (a := 13) k33_13 (by decide)
      have t33_14 := lv_neT (k := 14) (a := 14) k33_14 (by decide)
      have t33_15 := lv_neT (k := 15) (a := 15) k33_15 (by decide)
      have t33_16 := lv_neT (k := 16) (a := 16) k33_16 (by decide)
      have t33_17 := lv_neT (k := 17) (a := 17) k33_17 (by decide)
      have t33_18 := lv_neT (k := 18) (a := 18) k33_18 (by decide)
      have t33_19 := lv_neT (k := 19) (a := 19) k33_19 (by decide)
      have t33_20 := lv_neT (k := 20) (a := 20) k33_20 (by decide)
      have t33_21 := lv_neT (k := 21) (a := 21) k33_21 (by decide)
      have t33_22 := lv_neT (k := 22) (a := 22) k33_22 (by decide)
      have t33_23 := lv_neT (k := 23) (a := 23) k33_23 (by decide)
      have t33_24 := lv_neT (k := 24) (a := 24) k33_24 (by decide)
      have t33_25 := lv_neT (k := 25) (a := 25) k33_25 (by decide)
      have t33_26 := lv_neT (k := 26) (a := 26) k33_26 (by decide)
      have t33_27 := lv_neT (k := 27) (a := 27) k33_27 (by decide)
      have t33_28 := lv_neT (k := 28) (a := 28) k33_28 (by decide)
      have t33_29 := lv_neT (k := 29) (a := 29) k33_29 (by decide)
      refine lv_tableOut (tgt := 1110) hx hb dL_law_33 (by omega) (by decide) ?_
      exact kont H locs ls hG hS hl
