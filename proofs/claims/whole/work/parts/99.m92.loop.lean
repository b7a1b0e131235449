/-! the law's loop -/
theorem jand_63 (x : Int) : jand x 63 = x % 64 := by
  unfold jand
  rw [pk_and (Ii x) (m := Ii 63) 6 (by decide), Ii_nat, nI_toInt (by omega)]
  show ((((x % 4294967296).toNat % 64 : Nat)) : Int) = x % 64
  omega
theorem Ral_up {i : Int} {C R : MM} (h : Ral i C R) : Ral (i + 1) C R := Ral_fr h h.1 (tyLe_of rfl (fun _ _ _ => rfl)) ⟨fun _ _ => rfl, fun _ _ => rfl, rfl, rfl, fun _ _ => rfl, fun _ _ => rfl⟩ (by have := h.2.2.2.2.2.2.2.2.2.1; omega)
theorem InvL_up {n : Nat} {M : MM} (h : InvL n M) : InvL (n + 1) M := by
  obtain ⟨C, R, h1, h2, h3, h4, h5⟩ := h
  exact InvL_n (Ral_up h1) h2 h3 h4 h5
set_option maxHeartbeats 4000000 in
set_option maxRecDepth 100000 in
theorem lw_switch {l : Launch} {D : va_G} {cy : Nat → ClassId} {ad : Nat → Nat} {xs : Nat → Int} {L : Nat} {J : Nat → Nat → Nat → List (Nat × Value) → List Value → MM → Prop} (hst : l.stackTraces = false) (hin : jIn ad ksK.length) (hE : LwE l D cy ad xs L J) (hxs : ∀ j, ri_ (xs j)) {n : Nat} (hn : n < 512) (hL : 6 * n + 6 ≤ L) {M : MM} (hI : InvL n M) (hnext : ∀ M1, InvL (n + 1) M1 → J (390 + 3 * (n + 1)) (571600 + 18 * (n + 1)) 3111 [(0, .ref (ad 910)), (1, .ref (ad 0)), (2, .ref (ad 286)), (3, .ref (ad 389)), (4, .int (Ii (6 * (n : Int))))] [] M1) : J (390 + 3 * n) (571600 + 18 * n) 40 [(0, .ref (ad 910)), (1, .ref (ad 0)), (2, .ref (ad 286)), (3, .ref (ad 389)), (4, .int (Ii (6 * (n : Int))))] [.int (Ii (jand (xs (6 * (n : Int)).toNat) 63))] M := by
  have hO := hE.1 (390 + 3 * n) (571600 + 18 * n) (by omega) (by omega)
  have e63 := jand_63 (xs (6 * (n : Int)).toNat)
  have g63 : ri_ (jand (xs (6 * (n : Int)).toNat) 63) := by rw [e63]; unfold ri_; omega
  obtain ⟨k, hk⟩ : ∃ k : Nat, jand (xs (6 * (n : Int)).toNat) 63 = (k : Int) := ⟨(xs (6 * (n : Int)).toNat % 64).toNat, by rw [e63]; omega⟩
  match k, hk with
  | 0, hk => exact j_tabIn hO 220 260 g63 dL_law_40 (by rw [hk]; decide) (by rw [hk]; decide) (by rw [hk]; decide) (by decide) (lc_0 hst hin hE hxs hn hL hI hnext)
  | 1, hk => exact j_tabIn hO 291 331 g63 dL_law_40 (by rw [hk]; decide) (by rw [hk]; decide) (by rw [hk]; decide) (by decide) (lc_1 hst hin hE hxs hn hL hI hnext)
  | 2, hk => exact j_tabIn hO 316 356 g63 dL_law_40 (by rw [hk]; decide) (by rw [hk]; decide) (by rw [hk]; decide) (by decide) (lc_2 hst hin hE hxs hn hL hI hnext)
  | 3, hk => exact j_tabIn hO 327 367 g63 dL_law_40 (by rw [hk]; decide) (by rw [hk]; decide) (by rw [hk]; decide) (by decide) (lc_3 hst hin hE hxs hn hL hI hnext)
  | 4, hk => exact j_tabIn hO 364 404 g63 dL_law_40 (by rw [hk]; decide) (by rw [hk]; decide) (by rw [hk]; decide) (by decide) (lc_4 hst hin hE hxs hn hL hI hnext)
  | 5, hk => exact j_tabIn hO 389 429 g63 dL_law_40 (by rw [hk]; decide) (by rw [hk]; decide) (by rw [hk]; decide) (by decide) (lc_5 hst hin hE hxs hn hL hI hnext)
  | 6, hk => exact j_tabIn hO 457 497 g63 dL_law_40 (by rw [hk]; decide) (by rw [hk]; decide) (by rw [hk]; decide) (by decide) (lc_6 hst hin hE hxs hn hL hI hnext)
  | 7, hk => exact j_tabIn hO 565 605 g63 dL_law_40 (by rw [hk]; decide) (by rw [hk]; decide) (by rw [hk]; decide) (by decide) (lc_7 hst hin hE hxs hn hL hI hnext)
  | 8, hk => exact j_tabIn hO 602 642 g63 dL_law_40 (by rw [hk]; decide) (by rw [hk]; decide) (by rw [hk]; decide) (by decide) (lc_8 hst hin hE hxs hn hL hI hnext)
  | 9, hk => exact j_tabIn hO 651 691 g63 dL_law_40 (by rw [hk]; decide) (by rw [hk]; decide) (by rw [hk]; decide) (by decide) (lc_9 hst hin hE hxs hn hL hI hnext)
  | 10, hk => exact j_tabIn hO 719 759 g63 dL_law_40 (by rw [hk]; decide) (by rw [hk]; decide) (by rw [hk]; decide) (by decide) (lc_10 hst hin hE hxs hn hL hI hnext)
  | 11, hk => exact j_tabIn hO 783 823 g63 dL_law_40 (by rw [hk]; decide) (by rw [hk]; decide) (by rw [hk]; decide) (by decide) (lc_11 hst hin hE hxs hn hL hI hnext)
  | 12, hk => exact j_tabIn hO 895 935 g63 dL_law_40 (by rw [hk]; decide) (by rw [hk]; decide) (by rw [hk]; decide) (by decide) (lc_12 hst hin hE hxs hn hL hI hnext)
  | 13, hk => exact j_tabIn hO 1007 1047 g63 dL_law_40 (by rw [hk]; decide) (by rw [hk]; decide) (by rw [hk]; decide) (by decide) (lc_13 hst hin hE hxs hn hL hI hnext)
  | 14, hk => exact j_tabIn hO 1074 1114 g63 dL_law_40 (by rw [hk]; decide) (by rw [hk]; decide) (by rw [hk]; decide) (by decide) (lc_14 hst hin hE hxs hn hL hI hnext)
  | 15, hk => exact j_tabIn hO 1141 1181 g63 dL_law_40 (by rw [hk]; decide) (by rw [hk]; decide) (by rw [hk]; decide) (by decide) (lc_15 hst hin hE hxs hn hL hI hnext)
  | 16, hk => exact j_tabIn hO 1178 1218 g63 dL_law_40 (by rw [hk]; decide) (by rw [hk]; decide) (by rw [hk]; decide) (by decide) (lc_16 hst hin hE hxs hn hL hI hnext)
  | 17, hk => exact j_tabIn hO 1191 1231 g63 dL_law_40 (by rw [hk]; decide) (by rw [hk]; decide) (by rw [hk]; decide) (by decide) (lc_17 hst hin hE hxs hn hL hI hnext)
  | 18, hk => exact j_tabIn hO 1204 1244 g63 dL_law_40 (by rw [hk]; decide) (by rw [hk]; decide) (by rw [hk]; decide) (by decide) (lc_18 hst hin hE hxs hn hL hI hnext)
  | 19, hk => exact j_tabIn hO 1272 1312 g63 dL_law_40 (by rw [hk]; decide) (by rw [hk]; decide) (by rw [hk]; decide) (by decide) (lc_19 hst hin hE hxs hn hL hI hnext)
  | 20, hk => exact j_tabIn hO 1340 1380 g63 dL_law_40 (by rw [hk]; decide) (by rw [hk]; decide) (by rw [hk]; decide) (by decide) (lc_20 hst hin hE hxs hn hL hI hnext)
  | 21, hk => exact j_tabIn hO 1393 1433 g63 dL_law_40 (by rw [hk]; decide) (by rw [hk]; decide) (by rw [hk]; decide) (by decide) (lc_21 hst hin hE hxs hn hL hI hnext)
  | 22, hk => exact j_tabIn hO 1473 1513 g63 dL_law_40 (by rw [hk]; decide) (by rw [hk]; decide) (by rw [hk]; decide) (by decide) (lc_22 hst hin hE hxs hn hL hI hnext)
  | 23, hk => exact j_tabIn hO 1498 1538 g63 dL_law_40 (by rw [hk]; decide) (by rw [hk]; decide) (by rw [hk]; decide) (by decide) (lc_23 hst hin hE hxs hn hL hI hnext)
  | 24, hk => exact j_tabIn hO 1577 1617 g63 dL_law_40 (by rw [hk]; decide) (by rw [hk]; decide) (by rw [hk]; decide) (by decide) (lc_24 hst hin hE hxs hn hL hI hnext)
  | 25, hk => exact j_tabIn hO 1621 1661 g63 dL_law_40 (by rw [hk]; decide) (by rw [hk]; decide) (by rw [hk]; decide) (by decide) (lc_25 hst hin hE hxs hn hL hI hnext)
  | 26, hk => exact j_tabIn hO 1677 1717 g63 dL_law_40 (by rw [hk]; decide) (by rw [hk]; decide) (by rw [hk]; decide) (by decide) (lc_26 hst hin hE hxs hn hL hI hnext)
  | 27, hk => exact j_tabIn hO 1733 1773 g63 dL_law_40 (by rw [hk]; decide) (by rw [hk]; decide) (by rw [hk]; decide) (by decide) (lc_27 hst hin hE hxs hn hL hI hnext)
  | 28, hk => exact j_tabIn hO 1782 1822 g63 dL_law_40 (by rw [hk]; decide) (by rw [hk]; decide) (by rw [hk]; decide) (by decide) (lc_28 hst hin hE hxs hn hL hI hnext)
  | 29, hk => exact j_tabIn hO 1861 1901 g63 dL_law_40 (by rw [hk]; decide) (by rw [hk]; decide) (by rw [hk]; decide) (by decide) (lc_29 hst hin hE hxs hn hL hI hnext)
  | 30, hk => exact j_tabIn hO 1953 1993 g63 dL_law_40 (by rw [hk]; decide) (by rw [hk]; decide) (by rw [hk]; decide) (by decide) (lc_30 hst hin hE hxs hn hL hI hnext)
  | 31, hk => exact j_tabIn hO 1990 2030 g63 dL_law_40 (by rw [hk]; decide) (by rw [hk]; decide) (by rw [hk]; decide) (by decide) (lc_31 hst hin hE hxs hn hL hI hnext)
  | 32, hk => exact j_tabIn hO 2082 2122 g63 dL_law_40 (by rw [hk]; decide) (by rw [hk]; decide) (by rw [hk]; decide) (by decide) (lc_32 hst hin hE hxs hn hL hI hnext)
  | 33, hk => exact j_tabIn hO 2147 2187 g63 dL_law_40 (by rw [hk]; decide) (by rw [hk]; decide) (by rw [hk]; decide) (by decide) (lc_33 hst hin hE hxs hn hL hI hnext)
  | 34, hk => exact j_tabIn hO 2203 2243 g63 dL_law_40 (by rw [hk]; decide) (by rw [hk]; decide) (by rw [hk]; decide) (by decide) (lc_34 hst hin hE hxs hn hL hI hnext)
  | 35, hk => exact j_tabIn hO 2240 2280 g63 dL_law_40 (by rw [hk]; decide) (by rw [hk]; decide) (by rw [hk]; decide) (by decide) (lc_35 hst hin hE hxs hn hL hI hnext)
  | 36, hk => exact j_tabIn hO 2320 2360 g63 dL_law_40 (by rw [hk]; decide) (by rw [hk]; decide) (by rw [hk]; decide) (by decide) (lc_36 hst hin hE hxs hn hL hI hnext)
  | 37, hk => exact j_tabIn hO 2345 2385 g63 dL_law_40 (by rw [hk]; decide) (by rw [hk]; decide) (by rw [hk]; decide) (by decide) (lc_37 hst hin hE hxs hn hL hI hnext)
  | 38, hk => exact j_tabIn hO 2444 2484 g63 dL_law_40 (by rw [hk]; decide) (by rw [hk]; decide) (by rw [hk]; decide) (by decide) (lc_38 hst hin hE hxs hn hL hI hnext)
  | 39, hk => exact j_tabIn hO 2500 2540 g63 dL_law_40 (by rw [hk]; decide) (by rw [hk]; decide) (by rw [hk]; decide) (by decide) (lc_39 hst hin hE hxs hn hL hI hnext)
  | 40, hk => exact j_tabIn hO 2567 2607 g63 dL_law_40 (by rw [hk]; decide) (by rw [hk]; decide) (by rw [hk]; decide) (by decide) (lc_40 hst hin hE hxs hn hL hI hnext)
  | 41, hk => exact j_tabIn hO 2623 2663 g63 dL_law_40 (by rw [hk]; decide) (by rw [hk]; decide) (by rw [hk]; decide) (by decide) (lc_41 hst hin hE hxs hn hL hI hnext)
  | 42, hk => exact j_tabIn hO 2648 2688 g63 dL_law_40 (by rw [hk]; decide) (by rw [hk]; decide) (by rw [hk]; decide) (by decide) (lc_42 hst hin hE hxs hn hL hI hnext)
  | 43, hk => exact j_tabIn hO 2735 2775 g63 dL_law_40 (by rw [hk]; decide) (by rw [hk]; decide) (by rw [hk]; decide) (by decide) (lc_43 hst hin hE hxs hn hL hI hnext)
  | 44, hk => exact j_tabIn hO 2760 2800 g63 dL_law_40 (by rw [hk]; decide) (by rw [hk]; decide) (by rw [hk]; decide) (by decide) (lc_44 hst hin hE hxs hn hL hI hnext)
  | 45, hk => exact j_tabIn hO 2816 2856 g63 dL_law_40 (by rw [hk]; decide) (by rw [hk]; decide) (by rw [hk]; decide) (by decide) (lc_45 hst hin hE hxs hn hL hI hnext)
  | 46, hk => exact j_tabIn hO 2841 2881 g63 dL_law_40 (by rw [hk]; decide) (by rw [hk]; decide) (by rw [hk]; decide) (by decide) (lc_46 hst hin hE hxs hn hL hI hnext)
  | 47, hk => exact j_tabIn hO 2897 2937 g63 dL_law_40 (by rw [hk]; decide) (by rw [hk]; decide) (by rw [hk]; decide) (by decide) (lc_47 hst hin hE hxs hn hL hI hnext)
  | 48, hk => exact j_tabIn hO 2953 2993 g63 dL_law_40 (by rw [hk]; decide) (by rw [hk]; decide) (by rw [hk]; decide) (by decide) (lc_48 hst hin hE hxs hn hL hI hnext)
  | 49, hk => exact j_tabIn hO 2978 3018 g63 dL_law_40 (by rw [hk]; decide) (by rw [hk]; decide) (by rw [hk]; decide) (by decide) (lc_49 hst hin hE hxs hn hL hI hnext)
  | 50, hk => exact j_tabIn hO 3046 3086 g63 dL_law_40 (by rw [hk]; decide) (by rw [hk]; decide) (by rw [hk]; decide) (by decide) (lc_50 hst hin hE hxs hn hL hI hnext)
  | k + 51, hk => exact j_tabOut hO 3111 g63 dL_law_40 (Or.inr (by omega)) (by decide) (hE.2.2 _ _ _ _ _ _ _ _ (by omega) (by omega) (hnext _ (InvL_up hI)))
set_option maxHeartbeats 4000000 in
set_option maxRecDepth 100000 in
theorem lw_loop {l : Launch} {D : va_G} {cy : Nat → ClassId} {ad : Nat → Nat} {xs : Nat → Int} {L : Nat} {J : Nat → Nat → Nat → List (Nat × Value) → List Value → MM → Prop} (hst : l.stackTraces = false) (hin : jIn ad ksK.length) (hE : LwE l D cy ad xs L J) (hxs : ∀ j, ri_ (xs j)) (hL : L ≤ 3072) (hend : ∀ (c0 s0 : Nat) (lv : List (Nat × Value)) (M : MM), c0 ≤ 601000 → s0 ≤ 7293000 → J c0 s0 3117 lv [] M) : ∀ (d n : Nat), n + d = 513 → ∀ M : MM, InvL n M → J (390 + 3 * n) (571600 + 18 * n) 23 [(0, .ref (ad 910)), (1, .ref (ad 0)), (2, .ref (ad 286)), (3, .ref (ad 389)), (4, .int (Ii (6 * (n : Int))))] [] M := by
  intro d
  induction d with
  | zero =>
    intro n hn M hI
    have hO := hE.1 (390 + 3 * n) (571600 + 18 * n) (by omega) (by omega)
    have gi : ri_ (6 * (n : Int)) := by unfold ri_; omega
    refine j_iload hO dL_law_23 4 rfl ?_
    refine j_aload_n hO dL_law_25 rfl 0 rfl ?_
    refine j_tlen hO XtB_sc dL_law_26 ?_
    refine j_bipush hO dL_law_27 (by decide) ?_
    refine j_isub hO dL_law_29 ?_
    refine j_icmp_gt hO 3117 gi (by unfold ri_; omega) dL_law_30 (by decide) (fun z => hend _ _ _ _ (by omega) (by omega)) (fun z => ?_)
    exact absurd (by omega) z
  | succ d ih =>
    intro n hn M hI
    have hO := hE.1 (390 + 3 * n) (571600 + 18 * n) (by omega) (by omega)
    have gi : ri_ (6 * (n : Int)) := by unfold ri_; omega
    refine j_iload hO dL_law_23 4 rfl ?_
    refine j_aload_n hO dL_law_25 rfl 0 rfl ?_
    refine j_tlen hO XtB_sc dL_law_26 ?_
    refine j_bipush hO dL_law_27 (by decide) ?_
    refine j_isub hO dL_law_29 ?_
    refine j_icmp_gt hO 3117 gi (by unfold ri_; omega) dL_law_30 (by decide) (fun z => hend _ _ _ _ (by omega) (by omega)) (fun z => ?_)
    refine j_aload_n hO dL_law_33 rfl 0 rfl ?_
    refine j_iload hO dL_law_34 4 rfl ?_
    refine j_ti hO XtB_sc gi (by omega) (by omega) dL_law_36 ?_
    refine j_bipush hO dL_law_37 (by decide) ?_
    refine j_iand hO dL_law_39 ?_
    refine lw_switch hst hin hE hxs (by omega) (by omega) hI (fun M1 hI1 => ?_)
    have hO := hE.1 (390 + 3 * (n + 1)) (571600 + 18 * (n + 1)) (by omega) (by omega)
    refine j_iinc (lv' := [(4, .int (Ii (6 * (n : Int) + 6))), (0, .ref (ad 910)), (1, .ref (ad 0)), (2, .ref (ad 286)), (3, .ref (ad 389))]) (k := 4) hO dL_law_3111 rfl (by decide) rfl ?_
    refine j_goto hO 23 dL_law_3114 (by decide) ?_
    have h9 := ih (n + 1) (by omega) M1 hI1
    rw [show 6 * (((n + 1 : Nat) : Nat) : Int) = 6 * (n : Int) + 6 from by omega] at h9
    exact j_sub hO [1, 2, 3, 4, 0] rfl h9
