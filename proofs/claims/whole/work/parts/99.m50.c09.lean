def W_X6_readPromise (ad : Nat → Nat) (Q : Int → MM → Prop) (av : List Value) (M : MM) : Prop := ∃ (c : Nat), av = [.ref (ad c)] ∧ isG c ∧ w_X6_readPromise c Q  M
set_option maxHeartbeats 4000000 in
set_option maxRecDepth 100000 in
theorem c_X6_readPromise {l : Launch} {D : va_G} {cy : Nat → ClassId} {ad : Nat → Nat} (hin : jIn ad ksC.length) : jCN l D vwCl (tyC cy) cy ad ftC ksC (XtC ad) yX6_readPromise (.code yX6_readPromise cX6_readPromise 1 (some .boolean) :: Om) ({ frames := 305, cells := 0, slots := 0, locals := 7333 } : Room) 3 (W_X6_readPromise ad) := by
  refine jCN_of (y := yX6_readPromise) (cc := cX6_readPromise) (nL := 1) (rk := 3) (rm := ({ frames := 305, cells := 0, slots := 0, locals := 7333 } : Room)) (own := RX6) (tyC_ok cy) hin (XtC_ok ad) Om_good (by decide) rfl ?_
  intro Q av M hF
  obtain ⟨c, rfl, hc, hF⟩ := hF
  refine ⟨Nat.le_of_ble_eq_true rfl, fun J hJ => ?_⟩
  show J 0 [(0, .ref (ad c))] [] M
  unfold w_X6_readPromise at hF
  refine j_aload_n hJ dX6_readPromise_0 rfl 0 rfl ?_
  refine j_callVv hJ (c_X6_start (l := l) (D := D) (cy := cy) (ad := ad) hin) rfl om_605 ⟨rfl, rfl, Nat.le_of_ble_eq_true rfl, Nat.le_of_ble_eq_true rfl⟩ [] mv_X6_38 hd_X6_startv (kG_0 hc) rfl rfl rfl (Nat.le_of_ble_eq_true rfl) dX6_readPromise_1 ⟨c, rfl, hc, hF⟩ (fun M2 qM2 => ?_)
  have hF := qM2
  refine j_aload_n hJ dX6_readPromise_4 rfl 0 rfl ?_
  refine j_callVz hJ (c_X6_readE (l := l) (D := D) (cy := cy) (ad := ad) hin) rfl om_671 ⟨rfl, rfl, Nat.le_of_ble_eq_true rfl, Nat.le_of_ble_eq_true rfl⟩ [] mv_X6_41 hd_X6_readEv (kG_0 hc) rfl rfl rfl (Nat.le_of_ble_eq_true rfl) dX6_readPromise_5 ⟨c, rfl, hc, hF⟩ (fun r3 M4 gr3 qM4 => ?_)
  have hF := qM4 gr3
  refine j_if_eq hJ 32 (jz_ri gr3) dX6_readPromise_8 (by decide) (fun z5 => ?_) (fun z5 => ?_)
  · have hF := hF.1 z5
    refine j_iconst hJ dX6_readPromise_32 ?_
    exact j_zret hJ rfl (by decide) dX6_readPromise_33 hF
  · have hF := hF.2 z5
    refine j_aload_n hJ dX6_readPromise_11 rfl 0 rfl ?_
    refine j_ga hJ (kG_0 hc) fC_9_0 fl_X6_9 dX6_readPromise_12 ?_
    refine j_gi hJ kC_1 fC_12_9 rfl fl_X6_45 dX6_readPromise_15 (fun v6 ev6 gv6 => ?_)
    have hF := hF v6 ev6 gv6
    refine j_if_eq hJ 28 gv6 dX6_readPromise_18 (by decide) (fun z7 => ?_) (fun z7 => ?_)
    · have hF := hF.1 z7
      refine j_iconst hJ dX6_readPromise_28 ?_
      refine j_goto hJ 33 dX6_readPromise_29 (by decide) ?_
      exact j_zret hJ rfl (by decide) dX6_readPromise_33 hF
    · have hF := hF.2 z7
      refine j_aload_n hJ dX6_readPromise_21 rfl 0 rfl ?_
      refine j_callVz hJ (c_X6_refuse (l := l) (D := D) (cy := cy) (ad := ad) hin) rfl om_643 ⟨rfl, rfl, Nat.le_of_ble_eq_true rfl, Nat.le_of_ble_eq_true rfl⟩ [] mv_X6_51 hd_X6_refusev (kG_0 hc) rfl rfl rfl (Nat.le_of_ble_eq_true rfl) dX6_readPromise_22 ⟨c, rfl, hc, hF⟩ (fun r8 M9 gr8 qM9 => ?_)
      have hF := qM9 gr8
      refine j_if_eq hJ 32 (jz_ri gr8) dX6_readPromise_25 (by decide) (fun z10 => ?_) (fun z10 => ?_)
      · have hF := hF.1 z10
        refine j_iconst hJ dX6_readPromise_32 ?_
        exact j_zret hJ rfl (by decide) dX6_readPromise_33 hF
      · have hF := hF.2 z10
        refine j_iconst hJ dX6_readPromise_28 ?_
        refine j_goto hJ 33 dX6_readPromise_29 (by decide) ?_
        exact j_zret hJ rfl (by decide) dX6_readPromise_33 hF
def W_X6_readQuestion (ad : Nat → Nat) (Q : Int → MM → Prop) (av : List Value) (M : MM) : Prop := ∃ (c : Nat), av = [.ref (ad c)] ∧ isG c ∧ w_X6_readQuestion c Q  M
set_option maxHeartbeats 4000000 in
set_option maxRecDepth 100000 in
theorem k_X6_readQuestion_b90 {l : Launch} {D : va_G} {cy : Nat → ClassId} {ad : Nat → Nat} {Q : Int → MM → Prop} {J : Nat → List (Nat × Value) → List Value → MM → Prop} (hin : jIn ad ksC.length) {c : Nat} (hc : isG c) (hJ : jOk l D vwCl (tyC cy) cy ad ftC ksC (XtC ad) Om RX6 cX6_readQuestion 2 3 ({ frames := 305, cells := 0, slots := 0, locals := 7333 } : Room) Q J)  : ∀ (x1 : Int) (M : MM), ri_ x1 → w_X6_readQuestion_b90 c Q  x1 M → J 90 [(0, .ref (ad c)), (1, .int (Ii x1))] [] M := by
  intro x1 M gx1 hF
  unfold w_X6_readQuestion_b90 at hF
  refine j_aload_n hJ dX6_readQuestion_90 rfl 0 rfl ?_
  refine j_gr (e := (c + 3)) hJ (kG_0 hc) fC_9_3 fl_X6_22 dX6_readQuestion_91 rfl ?_
  refine j_iload_n hJ dX6_readQuestion_94 rfl 1 rfl ?_
  refine j_aload_n hJ dX6_readQuestion_95 rfl 0 rfl ?_
  refine j_gi hJ (kG_0 hc) fC_9_5 rfl fl_X6_72 dX6_readQuestion_96 (fun v1 ev1 gv1 => ?_)
  have hF := hF v1 ev1 gv1
  refine j_iast hJ gx1 gv1 (kG_3 hc) hF.1 hF.2.1 dX6_readQuestion_99 (fun M2 eM2 => ?_)
  have hF := hF.2.2 M2 eM2
  refine j_aload_n hJ dX6_readQuestion_100 rfl 0 rfl ?_
  refine j_ga hJ (kG_0 hc) fC_9_0 fl_X6_9 dX6_readQuestion_101 ?_
  refine j_gi hJ kC_1 fC_12_9 rfl fl_X6_45 dX6_readQuestion_104 (fun v3 ev3 gv3 => ?_)
  have hF := hF v3 ev3 gv3
  refine j_if_eq hJ 117 gv3 dX6_readQuestion_107 (by decide) (fun z4 => ?_) (fun z4 => ?_)
  · have hF := hF.1 z4
    refine j_iconst hJ dX6_readQuestion_117 ?_
    refine j_goto hJ 122 dX6_readQuestion_118 (by decide) ?_
    exact j_zret hJ rfl (by decide) dX6_readQuestion_122 hF
  · have hF := hF.2 z4
    refine j_aload_n hJ dX6_readQuestion_110 rfl 0 rfl ?_
    refine j_callVz hJ (c_X6_refuse (l := l) (D := D) (cy := cy) (ad := ad) hin) rfl om_643 ⟨rfl, rfl, Nat.le_of_ble_eq_true rfl, Nat.le_of_ble_eq_true rfl⟩ [] mv_X6_51 hd_X6_refusev (kG_0 hc) rfl rfl rfl (Nat.le_of_ble_eq_true rfl) dX6_readQuestion_111 ⟨c, rfl, hc, hF⟩ (fun r5 M6 gr5 qM6 => ?_)
    have hF := qM6 gr5
    refine j_if_eq hJ 121 (jz_ri gr5) dX6_readQuestion_114 (by decide) (fun z7 => ?_) (fun z7 => ?_)
    · have hF := hF.1 z7
      refine j_iconst hJ dX6_readQuestion_121 ?_
      exact j_zret hJ rfl (by decide) dX6_readQuestion_122 hF
    · have hF := hF.2 z7
      refine j_iconst hJ dX6_readQuestion_117 ?_
      refine j_goto hJ 122 dX6_readQuestion_118 (by decide) ?_
      exact j_zret hJ rfl (by decide) dX6_readQuestion_122 hF
set_option maxHeartbeats 4000000 in
set_option maxRecDepth 100000 in
theorem c_X6_readQuestion {l : Launch} {D : va_G} {cy : Nat → ClassId} {ad : Nat → Nat} (hin : jIn ad ksC.length) : jCN l D vwCl (tyC cy) cy ad ftC ksC (XtC ad) yX6_readQuestion (.code yX6_readQuestion cX6_readQuestion 2 (some .boolean) :: Om) ({ frames := 305, cells := 0, slots := 0, locals := 7333 } : Room) 3 (W_X6_readQuestion ad) := by
  refine jCN_of (y := yX6_readQuestion) (cc := cX6_readQuestion) (nL := 2) (rk := 3) (rm := ({ frames := 305, cells := 0, slots := 0, locals := 7333 } : Room)) (own := RX6) (tyC_ok cy) hin (XtC_ok ad) Om_good (by decide) rfl ?_
  intro Q av M hF
  obtain ⟨c, rfl, hc, hF⟩ := hF
  refine ⟨Nat.le_of_ble_eq_true rfl, fun J hJ => ?_⟩
  show J 0 [(0, .ref (ad c))] [] M
  unfold w_X6_readQuestion at hF
  refine j_aload_n hJ dX6_readQuestion_0 rfl 0 rfl ?_
  refine j_callVv hJ (c_X6_start (l := l) (D := D) (cy := cy) (ad := ad) hin) rfl om_605 ⟨rfl, rfl, Nat.le_of_ble_eq_true rfl, Nat.le_of_ble_eq_true rfl⟩ [] mv_X6_38 hd_X6_startv (kG_0 hc) rfl rfl rfl (Nat.le_of_ble_eq_true rfl) dX6_readQuestion_1 ⟨c, rfl, hc, hF⟩ (fun M2 qM2 => ?_)
  have hF := qM2
  refine j_aload_n hJ dX6_readQuestion_4 rfl 0 rfl ?_
  refine j_iconst hJ dX6_readQuestion_5 ?_
  refine j_callVz hJ (c_X6_readSet (l := l) (D := D) (cy := cy) (ad := ad) hin) rfl om_699 ⟨rfl, rfl, Nat.le_of_ble_eq_true rfl, Nat.le_of_ble_eq_true rfl⟩ [.int (Ii 0)] mv_X6_54 hd_X6_readSetv (kG_0 hc) rfl rfl rfl (Nat.le_of_ble_eq_true rfl) dX6_readQuestion_6 ⟨c, 0, rfl, hc, rk_0, hF⟩ (fun r3 M4 gr3 qM4 => ?_)
  have hF := qM4 gr3
  refine j_if_ne hJ 14 (jz_ri gr3) dX6_readQuestion_9 (by decide) (fun z5 => ?_) (fun z5 => ?_)
  · have hF := hF.1 z5
    refine j_aload_n hJ dX6_readQuestion_14 rfl 0 rfl ?_
    refine j_bipush hJ dX6_readQuestion_15 (by decide) ?_
    refine j_iconst hJ dX6_readQuestion_17 ?_
    refine j_iconst hJ dX6_readQuestion_18 ?_
    refine j_lconst (x := 0) hJ dX6_readQuestion_19 rfl ?_
    refine j_callVi hJ (c_X6_emit (l := l) (D := D) (cy := cy) (ad := ad) hin) rfl om_623 ⟨rfl, rfl, Nat.le_of_ble_eq_true rfl, Nat.le_of_ble_eq_true rfl⟩ [.int (Ii 36), .int (Ii 0), .int (Ii 0), .long (Ll 0)] mv_X6_58 hd_X6_emitv (kG_0 hc) rfl rfl rfl (Nat.le_of_ble_eq_true rfl) dX6_readQuestion_20 ⟨c, 36, 0, 0, 0, rfl, hc, rk_36, rk_0, rk_0, lkm_0, hF⟩ (fun r6 M7 gr6 qM7 => ?_)
    have hF := qM7 gr6
    refine j_istore_n (lv' := [(1, .int (Ii r6)), (0, .ref (ad c))]) hJ dX6_readQuestion_23 rfl (by decide) rfl ?_
    refine j_aload_n hJ dX6_readQuestion_24 rfl 1 rfl ?_
    refine j_iconst hJ dX6_readQuestion_25 ?_
    refine j_pz hJ (by decide) (kG_0 hc) fC_9_13 rfl fp_X6_62 dX6_readQuestion_26 (fun M8 eM8 => ?_)
    have hF := hF M8 eM8
    refine j_aload_n hJ dX6_readQuestion_29 rfl 1 rfl ?_
    refine j_iload_n hJ dX6_readQuestion_30 rfl 0 rfl ?_
    refine j_callVz hJ (c_X6_readWhere (l := l) (D := D) (cy := cy) (ad := ad) hin) rfl om_707 ⟨rfl, rfl, Nat.le_of_ble_eq_true rfl, Nat.le_of_ble_eq_true rfl⟩ [.int (Ii r6)] mv_X6_66 hd_X6_readWherev (kG_0 hc) rfl rfl rfl (Nat.le_of_ble_eq_true rfl) dX6_readQuestion_31 ⟨c, r6, rfl, hc, gr6, hF⟩ (fun r9 M10 gr9 qM10 => ?_)
    have hF := qM10 gr9
    refine j_if_ne hJ 39 (jz_ri gr9) dX6_readQuestion_34 (by decide) (fun z11 => ?_) (fun z11 => ?_)
    · have hF := hF.1 z11
      refine j_aload_n hJ dX6_readQuestion_39 rfl 1 rfl ?_
      refine j_ga hJ (kG_0 hc) fC_9_0 fl_X6_9 dX6_readQuestion_40 ?_
      refine j_gi hJ kC_1 fC_12_9 rfl fl_X6_45 dX6_readQuestion_43 (fun v12 ev12 gv12 => ?_)
      have hF := hF v12 ev12 gv12
      refine j_bipush hJ dX6_readQuestion_46 (by decide) ?_
      refine j_icmp_ne hJ 80 gv12 rk_35 dX6_readQuestion_48 (by decide) (fun z13 => ?_) (fun z13 => ?_)
      · have hF := hF.1 z13
        refine j_aload_n hJ dX6_readQuestion_80 rfl 1 rfl ?_
        refine j_bipush hJ dX6_readQuestion_81 (by decide) ?_
        refine j_iconst hJ dX6_readQuestion_83 ?_
        refine j_iload_n hJ dX6_readQuestion_84 rfl 0 rfl ?_
        refine j_lconst (x := 0) hJ dX6_readQuestion_85 rfl ?_
        refine j_callVi hJ (c_X6_emit (l := l) (D := D) (cy := cy) (ad := ad) hin) rfl om_623 ⟨rfl, rfl, Nat.le_of_ble_eq_true rfl, Nat.le_of_ble_eq_true rfl⟩ [.int (Ii 41), .int (Ii 0), .int (Ii r6), .long (Ll 0)] mv_X6_58 hd_X6_emitv (kG_0 hc) rfl rfl rfl (Nat.le_of_ble_eq_true rfl) dX6_readQuestion_86 ⟨c, 41, 0, r6, 0, rfl, hc, rk_41, rk_0, gr6, lkm_0, hF⟩ (fun r14 M15 gr14 qM15 => ?_)
        have hF := qM15 gr14
        refine j_pop hJ dX6_readQuestion_89 rfl ?_
        exact j_sub hJ [1, 0] rfl (k_X6_readQuestion_b90 hin hc hJ  r6 _ gr6 hF)
      · have hF := hF.2 z13
        refine j_aload_n hJ dX6_readQuestion_51 rfl 1 rfl ?_
        refine j_ga hJ (kG_0 hc) fC_9_0 fl_X6_9 dX6_readQuestion_52 ?_
        refine j_callVv hJ (c_X9_nextWord (l := l) (D := D) (cy := cy) (ad := ad) hin) rfl om_597 ⟨rfl, rfl, Nat.le_of_ble_eq_true rfl, Nat.le_of_ble_eq_true rfl⟩ [] mv_X6_69 hd_X9_nextWordv kC_1 rfl rfl rfl (Nat.le_of_ble_eq_true rfl) dX6_readQuestion_55 ⟨rfl, hF⟩ (fun M17 qM17 => ?_)
        have hF := qM17
        refine j_aload_n hJ dX6_readQuestion_58 rfl 1 rfl ?_
        refine j_callVz hJ (c_X6_readE (l := l) (D := D) (cy := cy) (ad := ad) hin) rfl om_671 ⟨rfl, rfl, Nat.le_of_ble_eq_true rfl, Nat.le_of_ble_eq_true rfl⟩ [] mv_X6_41 hd_X6_readEv (kG_0 hc) rfl rfl rfl (Nat.le_of_ble_eq_true rfl) dX6_readQuestion_59 ⟨c, rfl, hc, hF⟩ (fun r18 M19 gr18 qM19 => ?_)
        have hF := qM19 gr18
        refine j_if_ne hJ 67 (jz_ri gr18) dX6_readQuestion_62 (by decide) (fun z20 => ?_) (fun z20 => ?_)
        · have hF := hF.1 z20
          refine j_aload_n hJ dX6_readQuestion_67 rfl 1 rfl ?_
          refine j_bipush hJ dX6_readQuestion_68 (by decide) ?_
          refine j_iconst hJ dX6_readQuestion_70 ?_
          refine j_iload_n hJ dX6_readQuestion_71 rfl 0 rfl ?_
          refine j_lconst (x := 0) hJ dX6_readQuestion_72 rfl ?_
          refine j_callVi hJ (c_X6_emit (l := l) (D := D) (cy := cy) (ad := ad) hin) rfl om_623 ⟨rfl, rfl, Nat.le_of_ble_eq_true rfl, Nat.le_of_ble_eq_true rfl⟩ [.int (Ii 40), .int (Ii 0), .int (Ii r6), .long (Ll 0)] mv_X6_58 hd_X6_emitv (kG_0 hc) rfl rfl rfl (Nat.le_of_ble_eq_true rfl) dX6_readQuestion_73 ⟨c, 40, 0, r6, 0, rfl, hc, rk_40, rk_0, gr6, lkm_0, hF⟩ (fun r21 M22 gr21 qM22 => ?_)
          have hF := qM22 gr21
          refine j_pop hJ dX6_readQuestion_76 rfl ?_
          refine j_goto hJ 90 dX6_readQuestion_77 (by decide) ?_
          exact j_sub hJ [1, 0] rfl (k_X6_readQuestion_b90 hin hc hJ  r6 _ gr6 hF)
        · have hF := hF.2 z20
          refine j_iconst hJ dX6_readQuestion_65 ?_
          exact j_zret hJ rfl (by decide) dX6_readQuestion_66 hF
    · have hF := hF.2 z11
      refine j_iconst hJ dX6_readQuestion_37 ?_
      exact j_zret hJ rfl (by decide) dX6_readQuestion_38 hF
  · have hF := hF.2 z5
    refine j_iconst hJ dX6_readQuestion_12 ?_
    exact j_zret hJ rfl (by decide) dX6_readQuestion_13 hF
def W_X7_isPlainName (ad : Nat → Nat) (Q : Int → MM → Prop) (av : List Value) (M : MM) : Prop := av = [.ref (ad 261)] ∧ w_X7_isPlainName  Q  M
set_option maxHeartbeats 4000000 in
set_option maxRecDepth 100000 in
theorem c_X7_isPlainName {l : Launch} {D : va_G} {cy : Nat → ClassId} {ad : Nat → Nat} (hin : jIn ad ksC.length) : jCN l D vwCl (tyC cy) cy ad ftC ksC (XtC ad) yX7_isPlainName (.code yX7_isPlainName cX7_isPlainName 1 (some .boolean) :: Om) ({ frames := 0, cells := 0, slots := 0, locals := 0 } : Room) 3 (W_X7_isPlainName ad) := by
  refine jCN_of (y := yX7_isPlainName) (cc := cX7_isPlainName) (nL := 1) (rk := 3) (rm := ({ frames := 0, cells := 0, slots := 0, locals := 0 } : Room)) (own := RX7) (tyC_ok cy) hin (XtC_ok ad) Om_good (by decide) rfl ?_
  intro Q av M hF
  obtain ⟨rfl, hF⟩ := hF
  refine ⟨Nat.le_of_ble_eq_true rfl, fun J hJ => ?_⟩
  show J 0 [(0, .ref (ad 261))] [] M
  unfold w_X7_isPlainName at hF
  refine j_aload_n hJ dX7_isPlainName_0 rfl 0 rfl ?_
  refine j_ga hJ kC_261 fC_10_0 fl_X7_9 dX7_isPlainName_1 ?_
  refine j_gi hJ kC_1 fC_12_9 rfl fl_X7_86 dX7_isPlainName_4 (fun v1 ev1 gv1 => ?_)
  have hF := hF v1 ev1 gv1
  refine j_iconst hJ dX7_isPlainName_7 ?_
  refine j_icmp_ne hJ 45 gv1 rk_2 dX7_isPlainName_8 (by decide) (fun z2 => ?_) (fun z2 => ?_)
  · have hF := hF.1 z2
    refine j_iconst hJ dX7_isPlainName_45 ?_
    exact j_zret hJ rfl (by decide) dX7_isPlainName_46 hF
  · have hF := hF.2 z2
    refine j_aload_n hJ dX7_isPlainName_11 rfl 0 rfl ?_
    refine j_ga hJ kC_261 fC_10_0 fl_X7_9 dX7_isPlainName_12 ?_
    refine j_gl hJ kC_1 fC_12_11 rfl fl_X7_100 dX7_isPlainName_15 (fun v3 ev3 gv3 => ?_)
    have hF := hF v3 ev3 gv3
    refine j_aload_n hJ dX7_isPlainName_18 rfl 0 rfl ?_
    refine j_gl hJ kC_261 fC_10_1 rfl fl_X7_23 dX7_isPlainName_19 (fun v4 ev4 gv4 => ?_)
    have hF := hF v4 ev4 gv4
    refine j_lcmp_eq hJ 45 gv3 gv4 dX7_isPlainName_22 dX7_isPlainName_23 (by decide) (fun z5 => ?_) (fun z5 => ?_)
    · have hF := hF.1 z5
      refine j_iconst hJ dX7_isPlainName_45 ?_
      exact j_zret hJ rfl (by decide) dX7_isPlainName_46 hF
    · have hF := hF.2 z5
      refine j_aload_n hJ dX7_isPlainName_26 rfl 0 rfl ?_
      refine j_ga hJ kC_261 fC_10_0 fl_X7_9 dX7_isPlainName_27 ?_
      refine j_gl hJ kC_1 fC_12_11 rfl fl_X7_100 dX7_isPlainName_30 (fun v6 ev6 gv6 => ?_)
      have hF := hF v6 ev6 gv6
      refine j_aload_n hJ dX7_isPlainName_33 rfl 0 rfl ?_
      refine j_gl hJ kC_261 fC_10_2 rfl fl_X7_29 dX7_isPlainName_34 (fun v7 ev7 gv7 => ?_)
      have hF := hF v7 ev7 gv7
      refine j_lcmp_eq hJ 45 gv6 gv7 dX7_isPlainName_37 dX7_isPlainName_38 (by decide) (fun z8 => ?_) (fun z8 => ?_)
      · have hF := hF.1 z8
        refine j_iconst hJ dX7_isPlainName_45 ?_
        exact j_zret hJ rfl (by decide) dX7_isPlainName_46 hF
      · have hF := hF.2 z8
        refine j_iconst hJ dX7_isPlainName_41 ?_
        refine j_goto hJ 46 dX7_isPlainName_42 (by decide) ?_
        exact j_zret hJ rfl (by decide) dX7_isPlainName_46 hF
def W_X7_relationOf (ad : Nat → Nat) (Q : Int → MM → Prop) (av : List Value) (M : MM) : Prop := ∃ (p1 : Int), av = [.ref (ad 261), .long (Ll p1)] ∧ rl_ p1 ∧ w_X7_relationOf  Q p1 M
set_option maxHeartbeats 4000000 in
set_option maxRecDepth 100000 in
theorem k_X7_relationOf_b2 {l : Launch} {D : va_G} {cy : Nat → ClassId} {ad : Nat → Nat} {Q : Int → MM → Prop} {J : Nat → List (Nat × Value) → List Value → MM → Prop} (hin : jIn ad ksC.length)   (hJ : jOk l D vwCl (tyC cy) cy ad ftC ksC (XtC ad) Om RX7 cX7_relationOf 4 1 ({ frames := 0, cells := 0, slots := 0, locals := 0 } : Room) Q J)  : ∀ (x1 x3 : Int) (M : MM), rl_ x1 → ri_ x3 → w_X7_relationOf_b2  Q  x1 x3 M → J 2 [(0, .ref (ad 261)), (1, .long (Ll x1)), (3, .int (Ii x3))] [] M := by
  have H9 : ∀ (n : Nat) (x1 x3 : Int) (M : MM), rl_ x1 → ri_ x3 → jit (fun _ _ _ => False) (wb_X7_relationOf_b2  Q ) n x1 x3 M → J 2 [(0, .ref (ad 261)), (1, .long (Ll x1)), (3, .int (Ii x3))] [] M := by
    intro n
    induction n with
    | zero => intro x1 x3 M gx1 gx3 hF; exact False.elim hF
    | succ n ih =>
    intro x1 x3 M gx1 gx3 hF
    have hF : wb_X7_relationOf_b2  Q  (jit (fun _ _ _ => False) (wb_X7_relationOf_b2  Q ) n) x1 x3 M := hF
    unfold wb_X7_relationOf_b2 at hF
    refine j_iload_n hJ dX7_relationOf_2 rfl 2 rfl ?_
    refine j_aload_n hJ dX7_relationOf_3 rfl 0 rfl ?_
    refine j_gi hJ kC_261 fC_10_16 rfl fl_X7_74 dX7_relationOf_4 (fun v1 ev1 gv1 => ?_)
    have hF := hF v1 ev1 gv1
    refine j_icmp_ge hJ 29 gx3 gv1 dX7_relationOf_7 (by decide) (fun z2 => ?_) (fun z2 => ?_)
    · have hF := hF.1 z2
      refine j_aload_n hJ dX7_relationOf_29 rfl 0 rfl ?_
      refine j_gi hJ kC_261 fC_10_16 rfl fl_X7_74 dX7_relationOf_30 (fun v3 ev3 gv3 => ?_)
      have hF := hF v3 ev3 gv3
      refine j_bipush hJ dX7_relationOf_33 (by decide) ?_
      refine j_icmp_ne hJ 40 gv3 rk_6 dX7_relationOf_35 (by decide) (fun z4 => ?_) (fun z4 => ?_)
      · have hF := hF.1 z4
        refine j_aload_n hJ dX7_relationOf_40 rfl 0 rfl ?_
        refine j_gr (e := 272) hJ kC_261 fC_10_17 fl_X7_64 dX7_relationOf_41 rfl ?_
        refine j_aload_n hJ dX7_relationOf_44 rfl 0 rfl ?_
        refine j_gi hJ kC_261 fC_10_16 rfl fl_X7_74 dX7_relationOf_45 (fun v5 ev5 gv5 => ?_)
        have hF := hF v5 ev5 gv5
        refine j_lload_n hJ dX7_relationOf_48 rfl 1 rfl ?_
        refine j_last hJ gv5 gx1 kC_272 hF.1 hF.2.1 dX7_relationOf_49 (fun M6 eM6 => ?_)
        have hF := hF.2.2 M6 eM6
        refine j_aload_n hJ dX7_relationOf_50 rfl 0 rfl ?_
        refine j_gr (e := 273) hJ kC_261 fC_10_18 fl_X7_67 dX7_relationOf_51 rfl ?_
        refine j_aload_n hJ dX7_relationOf_54 rfl 0 rfl ?_
        refine j_gi hJ kC_261 fC_10_16 rfl fl_X7_74 dX7_relationOf_55 (fun v7 ev7 gv7 => ?_)
        have hF := hF v7 ev7 gv7
        refine j_iconst hJ dX7_relationOf_58 ?_
        refine j_iast hJ gv7 rk_0 kC_273 hF.1 hF.2.1 dX7_relationOf_59 (fun M8 eM8 => ?_)
        have hF := hF.2.2 M8 eM8
        refine j_aload_n hJ dX7_relationOf_60 rfl 0 rfl ?_
        refine j_dup hJ dX7_relationOf_61 rfl ?_
        refine j_gi hJ kC_261 fC_10_16 rfl fl_X7_74 dX7_relationOf_62 (fun v9 ev9 gv9 => ?_)
        have hF := hF v9 ev9 gv9
        refine j_iconst hJ dX7_relationOf_65 ?_
        refine j_iadd hJ dX7_relationOf_66 ?_
        have g10 := hF.1; have hF := hF.2
        refine j_pi hJ g10 kC_261 fC_10_16 rfl fp_X7_74 dX7_relationOf_67 (fun M11 eM11 => ?_)
        have hF := hF M11 eM11
        refine j_aload_n hJ dX7_relationOf_70 rfl 0 rfl ?_
        refine j_gi hJ kC_261 fC_10_16 rfl fl_X7_74 dX7_relationOf_71 (fun v12 ev12 gv12 => ?_)
        have hF := hF v12 ev12 gv12
        refine j_iconst hJ dX7_relationOf_74 ?_
        refine j_isub hJ dX7_relationOf_75 ?_
        have g13 := hF.1; have hF := hF.2
        exact j_iret hJ rfl g13 dX7_relationOf_76 hF
      · have hF := hF.2 z4
        refine j_iconst hJ dX7_relationOf_38 ?_
        exact j_iret hJ rfl rk_m1 dX7_relationOf_39 hF
    · have hF := hF.2 z2
      refine j_aload_n hJ dX7_relationOf_10 rfl 0 rfl ?_
      refine j_gr (e := 272) hJ kC_261 fC_10_17 fl_X7_64 dX7_relationOf_11 rfl ?_
      refine j_iload_n hJ dX7_relationOf_14 rfl 2 rfl ?_
      refine j_lald hJ gx3 kC_272 hF.1 hF.2.1 dX7_relationOf_15 (fun v14 ev14 gv14 => ?_)
      have hF := hF.2.2 v14 ev14 gv14
      refine j_lload_n hJ dX7_relationOf_16 rfl 1 rfl ?_
      refine j_lcmp_ne hJ 23 gv14 gx1 dX7_relationOf_17 dX7_relationOf_18 (by decide) (fun z15 => ?_) (fun z15 => ?_)
      · have hF := hF.1 z15
        refine j_iinc (lv' := [(3, .int (Ii (x3 + 1))), (0, .ref (ad 261)), (1, .long (Ll x1))]) (k := 2) hJ dX7_relationOf_23 rfl (by decide) rfl ?_
        have g16 := hF.1; have hF := hF.2
        refine j_goto hJ 2 dX7_relationOf_26 (by decide) ?_
        exact j_sub hJ [1, 2, 0] rfl (ih x1 (x3 + 1) _ gx1 g16 hF)
      · have hF := hF.2 z15
        refine j_iload_n hJ dX7_relationOf_21 rfl 2 rfl ?_
        exact j_iret hJ rfl gx3 dX7_relationOf_22 hF
  intro x1 x3 M gx1 gx3 hF
  obtain ⟨n, hF⟩ := hF
  exact H9 n x1 x3 M gx1 gx3 hF
set_option maxHeartbeats 4000000 in
set_option maxRecDepth 100000 in
theorem c_X7_relationOf {l : Launch} {D : va_G} {cy : Nat → ClassId} {ad : Nat → Nat} (hin : jIn ad ksC.length) : jCN l D vwCl (tyC cy) cy ad ftC ksC (XtC ad) yX7_relationOf (.code yX7_relationOf cX7_relationOf 4 (some .int) :: Om) ({ frames := 0, cells := 0, slots := 0, locals := 0 } : Room) 1 (W_X7_relationOf ad) := by
  refine jCN_of (y := yX7_relationOf) (cc := cX7_relationOf) (nL := 4) (rk := 1) (rm := ({ frames := 0, cells := 0, slots := 0, locals := 0 } : Room)) (own := RX7) (tyC_ok cy) hin (XtC_ok ad) Om_good (by decide) rfl ?_
  intro Q av M hF
  obtain ⟨p1, rfl, gp1, hF⟩ := hF
  refine ⟨Nat.le_of_ble_eq_true rfl, fun J hJ => ?_⟩
  show J 0 [(0, .ref (ad 261)), (1, .long (Ll p1))] [] M
  unfold w_X7_relationOf at hF
  refine j_iconst hJ dX7_relationOf_0 ?_
  refine j_istore_n (lv' := [(3, .int (Ii 0)), (0, .ref (ad 261)), (1, .long (Ll p1))]) hJ dX7_relationOf_1 rfl (by decide) rfl ?_
  exact j_sub hJ [1, 2, 0] rfl (k_X7_relationOf_b2 hin  hJ  p1 0 _ gp1 rk_0 hF)
def W_X7_refuse (ad : Nat → Nat) (Q : Int → MM → Prop) (av : List Value) (M : MM) : Prop := av = [.ref (ad 261)] ∧ w_X7_refuse  Q  M
set_option maxHeartbeats 4000000 in
set_option maxRecDepth 100000 in
theorem k_X7_refuse_b17 {l : Launch} {D : va_G} {cy : Nat → ClassId} {ad : Nat → Nat} {Q : Int → MM → Prop} {J : Nat → List (Nat × Value) → List Value → MM → Prop} (hin : jIn ad ksC.length)   (hJ : jOk l D vwCl (tyC cy) cy ad ftC ksC (XtC ad) Om RX7 cX7_refuse 1 3 ({ frames := 0, cells := 0, slots := 0, locals := 0 } : Room) Q J)  : ∀ (s0 : Int) (M : MM), ri_ s0 → w_X7_refuse_b17  Q  s0 M → J 17 [(0, .ref (ad 261))] [.int (Ii s0), .ref (ad 261)] M := by
  intro s0 M gs0 hF
  unfold w_X7_refuse_b17 at hF
  refine j_pi hJ gs0 kC_261 fC_10_19 rfl fp_X7_77 dX7_refuse_17 (fun M1 eM1 => ?_)
  have hF := hF M1 eM1
  refine j_aload_n hJ dX7_refuse_20 rfl 0 rfl ?_
  refine j_aload_n hJ dX7_refuse_21 rfl 0 rfl ?_
  refine j_ga hJ kC_261 fC_10_0 fl_X7_9 dX7_refuse_22 ?_
  refine j_gi hJ kC_1 fC_12_10 rfl fl_X7_93 dX7_refuse_25 (fun v2 ev2 gv2 => ?_)
  have hF := hF v2 ev2 gv2
  refine j_pi hJ gv2 kC_261 fC_10_20 rfl fp_X7_80 dX7_refuse_28 (fun M3 eM3 => ?_)
  have hF := hF M3 eM3
  refine j_iconst hJ dX7_refuse_31 ?_
  exact j_zret hJ rfl (by decide) dX7_refuse_32 hF
set_option maxHeartbeats 4000000 in
set_option maxRecDepth 100000 in
theorem c_X7_refuse {l : Launch} {D : va_G} {cy : Nat → ClassId} {ad : Nat → Nat} (hin : jIn ad ksC.length) : jCN l D vwCl (tyC cy) cy ad ftC ksC (XtC ad) yX7_refuse (.code yX7_refuse cX7_refuse 1 (some .boolean) :: Om) ({ frames := 0, cells := 0, slots := 0, locals := 0 } : Room) 3 (W_X7_refuse ad) := by
  refine jCN_of (y := yX7_refuse) (cc := cX7_refuse) (nL := 1) (rk := 3) (rm := ({ frames := 0, cells := 0, slots := 0, locals := 0 } : Room)) (own := RX7) (tyC_ok cy) hin (XtC_ok ad) Om_good (by decide) rfl ?_
  intro Q av M hF
  obtain ⟨rfl, hF⟩ := hF
  refine ⟨Nat.le_of_ble_eq_true rfl, fun J hJ => ?_⟩
  show J 0 [(0, .ref (ad 261))] [] M
  unfold w_X7_refuse at hF
  refine j_aload_n hJ dX7_refuse_0 rfl 0 rfl ?_
  refine j_aload_n hJ dX7_refuse_1 rfl 0 rfl ?_
  refine j_ga hJ kC_261 fC_10_0 fl_X7_9 dX7_refuse_2 ?_
  refine j_gi hJ kC_1 fC_12_9 rfl fl_X7_86 dX7_refuse_5 (fun v1 ev1 gv1 => ?_)
  have hF := hF v1 ev1 gv1
  refine j_iconst hJ dX7_refuse_8 ?_
  refine j_icmp_ne hJ 16 gv1 rk_1 dX7_refuse_9 (by decide) (fun z2 => ?_) (fun z2 => ?_)
  · have hF := hF.1 z2
    refine j_iconst hJ dX7_refuse_16 ?_
    exact j_sub hJ [0] rfl (k_X7_refuse_b17 hin  hJ  1 _ rk_1 hF)
  · have hF := hF.2 z2
    refine j_iconst hJ dX7_refuse_12 ?_
    refine j_goto hJ 17 dX7_refuse_13 (by decide) ?_
    exact j_sub hJ [0] rfl (k_X7_refuse_b17 hin  hJ  2 _ rk_2 hF)
def W_X7_pass (ad : Nat → Nat) (Q : Int → MM → Prop) (av : List Value) (M : MM) : Prop := ∃ (p1 : Int), av = [.ref (ad 261), .int (Ii p1)] ∧ ri_ p1 ∧ w_X7_pass  Q p1 M
set_option maxHeartbeats 4000000 in
set_option maxRecDepth 100000 in
theorem c_X7_pass {l : Launch} {D : va_G} {cy : Nat → ClassId} {ad : Nat → Nat} (hin : jIn ad ksC.length) : jCN l D vwCl (tyC cy) cy ad ftC ksC (XtC ad) yX7_pass (.code yX7_pass cX7_pass 2 (some .boolean) :: Om) ({ frames := 1, cells := 0, slots := 0, locals := 20 } : Room) 3 (W_X7_pass ad) := by
  refine jCN_of (y := yX7_pass) (cc := cX7_pass) (nL := 2) (rk := 3) (rm := ({ frames := 1, cells := 0, slots := 0, locals := 20 } : Room)) (own := RX7) (tyC_ok cy) hin (XtC_ok ad) Om_good (by decide) rfl ?_
  intro Q av M hF
  obtain ⟨p1, rfl, gp1, hF⟩ := hF
  refine ⟨Nat.le_of_ble_eq_true rfl, fun J hJ => ?_⟩
  show J 0 [(0, .ref (ad 261)), (1, .int (Ii p1))] [] M
  unfold w_X7_pass at hF
  refine j_aload_n hJ dX7_pass_0 rfl 0 rfl ?_
  refine j_ga hJ kC_261 fC_10_0 fl_X7_9 dX7_pass_1 ?_
  refine j_gi hJ kC_1 fC_12_9 rfl fl_X7_86 dX7_pass_4 (fun v1 ev1 gv1 => ?_)
  have hF := hF v1 ev1 gv1
  refine j_iload_n hJ dX7_pass_7 rfl 1 rfl ?_
  refine j_icmp_eq hJ 16 gv1 gp1 dX7_pass_8 (by decide) (fun z2 => ?_) (fun z2 => ?_)
  · have hF := hF.1 z2
    refine j_aload_n hJ dX7_pass_16 rfl 0 rfl ?_
    refine j_ga hJ kC_261 fC_10_0 fl_X7_9 dX7_pass_17 ?_
    refine j_callVv hJ (c_X9_nextWord (l := l) (D := D) (cy := cy) (ad := ad) hin) rfl om_597 ⟨rfl, rfl, Nat.le_of_ble_eq_true rfl, Nat.le_of_ble_eq_true rfl⟩ [] mv_X7_97 hd_X9_nextWordv kC_1 rfl rfl rfl (Nat.le_of_ble_eq_true rfl) dX7_pass_20 ⟨rfl, hF⟩ (fun M4 qM4 => ?_)
    have hF := qM4
    refine j_iconst hJ dX7_pass_23 ?_
    exact j_zret hJ rfl (by decide) dX7_pass_24 hF
  · have hF := hF.2 z2
    refine j_aload_n hJ dX7_pass_11 rfl 0 rfl ?_
    refine j_callVz hJ (c_X7_refuse (l := l) (D := D) (cy := cy) (ad := ad) hin) rfl om_722 ⟨rfl, rfl, Nat.le_of_ble_eq_true rfl, Nat.le_of_ble_eq_true rfl⟩ [] mv_X7_94 hd_X7_refusev kC_261 rfl rfl rfl (Nat.le_of_ble_eq_true rfl) dX7_pass_12 ⟨rfl, hF⟩ (fun r5 M6 gr5 qM6 => ?_)
    have hF := qM6 gr5
    exact j_zret hJ rfl gr5 dX7_pass_15 hF
def W_X7_variableOf (ad : Nat → Nat) (Q : Int → MM → Prop) (av : List Value) (M : MM) : Prop := ∃ (p1 : Int), av = [.ref (ad 261), .long (Ll p1)] ∧ rl_ p1 ∧ w_X7_variableOf  Q p1 M
set_option maxHeartbeats 4000000 in
set_option maxRecDepth 100000 in
theorem k_X7_variableOf_b2 {l : Launch} {D : va_G} {cy : Nat → ClassId} {ad : Nat → Nat} {Q : Int → MM → Prop} {J : Nat → List (Nat × Value) → List Value → MM → Prop} (hin : jIn ad ksC.length)   (hJ : jOk l D vwCl (tyC cy) cy ad ftC ksC (XtC ad) Om RX7 cX7_variableOf 4 1 ({ frames := 0, cells := 0, slots := 0, locals := 0 } : Room) Q J)  : ∀ (x1 x3 : Int) (M : MM), rl_ x1 → ri_ x3 → w_X7_variableOf_b2  Q  x1 x3 M → J 2 [(0, .ref (ad 261)), (1, .long (Ll x1)), (3, .int (Ii x3))] [] M := by
  have H9 : ∀ (n : Nat) (x1 x3 : Int) (M : MM), rl_ x1 → ri_ x3 → jit (fun _ _ _ => False) (wb_X7_variableOf_b2  Q ) n x1 x3 M → J 2 [(0, .ref (ad 261)), (1, .long (Ll x1)), (3, .int (Ii x3))] [] M := by
    intro n
    induction n with
    | zero => intro x1 x3 M gx1 gx3 hF; exact False.elim hF
    | succ n ih =>
    intro x1 x3 M gx1 gx3 hF
    have hF : wb_X7_variableOf_b2  Q  (jit (fun _ _ _ => False) (wb_X7_variableOf_b2  Q ) n) x1 x3 M := hF
    unfold wb_X7_variableOf_b2 at hF
    refine j_iload_n hJ dX7_variableOf_2 rfl 2 rfl ?_
    refine j_aload_n hJ dX7_variableOf_3 rfl 0 rfl ?_
    refine j_gi hJ kC_261 fC_10_14 rfl fl_X7_110 dX7_variableOf_4 (fun v1 ev1 gv1 => ?_)
    have hF := hF v1 ev1 gv1
    refine j_icmp_ge hJ 29 gx3 gv1 dX7_variableOf_7 (by decide) (fun z2 => ?_) (fun z2 => ?_)
    · have hF := hF.1 z2
      refine j_aload_n hJ dX7_variableOf_29 rfl 0 rfl ?_
      refine j_gi hJ kC_261 fC_10_14 rfl fl_X7_110 dX7_variableOf_30 (fun v3 ev3 gv3 => ?_)
      have hF := hF v3 ev3 gv3
      refine j_iconst hJ dX7_variableOf_33 ?_
      refine j_icmp_ne hJ 39 gv3 rk_3 dX7_variableOf_34 (by decide) (fun z4 => ?_) (fun z4 => ?_)
      · have hF := hF.1 z4
        refine j_aload_n hJ dX7_variableOf_39 rfl 0 rfl ?_
        refine j_gr (e := 271) hJ kC_261 fC_10_13 fl_X7_61 dX7_variableOf_40 rfl ?_
        refine j_aload_n hJ dX7_variableOf_43 rfl 0 rfl ?_
        refine j_gi hJ kC_261 fC_10_14 rfl fl_X7_110 dX7_variableOf_44 (fun v5 ev5 gv5 => ?_)
        have hF := hF v5 ev5 gv5
        refine j_lload_n hJ dX7_variableOf_47 rfl 1 rfl ?_
        refine j_last hJ gv5 gx1 kC_271 hF.1 hF.2.1 dX7_variableOf_48 (fun M6 eM6 => ?_)
        have hF := hF.2.2 M6 eM6
        refine j_aload_n hJ dX7_variableOf_49 rfl 0 rfl ?_
        refine j_dup hJ dX7_variableOf_50 rfl ?_
        refine j_gi hJ kC_261 fC_10_14 rfl fl_X7_110 dX7_variableOf_51 (fun v7 ev7 gv7 => ?_)
        have hF := hF v7 ev7 gv7
        refine j_iconst hJ dX7_variableOf_54 ?_
        refine j_iadd hJ dX7_variableOf_55 ?_
        have g8 := hF.1; have hF := hF.2
        refine j_pi hJ g8 kC_261 fC_10_14 rfl fp_X7_110 dX7_variableOf_56 (fun M9 eM9 => ?_)
        have hF := hF M9 eM9
        refine j_aload_n hJ dX7_variableOf_59 rfl 0 rfl ?_
        refine j_gi hJ kC_261 fC_10_14 rfl fl_X7_110 dX7_variableOf_60 (fun v10 ev10 gv10 => ?_)
        have hF := hF v10 ev10 gv10
        refine j_iconst hJ dX7_variableOf_63 ?_
        refine j_isub hJ dX7_variableOf_64 ?_
        have g11 := hF.1; have hF := hF.2
        exact j_iret hJ rfl g11 dX7_variableOf_65 hF
      · have hF := hF.2 z4
        refine j_iconst hJ dX7_variableOf_37 ?_
        exact j_iret hJ rfl rk_m1 dX7_variableOf_38 hF
    · have hF := hF.2 z2
      refine j_aload_n hJ dX7_variableOf_10 rfl 0 rfl ?_
      refine j_gr (e := 271) hJ kC_261 fC_10_13 fl_X7_61 dX7_variableOf_11 rfl ?_
      refine j_iload_n hJ dX7_variableOf_14 rfl 2 rfl ?_
      refine j_lald hJ gx3 kC_271 hF.1 hF.2.1 dX7_variableOf_15 (fun v12 ev12 gv12 => ?_)
      have hF := hF.2.2 v12 ev12 gv12
      refine j_lload_n hJ dX7_variableOf_16 rfl 1 rfl ?_
      refine j_lcmp_ne hJ 23 gv12 gx1 dX7_variableOf_17 dX7_variableOf_18 (by decide) (fun z13 => ?_) (fun z13 => ?_)
      · have hF := hF.1 z13
        refine j_iinc (lv' := [(3, .int (Ii (x3 + 1))), (0, .ref (ad 261)), (1, .long (Ll x1))]) (k := 2) hJ dX7_variableOf_23 rfl (by decide) rfl ?_
        have g14 := hF.1; have hF := hF.2
        refine j_goto hJ 2 dX7_variableOf_26 (by decide) ?_
        exact j_sub hJ [1, 2, 0] rfl (ih x1 (x3 + 1) _ gx1 g14 hF)
      · have hF := hF.2 z13
        refine j_iload_n hJ dX7_variableOf_21 rfl 2 rfl ?_
        exact j_iret hJ rfl gx3 dX7_variableOf_22 hF
  intro x1 x3 M gx1 gx3 hF
  obtain ⟨n, hF⟩ := hF
  exact H9 n x1 x3 M gx1 gx3 hF
set_option maxHeartbeats 4000000 in
set_option maxRecDepth 100000 in
theorem c_X7_variableOf {l : Launch} {D : va_G} {cy : Nat → ClassId} {ad : Nat → Nat} (hin : jIn ad ksC.length) : jCN l D vwCl (tyC cy) cy ad ftC ksC (XtC ad) yX7_variableOf (.code yX7_variableOf cX7_variableOf 4 (some .int) :: Om) ({ frames := 0, cells := 0, slots := 0, locals := 0 } : Room) 1 (W_X7_variableOf ad) := by
  refine jCN_of (y := yX7_variableOf) (cc := cX7_variableOf) (nL := 4) (rk := 1) (rm := ({ frames := 0, cells := 0, slots := 0, locals := 0 } : Room)) (own := RX7) (tyC_ok cy) hin (XtC_ok ad) Om_good (by decide) rfl ?_
  intro Q av M hF
  obtain ⟨p1, rfl, gp1, hF⟩ := hF
  refine ⟨Nat.le_of_ble_eq_true rfl, fun J hJ => ?_⟩
  show J 0 [(0, .ref (ad 261)), (1, .long (Ll p1))] [] M
  unfold w_X7_variableOf at hF
  refine j_iconst hJ dX7_variableOf_0 ?_
  refine j_istore_n (lv' := [(3, .int (Ii 0)), (0, .ref (ad 261)), (1, .long (Ll p1))]) hJ dX7_variableOf_1 rfl (by decide) rfl ?_
  exact j_sub hJ [1, 2, 0] rfl (k_X7_variableOf_b2 hin  hJ  p1 0 _ gp1 rk_0 hF)
def W_X7_fail (ad : Nat → Nat) (Q : Int → MM → Prop) (av : List Value) (M : MM) : Prop := ∃ (p1 : Int) (p2 : Int), av = [.ref (ad 261), .int (Ii p1), .int (Ii p2)] ∧ ri_ p1 ∧ ri_ p2 ∧ w_X7_fail  Q p1 p2 M
set_option maxHeartbeats 4000000 in
set_option maxRecDepth 100000 in
theorem c_X7_fail {l : Launch} {D : va_G} {cy : Nat → ClassId} {ad : Nat → Nat} (hin : jIn ad ksC.length) : jCN l D vwCl (tyC cy) cy ad ftC ksC (XtC ad) yX7_fail (.code yX7_fail cX7_fail 3 (some .boolean) :: Om) ({ frames := 0, cells := 0, slots := 0, locals := 0 } : Room) 3 (W_X7_fail ad) := by
  refine jCN_of (y := yX7_fail) (cc := cX7_fail) (nL := 3) (rk := 3) (rm := ({ frames := 0, cells := 0, slots := 0, locals := 0 } : Room)) (own := RX7) (tyC_ok cy) hin (XtC_ok ad) Om_good (by decide) rfl ?_
  intro Q av M hF
  obtain ⟨p1, p2, rfl, gp1, gp2, hF⟩ := hF
  refine ⟨Nat.le_of_ble_eq_true rfl, fun J hJ => ?_⟩
  show J 0 [(0, .ref (ad 261)), (1, .int (Ii p1)), (2, .int (Ii p2))] [] M
  unfold w_X7_fail at hF
  refine j_aload_n hJ dX7_fail_0 rfl 0 rfl ?_
  refine j_iload_n hJ dX7_fail_1 rfl 1 rfl ?_
  refine j_pi hJ gp1 kC_261 fC_10_19 rfl fp_X7_77 dX7_fail_2 (fun M1 eM1 => ?_)
  have hF := hF M1 eM1
  refine j_aload_n hJ dX7_fail_5 rfl 0 rfl ?_
  refine j_iload_n hJ dX7_fail_6 rfl 2 rfl ?_
  refine j_pi hJ gp2 kC_261 fC_10_20 rfl fp_X7_80 dX7_fail_7 (fun M2 eM2 => ?_)
  have hF := hF M2 eM2
  refine j_iconst hJ dX7_fail_10 ?_
  exact j_zret hJ rfl (by decide) dX7_fail_11 hF
def W_X7_readVariable (ad : Nat → Nat) (Q : Int → MM → Prop) (av : List Value) (M : MM) : Prop := av = [.ref (ad 261)] ∧ w_X7_readVariable  Q  M
set_option maxHeartbeats 4000000 in
set_option maxRecDepth 100000 in
theorem c_X7_readVariable {l : Launch} {D : va_G} {cy : Nat → ClassId} {ad : Nat → Nat} (hin : jIn ad ksC.length) : jCN l D vwCl (tyC cy) cy ad ftC ksC (XtC ad) yX7_readVariable (.code yX7_readVariable cX7_readVariable 2 (some .int) :: Om) ({ frames := 1, cells := 0, slots := 0, locals := 23 } : Room) 1 (W_X7_readVariable ad) := by
  refine jCN_of (y := yX7_readVariable) (cc := cX7_readVariable) (nL := 2) (rk := 1) (rm := ({ frames := 1, cells := 0, slots := 0, locals := 23 } : Room)) (own := RX7) (tyC_ok cy) hin (XtC_ok ad) Om_good (by decide) rfl ?_
  intro Q av M hF
  obtain ⟨rfl, hF⟩ := hF
  refine ⟨Nat.le_of_ble_eq_true rfl, fun J hJ => ?_⟩
  show J 0 [(0, .ref (ad 261))] [] M
  unfold w_X7_readVariable at hF
  refine j_aload_n hJ dX7_readVariable_0 rfl 0 rfl ?_
  refine j_callVz hJ (c_X7_isPlainName (l := l) (D := D) (cy := cy) (ad := ad) hin) rfl om_712 ⟨rfl, rfl, Nat.le_of_ble_eq_true rfl, Nat.le_of_ble_eq_true rfl⟩ [] mv_X7_103 hd_X7_isPlainNamev kC_261 rfl rfl rfl (Nat.le_of_ble_eq_true rfl) dX7_readVariable_1 ⟨rfl, hF⟩ (fun r1 M2 gr1 qM2 => ?_)
  have hF := qM2 gr1
  refine j_if_ne hJ 14 (jz_ri gr1) dX7_readVariable_4 (by decide) (fun z3 => ?_) (fun z3 => ?_)
  · have hF := hF.1 z3
    refine j_aload_n hJ dX7_readVariable_14 rfl 0 rfl ?_
    refine j_aload_n hJ dX7_readVariable_15 rfl 0 rfl ?_
    refine j_ga hJ kC_261 fC_10_0 fl_X7_9 dX7_readVariable_16 ?_
    refine j_gl hJ kC_1 fC_12_11 rfl fl_X7_100 dX7_readVariable_19 (fun v4 ev4 gv4 => ?_)
    have hF := hF v4 ev4 gv4
    refine j_callVi hJ (c_X7_variableOf (l := l) (D := D) (cy := cy) (ad := ad) hin) rfl om_730 ⟨rfl, rfl, Nat.le_of_ble_eq_true rfl, Nat.le_of_ble_eq_true rfl⟩ [.long (Ll v4)] mv_X7_138 hd_X7_variableOfv kC_261 rfl rfl rfl (Nat.le_of_ble_eq_true rfl) dX7_readVariable_22 ⟨v4, rfl, gv4, hF⟩ (fun r5 M6 gr5 qM6 => ?_)
    have hF := qM6 gr5
    refine j_istore_n (lv' := [(1, .int (Ii r5)), (0, .ref (ad 261))]) hJ dX7_readVariable_25 rfl (by decide) rfl ?_
    refine j_iload_n hJ dX7_readVariable_26 rfl 0 rfl ?_
    refine j_iconst hJ dX7_readVariable_27 ?_
    refine j_icmp_ne hJ 46 gr5 rk_m1 dX7_readVariable_28 (by decide) (fun z7 => ?_) (fun z7 => ?_)
    · have hF := hF.1 z7
      refine j_aload_n hJ dX7_readVariable_46 rfl 1 rfl ?_
      refine j_ga hJ kC_261 fC_10_0 fl_X7_9 dX7_readVariable_47 ?_
      refine j_callVv hJ (c_X9_nextWord (l := l) (D := D) (cy := cy) (ad := ad) hin) rfl om_597 ⟨rfl, rfl, Nat.le_of_ble_eq_true rfl, Nat.le_of_ble_eq_true rfl⟩ [] mv_X7_97 hd_X9_nextWordv kC_1 rfl rfl rfl (Nat.le_of_ble_eq_true rfl) dX7_readVariable_50 ⟨rfl, hF⟩ (fun M9 qM9 => ?_)
      have hF := qM9
      refine j_iload_n hJ dX7_readVariable_53 rfl 0 rfl ?_
      exact j_iret hJ rfl gr5 dX7_readVariable_54 hF
    · have hF := hF.2 z7
      refine j_aload_n hJ dX7_readVariable_31 rfl 1 rfl ?_
      refine j_iconst hJ dX7_readVariable_32 ?_
      refine j_aload_n hJ dX7_readVariable_33 rfl 1 rfl ?_
      refine j_ga hJ kC_261 fC_10_0 fl_X7_9 dX7_readVariable_34 ?_
      refine j_gi hJ kC_1 fC_12_10 rfl fl_X7_93 dX7_readVariable_37 (fun v10 ev10 gv10 => ?_)
      have hF := hF v10 ev10 gv10
      refine j_callVz hJ (c_X7_fail (l := l) (D := D) (cy := cy) (ad := ad) hin) rfl om_734 ⟨rfl, rfl, Nat.le_of_ble_eq_true rfl, Nat.le_of_ble_eq_true rfl⟩ [.int (Ii 4), .int (Ii v10)] mv_X7_106 hd_X7_failv kC_261 rfl rfl rfl (Nat.le_of_ble_eq_true rfl) dX7_readVariable_40 ⟨4, v10, rfl, rk_4, gv10, hF⟩ (fun r11 M12 gr11 qM12 => ?_)
      have hF := qM12 gr11
      refine j_pop hJ dX7_readVariable_43 rfl ?_
      refine j_iconst hJ dX7_readVariable_44 ?_
      exact j_iret hJ rfl rk_m1 dX7_readVariable_45 hF
  · have hF := hF.2 z3
    refine j_aload_n hJ dX7_readVariable_7 rfl 0 rfl ?_
    refine j_callVz hJ (c_X7_refuse (l := l) (D := D) (cy := cy) (ad := ad) hin) rfl om_722 ⟨rfl, rfl, Nat.le_of_ble_eq_true rfl, Nat.le_of_ble_eq_true rfl⟩ [] mv_X7_94 hd_X7_refusev kC_261 rfl rfl rfl (Nat.le_of_ble_eq_true rfl) dX7_readVariable_8 ⟨rfl, hF⟩ (fun r13 M14 gr13 qM14 => ?_)
    have hF := qM14 gr13
    refine j_pop hJ dX7_readVariable_11 rfl ?_
    refine j_iconst hJ dX7_readVariable_12 ?_
    exact j_iret hJ rfl rk_m1 dX7_readVariable_13 hF
def W_X7_readPair (ad : Nat → Nat) (Q : Int → MM → Prop) (av : List Value) (M : MM) : Prop := ∃ (p1 : Int) (p2 : Int) (p3 : Nat) (np3 : Nat) (p4 : Nat) (np4 : Nat) (p5 : Int), av = [.ref (ad 261), .int (Ii p1), .int (Ii p2), .ref (ad p3), .ref (ad p4), .int (Ii p5)] ∧ ri_ p1 ∧ ri_ p2 ∧ ksC[p3]? = some (0, np3) ∧ np3 < 2147483648 ∧ ksC[p4]? = some (0, np4) ∧ np4 < 2147483648 ∧ ri_ p5 ∧ w_X7_readPair p3 np3 p4 np4 Q p1 p2 p5 M
set_option maxHeartbeats 4000000 in
set_option maxRecDepth 100000 in
theorem k_X7_readPair_b131 {l : Launch} {D : va_G} {cy : Nat → ClassId} {ad : Nat → Nat} {Q : Int → MM → Prop} {J : Nat → List (Nat × Value) → List Value → MM → Prop} (hin : jIn ad ksC.length) {p3 np3 p4 np4 : Nat} (hp3 : ksC[p3]? = some (0, np3)) (lp3 : np3 < 2147483648) (hp4 : ksC[p4]? = some (0, np4)) (lp4 : np4 < 2147483648) (hJ : jOk l D vwCl (tyC cy) cy ad ftC ksC (XtC ad) Om RX7 cX7_readPair 7 3 ({ frames := 2, cells := 0, slots := 0, locals := 44 } : Room) Q J)  : ∀ (x5 x6 : Int) (M : MM), ri_ x5 → ri_ x6 → w_X7_readPair_b131 p3 np3 p4 np4 Q  x5 x6 M → J 131 [(0, .ref (ad 261)), (4, .ref (ad p4)), (5, .int (Ii x5)), (6, .int (Ii x6))] [] M := by
  intro x5 x6 M gx5 gx6 hF
  unfold w_X7_readPair_b131 at hF
  refine j_aload_n hJ dX7_readPair_131 rfl 0 rfl ?_
  refine j_ga hJ kC_261 fC_10_0 fl_X7_9 dX7_readPair_132 ?_
  refine j_callVv hJ (c_X9_nextWord (l := l) (D := D) (cy := cy) (ad := ad) hin) rfl om_597 ⟨rfl, rfl, Nat.le_of_ble_eq_true rfl, Nat.le_of_ble_eq_true rfl⟩ [] mv_X7_97 hd_X9_nextWordv kC_1 rfl rfl rfl (Nat.le_of_ble_eq_true rfl) dX7_readPair_135 ⟨rfl, hF⟩ (fun M2 qM2 => ?_)
  have hF := qM2
  refine j_iload hJ dX7_readPair_138 3 rfl ?_
  refine j_iconst hJ dX7_readPair_140 ?_
  refine j_icmp_ne hJ 146 gx6 rk_1 dX7_readPair_141 (by decide) (fun z3 => ?_) (fun z3 => ?_)
  · have hF := hF.1 z3
    refine j_aload hJ dX7_readPair_146 1 rfl ?_
    refine j_iload hJ dX7_readPair_148 2 rfl ?_
    refine j_aload_n hJ dX7_readPair_150 rfl 0 rfl ?_
    refine j_callVi hJ (c_X7_readVariable (l := l) (D := D) (cy := cy) (ad := ad) hin) rfl om_738 ⟨rfl, rfl, Nat.le_of_ble_eq_true rfl, Nat.le_of_ble_eq_true rfl⟩ [] mv_X7_134 hd_X7_readVariablev kC_261 rfl rfl rfl (Nat.le_of_ble_eq_true rfl) dX7_readPair_151 ⟨rfl, hF⟩ (fun r4 M5 gr4 qM5 => ?_)
    have hF := qM5 gr4
    refine j_iast hJ gx5 gr4 hp4 hF.1 hF.2.1 dX7_readPair_154 (fun M6 eM6 => ?_)
    have hF := hF.2.2 M6 eM6
    refine j_aload hJ dX7_readPair_155 1 rfl ?_
    refine j_iload hJ dX7_readPair_157 2 rfl ?_
    refine j_iald hJ gx5 hp4 hF.1 hF.2.1 dX7_readPair_159 (fun v7 ev7 gv7 => ?_)
    have hF := hF.2.2 v7 ev7 gv7
    refine j_iconst hJ dX7_readPair_160 ?_
    refine j_icmp_eq hJ 176 gv7 rk_m1 dX7_readPair_161 (by decide) (fun z8 => ?_) (fun z8 => ?_)
    · have hF := hF.1 z8
      refine j_iconst hJ dX7_readPair_176 ?_
      exact j_zret hJ rfl (by decide) dX7_readPair_177 hF
    · have hF := hF.2 z8
      refine j_aload_n hJ dX7_readPair_164 rfl 0 rfl ?_
      refine j_iconst hJ dX7_readPair_165 ?_
      refine j_callVz hJ (c_X7_pass (l := l) (D := D) (cy := cy) (ad := ad) hin) rfl om_726 ⟨rfl, rfl, Nat.le_of_ble_eq_true rfl, Nat.le_of_ble_eq_true rfl⟩ [.int (Ii 5)] mv_X7_131 hd_X7_passv kC_261 rfl rfl rfl (Nat.le_of_ble_eq_true rfl) dX7_readPair_166 ⟨5, rfl, rk_5, hF⟩ (fun r9 M10 gr9 qM10 => ?_)
      have hF := qM10 gr9
      refine j_if_eq hJ 176 (jz_ri gr9) dX7_readPair_169 (by decide) (fun z11 => ?_) (fun z11 => ?_)
      · have hF := hF.1 z11
        refine j_iconst hJ dX7_readPair_176 ?_
        exact j_zret hJ rfl (by decide) dX7_readPair_177 hF
      · have hF := hF.2 z11
        refine j_iconst hJ dX7_readPair_172 ?_
        refine j_goto hJ 177 dX7_readPair_173 (by decide) ?_
        exact j_zret hJ rfl (by decide) dX7_readPair_177 hF
  · have hF := hF.2 z3
    refine j_iconst hJ dX7_readPair_144 ?_
    exact j_zret hJ rfl (by decide) dX7_readPair_145 hF
set_option maxHeartbeats 4000000 in
set_option maxRecDepth 100000 in
theorem k_X7_readPair_b123 {l : Launch} {D : va_G} {cy : Nat → ClassId} {ad : Nat → Nat} {Q : Int → MM → Prop} {J : Nat → List (Nat × Value) → List Value → MM → Prop} (hin : jIn ad ksC.length) {p3 np3 p4 np4 : Nat} (hp3 : ksC[p3]? = some (0, np3)) (lp3 : np3 < 2147483648) (hp4 : ksC[p4]? = some (0, np4)) (lp4 : np4 < 2147483648) (hJ : jOk l D vwCl (tyC cy) cy ad ftC ksC (XtC ad) Om RX7 cX7_readPair 7 3 ({ frames := 2, cells := 0, slots := 0, locals := 44 } : Room) Q J)  : ∀ (x1 x5 x6 : Int) (M : MM), ri_ x1 → ri_ x5 → ri_ x6 → w_X7_readPair_b123 p3 np3 p4 np4 Q  x1 x5 x6 M → J 123 [(0, .ref (ad 261)), (1, .int (Ii x1)), (4, .ref (ad p4)), (5, .int (Ii x5)), (6, .int (Ii x6))] [] M := by
  intro x1 x5 x6 M gx1 gx5 gx6 hF
  unfold w_X7_readPair_b123 at hF
  refine j_aload_n hJ dX7_readPair_123 rfl 0 rfl ?_
  refine j_gr (e := 273) hJ kC_261 fC_10_18 fl_X7_67 dX7_readPair_124 rfl ?_
  refine j_iload_n hJ dX7_readPair_127 rfl 1 rfl ?_
  refine j_iload hJ dX7_readPair_128 4 rfl ?_
  refine j_iast hJ gx1 gx6 kC_273 hF.1 hF.2.1 dX7_readPair_130 (fun M1 eM1 => ?_)
  have hF := hF.2.2 M1 eM1
  exact j_sub hJ [0, 2, 3, 4] rfl (k_X7_readPair_b131 hin hp3 lp3 hp4 lp4 hJ  x5 x6 _ gx5 gx6 hF)
set_option maxHeartbeats 4000000 in
set_option maxRecDepth 100000 in
theorem k_X7_readPair_b90 {l : Launch} {D : va_G} {cy : Nat → ClassId} {ad : Nat → Nat} {Q : Int → MM → Prop} {J : Nat → List (Nat × Value) → List Value → MM → Prop} (hin : jIn ad ksC.length) {p3 np3 p4 np4 : Nat} (hp3 : ksC[p3]? = some (0, np3)) (lp3 : np3 < 2147483648) (hp4 : ksC[p4]? = some (0, np4)) (lp4 : np4 < 2147483648) (hJ : jOk l D vwCl (tyC cy) cy ad ftC ksC (XtC ad) Om RX7 cX7_readPair 7 3 ({ frames := 2, cells := 0, slots := 0, locals := 44 } : Room) Q J)  : ∀ (x1 x2 x5 x6 : Int) (M : MM), ri_ x1 → ri_ x2 → ri_ x5 → ri_ x6 → w_X7_readPair_b90 p3 np3 p4 np4 Q  x1 x2 x5 x6 M → J 90 [(0, .ref (ad 261)), (1, .int (Ii x1)), (2, .int (Ii x2)), (4, .ref (ad p4)), (5, .int (Ii x5)), (6, .int (Ii x6))] [] M := by
  intro x1 x2 x5 x6 M gx1 gx2 gx5 gx6 hF
  unfold w_X7_readPair_b90 at hF
  refine j_iload_n hJ dX7_readPair_90 rfl 1 rfl ?_
  refine j_bipush hJ dX7_readPair_91 (by decide) ?_
  refine j_icmp_eq hJ 131 gx1 rk_6 dX7_readPair_93 (by decide) (fun z1 => ?_) (fun z1 => ?_)
  · have hF := hF.1 z1
    exact j_sub hJ [0, 3, 4, 5] rfl (k_X7_readPair_b131 hin hp3 lp3 hp4 lp4 hJ  x5 x6 _ gx5 gx6 hF)
  · have hF := hF.2 z1
    refine j_aload_n hJ dX7_readPair_96 rfl 0 rfl ?_
    refine j_gr (e := 273) hJ kC_261 fC_10_18 fl_X7_67 dX7_readPair_97 rfl ?_
    refine j_iload_n hJ dX7_readPair_100 rfl 1 rfl ?_
    refine j_iald hJ gx1 kC_273 hF.1 hF.2.1 dX7_readPair_101 (fun v2 ev2 gv2 => ?_)
    have hF := hF.2.2 v2 ev2 gv2
    refine j_if_eq hJ 123 gv2 dX7_readPair_102 (by decide) (fun z3 => ?_) (fun z3 => ?_)
    · have hF := hF.1 z3
      exact j_sub hJ [0, 1, 3, 4, 5] rfl (k_X7_readPair_b123 hin hp3 lp3 hp4 lp4 hJ  x1 x5 x6 _ gx1 gx5 gx6 hF)
    · have hF := hF.2 z3
      refine j_aload_n hJ dX7_readPair_105 rfl 0 rfl ?_
      refine j_gr (e := 273) hJ kC_261 fC_10_18 fl_X7_67 dX7_readPair_106 rfl ?_
      refine j_iload_n hJ dX7_readPair_109 rfl 1 rfl ?_
      refine j_iald hJ gx1 kC_273 hF.1 hF.2.1 dX7_readPair_110 (fun v4 ev4 gv4 => ?_)
      have hF := hF.2.2 v4 ev4 gv4
      refine j_iload hJ dX7_readPair_111 5 rfl ?_
      refine j_icmp_eq hJ 123 gv4 gx6 dX7_readPair_113 (by decide) (fun z5 => ?_) (fun z5 => ?_)
      · have hF := hF.1 z5
        exact j_sub hJ [0, 1, 3, 4, 5] rfl (k_X7_readPair_b123 hin hp3 lp3 hp4 lp4 hJ  x1 x5 x6 _ gx1 gx5 gx6 hF)
      · have hF := hF.2 z5
        refine j_aload_n hJ dX7_readPair_116 rfl 0 rfl ?_
        refine j_iconst hJ dX7_readPair_117 ?_
        refine j_iload_n hJ dX7_readPair_118 rfl 2 rfl ?_
        refine j_callVz hJ (c_X7_fail (l := l) (D := D) (cy := cy) (ad := ad) hin) rfl om_734 ⟨rfl, rfl, Nat.le_of_ble_eq_true rfl, Nat.le_of_ble_eq_true rfl⟩ [.int (Ii 3), .int (Ii x2)] mv_X7_106 hd_X7_failv kC_261 rfl rfl rfl (Nat.le_of_ble_eq_true rfl) dX7_readPair_119 ⟨3, x2, rfl, rk_3, gx2, hF⟩ (fun r6 M7 gr6 qM7 => ?_)
        have hF := qM7 gr6
        exact j_zret hJ rfl gr6 dX7_readPair_122 hF
set_option maxHeartbeats 4000000 in
set_option maxRecDepth 100000 in
theorem k_X7_readPair_b85 {l : Launch} {D : va_G} {cy : Nat → ClassId} {ad : Nat → Nat} {Q : Int → MM → Prop} {J : Nat → List (Nat × Value) → List Value → MM → Prop} (hin : jIn ad ksC.length) {p3 np3 p4 np4 : Nat} (hp3 : ksC[p3]? = some (0, np3)) (lp3 : np3 < 2147483648) (hp4 : ksC[p4]? = some (0, np4)) (lp4 : np4 < 2147483648) (hJ : jOk l D vwCl (tyC cy) cy ad ftC ksC (XtC ad) Om RX7 cX7_readPair 7 3 ({ frames := 2, cells := 0, slots := 0, locals := 44 } : Room) Q J)  : ∀ (M : MM), w_X7_readPair_b85 p3 np3 p4 np4 Q   M → J 85 [(0, .ref (ad 261))] [] M := by
  intro  M  hF
  unfold w_X7_readPair_b85 at hF
  refine j_aload_n hJ dX7_readPair_85 rfl 0 rfl ?_
  refine j_callVz hJ (c_X7_refuse (l := l) (D := D) (cy := cy) (ad := ad) hin) rfl om_722 ⟨rfl, rfl, Nat.le_of_ble_eq_true rfl, Nat.le_of_ble_eq_true rfl⟩ [] mv_X7_94 hd_X7_refusev kC_261 rfl rfl rfl (Nat.le_of_ble_eq_true rfl) dX7_readPair_86 ⟨rfl, hF⟩ (fun r1 M2 gr1 qM2 => ?_)
  have hF := qM2 gr1
  exact j_zret hJ rfl gr1 dX7_readPair_89 hF
set_option maxHeartbeats 4000000 in
set_option maxRecDepth 100000 in
theorem k_X7_readPair_b54 {l : Launch} {D : va_G} {cy : Nat → ClassId} {ad : Nat → Nat} {Q : Int → MM → Prop} {J : Nat → List (Nat × Value) → List Value → MM → Prop} (hin : jIn ad ksC.length) {p3 np3 p4 np4 : Nat} (hp3 : ksC[p3]? = some (0, np3)) (lp3 : np3 < 2147483648) (hp4 : ksC[p4]? = some (0, np4)) (lp4 : np4 < 2147483648) (hJ : jOk l D vwCl (tyC cy) cy ad ftC ksC (XtC ad) Om RX7 cX7_readPair 7 3 ({ frames := 2, cells := 0, slots := 0, locals := 44 } : Room) Q J)  : ∀ (x1 x2 x5 s0 : Int) (M : MM), ri_ x1 → ri_ x2 → ri_ x5 → ri_ s0 → w_X7_readPair_b54 p3 np3 p4 np4 Q  x1 x2 x5 s0 M → J 54 [(0, .ref (ad 261)), (1, .int (Ii x1)), (2, .int (Ii x2)), (4, .ref (ad p4)), (5, .int (Ii x5))] [.int (Ii s0)] M := by
  intro x1 x2 x5 s0 M gx1 gx2 gx5 gs0 hF
  unfold w_X7_readPair_b54 at hF
  refine j_istore (lv' := [(6, .int (Ii s0)), (0, .ref (ad 261)), (1, .int (Ii x1)), (2, .int (Ii x2)), (4, .ref (ad p4)), (5, .int (Ii x5))]) hJ dX7_readPair_54 (by decide) rfl ?_
  refine j_aload_n hJ dX7_readPair_56 rfl 1 rfl ?_
  refine j_ga hJ kC_261 fC_10_0 fl_X7_9 dX7_readPair_57 ?_
  refine j_gi hJ kC_1 fC_12_9 rfl fl_X7_86 dX7_readPair_60 (fun v1 ev1 gv1 => ?_)
  have hF := hF v1 ev1 gv1
  refine j_bipush hJ dX7_readPair_63 (by decide) ?_
  refine j_icmp_eq hJ 90 gv1 rk_8 dX7_readPair_65 (by decide) (fun z2 => ?_) (fun z2 => ?_)
  · have hF := hF.1 z2
    exact j_sub hJ [1, 2, 3, 4, 5, 0] rfl (k_X7_readPair_b90 hin hp3 lp3 hp4 lp4 hJ  x1 x2 x5 s0 _ gx1 gx2 gx5 gs0 hF)
  · have hF := hF.2 z2
    refine j_aload_n hJ dX7_readPair_68 rfl 1 rfl ?_
    refine j_ga hJ kC_261 fC_10_0 fl_X7_9 dX7_readPair_69 ?_
    refine j_gi hJ kC_1 fC_12_9 rfl fl_X7_86 dX7_readPair_72 (fun v3 ev3 gv3 => ?_)
    have hF := hF v3 ev3 gv3
    refine j_iconst hJ dX7_readPair_75 ?_
    refine j_icmp_ne hJ 85 gv3 rk_5 dX7_readPair_76 (by decide) (fun z4 => ?_) (fun z4 => ?_)
    · have hF := hF.1 z4
      exact j_sub hJ [1] rfl (k_X7_readPair_b85 hin hp3 lp3 hp4 lp4 hJ   _  hF)
    · have hF := hF.2 z4
      refine j_iload_n hJ dX7_readPair_79 rfl 2 rfl ?_
      refine j_bipush hJ dX7_readPair_80 (by decide) ?_
      refine j_icmp_ne hJ 90 gx1 rk_6 dX7_readPair_82 (by decide) (fun z5 => ?_) (fun z5 => ?_)
      · have hF := hF.1 z5
        exact j_sub hJ [1, 2, 3, 4, 5, 0] rfl (k_X7_readPair_b90 hin hp3 lp3 hp4 lp4 hJ  x1 x2 x5 s0 _ gx1 gx2 gx5 gs0 hF)
      · have hF := hF.2 z5
        exact j_sub hJ [1] rfl (k_X7_readPair_b85 hin hp3 lp3 hp4 lp4 hJ   _  hF)
set_option maxHeartbeats 4000000 in
set_option maxRecDepth 100000 in
theorem c_X7_readPair {l : Launch} {D : va_G} {cy : Nat → ClassId} {ad : Nat → Nat} (hin : jIn ad ksC.length) : jCN l D vwCl (tyC cy) cy ad ftC ksC (XtC ad) yX7_readPair (.code yX7_readPair cX7_readPair 7 (some .boolean) :: Om) ({ frames := 2, cells := 0, slots := 0, locals := 44 } : Room) 3 (W_X7_readPair ad) := by
  refine jCN_of (y := yX7_readPair) (cc := cX7_readPair) (nL := 7) (rk := 3) (rm := ({ frames := 2, cells := 0, slots := 0, locals := 44 } : Room)) (own := RX7) (tyC_ok cy) hin (XtC_ok ad) Om_good (by decide) rfl ?_
  intro Q av M hF
  obtain ⟨p1, p2, p3, np3, p4, np4, p5, rfl, gp1, gp2, hp3, lp3, hp4, lp4, gp5, hF⟩ := hF
  refine ⟨Nat.le_of_ble_eq_true rfl, fun J hJ => ?_⟩
  show J 0 [(0, .ref (ad 261)), (1, .int (Ii p1)), (2, .int (Ii p2)), (3, .ref (ad p3)), (4, .ref (ad p4)), (5, .int (Ii p5))] [] M
  unfold w_X7_readPair at hF
  refine j_aload_n hJ dX7_readPair_0 rfl 0 rfl ?_
  refine j_iconst hJ dX7_readPair_1 ?_
  refine j_callVz hJ (c_X7_pass (l := l) (D := D) (cy := cy) (ad := ad) hin) rfl om_726 ⟨rfl, rfl, Nat.le_of_ble_eq_true rfl, Nat.le_of_ble_eq_true rfl⟩ [.int (Ii 4)] mv_X7_131 hd_X7_passv kC_261 rfl rfl rfl (Nat.le_of_ble_eq_true rfl) dX7_readPair_2 ⟨4, rfl, rk_4, hF⟩ (fun r1 M2 gr1 qM2 => ?_)
  have hF := qM2 gr1
  refine j_if_ne hJ 10 (jz_ri gr1) dX7_readPair_5 (by decide) (fun z3 => ?_) (fun z3 => ?_)
  · have hF := hF.1 z3
    refine j_aload_n hJ dX7_readPair_10 rfl 3 rfl ?_
    refine j_iload hJ dX7_readPair_11 5 rfl ?_
    refine j_aload_n hJ dX7_readPair_13 rfl 0 rfl ?_
    refine j_callVi hJ (c_X7_readVariable (l := l) (D := D) (cy := cy) (ad := ad) hin) rfl om_738 ⟨rfl, rfl, Nat.le_of_ble_eq_true rfl, Nat.le_of_ble_eq_true rfl⟩ [] mv_X7_134 hd_X7_readVariablev kC_261 rfl rfl rfl (Nat.le_of_ble_eq_true rfl) dX7_readPair_14 ⟨rfl, hF⟩ (fun r4 M5 gr4 qM5 => ?_)
    have hF := qM5 gr4
    refine j_iast hJ gp5 gr4 hp3 hF.1 hF.2.1 dX7_readPair_17 (fun M6 eM6 => ?_)
    have hF := hF.2.2 M6 eM6
    refine j_aload hJ dX7_readPair_18 4 rfl ?_
    refine j_iload hJ dX7_readPair_20 5 rfl ?_
    refine j_aload_n hJ dX7_readPair_22 rfl 3 rfl ?_
    refine j_iload hJ dX7_readPair_23 5 rfl ?_
    refine j_iald hJ gp5 hp3 hF.1 hF.2.1 dX7_readPair_25 (fun v7 ev7 gv7 => ?_)
    have hF := hF.2.2 v7 ev7 gv7
    refine j_iast hJ gp5 gv7 hp4 hF.1 hF.2.1 dX7_readPair_26 (fun M8 eM8 => ?_)
    have hF := hF.2.2 M8 eM8
    refine j_aload_n hJ dX7_readPair_27 rfl 3 rfl ?_
    refine j_iload hJ dX7_readPair_28 5 rfl ?_
    refine j_iald hJ gp5 hp3 hF.1 hF.2.1 dX7_readPair_30 (fun v9 ev9 gv9 => ?_)
    have hF := hF.2.2 v9 ev9 gv9
    refine j_iconst hJ dX7_readPair_31 ?_
    refine j_icmp_ne hJ 37 gv9 rk_m1 dX7_readPair_32 (by decide) (fun z10 => ?_) (fun z10 => ?_)
    · have hF := hF.1 z10
      refine j_aload_n hJ dX7_readPair_37 rfl 0 rfl ?_
      refine j_ga hJ kC_261 fC_10_0 fl_X7_9 dX7_readPair_38 ?_
      refine j_gi hJ kC_1 fC_12_9 rfl fl_X7_86 dX7_readPair_41 (fun v11 ev11 gv11 => ?_)
      have hF := hF v11 ev11 gv11
      refine j_bipush hJ dX7_readPair_44 (by decide) ?_
      refine j_icmp_ne hJ 53 gv11 rk_8 dX7_readPair_46 (by decide) (fun z12 => ?_) (fun z12 => ?_)
      · have hF := hF.1 z12
        refine j_iconst hJ dX7_readPair_53 ?_
        exact j_sub hJ [0, 1, 2, 4, 5] rfl (k_X7_readPair_b54 hin hp3 lp3 hp4 lp4 hJ  p1 p2 p5 1 _ gp1 gp2 gp5 rk_1 hF)
      · have hF := hF.2 z12
        refine j_iconst hJ dX7_readPair_49 ?_
        refine j_goto hJ 54 dX7_readPair_50 (by decide) ?_
        exact j_sub hJ [0, 1, 2, 4, 5] rfl (k_X7_readPair_b54 hin hp3 lp3 hp4 lp4 hJ  p1 p2 p5 2 _ gp1 gp2 gp5 rk_2 hF)
    · have hF := hF.2 z10
      refine j_iconst hJ dX7_readPair_35 ?_
      exact j_zret hJ rfl (by decide) dX7_readPair_36 hF
  · have hF := hF.2 z3
    refine j_iconst hJ dX7_readPair_8 ?_
    exact j_zret hJ rfl (by decide) dX7_readPair_9 hF
def W_X7_readPart (ad : Nat → Nat) (Q : Int → MM → Prop) (av : List Value) (M : MM) : Prop := ∃ (p1 : Int), av = [.ref (ad 261), .int (Ii p1)] ∧ ri_ p1 ∧ w_X7_readPart  Q p1 M
set_option maxHeartbeats 4000000 in
set_option maxRecDepth 100000 in
theorem k_X7_readPart_b68 {l : Launch} {D : va_G} {cy : Nat → ClassId} {ad : Nat → Nat} {Q : Int → MM → Prop} {J : Nat → List (Nat × Value) → List Value → MM → Prop} (hin : jIn ad ksC.length)   (hJ : jOk l D vwCl (tyC cy) cy ad ftC ksC (XtC ad) Om RX7 cX7_readPart 5 3 ({ frames := 3, cells := 0, slots := 0, locals := 70 } : Room) Q J)  : ∀ (x1 x4 s0 s1 : Int) (M : MM), ri_ x1 → ri_ x4 → ri_ s0 → ri_ s1 → w_X7_readPart_b68  Q  x1 x4 s0 s1 M → J 68 [(0, .ref (ad 261)), (1, .int (Ii x1)), (4, .int (Ii x4))] [.int (Ii s0), .int (Ii s1), .ref (ad 267)] M := by
  intro x1 x4 s0 s1 M gx1 gx4 gs0 gs1 hF
  unfold w_X7_readPart_b68 at hF
  refine j_iast hJ gs1 gs0 kC_267 hF.1 hF.2.1 dX7_readPart_68 (fun M1 eM1 => ?_)
  have hF := hF.2.2 M1 eM1
  refine j_aload_n hJ dX7_readPart_69 rfl 0 rfl ?_
  refine j_gr (e := 267) hJ kC_261 fC_10_9 fl_X7_48 dX7_readPart_70 rfl ?_
  refine j_iload_n hJ dX7_readPart_73 rfl 1 rfl ?_
  refine j_iald hJ gx1 kC_267 hF.1 hF.2.1 dX7_readPart_74 (fun v2 ev2 gv2 => ?_)
  have hF := hF.2.2 v2 ev2 gv2
  refine j_iconst hJ dX7_readPart_75 ?_
  refine j_icmp_ne hJ 87 gv2 rk_m1 dX7_readPart_76 (by decide) (fun z3 => ?_) (fun z3 => ?_)
  · have hF := hF.1 z3
    refine j_aload_n hJ dX7_readPart_87 rfl 0 rfl ?_
    refine j_aload_n hJ dX7_readPart_88 rfl 0 rfl ?_
    refine j_gr (e := 267) hJ kC_261 fC_10_9 fl_X7_48 dX7_readPart_89 rfl ?_
    refine j_iload_n hJ dX7_readPart_92 rfl 1 rfl ?_
    refine j_iald hJ gx1 kC_267 hF.1 hF.2.1 dX7_readPart_93 (fun v4 ev4 gv4 => ?_)
    have hF := hF.2.2 v4 ev4 gv4
    refine j_iload hJ dX7_readPart_94 2 rfl ?_
    refine j_aload_n hJ dX7_readPart_96 rfl 0 rfl ?_
    refine j_gr (e := 268) hJ kC_261 fC_10_10 fl_X7_51 dX7_readPart_97 rfl ?_
    refine j_aload_n hJ dX7_readPart_100 rfl 0 rfl ?_
    refine j_gr (e := 269) hJ kC_261 fC_10_11 fl_X7_54 dX7_readPart_101 rfl ?_
    refine j_iload_n hJ dX7_readPart_104 rfl 1 rfl ?_
    refine j_callVz hJ (c_X7_readPair (l := l) (D := D) (cy := cy) (ad := ad) hin) rfl om_742 ⟨rfl, rfl, Nat.le_of_ble_eq_true rfl, Nat.le_of_ble_eq_true rfl⟩ [.int (Ii v4), .int (Ii x4), .ref (ad 268), .ref (ad 269), .int (Ii x1)] mv_X7_120 hd_X7_readPairv kC_261 rfl rfl rfl (Nat.le_of_ble_eq_true rfl) dX7_readPart_105 ⟨v4, x4, 268, 48, 269, 48, x1, rfl, gv4, gx4, kC_268, (by decide), kC_269, (by decide), gx1, hF⟩ (fun r5 M6 gr5 qM6 => ?_)
    have hF := qM6 gr5
    refine j_if_ne hJ 113 (jz_ri gr5) dX7_readPart_108 (by decide) (fun z7 => ?_) (fun z7 => ?_)
    · have hF := hF.1 z7
      refine j_aload_n hJ dX7_readPart_113 rfl 0 rfl ?_
      refine j_dup hJ dX7_readPart_114 rfl ?_
      refine j_gi hJ kC_261 fC_10_15 rfl fl_X7_113 dX7_readPart_115 (fun v8 ev8 gv8 => ?_)
      have hF := hF v8 ev8 gv8
      refine j_iconst hJ dX7_readPart_118 ?_
      refine j_aload_n hJ dX7_readPart_119 rfl 0 rfl ?_
      refine j_gr (e := 268) hJ kC_261 fC_10_10 fl_X7_51 dX7_readPart_120 rfl ?_
      refine j_iload_n hJ dX7_readPart_123 rfl 1 rfl ?_
      refine j_iald hJ gx1 kC_268 hF.1 hF.2.1 dX7_readPart_124 (fun v9 ev9 gv9 => ?_)
      have hF := hF.2.2 v9 ev9 gv9
      refine j_ishl hJ dX7_readPart_125 ?_
      refine j_iconst hJ dX7_readPart_126 ?_
      refine j_aload_n hJ dX7_readPart_127 rfl 0 rfl ?_
      refine j_gr (e := 269) hJ kC_261 fC_10_11 fl_X7_54 dX7_readPart_128 rfl ?_
      refine j_iload_n hJ dX7_readPart_131 rfl 1 rfl ?_
      refine j_iald hJ gx1 kC_269 hF.1 hF.2.1 dX7_readPart_132 (fun v10 ev10 gv10 => ?_)
      have hF := hF.2.2 v10 ev10 gv10
      refine j_ishl hJ dX7_readPart_133 ?_
      refine j_ior hJ dX7_readPart_134 ?_
      refine j_ior hJ dX7_readPart_135 ?_
      refine j_pi hJ (ri_of _) kC_261 fC_10_15 rfl fp_X7_113 dX7_readPart_136 (fun M11 eM11 => ?_)
      have hF := hF M11 eM11
      refine j_iconst hJ dX7_readPart_139 ?_
      exact j_zret hJ rfl (by decide) dX7_readPart_140 hF
    · have hF := hF.2 z7
      refine j_iconst hJ dX7_readPart_111 ?_
      exact j_zret hJ rfl (by decide) dX7_readPart_112 hF
  · have hF := hF.2 z3
    refine j_aload_n hJ dX7_readPart_79 rfl 0 rfl ?_
    refine j_iconst hJ dX7_readPart_80 ?_
    refine j_iload hJ dX7_readPart_81 2 rfl ?_
    refine j_callVz hJ (c_X7_fail (l := l) (D := D) (cy := cy) (ad := ad) hin) rfl om_734 ⟨rfl, rfl, Nat.le_of_ble_eq_true rfl, Nat.le_of_ble_eq_true rfl⟩ [.int (Ii 4), .int (Ii x4)] mv_X7_106 hd_X7_failv kC_261 rfl rfl rfl (Nat.le_of_ble_eq_true rfl) dX7_readPart_83 ⟨4, x4, rfl, rk_4, gx4, hF⟩ (fun r12 M13 gr12 qM13 => ?_)
    have hF := qM13 gr12
    exact j_zret hJ rfl gr12 dX7_readPart_86 hF
set_option maxHeartbeats 4000000 in
set_option maxRecDepth 100000 in
theorem k_X7_readPart_b44 {l : Launch} {D : va_G} {cy : Nat → ClassId} {ad : Nat → Nat} {Q : Int → MM → Prop} {J : Nat → List (Nat × Value) → List Value → MM → Prop} (hin : jIn ad ksC.length)   (hJ : jOk l D vwCl (tyC cy) cy ad ftC ksC (XtC ad) Om RX7 cX7_readPart 5 3 ({ frames := 3, cells := 0, slots := 0, locals := 70 } : Room) Q J)  : ∀ (x1 x2 x4 : Int) (M : MM), ri_ x1 → rl_ x2 → ri_ x4 → w_X7_readPart_b44  Q  x1 x2 x4 M → J 44 [(0, .ref (ad 261)), (1, .int (Ii x1)), (2, .long (Ll x2)), (4, .int (Ii x4))] [] M := by
  intro x1 x2 x4 M gx1 gx2 gx4 hF
  unfold w_X7_readPart_b44 at hF
  refine j_aload_n hJ dX7_readPart_44 rfl 0 rfl ?_
  refine j_gr (e := 267) hJ kC_261 fC_10_9 fl_X7_48 dX7_readPart_45 rfl ?_
  refine j_iload_n hJ dX7_readPart_48 rfl 1 rfl ?_
  refine j_lload_n hJ dX7_readPart_49 rfl 2 rfl ?_
  refine j_aload_n hJ dX7_readPart_50 rfl 0 rfl ?_
  refine j_gl hJ kC_261 fC_10_2 rfl fl_X7_29 dX7_readPart_51 (fun v1 ev1 gv1 => ?_)
  have hF := hF v1 ev1 gv1
  refine j_lcmp_ne hJ 63 gx2 gv1 dX7_readPart_54 dX7_readPart_55 (by decide) (fun z2 => ?_) (fun z2 => ?_)
  · have hF := hF.1 z2
    refine j_aload_n hJ dX7_readPart_63 rfl 0 rfl ?_
    refine j_lload_n hJ dX7_readPart_64 rfl 2 rfl ?_
    refine j_callVi hJ (c_X7_relationOf (l := l) (D := D) (cy := cy) (ad := ad) hin) rfl om_717 ⟨rfl, rfl, Nat.le_of_ble_eq_true rfl, Nat.le_of_ble_eq_true rfl⟩ [.long (Ll x2)] mv_X7_116 hd_X7_relationOfv kC_261 rfl rfl rfl (Nat.le_of_ble_eq_true rfl) dX7_readPart_65 ⟨x2, rfl, gx2, hF⟩ (fun r3 M4 gr3 qM4 => ?_)
    have hF := qM4 gr3
    exact j_sub hJ [0, 1, 3] rfl (k_X7_readPart_b68 hin  hJ  x1 x4 r3 x1 _ gx1 gx4 gr3 gx1 hF)
  · have hF := hF.2 z2
    refine j_bipush hJ dX7_readPart_58 (by decide) ?_
    refine j_goto hJ 68 dX7_readPart_60 (by decide) ?_
    exact j_sub hJ [0, 1, 3] rfl (k_X7_readPart_b68 hin  hJ  x1 x4 6 x1 _ gx1 gx4 rk_6 gx1 hF)
set_option maxHeartbeats 4000000 in
set_option maxRecDepth 100000 in
theorem k_X7_readPart_b297 {l : Launch} {D : va_G} {cy : Nat → ClassId} {ad : Nat → Nat} {Q : Int → MM → Prop} {J : Nat → List (Nat × Value) → List Value → MM → Prop} (hin : jIn ad ksC.length)   (hJ : jOk l D vwCl (tyC cy) cy ad ftC ksC (XtC ad) Om RX7 cX7_readPart 5 3 ({ frames := 3, cells := 0, slots := 0, locals := 70 } : Room) Q J)  : ∀ (x1 x2 x4 s0 s1 : Int) (M : MM), ri_ x1 → rl_ x2 → ri_ x4 → ri_ s0 → ri_ s1 → w_X7_readPart_b297  Q  x1 x2 x4 s0 s1 M → J 297 [(0, .ref (ad 261)), (1, .int (Ii x1)), (2, .long (Ll x2)), (4, .int (Ii x4))] [.int (Ii s0), .int (Ii s1), .ref (ad 267)] M := by
  intro x1 x2 x4 s0 s1 M gx1 gx2 gx4 gs0 gs1 hF
  unfold w_X7_readPart_b297 at hF
  refine j_iast hJ gs1 gs0 kC_267 hF.1 hF.2.1 dX7_readPart_297 (fun M1 eM1 => ?_)
  have hF := hF.2.2 M1 eM1
  refine j_aload_n hJ dX7_readPart_298 rfl 0 rfl ?_
  refine j_gr (e := 268) hJ kC_261 fC_10_10 fl_X7_51 dX7_readPart_299 rfl ?_
  refine j_iload_n hJ dX7_readPart_302 rfl 1 rfl ?_
  refine j_aload_n hJ dX7_readPart_303 rfl 0 rfl ?_
  refine j_lload_n hJ dX7_readPart_304 rfl 2 rfl ?_
  refine j_callVi hJ (c_X7_variableOf (l := l) (D := D) (cy := cy) (ad := ad) hin) rfl om_730 ⟨rfl, rfl, Nat.le_of_ble_eq_true rfl, Nat.le_of_ble_eq_true rfl⟩ [.long (Ll x2)] mv_X7_138 hd_X7_variableOfv kC_261 rfl rfl rfl (Nat.le_of_ble_eq_true rfl) dX7_readPart_305 ⟨x2, rfl, gx2, hF⟩ (fun r2 M3 gr2 qM3 => ?_)
  have hF := qM3 gr2
  refine j_iast hJ gx1 gr2 kC_268 hF.1 hF.2.1 dX7_readPart_308 (fun M4 eM4 => ?_)
  have hF := hF.2.2 M4 eM4
  refine j_aload_n hJ dX7_readPart_309 rfl 0 rfl ?_
  refine j_gr (e := 268) hJ kC_261 fC_10_10 fl_X7_51 dX7_readPart_310 rfl ?_
  refine j_iload_n hJ dX7_readPart_313 rfl 1 rfl ?_
  refine j_iald hJ gx1 kC_268 hF.1 hF.2.1 dX7_readPart_314 (fun v5 ev5 gv5 => ?_)
  have hF := hF.2.2 v5 ev5 gv5
  refine j_iconst hJ dX7_readPart_315 ?_
  refine j_icmp_ne hJ 327 gv5 rk_m1 dX7_readPart_316 (by decide) (fun z6 => ?_) (fun z6 => ?_)
  · have hF := hF.1 z6
    refine j_aload_n hJ dX7_readPart_327 rfl 0 rfl ?_
    refine j_ga hJ kC_261 fC_10_0 fl_X7_9 dX7_readPart_328 ?_
    refine j_callVv hJ (c_X9_nextWord (l := l) (D := D) (cy := cy) (ad := ad) hin) rfl om_597 ⟨rfl, rfl, Nat.le_of_ble_eq_true rfl, Nat.le_of_ble_eq_true rfl⟩ [] mv_X7_97 hd_X9_nextWordv kC_1 rfl rfl rfl (Nat.le_of_ble_eq_true rfl) dX7_readPart_331 ⟨rfl, hF⟩ (fun M8 qM8 => ?_)
    have hF := qM8
    refine j_aload_n hJ dX7_readPart_334 rfl 0 rfl ?_
    refine j_gr (e := 269) hJ kC_261 fC_10_11 fl_X7_54 dX7_readPart_335 rfl ?_
    refine j_iload_n hJ dX7_readPart_338 rfl 1 rfl ?_
    refine j_aload_n hJ dX7_readPart_339 rfl 0 rfl ?_
    refine j_callVi hJ (c_X7_readVariable (l := l) (D := D) (cy := cy) (ad := ad) hin) rfl om_738 ⟨rfl, rfl, Nat.le_of_ble_eq_true rfl, Nat.le_of_ble_eq_true rfl⟩ [] mv_X7_134 hd_X7_readVariablev kC_261 rfl rfl rfl (Nat.le_of_ble_eq_true rfl) dX7_readPart_340 ⟨rfl, hF⟩ (fun r9 M10 gr9 qM10 => ?_)
    have hF := qM10 gr9
    refine j_iast hJ gx1 gr9 kC_269 hF.1 hF.2.1 dX7_readPart_343 (fun M11 eM11 => ?_)
    have hF := hF.2.2 M11 eM11
    refine j_aload_n hJ dX7_readPart_344 rfl 0 rfl ?_
    refine j_gr (e := 269) hJ kC_261 fC_10_11 fl_X7_54 dX7_readPart_345 rfl ?_
    refine j_iload_n hJ dX7_readPart_348 rfl 1 rfl ?_
    refine j_iald hJ gx1 kC_269 hF.1 hF.2.1 dX7_readPart_349 (fun v12 ev12 gv12 => ?_)
    have hF := hF.2.2 v12 ev12 gv12
    refine j_iconst hJ dX7_readPart_350 ?_
    refine j_icmp_eq hJ 358 gv12 rk_m1 dX7_readPart_351 (by decide) (fun z13 => ?_) (fun z13 => ?_)
    · have hF := hF.1 z13
      refine j_iconst hJ dX7_readPart_358 ?_
      exact j_zret hJ rfl (by decide) dX7_readPart_359 hF
    · have hF := hF.2 z13
      refine j_iconst hJ dX7_readPart_354 ?_
      refine j_goto hJ 359 dX7_readPart_355 (by decide) ?_
      exact j_zret hJ rfl (by decide) dX7_readPart_359 hF
  · have hF := hF.2 z6
    refine j_aload_n hJ dX7_readPart_319 rfl 0 rfl ?_
    refine j_iconst hJ dX7_readPart_320 ?_
    refine j_iload hJ dX7_readPart_321 3 rfl ?_
    refine j_callVz hJ (c_X7_fail (l := l) (D := D) (cy := cy) (ad := ad) hin) rfl om_734 ⟨rfl, rfl, Nat.le_of_ble_eq_true rfl, Nat.le_of_ble_eq_true rfl⟩ [.int (Ii 4), .int (Ii x4)] mv_X7_106 hd_X7_failv kC_261 rfl rfl rfl (Nat.le_of_ble_eq_true rfl) dX7_readPart_323 ⟨4, x4, rfl, rk_4, gx4, hF⟩ (fun r14 M15 gr14 qM15 => ?_)
    have hF := qM15 gr14
    exact j_zret hJ rfl gr14 dX7_readPart_326 hF
set_option maxHeartbeats 4000000 in
set_option maxRecDepth 100000 in
theorem k_X7_readPart_b273 {l : Launch} {D : va_G} {cy : Nat → ClassId} {ad : Nat → Nat} {Q : Int → MM → Prop} {J : Nat → List (Nat × Value) → List Value → MM → Prop} (hin : jIn ad ksC.length)   (hJ : jOk l D vwCl (tyC cy) cy ad ftC ksC (XtC ad) Om RX7 cX7_readPart 5 3 ({ frames := 3, cells := 0, slots := 0, locals := 70 } : Room) Q J)  : ∀ (x1 x2 x4 : Int) (M : MM), ri_ x1 → rl_ x2 → ri_ x4 → w_X7_readPart_b273  Q  x1 x2 x4 M → J 273 [(0, .ref (ad 261)), (1, .int (Ii x1)), (2, .long (Ll x2)), (4, .int (Ii x4))] [] M := by
  intro x1 x2 x4 M gx1 gx2 gx4 hF
  unfold w_X7_readPart_b273 at hF
  refine j_aload_n hJ dX7_readPart_273 rfl 0 rfl ?_
  refine j_gr (e := 267) hJ kC_261 fC_10_9 fl_X7_48 dX7_readPart_274 rfl ?_
  refine j_iload_n hJ dX7_readPart_277 rfl 1 rfl ?_
  refine j_aload_n hJ dX7_readPart_278 rfl 0 rfl ?_
  refine j_ga hJ kC_261 fC_10_0 fl_X7_9 dX7_readPart_279 ?_
  refine j_gi hJ kC_1 fC_12_9 rfl fl_X7_86 dX7_readPart_282 (fun v1 ev1 gv1 => ?_)
  have hF := hF v1 ev1 gv1
  refine j_bipush hJ dX7_readPart_285 (by decide) ?_
  refine j_icmp_ne hJ 295 gv1 rk_12 dX7_readPart_287 (by decide) (fun z2 => ?_) (fun z2 => ?_)
  · have hF := hF.1 z2
    refine j_bipush hJ dX7_readPart_295 (by decide) ?_
    exact j_sub hJ [0, 1, 2, 3] rfl (k_X7_readPart_b297 hin  hJ  x1 x2 x4 8 x1 _ gx1 gx2 gx4 rk_8 gx1 hF)
  · have hF := hF.2 z2
    refine j_bipush hJ dX7_readPart_290 (by decide) ?_
    refine j_goto hJ 297 dX7_readPart_292 (by decide) ?_
    exact j_sub hJ [0, 1, 2, 3] rfl (k_X7_readPart_b297 hin  hJ  x1 x2 x4 7 x1 _ gx1 gx2 gx4 rk_7 gx1 hF)
set_option maxHeartbeats 4000000 in
set_option maxRecDepth 100000 in
theorem k_X7_readPart_b224 {l : Launch} {D : va_G} {cy : Nat → ClassId} {ad : Nat → Nat} {Q : Int → MM → Prop} {J : Nat → List (Nat × Value) → List Value → MM → Prop} (hin : jIn ad ksC.length)   (hJ : jOk l D vwCl (tyC cy) cy ad ftC ksC (XtC ad) Om RX7 cX7_readPart 5 3 ({ frames := 3, cells := 0, slots := 0, locals := 70 } : Room) Q J)  : ∀ (x1 s0 s1 : Int) (M : MM), ri_ x1 → ri_ s0 → ri_ s1 → w_X7_readPart_b224  Q  x1 s0 s1 M → J 224 [(0, .ref (ad 261)), (1, .int (Ii x1))] [.int (Ii s0), .int (Ii s1), .ref (ad 261)] M := by
  intro x1 s0 s1 M gx1 gs0 gs1 hF
  unfold w_X7_readPart_b224 at hF
  refine j_ior hJ dX7_readPart_224 ?_
  refine j_pi hJ (ri_of _) kC_261 fC_10_15 rfl fp_X7_113 dX7_readPart_225 (fun M1 eM1 => ?_)
  have hF := hF M1 eM1
  refine j_aload_n hJ dX7_readPart_228 rfl 0 rfl ?_
  refine j_gr (e := 268) hJ kC_261 fC_10_10 fl_X7_51 dX7_readPart_229 rfl ?_
  refine j_iload_n hJ dX7_readPart_232 rfl 1 rfl ?_
  refine j_iald hJ gx1 kC_268 hF.1 hF.2.1 dX7_readPart_233 (fun v2 ev2 gv2 => ?_)
  have hF := hF.2.2 v2 ev2 gv2
  refine j_iconst hJ dX7_readPart_234 ?_
  refine j_icmp_eq hJ 242 gv2 rk_m1 dX7_readPart_235 (by decide) (fun z3 => ?_) (fun z3 => ?_)
  · have hF := hF.1 z3
    refine j_iconst hJ dX7_readPart_242 ?_
    exact j_zret hJ rfl (by decide) dX7_readPart_243 hF
  · have hF := hF.2 z3
    refine j_iconst hJ dX7_readPart_238 ?_
    refine j_goto hJ 243 dX7_readPart_239 (by decide) ?_
    exact j_zret hJ rfl (by decide) dX7_readPart_243 hF
set_option maxHeartbeats 4000000 in
set_option maxRecDepth 100000 in
theorem c_X7_readPart {l : Launch} {D : va_G} {cy : Nat → ClassId} {ad : Nat → Nat} (hin : jIn ad ksC.length) : jCN l D vwCl (tyC cy) cy ad ftC ksC (XtC ad) yX7_readPart (.code yX7_readPart cX7_readPart 5 (some .boolean) :: Om) ({ frames := 3, cells := 0, slots := 0, locals := 70 } : Room) 3 (W_X7_readPart ad) := by
  refine jCN_of (y := yX7_readPart) (cc := cX7_readPart) (nL := 5) (rk := 3) (rm := ({ frames := 3, cells := 0, slots := 0, locals := 70 } : Room)) (own := RX7) (tyC_ok cy) hin (XtC_ok ad) Om_good (by decide) rfl ?_
  intro Q av M hF
  obtain ⟨p1, rfl, gp1, hF⟩ := hF
  refine ⟨Nat.le_of_ble_eq_true rfl, fun J hJ => ?_⟩
  show J 0 [(0, .ref (ad 261)), (1, .int (Ii p1))] [] M
  unfold w_X7_readPart at hF
  refine j_aload_n hJ dX7_readPart_0 rfl 0 rfl ?_
  refine j_ga hJ kC_261 fC_10_0 fl_X7_9 dX7_readPart_1 ?_
  refine j_gl hJ kC_1 fC_12_11 rfl fl_X7_100 dX7_readPart_4 (fun v1 ev1 gv1 => ?_)
  have hF := hF v1 ev1 gv1
  refine j_lstore_n (lv' := [(2, .long (Ll v1)), (0, .ref (ad 261)), (1, .int (Ii p1))]) hJ dX7_readPart_7 rfl (by decide) rfl ?_
  refine j_aload_n hJ dX7_readPart_8 rfl 1 rfl ?_
  refine j_ga hJ kC_261 fC_10_0 fl_X7_9 dX7_readPart_9 ?_
  refine j_gi hJ kC_1 fC_12_10 rfl fl_X7_93 dX7_readPart_12 (fun v2 ev2 gv2 => ?_)
  have hF := hF v2 ev2 gv2
  refine j_istore (lv' := [(4, .int (Ii v2)), (2, .long (Ll v1)), (0, .ref (ad 261)), (1, .int (Ii p1))]) hJ dX7_readPart_15 (by decide) rfl ?_
  refine j_aload_n hJ dX7_readPart_17 rfl 2 rfl ?_
  refine j_ga hJ kC_261 fC_10_0 fl_X7_9 dX7_readPart_18 ?_
  refine j_callVv hJ (c_X9_nextWord (l := l) (D := D) (cy := cy) (ad := ad) hin) rfl om_597 ⟨rfl, rfl, Nat.le_of_ble_eq_true rfl, Nat.le_of_ble_eq_true rfl⟩ [] mv_X7_97 hd_X9_nextWordv kC_1 rfl rfl rfl (Nat.le_of_ble_eq_true rfl) dX7_readPart_21 ⟨rfl, hF⟩ (fun M4 qM4 => ?_)
  have hF := qM4
  refine j_lload_n hJ dX7_readPart_24 rfl 1 rfl ?_
  refine j_aload_n hJ dX7_readPart_25 rfl 2 rfl ?_
  refine j_gl hJ kC_261 fC_10_2 rfl fl_X7_29 dX7_readPart_26 (fun v5 ev5 gv5 => ?_)
  have hF := hF v5 ev5 gv5
  refine j_lcmp_eq hJ 44 gv1 gv5 dX7_readPart_29 dX7_readPart_30 (by decide) (fun z6 => ?_) (fun z6 => ?_)
  · have hF := hF.1 z6
    exact j_sub hJ [2, 3, 1, 0] rfl (k_X7_readPart_b44 hin  hJ  p1 v1 v2 _ gp1 gv1 gv2 hF)
  · have hF := hF.2 z6
    refine j_aload_n hJ dX7_readPart_33 rfl 2 rfl ?_
    refine j_ga hJ kC_261 fC_10_0 fl_X7_9 dX7_readPart_34 ?_
    refine j_gi hJ kC_1 fC_12_9 rfl fl_X7_86 dX7_readPart_37 (fun v7 ev7 gv7 => ?_)
    have hF := hF v7 ev7 gv7
    refine j_iconst hJ dX7_readPart_40 ?_
    refine j_icmp_ne hJ 141 gv7 rk_4 dX7_readPart_41 (by decide) (fun z8 => ?_) (fun z8 => ?_)
    · have hF := hF.1 z8
      refine j_aload_n hJ dX7_readPart_141 rfl 2 rfl ?_
      refine j_ga hJ kC_261 fC_10_0 fl_X7_9 dX7_readPart_142 ?_
      refine j_gi hJ kC_1 fC_12_9 rfl fl_X7_86 dX7_readPart_145 (fun v9 ev9 gv9 => ?_)
      have hF := hF v9 ev9 gv9
      refine j_bipush hJ dX7_readPart_148 (by decide) ?_
      refine j_icmp_ne hJ 244 gv9 rk_9 dX7_readPart_150 (by decide) (fun z10 => ?_) (fun z10 => ?_)
      · have hF := hF.1 z10
        refine j_aload_n hJ dX7_readPart_244 rfl 2 rfl ?_
        refine j_ga hJ kC_261 fC_10_0 fl_X7_9 dX7_readPart_245 ?_
        refine j_gi hJ kC_1 fC_12_9 rfl fl_X7_86 dX7_readPart_248 (fun v11 ev11 gv11 => ?_)
        have hF := hF v11 ev11 gv11
        refine j_bipush hJ dX7_readPart_251 (by decide) ?_
        refine j_icmp_eq hJ 273 gv11 rk_12 dX7_readPart_253 (by decide) (fun z12 => ?_) (fun z12 => ?_)
        · have hF := hF.1 z12
          exact j_sub hJ [2, 3, 1, 0] rfl (k_X7_readPart_b273 hin  hJ  p1 v1 v2 _ gp1 gv1 gv2 hF)
        · have hF := hF.2 z12
          refine j_aload_n hJ dX7_readPart_256 rfl 2 rfl ?_
          refine j_ga hJ kC_261 fC_10_0 fl_X7_9 dX7_readPart_257 ?_
          refine j_gi hJ kC_1 fC_12_9 rfl fl_X7_86 dX7_readPart_260 (fun v13 ev13 gv13 => ?_)
          have hF := hF v13 ev13 gv13
          refine j_bipush hJ dX7_readPart_263 (by decide) ?_
          refine j_icmp_eq hJ 273 gv13 rk_20 dX7_readPart_265 (by decide) (fun z14 => ?_) (fun z14 => ?_)
          · have hF := hF.1 z14
            exact j_sub hJ [2, 3, 1, 0] rfl (k_X7_readPart_b273 hin  hJ  p1 v1 v2 _ gp1 gv1 gv2 hF)
          · have hF := hF.2 z14
            refine j_aload_n hJ dX7_readPart_268 rfl 2 rfl ?_
            refine j_callVz hJ (c_X7_refuse (l := l) (D := D) (cy := cy) (ad := ad) hin) rfl om_722 ⟨rfl, rfl, Nat.le_of_ble_eq_true rfl, Nat.le_of_ble_eq_true rfl⟩ [] mv_X7_94 hd_X7_refusev kC_261 rfl rfl rfl (Nat.le_of_ble_eq_true rfl) dX7_readPart_269 ⟨rfl, hF⟩ (fun r15 M16 gr15 qM16 => ?_)
            have hF := qM16 gr15
            exact j_zret hJ rfl gr15 dX7_readPart_272 hF
      · have hF := hF.2 z10
        refine j_aload_n hJ dX7_readPart_153 rfl 2 rfl ?_
        refine j_ga hJ kC_261 fC_10_0 fl_X7_9 dX7_readPart_154 ?_
        refine j_callVv hJ (c_X9_nextWord (l := l) (D := D) (cy := cy) (ad := ad) hin) rfl om_597 ⟨rfl, rfl, Nat.le_of_ble_eq_true rfl, Nat.le_of_ble_eq_true rfl⟩ [] mv_X7_97 hd_X9_nextWordv kC_1 rfl rfl rfl (Nat.le_of_ble_eq_true rfl) dX7_readPart_157 ⟨rfl, hF⟩ (fun M18 qM18 => ?_)
        have hF := qM18
        refine j_aload_n hJ dX7_readPart_160 rfl 2 rfl ?_
        refine j_gr (e := 267) hJ kC_261 fC_10_9 fl_X7_48 dX7_readPart_161 rfl ?_
        refine j_iload_n hJ dX7_readPart_164 rfl 3 rfl ?_
        refine j_bipush hJ dX7_readPart_165 (by decide) ?_
        refine j_iast hJ gp1 rk_9 kC_267 hF.1 hF.2.1 dX7_readPart_167 (fun M19 eM19 => ?_)
        have hF := hF.2.2 M19 eM19
        refine j_aload_n hJ dX7_readPart_168 rfl 2 rfl ?_
        refine j_gr (e := 270) hJ kC_261 fC_10_12 fl_X7_57 dX7_readPart_169 rfl ?_
        refine j_iload_n hJ dX7_readPart_172 rfl 3 rfl ?_
        refine j_lload_n hJ dX7_readPart_173 rfl 1 rfl ?_
        refine j_last hJ gp1 gv1 kC_270 hF.1 hF.2.1 dX7_readPart_174 (fun M20 eM20 => ?_)
        have hF := hF.2.2 M20 eM20
        refine j_aload_n hJ dX7_readPart_175 rfl 2 rfl ?_
        refine j_gr (e := 268) hJ kC_261 fC_10_10 fl_X7_51 dX7_readPart_176 rfl ?_
        refine j_iload_n hJ dX7_readPart_179 rfl 3 rfl ?_
        refine j_aload_n hJ dX7_readPart_180 rfl 2 rfl ?_
        refine j_callVi hJ (c_X7_readVariable (l := l) (D := D) (cy := cy) (ad := ad) hin) rfl om_738 ⟨rfl, rfl, Nat.le_of_ble_eq_true rfl, Nat.le_of_ble_eq_true rfl⟩ [] mv_X7_134 hd_X7_readVariablev kC_261 rfl rfl rfl (Nat.le_of_ble_eq_true rfl) dX7_readPart_181 ⟨rfl, hF⟩ (fun r21 M22 gr21 qM22 => ?_)
        have hF := qM22 gr21
        refine j_iast hJ gp1 gr21 kC_268 hF.1 hF.2.1 dX7_readPart_184 (fun M23 eM23 => ?_)
        have hF := hF.2.2 M23 eM23
        refine j_aload_n hJ dX7_readPart_185 rfl 2 rfl ?_
        refine j_gr (e := 269) hJ kC_261 fC_10_11 fl_X7_54 dX7_readPart_186 rfl ?_
        refine j_iload_n hJ dX7_readPart_189 rfl 3 rfl ?_
        refine j_aload_n hJ dX7_readPart_190 rfl 2 rfl ?_
        refine j_gr (e := 268) hJ kC_261 fC_10_10 fl_X7_51 dX7_readPart_191 rfl ?_
        refine j_iload_n hJ dX7_readPart_194 rfl 3 rfl ?_
        refine j_iald hJ gp1 kC_268 hF.1 hF.2.1 dX7_readPart_195 (fun v24 ev24 gv24 => ?_)
        have hF := hF.2.2 v24 ev24 gv24
        refine j_iast hJ gp1 gv24 kC_269 hF.1 hF.2.1 dX7_readPart_196 (fun M25 eM25 => ?_)
        have hF := hF.2.2 M25 eM25
        refine j_aload_n hJ dX7_readPart_197 rfl 2 rfl ?_
        refine j_dup hJ dX7_readPart_198 rfl ?_
        refine j_gi hJ kC_261 fC_10_15 rfl fl_X7_113 dX7_readPart_199 (fun v26 ev26 gv26 => ?_)
        have hF := hF v26 ev26 gv26
        refine j_aload_n hJ dX7_readPart_202 rfl 2 rfl ?_
        refine j_gr (e := 268) hJ kC_261 fC_10_10 fl_X7_51 dX7_readPart_203 rfl ?_
        refine j_iload_n hJ dX7_readPart_206 rfl 3 rfl ?_
        refine j_iald hJ gp1 kC_268 hF.1 hF.2.1 dX7_readPart_207 (fun v27 ev27 gv27 => ?_)
        have hF := hF.2.2 v27 ev27 gv27
        refine j_iconst hJ dX7_readPart_208 ?_
        refine j_icmp_ne hJ 216 gv27 rk_m1 dX7_readPart_209 (by decide) (fun z28 => ?_) (fun z28 => ?_)
        · have hF := hF.1 z28
          refine j_iconst hJ dX7_readPart_216 ?_
          refine j_aload_n hJ dX7_readPart_217 rfl 2 rfl ?_
          refine j_gr (e := 268) hJ kC_261 fC_10_10 fl_X7_51 dX7_readPart_218 rfl ?_
          refine j_iload_n hJ dX7_readPart_221 rfl 3 rfl ?_
          refine j_iald hJ gp1 kC_268 hF.1 hF.2.1 dX7_readPart_222 (fun v29 ev29 gv29 => ?_)
          have hF := hF.2.2 v29 ev29 gv29
          refine j_ishl hJ dX7_readPart_223 ?_
          exact j_sub hJ [2, 3] rfl (k_X7_readPart_b224 hin  hJ  p1 (jshl 1 v29) v26 _ gp1 (ri_of _) gv26 hF)
        · have hF := hF.2 z28
          refine j_iconst hJ dX7_readPart_212 ?_
          refine j_goto hJ 224 dX7_readPart_213 (by decide) ?_
          exact j_sub hJ [2, 3] rfl (k_X7_readPart_b224 hin  hJ  p1 0 v26 _ gp1 rk_0 gv26 hF)
    · have hF := hF.2 z8
      exact j_sub hJ [2, 3, 1, 0] rfl (k_X7_readPart_b44 hin  hJ  p1 v1 v2 _ gp1 gv1 gv2 hF)
def W_X7_readBody (ad : Nat → Nat) (Q : Int → MM → Prop) (av : List Value) (M : MM) : Prop := av = [.ref (ad 261)] ∧ w_X7_readBody  Q  M
set_option maxHeartbeats 4000000 in
set_option maxRecDepth 100000 in
theorem k_X7_readBody_b33 {l : Launch} {D : va_G} {cy : Nat → ClassId} {ad : Nat → Nat} {Q : Int → MM → Prop} {J : Nat → List (Nat × Value) → List Value → MM → Prop} (hin : jIn ad ksC.length)   (hJ : jOk l D vwCl (tyC cy) cy ad ftC ksC (XtC ad) Om RX7 cX7_readBody 2 3 ({ frames := 4, cells := 0, slots := 0, locals := 94 } : Room) Q J)  : ∀ (M : MM), w_X7_readBody_b33  Q   M → J 33 [(0, .ref (ad 261))] [] M := by
  intro  M  hF
  unfold w_X7_readBody_b33 at hF
  refine j_aload_n hJ dX7_readBody_33 rfl 0 rfl ?_
  refine j_callVz hJ (c_X7_refuse (l := l) (D := D) (cy := cy) (ad := ad) hin) rfl om_722 ⟨rfl, rfl, Nat.le_of_ble_eq_true rfl, Nat.le_of_ble_eq_true rfl⟩ [] mv_X7_94 hd_X7_refusev kC_261 rfl rfl rfl (Nat.le_of_ble_eq_true rfl) dX7_readBody_34 ⟨rfl, hF⟩ (fun r1 M2 gr1 qM2 => ?_)
  have hF := qM2 gr1
  exact j_zret hJ rfl gr1 dX7_readBody_37 hF
set_option maxHeartbeats 4000000 in
set_option maxRecDepth 100000 in
theorem k_X7_readBody_b2 {l : Launch} {D : va_G} {cy : Nat → ClassId} {ad : Nat → Nat} {Q : Int → MM → Prop} {J : Nat → List (Nat × Value) → List Value → MM → Prop} (hin : jIn ad ksC.length)   (hJ : jOk l D vwCl (tyC cy) cy ad ftC ksC (XtC ad) Om RX7 cX7_readBody 2 3 ({ frames := 4, cells := 0, slots := 0, locals := 94 } : Room) Q J)  : ∀ (x1 : Int) (M : MM), ri_ x1 → w_X7_readBody_b2  Q  x1 M → J 2 [(0, .ref (ad 261)), (1, .int (Ii x1))] [] M := by
  have H9 : ∀ (n : Nat) (x1 : Int) (M : MM), ri_ x1 → jit (fun _ _ => False) (wb_X7_readBody_b2  Q ) n x1 M → J 2 [(0, .ref (ad 261)), (1, .int (Ii x1))] [] M := by
    intro n
    induction n with
    | zero => intro x1 M gx1 hF; exact False.elim hF
    | succ n ih =>
    intro x1 M gx1 hF
    have hF : wb_X7_readBody_b2  Q  (jit (fun _ _ => False) (wb_X7_readBody_b2  Q ) n) x1 M := hF
    unfold wb_X7_readBody_b2 at hF
    refine j_iload_n hJ dX7_readBody_2 rfl 1 rfl ?_
    refine j_iconst hJ dX7_readBody_3 ?_
    refine j_icmp_gt hJ 116 gx1 rk_4 dX7_readBody_4 (by decide) (fun z1 => ?_) (fun z1 => ?_)
    · have hF := hF.1 z1
      refine j_iconst hJ dX7_readBody_116 ?_
      exact j_zret hJ rfl (by decide) dX7_readBody_117 hF
    · have hF := hF.2 z1
      refine j_aload_n hJ dX7_readBody_7 rfl 0 rfl ?_
      refine j_ga hJ kC_261 fC_10_0 fl_X7_9 dX7_readBody_8 ?_
      refine j_gi hJ kC_1 fC_12_9 rfl fl_X7_86 dX7_readBody_11 (fun v2 ev2 gv2 => ?_)
      have hF := hF v2 ev2 gv2
      refine j_iconst hJ dX7_readBody_14 ?_
      refine j_icmp_ne hJ 33 gv2 rk_2 dX7_readBody_15 (by decide) (fun z3 => ?_) (fun z3 => ?_)
      · have hF := hF.1 z3
        exact j_sub hJ [0] rfl (k_X7_readBody_b33 hin  hJ   _  hF)
      · have hF := hF.2 z3
        refine j_aload_n hJ dX7_readBody_18 rfl 0 rfl ?_
        refine j_ga hJ kC_261 fC_10_0 fl_X7_9 dX7_readBody_19 ?_
        refine j_gl hJ kC_1 fC_12_11 rfl fl_X7_100 dX7_readBody_22 (fun v4 ev4 gv4 => ?_)
        have hF := hF v4 ev4 gv4
        refine j_aload_n hJ dX7_readBody_25 rfl 0 rfl ?_
        refine j_gl hJ kC_261 fC_10_1 rfl fl_X7_23 dX7_readBody_26 (fun v5 ev5 gv5 => ?_)
        have hF := hF v5 ev5 gv5
        refine j_lcmp_ne hJ 38 gv4 gv5 dX7_readBody_29 dX7_readBody_30 (by decide) (fun z6 => ?_) (fun z6 => ?_)
        · have hF := hF.1 z6
          refine j_iload_n hJ dX7_readBody_38 rfl 1 rfl ?_
          refine j_iconst hJ dX7_readBody_39 ?_
          refine j_icmp_ne hJ 56 gx1 rk_4 dX7_readBody_40 (by decide) (fun z7 => ?_) (fun z7 => ?_)
          · have hF := hF.1 z7
            refine j_aload_n hJ dX7_readBody_56 rfl 0 rfl ?_
            refine j_aload_n hJ dX7_readBody_57 rfl 0 rfl ?_
            refine j_gi hJ kC_261 fC_10_3 rfl fl_X7_70 dX7_readBody_58 (fun v8 ev8 gv8 => ?_)
            have hF := hF v8 ev8 gv8
            refine j_iconst hJ dX7_readBody_61 ?_
            refine j_imul hJ dX7_readBody_62 ?_
            have g9 := hF.1; have hF := hF.2
            refine j_iload_n hJ dX7_readBody_63 rfl 1 rfl ?_
            refine j_iadd hJ dX7_readBody_64 ?_
            have g10 := hF.1; have hF := hF.2
            refine j_callVz hJ (c_X7_readPart (l := l) (D := D) (cy := cy) (ad := ad) hin) rfl om_746 ⟨rfl, rfl, Nat.le_of_ble_eq_true rfl, Nat.le_of_ble_eq_true rfl⟩ [.int (Ii ((v8 * 4) + x1))] mv_X7_127 hd_X7_readPartv kC_261 rfl rfl rfl (Nat.le_of_ble_eq_true rfl) dX7_readBody_65 ⟨((v8 * 4) + x1), rfl, g10, hF⟩ (fun r11 M12 gr11 qM12 => ?_)
            have hF := qM12 gr11
            refine j_if_ne hJ 73 (jz_ri gr11) dX7_readBody_68 (by decide) (fun z13 => ?_) (fun z13 => ?_)
            · have hF := hF.1 z13
              refine j_aload_n hJ dX7_readBody_73 rfl 0 rfl ?_
              refine j_gr (e := 266) hJ kC_261 fC_10_8 fl_X7_45 dX7_readBody_74 rfl ?_
              refine j_aload_n hJ dX7_readBody_77 rfl 0 rfl ?_
              refine j_gi hJ kC_261 fC_10_3 rfl fl_X7_70 dX7_readBody_78 (fun v14 ev14 gv14 => ?_)
              have hF := hF v14 ev14 gv14
              refine j_iload_n hJ dX7_readBody_81 rfl 1 rfl ?_
              refine j_iconst hJ dX7_readBody_82 ?_
              refine j_iadd hJ dX7_readBody_83 ?_
              have g15 := hF.1; have hF := hF.2
              refine j_iast hJ gv14 g15 kC_266 hF.1 hF.2.1 dX7_readBody_84 (fun M16 eM16 => ?_)
              have hF := hF.2.2 M16 eM16
              refine j_aload_n hJ dX7_readBody_85 rfl 0 rfl ?_
              refine j_ga hJ kC_261 fC_10_0 fl_X7_9 dX7_readBody_86 ?_
              refine j_gi hJ kC_1 fC_12_9 rfl fl_X7_86 dX7_readBody_89 (fun v17 ev17 gv17 => ?_)
              have hF := hF v17 ev17 gv17
              refine j_bipush hJ dX7_readBody_92 (by decide) ?_
              refine j_icmp_ne hJ 99 gv17 rk_10 dX7_readBody_94 (by decide) (fun z18 => ?_) (fun z18 => ?_)
              · have hF := hF.1 z18
                refine j_aload_n hJ dX7_readBody_99 rfl 0 rfl ?_
                refine j_bipush hJ dX7_readBody_100 (by decide) ?_
                refine j_callVz hJ (c_X7_pass (l := l) (D := D) (cy := cy) (ad := ad) hin) rfl om_726 ⟨rfl, rfl, Nat.le_of_ble_eq_true rfl, Nat.le_of_ble_eq_true rfl⟩ [.int (Ii 8)] mv_X7_131 hd_X7_passv kC_261 rfl rfl rfl (Nat.le_of_ble_eq_true rfl) dX7_readBody_102 ⟨8, rfl, rk_8, hF⟩ (fun r19 M20 gr19 qM20 => ?_)
                have hF := qM20 gr19
                refine j_if_ne hJ 110 (jz_ri gr19) dX7_readBody_105 (by decide) (fun z21 => ?_) (fun z21 => ?_)
                · have hF := hF.1 z21
                  refine j_iinc (lv' := [(1, .int (Ii (x1 + 1))), (0, .ref (ad 261))]) (k := 1) hJ dX7_readBody_110 rfl (by decide) rfl ?_
                  have g22 := hF.1; have hF := hF.2
                  refine j_goto hJ 2 dX7_readBody_113 (by decide) ?_
                  exact j_sub hJ [1, 0] rfl (ih (x1 + 1) _ g22 hF)
                · have hF := hF.2 z21
                  refine j_iconst hJ dX7_readBody_108 ?_
                  exact j_zret hJ rfl (by decide) dX7_readBody_109 hF
              · have hF := hF.2 z18
                refine j_iconst hJ dX7_readBody_97 ?_
                exact j_zret hJ rfl (by decide) dX7_readBody_98 hF
            · have hF := hF.2 z13
              refine j_iconst hJ dX7_readBody_71 ?_
              exact j_zret hJ rfl (by decide) dX7_readBody_72 hF
          · have hF := hF.2 z7
            refine j_aload_n hJ dX7_readBody_43 rfl 0 rfl ?_
            refine j_iconst hJ dX7_readBody_44 ?_
            refine j_aload_n hJ dX7_readBody_45 rfl 0 rfl ?_
            refine j_ga hJ kC_261 fC_10_0 fl_X7_9 dX7_readBody_46 ?_
            refine j_gi hJ kC_1 fC_12_10 rfl fl_X7_93 dX7_readBody_49 (fun v23 ev23 gv23 => ?_)
            have hF := hF v23 ev23 gv23
            refine j_callVz hJ (c_X7_fail (l := l) (D := D) (cy := cy) (ad := ad) hin) rfl om_734 ⟨rfl, rfl, Nat.le_of_ble_eq_true rfl, Nat.le_of_ble_eq_true rfl⟩ [.int (Ii 4), .int (Ii v23)] mv_X7_106 hd_X7_failv kC_261 rfl rfl rfl (Nat.le_of_ble_eq_true rfl) dX7_readBody_52 ⟨4, v23, rfl, rk_4, gv23, hF⟩ (fun r24 M25 gr24 qM25 => ?_)
            have hF := qM25 gr24
            exact j_zret hJ rfl gr24 dX7_readBody_55 hF
        · have hF := hF.2 z6
          exact j_sub hJ [0] rfl (k_X7_readBody_b33 hin  hJ   _  hF)
  intro x1 M gx1 hF
  obtain ⟨n, hF⟩ := hF
  exact H9 n x1 M gx1 hF
set_option maxHeartbeats 4000000 in
set_option maxRecDepth 100000 in
theorem c_X7_readBody {l : Launch} {D : va_G} {cy : Nat → ClassId} {ad : Nat → Nat} (hin : jIn ad ksC.length) : jCN l D vwCl (tyC cy) cy ad ftC ksC (XtC ad) yX7_readBody (.code yX7_readBody cX7_readBody 2 (some .boolean) :: Om) ({ frames := 4, cells := 0, slots := 0, locals := 94 } : Room) 3 (W_X7_readBody ad) := by
  refine jCN_of (y := yX7_readBody) (cc := cX7_readBody) (nL := 2) (rk := 3) (rm := ({ frames := 4, cells := 0, slots := 0, locals := 94 } : Room)) (own := RX7) (tyC_ok cy) hin (XtC_ok ad) Om_good (by decide) rfl ?_
  intro Q av M hF
  obtain ⟨rfl, hF⟩ := hF
  refine ⟨Nat.le_of_ble_eq_true rfl, fun J hJ => ?_⟩
  show J 0 [(0, .ref (ad 261))] [] M
  unfold w_X7_readBody at hF
  refine j_iconst hJ dX7_readBody_0 ?_
  refine j_istore_n (lv' := [(1, .int (Ii 0)), (0, .ref (ad 261))]) hJ dX7_readBody_1 rfl (by decide) rfl ?_
  exact j_sub hJ [1, 0] rfl (k_X7_readBody_b2 hin  hJ  0 _ rk_0 hF)
def W_X7_readRule (ad : Nat → Nat) (Q : Int → MM → Prop) (av : List Value) (M : MM) : Prop := av = [.ref (ad 261)] ∧ w_X7_readRule  Q  M
set_option maxHeartbeats 4000000 in
set_option maxRecDepth 100000 in
theorem k_X7_readRule_b142 {l : Launch} {D : va_G} {cy : Nat → ClassId} {ad : Nat → Nat} {Q : Int → MM → Prop} {J : Nat → List (Nat × Value) → List Value → MM → Prop} (hin : jIn ad ksC.length)   (hJ : jOk l D vwCl (tyC cy) cy ad ftC ksC (XtC ad) Om RX7 cX7_readRule 3 3 ({ frames := 5, cells := 0, slots := 0, locals := 115 } : Room) Q J)  : ∀ (M : MM), w_X7_readRule_b142  Q   M → J 142 [(0, .ref (ad 261))] [] M := by
  intro  M  hF
  unfold w_X7_readRule_b142 at hF
  refine j_aload_n hJ dX7_readRule_142 rfl 0 rfl ?_
  refine j_callVz hJ (c_X7_refuse (l := l) (D := D) (cy := cy) (ad := ad) hin) rfl om_722 ⟨rfl, rfl, Nat.le_of_ble_eq_true rfl, Nat.le_of_ble_eq_true rfl⟩ [] mv_X7_94 hd_X7_refusev kC_261 rfl rfl rfl (Nat.le_of_ble_eq_true rfl) dX7_readRule_143 ⟨rfl, hF⟩ (fun r1 M2 gr1 qM2 => ?_)
  have hF := qM2 gr1
  exact j_zret hJ rfl gr1 dX7_readRule_146 hF
set_option maxHeartbeats 4000000 in
set_option maxRecDepth 100000 in
theorem k_X7_readRule_b201 {l : Launch} {D : va_G} {cy : Nat → ClassId} {ad : Nat → Nat} {Q : Int → MM → Prop} {J : Nat → List (Nat × Value) → List Value → MM → Prop} (hin : jIn ad ksC.length)   (hJ : jOk l D vwCl (tyC cy) cy ad ftC ksC (XtC ad) Om RX7 cX7_readRule 3 3 ({ frames := 5, cells := 0, slots := 0, locals := 115 } : Room) Q J)  : ∀ (M : MM), w_X7_readRule_b201  Q   M → J 201 [(0, .ref (ad 261))] [] M := by
  intro  M  hF
  unfold w_X7_readRule_b201 at hF
  refine j_aload_n hJ dX7_readRule_201 rfl 0 rfl ?_
  refine j_iconst hJ dX7_readRule_202 ?_
  refine j_aload_n hJ dX7_readRule_203 rfl 0 rfl ?_
  refine j_ga hJ kC_261 fC_10_0 fl_X7_9 dX7_readRule_204 ?_
  refine j_gi hJ kC_1 fC_12_10 rfl fl_X7_93 dX7_readRule_207 (fun v1 ev1 gv1 => ?_)
  have hF := hF v1 ev1 gv1
  refine j_callVz hJ (c_X7_fail (l := l) (D := D) (cy := cy) (ad := ad) hin) rfl om_734 ⟨rfl, rfl, Nat.le_of_ble_eq_true rfl, Nat.le_of_ble_eq_true rfl⟩ [.int (Ii 3), .int (Ii v1)] mv_X7_106 hd_X7_failv kC_261 rfl rfl rfl (Nat.le_of_ble_eq_true rfl) dX7_readRule_210 ⟨3, v1, rfl, rk_3, gv1, hF⟩ (fun r2 M3 gr2 qM3 => ?_)
  have hF := qM3 gr2
  exact j_zret hJ rfl gr2 dX7_readRule_213 hF
set_option maxHeartbeats 4000000 in
set_option maxRecDepth 100000 in
theorem c_X7_readRule {l : Launch} {D : va_G} {cy : Nat → ClassId} {ad : Nat → Nat} (hin : jIn ad ksC.length) : jCN l D vwCl (tyC cy) cy ad ftC ksC (XtC ad) yX7_readRule (.code yX7_readRule cX7_readRule 3 (some .boolean) :: Om) ({ frames := 5, cells := 0, slots := 0, locals := 115 } : Room) 3 (W_X7_readRule ad) := by
  refine jCN_of (y := yX7_readRule) (cc := cX7_readRule) (nL := 3) (rk := 3) (rm := ({ frames := 5, cells := 0, slots := 0, locals := 115 } : Room)) (own := RX7) (tyC_ok cy) hin (XtC_ok ad) Om_good (by decide) rfl ?_
  intro Q av M hF
  obtain ⟨rfl, hF⟩ := hF
  refine ⟨Nat.le_of_ble_eq_true rfl, fun J hJ => ?_⟩
  show J 0 [(0, .ref (ad 261))] [] M
  unfold w_X7_readRule at hF
  refine j_aload_n hJ dX7_readRule_0 rfl 0 rfl ?_
  refine j_callVz hJ (c_X7_isPlainName (l := l) (D := D) (cy := cy) (ad := ad) hin) rfl om_712 ⟨rfl, rfl, Nat.le_of_ble_eq_true rfl, Nat.le_of_ble_eq_true rfl⟩ [] mv_X7_103 hd_X7_isPlainNamev kC_261 rfl rfl rfl (Nat.le_of_ble_eq_true rfl) dX7_readRule_1 ⟨rfl, hF⟩ (fun r1 M2 gr1 qM2 => ?_)
  have hF := qM2 gr1
  refine j_if_ne hJ 12 (jz_ri gr1) dX7_readRule_4 (by decide) (fun z3 => ?_) (fun z3 => ?_)
  · have hF := hF.1 z3
    refine j_aload_n hJ dX7_readRule_12 rfl 0 rfl ?_
    refine j_gi hJ kC_261 fC_10_3 rfl fl_X7_70 dX7_readRule_13 (fun v4 ev4 gv4 => ?_)
    have hF := hF v4 ev4 gv4
    refine j_bipush hJ dX7_readRule_16 (by decide) ?_
    refine j_icmp_ne hJ 34 gv4 rk_12 dX7_readRule_18 (by decide) (fun z5 => ?_) (fun z5 => ?_)
    · have hF := hF.1 z5
      refine j_aload_n hJ dX7_readRule_34 rfl 0 rfl ?_
      refine j_iconst hJ dX7_readRule_35 ?_
      refine j_pi hJ rk_0 kC_261 fC_10_14 rfl fp_X7_110 dX7_readRule_36 (fun M6 eM6 => ?_)
      have hF := hF M6 eM6
      refine j_aload_n hJ dX7_readRule_39 rfl 0 rfl ?_
      refine j_iconst hJ dX7_readRule_40 ?_
      refine j_pi hJ rk_0 kC_261 fC_10_15 rfl fp_X7_113 dX7_readRule_41 (fun M7 eM7 => ?_)
      have hF := hF M7 eM7
      refine j_aload_n hJ dX7_readRule_44 rfl 0 rfl ?_
      refine j_ga hJ kC_261 fC_10_0 fl_X7_9 dX7_readRule_45 ?_
      refine j_gi hJ kC_1 fC_12_10 rfl fl_X7_93 dX7_readRule_48 (fun v8 ev8 gv8 => ?_)
      have hF := hF v8 ev8 gv8
      refine j_istore_n (lv' := [(1, .int (Ii v8)), (0, .ref (ad 261))]) hJ dX7_readRule_51 rfl (by decide) rfl ?_
      refine j_aload_n hJ dX7_readRule_52 rfl 1 rfl ?_
      refine j_aload_n hJ dX7_readRule_53 rfl 1 rfl ?_
      refine j_ga hJ kC_261 fC_10_0 fl_X7_9 dX7_readRule_54 ?_
      refine j_gl hJ kC_1 fC_12_11 rfl fl_X7_100 dX7_readRule_57 (fun v9 ev9 gv9 => ?_)
      have hF := hF v9 ev9 gv9
      refine j_callVi hJ (c_X7_relationOf (l := l) (D := D) (cy := cy) (ad := ad) hin) rfl om_717 ⟨rfl, rfl, Nat.le_of_ble_eq_true rfl, Nat.le_of_ble_eq_true rfl⟩ [.long (Ll v9)] mv_X7_116 hd_X7_relationOfv kC_261 rfl rfl rfl (Nat.le_of_ble_eq_true rfl) dX7_readRule_60 ⟨v9, rfl, gv9, hF⟩ (fun r10 M11 gr10 qM11 => ?_)
      have hF := qM11 gr10
      refine j_istore_n (lv' := [(2, .int (Ii r10)), (1, .int (Ii v8)), (0, .ref (ad 261))]) hJ dX7_readRule_63 rfl (by decide) rfl ?_
      refine j_iload_n hJ dX7_readRule_64 rfl 0 rfl ?_
      refine j_iconst hJ dX7_readRule_65 ?_
      refine j_icmp_ne hJ 76 gr10 rk_m1 dX7_readRule_66 (by decide) (fun z12 => ?_) (fun z12 => ?_)
      · have hF := hF.1 z12
        refine j_aload_n hJ dX7_readRule_76 rfl 2 rfl ?_
        refine j_ga hJ kC_261 fC_10_0 fl_X7_9 dX7_readRule_77 ?_
        refine j_callVv hJ (c_X9_nextWord (l := l) (D := D) (cy := cy) (ad := ad) hin) rfl om_597 ⟨rfl, rfl, Nat.le_of_ble_eq_true rfl, Nat.le_of_ble_eq_true rfl⟩ [] mv_X7_97 hd_X9_nextWordv kC_1 rfl rfl rfl (Nat.le_of_ble_eq_true rfl) dX7_readRule_80 ⟨rfl, hF⟩ (fun M14 qM14 => ?_)
        have hF := qM14
        refine j_aload_n hJ dX7_readRule_83 rfl 2 rfl ?_
        refine j_gr (e := 262) hJ kC_261 fC_10_4 fl_X7_32 dX7_readRule_84 rfl ?_
        refine j_aload_n hJ dX7_readRule_87 rfl 2 rfl ?_
        refine j_gi hJ kC_261 fC_10_3 rfl fl_X7_70 dX7_readRule_88 (fun v15 ev15 gv15 => ?_)
        have hF := hF v15 ev15 gv15
        refine j_iload_n hJ dX7_readRule_91 rfl 0 rfl ?_
        refine j_iast hJ gv15 gr10 kC_262 hF.1 hF.2.1 dX7_readRule_92 (fun M16 eM16 => ?_)
        have hF := hF.2.2 M16 eM16
        refine j_aload_n hJ dX7_readRule_93 rfl 2 rfl ?_
        refine j_iload_n hJ dX7_readRule_94 rfl 0 rfl ?_
        refine j_iload_n hJ dX7_readRule_95 rfl 1 rfl ?_
        refine j_aload_n hJ dX7_readRule_96 rfl 2 rfl ?_
        refine j_gr (e := 263) hJ kC_261 fC_10_5 fl_X7_36 dX7_readRule_97 rfl ?_
        refine j_aload_n hJ dX7_readRule_100 rfl 2 rfl ?_
        refine j_gr (e := 264) hJ kC_261 fC_10_6 fl_X7_39 dX7_readRule_101 rfl ?_
        refine j_aload_n hJ dX7_readRule_104 rfl 2 rfl ?_
        refine j_gi hJ kC_261 fC_10_3 rfl fl_X7_70 dX7_readRule_105 (fun v17 ev17 gv17 => ?_)
        have hF := hF v17 ev17 gv17
        refine j_callVz hJ (c_X7_readPair (l := l) (D := D) (cy := cy) (ad := ad) hin) rfl om_742 ⟨rfl, rfl, Nat.le_of_ble_eq_true rfl, Nat.le_of_ble_eq_true rfl⟩ [.int (Ii r10), .int (Ii v8), .ref (ad 263), .ref (ad 264), .int (Ii v17)] mv_X7_120 hd_X7_readPairv kC_261 rfl rfl rfl (Nat.le_of_ble_eq_true rfl) dX7_readRule_108 ⟨r10, v8, 263, 12, 264, 12, v17, rfl, gr10, gv8, kC_263, (by decide), kC_264, (by decide), gv17, hF⟩ (fun r18 M19 gr18 qM19 => ?_)
        have hF := qM19 gr18
        refine j_if_ne hJ 116 (jz_ri gr18) dX7_readRule_111 (by decide) (fun z20 => ?_) (fun z20 => ?_)
        · have hF := hF.1 z20
          refine j_aload_n hJ dX7_readRule_116 rfl 2 rfl ?_
          refine j_ga hJ kC_261 fC_10_0 fl_X7_9 dX7_readRule_117 ?_
          refine j_gi hJ kC_1 fC_12_9 rfl fl_X7_86 dX7_readRule_120 (fun v21 ev21 gv21 => ?_)
          have hF := hF v21 ev21 gv21
          refine j_iconst hJ dX7_readRule_123 ?_
          refine j_icmp_ne hJ 142 gv21 rk_2 dX7_readRule_124 (by decide) (fun z22 => ?_) (fun z22 => ?_)
          · have hF := hF.1 z22
            exact j_sub hJ [2] rfl (k_X7_readRule_b142 hin  hJ   _  hF)
          · have hF := hF.2 z22
            refine j_aload_n hJ dX7_readRule_127 rfl 2 rfl ?_
            refine j_ga hJ kC_261 fC_10_0 fl_X7_9 dX7_readRule_128 ?_
            refine j_gl hJ kC_1 fC_12_11 rfl fl_X7_100 dX7_readRule_131 (fun v23 ev23 gv23 => ?_)
            have hF := hF v23 ev23 gv23
            refine j_aload_n hJ dX7_readRule_134 rfl 2 rfl ?_
            refine j_gl hJ kC_261 fC_10_1 rfl fl_X7_23 dX7_readRule_135 (fun v24 ev24 gv24 => ?_)
            have hF := hF v24 ev24 gv24
            refine j_lcmp_eq hJ 147 gv23 gv24 dX7_readRule_138 dX7_readRule_139 (by decide) (fun z25 => ?_) (fun z25 => ?_)
            · have hF := hF.1 z25
              refine j_aload_n hJ dX7_readRule_147 rfl 2 rfl ?_
              refine j_ga hJ kC_261 fC_10_0 fl_X7_9 dX7_readRule_148 ?_
              refine j_callVv hJ (c_X9_nextWord (l := l) (D := D) (cy := cy) (ad := ad) hin) rfl om_597 ⟨rfl, rfl, Nat.le_of_ble_eq_true rfl, Nat.le_of_ble_eq_true rfl⟩ [] mv_X7_97 hd_X9_nextWordv kC_1 rfl rfl rfl (Nat.le_of_ble_eq_true rfl) dX7_readRule_151 ⟨rfl, hF⟩ (fun M27 qM27 => ?_)
              have hF := qM27
              refine j_aload_n hJ dX7_readRule_154 rfl 2 rfl ?_
              refine j_callVz hJ (c_X7_readBody (l := l) (D := D) (cy := cy) (ad := ad) hin) rfl om_750 ⟨rfl, rfl, Nat.le_of_ble_eq_true rfl, Nat.le_of_ble_eq_true rfl⟩ [] mv_X7_124 hd_X7_readBodyv kC_261 rfl rfl rfl (Nat.le_of_ble_eq_true rfl) dX7_readRule_155 ⟨rfl, hF⟩ (fun r28 M29 gr28 qM29 => ?_)
              have hF := qM29 gr28
              refine j_if_ne hJ 163 (jz_ri gr28) dX7_readRule_158 (by decide) (fun z30 => ?_) (fun z30 => ?_)
              · have hF := hF.1 z30
                refine j_aload_n hJ dX7_readRule_163 rfl 2 rfl ?_
                refine j_gi hJ kC_261 fC_10_15 rfl fl_X7_113 dX7_readRule_164 (fun v31 ev31 gv31 => ?_)
                have hF := hF v31 ev31 gv31
                refine j_aload_n hJ dX7_readRule_167 rfl 2 rfl ?_
                refine j_gr (e := 263) hJ kC_261 fC_10_5 fl_X7_36 dX7_readRule_168 rfl ?_
                refine j_aload_n hJ dX7_readRule_171 rfl 2 rfl ?_
                refine j_gi hJ kC_261 fC_10_3 rfl fl_X7_70 dX7_readRule_172 (fun v32 ev32 gv32 => ?_)
                have hF := hF v32 ev32 gv32
                refine j_iald hJ gv32 kC_263 hF.1 hF.2.1 dX7_readRule_175 (fun v33 ev33 gv33 => ?_)
                have hF := hF.2.2 v33 ev33 gv33
                refine j_ishr hJ dX7_readRule_176 ?_
                refine j_iconst hJ dX7_readRule_177 ?_
                refine j_iand hJ dX7_readRule_178 ?_
                refine j_if_eq hJ 201 (ri_of _) dX7_readRule_179 (by decide) (fun z34 => ?_) (fun z34 => ?_)
                · have hF := hF.1 z34
                  exact j_sub hJ [2] rfl (k_X7_readRule_b201 hin  hJ   _  hF)
                · have hF := hF.2 z34
                  refine j_aload_n hJ dX7_readRule_182 rfl 2 rfl ?_
                  refine j_gi hJ kC_261 fC_10_15 rfl fl_X7_113 dX7_readRule_183 (fun v35 ev35 gv35 => ?_)
                  have hF := hF v35 ev35 gv35
                  refine j_aload_n hJ dX7_readRule_186 rfl 2 rfl ?_
                  refine j_gr (e := 264) hJ kC_261 fC_10_6 fl_X7_39 dX7_readRule_187 rfl ?_
                  refine j_aload_n hJ dX7_readRule_190 rfl 2 rfl ?_
                  refine j_gi hJ kC_261 fC_10_3 rfl fl_X7_70 dX7_readRule_191 (fun v36 ev36 gv36 => ?_)
                  have hF := hF v36 ev36 gv36
                  refine j_iald hJ gv36 kC_264 hF.1 hF.2.1 dX7_readRule_194 (fun v37 ev37 gv37 => ?_)
                  have hF := hF.2.2 v37 ev37 gv37
                  refine j_ishr hJ dX7_readRule_195 ?_
                  refine j_iconst hJ dX7_readRule_196 ?_
                  refine j_iand hJ dX7_readRule_197 ?_
                  refine j_if_ne hJ 214 (ri_of _) dX7_readRule_198 (by decide) (fun z38 => ?_) (fun z38 => ?_)
                  · have hF := hF.1 z38
                    refine j_aload_n hJ dX7_readRule_214 rfl 2 rfl ?_
                    refine j_gr (e := 265) hJ kC_261 fC_10_7 fl_X7_42 dX7_readRule_215 rfl ?_
                    refine j_aload_n hJ dX7_readRule_218 rfl 2 rfl ?_
                    refine j_gi hJ kC_261 fC_10_3 rfl fl_X7_70 dX7_readRule_219 (fun v39 ev39 gv39 => ?_)
                    have hF := hF v39 ev39 gv39
                    refine j_aload_n hJ dX7_readRule_222 rfl 2 rfl ?_
                    refine j_gi hJ kC_261 fC_10_14 rfl fl_X7_110 dX7_readRule_223 (fun v40 ev40 gv40 => ?_)
                    have hF := hF v40 ev40 gv40
                    refine j_iast hJ gv39 gv40 kC_265 hF.1 hF.2.1 dX7_readRule_226 (fun M41 eM41 => ?_)
                    have hF := hF.2.2 M41 eM41
                    refine j_aload_n hJ dX7_readRule_227 rfl 2 rfl ?_
                    refine j_dup hJ dX7_readRule_228 rfl ?_
                    refine j_gi hJ kC_261 fC_10_3 rfl fl_X7_70 dX7_readRule_229 (fun v42 ev42 gv42 => ?_)
                    have hF := hF v42 ev42 gv42
                    refine j_iconst hJ dX7_readRule_232 ?_
                    refine j_iadd hJ dX7_readRule_233 ?_
                    have g43 := hF.1; have hF := hF.2
                    refine j_pi hJ g43 kC_261 fC_10_3 rfl fp_X7_70 dX7_readRule_234 (fun M44 eM44 => ?_)
                    have hF := hF M44 eM44
                    refine j_aload_n hJ dX7_readRule_237 rfl 2 rfl ?_
                    refine j_ga hJ kC_261 fC_10_0 fl_X7_9 dX7_readRule_238 ?_
                    refine j_callVv hJ (c_X9_nextWord (l := l) (D := D) (cy := cy) (ad := ad) hin) rfl om_597 ⟨rfl, rfl, Nat.le_of_ble_eq_true rfl, Nat.le_of_ble_eq_true rfl⟩ [] mv_X7_97 hd_X9_nextWordv kC_1 rfl rfl rfl (Nat.le_of_ble_eq_true rfl) dX7_readRule_241 ⟨rfl, hF⟩ (fun M46 qM46 => ?_)
                    have hF := qM46
                    refine j_iconst hJ dX7_readRule_244 ?_
                    exact j_zret hJ rfl (by decide) dX7_readRule_245 hF
                  · have hF := hF.2 z38
                    exact j_sub hJ [2] rfl (k_X7_readRule_b201 hin  hJ   _  hF)
              · have hF := hF.2 z30
                refine j_iconst hJ dX7_readRule_161 ?_
                exact j_zret hJ rfl (by decide) dX7_readRule_162 hF
            · have hF := hF.2 z25
              exact j_sub hJ [2] rfl (k_X7_readRule_b142 hin  hJ   _  hF)
        · have hF := hF.2 z20
          refine j_iconst hJ dX7_readRule_114 ?_
          exact j_zret hJ rfl (by decide) dX7_readRule_115 hF
      · have hF := hF.2 z12
        refine j_aload_n hJ dX7_readRule_69 rfl 2 rfl ?_
        refine j_iconst hJ dX7_readRule_70 ?_
        refine j_iload_n hJ dX7_readRule_71 rfl 1 rfl ?_
        refine j_callVz hJ (c_X7_fail (l := l) (D := D) (cy := cy) (ad := ad) hin) rfl om_734 ⟨rfl, rfl, Nat.le_of_ble_eq_true rfl, Nat.le_of_ble_eq_true rfl⟩ [.int (Ii 4), .int (Ii v8)] mv_X7_106 hd_X7_failv kC_261 rfl rfl rfl (Nat.le_of_ble_eq_true rfl) dX7_readRule_72 ⟨4, v8, rfl, rk_4, gv8, hF⟩ (fun r47 M48 gr47 qM48 => ?_)
        have hF := qM48 gr47
        exact j_zret hJ rfl gr47 dX7_readRule_75 hF
    · have hF := hF.2 z5
      refine j_aload_n hJ dX7_readRule_21 rfl 0 rfl ?_
      refine j_iconst hJ dX7_readRule_22 ?_
      refine j_aload_n hJ dX7_readRule_23 rfl 0 rfl ?_
      refine j_ga hJ kC_261 fC_10_0 fl_X7_9 dX7_readRule_24 ?_
      refine j_gi hJ kC_1 fC_12_10 rfl fl_X7_93 dX7_readRule_27 (fun v49 ev49 gv49 => ?_)
      have hF := hF v49 ev49 gv49
      refine j_callVz hJ (c_X7_fail (l := l) (D := D) (cy := cy) (ad := ad) hin) rfl om_734 ⟨rfl, rfl, Nat.le_of_ble_eq_true rfl, Nat.le_of_ble_eq_true rfl⟩ [.int (Ii 4), .int (Ii v49)] mv_X7_106 hd_X7_failv kC_261 rfl rfl rfl (Nat.le_of_ble_eq_true rfl) dX7_readRule_30 ⟨4, v49, rfl, rk_4, gv49, hF⟩ (fun r50 M51 gr50 qM51 => ?_)
      have hF := qM51 gr50
      exact j_zret hJ rfl gr50 dX7_readRule_33 hF
  · have hF := hF.2 z3
    refine j_aload_n hJ dX7_readRule_7 rfl 0 rfl ?_
    refine j_callVz hJ (c_X7_refuse (l := l) (D := D) (cy := cy) (ad := ad) hin) rfl om_722 ⟨rfl, rfl, Nat.le_of_ble_eq_true rfl, Nat.le_of_ble_eq_true rfl⟩ [] mv_X7_94 hd_X7_refusev kC_261 rfl rfl rfl (Nat.le_of_ble_eq_true rfl) dX7_readRule_8 ⟨rfl, hF⟩ (fun r52 M53 gr52 qM53 => ?_)
    have hF := qM53 gr52
    exact j_zret hJ rfl gr52 dX7_readRule_11 hF
def W_X7_readAll (ad : Nat → Nat) (Q : Int → MM → Prop) (av : List Value) (M : MM) : Prop := av = [.ref (ad 261)] ∧ w_X7_readAll  Q  M
set_option maxHeartbeats 4000000 in
set_option maxRecDepth 100000 in
theorem k_X7_readAll_b29 {l : Launch} {D : va_G} {cy : Nat → ClassId} {ad : Nat → Nat} {Q : Int → MM → Prop} {J : Nat → List (Nat × Value) → List Value → MM → Prop} (hin : jIn ad ksC.length)   (hJ : jOk l D vwCl (tyC cy) cy ad ftC ksC (XtC ad) Om RX7 cX7_readAll 2 3 ({ frames := 7, cells := 0, slots := 0, locals := 169 } : Room) Q J)  : ∀ (x1 : Int) (M : MM), ri_ x1 → w_X7_readAll_b29  Q  x1 M → J 29 [(0, .ref (ad 261)), (1, .int (Ii x1))] [] M := by
  have H9 : ∀ (n : Nat) (x1 : Int) (M : MM), ri_ x1 → jit (fun _ _ => False) (wb_X7_readAll_b29  Q ) n x1 M → J 29 [(0, .ref (ad 261)), (1, .int (Ii x1))] [] M := by
    intro n
    induction n with
    | zero => intro x1 M gx1 hF; exact False.elim hF
    | succ n ih =>
    intro x1 M gx1 hF
    have hF : wb_X7_readAll_b29  Q  (jit (fun _ _ => False) (wb_X7_readAll_b29  Q ) n) x1 M := hF
    unfold wb_X7_readAll_b29 at hF
    refine j_iload_n hJ dX7_readAll_29 rfl 1 rfl ?_
    refine j_bipush hJ dX7_readAll_30 (by decide) ?_
    refine j_icmp_gt hJ 70 gx1 rk_12 dX7_readAll_32 (by decide) (fun z1 => ?_) (fun z1 => ?_)
    · have hF := hF.1 z1
      refine j_iconst hJ dX7_readAll_70 ?_
      exact j_zret hJ rfl (by decide) dX7_readAll_71 hF
    · have hF := hF.2 z1
      refine j_aload_n hJ dX7_readAll_35 rfl 0 rfl ?_
      refine j_ga hJ kC_261 fC_10_0 fl_X7_9 dX7_readAll_36 ?_
      refine j_gi hJ kC_1 fC_12_9 rfl fl_X7_86 dX7_readAll_39 (fun v2 ev2 gv2 => ?_)
      have hF := hF v2 ev2 gv2
      refine j_if_eq hJ 70 gv2 dX7_readAll_42 (by decide) (fun z3 => ?_) (fun z3 => ?_)
      · have hF := hF.1 z3
        refine j_iconst hJ dX7_readAll_70 ?_
        exact j_zret hJ rfl (by decide) dX7_readAll_71 hF
      · have hF := hF.2 z3
        refine j_aload_n hJ dX7_readAll_45 rfl 0 rfl ?_
        refine j_callVz hJ (c_X7_readRule (l := l) (D := D) (cy := cy) (ad := ad) hin) rfl om_754 ⟨rfl, rfl, Nat.le_of_ble_eq_true rfl, Nat.le_of_ble_eq_true rfl⟩ [] mv_X7_89 hd_X7_readRulev kC_261 rfl rfl rfl (Nat.le_of_ble_eq_true rfl) dX7_readAll_46 ⟨rfl, hF⟩ (fun r4 M5 gr4 qM5 => ?_)
        have hF := qM5 gr4
        refine j_if_ne hJ 64 (jz_ri gr4) dX7_readAll_49 (by decide) (fun z6 => ?_) (fun z6 => ?_)
        · have hF := hF.1 z6
          refine j_iinc (lv' := [(1, .int (Ii (x1 + 1))), (0, .ref (ad 261))]) (k := 1) hJ dX7_readAll_64 rfl (by decide) rfl ?_
          have g7 := hF.1; have hF := hF.2
          refine j_goto hJ 29 dX7_readAll_67 (by decide) ?_
          exact j_sub hJ [1, 0] rfl (ih (x1 + 1) _ g7 hF)
        · have hF := hF.2 z6
          refine j_aload_n hJ dX7_readAll_52 rfl 0 rfl ?_
          refine j_iconst hJ dX7_readAll_53 ?_
          refine j_pi hJ rk_0 kC_261 fC_10_3 rfl fp_X7_70 dX7_readAll_54 (fun M8 eM8 => ?_)
          have hF := hF M8 eM8
          refine j_aload_n hJ dX7_readAll_57 rfl 0 rfl ?_
          refine j_iconst hJ dX7_readAll_58 ?_
          refine j_pi hJ rk_0 kC_261 fC_10_16 rfl fp_X7_74 dX7_readAll_59 (fun M9 eM9 => ?_)
          have hF := hF M9 eM9
          refine j_iconst hJ dX7_readAll_62 ?_
          exact j_zret hJ rfl (by decide) dX7_readAll_63 hF
  intro x1 M gx1 hF
  obtain ⟨n, hF⟩ := hF
  exact H9 n x1 M gx1 hF
set_option maxHeartbeats 4000000 in
set_option maxRecDepth 100000 in
theorem c_X7_readAll {l : Launch} {D : va_G} {cy : Nat → ClassId} {ad : Nat → Nat} (hin : jIn ad ksC.length) : jCN l D vwCl (tyC cy) cy ad ftC ksC (XtC ad) yX7_readAll (.code yX7_readAll cX7_readAll 2 (some .boolean) :: Om) ({ frames := 7, cells := 0, slots := 0, locals := 169 } : Room) 3 (W_X7_readAll ad) := by
  refine jCN_of (y := yX7_readAll) (cc := cX7_readAll) (nL := 2) (rk := 3) (rm := ({ frames := 7, cells := 0, slots := 0, locals := 169 } : Room)) (own := RX7) (tyC_ok cy) hin (XtC_ok ad) Om_good (by decide) rfl ?_
  intro Q av M hF
  obtain ⟨rfl, hF⟩ := hF
  refine ⟨Nat.le_of_ble_eq_true rfl, fun J hJ => ?_⟩
  show J 0 [(0, .ref (ad 261))] [] M
  unfold w_X7_readAll at hF
  refine j_aload_n hJ dX7_readAll_0 rfl 0 rfl ?_
  refine j_iconst hJ dX7_readAll_1 ?_
  refine j_pi hJ rk_0 kC_261 fC_10_3 rfl fp_X7_70 dX7_readAll_2 (fun M1 eM1 => ?_)
  have hF := hF M1 eM1
  refine j_aload_n hJ dX7_readAll_5 rfl 0 rfl ?_
  refine j_iconst hJ dX7_readAll_6 ?_
  refine j_pi hJ rk_0 kC_261 fC_10_16 rfl fp_X7_74 dX7_readAll_7 (fun M2 eM2 => ?_)
  have hF := hF M2 eM2
  refine j_aload_n hJ dX7_readAll_10 rfl 0 rfl ?_
  refine j_iconst hJ dX7_readAll_11 ?_
  refine j_pi hJ rk_0 kC_261 fC_10_19 rfl fp_X7_77 dX7_readAll_12 (fun M3 eM3 => ?_)
  have hF := hF M3 eM3
  refine j_aload_n hJ dX7_readAll_15 rfl 0 rfl ?_
  refine j_iconst hJ dX7_readAll_16 ?_
  refine j_pi hJ rk_m1 kC_261 fC_10_20 rfl fp_X7_80 dX7_readAll_17 (fun M4 eM4 => ?_)
  have hF := hF M4 eM4
  refine j_aload_n hJ dX7_readAll_20 rfl 0 rfl ?_
  refine j_ga hJ kC_261 fC_10_0 fl_X7_9 dX7_readAll_21 ?_
  refine j_callVv hJ (c_X9_startWords (l := l) (D := D) (cy := cy) (ad := ad) hin) rfl om_601 ⟨rfl, rfl, Nat.le_of_ble_eq_true rfl, Nat.le_of_ble_eq_true rfl⟩ [] mv_X7_83 hd_X9_startWordsv kC_1 rfl rfl rfl (Nat.le_of_ble_eq_true rfl) dX7_readAll_24 ⟨rfl, hF⟩ (fun M6 qM6 => ?_)
  have hF := qM6
  refine j_iconst hJ dX7_readAll_27 ?_
  refine j_istore_n (lv' := [(1, .int (Ii 0)), (0, .ref (ad 261))]) hJ dX7_readAll_28 rfl (by decide) rfl ?_
  exact j_sub hJ [1, 0] rfl (k_X7_readAll_b29 hin  hJ  0 _ rk_0 hF)
def W_X9_putReady (ad : Nat → Nat) (Q : Int → MM → Prop) (av : List Value) (M : MM) : Prop := ∃ (p1 : Int) (p2 : Int), av = [.ref (ad 1), .int (Ii p1), .int (Ii p2)] ∧ ri_ p1 ∧ ri_ p2 ∧ w_X9_putReady  Q p1 p2 M
set_option maxHeartbeats 4000000 in
set_option maxRecDepth 100000 in
theorem k_X9_putReady_b2 {l : Launch} {D : va_G} {cy : Nat → ClassId} {ad : Nat → Nat} {Q : Int → MM → Prop} {J : Nat → List (Nat × Value) → List Value → MM → Prop} (hin : jIn ad ksC.length)   (hJ : jOk l D vwCl (tyC cy) cy ad ftC ksC (XtC ad) Om RX9 cX9_putReady 4 0 ({ frames := 0, cells := 0, slots := 0, locals := 0 } : Room) Q J)  : ∀ (x1 x2 x3 : Int) (M : MM), ri_ x1 → ri_ x2 → ri_ x3 → w_X9_putReady_b2  Q  x1 x2 x3 M → J 2 [(0, .ref (ad 1)), (1, .int (Ii x1)), (2, .int (Ii x2)), (3, .int (Ii x3))] [] M := by
  have H9 : ∀ (n : Nat) (x1 x2 x3 : Int) (M : MM), ri_ x1 → ri_ x2 → ri_ x3 → jit (fun _ _ _ _ => False) (wb_X9_putReady_b2  Q ) n x1 x2 x3 M → J 2 [(0, .ref (ad 1)), (1, .int (Ii x1)), (2, .int (Ii x2)), (3, .int (Ii x3))] [] M := by
    intro n
    induction n with
    | zero => intro x1 x2 x3 M gx1 gx2 gx3 hF; exact False.elim hF
    | succ n ih =>
    intro x1 x2 x3 M gx1 gx2 gx3 hF
    have hF : wb_X9_putReady_b2  Q  (jit (fun _ _ _ _ => False) (wb_X9_putReady_b2  Q ) n) x1 x2 x3 M := hF
    unfold wb_X9_putReady_b2 at hF
    refine j_iload_n hJ dX9_putReady_2 rfl 3 rfl ?_
    refine j_iconst hJ dX9_putReady_3 ?_
    refine j_icmp_ge hJ 42 gx3 rk_4 dX9_putReady_4 (by decide) (fun z1 => ?_) (fun z1 => ?_)
    · have hF := hF.1 z1
      exact j_vret hJ rfl dX9_putReady_42 hF
    · have hF := hF.2 z1
      refine j_iload_n hJ dX9_putReady_7 rfl 1 rfl ?_
      refine j_iload_n hJ dX9_putReady_8 rfl 3 rfl ?_
      refine j_iadd hJ dX9_putReady_9 ?_
      have g2 := hF.1; have hF := hF.2
      refine j_bipush hJ dX9_putReady_10 (by decide) ?_
      refine j_icmp_ge hJ 42 g2 rk_20 dX9_putReady_12 (by decide) (fun z3 => ?_) (fun z3 => ?_)
      · have hF := hF.1 z3
        exact j_vret hJ rfl dX9_putReady_42 hF
      · have hF := hF.2 z3
        refine j_aload_n hJ dX9_putReady_15 rfl 0 rfl ?_
        refine j_gr (e := 3) hJ kC_1 fC_12_2 fl_X9_15 dX9_putReady_16 rfl ?_
        refine j_iload_n hJ dX9_putReady_19 rfl 1 rfl ?_
        refine j_iload_n hJ dX9_putReady_20 rfl 3 rfl ?_
        refine j_iadd hJ dX9_putReady_21 ?_
        have g4 := hF.1; have hF := hF.2
        refine j_iload_n hJ dX9_putReady_22 rfl 2 rfl ?_
        refine j_bipush hJ dX9_putReady_23 (by decide) ?_
        refine j_bipush hJ dX9_putReady_25 (by decide) ?_
        refine j_iload_n hJ dX9_putReady_27 rfl 3 rfl ?_
        refine j_imul hJ dX9_putReady_28 ?_
        have g5 := hF.1; have hF := hF.2
        refine j_isub hJ dX9_putReady_29 ?_
        have g6 := hF.1; have hF := hF.2
        refine j_iushr hJ dX9_putReady_30 ?_
        refine j_sipush hJ dX9_putReady_31 (by decide) ?_
        refine j_iand hJ dX9_putReady_34 ?_
        refine j_iast hJ g4 (ri_of _) kC_3 hF.1 hF.2.1 dX9_putReady_35 (fun M7 eM7 => ?_)
        have hF := hF.2.2 M7 eM7
        refine j_iinc (lv' := [(3, .int (Ii (x3 + 1))), (0, .ref (ad 1)), (1, .int (Ii x1)), (2, .int (Ii x2))]) (k := 3) hJ dX9_putReady_36 rfl (by decide) rfl ?_
        have g8 := hF.1; have hF := hF.2
        refine j_goto hJ 2 dX9_putReady_39 (by decide) ?_
        exact j_sub hJ [1, 2, 3, 0] rfl (ih x1 x2 (x3 + 1) _ gx1 gx2 g8 hF)
  intro x1 x2 x3 M gx1 gx2 gx3 hF
  obtain ⟨n, hF⟩ := hF
  exact H9 n x1 x2 x3 M gx1 gx2 gx3 hF
set_option maxHeartbeats 4000000 in
set_option maxRecDepth 100000 in
theorem c_X9_putReady {l : Launch} {D : va_G} {cy : Nat → ClassId} {ad : Nat → Nat} (hin : jIn ad ksC.length) : jCN l D vwCl (tyC cy) cy ad ftC ksC (XtC ad) yX9_putReady (.code yX9_putReady cX9_putReady 4 none :: Om) ({ frames := 0, cells := 0, slots := 0, locals := 0 } : Room) 0 (W_X9_putReady ad) := by
  refine jCN_of (y := yX9_putReady) (cc := cX9_putReady) (nL := 4) (rk := 0) (rm := ({ frames := 0, cells := 0, slots := 0, locals := 0 } : Room)) (own := RX9) (tyC_ok cy) hin (XtC_ok ad) Om_good (by decide) rfl ?_
  intro Q av M hF
  obtain ⟨p1, p2, rfl, gp1, gp2, hF⟩ := hF
  refine ⟨Nat.le_of_ble_eq_true rfl, fun J hJ => ?_⟩
  show J 0 [(0, .ref (ad 1)), (1, .int (Ii p1)), (2, .int (Ii p2))] [] M
  unfold w_X9_putReady at hF
  refine j_iconst hJ dX9_putReady_0 ?_
  refine j_istore_n (lv' := [(3, .int (Ii 0)), (0, .ref (ad 1)), (1, .int (Ii p1)), (2, .int (Ii p2))]) hJ dX9_putReady_1 rfl (by decide) rfl ?_
  exact j_sub hJ [1, 2, 3, 0] rfl (k_X9_putReady_b2 hin  hJ  p1 p2 0 _ gp1 gp2 rk_0 hF)
def W_X9_takeReady (ad : Nat → Nat) (Q : Int → MM → Prop) (av : List Value) (M : MM) : Prop := ∃ (p1 : Int), av = [.ref (ad 1), .int (Ii p1)] ∧ ri_ p1 ∧ w_X9_takeReady  Q p1 M
set_option maxHeartbeats 4000000 in
set_option maxRecDepth 100000 in
theorem c_X9_takeReady {l : Launch} {D : va_G} {cy : Nat → ClassId} {ad : Nat → Nat} (hin : jIn ad ksC.length) : jCN l D vwCl (tyC cy) cy ad ftC ksC (XtC ad) yX9_takeReady (.code yX9_takeReady cX9_takeReady 2 (some .int) :: Om) ({ frames := 1, cells := 0, slots := 0, locals := 60 } : Room) 1 (W_X9_takeReady ad) := by
  refine jCN_of (y := yX9_takeReady) (cc := cX9_takeReady) (nL := 2) (rk := 1) (rm := ({ frames := 1, cells := 0, slots := 0, locals := 60 } : Room)) (own := RX9) (tyC_ok cy) hin (XtC_ok ad) Om_good (by decide) rfl ?_
  intro Q av M hF
  obtain ⟨p1, rfl, gp1, hF⟩ := hF
  refine ⟨Nat.le_of_ble_eq_true rfl, fun J hJ => ?_⟩
  show J 0 [(0, .ref (ad 1)), (1, .int (Ii p1))] [] M
  unfold w_X9_takeReady at hF
  refine j_iload_n hJ dX9_takeReady_0 rfl 1 rfl ?_
  refine j_if_lt hJ 22 gp1 dX9_takeReady_1 (by decide) (fun z1 => ?_) (fun z1 => ?_)
  · have hF := hF.1 z1
    refine j_iconst hJ dX9_takeReady_22 ?_
    exact j_iret hJ rfl rk_m1 dX9_takeReady_23 hF
  · have hF := hF.2 z1
    refine j_iload_n hJ dX9_takeReady_4 rfl 1 rfl ?_
    refine j_bipush hJ dX9_takeReady_5 (by decide) ?_
    refine j_icmp_gt hJ 22 gp1 rk_20 dX9_takeReady_7 (by decide) (fun z2 => ?_) (fun z2 => ?_)
    · have hF := hF.1 z2
      refine j_iconst hJ dX9_takeReady_22 ?_
      exact j_iret hJ rfl rk_m1 dX9_takeReady_23 hF
    · have hF := hF.2 z2
      refine j_aload_n hJ dX9_takeReady_10 rfl 0 rfl ?_
      refine j_gi hJ kC_1 fC_12_1 rfl fl_X9_49 dX9_takeReady_11 (fun v3 ev3 gv3 => ?_)
      have hF := hF v3 ev3 gv3
      refine j_iload_n hJ dX9_takeReady_14 rfl 1 rfl ?_
      refine j_iadd hJ dX9_takeReady_15 ?_
      have g4 := hF.1; have hF := hF.2
      refine j_sipush hJ dX9_takeReady_16 (by decide) ?_
      refine j_icmp_le hJ 24 g4 rk_4000 dX9_takeReady_19 (by decide) (fun z5 => ?_) (fun z5 => ?_)
      · have hF := hF.1 z5
        refine j_aload_n hJ dX9_takeReady_24 rfl 0 rfl ?_
        refine j_gr (e := 3) hJ kC_1 fC_12_2 fl_X9_15 dX9_takeReady_25 rfl ?_
        refine j_iconst hJ dX9_takeReady_28 ?_
        refine j_aload_n hJ dX9_takeReady_29 rfl 0 rfl ?_
        refine j_gr (e := 2) hJ kC_1 fC_12_0 fl_X9_11 dX9_takeReady_30 rfl ?_
        refine j_aload_n hJ dX9_takeReady_33 rfl 0 rfl ?_
        refine j_gi hJ kC_1 fC_12_1 rfl fl_X9_49 dX9_takeReady_34 (fun v6 ev6 gv6 => ?_)
        have hF := hF v6 ev6 gv6
        refine j_iload_n hJ dX9_takeReady_37 rfl 1 rfl ?_
        refine j_copyi hJ rk_0 gv6 gp1 kC_3 kC_2 (by decide) hF.1 hF.2.1 hF.2.2.1 hF.2.2.2.1 ⟨om_758, om_122, om_123, om_124⟩ ⟨Nat.le_of_ble_eq_true rfl, Nat.le_of_ble_eq_true rfl⟩ dX9_takeReady_38 (fun M7 eM7 => ?_)
        have hF := hF.2.2.2.2 M7 eM7
        refine j_aload_n hJ dX9_takeReady_41 rfl 0 rfl ?_
        refine j_dup hJ dX9_takeReady_42 rfl ?_
        refine j_gi hJ kC_1 fC_12_1 rfl fl_X9_49 dX9_takeReady_43 (fun v8 ev8 gv8 => ?_)
        have hF := hF v8 ev8 gv8
        refine j_iload_n hJ dX9_takeReady_46 rfl 1 rfl ?_
        refine j_iadd hJ dX9_takeReady_47 ?_
        have g9 := hF.1; have hF := hF.2
        refine j_pi hJ g9 kC_1 fC_12_1 rfl fp_X9_49 dX9_takeReady_48 (fun M10 eM10 => ?_)
        have hF := hF M10 eM10
        refine j_aload_n hJ dX9_takeReady_51 rfl 0 rfl ?_
        refine j_gr (e := 3) hJ kC_1 fC_12_2 fl_X9_15 dX9_takeReady_52 rfl ?_
        refine j_iconst hJ dX9_takeReady_55 ?_
        refine j_callSv hJ (c_J7_fill_53178_C (l := l) (D := D) (cy := cy) (ad := ad) hin) rfl om_497 ⟨rfl, rfl, Nat.le_of_ble_eq_true rfl, Nat.le_of_ble_eq_true rfl⟩ [.ref (ad 3), .int (Ii 0)] mv_X9_59 hd_J7_fill_53178 rfl (Nat.le_of_ble_eq_true rfl) dX9_takeReady_56 ⟨3, 20, 0, rfl, kC_3, (by decide), rk_0, hF⟩ (fun M12 qM12 => ?_)
        have hF := qM12
        refine j_aload_n hJ dX9_takeReady_59 rfl 0 rfl ?_
        refine j_gi hJ kC_1 fC_12_1 rfl fl_X9_49 dX9_takeReady_60 (fun v13 ev13 gv13 => ?_)
        have hF := hF v13 ev13 gv13
        exact j_iret hJ rfl gv13 dX9_takeReady_63 hF
      · have hF := hF.2 z5
        refine j_iconst hJ dX9_takeReady_22 ?_
        exact j_iret hJ rfl rk_m1 dX9_takeReady_23 hF
def W_X9_wholeName (ad : Nat → Nat) (Q : Int → MM → Prop) (av : List Value) (M : MM) : Prop := av = [.ref (ad 1)] ∧ w_X9_wholeName  Q  M
set_option maxHeartbeats 4000000 in
set_option maxRecDepth 100000 in
theorem c_X9_wholeName {l : Launch} {D : va_G} {cy : Nat → ClassId} {ad : Nat → Nat} (hin : jIn ad ksC.length) : jCN l D vwCl (tyC cy) cy ad ftC ksC (XtC ad) yX9_wholeName (.code yX9_wholeName cX9_wholeName 1 (some .long) :: Om) ({ frames := 6, cells := 0, slots := 0, locals := 148 } : Room) 2 (W_X9_wholeName ad) := by
  refine jCN_of (y := yX9_wholeName) (cc := cX9_wholeName) (nL := 1) (rk := 2) (rm := ({ frames := 6, cells := 0, slots := 0, locals := 148 } : Room)) (own := RX9) (tyC_ok cy) hin (XtC_ok ad) Om_good (by decide) rfl ?_
  intro Q av M hF
  obtain ⟨rfl, hF⟩ := hF
  refine ⟨Nat.le_of_ble_eq_true rfl, fun J hJ => ?_⟩
  show J 0 [(0, .ref (ad 1))] [] M
  unfold w_X9_wholeName at hF
  refine j_aload_n hJ dX9_wholeName_0 rfl 0 rfl ?_
  refine j_gi hJ kC_1 fC_12_1 rfl fl_X9_49 dX9_wholeName_1 (fun v1 ev1 gv1 => ?_)
  have hF := hF v1 ev1 gv1
  refine j_bipush hJ dX9_wholeName_4 (by decide) ?_
  refine j_icmp_le hJ 11 gv1 rk_10 dX9_wholeName_6 (by decide) (fun z2 => ?_) (fun z2 => ?_)
  · have hF := hF.1 z2
    refine j_aload_n hJ dX9_wholeName_11 rfl 0 rfl ?_
    refine j_iconst hJ dX9_wholeName_12 ?_
    refine j_pi hJ rk_0 kC_1 fC_12_4 rfl fp_X9_69 dX9_wholeName_13 (fun M3 eM3 => ?_)
    have hF := hF M3 eM3
    refine j_aload_n hJ dX9_wholeName_16 rfl 0 rfl ?_
    refine j_callVv hJ (c_X9_scanWord (l := l) (D := D) (cy := cy) (ad := ad) hin) rfl om_593 ⟨rfl, rfl, Nat.le_of_ble_eq_true rfl, Nat.le_of_ble_eq_true rfl⟩ [] mv_X9_72 hd_X9_scanWordv kC_1 rfl rfl rfl (Nat.le_of_ble_eq_true rfl) dX9_wholeName_17 ⟨rfl, hF⟩ (fun M5 qM5 => ?_)
    have hF := qM5
    refine j_aload_n hJ dX9_wholeName_20 rfl 0 rfl ?_
    refine j_gi hJ kC_1 fC_12_9 rfl fl_X9_75 dX9_wholeName_21 (fun v6 ev6 gv6 => ?_)
    have hF := hF v6 ev6 gv6
    refine j_iconst hJ dX9_wholeName_24 ?_
    refine j_icmp_ne hJ 53 gv6 rk_2 dX9_wholeName_25 (by decide) (fun z7 => ?_) (fun z7 => ?_)
    · have hF := hF.1 z7
      refine j_lconst (x := 0) hJ dX9_wholeName_53 rfl ?_
      exact j_lret hJ rfl lkm_0 dX9_wholeName_54 hF
    · have hF := hF.2 z7
      refine j_aload_n hJ dX9_wholeName_28 rfl 0 rfl ?_
      refine j_gi hJ kC_1 fC_12_10 rfl fl_X9_78 dX9_wholeName_29 (fun v8 ev8 gv8 => ?_)
      have hF := hF v8 ev8 gv8
      refine j_if_ne hJ 53 gv8 dX9_wholeName_32 (by decide) (fun z9 => ?_) (fun z9 => ?_)
      · have hF := hF.1 z9
        refine j_lconst (x := 0) hJ dX9_wholeName_53 rfl ?_
        exact j_lret hJ rfl lkm_0 dX9_wholeName_54 hF
      · have hF := hF.2 z9
        refine j_aload_n hJ dX9_wholeName_35 rfl 0 rfl ?_
        refine j_gi hJ kC_1 fC_12_4 rfl fl_X9_69 dX9_wholeName_36 (fun v10 ev10 gv10 => ?_)
        have hF := hF v10 ev10 gv10
        refine j_aload_n hJ dX9_wholeName_39 rfl 0 rfl ?_
        refine j_gi hJ kC_1 fC_12_1 rfl fl_X9_49 dX9_wholeName_40 (fun v11 ev11 gv11 => ?_)
        have hF := hF v11 ev11 gv11
        refine j_icmp_ne hJ 53 gv10 gv11 dX9_wholeName_43 (by decide) (fun z12 => ?_) (fun z12 => ?_)
        · have hF := hF.1 z12
          refine j_lconst (x := 0) hJ dX9_wholeName_53 rfl ?_
          exact j_lret hJ rfl lkm_0 dX9_wholeName_54 hF
        · have hF := hF.2 z12
          refine j_aload_n hJ dX9_wholeName_46 rfl 0 rfl ?_
          refine j_gl hJ kC_1 fC_12_11 rfl fl_X9_81 dX9_wholeName_47 (fun v13 ev13 gv13 => ?_)
          have hF := hF v13 ev13 gv13
          refine j_goto hJ 54 dX9_wholeName_50 (by decide) ?_
          exact j_lret hJ rfl gv13 dX9_wholeName_54 hF
  · have hF := hF.2 z2
    refine j_lconst (x := 0) hJ dX9_wholeName_9 rfl ?_
    exact j_lret hJ rfl lkm_0 dX9_wholeName_10 hF
def W_X10_hasName (ad : Nat → Nat) (Q : Int → MM → Prop) (av : List Value) (M : MM) : Prop := ∃ (p1 : Int) (p2 : Int), av = [.ref (ad 8), .int (Ii p1), .long (Ll p2)] ∧ ri_ p1 ∧ rl_ p2 ∧ w_X10_hasName  Q p1 p2 M
set_option maxHeartbeats 4000000 in
set_option maxRecDepth 100000 in
theorem k_X10_hasName_b37 {l : Launch} {D : va_G} {cy : Nat → ClassId} {ad : Nat → Nat} {Q : Int → MM → Prop} {J : Nat → List (Nat × Value) → List Value → MM → Prop} (hin : jIn ad ksC.length)   (hJ : jOk l D vwCl (tyC cy) cy ad ftC ksC (XtC ad) Om RX10 cX10_hasName 5 3 ({ frames := 0, cells := 0, slots := 0, locals := 0 } : Room) Q J) {K3 : Int → Int → Int → MM → Prop} (hK3 : ∀ (x1 x2 x4 : Int) (M : MM), ri_ x1 → rl_ x2 → ri_ x4 → K3 x1 x2 x4 M → J 3 [(0, .ref (ad 8)), (1, .int (Ii x1)), (2, .long (Ll x2)), (4, .int (Ii x4))] [] M) : ∀ (x1 x2 x4 : Int) (M : MM), ri_ x1 → rl_ x2 → ri_ x4 → w_X10_hasName_b37  Q K3 x1 x2 x4 M → J 37 [(0, .ref (ad 8)), (1, .int (Ii x1)), (2, .long (Ll x2)), (4, .int (Ii x4))] [] M := by
  intro x1 x2 x4 M gx1 gx2 gx4 hF
  unfold w_X10_hasName_b37 at hF
  refine j_iinc (lv' := [(4, .int (Ii (x4 + 1))), (0, .ref (ad 8)), (1, .int (Ii x1)), (2, .long (Ll x2))]) (k := 3) hJ dX10_hasName_37 rfl (by decide) rfl ?_
  have g1 := hF.1; have hF := hF.2
  refine j_goto hJ 3 dX10_hasName_40 (by decide) ?_
  exact j_sub hJ [1, 2, 3, 0] rfl (hK3 x1 x2 (x4 + 1) _ gx1 gx2 g1 hF)
set_option maxHeartbeats 4000000 in
set_option maxRecDepth 100000 in
theorem k_X10_hasName_b3 {l : Launch} {D : va_G} {cy : Nat → ClassId} {ad : Nat → Nat} {Q : Int → MM → Prop} {J : Nat → List (Nat × Value) → List Value → MM → Prop} (hin : jIn ad ksC.length)   (hJ : jOk l D vwCl (tyC cy) cy ad ftC ksC (XtC ad) Om RX10 cX10_hasName 5 3 ({ frames := 0, cells := 0, slots := 0, locals := 0 } : Room) Q J)  : ∀ (x1 x2 x4 : Int) (M : MM), ri_ x1 → rl_ x2 → ri_ x4 → w_X10_hasName_b3  Q  x1 x2 x4 M → J 3 [(0, .ref (ad 8)), (1, .int (Ii x1)), (2, .long (Ll x2)), (4, .int (Ii x4))] [] M := by
  have H9 : ∀ (n : Nat) (x1 x2 x4 : Int) (M : MM), ri_ x1 → rl_ x2 → ri_ x4 → jit (fun _ _ _ _ => False) (wb_X10_hasName_b3  Q ) n x1 x2 x4 M → J 3 [(0, .ref (ad 8)), (1, .int (Ii x1)), (2, .long (Ll x2)), (4, .int (Ii x4))] [] M := by
    intro n
    induction n with
    | zero => intro x1 x2 x4 M gx1 gx2 gx4 hF; exact False.elim hF
    | succ n ih =>
    intro x1 x2 x4 M gx1 gx2 gx4 hF
    have hF : wb_X10_hasName_b3  Q  (jit (fun _ _ _ _ => False) (wb_X10_hasName_b3  Q ) n) x1 x2 x4 M := hF
    unfold wb_X10_hasName_b3 at hF
    refine j_iload hJ dX10_hasName_3 3 rfl ?_
    refine j_aload_n hJ dX10_hasName_5 rfl 0 rfl ?_
    refine j_gi hJ kC_8 fC_13_0 rfl fl_X10_65 dX10_hasName_6 (fun v1 ev1 gv1 => ?_)
    have hF := hF v1 ev1 gv1
    refine j_icmp_ge hJ 43 gx4 gv1 dX10_hasName_9 (by decide) (fun z2 => ?_) (fun z2 => ?_)
    · have hF := hF.1 z2
      refine j_iconst hJ dX10_hasName_43 ?_
      exact j_zret hJ rfl (by decide) dX10_hasName_44 hF
    · have hF := hF.2 z2
      refine j_aload_n hJ dX10_hasName_12 rfl 0 rfl ?_
      refine j_gr (e := 10) hJ kC_8 fC_13_2 fl_X10_15 dX10_hasName_13 rfl ?_
      refine j_iload hJ dX10_hasName_16 3 rfl ?_
      refine j_iald hJ gx4 kC_10 hF.1 hF.2.1 dX10_hasName_18 (fun v3 ev3 gv3 => ?_)
      have hF := hF.2.2 v3 ev3 gv3
      refine j_iload_n hJ dX10_hasName_19 rfl 1 rfl ?_
      refine j_icmp_ne hJ 37 gv3 gx1 dX10_hasName_20 (by decide) (fun z4 => ?_) (fun z4 => ?_)
      · have hF := hF.1 z4
        exact j_sub hJ [0, 1, 2, 3] rfl (k_X10_hasName_b37 hin  hJ ih x1 x2 x4 _ gx1 gx2 gx4 hF)
      · have hF := hF.2 z4
        refine j_aload_n hJ dX10_hasName_23 rfl 0 rfl ?_
        refine j_gr (e := 9) hJ kC_8 fC_13_1 fl_X10_11 dX10_hasName_24 rfl ?_
        refine j_iload hJ dX10_hasName_27 3 rfl ?_
        refine j_lald hJ gx4 kC_9 hF.1 hF.2.1 dX10_hasName_29 (fun v5 ev5 gv5 => ?_)
        have hF := hF.2.2 v5 ev5 gv5
        refine j_lload_n hJ dX10_hasName_30 rfl 2 rfl ?_
        refine j_lcmp_ne hJ 37 gv5 gx2 dX10_hasName_31 dX10_hasName_32 (by decide) (fun z6 => ?_) (fun z6 => ?_)
        · have hF := hF.1 z6
          exact j_sub hJ [0, 1, 2, 3] rfl (k_X10_hasName_b37 hin  hJ ih x1 x2 x4 _ gx1 gx2 gx4 hF)
        · have hF := hF.2 z6
          refine j_iconst hJ dX10_hasName_35 ?_
          exact j_zret hJ rfl (by decide) dX10_hasName_36 hF
  intro x1 x2 x4 M gx1 gx2 gx4 hF
  obtain ⟨n, hF⟩ := hF
  exact H9 n x1 x2 x4 M gx1 gx2 gx4 hF
set_option maxHeartbeats 4000000 in
set_option maxRecDepth 100000 in
theorem c_X10_hasName {l : Launch} {D : va_G} {cy : Nat → ClassId} {ad : Nat → Nat} (hin : jIn ad ksC.length) : jCN l D vwCl (tyC cy) cy ad ftC ksC (XtC ad) yX10_hasName (.code yX10_hasName cX10_hasName 5 (some .boolean) :: Om) ({ frames := 0, cells := 0, slots := 0, locals := 0 } : Room) 3 (W_X10_hasName ad) := by
  refine jCN_of (y := yX10_hasName) (cc := cX10_hasName) (nL := 5) (rk := 3) (rm := ({ frames := 0, cells := 0, slots := 0, locals := 0 } : Room)) (own := RX10) (tyC_ok cy) hin (XtC_ok ad) Om_good (by decide) rfl ?_
  intro Q av M hF
  obtain ⟨p1, p2, rfl, gp1, gp2, hF⟩ := hF
  refine ⟨Nat.le_of_ble_eq_true rfl, fun J hJ => ?_⟩
  show J 0 [(0, .ref (ad 8)), (1, .int (Ii p1)), (2, .long (Ll p2))] [] M
  unfold w_X10_hasName at hF
  refine j_iconst hJ dX10_hasName_0 ?_
  refine j_istore (lv' := [(4, .int (Ii 0)), (0, .ref (ad 8)), (1, .int (Ii p1)), (2, .long (Ll p2))]) hJ dX10_hasName_1 (by decide) rfl ?_
  exact j_sub hJ [1, 2, 3, 0] rfl (k_X10_hasName_b3 hin  hJ  p1 p2 0 _ gp1 gp2 rk_0 hF)
def W_X10_hasFieldNamed (ad : Nat → Nat) (Q : Int → MM → Prop) (av : List Value) (M : MM) : Prop := ∃ (p1 : Int) (p2 : Int), av = [.ref (ad 8), .int (Ii p1), .long (Ll p2)] ∧ ri_ p1 ∧ rl_ p2 ∧ w_X10_hasFieldNamed  Q p1 p2 M
set_option maxHeartbeats 4000000 in
set_option maxRecDepth 100000 in
theorem k_X10_hasFieldNamed_b3 {l : Launch} {D : va_G} {cy : Nat → ClassId} {ad : Nat → Nat} {Q : Int → MM → Prop} {J : Nat → List (Nat × Value) → List Value → MM → Prop} (hin : jIn ad ksC.length)   (hJ : jOk l D vwCl (tyC cy) cy ad ftC ksC (XtC ad) Om RX10 cX10_hasFieldNamed 5 3 ({ frames := 0, cells := 0, slots := 0, locals := 0 } : Room) Q J)  : ∀ (x1 x2 x4 : Int) (M : MM), ri_ x1 → rl_ x2 → ri_ x4 → w_X10_hasFieldNamed_b3  Q  x1 x2 x4 M → J 3 [(0, .ref (ad 8)), (1, .int (Ii x1)), (2, .long (Ll x2)), (4, .int (Ii x4))] [] M := by
  have H9 : ∀ (n : Nat) (x1 x2 x4 : Int) (M : MM), ri_ x1 → rl_ x2 → ri_ x4 → jit (fun _ _ _ _ => False) (wb_X10_hasFieldNamed_b3  Q ) n x1 x2 x4 M → J 3 [(0, .ref (ad 8)), (1, .int (Ii x1)), (2, .long (Ll x2)), (4, .int (Ii x4))] [] M := by
    intro n
    induction n with
    | zero => intro x1 x2 x4 M gx1 gx2 gx4 hF; exact False.elim hF
    | succ n ih =>
    intro x1 x2 x4 M gx1 gx2 gx4 hF
    have hF : wb_X10_hasFieldNamed_b3  Q  (jit (fun _ _ _ _ => False) (wb_X10_hasFieldNamed_b3  Q ) n) x1 x2 x4 M := hF
    unfold wb_X10_hasFieldNamed_b3 at hF
    refine j_iload hJ dX10_hasFieldNamed_3 3 rfl ?_
    refine j_aload_n hJ dX10_hasFieldNamed_5 rfl 0 rfl ?_
    refine j_gr (e := 14) hJ kC_8 fC_13_6 fl_X10_29 dX10_hasFieldNamed_6 rfl ?_
    refine j_iload_n hJ dX10_hasFieldNamed_9 rfl 1 rfl ?_
    refine j_iald hJ gx1 kC_14 hF.1 hF.2.1 dX10_hasFieldNamed_10 (fun v1 ev1 gv1 => ?_)
    have hF := hF.2.2 v1 ev1 gv1
    refine j_icmp_ge hJ 39 gx4 gv1 dX10_hasFieldNamed_11 (by decide) (fun z2 => ?_) (fun z2 => ?_)
    · have hF := hF.1 z2
      refine j_iconst hJ dX10_hasFieldNamed_39 ?_
      exact j_zret hJ rfl (by decide) dX10_hasFieldNamed_40 hF
    · have hF := hF.2 z2
      refine j_aload_n hJ dX10_hasFieldNamed_14 rfl 0 rfl ?_
      refine j_gr (e := 18) hJ kC_8 fC_13_10 fl_X10_41 dX10_hasFieldNamed_15 rfl ?_
      refine j_iload_n hJ dX10_hasFieldNamed_18 rfl 1 rfl ?_
      refine j_bipush hJ dX10_hasFieldNamed_19 (by decide) ?_
      refine j_imul hJ dX10_hasFieldNamed_21 ?_
      have g3 := hF.1; have hF := hF.2
      refine j_iload hJ dX10_hasFieldNamed_22 3 rfl ?_
      refine j_iadd hJ dX10_hasFieldNamed_24 ?_
      have g4 := hF.1; have hF := hF.2
      refine j_lald hJ g4 kC_18 hF.1 hF.2.1 dX10_hasFieldNamed_25 (fun v5 ev5 gv5 => ?_)
      have hF := hF.2.2 v5 ev5 gv5
      refine j_lload_n hJ dX10_hasFieldNamed_26 rfl 2 rfl ?_
      refine j_lcmp_ne hJ 33 gv5 gx2 dX10_hasFieldNamed_27 dX10_hasFieldNamed_28 (by decide) (fun z6 => ?_) (fun z6 => ?_)
      · have hF := hF.1 z6
        refine j_iinc (lv' := [(4, .int (Ii (x4 + 1))), (0, .ref (ad 8)), (1, .int (Ii x1)), (2, .long (Ll x2))]) (k := 3) hJ dX10_hasFieldNamed_33 rfl (by decide) rfl ?_
        have g7 := hF.1; have hF := hF.2
        refine j_goto hJ 3 dX10_hasFieldNamed_36 (by decide) ?_
        exact j_sub hJ [1, 2, 3, 0] rfl (ih x1 x2 (x4 + 1) _ gx1 gx2 g7 hF)
      · have hF := hF.2 z6
        refine j_iconst hJ dX10_hasFieldNamed_31 ?_
        exact j_zret hJ rfl (by decide) dX10_hasFieldNamed_32 hF
  intro x1 x2 x4 M gx1 gx2 gx4 hF
  obtain ⟨n, hF⟩ := hF
  exact H9 n x1 x2 x4 M gx1 gx2 gx4 hF
set_option maxHeartbeats 4000000 in
set_option maxRecDepth 100000 in
theorem c_X10_hasFieldNamed {l : Launch} {D : va_G} {cy : Nat → ClassId} {ad : Nat → Nat} (hin : jIn ad ksC.length) : jCN l D vwCl (tyC cy) cy ad ftC ksC (XtC ad) yX10_hasFieldNamed (.code yX10_hasFieldNamed cX10_hasFieldNamed 5 (some .boolean) :: Om) ({ frames := 0, cells := 0, slots := 0, locals := 0 } : Room) 3 (W_X10_hasFieldNamed ad) := by
  refine jCN_of (y := yX10_hasFieldNamed) (cc := cX10_hasFieldNamed) (nL := 5) (rk := 3) (rm := ({ frames := 0, cells := 0, slots := 0, locals := 0 } : Room)) (own := RX10) (tyC_ok cy) hin (XtC_ok ad) Om_good (by decide) rfl ?_
  intro Q av M hF
  obtain ⟨p1, p2, rfl, gp1, gp2, hF⟩ := hF
  refine ⟨Nat.le_of_ble_eq_true rfl, fun J hJ => ?_⟩
  show J 0 [(0, .ref (ad 8)), (1, .int (Ii p1)), (2, .long (Ll p2))] [] M
  unfold w_X10_hasFieldNamed at hF
  refine j_iconst hJ dX10_hasFieldNamed_0 ?_
  refine j_istore (lv' := [(4, .int (Ii 0)), (0, .ref (ad 8)), (1, .int (Ii p1)), (2, .long (Ll p2))]) hJ dX10_hasFieldNamed_1 (by decide) rfl ?_
  exact j_sub hJ [1, 2, 3, 0] rfl (k_X10_hasFieldNamed_b3 hin  hJ  p1 p2 0 _ gp1 gp2 rk_0 hF)
def W_X10_hasField (ad : Nat → Nat) (Q : Int → MM → Prop) (av : List Value) (M : MM) : Prop := ∃ (p1 : Int) (p2 : Int), av = [.ref (ad 8), .int (Ii p1), .int (Ii p2)] ∧ ri_ p1 ∧ ri_ p2 ∧ w_X10_hasField  Q p1 p2 M
set_option maxHeartbeats 4000000 in
set_option maxRecDepth 100000 in
theorem c_X10_hasField {l : Launch} {D : va_G} {cy : Nat → ClassId} {ad : Nat → Nat} (hin : jIn ad ksC.length) : jCN l D vwCl (tyC cy) cy ad ftC ksC (XtC ad) yX10_hasField (.code yX10_hasField cX10_hasField 3 (some .boolean) :: Om) ({ frames := 1, cells := 0, slots := 0, locals := 21 } : Room) 3 (W_X10_hasField ad) := by
  refine jCN_of (y := yX10_hasField) (cc := cX10_hasField) (nL := 3) (rk := 3) (rm := ({ frames := 1, cells := 0, slots := 0, locals := 21 } : Room)) (own := RX10) (tyC_ok cy) hin (XtC_ok ad) Om_good (by decide) rfl ?_
  intro Q av M hF
  obtain ⟨p1, p2, rfl, gp1, gp2, hF⟩ := hF
  refine ⟨Nat.le_of_ble_eq_true rfl, fun J hJ => ?_⟩
  show J 0 [(0, .ref (ad 8)), (1, .int (Ii p1)), (2, .int (Ii p2))] [] M
  unfold w_X10_hasField at hF
  refine j_aload_n hJ dX10_hasField_0 rfl 0 rfl ?_
  refine j_iload_n hJ dX10_hasField_1 rfl 1 rfl ?_
  refine j_callVz hJ (c_X10_isClass (l := l) (D := D) (cy := cy) (ad := ad) hin) rfl om_52 ⟨rfl, rfl, Nat.le_of_ble_eq_true rfl, Nat.le_of_ble_eq_true rfl⟩ [.int (Ii p1)] mv_X10_69 hd_X10_isClassv kC_8 rfl rfl rfl (Nat.le_of_ble_eq_true rfl) dX10_hasField_2 ⟨p1, rfl, gp1, hF⟩ (fun r1 M2 gr1 qM2 => ?_)
  have hF := qM2 gr1
  refine j_if_eq hJ 26 (jz_ri gr1) dX10_hasField_5 (by decide) (fun z3 => ?_) (fun z3 => ?_)
  · have hF := hF.1 z3
    refine j_iconst hJ dX10_hasField_26 ?_
    exact j_zret hJ rfl (by decide) dX10_hasField_27 hF
  · have hF := hF.2 z3
    refine j_iload_n hJ dX10_hasField_8 rfl 2 rfl ?_
    refine j_if_lt hJ 26 gp2 dX10_hasField_9 (by decide) (fun z4 => ?_) (fun z4 => ?_)
    · have hF := hF.1 z4
      refine j_iconst hJ dX10_hasField_26 ?_
      exact j_zret hJ rfl (by decide) dX10_hasField_27 hF
    · have hF := hF.2 z4
      refine j_iload_n hJ dX10_hasField_12 rfl 2 rfl ?_
      refine j_aload_n hJ dX10_hasField_13 rfl 0 rfl ?_
      refine j_gr (e := 14) hJ kC_8 fC_13_6 fl_X10_29 dX10_hasField_14 rfl ?_
      refine j_iload_n hJ dX10_hasField_17 rfl 1 rfl ?_
      refine j_iald hJ gp1 kC_14 hF.1 hF.2.1 dX10_hasField_18 (fun v5 ev5 gv5 => ?_)
      have hF := hF.2.2 v5 ev5 gv5
      refine j_icmp_ge hJ 26 gp2 gv5 dX10_hasField_19 (by decide) (fun z6 => ?_) (fun z6 => ?_)
      · have hF := hF.1 z6
        refine j_iconst hJ dX10_hasField_26 ?_
        exact j_zret hJ rfl (by decide) dX10_hasField_27 hF
      · have hF := hF.2 z6
        refine j_iconst hJ dX10_hasField_22 ?_
        refine j_goto hJ 27 dX10_hasField_23 (by decide) ?_
        exact j_zret hJ rfl (by decide) dX10_hasField_27 hF
def W_X10_addClass (ad : Nat → Nat) (Q : Int → MM → Prop) (av : List Value) (M : MM) : Prop := ∃ (p1 : Int) (p2 : Int) (p3 : Int), av = [.ref (ad 8), .long (Ll p1), .int (Ii p2), .int (Ii p3)] ∧ rl_ p1 ∧ ri_ p2 ∧ ri_ p3 ∧ w_X10_addClass  Q p1 p2 p3 M
set_option maxHeartbeats 4000000 in
set_option maxRecDepth 100000 in
theorem c_X10_addClass {l : Launch} {D : va_G} {cy : Nat → ClassId} {ad : Nat → Nat} (hin : jIn ad ksC.length) : jCN l D vwCl (tyC cy) cy ad ftC ksC (XtC ad) yX10_addClass (.code yX10_addClass cX10_addClass 6 (some .int) :: Om) ({ frames := 1, cells := 0, slots := 0, locals := 60 } : Room) 1 (W_X10_addClass ad) := by
  refine jCN_of (y := yX10_addClass) (cc := cX10_addClass) (nL := 6) (rk := 1) (rm := ({ frames := 1, cells := 0, slots := 0, locals := 60 } : Room)) (own := RX10) (tyC_ok cy) hin (XtC_ok ad) Om_good (by decide) rfl ?_
  intro Q av M hF
  obtain ⟨p1, p2, p3, rfl, gp1, gp2, gp3, hF⟩ := hF
  refine ⟨Nat.le_of_ble_eq_true rfl, fun J hJ => ?_⟩
  show J 0 [(0, .ref (ad 8)), (1, .long (Ll p1)), (3, .int (Ii p2)), (4, .int (Ii p3))] [] M
  unfold w_X10_addClass at hF
  refine j_aload_n hJ dX10_addClass_0 rfl 0 rfl ?_
  refine j_gi hJ kC_8 fC_13_0 rfl fl_X10_65 dX10_addClass_1 (fun v1 ev1 gv1 => ?_)
  have hF := hF v1 ev1 gv1
  refine j_istore (lv' := [(5, .int (Ii v1)), (0, .ref (ad 8)), (1, .long (Ll p1)), (3, .int (Ii p2)), (4, .int (Ii p3))]) hJ dX10_addClass_4 (by decide) rfl ?_
  refine j_aload_n hJ dX10_addClass_6 rfl 1 rfl ?_
  refine j_dup hJ dX10_addClass_7 rfl ?_
  refine j_gi hJ kC_8 fC_13_0 rfl fl_X10_65 dX10_addClass_8 (fun v2 ev2 gv2 => ?_)
  have hF := hF v2 ev2 gv2
  refine j_iconst hJ dX10_addClass_11 ?_
  refine j_iadd hJ dX10_addClass_12 ?_
  have g3 := hF.1; have hF := hF.2
  refine j_pi hJ g3 kC_8 fC_13_0 rfl fp_X10_65 dX10_addClass_13 (fun M4 eM4 => ?_)
  have hF := hF M4 eM4
  refine j_aload_n hJ dX10_addClass_16 rfl 1 rfl ?_
  refine j_gr (e := 9) hJ kC_8 fC_13_1 fl_X10_11 dX10_addClass_17 rfl ?_
  refine j_iload hJ dX10_addClass_20 0 rfl ?_
  refine j_lload_n hJ dX10_addClass_22 rfl 2 rfl ?_
  refine j_last hJ gv1 gp1 kC_9 hF.1 hF.2.1 dX10_addClass_23 (fun M5 eM5 => ?_)
  have hF := hF.2.2 M5 eM5
  refine j_aload_n hJ dX10_addClass_24 rfl 1 rfl ?_
  refine j_gr (e := 11) hJ kC_8 fC_13_3 fl_X10_19 dX10_addClass_25 rfl ?_
  refine j_iload hJ dX10_addClass_28 0 rfl ?_
  refine j_iload_n hJ dX10_addClass_30 rfl 3 rfl ?_
  refine j_iast hJ gv1 gp2 kC_11 hF.1 hF.2.1 dX10_addClass_31 (fun M6 eM6 => ?_)
  have hF := hF.2.2 M6 eM6
  refine j_aload_n hJ dX10_addClass_32 rfl 1 rfl ?_
  refine j_gr (e := 10) hJ kC_8 fC_13_2 fl_X10_15 dX10_addClass_33 rfl ?_
  refine j_iload hJ dX10_addClass_36 0 rfl ?_
  refine j_iload hJ dX10_addClass_38 4 rfl ?_
  refine j_iast hJ gv1 gp3 kC_10 hF.1 hF.2.1 dX10_addClass_40 (fun M7 eM7 => ?_)
  have hF := hF.2.2 M7 eM7
  refine j_aload_n hJ dX10_addClass_41 rfl 1 rfl ?_
  refine j_gr (e := 17) hJ kC_8 fC_13_9 fl_X10_38 dX10_addClass_42 rfl ?_
  refine j_iload hJ dX10_addClass_45 0 rfl ?_
  refine j_bipush hJ dX10_addClass_47 (by decide) ?_
  refine j_iast hJ gv1 rk_12 kC_17 hF.1 hF.2.1 dX10_addClass_49 (fun M8 eM8 => ?_)
  have hF := hF.2.2 M8 eM8
  refine j_iload_n hJ dX10_addClass_50 rfl 3 rfl ?_
  refine j_iconst hJ dX10_addClass_51 ?_
  refine j_icmp_eq hJ 169 gp2 rk_m1 dX10_addClass_52 (by decide) (fun z9 => ?_) (fun z9 => ?_)
  · have hF := hF.1 z9
    refine j_iload hJ dX10_addClass_169 0 rfl ?_
    exact j_iret hJ rfl gv1 dX10_addClass_171 hF
  · have hF := hF.2 z9
    refine j_aload_n hJ dX10_addClass_55 rfl 1 rfl ?_
    refine j_gr (e := 12) hJ kC_8 fC_13_4 fl_X10_22 dX10_addClass_56 rfl ?_
    refine j_iload_n hJ dX10_addClass_59 rfl 3 rfl ?_
    refine j_iconst hJ dX10_addClass_60 ?_
    refine j_zast hJ gp2 (by decide) kC_12 hF.1 hF.2.1 dX10_addClass_61 (fun M10 eM10 => ?_)
    have hF := hF.2.2 M10 eM10
    refine j_aload_n hJ dX10_addClass_62 rfl 1 rfl ?_
    refine j_gr (e := 17) hJ kC_8 fC_13_9 fl_X10_38 dX10_addClass_63 rfl ?_
    refine j_iload hJ dX10_addClass_66 0 rfl ?_
    refine j_aload_n hJ dX10_addClass_68 rfl 1 rfl ?_
    refine j_gr (e := 17) hJ kC_8 fC_13_9 fl_X10_38 dX10_addClass_69 rfl ?_
    refine j_iload_n hJ dX10_addClass_72 rfl 3 rfl ?_
    refine j_iald hJ gp2 kC_17 hF.1 hF.2.1 dX10_addClass_73 (fun v11 ev11 gv11 => ?_)
    have hF := hF.2.2 v11 ev11 gv11
    refine j_iast hJ gv1 gv11 kC_17 hF.1 hF.2.1 dX10_addClass_74 (fun M12 eM12 => ?_)
    have hF := hF.2.2 M12 eM12
    refine j_aload_n hJ dX10_addClass_75 rfl 1 rfl ?_
    refine j_gr (e := 16) hJ kC_8 fC_13_8 fl_X10_35 dX10_addClass_76 rfl ?_
    refine j_iload hJ dX10_addClass_79 0 rfl ?_
    refine j_aload_n hJ dX10_addClass_81 rfl 1 rfl ?_
    refine j_gr (e := 16) hJ kC_8 fC_13_8 fl_X10_35 dX10_addClass_82 rfl ?_
    refine j_iload_n hJ dX10_addClass_85 rfl 3 rfl ?_
    refine j_iald hJ gp2 kC_16 hF.1 hF.2.1 dX10_addClass_86 (fun v13 ev13 gv13 => ?_)
    have hF := hF.2.2 v13 ev13 gv13
    refine j_iast hJ gv1 gv13 kC_16 hF.1 hF.2.1 dX10_addClass_87 (fun M14 eM14 => ?_)
    have hF := hF.2.2 M14 eM14
    refine j_aload_n hJ dX10_addClass_88 rfl 1 rfl ?_
    refine j_gr (e := 23) hJ kC_8 fC_13_15 fl_X10_56 dX10_addClass_89 rfl ?_
    refine j_iload_n hJ dX10_addClass_92 rfl 3 rfl ?_
    refine j_bipush hJ dX10_addClass_93 (by decide) ?_
    refine j_imul hJ dX10_addClass_95 ?_
    have g15 := hF.1; have hF := hF.2
    refine j_aload_n hJ dX10_addClass_96 rfl 1 rfl ?_
    refine j_gr (e := 23) hJ kC_8 fC_13_15 fl_X10_56 dX10_addClass_97 rfl ?_
    refine j_iload hJ dX10_addClass_100 0 rfl ?_
    refine j_bipush hJ dX10_addClass_102 (by decide) ?_
    refine j_imul hJ dX10_addClass_104 ?_
    have g16 := hF.1; have hF := hF.2
    refine j_aload_n hJ dX10_addClass_105 rfl 1 rfl ?_
    refine j_gr (e := 16) hJ kC_8 fC_13_8 fl_X10_35 dX10_addClass_106 rfl ?_
    refine j_iload hJ dX10_addClass_109 0 rfl ?_
    refine j_iald hJ gv1 kC_16 hF.1 hF.2.1 dX10_addClass_111 (fun v17 ev17 gv17 => ?_)
    have hF := hF.2.2 v17 ev17 gv17
    refine j_copyl hJ g15 g16 gv17 kC_23 kC_23 hF.1 hF.2.1 hF.2.2.1 hF.2.2.2.1 hF.2.2.2.2.1 ⟨om_760, om_122, om_123, om_124⟩ ⟨Nat.le_of_ble_eq_true rfl, Nat.le_of_ble_eq_true rfl⟩ dX10_addClass_112 (fun M18 eM18 => ?_)
    have hF := hF.2.2.2.2.2 M18 eM18
    refine j_aload_n hJ dX10_addClass_115 rfl 1 rfl ?_
    refine j_gr (e := 24) hJ kC_8 fC_13_16 fl_X10_59 dX10_addClass_116 rfl ?_
    refine j_iload_n hJ dX10_addClass_119 rfl 3 rfl ?_
    refine j_bipush hJ dX10_addClass_120 (by decide) ?_
    refine j_imul hJ dX10_addClass_122 ?_
    have g19 := hF.1; have hF := hF.2
    refine j_aload_n hJ dX10_addClass_123 rfl 1 rfl ?_
    refine j_gr (e := 24) hJ kC_8 fC_13_16 fl_X10_59 dX10_addClass_124 rfl ?_
    refine j_iload hJ dX10_addClass_127 0 rfl ?_
    refine j_bipush hJ dX10_addClass_129 (by decide) ?_
    refine j_imul hJ dX10_addClass_131 ?_
    have g20 := hF.1; have hF := hF.2
    refine j_aload_n hJ dX10_addClass_132 rfl 1 rfl ?_
    refine j_gr (e := 16) hJ kC_8 fC_13_8 fl_X10_35 dX10_addClass_133 rfl ?_
    refine j_iload hJ dX10_addClass_136 0 rfl ?_
    refine j_iald hJ gv1 kC_16 hF.1 hF.2.1 dX10_addClass_138 (fun v21 ev21 gv21 => ?_)
    have hF := hF.2.2 v21 ev21 gv21
    refine j_copyi hJ g19 g20 gv21 kC_24 kC_24 hF.1 hF.2.1 hF.2.2.1 hF.2.2.2.1 hF.2.2.2.2.1 ⟨om_760, om_122, om_123, om_124⟩ ⟨Nat.le_of_ble_eq_true rfl, Nat.le_of_ble_eq_true rfl⟩ dX10_addClass_139 (fun M22 eM22 => ?_)
    have hF := hF.2.2.2.2.2 M22 eM22
    refine j_aload_n hJ dX10_addClass_142 rfl 1 rfl ?_
    refine j_gr (e := 25) hJ kC_8 fC_13_17 fl_X10_62 dX10_addClass_143 rfl ?_
    refine j_iload_n hJ dX10_addClass_146 rfl 3 rfl ?_
    refine j_bipush hJ dX10_addClass_147 (by decide) ?_
    refine j_imul hJ dX10_addClass_149 ?_
    have g23 := hF.1; have hF := hF.2
    refine j_aload_n hJ dX10_addClass_150 rfl 1 rfl ?_
    refine j_gr (e := 25) hJ kC_8 fC_13_17 fl_X10_62 dX10_addClass_151 rfl ?_
    refine j_iload hJ dX10_addClass_154 0 rfl ?_
    refine j_bipush hJ dX10_addClass_156 (by decide) ?_
    refine j_imul hJ dX10_addClass_158 ?_
    have g24 := hF.1; have hF := hF.2
    refine j_aload_n hJ dX10_addClass_159 rfl 1 rfl ?_
    refine j_gr (e := 16) hJ kC_8 fC_13_8 fl_X10_35 dX10_addClass_160 rfl ?_
    refine j_iload hJ dX10_addClass_163 0 rfl ?_
    refine j_iald hJ gv1 kC_16 hF.1 hF.2.1 dX10_addClass_165 (fun v25 ev25 gv25 => ?_)
    have hF := hF.2.2 v25 ev25 gv25
    refine j_copyi hJ g23 g24 gv25 kC_25 kC_25 hF.1 hF.2.1 hF.2.2.1 hF.2.2.2.1 hF.2.2.2.2.1 ⟨om_760, om_122, om_123, om_124⟩ ⟨Nat.le_of_ble_eq_true rfl, Nat.le_of_ble_eq_true rfl⟩ dX10_addClass_166 (fun M26 eM26 => ?_)
    have hF := hF.2.2.2.2.2 M26 eM26
    refine j_iload hJ dX10_addClass_169 0 rfl ?_
    exact j_iret hJ rfl gv1 dX10_addClass_171 hF
def W_X10_firstByte (ad : Nat → Nat) (Q : Int → MM → Prop) (av : List Value) (M : MM) : Prop := ∃ (p1 : Int) (p2 : Int), av = [.ref (ad 8), .int (Ii p1), .int (Ii p2)] ∧ ri_ p1 ∧ ri_ p2 ∧ w_X10_firstByte  Q p1 p2 M
set_option maxHeartbeats 4000000 in
set_option maxRecDepth 100000 in
theorem k_X10_firstByte_b118 {l : Launch} {D : va_G} {cy : Nat → ClassId} {ad : Nat → Nat} {Q : Int → MM → Prop} {J : Nat → List (Nat × Value) → List Value → MM → Prop} (hin : jIn ad ksC.length)   (hJ : jOk l D vwCl (tyC cy) cy ad ftC ksC (XtC ad) Om RX10 cX10_firstByte 8 1 ({ frames := 0, cells := 0, slots := 0, locals := 0 } : Room) Q J) {K31 : Int → Int → Int → Int → MM → Prop} (hK31 : ∀ (x1 x2 x3 x4 : Int) (M : MM), ri_ x1 → ri_ x2 → ri_ x3 → ri_ x4 → K31 x1 x2 x3 x4 M → J 31 [(0, .ref (ad 8)), (1, .int (Ii x1)), (2, .int (Ii x2)), (3, .int (Ii x3)), (4, .int (Ii x4))] [] M) {K40 : Int → Int → Int → Int → Int → MM → Prop} (hK40 : ∀ (x1 x2 x3 x4 x5 : Int) (M : MM), ri_ x1 → ri_ x2 → ri_ x3 → ri_ x4 → ri_ x5 → K40 x1 x2 x3 x4 x5 M → J 40 [(0, .ref (ad 8)), (1, .int (Ii x1)), (2, .int (Ii x2)), (3, .int (Ii x3)), (4, .int (Ii x4)), (5, .int (Ii x5))] [] M) : ∀ (x1 x2 x3 x4 x5 : Int) (M : MM), ri_ x1 → ri_ x2 → ri_ x3 → ri_ x4 → ri_ x5 → w_X10_firstByte_b118  Q K31 K40 x1 x2 x3 x4 x5 M → J 118 [(0, .ref (ad 8)), (1, .int (Ii x1)), (2, .int (Ii x2)), (3, .int (Ii x3)), (4, .int (Ii x4)), (5, .int (Ii x5))] [] M := by
  intro x1 x2 x3 x4 x5 M gx1 gx2 gx3 gx4 gx5 hF
  unfold w_X10_firstByte_b118 at hF
  refine j_iinc (lv' := [(5, .int (Ii (x5 + 1))), (0, .ref (ad 8)), (1, .int (Ii x1)), (2, .int (Ii x2)), (3, .int (Ii x3)), (4, .int (Ii x4))]) (k := 5) hJ dX10_firstByte_118 rfl (by decide) rfl ?_
  have g1 := hF.1; have hF := hF.2
  refine j_goto hJ 40 dX10_firstByte_121 (by decide) ?_
  exact j_sub hJ [1, 2, 3, 4, 5, 0] rfl (hK40 x1 x2 x3 x4 (x5 + 1) _ gx1 gx2 gx3 gx4 g1 hF)
set_option maxHeartbeats 4000000 in
set_option maxRecDepth 100000 in
theorem k_X10_firstByte_b40 {l : Launch} {D : va_G} {cy : Nat → ClassId} {ad : Nat → Nat} {Q : Int → MM → Prop} {J : Nat → List (Nat × Value) → List Value → MM → Prop} (hin : jIn ad ksC.length)   (hJ : jOk l D vwCl (tyC cy) cy ad ftC ksC (XtC ad) Om RX10 cX10_firstByte 8 1 ({ frames := 0, cells := 0, slots := 0, locals := 0 } : Room) Q J) {K31 : Int → Int → Int → Int → MM → Prop} (hK31 : ∀ (x1 x2 x3 x4 : Int) (M : MM), ri_ x1 → ri_ x2 → ri_ x3 → ri_ x4 → K31 x1 x2 x3 x4 M → J 31 [(0, .ref (ad 8)), (1, .int (Ii x1)), (2, .int (Ii x2)), (3, .int (Ii x3)), (4, .int (Ii x4))] [] M) : ∀ (x1 x2 x3 x4 x5 : Int) (M : MM), ri_ x1 → ri_ x2 → ri_ x3 → ri_ x4 → ri_ x5 → w_X10_firstByte_b40  Q K31 x1 x2 x3 x4 x5 M → J 40 [(0, .ref (ad 8)), (1, .int (Ii x1)), (2, .int (Ii x2)), (3, .int (Ii x3)), (4, .int (Ii x4)), (5, .int (Ii x5))] [] M := by
  have H9 : ∀ (n : Nat) (x1 x2 x3 x4 x5 : Int) (M : MM), ri_ x1 → ri_ x2 → ri_ x3 → ri_ x4 → ri_ x5 → jit (fun _ _ _ _ _ _ => False) (wb_X10_firstByte_b40  Q K31) n x1 x2 x3 x4 x5 M → J 40 [(0, .ref (ad 8)), (1, .int (Ii x1)), (2, .int (Ii x2)), (3, .int (Ii x3)), (4, .int (Ii x4)), (5, .int (Ii x5))] [] M := by
    intro n
    induction n with
    | zero => intro x1 x2 x3 x4 x5 M gx1 gx2 gx3 gx4 gx5 hF; exact False.elim hF
    | succ n ih =>
    intro x1 x2 x3 x4 x5 M gx1 gx2 gx3 gx4 gx5 hF
    have hF : wb_X10_firstByte_b40  Q K31 (jit (fun _ _ _ _ _ _ => False) (wb_X10_firstByte_b40  Q K31) n) x1 x2 x3 x4 x5 M := hF
    unfold wb_X10_firstByte_b40 at hF
    refine j_iload hJ dX10_firstByte_40 5 rfl ?_
    refine j_aload_n hJ dX10_firstByte_42 rfl 0 rfl ?_
    refine j_gr (e := 14) hJ kC_8 fC_13_6 fl_X10_29 dX10_firstByte_43 rfl ?_
    refine j_iload_n hJ dX10_firstByte_46 rfl 1 rfl ?_
    refine j_iald hJ gx1 kC_14 hF.1 hF.2.1 dX10_firstByte_47 (fun v1 ev1 gv1 => ?_)
    have hF := hF.2.2 v1 ev1 gv1
    refine j_icmp_ge hJ 124 gx5 gv1 dX10_firstByte_48 (by decide) (fun z2 => ?_) (fun z2 => ?_)
    · have hF := hF.1 z2
      refine j_iload hJ dX10_firstByte_124 4 rfl ?_
      refine j_iconst hJ dX10_firstByte_126 ?_
      refine j_idiv hJ gx4 rk_2 (by decide) dX10_firstByte_127 ?_
      have g3 := hF.1; have hF := hF.2
      refine j_istore (lv' := [(4, .int (Ii ((Int.tdiv x4 2)))), (0, .ref (ad 8)), (1, .int (Ii x1)), (2, .int (Ii x2)), (3, .int (Ii x3)), (5, .int (Ii x5))]) hJ dX10_firstByte_128 (by decide) rfl ?_
      refine j_goto hJ 31 dX10_firstByte_130 (by decide) ?_
      exact j_sub hJ [1, 2, 3, 4, 0] rfl (hK31 x1 x2 x3 ((Int.tdiv x4 2)) _ gx1 gx2 gx3 g3 hF)
    · have hF := hF.2 z2
      refine j_iload_n hJ dX10_firstByte_51 rfl 1 rfl ?_
      refine j_bipush hJ dX10_firstByte_52 (by decide) ?_
      refine j_imul hJ dX10_firstByte_54 ?_
      have g4 := hF.1; have hF := hF.2
      refine j_iload hJ dX10_firstByte_55 5 rfl ?_
      refine j_iadd hJ dX10_firstByte_57 ?_
      have g5 := hF.1; have hF := hF.2
      refine j_istore (lv' := [(6, .int (Ii ((x1 * 6) + x5))), (0, .ref (ad 8)), (1, .int (Ii x1)), (2, .int (Ii x2)), (3, .int (Ii x3)), (4, .int (Ii x4)), (5, .int (Ii x5))]) hJ dX10_firstByte_58 (by decide) rfl ?_
      refine j_aload_n hJ dX10_firstByte_60 rfl 1 rfl ?_
      refine j_gr (e := 21) hJ kC_8 fC_13_13 fl_X10_50 dX10_firstByte_61 rfl ?_
      refine j_iload hJ dX10_firstByte_64 0 rfl ?_
      refine j_zald hJ g5 kC_21 hF.1 hF.2.1 dX10_firstByte_66 (fun v6 ev6 gv6 => ?_)
      have hF := hF.2.2 v6 ev6 gv6
      refine j_if_ne hJ 118 (jz_ri gv6) dX10_firstByte_67 (by decide) (fun z7 => ?_) (fun z7 => ?_)
      · have hF := hF.1 z7
        exact j_sub hJ [1, 2, 3, 4, 5, 6] rfl (k_X10_firstByte_b118 hin  hJ hK31 ih x1 x2 x3 x4 x5 _ gx1 gx2 gx3 gx4 gx5 hF)
      · have hF := hF.2 z7
        refine j_gs hJ XtC_w1 om_68 dX10_firstByte_70 ?_
        refine j_aload_n hJ dX10_firstByte_73 rfl 1 rfl ?_
        refine j_gr (e := 19) hJ kC_8 fC_13_11 fl_X10_44 dX10_firstByte_74 rfl ?_
        refine j_iload hJ dX10_firstByte_77 0 rfl ?_
        refine j_iald hJ g5 kC_19 hF.1 hF.2.1 dX10_firstByte_79 (fun v8 ev8 gv8 => ?_)
        have hF := hF.2.2 v8 ev8 gv8
        refine j_ti hJ XtC_w2 gv8 hF.1 hF.2.1 dX10_firstByte_80 ?_
        have hF := hF.2.2
        refine j_iload hJ dX10_firstByte_81 5 rfl ?_
        refine j_icmp_eq hJ 89 (wdt_ri _) gx4 dX10_firstByte_83 (by decide) (fun z9 => ?_) (fun z9 => ?_)
        · have hF := hF.1 z9
          refine j_iload_n hJ dX10_firstByte_89 rfl 4 rfl ?_
          refine j_iload hJ dX10_firstByte_90 5 rfl ?_
          refine j_iadd hJ dX10_firstByte_92 ?_
          have g10 := hF.1; have hF := hF.2
          refine j_iconst hJ dX10_firstByte_93 ?_
          refine j_isub hJ dX10_firstByte_94 ?_
          have g11 := hF.1; have hF := hF.2
          refine j_iload hJ dX10_firstByte_95 5 rfl ?_
          refine j_idiv hJ g11 gx4 hF.1 dX10_firstByte_97 ?_
          have g12 := hF.2.1; have hF := hF.2.2
          refine j_iload hJ dX10_firstByte_98 5 rfl ?_
          refine j_imul hJ dX10_firstByte_100 ?_
          have g13 := hF.1; have hF := hF.2
          refine j_istore (lv' := [(7, .int (Ii (((Int.tdiv ((x3 + x4) - 1) x4)) * x4))), (6, .int (Ii ((x1 * 6) + x5))), (0, .ref (ad 8)), (1, .int (Ii x1)), (2, .int (Ii x2)), (3, .int (Ii x3)), (4, .int (Ii x4)), (5, .int (Ii x5))]) hJ dX10_firstByte_101 (by decide) rfl ?_
          refine j_iload hJ dX10_firstByte_103 7 rfl ?_
          refine j_iload_n hJ dX10_firstByte_105 rfl 4 rfl ?_
          refine j_icmp_ne hJ 112 gx5 gx2 dX10_firstByte_106 (by decide) (fun z14 => ?_) (fun z14 => ?_)
          · have hF := hF.1 z14
            refine j_iload hJ dX10_firstByte_112 0 rfl ?_
            refine j_iload hJ dX10_firstByte_114 6 rfl ?_
            refine j_iadd hJ dX10_firstByte_116 ?_
            have g15 := hF.1; have hF := hF.2
            refine j_istore_n (lv' := [(3, .int (Ii ((((Int.tdiv ((x3 + x4) - 1) x4)) * x4) + x4))), (7, .int (Ii (((Int.tdiv ((x3 + x4) - 1) x4)) * x4))), (6, .int (Ii ((x1 * 6) + x5))), (0, .ref (ad 8)), (1, .int (Ii x1)), (2, .int (Ii x2)), (4, .int (Ii x4)), (5, .int (Ii x5))]) hJ dX10_firstByte_117 rfl (by decide) rfl ?_
            exact j_sub hJ [3, 4, 5, 0, 6, 7] rfl (k_X10_firstByte_b118 hin  hJ hK31 ih x1 x2 ((((Int.tdiv ((x3 + x4) - 1) x4)) * x4) + x4) x4 x5 _ gx1 gx2 g15 gx4 gx5 hF)
          · have hF := hF.2 z14
            refine j_iload hJ dX10_firstByte_109 0 rfl ?_
            exact j_iret hJ rfl g13 dX10_firstByte_111 hF
        · have hF := hF.2 z9
          refine j_goto hJ 118 dX10_firstByte_86 (by decide) ?_
          exact j_sub hJ [1, 2, 3, 4, 5, 6] rfl (k_X10_firstByte_b118 hin  hJ hK31 ih x1 x2 x3 x4 x5 _ gx1 gx2 gx3 gx4 gx5 hF)
  intro x1 x2 x3 x4 x5 M gx1 gx2 gx3 gx4 gx5 hF
  obtain ⟨n, hF⟩ := hF
  exact H9 n x1 x2 x3 x4 x5 M gx1 gx2 gx3 gx4 gx5 hF
set_option maxHeartbeats 4000000 in
set_option maxRecDepth 100000 in
theorem k_X10_firstByte_b31 {l : Launch} {D : va_G} {cy : Nat → ClassId} {ad : Nat → Nat} {Q : Int → MM → Prop} {J : Nat → List (Nat × Value) → List Value → MM → Prop} (hin : jIn ad ksC.length)   (hJ : jOk l D vwCl (tyC cy) cy ad ftC ksC (XtC ad) Om RX10 cX10_firstByte 8 1 ({ frames := 0, cells := 0, slots := 0, locals := 0 } : Room) Q J)  : ∀ (x1 x2 x3 x4 : Int) (M : MM), ri_ x1 → ri_ x2 → ri_ x3 → ri_ x4 → w_X10_firstByte_b31  Q  x1 x2 x3 x4 M → J 31 [(0, .ref (ad 8)), (1, .int (Ii x1)), (2, .int (Ii x2)), (3, .int (Ii x3)), (4, .int (Ii x4))] [] M := by
  have H9 : ∀ (n : Nat) (x1 x2 x3 x4 : Int) (M : MM), ri_ x1 → ri_ x2 → ri_ x3 → ri_ x4 → jit (fun _ _ _ _ _ => False) (wb_X10_firstByte_b31  Q ) n x1 x2 x3 x4 M → J 31 [(0, .ref (ad 8)), (1, .int (Ii x1)), (2, .int (Ii x2)), (3, .int (Ii x3)), (4, .int (Ii x4))] [] M := by
    intro n
    induction n with
    | zero => intro x1 x2 x3 x4 M gx1 gx2 gx3 gx4 hF; exact False.elim hF
    | succ n ih =>
    intro x1 x2 x3 x4 M gx1 gx2 gx3 gx4 hF
    have hF : wb_X10_firstByte_b31  Q  (jit (fun _ _ _ _ _ => False) (wb_X10_firstByte_b31  Q ) n) x1 x2 x3 x4 M := hF
    unfold wb_X10_firstByte_b31 at hF
    refine j_iload hJ dX10_firstByte_31 4 rfl ?_
    refine j_iconst hJ dX10_firstByte_33 ?_
    refine j_icmp_lt hJ 133 gx4 rk_1 dX10_firstByte_34 (by decide) (fun z1 => ?_) (fun z1 => ?_)
    · have hF := hF.1 z1
      refine j_iload_n hJ dX10_firstByte_133 rfl 3 rfl ?_
      exact j_iret hJ rfl gx3 dX10_firstByte_134 hF
    · have hF := hF.2 z1
      refine j_iconst hJ dX10_firstByte_37 ?_
      refine j_istore (lv' := [(5, .int (Ii 0)), (0, .ref (ad 8)), (1, .int (Ii x1)), (2, .int (Ii x2)), (3, .int (Ii x3)), (4, .int (Ii x4))]) hJ dX10_firstByte_38 (by decide) rfl ?_
      exact j_sub hJ [1, 2, 3, 4, 5, 0] rfl (k_X10_firstByte_b40 hin  hJ ih x1 x2 x3 x4 0 _ gx1 gx2 gx3 gx4 rk_0 hF)
  intro x1 x2 x3 x4 M gx1 gx2 gx3 gx4 hF
  obtain ⟨n, hF⟩ := hF
  exact H9 n x1 x2 x3 x4 M gx1 gx2 gx3 gx4 hF
set_option maxHeartbeats 4000000 in
set_option maxRecDepth 100000 in
theorem k_X10_firstByte_b26 {l : Launch} {D : va_G} {cy : Nat → ClassId} {ad : Nat → Nat} {Q : Int → MM → Prop} {J : Nat → List (Nat × Value) → List Value → MM → Prop} (hin : jIn ad ksC.length)   (hJ : jOk l D vwCl (tyC cy) cy ad ftC ksC (XtC ad) Om RX10 cX10_firstByte 8 1 ({ frames := 0, cells := 0, slots := 0, locals := 0 } : Room) Q J)  : ∀ (x1 x2 s0 : Int) (M : MM), ri_ x1 → ri_ x2 → ri_ s0 → w_X10_firstByte_b26  Q  x1 x2 s0 M → J 26 [(0, .ref (ad 8)), (1, .int (Ii x1)), (2, .int (Ii x2))] [.int (Ii s0)] M := by
  intro x1 x2 s0 M gx1 gx2 gs0 hF
  unfold w_X10_firstByte_b26 at hF
  refine j_istore_n (lv' := [(3, .int (Ii s0)), (0, .ref (ad 8)), (1, .int (Ii x1)), (2, .int (Ii x2))]) hJ dX10_firstByte_26 rfl (by decide) rfl ?_
  refine j_bipush hJ dX10_firstByte_27 (by decide) ?_
  refine j_istore (lv' := [(4, .int (Ii 8)), (3, .int (Ii s0)), (0, .ref (ad 8)), (1, .int (Ii x1)), (2, .int (Ii x2))]) hJ dX10_firstByte_29 (by decide) rfl ?_
  exact j_sub hJ [2, 3, 4, 1, 0] rfl (k_X10_firstByte_b31 hin  hJ  x1 x2 s0 8 _ gx1 gx2 gs0 rk_8 hF)
set_option maxHeartbeats 4000000 in
set_option maxRecDepth 100000 in
theorem c_X10_firstByte {l : Launch} {D : va_G} {cy : Nat → ClassId} {ad : Nat → Nat} (hin : jIn ad ksC.length) : jCN l D vwCl (tyC cy) cy ad ftC ksC (XtC ad) yX10_firstByte (.code yX10_firstByte cX10_firstByte 8 (some .int) :: Om) ({ frames := 0, cells := 0, slots := 0, locals := 0 } : Room) 1 (W_X10_firstByte ad) := by
  refine jCN_of (y := yX10_firstByte) (cc := cX10_firstByte) (nL := 8) (rk := 1) (rm := ({ frames := 0, cells := 0, slots := 0, locals := 0 } : Room)) (own := RX10) (tyC_ok cy) hin (XtC_ok ad) Om_good (by decide) rfl ?_
  intro Q av M hF
  obtain ⟨p1, p2, rfl, gp1, gp2, hF⟩ := hF
  refine ⟨Nat.le_of_ble_eq_true rfl, fun J hJ => ?_⟩
  show J 0 [(0, .ref (ad 8)), (1, .int (Ii p1)), (2, .int (Ii p2))] [] M
  unfold w_X10_firstByte at hF
  refine j_aload_n hJ dX10_firstByte_0 rfl 0 rfl ?_
  refine j_gr (e := 11) hJ kC_8 fC_13_3 fl_X10_19 dX10_firstByte_1 rfl ?_
  refine j_iload_n hJ dX10_firstByte_4 rfl 1 rfl ?_
  refine j_iald hJ gp1 kC_11 hF.1 hF.2.1 dX10_firstByte_5 (fun v1 ev1 gv1 => ?_)
  have hF := hF.2.2 v1 ev1 gv1
  refine j_iconst hJ dX10_firstByte_6 ?_
  refine j_icmp_ne hJ 15 gv1 rk_m1 dX10_firstByte_7 (by decide) (fun z2 => ?_) (fun z2 => ?_)
  · have hF := hF.1 z2
    refine j_aload_n hJ dX10_firstByte_15 rfl 0 rfl ?_
    refine j_gr (e := 17) hJ kC_8 fC_13_9 fl_X10_38 dX10_firstByte_16 rfl ?_
    refine j_aload_n hJ dX10_firstByte_19 rfl 0 rfl ?_
    refine j_gr (e := 11) hJ kC_8 fC_13_3 fl_X10_19 dX10_firstByte_20 rfl ?_
    refine j_iload_n hJ dX10_firstByte_23 rfl 1 rfl ?_
    refine j_iald hJ gp1 kC_11 hF.1 hF.2.1 dX10_firstByte_24 (fun v3 ev3 gv3 => ?_)
    have hF := hF.2.2 v3 ev3 gv3
    refine j_iald hJ gv3 kC_17 hF.1 hF.2.1 dX10_firstByte_25 (fun v4 ev4 gv4 => ?_)
    have hF := hF.2.2 v4 ev4 gv4
    exact j_sub hJ [0, 1, 2] rfl (k_X10_firstByte_b26 hin  hJ  p1 p2 v4 _ gp1 gp2 gv4 hF)
  · have hF := hF.2 z2
    refine j_bipush hJ dX10_firstByte_10 (by decide) ?_
    refine j_goto hJ 26 dX10_firstByte_12 (by decide) ?_
    exact j_sub hJ [0, 1, 2] rfl (k_X10_firstByte_b26 hin  hJ  p1 p2 12 _ gp1 gp2 rk_12 hF)
