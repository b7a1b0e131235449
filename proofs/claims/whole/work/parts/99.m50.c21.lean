def W_X12_isFactNow (ad : Nat → Nat) (Q : Int → MM → Prop) (av : List Value) (M : MM) : Prop := ∃ (p1 : Int) (p2 : Int) (p3 : Int), av = [.ref (ad 0), .int (Ii p1), .int (Ii p2), .int (Ii p3)] ∧ ri_ p1 ∧ ri_ p2 ∧ ri_ p3 ∧ w_X12_isFactNow  Q p1 p2 p3 M
set_option maxHeartbeats 4000000 in
set_option maxRecDepth 100000 in
theorem c_X12_isFactNow {l : Launch} {D : va_G} {cy : Nat → ClassId} {ad : Nat → Nat} (hin : jIn ad ksR.length) : jCN l D vwCl (tyR cy) cy ad ftR ksR (XtR ad) yX12_isFactNow (.code yX12_isFactNow cX12_isFactNow 4 (some .boolean) :: Om) ({ frames := 0, cells := 0, slots := 0, locals := 0 } : Room) 3 (W_X12_isFactNow ad) := by
  refine jCN_of (y := yX12_isFactNow) (cc := cX12_isFactNow) (nL := 4) (rk := 3) (rm := ({ frames := 0, cells := 0, slots := 0, locals := 0 } : Room)) (own := RX12) (tyR_ok cy) hin (XtR_ok ad) Om_good (by decide) rfl ?_
  intro Q av M hF
  obtain ⟨p1, p2, p3, rfl, gp1, gp2, gp3, hF⟩ := hF
  refine ⟨Nat.le_of_ble_eq_true rfl, fun J hJ => ?_⟩
  show J 0 [(0, .ref (ad 0)), (1, .int (Ii p1)), (2, .int (Ii p2)), (3, .int (Ii p3))] [] M
  unfold w_X12_isFactNow at hF
  refine j_aload_n hJ dX12_isFactNow_0 rfl 0 rfl ?_
  refine j_gr (e := 83) hJ kR_0 fR_15_118 fl_X12_324 dX12_isFactNow_1 rfl ?_
  refine j_iload_n hJ dX12_isFactNow_4 rfl 1 rfl ?_
  refine j_iald hJ gp1 kR_83 hF.1 hF.2.1 dX12_isFactNow_5 (fun v1 ev1 gv1 => ?_)
  have hF := hF.2.2 v1 ev1 gv1
  refine j_iconst hJ dX12_isFactNow_6 ?_
  refine j_icmp_ne hJ 30 gv1 rk_2 dX12_isFactNow_7 (by decide) (fun z2 => ?_) (fun z2 => ?_)
  · have hF := hF.1 z2
    refine j_aload_n hJ dX12_isFactNow_30 rfl 0 rfl ?_
    refine j_gr (e := 94) hJ kR_0 fR_15_129 fl_X12_357 dX12_isFactNow_31 rfl ?_
    refine j_bipush hJ dX12_isFactNow_34 (by decide) ?_
    refine j_iload_n hJ dX12_isFactNow_36 rfl 1 rfl ?_
    refine j_imul hJ dX12_isFactNow_37 ?_
    have g3 := hF.1; have hF := hF.2
    refine j_iload_n hJ dX12_isFactNow_38 rfl 2 rfl ?_
    refine j_iadd hJ dX12_isFactNow_39 ?_
    have g4 := hF.1; have hF := hF.2
    refine j_zald hJ g4 kR_94 hF.1 hF.2.1 dX12_isFactNow_40 (fun v5 ev5 gv5 => ?_)
    have hF := hF.2.2 v5 ev5 gv5
    exact j_zret hJ rfl gv5 dX12_isFactNow_41 hF
  · have hF := hF.2 z2
    refine j_aload_n hJ dX12_isFactNow_10 rfl 0 rfl ?_
    refine j_gr (e := 95) hJ kR_0 fR_15_130 fl_X12_360 dX12_isFactNow_11 rfl ?_
    refine j_sipush hJ dX12_isFactNow_14 (by decide) ?_
    refine j_iload_n hJ dX12_isFactNow_17 rfl 1 rfl ?_
    refine j_imul hJ dX12_isFactNow_18 ?_
    have g6 := hF.1; have hF := hF.2
    refine j_bipush hJ dX12_isFactNow_19 (by decide) ?_
    refine j_iload_n hJ dX12_isFactNow_21 rfl 2 rfl ?_
    refine j_imul hJ dX12_isFactNow_22 ?_
    have g7 := hF.1; have hF := hF.2
    refine j_iadd hJ dX12_isFactNow_23 ?_
    have g8 := hF.1; have hF := hF.2
    refine j_iload_n hJ dX12_isFactNow_24 rfl 3 rfl ?_
    refine j_iadd hJ dX12_isFactNow_25 ?_
    have g9 := hF.1; have hF := hF.2
    refine j_zald hJ g9 kR_95 hF.1 hF.2.1 dX12_isFactNow_26 (fun v10 ev10 gv10 => ?_)
    have hF := hF.2.2 v10 ev10 gv10
    refine j_goto hJ 41 dX12_isFactNow_27 (by decide) ?_
    exact j_zret hJ rfl gv10 dX12_isFactNow_41 hF
def W_X12_holds (ad : Nat → Nat) (Q : Int → MM → Prop) (av : List Value) (M : MM) : Prop := ∃ (p1 : Int) (p2 : Int) (p3 : Int), av = [.ref (ad 0), .int (Ii p1), .int (Ii p2), .int (Ii p3)] ∧ ri_ p1 ∧ ri_ p2 ∧ ri_ p3 ∧ w_X12_holds  Q p1 p2 p3 M
set_option maxHeartbeats 4000000 in
set_option maxRecDepth 100000 in
theorem c_X12_holds {l : Launch} {D : va_G} {cy : Nat → ClassId} {ad : Nat → Nat} (hin : jIn ad ksR.length) : jCN l D vwCl (tyR cy) cy ad ftR ksR (XtR ad) yX12_holds (.code yX12_holds cX12_holds 4 (some .boolean) :: Om) ({ frames := 1, cells := 0, slots := 0, locals := 26 } : Room) 3 (W_X12_holds ad) := by
  refine jCN_of (y := yX12_holds) (cc := cX12_holds) (nL := 4) (rk := 3) (rm := ({ frames := 1, cells := 0, slots := 0, locals := 26 } : Room)) (own := RX12) (tyR_ok cy) hin (XtR_ok ad) Om_good (by decide) rfl ?_
  intro Q av M hF
  obtain ⟨p1, p2, p3, rfl, gp1, gp2, gp3, hF⟩ := hF
  refine ⟨Nat.le_of_ble_eq_true rfl, fun J hJ => ?_⟩
  show J 0 [(0, .ref (ad 0)), (1, .int (Ii p1)), (2, .int (Ii p2)), (3, .int (Ii p3))] [] M
  unfold w_X12_holds at hF
  refine j_aload_n hJ dX12_holds_0 rfl 0 rfl ?_
  refine j_gr (e := 88) hJ kR_0 fR_15_123 fl_X12_339 dX12_holds_1 rfl ?_
  refine j_iload_n hJ dX12_holds_4 rfl 1 rfl ?_
  refine j_iald hJ gp1 kR_88 hF.1 hF.2.1 dX12_holds_5 (fun v1 ev1 gv1 => ?_)
  have hF := hF.2.2 v1 ev1 gv1
  by_cases z2 : v1 = 0
  · refine j_tabIn hJ 30 36 gv1 dX12_holds_6 (by omega) (by omega) (by rw [z2]; decide) (by decide) ?_
    have hF := hF.1 z2
    refine j_aload_n hJ dX12_holds_36 rfl 0 rfl ?_
    refine j_aload_n hJ dX12_holds_37 rfl 0 rfl ?_
    refine j_gr (e := 89) hJ kR_0 fR_15_124 fl_X12_342 dX12_holds_38 rfl ?_
    refine j_iload_n hJ dX12_holds_41 rfl 1 rfl ?_
    refine j_iald hJ gp1 kR_89 hF.1 hF.2.1 dX12_holds_42 (fun v3 ev3 gv3 => ?_)
    have hF := hF.2.2 v3 ev3 gv3
    refine j_iload_n hJ dX12_holds_43 rfl 2 rfl ?_
    refine j_iload_n hJ dX12_holds_44 rfl 3 rfl ?_
    refine j_callVz hJ (c_X12_isFactNow (l := l) (D := D) (cy := cy) (ad := ad) hin) rfl om_1512 ⟨rfl, rfl, Nat.le_of_ble_eq_true rfl, Nat.le_of_ble_eq_true rfl⟩ [.int (Ii v3), .int (Ii p2), .int (Ii p3)] mv_X12_930 hd_X12_isFactNowv kR_0 rfl rfl rfl (Nat.le_of_ble_eq_true rfl) dX12_holds_45 ⟨v3, p2, p3, rfl, gv3, gp2, gp3, hF⟩ (fun r4 M5 gr4 qM5 => ?_)
    have hF := qM5 gr4
    exact j_zret hJ rfl gr4 dX12_holds_48 hF
  by_cases z6 : v1 = 1
  · refine j_tabIn hJ 43 49 gv1 dX12_holds_6 (by omega) (by omega) (by rw [z6]; decide) (by decide) ?_
    have hF := hF.2.1 z6
    refine j_aload_n hJ dX12_holds_49 rfl 0 rfl ?_
    refine j_gr (e := 61) hJ kR_0 fR_15_71 fl_X12_253 dX12_holds_50 rfl ?_
    refine j_sipush hJ dX12_holds_53 (by decide) ?_
    refine j_iload_n hJ dX12_holds_56 rfl 2 rfl ?_
    refine j_imul hJ dX12_holds_57 ?_
    have g7 := hF.1; have hF := hF.2
    refine j_iload_n hJ dX12_holds_58 rfl 3 rfl ?_
    refine j_iadd hJ dX12_holds_59 ?_
    have g8 := hF.1; have hF := hF.2
    refine j_zald hJ g8 kR_61 hF.1 hF.2.1 dX12_holds_60 (fun v9 ev9 gv9 => ?_)
    have hF := hF.2.2 v9 ev9 gv9
    exact j_zret hJ rfl gv9 dX12_holds_61 hF
  by_cases z10 : v1 = 2
  · refine j_tabIn hJ 56 62 gv1 dX12_holds_6 (by omega) (by omega) (by rw [z10]; decide) (by decide) ?_
    have hF := hF.2.2.1 z10
    refine j_aload_n hJ dX12_holds_62 rfl 0 rfl ?_
    refine j_aload_n hJ dX12_holds_63 rfl 0 rfl ?_
    refine j_gr (e := 40) hJ kR_0 fR_15_50 fl_X12_189 dX12_holds_64 rfl ?_
    refine j_aload_n hJ dX12_holds_67 rfl 0 rfl ?_
    refine j_aload_n hJ dX12_holds_68 rfl 0 rfl ?_
    refine j_gi hJ kR_0 fR_15_97 rfl fl_X12_826 dX12_holds_69 (fun v11 ev11 gv11 => ?_)
    have hF := hF v11 ev11 gv11
    refine j_iload_n hJ dX12_holds_72 rfl 2 rfl ?_
    refine j_callVi hJ (c_X12_at (l := l) (D := D) (cy := cy) (ad := ad) hin) rfl om_1153 ⟨rfl, rfl, Nat.le_of_ble_eq_true rfl, Nat.le_of_ble_eq_true rfl⟩ [.int (Ii v11), .int (Ii p2)] mv_X12_545 hd_X12_atv kR_0 rfl rfl rfl (Nat.le_of_ble_eq_true rfl) dX12_holds_73 ⟨v11, p2, rfl, gv11, gp2, hF⟩ (fun r12 M13 gr12 qM13 => ?_)
    have hF := qM13 gr12
    refine j_iald hJ gr12 kR_40 hF.1 hF.2.1 dX12_holds_76 (fun v14 ev14 gv14 => ?_)
    have hF := hF.2.2 v14 ev14 gv14
    refine j_callVz hJ (c_X12_isClass (l := l) (D := D) (cy := cy) (ad := ad) hin) rfl om_1064 ⟨rfl, rfl, Nat.le_of_ble_eq_true rfl, Nat.le_of_ble_eq_true rfl⟩ [.int (Ii v14)] mv_X12_416 hd_X12_isClassv kR_0 rfl rfl rfl (Nat.le_of_ble_eq_true rfl) dX12_holds_77 ⟨v14, rfl, gv14, hF⟩ (fun r15 M16 gr15 qM16 => ?_)
    have hF := qM16 gr15
    refine j_if_eq hJ 115 (jz_ri gr15) dX12_holds_80 (by decide) (fun z17 => ?_) (fun z17 => ?_)
    · have hF := hF.1 z17
      refine j_iconst hJ dX12_holds_115 ?_
      exact j_zret hJ rfl (by decide) dX12_holds_116 hF
    · have hF := hF.2 z17
      refine j_aload_n hJ dX12_holds_83 rfl 0 rfl ?_
      refine j_aload_n hJ dX12_holds_84 rfl 0 rfl ?_
      refine j_gr (e := 40) hJ kR_0 fR_15_50 fl_X12_189 dX12_holds_85 rfl ?_
      refine j_aload_n hJ dX12_holds_88 rfl 0 rfl ?_
      refine j_aload_n hJ dX12_holds_89 rfl 0 rfl ?_
      refine j_gi hJ kR_0 fR_15_97 rfl fl_X12_826 dX12_holds_90 (fun v18 ev18 gv18 => ?_)
      have hF := hF v18 ev18 gv18
      refine j_iload_n hJ dX12_holds_93 rfl 2 rfl ?_
      refine j_callVi hJ (c_X12_at (l := l) (D := D) (cy := cy) (ad := ad) hin) rfl om_1153 ⟨rfl, rfl, Nat.le_of_ble_eq_true rfl, Nat.le_of_ble_eq_true rfl⟩ [.int (Ii v18), .int (Ii p2)] mv_X12_545 hd_X12_atv kR_0 rfl rfl rfl (Nat.le_of_ble_eq_true rfl) dX12_holds_94 ⟨v18, p2, rfl, gv18, gp2, hF⟩ (fun r19 M20 gr19 qM20 => ?_)
      have hF := qM20 gr19
      refine j_iald hJ gr19 kR_40 hF.1 hF.2.1 dX12_holds_97 (fun v21 ev21 gv21 => ?_)
      have hF := hF.2.2 v21 ev21 gv21
      refine j_aload_n hJ dX12_holds_98 rfl 0 rfl ?_
      refine j_gr (e := 82) hJ kR_0 fR_15_117 fl_X12_321 dX12_holds_99 rfl ?_
      refine j_iload_n hJ dX12_holds_102 rfl 1 rfl ?_
      refine j_lald hJ gp1 kR_82 hF.1 hF.2.1 dX12_holds_103 (fun v22 ev22 gv22 => ?_)
      have hF := hF.2.2 v22 ev22 gv22
      refine j_iconst hJ dX12_holds_104 ?_
      refine j_callVz hJ (c_X12_isNamed (l := l) (D := D) (cy := cy) (ad := ad) hin) rfl om_1265 ⟨rfl, rfl, Nat.le_of_ble_eq_true rfl, Nat.le_of_ble_eq_true rfl⟩ [.int (Ii v21), .long (Ll v22), .int (Ii 1)] mv_X12_832 hd_X12_isNamedv kR_0 rfl rfl rfl (Nat.le_of_ble_eq_true rfl) dX12_holds_105 ⟨v21, v22, 1, rfl, gv21, gv22, (by decide), hF⟩ (fun r23 M24 gr23 qM24 => ?_)
      have hF := qM24 gr23
      refine j_if_eq hJ 115 (jz_ri gr23) dX12_holds_108 (by decide) (fun z25 => ?_) (fun z25 => ?_)
      · have hF := hF.1 z25
        refine j_iconst hJ dX12_holds_115 ?_
        exact j_zret hJ rfl (by decide) dX12_holds_116 hF
      · have hF := hF.2 z25
        refine j_iconst hJ dX12_holds_111 ?_
        refine j_goto hJ 116 dX12_holds_112 (by decide) ?_
        exact j_zret hJ rfl (by decide) dX12_holds_116 hF
  by_cases z26 : v1 = 3
  · refine j_tabIn hJ 111 117 gv1 dX12_holds_6 (by omega) (by omega) (by rw [z26]; decide) (by decide) ?_
    have hF := hF.2.2.2.1 z26
    refine j_iload_n hJ dX12_holds_117 rfl 2 rfl ?_
    refine j_iload_n hJ dX12_holds_118 rfl 3 rfl ?_
    refine j_icmp_ne hJ 126 gp2 gp3 dX12_holds_119 (by decide) (fun z27 => ?_) (fun z27 => ?_)
    · have hF := hF.1 z27
      refine j_iconst hJ dX12_holds_126 ?_
      exact j_zret hJ rfl (by decide) dX12_holds_127 hF
    · have hF := hF.2 z27
      refine j_iconst hJ dX12_holds_122 ?_
      refine j_goto hJ 127 dX12_holds_123 (by decide) ?_
      exact j_zret hJ rfl (by decide) dX12_holds_127 hF
  have z28 : ¬ v1 = 0 ∧ ¬ v1 = 1 ∧ ¬ v1 = 2 ∧ ¬ v1 = 3 := ⟨z2, z6, z10, z26⟩
  have hF := hF.2.2.2.2 z28
  refine j_tabOut hJ 128 gv1 dX12_holds_6 (by omega) (by decide) ?_
  refine j_iload_n hJ dX12_holds_128 rfl 2 rfl ?_
  refine j_iload_n hJ dX12_holds_129 rfl 3 rfl ?_
  refine j_icmp_eq hJ 137 gp2 gp3 dX12_holds_130 (by decide) (fun z29 => ?_) (fun z29 => ?_)
  · have hF := hF.1 z29
    refine j_iconst hJ dX12_holds_137 ?_
    exact j_zret hJ rfl (by decide) dX12_holds_138 hF
  · have hF := hF.2 z29
    refine j_iconst hJ dX12_holds_133 ?_
    refine j_goto hJ 138 dX12_holds_134 (by decide) ?_
    exact j_zret hJ rfl (by decide) dX12_holds_138 hF
def rm_gj_ (dp : Nat) : Room := { frames := 2 + dp, cells := 0, slots := 0, locals := 49 + 32 * dp }
def W_X12_join (dp : Nat) (ad : Nat → Nat) (Q : Int → MM → Prop) (av : List Value) (M : MM) : Prop := ∃ (p1 : Int) (p2 : Int), av = [.ref (ad 0), .int (Ii p1), .int (Ii p2)] ∧ ri_ p1 ∧ ri_ p2 ∧ gj_  dp 0 Q [p1, p2] M
set_option maxHeartbeats 4000000 in
set_option maxRecDepth 100000 in
theorem k_X12_join_b550 {l : Launch} {D : va_G} {cy : Nat → ClassId} {ad : Nat → Nat} {dp : Nat} {Q : Int → MM → Prop} {J : Nat → List (Nat × Value) → List Value → MM → Prop} (hin : jIn ad ksR.length)   (hg0 : jCN l D vwCl (tyR cy) cy ad ftR ksR (XtR ad) yX12_join (.code yX12_join cX12_join 13 (some .boolean) :: Om) (rm_gj_ dp) 3 (W_X12_join dp ad)) (hJ : jOk l D vwCl (tyR cy) cy ad ftR ksR (XtR ad) Om RX12 cX12_join 13 3 (rm_gj_ (dp + 1)) Q J)  : ∀ (x5 x7 x9 : Int) (M : MM), ri_ x5 → ri_ x7 → ri_ x9 → w_X12_join_b550  (gj_  dp) Q  x5 x7 x9 M → J 550 [(0, .ref (ad 0)), (5, .int (Ii x5)), (7, .int (Ii x7)), (9, .int (Ii x9))] [] M := by
  intro x5 x7 x9 M gx5 gx7 gx9 hF
  unfold w_X12_join_b550 at hF
  refine j_iload hJ dX12_join_550 2 rfl ?_
  refine j_if_ne hJ 563 gx7 dX12_join_552 (by decide) (fun z1 => ?_) (fun z1 => ?_)
  · have hF := hF.1 z1
    refine j_iload hJ dX12_join_563 3 rfl ?_
    exact j_zret hJ rfl hF.1 dX12_join_565 hF.2
  · have hF := hF.2 z1
    refine j_aload_n hJ dX12_join_555 rfl 0 rfl ?_
    refine j_gr (e := 96) hJ kR_0 fR_15_131 fl_X12_363 dX12_join_556 rfl ?_
    refine j_iload hJ dX12_join_559 1 rfl ?_
    refine j_iconst hJ dX12_join_561 ?_
    refine j_zast hJ gx5 (by decide) kR_96 hF.1 hF.2.1 dX12_join_562 (fun M2 eM2 => ?_)
    have hF := hF.2.2 M2 eM2
    refine j_iload hJ dX12_join_563 3 rfl ?_
    exact j_zret hJ rfl hF.1 dX12_join_565 hF.2
set_option maxHeartbeats 4000000 in
set_option maxRecDepth 100000 in
theorem k_X12_join_b537 {l : Launch} {D : va_G} {cy : Nat → ClassId} {ad : Nat → Nat} {dp : Nat} {Q : Int → MM → Prop} {J : Nat → List (Nat × Value) → List Value → MM → Prop} (hin : jIn ad ksR.length)   (hg0 : jCN l D vwCl (tyR cy) cy ad ftR ksR (XtR ad) yX12_join (.code yX12_join cX12_join 13 (some .boolean) :: Om) (rm_gj_ dp) 3 (W_X12_join dp ad)) (hJ : jOk l D vwCl (tyR cy) cy ad ftR ksR (XtR ad) Om RX12 cX12_join 13 3 (rm_gj_ (dp + 1)) Q J)  : ∀ (x5 x6 x7 x8 x9 : Int) (M : MM), ri_ x5 → ri_ x6 → ri_ x7 → ri_ x8 → ri_ x9 → w_X12_join_b537  (gj_  dp) Q  x5 x6 x7 x8 x9 M → J 537 [(0, .ref (ad 0)), (5, .int (Ii x5)), (6, .int (Ii x6)), (7, .int (Ii x7)), (8, .int (Ii x8)), (9, .int (Ii x9))] [] M := by
  intro x5 x6 x7 x8 x9 M gx5 gx6 gx7 gx8 gx9 hF
  unfold w_X12_join_b537 at hF
  refine j_iload hJ dX12_join_537 4 rfl ?_
  refine j_if_ne hJ 550 gx8 dX12_join_539 (by decide) (fun z1 => ?_) (fun z1 => ?_)
  · have hF := hF.1 z1
    exact j_sub hJ [0, 1, 3, 5] rfl (k_X12_join_b550 hin  hg0 hJ  x5 x7 x9 _ gx5 gx7 gx9 hF)
  · have hF := hF.2 z1
    refine j_aload_n hJ dX12_join_542 rfl 0 rfl ?_
    refine j_gr (e := 96) hJ kR_0 fR_15_131 fl_X12_363 dX12_join_543 rfl ?_
    refine j_iload hJ dX12_join_546 2 rfl ?_
    refine j_iconst hJ dX12_join_548 ?_
    refine j_zast hJ gx6 (by decide) kR_96 hF.1 hF.2.1 dX12_join_549 (fun M2 eM2 => ?_)
    have hF := hF.2.2 M2 eM2
    exact j_sub hJ [0, 1, 3, 5] rfl (k_X12_join_b550 hin  hg0 hJ  x5 x7 x9 _ gx5 gx7 gx9 hF)
set_option maxHeartbeats 4000000 in
set_option maxRecDepth 100000 in
theorem k_X12_join_b531 {l : Launch} {D : va_G} {cy : Nat → ClassId} {ad : Nat → Nat} {dp : Nat} {Q : Int → MM → Prop} {J : Nat → List (Nat × Value) → List Value → MM → Prop} (hin : jIn ad ksR.length)   (hg0 : jCN l D vwCl (tyR cy) cy ad ftR ksR (XtR ad) yX12_join (.code yX12_join cX12_join 13 (some .boolean) :: Om) (rm_gj_ dp) 3 (W_X12_join dp ad)) (hJ : jOk l D vwCl (tyR cy) cy ad ftR ksR (XtR ad) Om RX12 cX12_join 13 3 (rm_gj_ (dp + 1)) Q J) {K282 : Int → Int → Int → Int → Int → Int → Int → Int → Int → Int → MM → Prop} (hK282 : ∀ (x1 x2 x3 x4 x5 x6 x7 x8 x9 x10 : Int) (M : MM), ri_ x1 → ri_ x2 → ri_ x3 → ri_ x4 → ri_ x5 → ri_ x6 → ri_ x7 → ri_ x8 → ri_ x9 → ri_ x10 → K282 x1 x2 x3 x4 x5 x6 x7 x8 x9 x10 M → J 282 [(0, .ref (ad 0)), (1, .int (Ii x1)), (2, .int (Ii x2)), (3, .int (Ii x3)), (4, .int (Ii x4)), (5, .int (Ii x5)), (6, .int (Ii x6)), (7, .int (Ii x7)), (8, .int (Ii x8)), (9, .int (Ii x9)), (10, .int (Ii x10))] [] M) : ∀ (x1 x2 x3 x4 x5 x6 x7 x8 x9 x10 : Int) (M : MM), ri_ x1 → ri_ x2 → ri_ x3 → ri_ x4 → ri_ x5 → ri_ x6 → ri_ x7 → ri_ x8 → ri_ x9 → ri_ x10 → w_X12_join_b531  (gj_  dp) Q K282 x1 x2 x3 x4 x5 x6 x7 x8 x9 x10 M → J 531 [(0, .ref (ad 0)), (1, .int (Ii x1)), (2, .int (Ii x2)), (3, .int (Ii x3)), (4, .int (Ii x4)), (5, .int (Ii x5)), (6, .int (Ii x6)), (7, .int (Ii x7)), (8, .int (Ii x8)), (9, .int (Ii x9)), (10, .int (Ii x10))] [] M := by
  intro x1 x2 x3 x4 x5 x6 x7 x8 x9 x10 M gx1 gx2 gx3 gx4 gx5 gx6 gx7 gx8 gx9 gx10 hF
  unfold w_X12_join_b531 at hF
  refine j_iinc (lv' := [(10, .int (Ii (x10 + 1))), (0, .ref (ad 0)), (1, .int (Ii x1)), (2, .int (Ii x2)), (3, .int (Ii x3)), (4, .int (Ii x4)), (5, .int (Ii x5)), (6, .int (Ii x6)), (7, .int (Ii x7)), (8, .int (Ii x8)), (9, .int (Ii x9))]) (k := 10) hJ dX12_join_531 rfl (by decide) rfl ?_
  have g1 := hF.1; have hF := hF.2
  refine j_goto hJ 282 dX12_join_534 (by decide) ?_
  exact j_sub hJ [1, 2, 3, 4, 5, 6, 7, 8, 9, 10, 0] rfl (hK282 x1 x2 x3 x4 x5 x6 x7 x8 x9 (x10 + 1) _ gx1 gx2 gx3 gx4 gx5 gx6 gx7 gx8 gx9 g1 hF)
set_option maxHeartbeats 4000000 in
set_option maxRecDepth 100000 in
theorem k_X12_join_b518 {l : Launch} {D : va_G} {cy : Nat → ClassId} {ad : Nat → Nat} {dp : Nat} {Q : Int → MM → Prop} {J : Nat → List (Nat × Value) → List Value → MM → Prop} (hin : jIn ad ksR.length)   (hg0 : jCN l D vwCl (tyR cy) cy ad ftR ksR (XtR ad) yX12_join (.code yX12_join cX12_join 13 (some .boolean) :: Om) (rm_gj_ dp) 3 (W_X12_join dp ad)) (hJ : jOk l D vwCl (tyR cy) cy ad ftR ksR (XtR ad) Om RX12 cX12_join 13 3 (rm_gj_ (dp + 1)) Q J) {K282 : Int → Int → Int → Int → Int → Int → Int → Int → Int → Int → MM → Prop} (hK282 : ∀ (x1 x2 x3 x4 x5 x6 x7 x8 x9 x10 : Int) (M : MM), ri_ x1 → ri_ x2 → ri_ x3 → ri_ x4 → ri_ x5 → ri_ x6 → ri_ x7 → ri_ x8 → ri_ x9 → ri_ x10 → K282 x1 x2 x3 x4 x5 x6 x7 x8 x9 x10 M → J 282 [(0, .ref (ad 0)), (1, .int (Ii x1)), (2, .int (Ii x2)), (3, .int (Ii x3)), (4, .int (Ii x4)), (5, .int (Ii x5)), (6, .int (Ii x6)), (7, .int (Ii x7)), (8, .int (Ii x8)), (9, .int (Ii x9)), (10, .int (Ii x10))] [] M) : ∀ (x1 x2 x3 x4 x5 x6 x7 x8 x9 x10 : Int) (M : MM), ri_ x1 → ri_ x2 → ri_ x3 → ri_ x4 → ri_ x5 → ri_ x6 → ri_ x7 → ri_ x8 → ri_ x9 → ri_ x10 → w_X12_join_b518  (gj_  dp) Q K282 x1 x2 x3 x4 x5 x6 x7 x8 x9 x10 M → J 518 [(0, .ref (ad 0)), (1, .int (Ii x1)), (2, .int (Ii x2)), (3, .int (Ii x3)), (4, .int (Ii x4)), (5, .int (Ii x5)), (6, .int (Ii x6)), (7, .int (Ii x7)), (8, .int (Ii x8)), (9, .int (Ii x9)), (10, .int (Ii x10))] [] M := by
  intro x1 x2 x3 x4 x5 x6 x7 x8 x9 x10 M gx1 gx2 gx3 gx4 gx5 gx6 gx7 gx8 gx9 gx10 hF
  unfold w_X12_join_b518 at hF
  refine j_iload hJ dX12_join_518 7 rfl ?_
  refine j_if_ne hJ 531 gx7 dX12_join_520 (by decide) (fun z1 => ?_) (fun z1 => ?_)
  · have hF := hF.1 z1
    exact j_sub hJ [0, 1, 2, 3, 4, 5, 6, 7, 8, 9, 10] rfl (k_X12_join_b531 hin  hg0 hJ hK282 x1 x2 x3 x4 x5 x6 x7 x8 x9 x10 _ gx1 gx2 gx3 gx4 gx5 gx6 gx7 gx8 gx9 gx10 hF)
  · have hF := hF.2 z1
    refine j_aload_n hJ dX12_join_523 rfl 0 rfl ?_
    refine j_gr (e := 96) hJ kR_0 fR_15_131 fl_X12_363 dX12_join_524 rfl ?_
    refine j_iload hJ dX12_join_527 5 rfl ?_
    refine j_iconst hJ dX12_join_529 ?_
    refine j_zast hJ gx5 (by decide) kR_96 hF.1 hF.2.1 dX12_join_530 (fun M2 eM2 => ?_)
    have hF := hF.2.2 M2 eM2
    exact j_sub hJ [0, 1, 2, 3, 4, 5, 6, 7, 8, 9, 10] rfl (k_X12_join_b531 hin  hg0 hJ hK282 x1 x2 x3 x4 x5 x6 x7 x8 x9 x10 _ gx1 gx2 gx3 gx4 gx5 gx6 gx7 gx8 gx9 gx10 hF)
set_option maxHeartbeats 4000000 in
set_option maxRecDepth 100000 in
theorem k_X12_join_b512 {l : Launch} {D : va_G} {cy : Nat → ClassId} {ad : Nat → Nat} {dp : Nat} {Q : Int → MM → Prop} {J : Nat → List (Nat × Value) → List Value → MM → Prop} (hin : jIn ad ksR.length)   (hg0 : jCN l D vwCl (tyR cy) cy ad ftR ksR (XtR ad) yX12_join (.code yX12_join cX12_join 13 (some .boolean) :: Om) (rm_gj_ dp) 3 (W_X12_join dp ad)) (hJ : jOk l D vwCl (tyR cy) cy ad ftR ksR (XtR ad) Om RX12 cX12_join 13 3 (rm_gj_ (dp + 1)) Q J) {K282 : Int → Int → Int → Int → Int → Int → Int → Int → Int → Int → MM → Prop} (hK282 : ∀ (x1 x2 x3 x4 x5 x6 x7 x8 x9 x10 : Int) (M : MM), ri_ x1 → ri_ x2 → ri_ x3 → ri_ x4 → ri_ x5 → ri_ x6 → ri_ x7 → ri_ x8 → ri_ x9 → ri_ x10 → K282 x1 x2 x3 x4 x5 x6 x7 x8 x9 x10 M → J 282 [(0, .ref (ad 0)), (1, .int (Ii x1)), (2, .int (Ii x2)), (3, .int (Ii x3)), (4, .int (Ii x4)), (5, .int (Ii x5)), (6, .int (Ii x6)), (7, .int (Ii x7)), (8, .int (Ii x8)), (9, .int (Ii x9)), (10, .int (Ii x10))] [] M) {K390 : Int → Int → Int → Int → Int → Int → Int → Int → Int → Int → Int → Int → MM → Prop} (hK390 : ∀ (x1 x2 x3 x4 x5 x6 x7 x8 x9 x10 x11 x12 : Int) (M : MM), ri_ x1 → ri_ x2 → ri_ x3 → ri_ x4 → ri_ x5 → ri_ x6 → ri_ x7 → ri_ x8 → ri_ x9 → ri_ x10 → ri_ x11 → ri_ x12 → K390 x1 x2 x3 x4 x5 x6 x7 x8 x9 x10 x11 x12 M → J 390 [(0, .ref (ad 0)), (1, .int (Ii x1)), (2, .int (Ii x2)), (3, .int (Ii x3)), (4, .int (Ii x4)), (5, .int (Ii x5)), (6, .int (Ii x6)), (7, .int (Ii x7)), (8, .int (Ii x8)), (9, .int (Ii x9)), (10, .int (Ii x10)), (11, .int (Ii x11)), (12, .int (Ii x12))] [] M) : ∀ (x1 x2 x3 x4 x5 x6 x7 x8 x9 x10 x11 x12 : Int) (M : MM), ri_ x1 → ri_ x2 → ri_ x3 → ri_ x4 → ri_ x5 → ri_ x6 → ri_ x7 → ri_ x8 → ri_ x9 → ri_ x10 → ri_ x11 → ri_ x12 → w_X12_join_b512  (gj_  dp) Q K282 K390 x1 x2 x3 x4 x5 x6 x7 x8 x9 x10 x11 x12 M → J 512 [(0, .ref (ad 0)), (1, .int (Ii x1)), (2, .int (Ii x2)), (3, .int (Ii x3)), (4, .int (Ii x4)), (5, .int (Ii x5)), (6, .int (Ii x6)), (7, .int (Ii x7)), (8, .int (Ii x8)), (9, .int (Ii x9)), (10, .int (Ii x10)), (11, .int (Ii x11)), (12, .int (Ii x12))] [] M := by
  intro x1 x2 x3 x4 x5 x6 x7 x8 x9 x10 x11 x12 M gx1 gx2 gx3 gx4 gx5 gx6 gx7 gx8 gx9 gx10 gx11 gx12 hF
  unfold w_X12_join_b512 at hF
  refine j_iinc (lv' := [(12, .int (Ii (x12 + 1))), (0, .ref (ad 0)), (1, .int (Ii x1)), (2, .int (Ii x2)), (3, .int (Ii x3)), (4, .int (Ii x4)), (5, .int (Ii x5)), (6, .int (Ii x6)), (7, .int (Ii x7)), (8, .int (Ii x8)), (9, .int (Ii x9)), (10, .int (Ii x10)), (11, .int (Ii x11))]) (k := 12) hJ dX12_join_512 rfl (by decide) rfl ?_
  have g1 := hF.1; have hF := hF.2
  refine j_goto hJ 390 dX12_join_515 (by decide) ?_
  exact j_sub hJ [1, 2, 3, 4, 5, 6, 7, 8, 9, 10, 11, 12, 0] rfl (hK390 x1 x2 x3 x4 x5 x6 x7 x8 x9 x10 x11 (x12 + 1) _ gx1 gx2 gx3 gx4 gx5 gx6 gx7 gx8 gx9 gx10 gx11 g1 hF)
set_option maxHeartbeats 4000000 in
set_option maxRecDepth 100000 in
theorem k_X12_join_b499 {l : Launch} {D : va_G} {cy : Nat → ClassId} {ad : Nat → Nat} {dp : Nat} {Q : Int → MM → Prop} {J : Nat → List (Nat × Value) → List Value → MM → Prop} (hin : jIn ad ksR.length)   (hg0 : jCN l D vwCl (tyR cy) cy ad ftR ksR (XtR ad) yX12_join (.code yX12_join cX12_join 13 (some .boolean) :: Om) (rm_gj_ dp) 3 (W_X12_join dp ad)) (hJ : jOk l D vwCl (tyR cy) cy ad ftR ksR (XtR ad) Om RX12 cX12_join 13 3 (rm_gj_ (dp + 1)) Q J) {K282 : Int → Int → Int → Int → Int → Int → Int → Int → Int → Int → MM → Prop} (hK282 : ∀ (x1 x2 x3 x4 x5 x6 x7 x8 x9 x10 : Int) (M : MM), ri_ x1 → ri_ x2 → ri_ x3 → ri_ x4 → ri_ x5 → ri_ x6 → ri_ x7 → ri_ x8 → ri_ x9 → ri_ x10 → K282 x1 x2 x3 x4 x5 x6 x7 x8 x9 x10 M → J 282 [(0, .ref (ad 0)), (1, .int (Ii x1)), (2, .int (Ii x2)), (3, .int (Ii x3)), (4, .int (Ii x4)), (5, .int (Ii x5)), (6, .int (Ii x6)), (7, .int (Ii x7)), (8, .int (Ii x8)), (9, .int (Ii x9)), (10, .int (Ii x10))] [] M) {K390 : Int → Int → Int → Int → Int → Int → Int → Int → Int → Int → Int → Int → MM → Prop} (hK390 : ∀ (x1 x2 x3 x4 x5 x6 x7 x8 x9 x10 x11 x12 : Int) (M : MM), ri_ x1 → ri_ x2 → ri_ x3 → ri_ x4 → ri_ x5 → ri_ x6 → ri_ x7 → ri_ x8 → ri_ x9 → ri_ x10 → ri_ x11 → ri_ x12 → K390 x1 x2 x3 x4 x5 x6 x7 x8 x9 x10 x11 x12 M → J 390 [(0, .ref (ad 0)), (1, .int (Ii x1)), (2, .int (Ii x2)), (3, .int (Ii x3)), (4, .int (Ii x4)), (5, .int (Ii x5)), (6, .int (Ii x6)), (7, .int (Ii x7)), (8, .int (Ii x8)), (9, .int (Ii x9)), (10, .int (Ii x10)), (11, .int (Ii x11)), (12, .int (Ii x12))] [] M) : ∀ (x1 x2 x3 x4 x5 x6 x7 x8 x9 x10 x11 x12 : Int) (M : MM), ri_ x1 → ri_ x2 → ri_ x3 → ri_ x4 → ri_ x5 → ri_ x6 → ri_ x7 → ri_ x8 → ri_ x9 → ri_ x10 → ri_ x11 → ri_ x12 → w_X12_join_b499  (gj_  dp) Q K282 K390 x1 x2 x3 x4 x5 x6 x7 x8 x9 x10 x11 x12 M → J 499 [(0, .ref (ad 0)), (1, .int (Ii x1)), (2, .int (Ii x2)), (3, .int (Ii x3)), (4, .int (Ii x4)), (5, .int (Ii x5)), (6, .int (Ii x6)), (7, .int (Ii x7)), (8, .int (Ii x8)), (9, .int (Ii x9)), (10, .int (Ii x10)), (11, .int (Ii x11)), (12, .int (Ii x12))] [] M := by
  intro x1 x2 x3 x4 x5 x6 x7 x8 x9 x10 x11 x12 M gx1 gx2 gx3 gx4 gx5 gx6 gx7 gx8 gx9 gx10 gx11 gx12 hF
  unfold w_X12_join_b499 at hF
  refine j_iload hJ dX12_join_499 11 rfl ?_
  refine j_if_ne hJ 512 gx11 dX12_join_501 (by decide) (fun z1 => ?_) (fun z1 => ?_)
  · have hF := hF.1 z1
    exact j_sub hJ [0, 1, 2, 3, 4, 5, 6, 7, 8, 9, 10, 11, 12] rfl (k_X12_join_b512 hin  hg0 hJ hK282 hK390 x1 x2 x3 x4 x5 x6 x7 x8 x9 x10 x11 x12 _ gx1 gx2 gx3 gx4 gx5 gx6 gx7 gx8 gx9 gx10 gx11 gx12 hF)
  · have hF := hF.2 z1
    refine j_aload_n hJ dX12_join_504 rfl 0 rfl ?_
    refine j_gr (e := 96) hJ kR_0 fR_15_131 fl_X12_363 dX12_join_505 rfl ?_
    refine j_iload hJ dX12_join_508 6 rfl ?_
    refine j_iconst hJ dX12_join_510 ?_
    refine j_zast hJ gx6 (by decide) kR_96 hF.1 hF.2.1 dX12_join_511 (fun M2 eM2 => ?_)
    have hF := hF.2.2 M2 eM2
    exact j_sub hJ [0, 1, 2, 3, 4, 5, 6, 7, 8, 9, 10, 11, 12] rfl (k_X12_join_b512 hin  hg0 hJ hK282 hK390 x1 x2 x3 x4 x5 x6 x7 x8 x9 x10 x11 x12 _ gx1 gx2 gx3 gx4 gx5 gx6 gx7 gx8 gx9 gx10 gx11 gx12 hF)
set_option maxHeartbeats 4000000 in
set_option maxRecDepth 100000 in
theorem k_X12_join_b497 {l : Launch} {D : va_G} {cy : Nat → ClassId} {ad : Nat → Nat} {dp : Nat} {Q : Int → MM → Prop} {J : Nat → List (Nat × Value) → List Value → MM → Prop} (hin : jIn ad ksR.length)   (hg0 : jCN l D vwCl (tyR cy) cy ad ftR ksR (XtR ad) yX12_join (.code yX12_join cX12_join 13 (some .boolean) :: Om) (rm_gj_ dp) 3 (W_X12_join dp ad)) (hJ : jOk l D vwCl (tyR cy) cy ad ftR ksR (XtR ad) Om RX12 cX12_join 13 3 (rm_gj_ (dp + 1)) Q J) {K282 : Int → Int → Int → Int → Int → Int → Int → Int → Int → Int → MM → Prop} (hK282 : ∀ (x1 x2 x3 x4 x5 x6 x7 x8 x9 x10 : Int) (M : MM), ri_ x1 → ri_ x2 → ri_ x3 → ri_ x4 → ri_ x5 → ri_ x6 → ri_ x7 → ri_ x8 → ri_ x9 → ri_ x10 → K282 x1 x2 x3 x4 x5 x6 x7 x8 x9 x10 M → J 282 [(0, .ref (ad 0)), (1, .int (Ii x1)), (2, .int (Ii x2)), (3, .int (Ii x3)), (4, .int (Ii x4)), (5, .int (Ii x5)), (6, .int (Ii x6)), (7, .int (Ii x7)), (8, .int (Ii x8)), (9, .int (Ii x9)), (10, .int (Ii x10))] [] M) {K390 : Int → Int → Int → Int → Int → Int → Int → Int → Int → Int → Int → Int → MM → Prop} (hK390 : ∀ (x1 x2 x3 x4 x5 x6 x7 x8 x9 x10 x11 x12 : Int) (M : MM), ri_ x1 → ri_ x2 → ri_ x3 → ri_ x4 → ri_ x5 → ri_ x6 → ri_ x7 → ri_ x8 → ri_ x9 → ri_ x10 → ri_ x11 → ri_ x12 → K390 x1 x2 x3 x4 x5 x6 x7 x8 x9 x10 x11 x12 M → J 390 [(0, .ref (ad 0)), (1, .int (Ii x1)), (2, .int (Ii x2)), (3, .int (Ii x3)), (4, .int (Ii x4)), (5, .int (Ii x5)), (6, .int (Ii x6)), (7, .int (Ii x7)), (8, .int (Ii x8)), (9, .int (Ii x9)), (10, .int (Ii x10)), (11, .int (Ii x11)), (12, .int (Ii x12))] [] M) : ∀ (x1 x2 x3 x4 x5 x6 x7 x8 x10 x11 x12 s0 : Int) (M : MM), ri_ x1 → ri_ x2 → ri_ x3 → ri_ x4 → ri_ x5 → ri_ x6 → ri_ x7 → ri_ x8 → ri_ x10 → ri_ x11 → ri_ x12 → ri_ s0 → w_X12_join_b497  (gj_  dp) Q K282 K390 x1 x2 x3 x4 x5 x6 x7 x8 x10 x11 x12 s0 M → J 497 [(0, .ref (ad 0)), (1, .int (Ii x1)), (2, .int (Ii x2)), (3, .int (Ii x3)), (4, .int (Ii x4)), (5, .int (Ii x5)), (6, .int (Ii x6)), (7, .int (Ii x7)), (8, .int (Ii x8)), (10, .int (Ii x10)), (11, .int (Ii x11)), (12, .int (Ii x12))] [.int (Ii s0)] M := by
  intro x1 x2 x3 x4 x5 x6 x7 x8 x10 x11 x12 s0 M gx1 gx2 gx3 gx4 gx5 gx6 gx7 gx8 gx10 gx11 gx12 gs0 hF
  unfold w_X12_join_b497 at hF
  refine j_istore (lv' := [(9, .int (Ii s0)), (0, .ref (ad 0)), (1, .int (Ii x1)), (2, .int (Ii x2)), (3, .int (Ii x3)), (4, .int (Ii x4)), (5, .int (Ii x5)), (6, .int (Ii x6)), (7, .int (Ii x7)), (8, .int (Ii x8)), (10, .int (Ii x10)), (11, .int (Ii x11)), (12, .int (Ii x12))]) hJ dX12_join_497 (by decide) rfl ?_
  exact j_sub hJ [1, 2, 3, 4, 5, 6, 7, 8, 9, 0, 10, 11, 12] rfl (k_X12_join_b499 hin  hg0 hJ hK282 hK390 x1 x2 x3 x4 x5 x6 x7 x8 s0 x10 x11 x12 _ gx1 gx2 gx3 gx4 gx5 gx6 gx7 gx8 gs0 gx10 gx11 gx12 hF)
set_option maxHeartbeats 4000000 in
set_option maxRecDepth 100000 in
theorem k_X12_join_b492 {l : Launch} {D : va_G} {cy : Nat → ClassId} {ad : Nat → Nat} {dp : Nat} {Q : Int → MM → Prop} {J : Nat → List (Nat × Value) → List Value → MM → Prop} (hin : jIn ad ksR.length)   (hg0 : jCN l D vwCl (tyR cy) cy ad ftR ksR (XtR ad) yX12_join (.code yX12_join cX12_join 13 (some .boolean) :: Om) (rm_gj_ dp) 3 (W_X12_join dp ad)) (hJ : jOk l D vwCl (tyR cy) cy ad ftR ksR (XtR ad) Om RX12 cX12_join 13 3 (rm_gj_ (dp + 1)) Q J) {K282 : Int → Int → Int → Int → Int → Int → Int → Int → Int → Int → MM → Prop} (hK282 : ∀ (x1 x2 x3 x4 x5 x6 x7 x8 x9 x10 : Int) (M : MM), ri_ x1 → ri_ x2 → ri_ x3 → ri_ x4 → ri_ x5 → ri_ x6 → ri_ x7 → ri_ x8 → ri_ x9 → ri_ x10 → K282 x1 x2 x3 x4 x5 x6 x7 x8 x9 x10 M → J 282 [(0, .ref (ad 0)), (1, .int (Ii x1)), (2, .int (Ii x2)), (3, .int (Ii x3)), (4, .int (Ii x4)), (5, .int (Ii x5)), (6, .int (Ii x6)), (7, .int (Ii x7)), (8, .int (Ii x8)), (9, .int (Ii x9)), (10, .int (Ii x10))] [] M) {K390 : Int → Int → Int → Int → Int → Int → Int → Int → Int → Int → Int → Int → MM → Prop} (hK390 : ∀ (x1 x2 x3 x4 x5 x6 x7 x8 x9 x10 x11 x12 : Int) (M : MM), ri_ x1 → ri_ x2 → ri_ x3 → ri_ x4 → ri_ x5 → ri_ x6 → ri_ x7 → ri_ x8 → ri_ x9 → ri_ x10 → ri_ x11 → ri_ x12 → K390 x1 x2 x3 x4 x5 x6 x7 x8 x9 x10 x11 x12 M → J 390 [(0, .ref (ad 0)), (1, .int (Ii x1)), (2, .int (Ii x2)), (3, .int (Ii x3)), (4, .int (Ii x4)), (5, .int (Ii x5)), (6, .int (Ii x6)), (7, .int (Ii x7)), (8, .int (Ii x8)), (9, .int (Ii x9)), (10, .int (Ii x10)), (11, .int (Ii x11)), (12, .int (Ii x12))] [] M) : ∀ (x1 x2 x3 x4 x5 x6 x7 x8 x10 x11 x12 : Int) (M : MM), ri_ x1 → ri_ x2 → ri_ x3 → ri_ x4 → ri_ x5 → ri_ x6 → ri_ x7 → ri_ x8 → ri_ x10 → ri_ x11 → ri_ x12 → w_X12_join_b492  (gj_  dp) Q K282 K390 x1 x2 x3 x4 x5 x6 x7 x8 x10 x11 x12 M → J 492 [(0, .ref (ad 0)), (1, .int (Ii x1)), (2, .int (Ii x2)), (3, .int (Ii x3)), (4, .int (Ii x4)), (5, .int (Ii x5)), (6, .int (Ii x6)), (7, .int (Ii x7)), (8, .int (Ii x8)), (10, .int (Ii x10)), (11, .int (Ii x11)), (12, .int (Ii x12))] [] M := by
  intro x1 x2 x3 x4 x5 x6 x7 x8 x10 x11 x12 M gx1 gx2 gx3 gx4 gx5 gx6 gx7 gx8 gx10 gx11 gx12 hF
  unfold w_X12_join_b492 at hF
  refine j_iconst hJ dX12_join_492 ?_
  refine j_goto hJ 497 dX12_join_493 (by decide) ?_
  exact j_sub hJ [0, 1, 2, 3, 4, 5, 6, 7, 8, 9, 10, 11] rfl (k_X12_join_b497 hin  hg0 hJ hK282 hK390 x1 x2 x3 x4 x5 x6 x7 x8 x10 x11 x12 1 _ gx1 gx2 gx3 gx4 gx5 gx6 gx7 gx8 gx10 gx11 gx12 rk_1 hF)
set_option maxHeartbeats 4000000 in
set_option maxRecDepth 100000 in
theorem k_X12_join_b463 {l : Launch} {D : va_G} {cy : Nat → ClassId} {ad : Nat → Nat} {dp : Nat} {Q : Int → MM → Prop} {J : Nat → List (Nat × Value) → List Value → MM → Prop} (hin : jIn ad ksR.length)   (hg0 : jCN l D vwCl (tyR cy) cy ad ftR ksR (XtR ad) yX12_join (.code yX12_join cX12_join 13 (some .boolean) :: Om) (rm_gj_ dp) 3 (W_X12_join dp ad)) (hJ : jOk l D vwCl (tyR cy) cy ad ftR ksR (XtR ad) Om RX12 cX12_join 13 3 (rm_gj_ (dp + 1)) Q J) {K282 : Int → Int → Int → Int → Int → Int → Int → Int → Int → Int → MM → Prop} (hK282 : ∀ (x1 x2 x3 x4 x5 x6 x7 x8 x9 x10 : Int) (M : MM), ri_ x1 → ri_ x2 → ri_ x3 → ri_ x4 → ri_ x5 → ri_ x6 → ri_ x7 → ri_ x8 → ri_ x9 → ri_ x10 → K282 x1 x2 x3 x4 x5 x6 x7 x8 x9 x10 M → J 282 [(0, .ref (ad 0)), (1, .int (Ii x1)), (2, .int (Ii x2)), (3, .int (Ii x3)), (4, .int (Ii x4)), (5, .int (Ii x5)), (6, .int (Ii x6)), (7, .int (Ii x7)), (8, .int (Ii x8)), (9, .int (Ii x9)), (10, .int (Ii x10))] [] M) {K390 : Int → Int → Int → Int → Int → Int → Int → Int → Int → Int → Int → Int → MM → Prop} (hK390 : ∀ (x1 x2 x3 x4 x5 x6 x7 x8 x9 x10 x11 x12 : Int) (M : MM), ri_ x1 → ri_ x2 → ri_ x3 → ri_ x4 → ri_ x5 → ri_ x6 → ri_ x7 → ri_ x8 → ri_ x9 → ri_ x10 → ri_ x11 → ri_ x12 → K390 x1 x2 x3 x4 x5 x6 x7 x8 x9 x10 x11 x12 M → J 390 [(0, .ref (ad 0)), (1, .int (Ii x1)), (2, .int (Ii x2)), (3, .int (Ii x3)), (4, .int (Ii x4)), (5, .int (Ii x5)), (6, .int (Ii x6)), (7, .int (Ii x7)), (8, .int (Ii x8)), (9, .int (Ii x9)), (10, .int (Ii x10)), (11, .int (Ii x11)), (12, .int (Ii x12))] [] M) : ∀ (x1 x2 x3 x4 x5 x6 x7 x8 x9 x10 x11 x12 : Int) (M : MM), ri_ x1 → ri_ x2 → ri_ x3 → ri_ x4 → ri_ x5 → ri_ x6 → ri_ x7 → ri_ x8 → ri_ x9 → ri_ x10 → ri_ x11 → ri_ x12 → w_X12_join_b463  (gj_  dp) Q K282 K390 x1 x2 x3 x4 x5 x6 x7 x8 x9 x10 x11 x12 M → J 463 [(0, .ref (ad 0)), (1, .int (Ii x1)), (2, .int (Ii x2)), (3, .int (Ii x3)), (4, .int (Ii x4)), (5, .int (Ii x5)), (6, .int (Ii x6)), (7, .int (Ii x7)), (8, .int (Ii x8)), (9, .int (Ii x9)), (10, .int (Ii x10)), (11, .int (Ii x11)), (12, .int (Ii x12))] [] M := by
  intro x1 x2 x3 x4 x5 x6 x7 x8 x9 x10 x11 x12 M gx1 gx2 gx3 gx4 gx5 gx6 gx7 gx8 gx9 gx10 gx11 gx12 hF
  unfold w_X12_join_b463 at hF
  refine j_aload_n hJ dX12_join_463 rfl 0 rfl ?_
  refine j_iload hJ dX12_join_464 4 rfl ?_
  refine j_iload hJ dX12_join_466 10 rfl ?_
  refine j_iload hJ dX12_join_468 12 rfl ?_
  refine j_callVz hJ (c_X12_holds (l := l) (D := D) (cy := cy) (ad := ad) hin) rfl om_1516 ⟨rfl, rfl, by show _ ≤ _; simp only [rm_gj_]; omega, by show _ ≤ _; simp only [rm_gj_]; omega⟩ [.int (Ii x4), .int (Ii x10), .int (Ii x12)] mv_X12_936 hd_X12_holdsv kR_0 rfl rfl rfl (Nat.le_of_ble_eq_true rfl) dX12_join_470 ⟨x4, x10, x12, rfl, gx4, gx10, gx12, hF⟩ (fun r1 M2 gr1 qM2 => ?_)
  have hF := qM2 gr1
  refine j_if_eq hJ 499 (jz_ri gr1) dX12_join_473 (by decide) (fun z3 => ?_) (fun z3 => ?_)
  · have hF := hF.1 z3
    exact j_sub hJ [0, 1, 2, 3, 4, 5, 6, 7, 8, 9, 10, 11, 12] rfl (k_X12_join_b499 hin  hg0 hJ hK282 hK390 x1 x2 x3 x4 x5 x6 x7 x8 x9 x10 x11 x12 _ gx1 gx2 gx3 gx4 gx5 gx6 gx7 gx8 gx9 gx10 gx11 gx12 hF)
  · have hF := hF.2 z3
    refine j_aload_n hJ dX12_join_476 rfl 0 rfl ?_
    refine j_iload_n hJ dX12_join_477 rfl 1 rfl ?_
    refine j_iload_n hJ dX12_join_478 rfl 2 rfl ?_
    refine j_iconst hJ dX12_join_479 ?_
    refine j_iadd hJ dX12_join_480 ?_
    have g4 := hF.1; have hF := hF.2
    refine j_callVz hJ hg0 rfl om_1520 ⟨rfl, rfl, by show _ ≤ _; simp only [rm_gj_]; omega, by show _ ≤ _; simp only [rm_gj_]; omega⟩ [.int (Ii x1), .int (Ii (x2 + 1))] mv_X12_939 hd_X12_joinv kR_0 rfl rfl rfl (Nat.le_of_ble_eq_true rfl) dX12_join_481 ⟨x1, (x2 + 1), rfl, gx1, g4, hF⟩ (fun r5 M6 gr5 qM6 => ?_)
    have hF := qM6 gr5
    refine j_if_ne hJ 492 (jz_ri gr5) dX12_join_484 (by decide) (fun z7 => ?_) (fun z7 => ?_)
    · have hF := hF.1 z7
      exact j_sub hJ [0, 1, 2, 3, 4, 5, 6, 7, 8, 10, 11, 12] rfl (k_X12_join_b492 hin  hg0 hJ hK282 hK390 x1 x2 x3 x4 x5 x6 x7 x8 x10 x11 x12 _ gx1 gx2 gx3 gx4 gx5 gx6 gx7 gx8 gx10 gx11 gx12 hF)
    · have hF := hF.2 z7
      refine j_iload hJ dX12_join_487 9 rfl ?_
      refine j_if_eq hJ 496 gx9 dX12_join_489 (by decide) (fun z8 => ?_) (fun z8 => ?_)
      · have hF := hF.1 z8
        refine j_iconst hJ dX12_join_496 ?_
        exact j_sub hJ [0, 1, 2, 3, 4, 5, 6, 7, 8, 10, 11, 12] rfl (k_X12_join_b497 hin  hg0 hJ hK282 hK390 x1 x2 x3 x4 x5 x6 x7 x8 x10 x11 x12 0 _ gx1 gx2 gx3 gx4 gx5 gx6 gx7 gx8 gx10 gx11 gx12 rk_0 hF)
      · have hF := hF.2 z8
        exact j_sub hJ [0, 1, 2, 3, 4, 5, 6, 7, 8, 10, 11, 12] rfl (k_X12_join_b492 hin  hg0 hJ hK282 hK390 x1 x2 x3 x4 x5 x6 x7 x8 x10 x11 x12 _ gx1 gx2 gx3 gx4 gx5 gx6 gx7 gx8 gx10 gx11 gx12 hF)
set_option maxHeartbeats 4000000 in
set_option maxRecDepth 100000 in
theorem k_X12_join_b440 {l : Launch} {D : va_G} {cy : Nat → ClassId} {ad : Nat → Nat} {dp : Nat} {Q : Int → MM → Prop} {J : Nat → List (Nat × Value) → List Value → MM → Prop} (hin : jIn ad ksR.length)   (hg0 : jCN l D vwCl (tyR cy) cy ad ftR ksR (XtR ad) yX12_join (.code yX12_join cX12_join 13 (some .boolean) :: Om) (rm_gj_ dp) 3 (W_X12_join dp ad)) (hJ : jOk l D vwCl (tyR cy) cy ad ftR ksR (XtR ad) Om RX12 cX12_join 13 3 (rm_gj_ (dp + 1)) Q J) {K282 : Int → Int → Int → Int → Int → Int → Int → Int → Int → Int → MM → Prop} (hK282 : ∀ (x1 x2 x3 x4 x5 x6 x7 x8 x9 x10 : Int) (M : MM), ri_ x1 → ri_ x2 → ri_ x3 → ri_ x4 → ri_ x5 → ri_ x6 → ri_ x7 → ri_ x8 → ri_ x9 → ri_ x10 → K282 x1 x2 x3 x4 x5 x6 x7 x8 x9 x10 M → J 282 [(0, .ref (ad 0)), (1, .int (Ii x1)), (2, .int (Ii x2)), (3, .int (Ii x3)), (4, .int (Ii x4)), (5, .int (Ii x5)), (6, .int (Ii x6)), (7, .int (Ii x7)), (8, .int (Ii x8)), (9, .int (Ii x9)), (10, .int (Ii x10))] [] M) {K390 : Int → Int → Int → Int → Int → Int → Int → Int → Int → Int → Int → Int → MM → Prop} (hK390 : ∀ (x1 x2 x3 x4 x5 x6 x7 x8 x9 x10 x11 x12 : Int) (M : MM), ri_ x1 → ri_ x2 → ri_ x3 → ri_ x4 → ri_ x5 → ri_ x6 → ri_ x7 → ri_ x8 → ri_ x9 → ri_ x10 → ri_ x11 → ri_ x12 → K390 x1 x2 x3 x4 x5 x6 x7 x8 x9 x10 x11 x12 M → J 390 [(0, .ref (ad 0)), (1, .int (Ii x1)), (2, .int (Ii x2)), (3, .int (Ii x3)), (4, .int (Ii x4)), (5, .int (Ii x5)), (6, .int (Ii x6)), (7, .int (Ii x7)), (8, .int (Ii x8)), (9, .int (Ii x9)), (10, .int (Ii x10)), (11, .int (Ii x11)), (12, .int (Ii x12))] [] M) : ∀ (x1 x2 x3 x4 x5 x6 x7 x8 x9 x10 x11 x12 : Int) (M : MM), ri_ x1 → ri_ x2 → ri_ x3 → ri_ x4 → ri_ x5 → ri_ x6 → ri_ x7 → ri_ x8 → ri_ x9 → ri_ x10 → ri_ x11 → ri_ x12 → w_X12_join_b440  (gj_  dp) Q K282 K390 x1 x2 x3 x4 x5 x6 x7 x8 x9 x10 x11 x12 M → J 440 [(0, .ref (ad 0)), (1, .int (Ii x1)), (2, .int (Ii x2)), (3, .int (Ii x3)), (4, .int (Ii x4)), (5, .int (Ii x5)), (6, .int (Ii x6)), (7, .int (Ii x7)), (8, .int (Ii x8)), (9, .int (Ii x9)), (10, .int (Ii x10)), (11, .int (Ii x11)), (12, .int (Ii x12))] [] M := by
  intro x1 x2 x3 x4 x5 x6 x7 x8 x9 x10 x11 x12 M gx1 gx2 gx3 gx4 gx5 gx6 gx7 gx8 gx9 gx10 gx11 gx12 hF
  unfold w_X12_join_b440 at hF
  refine j_iload hJ dX12_join_440 6 rfl ?_
  refine j_iconst hJ dX12_join_442 ?_
  refine j_icmp_eq hJ 463 gx6 rk_m1 dX12_join_443 (by decide) (fun z1 => ?_) (fun z1 => ?_)
  · have hF := hF.1 z1
    exact j_sub hJ [0, 1, 2, 3, 4, 5, 6, 7, 8, 9, 10, 11, 12] rfl (k_X12_join_b463 hin  hg0 hJ hK282 hK390 x1 x2 x3 x4 x5 x6 x7 x8 x9 x10 x11 x12 _ gx1 gx2 gx3 gx4 gx5 gx6 gx7 gx8 gx9 gx10 gx11 gx12 hF)
  · have hF := hF.2 z1
    refine j_aload_n hJ dX12_join_446 rfl 0 rfl ?_
    refine j_gr (e := 93) hJ kR_0 fR_15_128 fl_X12_354 dX12_join_447 rfl ?_
    refine j_iload hJ dX12_join_450 6 rfl ?_
    refine j_iload hJ dX12_join_452 12 rfl ?_
    refine j_iast hJ gx6 gx12 kR_93 hF.1 hF.2.1 dX12_join_454 (fun M2 eM2 => ?_)
    have hF := hF.2.2 M2 eM2
    refine j_aload_n hJ dX12_join_455 rfl 0 rfl ?_
    refine j_gr (e := 96) hJ kR_0 fR_15_131 fl_X12_363 dX12_join_456 rfl ?_
    refine j_iload hJ dX12_join_459 6 rfl ?_
    refine j_iconst hJ dX12_join_461 ?_
    refine j_zast hJ gx6 (by decide) kR_96 hF.1 hF.2.1 dX12_join_462 (fun M3 eM3 => ?_)
    have hF := hF.2.2 M3 eM3
    exact j_sub hJ [0, 1, 2, 3, 4, 5, 6, 7, 8, 9, 10, 11, 12] rfl (k_X12_join_b463 hin  hg0 hJ hK282 hK390 x1 x2 x3 x4 x5 x6 x7 x8 x9 x10 x11 x12 _ gx1 gx2 gx3 gx4 gx5 gx6 gx7 gx8 gx9 gx10 gx11 gx12 hF)
set_option maxHeartbeats 4000000 in
set_option maxRecDepth 100000 in
theorem k_X12_join_b428 {l : Launch} {D : va_G} {cy : Nat → ClassId} {ad : Nat → Nat} {dp : Nat} {Q : Int → MM → Prop} {J : Nat → List (Nat × Value) → List Value → MM → Prop} (hin : jIn ad ksR.length)   (hg0 : jCN l D vwCl (tyR cy) cy ad ftR ksR (XtR ad) yX12_join (.code yX12_join cX12_join 13 (some .boolean) :: Om) (rm_gj_ dp) 3 (W_X12_join dp ad)) (hJ : jOk l D vwCl (tyR cy) cy ad ftR ksR (XtR ad) Om RX12 cX12_join 13 3 (rm_gj_ (dp + 1)) Q J) {K282 : Int → Int → Int → Int → Int → Int → Int → Int → Int → Int → MM → Prop} (hK282 : ∀ (x1 x2 x3 x4 x5 x6 x7 x8 x9 x10 : Int) (M : MM), ri_ x1 → ri_ x2 → ri_ x3 → ri_ x4 → ri_ x5 → ri_ x6 → ri_ x7 → ri_ x8 → ri_ x9 → ri_ x10 → K282 x1 x2 x3 x4 x5 x6 x7 x8 x9 x10 M → J 282 [(0, .ref (ad 0)), (1, .int (Ii x1)), (2, .int (Ii x2)), (3, .int (Ii x3)), (4, .int (Ii x4)), (5, .int (Ii x5)), (6, .int (Ii x6)), (7, .int (Ii x7)), (8, .int (Ii x8)), (9, .int (Ii x9)), (10, .int (Ii x10))] [] M) {K390 : Int → Int → Int → Int → Int → Int → Int → Int → Int → Int → Int → Int → MM → Prop} (hK390 : ∀ (x1 x2 x3 x4 x5 x6 x7 x8 x9 x10 x11 x12 : Int) (M : MM), ri_ x1 → ri_ x2 → ri_ x3 → ri_ x4 → ri_ x5 → ri_ x6 → ri_ x7 → ri_ x8 → ri_ x9 → ri_ x10 → ri_ x11 → ri_ x12 → K390 x1 x2 x3 x4 x5 x6 x7 x8 x9 x10 x11 x12 M → J 390 [(0, .ref (ad 0)), (1, .int (Ii x1)), (2, .int (Ii x2)), (3, .int (Ii x3)), (4, .int (Ii x4)), (5, .int (Ii x5)), (6, .int (Ii x6)), (7, .int (Ii x7)), (8, .int (Ii x8)), (9, .int (Ii x9)), (10, .int (Ii x10)), (11, .int (Ii x11)), (12, .int (Ii x12))] [] M) : ∀ (x1 x2 x3 x4 x5 x6 x7 x8 x9 x10 x11 x12 s0 s1 : Int) (M : MM), ri_ x1 → ri_ x2 → ri_ x3 → ri_ x4 → ri_ x5 → ri_ x6 → ri_ x7 → ri_ x8 → ri_ x9 → ri_ x10 → ri_ x11 → ri_ x12 → ri_ s0 → ri_ s1 → w_X12_join_b428  (gj_  dp) Q K282 K390 x1 x2 x3 x4 x5 x6 x7 x8 x9 x10 x11 x12 s0 s1 M → J 428 [(0, .ref (ad 0)), (1, .int (Ii x1)), (2, .int (Ii x2)), (3, .int (Ii x3)), (4, .int (Ii x4)), (5, .int (Ii x5)), (6, .int (Ii x6)), (7, .int (Ii x7)), (8, .int (Ii x8)), (9, .int (Ii x9)), (10, .int (Ii x10)), (11, .int (Ii x11)), (12, .int (Ii x12))] [.int (Ii s0), .int (Ii s1)] M := by
  intro x1 x2 x3 x4 x5 x6 x7 x8 x9 x10 x11 x12 s0 s1 M gx1 gx2 gx3 gx4 gx5 gx6 gx7 gx8 gx9 gx10 gx11 gx12 gs0 gs1 hF
  unfold w_X12_join_b428 at hF
  refine j_icmp_ge hJ 518 gs1 gs0 dX12_join_428 (by decide) (fun z1 => ?_) (fun z1 => ?_)
  · have hF := hF.1 z1
    exact j_sub hJ [0, 1, 2, 3, 4, 5, 6, 7, 8, 9, 10] rfl (k_X12_join_b518 hin  hg0 hJ hK282 x1 x2 x3 x4 x5 x6 x7 x8 x9 x10 _ gx1 gx2 gx3 gx4 gx5 gx6 gx7 gx8 gx9 gx10 hF)
  · have hF := hF.2 z1
    refine j_iload hJ dX12_join_431 9 rfl ?_
    refine j_if_eq hJ 440 gx9 dX12_join_433 (by decide) (fun z2 => ?_) (fun z2 => ?_)
    · have hF := hF.1 z2
      exact j_sub hJ [0, 1, 2, 3, 4, 5, 6, 7, 8, 9, 10, 11, 12] rfl (k_X12_join_b440 hin  hg0 hJ hK282 hK390 x1 x2 x3 x4 x5 x6 x7 x8 x9 x10 x11 x12 _ gx1 gx2 gx3 gx4 gx5 gx6 gx7 gx8 gx9 gx10 gx11 gx12 hF)
    · have hF := hF.2 z2
      refine j_iload_n hJ dX12_join_436 rfl 3 rfl ?_
      refine j_if_ne hJ 518 gx3 dX12_join_437 (by decide) (fun z3 => ?_) (fun z3 => ?_)
      · have hF := hF.1 z3
        exact j_sub hJ [0, 1, 2, 3, 4, 5, 6, 7, 8, 9, 10] rfl (k_X12_join_b518 hin  hg0 hJ hK282 x1 x2 x3 x4 x5 x6 x7 x8 x9 x10 _ gx1 gx2 gx3 gx4 gx5 gx6 gx7 gx8 gx9 gx10 hF)
      · have hF := hF.2 z3
        exact j_sub hJ [0, 1, 2, 3, 4, 5, 6, 7, 8, 9, 10, 11, 12] rfl (k_X12_join_b440 hin  hg0 hJ hK282 hK390 x1 x2 x3 x4 x5 x6 x7 x8 x9 x10 x11 x12 _ gx1 gx2 gx3 gx4 gx5 gx6 gx7 gx8 gx9 gx10 gx11 gx12 hF)
set_option maxHeartbeats 4000000 in
set_option maxRecDepth 100000 in
theorem k_X12_join_b414 {l : Launch} {D : va_G} {cy : Nat → ClassId} {ad : Nat → Nat} {dp : Nat} {Q : Int → MM → Prop} {J : Nat → List (Nat × Value) → List Value → MM → Prop} (hin : jIn ad ksR.length)   (hg0 : jCN l D vwCl (tyR cy) cy ad ftR ksR (XtR ad) yX12_join (.code yX12_join cX12_join 13 (some .boolean) :: Om) (rm_gj_ dp) 3 (W_X12_join dp ad)) (hJ : jOk l D vwCl (tyR cy) cy ad ftR ksR (XtR ad) Om RX12 cX12_join 13 3 (rm_gj_ (dp + 1)) Q J) {K282 : Int → Int → Int → Int → Int → Int → Int → Int → Int → Int → MM → Prop} (hK282 : ∀ (x1 x2 x3 x4 x5 x6 x7 x8 x9 x10 : Int) (M : MM), ri_ x1 → ri_ x2 → ri_ x3 → ri_ x4 → ri_ x5 → ri_ x6 → ri_ x7 → ri_ x8 → ri_ x9 → ri_ x10 → K282 x1 x2 x3 x4 x5 x6 x7 x8 x9 x10 M → J 282 [(0, .ref (ad 0)), (1, .int (Ii x1)), (2, .int (Ii x2)), (3, .int (Ii x3)), (4, .int (Ii x4)), (5, .int (Ii x5)), (6, .int (Ii x6)), (7, .int (Ii x7)), (8, .int (Ii x8)), (9, .int (Ii x9)), (10, .int (Ii x10))] [] M) {K390 : Int → Int → Int → Int → Int → Int → Int → Int → Int → Int → Int → Int → MM → Prop} (hK390 : ∀ (x1 x2 x3 x4 x5 x6 x7 x8 x9 x10 x11 x12 : Int) (M : MM), ri_ x1 → ri_ x2 → ri_ x3 → ri_ x4 → ri_ x5 → ri_ x6 → ri_ x7 → ri_ x8 → ri_ x9 → ri_ x10 → ri_ x11 → ri_ x12 → K390 x1 x2 x3 x4 x5 x6 x7 x8 x9 x10 x11 x12 M → J 390 [(0, .ref (ad 0)), (1, .int (Ii x1)), (2, .int (Ii x2)), (3, .int (Ii x3)), (4, .int (Ii x4)), (5, .int (Ii x5)), (6, .int (Ii x6)), (7, .int (Ii x7)), (8, .int (Ii x8)), (9, .int (Ii x9)), (10, .int (Ii x10)), (11, .int (Ii x11)), (12, .int (Ii x12))] [] M) : ∀ (x1 x2 x3 x4 x5 x6 x7 x8 x9 x10 x11 x12 s0 s1 : Int) (M : MM), ri_ x1 → ri_ x2 → ri_ x3 → ri_ x4 → ri_ x5 → ri_ x6 → ri_ x7 → ri_ x8 → ri_ x9 → ri_ x10 → ri_ x11 → ri_ x12 → ri_ s0 → ri_ s1 → w_X12_join_b414  (gj_  dp) Q K282 K390 x1 x2 x3 x4 x5 x6 x7 x8 x9 x10 x11 x12 s0 s1 M → J 414 [(0, .ref (ad 0)), (1, .int (Ii x1)), (2, .int (Ii x2)), (3, .int (Ii x3)), (4, .int (Ii x4)), (5, .int (Ii x5)), (6, .int (Ii x6)), (7, .int (Ii x7)), (8, .int (Ii x8)), (9, .int (Ii x9)), (10, .int (Ii x10)), (11, .int (Ii x11)), (12, .int (Ii x12))] [.int (Ii s0), .int (Ii s1)] M := by
  intro x1 x2 x3 x4 x5 x6 x7 x8 x9 x10 x11 x12 s0 s1 M gx1 gx2 gx3 gx4 gx5 gx6 gx7 gx8 gx9 gx10 gx11 gx12 gs0 gs1 hF
  unfold w_X12_join_b414 at hF
  refine j_iconst hJ dX12_join_414 ?_
  refine j_iadd hJ dX12_join_415 ?_
  have g1 := hF.1; have hF := hF.2
  refine j_goto hJ 428 dX12_join_416 (by decide) ?_
  exact j_sub hJ [0, 1, 2, 3, 4, 5, 6, 7, 8, 9, 10, 11, 12] rfl (k_X12_join_b428 hin  hg0 hJ hK282 hK390 x1 x2 x3 x4 x5 x6 x7 x8 x9 x10 x11 x12 (s0 + 1) s1 _ gx1 gx2 gx3 gx4 gx5 gx6 gx7 gx8 gx9 gx10 gx11 gx12 g1 gs1 hF)
set_option maxHeartbeats 4000000 in
set_option maxRecDepth 100000 in
theorem k_X12_join_b390 {l : Launch} {D : va_G} {cy : Nat → ClassId} {ad : Nat → Nat} {dp : Nat} {Q : Int → MM → Prop} {J : Nat → List (Nat × Value) → List Value → MM → Prop} (hin : jIn ad ksR.length)   (hg0 : jCN l D vwCl (tyR cy) cy ad ftR ksR (XtR ad) yX12_join (.code yX12_join cX12_join 13 (some .boolean) :: Om) (rm_gj_ dp) 3 (W_X12_join dp ad)) (hJ : jOk l D vwCl (tyR cy) cy ad ftR ksR (XtR ad) Om RX12 cX12_join 13 3 (rm_gj_ (dp + 1)) Q J) {K282 : Int → Int → Int → Int → Int → Int → Int → Int → Int → Int → MM → Prop} (hK282 : ∀ (x1 x2 x3 x4 x5 x6 x7 x8 x9 x10 : Int) (M : MM), ri_ x1 → ri_ x2 → ri_ x3 → ri_ x4 → ri_ x5 → ri_ x6 → ri_ x7 → ri_ x8 → ri_ x9 → ri_ x10 → K282 x1 x2 x3 x4 x5 x6 x7 x8 x9 x10 M → J 282 [(0, .ref (ad 0)), (1, .int (Ii x1)), (2, .int (Ii x2)), (3, .int (Ii x3)), (4, .int (Ii x4)), (5, .int (Ii x5)), (6, .int (Ii x6)), (7, .int (Ii x7)), (8, .int (Ii x8)), (9, .int (Ii x9)), (10, .int (Ii x10))] [] M) : ∀ (x1 x2 x3 x4 x5 x6 x7 x8 x9 x10 x11 x12 : Int) (M : MM), ri_ x1 → ri_ x2 → ri_ x3 → ri_ x4 → ri_ x5 → ri_ x6 → ri_ x7 → ri_ x8 → ri_ x9 → ri_ x10 → ri_ x11 → ri_ x12 → w_X12_join_b390  (gj_  dp) Q K282 x1 x2 x3 x4 x5 x6 x7 x8 x9 x10 x11 x12 M → J 390 [(0, .ref (ad 0)), (1, .int (Ii x1)), (2, .int (Ii x2)), (3, .int (Ii x3)), (4, .int (Ii x4)), (5, .int (Ii x5)), (6, .int (Ii x6)), (7, .int (Ii x7)), (8, .int (Ii x8)), (9, .int (Ii x9)), (10, .int (Ii x10)), (11, .int (Ii x11)), (12, .int (Ii x12))] [] M := by
  have H9 : ∀ (n : Nat) (x1 x2 x3 x4 x5 x6 x7 x8 x9 x10 x11 x12 : Int) (M : MM), ri_ x1 → ri_ x2 → ri_ x3 → ri_ x4 → ri_ x5 → ri_ x6 → ri_ x7 → ri_ x8 → ri_ x9 → ri_ x10 → ri_ x11 → ri_ x12 → jit (fun _ _ _ _ _ _ _ _ _ _ _ _ _ => False) (wb_X12_join_b390  (gj_  dp) Q K282) n x1 x2 x3 x4 x5 x6 x7 x8 x9 x10 x11 x12 M → J 390 [(0, .ref (ad 0)), (1, .int (Ii x1)), (2, .int (Ii x2)), (3, .int (Ii x3)), (4, .int (Ii x4)), (5, .int (Ii x5)), (6, .int (Ii x6)), (7, .int (Ii x7)), (8, .int (Ii x8)), (9, .int (Ii x9)), (10, .int (Ii x10)), (11, .int (Ii x11)), (12, .int (Ii x12))] [] M := by
    intro n
    induction n with
    | zero => intro x1 x2 x3 x4 x5 x6 x7 x8 x9 x10 x11 x12 M gx1 gx2 gx3 gx4 gx5 gx6 gx7 gx8 gx9 gx10 gx11 gx12 hF; exact False.elim hF
    | succ n ih =>
    intro x1 x2 x3 x4 x5 x6 x7 x8 x9 x10 x11 x12 M gx1 gx2 gx3 gx4 gx5 gx6 gx7 gx8 gx9 gx10 gx11 gx12 hF
    have hF : wb_X12_join_b390  (gj_  dp) Q K282 (jit (fun _ _ _ _ _ _ _ _ _ _ _ _ _ => False) (wb_X12_join_b390  (gj_  dp) Q K282) n) x1 x2 x3 x4 x5 x6 x7 x8 x9 x10 x11 x12 M := hF
    unfold wb_X12_join_b390 at hF
    refine j_iload hJ dX12_join_390 12 rfl ?_
    refine j_iload hJ dX12_join_392 11 rfl ?_
    refine j_if_eq hJ 419 gx11 dX12_join_394 (by decide) (fun z1 => ?_) (fun z1 => ?_)
    · have hF := hF.1 z1
      refine j_aload_n hJ dX12_join_419 rfl 0 rfl ?_
      refine j_gr (e := 38) hJ kR_0 fR_15_48 fl_X12_183 dX12_join_420 rfl ?_
      refine j_aload_n hJ dX12_join_423 rfl 0 rfl ?_
      refine j_gi hJ kR_0 fR_15_97 rfl fl_X12_826 dX12_join_424 (fun v2 ev2 gv2 => ?_)
      have hF := hF v2 ev2 gv2
      refine j_iald hJ gv2 kR_38 hF.1 hF.2.1 dX12_join_427 (fun v3 ev3 gv3 => ?_)
      have hF := hF.2.2 v3 ev3 gv3
      exact j_sub hJ [0, 1, 2, 3, 4, 5, 6, 7, 8, 9, 10, 11, 12] rfl (k_X12_join_b428 hin  hg0 hJ hK282 ih x1 x2 x3 x4 x5 x6 x7 x8 x9 x10 x11 x12 v3 x12 _ gx1 gx2 gx3 gx4 gx5 gx6 gx7 gx8 gx9 gx10 gx11 gx12 gv3 gx12 hF)
    · have hF := hF.2 z1
      refine j_iload hJ dX12_join_397 6 rfl ?_
      refine j_iconst hJ dX12_join_399 ?_
      refine j_icmp_ne hJ 407 gx6 rk_m1 dX12_join_400 (by decide) (fun z4 => ?_) (fun z4 => ?_)
      · have hF := hF.1 z4
        refine j_aload_n hJ dX12_join_407 rfl 0 rfl ?_
        refine j_gr (e := 93) hJ kR_0 fR_15_128 fl_X12_354 dX12_join_408 rfl ?_
        refine j_iload hJ dX12_join_411 6 rfl ?_
        refine j_iald hJ gx6 kR_93 hF.1 hF.2.1 dX12_join_413 (fun v5 ev5 gv5 => ?_)
        have hF := hF.2.2 v5 ev5 gv5
        exact j_sub hJ [0, 1, 2, 3, 4, 5, 6, 7, 8, 9, 10, 11, 12] rfl (k_X12_join_b414 hin  hg0 hJ hK282 ih x1 x2 x3 x4 x5 x6 x7 x8 x9 x10 x11 x12 v5 x12 _ gx1 gx2 gx3 gx4 gx5 gx6 gx7 gx8 gx9 gx10 gx11 gx12 gv5 gx12 hF)
      · have hF := hF.2 z4
        refine j_iconst hJ dX12_join_403 ?_
        refine j_goto hJ 414 dX12_join_404 (by decide) ?_
        exact j_sub hJ [0, 1, 2, 3, 4, 5, 6, 7, 8, 9, 10, 11, 12] rfl (k_X12_join_b414 hin  hg0 hJ hK282 ih x1 x2 x3 x4 x5 x6 x7 x8 x9 x10 x11 x12 0 x12 _ gx1 gx2 gx3 gx4 gx5 gx6 gx7 gx8 gx9 gx10 gx11 gx12 rk_0 gx12 hF)
  intro x1 x2 x3 x4 x5 x6 x7 x8 x9 x10 x11 x12 M gx1 gx2 gx3 gx4 gx5 gx6 gx7 gx8 gx9 gx10 gx11 gx12 hF
  obtain ⟨n, hF⟩ := hF
  exact H9 n x1 x2 x3 x4 x5 x6 x7 x8 x9 x10 x11 x12 M gx1 gx2 gx3 gx4 gx5 gx6 gx7 gx8 gx9 gx10 gx11 gx12 hF
set_option maxHeartbeats 4000000 in
set_option maxRecDepth 100000 in
theorem k_X12_join_b388 {l : Launch} {D : va_G} {cy : Nat → ClassId} {ad : Nat → Nat} {dp : Nat} {Q : Int → MM → Prop} {J : Nat → List (Nat × Value) → List Value → MM → Prop} (hin : jIn ad ksR.length)   (hg0 : jCN l D vwCl (tyR cy) cy ad ftR ksR (XtR ad) yX12_join (.code yX12_join cX12_join 13 (some .boolean) :: Om) (rm_gj_ dp) 3 (W_X12_join dp ad)) (hJ : jOk l D vwCl (tyR cy) cy ad ftR ksR (XtR ad) Om RX12 cX12_join 13 3 (rm_gj_ (dp + 1)) Q J) {K282 : Int → Int → Int → Int → Int → Int → Int → Int → Int → Int → MM → Prop} (hK282 : ∀ (x1 x2 x3 x4 x5 x6 x7 x8 x9 x10 : Int) (M : MM), ri_ x1 → ri_ x2 → ri_ x3 → ri_ x4 → ri_ x5 → ri_ x6 → ri_ x7 → ri_ x8 → ri_ x9 → ri_ x10 → K282 x1 x2 x3 x4 x5 x6 x7 x8 x9 x10 M → J 282 [(0, .ref (ad 0)), (1, .int (Ii x1)), (2, .int (Ii x2)), (3, .int (Ii x3)), (4, .int (Ii x4)), (5, .int (Ii x5)), (6, .int (Ii x6)), (7, .int (Ii x7)), (8, .int (Ii x8)), (9, .int (Ii x9)), (10, .int (Ii x10))] [] M) : ∀ (x1 x2 x3 x4 x5 x6 x7 x8 x9 x10 x11 s0 : Int) (M : MM), ri_ x1 → ri_ x2 → ri_ x3 → ri_ x4 → ri_ x5 → ri_ x6 → ri_ x7 → ri_ x8 → ri_ x9 → ri_ x10 → ri_ x11 → ri_ s0 → w_X12_join_b388  (gj_  dp) Q K282 x1 x2 x3 x4 x5 x6 x7 x8 x9 x10 x11 s0 M → J 388 [(0, .ref (ad 0)), (1, .int (Ii x1)), (2, .int (Ii x2)), (3, .int (Ii x3)), (4, .int (Ii x4)), (5, .int (Ii x5)), (6, .int (Ii x6)), (7, .int (Ii x7)), (8, .int (Ii x8)), (9, .int (Ii x9)), (10, .int (Ii x10)), (11, .int (Ii x11))] [.int (Ii s0)] M := by
  intro x1 x2 x3 x4 x5 x6 x7 x8 x9 x10 x11 s0 M gx1 gx2 gx3 gx4 gx5 gx6 gx7 gx8 gx9 gx10 gx11 gs0 hF
  unfold w_X12_join_b388 at hF
  refine j_istore (lv' := [(12, .int (Ii s0)), (0, .ref (ad 0)), (1, .int (Ii x1)), (2, .int (Ii x2)), (3, .int (Ii x3)), (4, .int (Ii x4)), (5, .int (Ii x5)), (6, .int (Ii x6)), (7, .int (Ii x7)), (8, .int (Ii x8)), (9, .int (Ii x9)), (10, .int (Ii x10)), (11, .int (Ii x11))]) hJ dX12_join_388 (by decide) rfl ?_
  exact j_sub hJ [1, 2, 3, 4, 5, 6, 7, 8, 9, 10, 11, 12, 0] rfl (k_X12_join_b390 hin  hg0 hJ hK282 x1 x2 x3 x4 x5 x6 x7 x8 x9 x10 x11 s0 _ gx1 gx2 gx3 gx4 gx5 gx6 gx7 gx8 gx9 gx10 gx11 gs0 hF)
set_option maxHeartbeats 4000000 in
set_option maxRecDepth 100000 in
theorem k_X12_join_b360 {l : Launch} {D : va_G} {cy : Nat → ClassId} {ad : Nat → Nat} {dp : Nat} {Q : Int → MM → Prop} {J : Nat → List (Nat × Value) → List Value → MM → Prop} (hin : jIn ad ksR.length)   (hg0 : jCN l D vwCl (tyR cy) cy ad ftR ksR (XtR ad) yX12_join (.code yX12_join cX12_join 13 (some .boolean) :: Om) (rm_gj_ dp) 3 (W_X12_join dp ad)) (hJ : jOk l D vwCl (tyR cy) cy ad ftR ksR (XtR ad) Om RX12 cX12_join 13 3 (rm_gj_ (dp + 1)) Q J) {K282 : Int → Int → Int → Int → Int → Int → Int → Int → Int → Int → MM → Prop} (hK282 : ∀ (x1 x2 x3 x4 x5 x6 x7 x8 x9 x10 : Int) (M : MM), ri_ x1 → ri_ x2 → ri_ x3 → ri_ x4 → ri_ x5 → ri_ x6 → ri_ x7 → ri_ x8 → ri_ x9 → ri_ x10 → K282 x1 x2 x3 x4 x5 x6 x7 x8 x9 x10 M → J 282 [(0, .ref (ad 0)), (1, .int (Ii x1)), (2, .int (Ii x2)), (3, .int (Ii x3)), (4, .int (Ii x4)), (5, .int (Ii x5)), (6, .int (Ii x6)), (7, .int (Ii x7)), (8, .int (Ii x8)), (9, .int (Ii x9)), (10, .int (Ii x10))] [] M) : ∀ (x1 x2 x3 x4 x5 x6 x7 x8 x9 x10 s0 : Int) (M : MM), ri_ x1 → ri_ x2 → ri_ x3 → ri_ x4 → ri_ x5 → ri_ x6 → ri_ x7 → ri_ x8 → ri_ x9 → ri_ x10 → ri_ s0 → w_X12_join_b360  (gj_  dp) Q K282 x1 x2 x3 x4 x5 x6 x7 x8 x9 x10 s0 M → J 360 [(0, .ref (ad 0)), (1, .int (Ii x1)), (2, .int (Ii x2)), (3, .int (Ii x3)), (4, .int (Ii x4)), (5, .int (Ii x5)), (6, .int (Ii x6)), (7, .int (Ii x7)), (8, .int (Ii x8)), (9, .int (Ii x9)), (10, .int (Ii x10))] [.int (Ii s0)] M := by
  intro x1 x2 x3 x4 x5 x6 x7 x8 x9 x10 s0 M gx1 gx2 gx3 gx4 gx5 gx6 gx7 gx8 gx9 gx10 gs0 hF
  unfold w_X12_join_b360 at hF
  refine j_istore (lv' := [(11, .int (Ii s0)), (0, .ref (ad 0)), (1, .int (Ii x1)), (2, .int (Ii x2)), (3, .int (Ii x3)), (4, .int (Ii x4)), (5, .int (Ii x5)), (6, .int (Ii x6)), (7, .int (Ii x7)), (8, .int (Ii x8)), (9, .int (Ii x9)), (10, .int (Ii x10))]) hJ dX12_join_360 (by decide) rfl ?_
  refine j_iload hJ dX12_join_362 0 rfl ?_
  refine j_if_eq hJ 387 gs0 dX12_join_364 (by decide) (fun z1 => ?_) (fun z1 => ?_)
  · have hF := hF.1 z1
    refine j_iconst hJ dX12_join_387 ?_
    exact j_sub hJ [1, 2, 3, 4, 5, 6, 7, 8, 9, 10, 11, 0] rfl (k_X12_join_b388 hin  hg0 hJ hK282 x1 x2 x3 x4 x5 x6 x7 x8 x9 x10 s0 0 _ gx1 gx2 gx3 gx4 gx5 gx6 gx7 gx8 gx9 gx10 gs0 rk_0 hF)
  · have hF := hF.2 z1
    refine j_iload hJ dX12_join_367 7 rfl ?_
    refine j_iconst hJ dX12_join_369 ?_
    refine j_icmp_ne hJ 377 gx6 rk_m1 dX12_join_370 (by decide) (fun z2 => ?_) (fun z2 => ?_)
    · have hF := hF.1 z2
      refine j_aload_n hJ dX12_join_377 rfl 1 rfl ?_
      refine j_gr (e := 93) hJ kR_0 fR_15_128 fl_X12_354 dX12_join_378 rfl ?_
      refine j_iload hJ dX12_join_381 7 rfl ?_
      refine j_iald hJ gx6 kR_93 hF.1 hF.2.1 dX12_join_383 (fun v3 ev3 gv3 => ?_)
      have hF := hF.2.2 v3 ev3 gv3
      refine j_goto hJ 388 dX12_join_384 (by decide) ?_
      exact j_sub hJ [1, 2, 3, 4, 5, 6, 7, 8, 9, 10, 11, 0] rfl (k_X12_join_b388 hin  hg0 hJ hK282 x1 x2 x3 x4 x5 x6 x7 x8 x9 x10 s0 v3 _ gx1 gx2 gx3 gx4 gx5 gx6 gx7 gx8 gx9 gx10 gs0 gv3 hF)
    · have hF := hF.2 z2
      refine j_iconst hJ dX12_join_373 ?_
      refine j_goto hJ 388 dX12_join_374 (by decide) ?_
      exact j_sub hJ [1, 2, 3, 4, 5, 6, 7, 8, 9, 10, 11, 0] rfl (k_X12_join_b388 hin  hg0 hJ hK282 x1 x2 x3 x4 x5 x6 x7 x8 x9 x10 s0 0 _ gx1 gx2 gx3 gx4 gx5 gx6 gx7 gx8 gx9 gx10 gs0 rk_0 hF)
set_option maxHeartbeats 4000000 in
set_option maxRecDepth 100000 in
theorem k_X12_join_b355 {l : Launch} {D : va_G} {cy : Nat → ClassId} {ad : Nat → Nat} {dp : Nat} {Q : Int → MM → Prop} {J : Nat → List (Nat × Value) → List Value → MM → Prop} (hin : jIn ad ksR.length)   (hg0 : jCN l D vwCl (tyR cy) cy ad ftR ksR (XtR ad) yX12_join (.code yX12_join cX12_join 13 (some .boolean) :: Om) (rm_gj_ dp) 3 (W_X12_join dp ad)) (hJ : jOk l D vwCl (tyR cy) cy ad ftR ksR (XtR ad) Om RX12 cX12_join 13 3 (rm_gj_ (dp + 1)) Q J) {K282 : Int → Int → Int → Int → Int → Int → Int → Int → Int → Int → MM → Prop} (hK282 : ∀ (x1 x2 x3 x4 x5 x6 x7 x8 x9 x10 : Int) (M : MM), ri_ x1 → ri_ x2 → ri_ x3 → ri_ x4 → ri_ x5 → ri_ x6 → ri_ x7 → ri_ x8 → ri_ x9 → ri_ x10 → K282 x1 x2 x3 x4 x5 x6 x7 x8 x9 x10 M → J 282 [(0, .ref (ad 0)), (1, .int (Ii x1)), (2, .int (Ii x2)), (3, .int (Ii x3)), (4, .int (Ii x4)), (5, .int (Ii x5)), (6, .int (Ii x6)), (7, .int (Ii x7)), (8, .int (Ii x8)), (9, .int (Ii x9)), (10, .int (Ii x10))] [] M) : ∀ (x1 x2 x3 x4 x5 x6 x7 x8 x9 x10 : Int) (M : MM), ri_ x1 → ri_ x2 → ri_ x3 → ri_ x4 → ri_ x5 → ri_ x6 → ri_ x7 → ri_ x8 → ri_ x9 → ri_ x10 → w_X12_join_b355  (gj_  dp) Q K282 x1 x2 x3 x4 x5 x6 x7 x8 x9 x10 M → J 355 [(0, .ref (ad 0)), (1, .int (Ii x1)), (2, .int (Ii x2)), (3, .int (Ii x3)), (4, .int (Ii x4)), (5, .int (Ii x5)), (6, .int (Ii x6)), (7, .int (Ii x7)), (8, .int (Ii x8)), (9, .int (Ii x9)), (10, .int (Ii x10))] [] M := by
  intro x1 x2 x3 x4 x5 x6 x7 x8 x9 x10 M gx1 gx2 gx3 gx4 gx5 gx6 gx7 gx8 gx9 gx10 hF
  unfold w_X12_join_b355 at hF
  refine j_iconst hJ dX12_join_355 ?_
  refine j_goto hJ 360 dX12_join_356 (by decide) ?_
  exact j_sub hJ [0, 1, 2, 3, 4, 5, 6, 7, 8, 9, 10] rfl (k_X12_join_b360 hin  hg0 hJ hK282 x1 x2 x3 x4 x5 x6 x7 x8 x9 x10 1 _ gx1 gx2 gx3 gx4 gx5 gx6 gx7 gx8 gx9 gx10 rk_1 hF)
set_option maxHeartbeats 4000000 in
set_option maxRecDepth 100000 in
theorem k_X12_join_b322 {l : Launch} {D : va_G} {cy : Nat → ClassId} {ad : Nat → Nat} {dp : Nat} {Q : Int → MM → Prop} {J : Nat → List (Nat × Value) → List Value → MM → Prop} (hin : jIn ad ksR.length)   (hg0 : jCN l D vwCl (tyR cy) cy ad ftR ksR (XtR ad) yX12_join (.code yX12_join cX12_join 13 (some .boolean) :: Om) (rm_gj_ dp) 3 (W_X12_join dp ad)) (hJ : jOk l D vwCl (tyR cy) cy ad ftR ksR (XtR ad) Om RX12 cX12_join 13 3 (rm_gj_ (dp + 1)) Q J) {K282 : Int → Int → Int → Int → Int → Int → Int → Int → Int → Int → MM → Prop} (hK282 : ∀ (x1 x2 x3 x4 x5 x6 x7 x8 x9 x10 : Int) (M : MM), ri_ x1 → ri_ x2 → ri_ x3 → ri_ x4 → ri_ x5 → ri_ x6 → ri_ x7 → ri_ x8 → ri_ x9 → ri_ x10 → K282 x1 x2 x3 x4 x5 x6 x7 x8 x9 x10 M → J 282 [(0, .ref (ad 0)), (1, .int (Ii x1)), (2, .int (Ii x2)), (3, .int (Ii x3)), (4, .int (Ii x4)), (5, .int (Ii x5)), (6, .int (Ii x6)), (7, .int (Ii x7)), (8, .int (Ii x8)), (9, .int (Ii x9)), (10, .int (Ii x10))] [] M) : ∀ (x1 x2 x3 x4 x5 x6 x7 x8 x9 x10 : Int) (M : MM), ri_ x1 → ri_ x2 → ri_ x3 → ri_ x4 → ri_ x5 → ri_ x6 → ri_ x7 → ri_ x8 → ri_ x9 → ri_ x10 → w_X12_join_b322  (gj_  dp) Q K282 x1 x2 x3 x4 x5 x6 x7 x8 x9 x10 M → J 322 [(0, .ref (ad 0)), (1, .int (Ii x1)), (2, .int (Ii x2)), (3, .int (Ii x3)), (4, .int (Ii x4)), (5, .int (Ii x5)), (6, .int (Ii x6)), (7, .int (Ii x7)), (8, .int (Ii x8)), (9, .int (Ii x9)), (10, .int (Ii x10))] [] M := by
  intro x1 x2 x3 x4 x5 x6 x7 x8 x9 x10 M gx1 gx2 gx3 gx4 gx5 gx6 gx7 gx8 gx9 gx10 hF
  unfold w_X12_join_b322 at hF
  refine j_aload_n hJ dX12_join_322 rfl 0 rfl ?_
  refine j_gr (e := 93) hJ kR_0 fR_15_128 fl_X12_354 dX12_join_323 rfl ?_
  refine j_iload hJ dX12_join_326 5 rfl ?_
  refine j_iload hJ dX12_join_328 10 rfl ?_
  refine j_iast hJ gx5 gx10 kR_93 hF.1 hF.2.1 dX12_join_330 (fun M1 eM1 => ?_)
  have hF := hF.2.2 M1 eM1
  refine j_aload_n hJ dX12_join_331 rfl 0 rfl ?_
  refine j_gr (e := 96) hJ kR_0 fR_15_131 fl_X12_363 dX12_join_332 rfl ?_
  refine j_iload hJ dX12_join_335 5 rfl ?_
  refine j_iconst hJ dX12_join_337 ?_
  refine j_zast hJ gx5 (by decide) kR_96 hF.1 hF.2.1 dX12_join_338 (fun M2 eM2 => ?_)
  have hF := hF.2.2 M2 eM2
  refine j_iload hJ dX12_join_339 6 rfl ?_
  refine j_iconst hJ dX12_join_341 ?_
  refine j_icmp_eq hJ 355 gx6 rk_m1 dX12_join_342 (by decide) (fun z3 => ?_) (fun z3 => ?_)
  · have hF := hF.1 z3
    exact j_sub hJ [0, 1, 2, 3, 4, 5, 6, 7, 8, 9, 10] rfl (k_X12_join_b355 hin  hg0 hJ hK282 x1 x2 x3 x4 x5 x6 x7 x8 x9 x10 _ gx1 gx2 gx3 gx4 gx5 gx6 gx7 gx8 gx9 gx10 hF)
  · have hF := hF.2 z3
    refine j_aload_n hJ dX12_join_345 rfl 0 rfl ?_
    refine j_gr (e := 96) hJ kR_0 fR_15_131 fl_X12_363 dX12_join_346 rfl ?_
    refine j_iload hJ dX12_join_349 6 rfl ?_
    refine j_zald hJ gx6 kR_96 hF.1 hF.2.1 dX12_join_351 (fun v4 ev4 gv4 => ?_)
    have hF := hF.2.2 v4 ev4 gv4
    refine j_if_eq hJ 359 (jz_ri gv4) dX12_join_352 (by decide) (fun z5 => ?_) (fun z5 => ?_)
    · have hF := hF.1 z5
      refine j_iconst hJ dX12_join_359 ?_
      exact j_sub hJ [0, 1, 2, 3, 4, 5, 6, 7, 8, 9, 10] rfl (k_X12_join_b360 hin  hg0 hJ hK282 x1 x2 x3 x4 x5 x6 x7 x8 x9 x10 0 _ gx1 gx2 gx3 gx4 gx5 gx6 gx7 gx8 gx9 gx10 rk_0 hF)
    · have hF := hF.2 z5
      exact j_sub hJ [0, 1, 2, 3, 4, 5, 6, 7, 8, 9, 10] rfl (k_X12_join_b355 hin  hg0 hJ hK282 x1 x2 x3 x4 x5 x6 x7 x8 x9 x10 _ gx1 gx2 gx3 gx4 gx5 gx6 gx7 gx8 gx9 gx10 hF)
set_option maxHeartbeats 4000000 in
set_option maxRecDepth 100000 in
theorem k_X12_join_b310 {l : Launch} {D : va_G} {cy : Nat → ClassId} {ad : Nat → Nat} {dp : Nat} {Q : Int → MM → Prop} {J : Nat → List (Nat × Value) → List Value → MM → Prop} (hin : jIn ad ksR.length)   (hg0 : jCN l D vwCl (tyR cy) cy ad ftR ksR (XtR ad) yX12_join (.code yX12_join cX12_join 13 (some .boolean) :: Om) (rm_gj_ dp) 3 (W_X12_join dp ad)) (hJ : jOk l D vwCl (tyR cy) cy ad ftR ksR (XtR ad) Om RX12 cX12_join 13 3 (rm_gj_ (dp + 1)) Q J) {K282 : Int → Int → Int → Int → Int → Int → Int → Int → Int → Int → MM → Prop} (hK282 : ∀ (x1 x2 x3 x4 x5 x6 x7 x8 x9 x10 : Int) (M : MM), ri_ x1 → ri_ x2 → ri_ x3 → ri_ x4 → ri_ x5 → ri_ x6 → ri_ x7 → ri_ x8 → ri_ x9 → ri_ x10 → K282 x1 x2 x3 x4 x5 x6 x7 x8 x9 x10 M → J 282 [(0, .ref (ad 0)), (1, .int (Ii x1)), (2, .int (Ii x2)), (3, .int (Ii x3)), (4, .int (Ii x4)), (5, .int (Ii x5)), (6, .int (Ii x6)), (7, .int (Ii x7)), (8, .int (Ii x8)), (9, .int (Ii x9)), (10, .int (Ii x10))] [] M) : ∀ (x1 x2 x3 x4 x5 x6 x7 x8 x9 x10 s0 s1 : Int) (M : MM), ri_ x1 → ri_ x2 → ri_ x3 → ri_ x4 → ri_ x5 → ri_ x6 → ri_ x7 → ri_ x8 → ri_ x9 → ri_ x10 → ri_ s0 → ri_ s1 → w_X12_join_b310  (gj_  dp) Q K282 x1 x2 x3 x4 x5 x6 x7 x8 x9 x10 s0 s1 M → J 310 [(0, .ref (ad 0)), (1, .int (Ii x1)), (2, .int (Ii x2)), (3, .int (Ii x3)), (4, .int (Ii x4)), (5, .int (Ii x5)), (6, .int (Ii x6)), (7, .int (Ii x7)), (8, .int (Ii x8)), (9, .int (Ii x9)), (10, .int (Ii x10))] [.int (Ii s0), .int (Ii s1)] M := by
  intro x1 x2 x3 x4 x5 x6 x7 x8 x9 x10 s0 s1 M gx1 gx2 gx3 gx4 gx5 gx6 gx7 gx8 gx9 gx10 gs0 gs1 hF
  unfold w_X12_join_b310 at hF
  refine j_icmp_ge hJ 537 gs1 gs0 dX12_join_310 (by decide) (fun z1 => ?_) (fun z1 => ?_)
  · have hF := hF.1 z1
    exact j_sub hJ [0, 5, 6, 7, 8, 9] rfl (k_X12_join_b537 hin  hg0 hJ  x5 x6 x7 x8 x9 _ gx5 gx6 gx7 gx8 gx9 hF)
  · have hF := hF.2 z1
    refine j_iload hJ dX12_join_313 9 rfl ?_
    refine j_if_eq hJ 322 gx9 dX12_join_315 (by decide) (fun z2 => ?_) (fun z2 => ?_)
    · have hF := hF.1 z2
      exact j_sub hJ [0, 1, 2, 3, 4, 5, 6, 7, 8, 9, 10] rfl (k_X12_join_b322 hin  hg0 hJ hK282 x1 x2 x3 x4 x5 x6 x7 x8 x9 x10 _ gx1 gx2 gx3 gx4 gx5 gx6 gx7 gx8 gx9 gx10 hF)
    · have hF := hF.2 z2
      refine j_iload_n hJ dX12_join_318 rfl 3 rfl ?_
      refine j_if_ne hJ 537 gx3 dX12_join_319 (by decide) (fun z3 => ?_) (fun z3 => ?_)
      · have hF := hF.1 z3
        exact j_sub hJ [0, 5, 6, 7, 8, 9] rfl (k_X12_join_b537 hin  hg0 hJ  x5 x6 x7 x8 x9 _ gx5 gx6 gx7 gx8 gx9 hF)
      · have hF := hF.2 z3
        exact j_sub hJ [0, 1, 2, 3, 4, 5, 6, 7, 8, 9, 10] rfl (k_X12_join_b322 hin  hg0 hJ hK282 x1 x2 x3 x4 x5 x6 x7 x8 x9 x10 _ gx1 gx2 gx3 gx4 gx5 gx6 gx7 gx8 gx9 gx10 hF)
set_option maxHeartbeats 4000000 in
set_option maxRecDepth 100000 in
theorem k_X12_join_b282 {l : Launch} {D : va_G} {cy : Nat → ClassId} {ad : Nat → Nat} {dp : Nat} {Q : Int → MM → Prop} {J : Nat → List (Nat × Value) → List Value → MM → Prop} (hin : jIn ad ksR.length)   (hg0 : jCN l D vwCl (tyR cy) cy ad ftR ksR (XtR ad) yX12_join (.code yX12_join cX12_join 13 (some .boolean) :: Om) (rm_gj_ dp) 3 (W_X12_join dp ad)) (hJ : jOk l D vwCl (tyR cy) cy ad ftR ksR (XtR ad) Om RX12 cX12_join 13 3 (rm_gj_ (dp + 1)) Q J)  : ∀ (x1 x2 x3 x4 x5 x6 x7 x8 x9 x10 : Int) (M : MM), ri_ x1 → ri_ x2 → ri_ x3 → ri_ x4 → ri_ x5 → ri_ x6 → ri_ x7 → ri_ x8 → ri_ x9 → ri_ x10 → w_X12_join_b282  (gj_  dp) Q  x1 x2 x3 x4 x5 x6 x7 x8 x9 x10 M → J 282 [(0, .ref (ad 0)), (1, .int (Ii x1)), (2, .int (Ii x2)), (3, .int (Ii x3)), (4, .int (Ii x4)), (5, .int (Ii x5)), (6, .int (Ii x6)), (7, .int (Ii x7)), (8, .int (Ii x8)), (9, .int (Ii x9)), (10, .int (Ii x10))] [] M := by
  have H9 : ∀ (n : Nat) (x1 x2 x3 x4 x5 x6 x7 x8 x9 x10 : Int) (M : MM), ri_ x1 → ri_ x2 → ri_ x3 → ri_ x4 → ri_ x5 → ri_ x6 → ri_ x7 → ri_ x8 → ri_ x9 → ri_ x10 → jit (fun _ _ _ _ _ _ _ _ _ _ _ => False) (wb_X12_join_b282  (gj_  dp) Q ) n x1 x2 x3 x4 x5 x6 x7 x8 x9 x10 M → J 282 [(0, .ref (ad 0)), (1, .int (Ii x1)), (2, .int (Ii x2)), (3, .int (Ii x3)), (4, .int (Ii x4)), (5, .int (Ii x5)), (6, .int (Ii x6)), (7, .int (Ii x7)), (8, .int (Ii x8)), (9, .int (Ii x9)), (10, .int (Ii x10))] [] M := by
    intro n
    induction n with
    | zero => intro x1 x2 x3 x4 x5 x6 x7 x8 x9 x10 M gx1 gx2 gx3 gx4 gx5 gx6 gx7 gx8 gx9 gx10 hF; exact False.elim hF
    | succ n ih =>
    intro x1 x2 x3 x4 x5 x6 x7 x8 x9 x10 M gx1 gx2 gx3 gx4 gx5 gx6 gx7 gx8 gx9 gx10 hF
    have hF : wb_X12_join_b282  (gj_  dp) Q  (jit (fun _ _ _ _ _ _ _ _ _ _ _ => False) (wb_X12_join_b282  (gj_  dp) Q ) n) x1 x2 x3 x4 x5 x6 x7 x8 x9 x10 M := hF
    unfold wb_X12_join_b282 at hF
    refine j_iload hJ dX12_join_282 10 rfl ?_
    refine j_iload hJ dX12_join_284 7 rfl ?_
    refine j_if_eq hJ 301 gx7 dX12_join_286 (by decide) (fun z1 => ?_) (fun z1 => ?_)
    · have hF := hF.1 z1
      refine j_aload_n hJ dX12_join_301 rfl 0 rfl ?_
      refine j_gr (e := 38) hJ kR_0 fR_15_48 fl_X12_183 dX12_join_302 rfl ?_
      refine j_aload_n hJ dX12_join_305 rfl 0 rfl ?_
      refine j_gi hJ kR_0 fR_15_97 rfl fl_X12_826 dX12_join_306 (fun v2 ev2 gv2 => ?_)
      have hF := hF v2 ev2 gv2
      refine j_iald hJ gv2 kR_38 hF.1 hF.2.1 dX12_join_309 (fun v3 ev3 gv3 => ?_)
      have hF := hF.2.2 v3 ev3 gv3
      exact j_sub hJ [0, 1, 2, 3, 4, 5, 6, 7, 8, 9, 10] rfl (k_X12_join_b310 hin  hg0 hJ ih x1 x2 x3 x4 x5 x6 x7 x8 x9 x10 v3 x10 _ gx1 gx2 gx3 gx4 gx5 gx6 gx7 gx8 gx9 gx10 gv3 gx10 hF)
    · have hF := hF.2 z1
      refine j_aload_n hJ dX12_join_289 rfl 0 rfl ?_
      refine j_gr (e := 93) hJ kR_0 fR_15_128 fl_X12_354 dX12_join_290 rfl ?_
      refine j_iload hJ dX12_join_293 5 rfl ?_
      refine j_iald hJ gx5 kR_93 hF.1 hF.2.1 dX12_join_295 (fun v4 ev4 gv4 => ?_)
      have hF := hF.2.2 v4 ev4 gv4
      refine j_iconst hJ dX12_join_296 ?_
      refine j_iadd hJ dX12_join_297 ?_
      have g5 := hF.1; have hF := hF.2
      refine j_goto hJ 310 dX12_join_298 (by decide) ?_
      exact j_sub hJ [0, 1, 2, 3, 4, 5, 6, 7, 8, 9, 10] rfl (k_X12_join_b310 hin  hg0 hJ ih x1 x2 x3 x4 x5 x6 x7 x8 x9 x10 (v4 + 1) x10 _ gx1 gx2 gx3 gx4 gx5 gx6 gx7 gx8 gx9 gx10 g5 gx10 hF)
  intro x1 x2 x3 x4 x5 x6 x7 x8 x9 x10 M gx1 gx2 gx3 gx4 gx5 gx6 gx7 gx8 gx9 gx10 hF
  obtain ⟨n, hF⟩ := hF
  exact H9 n x1 x2 x3 x4 x5 x6 x7 x8 x9 x10 M gx1 gx2 gx3 gx4 gx5 gx6 gx7 gx8 gx9 gx10 hF
set_option maxHeartbeats 4000000 in
set_option maxRecDepth 100000 in
theorem k_X12_join_b280 {l : Launch} {D : va_G} {cy : Nat → ClassId} {ad : Nat → Nat} {dp : Nat} {Q : Int → MM → Prop} {J : Nat → List (Nat × Value) → List Value → MM → Prop} (hin : jIn ad ksR.length)   (hg0 : jCN l D vwCl (tyR cy) cy ad ftR ksR (XtR ad) yX12_join (.code yX12_join cX12_join 13 (some .boolean) :: Om) (rm_gj_ dp) 3 (W_X12_join dp ad)) (hJ : jOk l D vwCl (tyR cy) cy ad ftR ksR (XtR ad) Om RX12 cX12_join 13 3 (rm_gj_ (dp + 1)) Q J)  : ∀ (x1 x2 x3 x4 x5 x6 x7 x8 x9 s0 : Int) (M : MM), ri_ x1 → ri_ x2 → ri_ x3 → ri_ x4 → ri_ x5 → ri_ x6 → ri_ x7 → ri_ x8 → ri_ x9 → ri_ s0 → w_X12_join_b280  (gj_  dp) Q  x1 x2 x3 x4 x5 x6 x7 x8 x9 s0 M → J 280 [(0, .ref (ad 0)), (1, .int (Ii x1)), (2, .int (Ii x2)), (3, .int (Ii x3)), (4, .int (Ii x4)), (5, .int (Ii x5)), (6, .int (Ii x6)), (7, .int (Ii x7)), (8, .int (Ii x8)), (9, .int (Ii x9))] [.int (Ii s0)] M := by
  intro x1 x2 x3 x4 x5 x6 x7 x8 x9 s0 M gx1 gx2 gx3 gx4 gx5 gx6 gx7 gx8 gx9 gs0 hF
  unfold w_X12_join_b280 at hF
  refine j_istore (lv' := [(10, .int (Ii s0)), (0, .ref (ad 0)), (1, .int (Ii x1)), (2, .int (Ii x2)), (3, .int (Ii x3)), (4, .int (Ii x4)), (5, .int (Ii x5)), (6, .int (Ii x6)), (7, .int (Ii x7)), (8, .int (Ii x8)), (9, .int (Ii x9))]) hJ dX12_join_280 (by decide) rfl ?_
  exact j_sub hJ [1, 2, 3, 4, 5, 6, 7, 8, 9, 10, 0] rfl (k_X12_join_b282 hin  hg0 hJ  x1 x2 x3 x4 x5 x6 x7 x8 x9 s0 _ gx1 gx2 gx3 gx4 gx5 gx6 gx7 gx8 gx9 gs0 hF)
set_option maxHeartbeats 4000000 in
set_option maxRecDepth 100000 in
theorem k_X12_join_b259 {l : Launch} {D : va_G} {cy : Nat → ClassId} {ad : Nat → Nat} {dp : Nat} {Q : Int → MM → Prop} {J : Nat → List (Nat × Value) → List Value → MM → Prop} (hin : jIn ad ksR.length)   (hg0 : jCN l D vwCl (tyR cy) cy ad ftR ksR (XtR ad) yX12_join (.code yX12_join cX12_join 13 (some .boolean) :: Om) (rm_gj_ dp) 3 (W_X12_join dp ad)) (hJ : jOk l D vwCl (tyR cy) cy ad ftR ksR (XtR ad) Om RX12 cX12_join 13 3 (rm_gj_ (dp + 1)) Q J)  : ∀ (x1 x2 x3 x4 x5 x6 x7 s0 : Int) (M : MM), ri_ x1 → ri_ x2 → ri_ x3 → ri_ x4 → ri_ x5 → ri_ x6 → ri_ x7 → ri_ s0 → w_X12_join_b259  (gj_  dp) Q  x1 x2 x3 x4 x5 x6 x7 s0 M → J 259 [(0, .ref (ad 0)), (1, .int (Ii x1)), (2, .int (Ii x2)), (3, .int (Ii x3)), (4, .int (Ii x4)), (5, .int (Ii x5)), (6, .int (Ii x6)), (7, .int (Ii x7))] [.int (Ii s0)] M := by
  intro x1 x2 x3 x4 x5 x6 x7 s0 M gx1 gx2 gx3 gx4 gx5 gx6 gx7 gs0 hF
  unfold w_X12_join_b259 at hF
  refine j_istore (lv' := [(8, .int (Ii s0)), (0, .ref (ad 0)), (1, .int (Ii x1)), (2, .int (Ii x2)), (3, .int (Ii x3)), (4, .int (Ii x4)), (5, .int (Ii x5)), (6, .int (Ii x6)), (7, .int (Ii x7))]) hJ dX12_join_259 (by decide) rfl ?_
  refine j_iconst hJ dX12_join_261 ?_
  refine j_istore (lv' := [(9, .int (Ii 0)), (8, .int (Ii s0)), (0, .ref (ad 0)), (1, .int (Ii x1)), (2, .int (Ii x2)), (3, .int (Ii x3)), (4, .int (Ii x4)), (5, .int (Ii x5)), (6, .int (Ii x6)), (7, .int (Ii x7))]) hJ dX12_join_262 (by decide) rfl ?_
  refine j_iload hJ dX12_join_264 9 rfl ?_
  refine j_if_eq hJ 279 gx7 dX12_join_266 (by decide) (fun z1 => ?_) (fun z1 => ?_)
  · have hF := hF.1 z1
    refine j_iconst hJ dX12_join_279 ?_
    exact j_sub hJ [2, 3, 4, 5, 6, 7, 8, 9, 1, 0] rfl (k_X12_join_b280 hin  hg0 hJ  x1 x2 x3 x4 x5 x6 x7 s0 0 0 _ gx1 gx2 gx3 gx4 gx5 gx6 gx7 gs0 rk_0 rk_0 hF)
  · have hF := hF.2 z1
    refine j_aload_n hJ dX12_join_269 rfl 2 rfl ?_
    refine j_gr (e := 93) hJ kR_0 fR_15_128 fl_X12_354 dX12_join_270 rfl ?_
    refine j_iload hJ dX12_join_273 7 rfl ?_
    refine j_iald hJ gx5 kR_93 hF.1 hF.2.1 dX12_join_275 (fun v2 ev2 gv2 => ?_)
    have hF := hF.2.2 v2 ev2 gv2
    refine j_goto hJ 280 dX12_join_276 (by decide) ?_
    exact j_sub hJ [2, 3, 4, 5, 6, 7, 8, 9, 1, 0] rfl (k_X12_join_b280 hin  hg0 hJ  x1 x2 x3 x4 x5 x6 x7 s0 0 v2 _ gx1 gx2 gx3 gx4 gx5 gx6 gx7 gs0 rk_0 gv2 hF)
set_option maxHeartbeats 4000000 in
set_option maxRecDepth 100000 in
theorem k_X12_join_b254 {l : Launch} {D : va_G} {cy : Nat → ClassId} {ad : Nat → Nat} {dp : Nat} {Q : Int → MM → Prop} {J : Nat → List (Nat × Value) → List Value → MM → Prop} (hin : jIn ad ksR.length)   (hg0 : jCN l D vwCl (tyR cy) cy ad ftR ksR (XtR ad) yX12_join (.code yX12_join cX12_join 13 (some .boolean) :: Om) (rm_gj_ dp) 3 (W_X12_join dp ad)) (hJ : jOk l D vwCl (tyR cy) cy ad ftR ksR (XtR ad) Om RX12 cX12_join 13 3 (rm_gj_ (dp + 1)) Q J)  : ∀ (x1 x2 x3 x4 x5 x6 x7 : Int) (M : MM), ri_ x1 → ri_ x2 → ri_ x3 → ri_ x4 → ri_ x5 → ri_ x6 → ri_ x7 → w_X12_join_b254  (gj_  dp) Q  x1 x2 x3 x4 x5 x6 x7 M → J 254 [(0, .ref (ad 0)), (1, .int (Ii x1)), (2, .int (Ii x2)), (3, .int (Ii x3)), (4, .int (Ii x4)), (5, .int (Ii x5)), (6, .int (Ii x6)), (7, .int (Ii x7))] [] M := by
  intro x1 x2 x3 x4 x5 x6 x7 M gx1 gx2 gx3 gx4 gx5 gx6 gx7 hF
  unfold w_X12_join_b254 at hF
  refine j_iconst hJ dX12_join_254 ?_
  refine j_goto hJ 259 dX12_join_255 (by decide) ?_
  exact j_sub hJ [0, 1, 2, 3, 4, 5, 6, 7] rfl (k_X12_join_b259 hin  hg0 hJ  x1 x2 x3 x4 x5 x6 x7 1 _ gx1 gx2 gx3 gx4 gx5 gx6 gx7 rk_1 hF)
set_option maxHeartbeats 4000000 in
set_option maxRecDepth 100000 in
theorem k_X12_join_b197 {l : Launch} {D : va_G} {cy : Nat → ClassId} {ad : Nat → Nat} {dp : Nat} {Q : Int → MM → Prop} {J : Nat → List (Nat × Value) → List Value → MM → Prop} (hin : jIn ad ksR.length)   (hg0 : jCN l D vwCl (tyR cy) cy ad ftR ksR (XtR ad) yX12_join (.code yX12_join cX12_join 13 (some .boolean) :: Om) (rm_gj_ dp) 3 (W_X12_join dp ad)) (hJ : jOk l D vwCl (tyR cy) cy ad ftR ksR (XtR ad) Om RX12 cX12_join 13 3 (rm_gj_ (dp + 1)) Q J)  : ∀ (M : MM), w_X12_join_b197  (gj_  dp) Q   M → J 197 [(0, .ref (ad 0))] [] M := by
  intro  M  hF
  unfold w_X12_join_b197 at hF
  refine j_aload_n hJ dX12_join_197 rfl 0 rfl ?_
  refine j_iconst hJ dX12_join_198 ?_
  refine j_pz hJ (by decide) kR_0 fR_15_138 rfl fp_X12_933 dX12_join_199 (fun M1 eM1 => ?_)
  have hF := hF M1 eM1
  refine j_iconst hJ dX12_join_202 ?_
  exact j_zret hJ rfl (by decide) dX12_join_203 hF
set_option maxHeartbeats 4000000 in
set_option maxRecDepth 100000 in
theorem k_X12_join_b99 {l : Launch} {D : va_G} {cy : Nat → ClassId} {ad : Nat → Nat} {dp : Nat} {Q : Int → MM → Prop} {J : Nat → List (Nat × Value) → List Value → MM → Prop} (hin : jIn ad ksR.length)   (hg0 : jCN l D vwCl (tyR cy) cy ad ftR ksR (XtR ad) yX12_join (.code yX12_join cX12_join 13 (some .boolean) :: Om) (rm_gj_ dp) 3 (W_X12_join dp ad)) (hJ : jOk l D vwCl (tyR cy) cy ad ftR ksR (XtR ad) Om RX12 cX12_join 13 3 (rm_gj_ (dp + 1)) Q J)  : ∀ (x1 x2 x3 : Int) (M : MM), ri_ x1 → ri_ x2 → ri_ x3 → w_X12_join_b99  (gj_  dp) Q  x1 x2 x3 M → J 99 [(0, .ref (ad 0)), (1, .int (Ii x1)), (2, .int (Ii x2)), (3, .int (Ii x3))] [] M := by
  intro x1 x2 x3 M gx1 gx2 gx3 hF
  unfold w_X12_join_b99 at hF
  refine j_iload_n hJ dX12_join_99 rfl 2 rfl ?_
  refine j_aload_n hJ dX12_join_100 rfl 0 rfl ?_
  refine j_gr (e := 87) hJ kR_0 fR_15_122 fl_X12_336 dX12_join_101 rfl ?_
  refine j_iload_n hJ dX12_join_104 rfl 1 rfl ?_
  refine j_iald hJ gx1 kR_87 hF.1 hF.2.1 dX12_join_105 (fun v1 ev1 gv1 => ?_)
  have hF := hF.2.2 v1 ev1 gv1
  refine j_icmp_ne hJ 204 gx2 gv1 dX12_join_106 (by decide) (fun z2 => ?_) (fun z2 => ?_)
  · have hF := hF.1 z2
    refine j_iconst hJ dX12_join_204 ?_
    refine j_iload_n hJ dX12_join_205 rfl 1 rfl ?_
    refine j_imul hJ dX12_join_206 ?_
    have g3 := hF.1; have hF := hF.2
    refine j_iload_n hJ dX12_join_207 rfl 2 rfl ?_
    refine j_iadd hJ dX12_join_208 ?_
    have g4 := hF.1; have hF := hF.2
    refine j_istore (lv' := [(4, .int (Ii ((4 * x1) + x2))), (0, .ref (ad 0)), (1, .int (Ii x1)), (2, .int (Ii x2)), (3, .int (Ii x3))]) hJ dX12_join_209 (by decide) rfl ?_
    refine j_aload_n hJ dX12_join_211 rfl 1 rfl ?_
    refine j_gr (e := 90) hJ kR_0 fR_15_125 fl_X12_345 dX12_join_212 rfl ?_
    refine j_iload hJ dX12_join_215 0 rfl ?_
    refine j_iald hJ g4 kR_90 hF.1 hF.2.1 dX12_join_217 (fun v5 ev5 gv5 => ?_)
    have hF := hF.2.2 v5 ev5 gv5
    refine j_istore (lv' := [(5, .int (Ii v5)), (4, .int (Ii ((4 * x1) + x2))), (0, .ref (ad 0)), (1, .int (Ii x1)), (2, .int (Ii x2)), (3, .int (Ii x3))]) hJ dX12_join_218 (by decide) rfl ?_
    refine j_aload_n hJ dX12_join_220 rfl 2 rfl ?_
    refine j_gr (e := 91) hJ kR_0 fR_15_126 fl_X12_348 dX12_join_221 rfl ?_
    refine j_iload hJ dX12_join_224 1 rfl ?_
    refine j_iald hJ g4 kR_91 hF.1 hF.2.1 dX12_join_226 (fun v6 ev6 gv6 => ?_)
    have hF := hF.2.2 v6 ev6 gv6
    refine j_istore (lv' := [(6, .int (Ii v6)), (5, .int (Ii v5)), (4, .int (Ii ((4 * x1) + x2))), (0, .ref (ad 0)), (1, .int (Ii x1)), (2, .int (Ii x2)), (3, .int (Ii x3))]) hJ dX12_join_227 (by decide) rfl ?_
    refine j_aload_n hJ dX12_join_229 rfl 3 rfl ?_
    refine j_gr (e := 96) hJ kR_0 fR_15_131 fl_X12_363 dX12_join_230 rfl ?_
    refine j_iload hJ dX12_join_233 1 rfl ?_
    refine j_zald hJ gv5 kR_96 hF.1 hF.2.1 dX12_join_235 (fun v7 ev7 gv7 => ?_)
    have hF := hF.2.2 v7 ev7 gv7
    refine j_istore (lv' := [(7, .int (Ii v7)), (6, .int (Ii v6)), (5, .int (Ii v5)), (4, .int (Ii ((4 * x1) + x2))), (0, .ref (ad 0)), (1, .int (Ii x1)), (2, .int (Ii x2)), (3, .int (Ii x3))]) hJ dX12_join_236 (by decide) rfl ?_
    refine j_iload hJ dX12_join_238 1 rfl ?_
    refine j_iconst hJ dX12_join_240 ?_
    refine j_icmp_eq hJ 254 gv6 rk_m1 dX12_join_241 (by decide) (fun z8 => ?_) (fun z8 => ?_)
    · have hF := hF.1 z8
      exact j_sub hJ [4, 5, 6, 7, 3, 2, 1, 0] rfl (k_X12_join_b254 hin  hg0 hJ  x1 x2 x3 ((4 * x1) + x2) v5 v6 v7 _ gx1 gx2 gx3 g4 gv5 gv6 (jz_ri gv7) hF)
    · have hF := hF.2 z8
      refine j_aload_n hJ dX12_join_244 rfl 4 rfl ?_
      refine j_gr (e := 96) hJ kR_0 fR_15_131 fl_X12_363 dX12_join_245 rfl ?_
      refine j_iload hJ dX12_join_248 1 rfl ?_
      refine j_zald hJ gv6 kR_96 hF.1 hF.2.1 dX12_join_250 (fun v9 ev9 gv9 => ?_)
      have hF := hF.2.2 v9 ev9 gv9
      refine j_if_eq hJ 258 (jz_ri gv9) dX12_join_251 (by decide) (fun z10 => ?_) (fun z10 => ?_)
      · have hF := hF.1 z10
        refine j_iconst hJ dX12_join_258 ?_
        exact j_sub hJ [4, 5, 6, 7, 3, 2, 1, 0] rfl (k_X12_join_b259 hin  hg0 hJ  x1 x2 x3 ((4 * x1) + x2) v5 v6 v7 0 _ gx1 gx2 gx3 g4 gv5 gv6 (jz_ri gv7) rk_0 hF)
      · have hF := hF.2 z10
        exact j_sub hJ [4, 5, 6, 7, 3, 2, 1, 0] rfl (k_X12_join_b254 hin  hg0 hJ  x1 x2 x3 ((4 * x1) + x2) v5 v6 v7 _ gx1 gx2 gx3 g4 gv5 gv6 (jz_ri gv7) hF)
  · have hF := hF.2 z2
    refine j_aload_n hJ dX12_join_109 rfl 0 rfl ?_
    refine j_gr (e := 83) hJ kR_0 fR_15_118 fl_X12_324 dX12_join_110 rfl ?_
    refine j_aload_n hJ dX12_join_113 rfl 0 rfl ?_
    refine j_gr (e := 84) hJ kR_0 fR_15_119 fl_X12_327 dX12_join_114 rfl ?_
    refine j_iload_n hJ dX12_join_117 rfl 1 rfl ?_
    refine j_iald hJ gx1 kR_84 hF.1 hF.2.1 dX12_join_118 (fun v11 ev11 gv11 => ?_)
    have hF := hF.2.2 v11 ev11 gv11
    refine j_iald hJ gv11 kR_83 hF.1 hF.2.1 dX12_join_119 (fun v12 ev12 gv12 => ?_)
    have hF := hF.2.2 v12 ev12 gv12
    refine j_iconst hJ dX12_join_120 ?_
    refine j_icmp_ne hJ 170 gv12 rk_2 dX12_join_121 (by decide) (fun z13 => ?_) (fun z13 => ?_)
    · have hF := hF.1 z13
      refine j_aload_n hJ dX12_join_170 rfl 0 rfl ?_
      refine j_gr (e := 94) hJ kR_0 fR_15_129 fl_X12_357 dX12_join_171 rfl ?_
      refine j_bipush hJ dX12_join_174 (by decide) ?_
      refine j_aload_n hJ dX12_join_176 rfl 0 rfl ?_
      refine j_gr (e := 84) hJ kR_0 fR_15_119 fl_X12_327 dX12_join_177 rfl ?_
      refine j_iload_n hJ dX12_join_180 rfl 1 rfl ?_
      refine j_iald hJ gx1 kR_84 hF.1 hF.2.1 dX12_join_181 (fun v14 ev14 gv14 => ?_)
      have hF := hF.2.2 v14 ev14 gv14
      refine j_imul hJ dX12_join_182 ?_
      have g15 := hF.1; have hF := hF.2
      refine j_aload_n hJ dX12_join_183 rfl 0 rfl ?_
      refine j_gr (e := 93) hJ kR_0 fR_15_128 fl_X12_354 dX12_join_184 rfl ?_
      refine j_aload_n hJ dX12_join_187 rfl 0 rfl ?_
      refine j_gr (e := 85) hJ kR_0 fR_15_120 fl_X12_330 dX12_join_188 rfl ?_
      refine j_iload_n hJ dX12_join_191 rfl 1 rfl ?_
      refine j_iald hJ gx1 kR_85 hF.1 hF.2.1 dX12_join_192 (fun v16 ev16 gv16 => ?_)
      have hF := hF.2.2 v16 ev16 gv16
      refine j_iald hJ gv16 kR_93 hF.1 hF.2.1 dX12_join_193 (fun v17 ev17 gv17 => ?_)
      have hF := hF.2.2 v17 ev17 gv17
      refine j_iadd hJ dX12_join_194 ?_
      have g18 := hF.1; have hF := hF.2
      refine j_iconst hJ dX12_join_195 ?_
      refine j_zast hJ g18 (by decide) kR_94 hF.1 hF.2.1 dX12_join_196 (fun M19 eM19 => ?_)
      have hF := hF.2.2 M19 eM19
      exact j_sub hJ [0] rfl (k_X12_join_b197 hin  hg0 hJ   _  hF)
    · have hF := hF.2 z13
      refine j_aload_n hJ dX12_join_124 rfl 0 rfl ?_
      refine j_gr (e := 95) hJ kR_0 fR_15_130 fl_X12_360 dX12_join_125 rfl ?_
      refine j_sipush hJ dX12_join_128 (by decide) ?_
      refine j_aload_n hJ dX12_join_131 rfl 0 rfl ?_
      refine j_gr (e := 84) hJ kR_0 fR_15_119 fl_X12_327 dX12_join_132 rfl ?_
      refine j_iload_n hJ dX12_join_135 rfl 1 rfl ?_
      refine j_iald hJ gx1 kR_84 hF.1 hF.2.1 dX12_join_136 (fun v20 ev20 gv20 => ?_)
      have hF := hF.2.2 v20 ev20 gv20
      refine j_imul hJ dX12_join_137 ?_
      have g21 := hF.1; have hF := hF.2
      refine j_bipush hJ dX12_join_138 (by decide) ?_
      refine j_aload_n hJ dX12_join_140 rfl 0 rfl ?_
      refine j_gr (e := 93) hJ kR_0 fR_15_128 fl_X12_354 dX12_join_141 rfl ?_
      refine j_aload_n hJ dX12_join_144 rfl 0 rfl ?_
      refine j_gr (e := 85) hJ kR_0 fR_15_120 fl_X12_330 dX12_join_145 rfl ?_
      refine j_iload_n hJ dX12_join_148 rfl 1 rfl ?_
      refine j_iald hJ gx1 kR_85 hF.1 hF.2.1 dX12_join_149 (fun v22 ev22 gv22 => ?_)
      have hF := hF.2.2 v22 ev22 gv22
      refine j_iald hJ gv22 kR_93 hF.1 hF.2.1 dX12_join_150 (fun v23 ev23 gv23 => ?_)
      have hF := hF.2.2 v23 ev23 gv23
      refine j_imul hJ dX12_join_151 ?_
      have g24 := hF.1; have hF := hF.2
      refine j_iadd hJ dX12_join_152 ?_
      have g25 := hF.1; have hF := hF.2
      refine j_aload_n hJ dX12_join_153 rfl 0 rfl ?_
      refine j_gr (e := 93) hJ kR_0 fR_15_128 fl_X12_354 dX12_join_154 rfl ?_
      refine j_aload_n hJ dX12_join_157 rfl 0 rfl ?_
      refine j_gr (e := 86) hJ kR_0 fR_15_121 fl_X12_333 dX12_join_158 rfl ?_
      refine j_iload_n hJ dX12_join_161 rfl 1 rfl ?_
      refine j_iald hJ gx1 kR_86 hF.1 hF.2.1 dX12_join_162 (fun v26 ev26 gv26 => ?_)
      have hF := hF.2.2 v26 ev26 gv26
      refine j_iald hJ gv26 kR_93 hF.1 hF.2.1 dX12_join_163 (fun v27 ev27 gv27 => ?_)
      have hF := hF.2.2 v27 ev27 gv27
      refine j_iadd hJ dX12_join_164 ?_
      have g28 := hF.1; have hF := hF.2
      refine j_iconst hJ dX12_join_165 ?_
      refine j_zast hJ g28 (by decide) kR_95 hF.1 hF.2.1 dX12_join_166 (fun M29 eM29 => ?_)
      have hF := hF.2.2 M29 eM29
      refine j_goto hJ 197 dX12_join_167 (by decide) ?_
      exact j_sub hJ [0] rfl (k_X12_join_b197 hin  hg0 hJ   _  hF)
set_option maxHeartbeats 4000000 in
set_option maxRecDepth 100000 in
theorem k_X12_join_b91 {l : Launch} {D : va_G} {cy : Nat → ClassId} {ad : Nat → Nat} {dp : Nat} {Q : Int → MM → Prop} {J : Nat → List (Nat × Value) → List Value → MM → Prop} (hin : jIn ad ksR.length)   (hg0 : jCN l D vwCl (tyR cy) cy ad ftR ksR (XtR ad) yX12_join (.code yX12_join cX12_join 13 (some .boolean) :: Om) (rm_gj_ dp) 3 (W_X12_join dp ad)) (hJ : jOk l D vwCl (tyR cy) cy ad ftR ksR (XtR ad) Om RX12 cX12_join 13 3 (rm_gj_ (dp + 1)) Q J)  : ∀ (x1 x2 x3 s0 s1 s2 : Int) (M : MM), ri_ x1 → ri_ x2 → ri_ x3 → ri_ s0 → ri_ s1 → ri_ s2 → w_X12_join_b91  (gj_  dp) Q  x1 x2 x3 s0 s1 s2 M → J 91 [(0, .ref (ad 0)), (1, .int (Ii x1)), (2, .int (Ii x2)), (3, .int (Ii x3))] [.int (Ii s0), .int (Ii s1), .int (Ii s2), .ref (ad 0)] M := by
  intro x1 x2 x3 s0 s1 s2 M gx1 gx2 gx3 gs0 gs1 gs2 hF
  unfold w_X12_join_b91 at hF
  refine j_callVz hJ (c_X12_isFactNow (l := l) (D := D) (cy := cy) (ad := ad) hin) rfl om_1512 ⟨rfl, rfl, by show _ ≤ _; simp only [rm_gj_]; omega, by show _ ≤ _; simp only [rm_gj_]; omega⟩ [.int (Ii s2), .int (Ii s1), .int (Ii s0)] mv_X12_930 hd_X12_isFactNowv kR_0 rfl rfl rfl (Nat.le_of_ble_eq_true rfl) dX12_join_91 ⟨s2, s1, s0, rfl, gs2, gs1, gs0, hF⟩ (fun r1 M2 gr1 qM2 => ?_)
  have hF := qM2 gr1
  refine j_if_eq hJ 99 (jz_ri gr1) dX12_join_94 (by decide) (fun z3 => ?_) (fun z3 => ?_)
  · have hF := hF.1 z3
    exact j_sub hJ [0, 1, 2, 3] rfl (k_X12_join_b99 hin  hg0 hJ  x1 x2 x3 _ gx1 gx2 gx3 hF)
  · have hF := hF.2 z3
    refine j_iconst hJ dX12_join_97 ?_
    exact j_zret hJ rfl (by decide) dX12_join_98 hF
set_option maxHeartbeats 4000000 in
set_option maxRecDepth 100000 in
theorem k_X12_join_b43 {l : Launch} {D : va_G} {cy : Nat → ClassId} {ad : Nat → Nat} {dp : Nat} {Q : Int → MM → Prop} {J : Nat → List (Nat × Value) → List Value → MM → Prop} (hin : jIn ad ksR.length)   (hg0 : jCN l D vwCl (tyR cy) cy ad ftR ksR (XtR ad) yX12_join (.code yX12_join cX12_join 13 (some .boolean) :: Om) (rm_gj_ dp) 3 (W_X12_join dp ad)) (hJ : jOk l D vwCl (tyR cy) cy ad ftR ksR (XtR ad) Om RX12 cX12_join 13 3 (rm_gj_ (dp + 1)) Q J)  : ∀ (x1 x2 s0 : Int) (M : MM), ri_ x1 → ri_ x2 → ri_ s0 → w_X12_join_b43  (gj_  dp) Q  x1 x2 s0 M → J 43 [(0, .ref (ad 0)), (1, .int (Ii x1)), (2, .int (Ii x2))] [.int (Ii s0)] M := by
  intro x1 x2 s0 M gx1 gx2 gs0 hF
  unfold w_X12_join_b43 at hF
  refine j_istore_n (lv' := [(3, .int (Ii s0)), (0, .ref (ad 0)), (1, .int (Ii x1)), (2, .int (Ii x2))]) hJ dX12_join_43 rfl (by decide) rfl ?_
  refine j_iload_n hJ dX12_join_44 rfl 0 rfl ?_
  refine j_if_eq hJ 99 gs0 dX12_join_45 (by decide) (fun z1 => ?_) (fun z1 => ?_)
  · have hF := hF.1 z1
    exact j_sub hJ [1, 2, 3, 0] rfl (k_X12_join_b99 hin  hg0 hJ  x1 x2 s0 _ gx1 gx2 gs0 hF)
  · have hF := hF.2 z1
    refine j_aload_n hJ dX12_join_48 rfl 1 rfl ?_
    refine j_aload_n hJ dX12_join_49 rfl 1 rfl ?_
    refine j_gr (e := 84) hJ kR_0 fR_15_119 fl_X12_327 dX12_join_50 rfl ?_
    refine j_iload_n hJ dX12_join_53 rfl 2 rfl ?_
    refine j_iald hJ gx1 kR_84 hF.1 hF.2.1 dX12_join_54 (fun v2 ev2 gv2 => ?_)
    have hF := hF.2.2 v2 ev2 gv2
    refine j_aload_n hJ dX12_join_55 rfl 1 rfl ?_
    refine j_gr (e := 93) hJ kR_0 fR_15_128 fl_X12_354 dX12_join_56 rfl ?_
    refine j_aload_n hJ dX12_join_59 rfl 1 rfl ?_
    refine j_gr (e := 85) hJ kR_0 fR_15_120 fl_X12_330 dX12_join_60 rfl ?_
    refine j_iload_n hJ dX12_join_63 rfl 2 rfl ?_
    refine j_iald hJ gx1 kR_85 hF.1 hF.2.1 dX12_join_64 (fun v3 ev3 gv3 => ?_)
    have hF := hF.2.2 v3 ev3 gv3
    refine j_iald hJ gv3 kR_93 hF.1 hF.2.1 dX12_join_65 (fun v4 ev4 gv4 => ?_)
    have hF := hF.2.2 v4 ev4 gv4
    refine j_aload_n hJ dX12_join_66 rfl 1 rfl ?_
    refine j_gr (e := 86) hJ kR_0 fR_15_121 fl_X12_333 dX12_join_67 rfl ?_
    refine j_iload_n hJ dX12_join_70 rfl 2 rfl ?_
    refine j_iald hJ gx1 kR_86 hF.1 hF.2.1 dX12_join_71 (fun v5 ev5 gv5 => ?_)
    have hF := hF.2.2 v5 ev5 gv5
    refine j_iconst hJ dX12_join_72 ?_
    refine j_icmp_ne hJ 80 gv5 rk_m1 dX12_join_73 (by decide) (fun z6 => ?_) (fun z6 => ?_)
    · have hF := hF.1 z6
      refine j_aload_n hJ dX12_join_80 rfl 1 rfl ?_
      refine j_gr (e := 93) hJ kR_0 fR_15_128 fl_X12_354 dX12_join_81 rfl ?_
      refine j_aload_n hJ dX12_join_84 rfl 1 rfl ?_
      refine j_gr (e := 86) hJ kR_0 fR_15_121 fl_X12_333 dX12_join_85 rfl ?_
      refine j_iload_n hJ dX12_join_88 rfl 2 rfl ?_
      refine j_iald hJ gx1 kR_86 hF.1 hF.2.1 dX12_join_89 (fun v7 ev7 gv7 => ?_)
      have hF := hF.2.2 v7 ev7 gv7
      refine j_iald hJ gv7 kR_93 hF.1 hF.2.1 dX12_join_90 (fun v8 ev8 gv8 => ?_)
      have hF := hF.2.2 v8 ev8 gv8
      exact j_sub hJ [1, 2, 3, 0] rfl (k_X12_join_b91 hin  hg0 hJ  x1 x2 s0 v8 v4 v2 _ gx1 gx2 gs0 gv8 gv4 gv2 hF)
    · have hF := hF.2 z6
      refine j_iconst hJ dX12_join_76 ?_
      refine j_goto hJ 91 dX12_join_77 (by decide) ?_
      exact j_sub hJ [1, 2, 3, 0] rfl (k_X12_join_b91 hin  hg0 hJ  x1 x2 s0 0 v4 v2 _ gx1 gx2 gs0 rk_0 gv4 gv2 hF)
set_option maxHeartbeats 4000000 in
set_option maxRecDepth 100000 in
theorem k_X12_join_b42 {l : Launch} {D : va_G} {cy : Nat → ClassId} {ad : Nat → Nat} {dp : Nat} {Q : Int → MM → Prop} {J : Nat → List (Nat × Value) → List Value → MM → Prop} (hin : jIn ad ksR.length)   (hg0 : jCN l D vwCl (tyR cy) cy ad ftR ksR (XtR ad) yX12_join (.code yX12_join cX12_join 13 (some .boolean) :: Om) (rm_gj_ dp) 3 (W_X12_join dp ad)) (hJ : jOk l D vwCl (tyR cy) cy ad ftR ksR (XtR ad) Om RX12 cX12_join 13 3 (rm_gj_ (dp + 1)) Q J)  : ∀ (x1 x2 : Int) (M : MM), ri_ x1 → ri_ x2 → w_X12_join_b42  (gj_  dp) Q  x1 x2 M → J 42 [(0, .ref (ad 0)), (1, .int (Ii x1)), (2, .int (Ii x2))] [] M := by
  intro x1 x2 M gx1 gx2 hF
  unfold w_X12_join_b42 at hF
  refine j_iconst hJ dX12_join_42 ?_
  exact j_sub hJ [0, 1, 2] rfl (k_X12_join_b43 hin  hg0 hJ  x1 x2 0 _ gx1 gx2 rk_0 hF)
set_option maxHeartbeats 4000000 in
set_option maxRecDepth 100000 in
theorem k_X12_join_b38 {l : Launch} {D : va_G} {cy : Nat → ClassId} {ad : Nat → Nat} {dp : Nat} {Q : Int → MM → Prop} {J : Nat → List (Nat × Value) → List Value → MM → Prop} (hin : jIn ad ksR.length)   (hg0 : jCN l D vwCl (tyR cy) cy ad ftR ksR (XtR ad) yX12_join (.code yX12_join cX12_join 13 (some .boolean) :: Om) (rm_gj_ dp) 3 (W_X12_join dp ad)) (hJ : jOk l D vwCl (tyR cy) cy ad ftR ksR (XtR ad) Om RX12 cX12_join 13 3 (rm_gj_ (dp + 1)) Q J)  : ∀ (x1 x2 : Int) (M : MM), ri_ x1 → ri_ x2 → w_X12_join_b38  (gj_  dp) Q  x1 x2 M → J 38 [(0, .ref (ad 0)), (1, .int (Ii x1)), (2, .int (Ii x2))] [] M := by
  intro x1 x2 M gx1 gx2 hF
  unfold w_X12_join_b38 at hF
  refine j_iconst hJ dX12_join_38 ?_
  refine j_goto hJ 43 dX12_join_39 (by decide) ?_
  exact j_sub hJ [0, 1, 2] rfl (k_X12_join_b43 hin  hg0 hJ  x1 x2 1 _ gx1 gx2 rk_1 hF)
set_option maxHeartbeats 4000000 in
set_option maxRecDepth 100000 in
theorem s_X12_join {l : Launch} {D : va_G} {cy : Nat → ClassId} {ad : Nat → Nat} {dp : Nat} (hin : jIn ad ksR.length) (hg0 : jCN l D vwCl (tyR cy) cy ad ftR ksR (XtR ad) yX12_join (.code yX12_join cX12_join 13 (some .boolean) :: Om) (rm_gj_ dp) 3 (W_X12_join dp ad)) : jCN l D vwCl (tyR cy) cy ad ftR ksR (XtR ad) yX12_join (.code yX12_join cX12_join 13 (some .boolean) :: Om) (rm_gj_ (dp + 1)) 3 (W_X12_join (dp + 1) ad) := by
  refine jCN_of (y := yX12_join) (cc := cX12_join) (nL := 13) (rk := 3) (rm := (rm_gj_ (dp + 1))) (own := RX12) (tyR_ok cy) hin (XtR_ok ad) Om_good (by decide) rfl ?_
  intro Q av M hF
  obtain ⟨p1, p2, rfl, gp1, gp2, hF⟩ := hF
  refine ⟨Nat.le_of_ble_eq_true rfl, fun J hJ => ?_⟩
  show J 0 [(0, .ref (ad 0)), (1, .int (Ii p1)), (2, .int (Ii p2))] [] M
  have hF : b_X12_join  (gj_  dp) Q p1 p2 M := hF
  unfold b_X12_join at hF
  refine j_aload_n hJ dX12_join_0 rfl 0 rfl ?_
  refine j_gr (e := 96) hJ kR_0 fR_15_131 fl_X12_363 dX12_join_1 rfl ?_
  refine j_aload_n hJ dX12_join_4 rfl 0 rfl ?_
  refine j_gr (e := 85) hJ kR_0 fR_15_120 fl_X12_330 dX12_join_5 rfl ?_
  refine j_iload_n hJ dX12_join_8 rfl 1 rfl ?_
  refine j_iald hJ gp1 kR_85 hF.1 hF.2.1 dX12_join_9 (fun v1 ev1 gv1 => ?_)
  have hF := hF.2.2 v1 ev1 gv1
  refine j_zald hJ gv1 kR_96 hF.1 hF.2.1 dX12_join_10 (fun v2 ev2 gv2 => ?_)
  have hF := hF.2.2 v2 ev2 gv2
  refine j_if_eq hJ 42 (jz_ri gv2) dX12_join_11 (by decide) (fun z3 => ?_) (fun z3 => ?_)
  · have hF := hF.1 z3
    exact j_sub hJ [0, 1, 2] rfl (k_X12_join_b42 hin  hg0 hJ  p1 p2 _ gp1 gp2 hF)
  · have hF := hF.2 z3
    refine j_aload_n hJ dX12_join_14 rfl 0 rfl ?_
    refine j_gr (e := 86) hJ kR_0 fR_15_121 fl_X12_333 dX12_join_15 rfl ?_
    refine j_iload_n hJ dX12_join_18 rfl 1 rfl ?_
    refine j_iald hJ gp1 kR_86 hF.1 hF.2.1 dX12_join_19 (fun v4 ev4 gv4 => ?_)
    have hF := hF.2.2 v4 ev4 gv4
    refine j_iconst hJ dX12_join_20 ?_
    refine j_icmp_eq hJ 38 gv4 rk_m1 dX12_join_21 (by decide) (fun z5 => ?_) (fun z5 => ?_)
    · have hF := hF.1 z5
      exact j_sub hJ [0, 1, 2] rfl (k_X12_join_b38 hin  hg0 hJ  p1 p2 _ gp1 gp2 hF)
    · have hF := hF.2 z5
      refine j_aload_n hJ dX12_join_24 rfl 0 rfl ?_
      refine j_gr (e := 96) hJ kR_0 fR_15_131 fl_X12_363 dX12_join_25 rfl ?_
      refine j_aload_n hJ dX12_join_28 rfl 0 rfl ?_
      refine j_gr (e := 86) hJ kR_0 fR_15_121 fl_X12_333 dX12_join_29 rfl ?_
      refine j_iload_n hJ dX12_join_32 rfl 1 rfl ?_
      refine j_iald hJ gp1 kR_86 hF.1 hF.2.1 dX12_join_33 (fun v6 ev6 gv6 => ?_)
      have hF := hF.2.2 v6 ev6 gv6
      refine j_zald hJ gv6 kR_96 hF.1 hF.2.1 dX12_join_34 (fun v7 ev7 gv7 => ?_)
      have hF := hF.2.2 v7 ev7 gv7
      refine j_if_eq hJ 42 (jz_ri gv7) dX12_join_35 (by decide) (fun z8 => ?_) (fun z8 => ?_)
      · have hF := hF.1 z8
        exact j_sub hJ [0, 1, 2] rfl (k_X12_join_b42 hin  hg0 hJ  p1 p2 _ gp1 gp2 hF)
      · have hF := hF.2 z8
        exact j_sub hJ [0, 1, 2] rfl (k_X12_join_b38 hin  hg0 hJ  p1 p2 _ gp1 gp2 hF)
set_option maxHeartbeats 4000000 in
theorem a_gj_ {l : Launch} {D : va_G} {cy : Nat → ClassId} {ad : Nat → Nat} (hin : jIn ad ksR.length) (dp : Nat) : jCN l D vwCl (tyR cy) cy ad ftR ksR (XtR ad) yX12_join (.code yX12_join cX12_join 13 (some .boolean) :: Om) (rm_gj_ dp) 3 (W_X12_join dp ad) := by
  induction dp with
  | zero =>
    exact (fun post av M sz hR hF => by obtain ⟨p1, p2, rfl, gp1, gp2, hF⟩ := hF; exact False.elim hF)
  | succ dp ih =>
    have hg0 := ih
    exact s_X12_join hin hg0
theorem c_X12_join {l : Launch} {D : va_G} {cy : Nat → ClassId} {ad : Nat → Nat} (hin : jIn ad ksR.length) : jCN l D vwCl (tyR cy) cy ad ftR ksR (XtR ad) yX12_join (.code yX12_join cX12_join 13 (some .boolean) :: Om) (rm_gj_ 12) 3 (W_X12_join 12 ad) := (a_gj_ hin 12)
def W_X12_findLinks (ad : Nat → Nat) (Q : Int → MM → Prop) (av : List Value) (M : MM) : Prop := ∃ (p1 : Int), av = [.ref (ad 0), .int (Ii p1)] ∧ ri_ p1 ∧ w_X12_findLinks  Q p1 M
set_option maxHeartbeats 4000000 in
set_option maxRecDepth 100000 in
theorem k_X12_findLinks_b104 {l : Launch} {D : va_G} {cy : Nat → ClassId} {ad : Nat → Nat} {Q : Int → MM → Prop} {J : Nat → List (Nat × Value) → List Value → MM → Prop} (hin : jIn ad ksR.length)   (hJ : jOk l D vwCl (tyR cy) cy ad ftR ksR (XtR ad) Om RX12 cX12_findLinks 5 0 ({ frames := 3, cells := 0, slots := 0, locals := 70 } : Room) Q J) {K9 : Int → Int → Int → MM → Prop} (hK9 : ∀ (x1 x2 x3 : Int) (M : MM), ri_ x1 → ri_ x2 → ri_ x3 → K9 x1 x2 x3 M → J 9 [(0, .ref (ad 0)), (1, .int (Ii x1)), (2, .int (Ii x2)), (3, .int (Ii x3))] [] M) {K46 : Int → Int → Int → Int → MM → Prop} (hK46 : ∀ (x1 x2 x3 x4 : Int) (M : MM), ri_ x1 → ri_ x2 → ri_ x3 → ri_ x4 → K46 x1 x2 x3 x4 M → J 46 [(0, .ref (ad 0)), (1, .int (Ii x1)), (2, .int (Ii x2)), (3, .int (Ii x3)), (4, .int (Ii x4))] [] M) : ∀ (x1 x2 x3 x4 : Int) (M : MM), ri_ x1 → ri_ x2 → ri_ x3 → ri_ x4 → w_X12_findLinks_b104  Q K9 K46 x1 x2 x3 x4 M → J 104 [(0, .ref (ad 0)), (1, .int (Ii x1)), (2, .int (Ii x2)), (3, .int (Ii x3)), (4, .int (Ii x4))] [] M := by
  intro x1 x2 x3 x4 M gx1 gx2 gx3 gx4 hF
  unfold w_X12_findLinks_b104 at hF
  refine j_iinc (lv' := [(4, .int (Ii (x4 + 1))), (0, .ref (ad 0)), (1, .int (Ii x1)), (2, .int (Ii x2)), (3, .int (Ii x3))]) (k := 4) hJ dX12_findLinks_104 rfl (by decide) rfl ?_
  have g1 := hF.1; have hF := hF.2
  refine j_goto hJ 46 dX12_findLinks_107 (by decide) ?_
  exact j_sub hJ [1, 2, 3, 4, 0] rfl (hK46 x1 x2 x3 (x4 + 1) _ gx1 gx2 gx3 g1 hF)
set_option maxHeartbeats 4000000 in
set_option maxRecDepth 100000 in
theorem k_X12_findLinks_b46 {l : Launch} {D : va_G} {cy : Nat → ClassId} {ad : Nat → Nat} {Q : Int → MM → Prop} {J : Nat → List (Nat × Value) → List Value → MM → Prop} (hin : jIn ad ksR.length)   (hJ : jOk l D vwCl (tyR cy) cy ad ftR ksR (XtR ad) Om RX12 cX12_findLinks 5 0 ({ frames := 3, cells := 0, slots := 0, locals := 70 } : Room) Q J) {K9 : Int → Int → Int → MM → Prop} (hK9 : ∀ (x1 x2 x3 : Int) (M : MM), ri_ x1 → ri_ x2 → ri_ x3 → K9 x1 x2 x3 M → J 9 [(0, .ref (ad 0)), (1, .int (Ii x1)), (2, .int (Ii x2)), (3, .int (Ii x3))] [] M) : ∀ (x1 x2 x3 x4 : Int) (M : MM), ri_ x1 → ri_ x2 → ri_ x3 → ri_ x4 → w_X12_findLinks_b46  Q K9 x1 x2 x3 x4 M → J 46 [(0, .ref (ad 0)), (1, .int (Ii x1)), (2, .int (Ii x2)), (3, .int (Ii x3)), (4, .int (Ii x4))] [] M := by
  have H9 : ∀ (n : Nat) (x1 x2 x3 x4 : Int) (M : MM), ri_ x1 → ri_ x2 → ri_ x3 → ri_ x4 → jit (fun _ _ _ _ _ => False) (wb_X12_findLinks_b46  Q K9) n x1 x2 x3 x4 M → J 46 [(0, .ref (ad 0)), (1, .int (Ii x1)), (2, .int (Ii x2)), (3, .int (Ii x3)), (4, .int (Ii x4))] [] M := by
    intro n
    induction n with
    | zero => intro x1 x2 x3 x4 M gx1 gx2 gx3 gx4 hF; exact False.elim hF
    | succ n ih =>
    intro x1 x2 x3 x4 M gx1 gx2 gx3 gx4 hF
    have hF : wb_X12_findLinks_b46  Q K9 (jit (fun _ _ _ _ _ => False) (wb_X12_findLinks_b46  Q K9) n) x1 x2 x3 x4 M := hF
    unfold wb_X12_findLinks_b46 at hF
    refine j_iload hJ dX12_findLinks_46 4 rfl ?_
    refine j_aload_n hJ dX12_findLinks_48 rfl 0 rfl ?_
    refine j_iload_n hJ dX12_findLinks_49 rfl 1 rfl ?_
    refine j_iload_n hJ dX12_findLinks_50 rfl 3 rfl ?_
    refine j_callVi hJ (c_X12_slotsIn (l := l) (D := D) (cy := cy) (ad := ad) hin) rfl om_1165 ⟨rfl, rfl, Nat.le_of_ble_eq_true rfl, Nat.le_of_ble_eq_true rfl⟩ [.int (Ii x1), .int (Ii x3)] mv_X12_570 hd_X12_slotsInv kR_0 rfl rfl rfl (Nat.le_of_ble_eq_true rfl) dX12_findLinks_51 ⟨x1, x3, rfl, gx1, gx3, hF⟩ (fun r1 M2 gr1 qM2 => ?_)
    have hF := qM2 gr1
    refine j_icmp_ge hJ 110 gx4 gr1 dX12_findLinks_54 (by decide) (fun z3 => ?_) (fun z3 => ?_)
    · have hF := hF.1 z3
      refine j_iinc (lv' := [(3, .int (Ii (x3 + 1))), (0, .ref (ad 0)), (1, .int (Ii x1)), (2, .int (Ii x2)), (4, .int (Ii x4))]) (k := 3) hJ dX12_findLinks_110 rfl (by decide) rfl ?_
      have g4 := hF.1; have hF := hF.2
      refine j_goto hJ 9 dX12_findLinks_113 (by decide) ?_
      exact j_sub hJ [1, 2, 3, 0] rfl (hK9 x1 x2 (x3 + 1) _ gx1 gx2 g4 hF)
    · have hF := hF.2 z3
      refine j_aload_n hJ dX12_findLinks_57 rfl 0 rfl ?_
      refine j_iload_n hJ dX12_findLinks_58 rfl 1 rfl ?_
      refine j_iload_n hJ dX12_findLinks_59 rfl 3 rfl ?_
      refine j_iload hJ dX12_findLinks_60 4 rfl ?_
      refine j_callVz hJ (c_X12_linksIn (l := l) (D := D) (cy := cy) (ad := ad) hin) rfl om_1169 ⟨rfl, rfl, Nat.le_of_ble_eq_true rfl, Nat.le_of_ble_eq_true rfl⟩ [.int (Ii x1), .int (Ii x3), .int (Ii x4)] mv_X12_573 hd_X12_linksInv kR_0 rfl rfl rfl (Nat.le_of_ble_eq_true rfl) dX12_findLinks_62 ⟨x1, x3, x4, rfl, gx1, gx3, gx4, hF⟩ (fun r5 M6 gr5 qM6 => ?_)
      have hF := qM6 gr5
      refine j_if_eq hJ 104 (jz_ri gr5) dX12_findLinks_65 (by decide) (fun z7 => ?_) (fun z7 => ?_)
      · have hF := hF.1 z7
        exact j_sub hJ [0, 1, 2, 3, 4] rfl (k_X12_findLinks_b104 hin  hJ hK9 ih x1 x2 x3 x4 _ gx1 gx2 gx3 gx4 hF)
      · have hF := hF.2 z7
        refine j_aload_n hJ dX12_findLinks_68 rfl 0 rfl ?_
        refine j_iload_n hJ dX12_findLinks_69 rfl 1 rfl ?_
        refine j_iload_n hJ dX12_findLinks_70 rfl 3 rfl ?_
        refine j_iload hJ dX12_findLinks_71 4 rfl ?_
        refine j_callVl hJ (c_X12_valueIn (l := l) (D := D) (cy := cy) (ad := ad) hin) rfl om_1173 ⟨rfl, rfl, Nat.le_of_ble_eq_true rfl, Nat.le_of_ble_eq_true rfl⟩ [.int (Ii x1), .int (Ii x3), .int (Ii x4)] mv_X12_577 hd_X12_valueInv kR_0 rfl rfl rfl (Nat.le_of_ble_eq_true rfl) dX12_findLinks_73 ⟨x1, x3, x4, rfl, gx1, gx3, gx4, hF⟩ (fun r8 M9 gr8 qM9 => ?_)
        have hF := qM9 gr8
        refine j_ldc2 hJ (-1) om_1068 (by decide) dX12_findLinks_76 ?_
        refine j_lcmp_eq hJ 104 gr8 lk_m1 dX12_findLinks_79 dX12_findLinks_80 (by decide) (fun z10 => ?_) (fun z10 => ?_)
        · have hF := hF.1 z10
          exact j_sub hJ [0, 1, 2, 3, 4] rfl (k_X12_findLinks_b104 hin  hJ hK9 ih x1 x2 x3 x4 _ gx1 gx2 gx3 gx4 hF)
        · have hF := hF.2 z10
          refine j_aload_n hJ dX12_findLinks_83 rfl 0 rfl ?_
          refine j_gr (e := 61) hJ kR_0 fR_15_71 fl_X12_253 dX12_findLinks_84 rfl ?_
          refine j_sipush hJ dX12_findLinks_87 (by decide) ?_
          refine j_iload_n hJ dX12_findLinks_90 rfl 3 rfl ?_
          refine j_imul hJ dX12_findLinks_91 ?_
          have g11 := hF.1; have hF := hF.2
          refine j_aload_n hJ dX12_findLinks_92 rfl 0 rfl ?_
          refine j_iload_n hJ dX12_findLinks_93 rfl 1 rfl ?_
          refine j_iload_n hJ dX12_findLinks_94 rfl 3 rfl ?_
          refine j_iload hJ dX12_findLinks_95 4 rfl ?_
          refine j_callVl hJ (c_X12_valueIn (l := l) (D := D) (cy := cy) (ad := ad) hin) rfl om_1173 ⟨rfl, rfl, Nat.le_of_ble_eq_true rfl, Nat.le_of_ble_eq_true rfl⟩ [.int (Ii x1), .int (Ii x3), .int (Ii x4)] mv_X12_577 hd_X12_valueInv kR_0 rfl rfl rfl (Nat.le_of_ble_eq_true rfl) dX12_findLinks_97 ⟨x1, x3, x4, rfl, gx1, gx3, gx4, hF⟩ (fun r12 M13 gr12 qM13 => ?_)
          have hF := qM13 gr12
          refine j_l2i hJ dX12_findLinks_100 ?_
          have g14 := hF.1; have hF := hF.2
          refine j_iadd hJ dX12_findLinks_101 ?_
          have g15 := hF.1; have hF := hF.2
          refine j_iconst hJ dX12_findLinks_102 ?_
          refine j_zast hJ g15 (by decide) kR_61 hF.1 hF.2.1 dX12_findLinks_103 (fun M16 eM16 => ?_)
          have hF := hF.2.2 M16 eM16
          exact j_sub hJ [0, 1, 2, 3, 4] rfl (k_X12_findLinks_b104 hin  hJ hK9 ih x1 x2 x3 x4 _ gx1 gx2 gx3 gx4 hF)
  intro x1 x2 x3 x4 M gx1 gx2 gx3 gx4 hF
  obtain ⟨n, hF⟩ := hF
  exact H9 n x1 x2 x3 x4 M gx1 gx2 gx3 gx4 hF
set_option maxHeartbeats 4000000 in
set_option maxRecDepth 100000 in
theorem k_X12_findLinks_b17 {l : Launch} {D : va_G} {cy : Nat → ClassId} {ad : Nat → Nat} {Q : Int → MM → Prop} {J : Nat → List (Nat × Value) → List Value → MM → Prop} (hin : jIn ad ksR.length)   (hJ : jOk l D vwCl (tyR cy) cy ad ftR ksR (XtR ad) Om RX12 cX12_findLinks 5 0 ({ frames := 3, cells := 0, slots := 0, locals := 70 } : Room) Q J) {K9 : Int → Int → Int → MM → Prop} (hK9 : ∀ (x1 x2 x3 : Int) (M : MM), ri_ x1 → ri_ x2 → ri_ x3 → K9 x1 x2 x3 M → J 9 [(0, .ref (ad 0)), (1, .int (Ii x1)), (2, .int (Ii x2)), (3, .int (Ii x3))] [] M) : ∀ (x1 x2 x3 x4 : Int) (M : MM), ri_ x1 → ri_ x2 → ri_ x3 → ri_ x4 → w_X12_findLinks_b17  Q K9 x1 x2 x3 x4 M → J 17 [(0, .ref (ad 0)), (1, .int (Ii x1)), (2, .int (Ii x2)), (3, .int (Ii x3)), (4, .int (Ii x4))] [] M := by
  have H9 : ∀ (n : Nat) (x1 x2 x3 x4 : Int) (M : MM), ri_ x1 → ri_ x2 → ri_ x3 → ri_ x4 → jit (fun _ _ _ _ _ => False) (wb_X12_findLinks_b17  Q K9) n x1 x2 x3 x4 M → J 17 [(0, .ref (ad 0)), (1, .int (Ii x1)), (2, .int (Ii x2)), (3, .int (Ii x3)), (4, .int (Ii x4))] [] M := by
    intro n
    induction n with
    | zero => intro x1 x2 x3 x4 M gx1 gx2 gx3 gx4 hF; exact False.elim hF
    | succ n ih =>
    intro x1 x2 x3 x4 M gx1 gx2 gx3 gx4 hF
    have hF : wb_X12_findLinks_b17  Q K9 (jit (fun _ _ _ _ _ => False) (wb_X12_findLinks_b17  Q K9) n) x1 x2 x3 x4 M := hF
    unfold wb_X12_findLinks_b17 at hF
    refine j_iload hJ dX12_findLinks_17 4 rfl ?_
    refine j_iload_n hJ dX12_findLinks_19 rfl 2 rfl ?_
    refine j_icmp_ge hJ 43 gx4 gx2 dX12_findLinks_20 (by decide) (fun z1 => ?_) (fun z1 => ?_)
    · have hF := hF.1 z1
      refine j_iconst hJ dX12_findLinks_43 ?_
      refine j_istore (lv' := [(4, .int (Ii 0)), (0, .ref (ad 0)), (1, .int (Ii x1)), (2, .int (Ii x2)), (3, .int (Ii x3))]) hJ dX12_findLinks_44 (by decide) rfl ?_
      exact j_sub hJ [1, 2, 3, 4, 0] rfl (k_X12_findLinks_b46 hin  hJ hK9 x1 x2 x3 0 _ gx1 gx2 gx3 rk_0 hF)
    · have hF := hF.2 z1
      refine j_aload_n hJ dX12_findLinks_23 rfl 0 rfl ?_
      refine j_gr (e := 61) hJ kR_0 fR_15_71 fl_X12_253 dX12_findLinks_24 rfl ?_
      refine j_sipush hJ dX12_findLinks_27 (by decide) ?_
      refine j_iload_n hJ dX12_findLinks_30 rfl 3 rfl ?_
      refine j_imul hJ dX12_findLinks_31 ?_
      have g2 := hF.1; have hF := hF.2
      refine j_iload hJ dX12_findLinks_32 4 rfl ?_
      refine j_iadd hJ dX12_findLinks_34 ?_
      have g3 := hF.1; have hF := hF.2
      refine j_iconst hJ dX12_findLinks_35 ?_
      refine j_zast hJ g3 (by decide) kR_61 hF.1 hF.2.1 dX12_findLinks_36 (fun M4 eM4 => ?_)
      have hF := hF.2.2 M4 eM4
      refine j_iinc (lv' := [(4, .int (Ii (x4 + 1))), (0, .ref (ad 0)), (1, .int (Ii x1)), (2, .int (Ii x2)), (3, .int (Ii x3))]) (k := 4) hJ dX12_findLinks_37 rfl (by decide) rfl ?_
      have g5 := hF.1; have hF := hF.2
      refine j_goto hJ 17 dX12_findLinks_40 (by decide) ?_
      exact j_sub hJ [1, 2, 3, 4, 0] rfl (ih x1 x2 x3 (x4 + 1) _ gx1 gx2 gx3 g5 hF)
  intro x1 x2 x3 x4 M gx1 gx2 gx3 gx4 hF
  obtain ⟨n, hF⟩ := hF
  exact H9 n x1 x2 x3 x4 M gx1 gx2 gx3 gx4 hF
set_option maxHeartbeats 4000000 in
set_option maxRecDepth 100000 in
theorem k_X12_findLinks_b9 {l : Launch} {D : va_G} {cy : Nat → ClassId} {ad : Nat → Nat} {Q : Int → MM → Prop} {J : Nat → List (Nat × Value) → List Value → MM → Prop} (hin : jIn ad ksR.length)   (hJ : jOk l D vwCl (tyR cy) cy ad ftR ksR (XtR ad) Om RX12 cX12_findLinks 5 0 ({ frames := 3, cells := 0, slots := 0, locals := 70 } : Room) Q J)  : ∀ (x1 x2 x3 : Int) (M : MM), ri_ x1 → ri_ x2 → ri_ x3 → w_X12_findLinks_b9  Q  x1 x2 x3 M → J 9 [(0, .ref (ad 0)), (1, .int (Ii x1)), (2, .int (Ii x2)), (3, .int (Ii x3))] [] M := by
  have H9 : ∀ (n : Nat) (x1 x2 x3 : Int) (M : MM), ri_ x1 → ri_ x2 → ri_ x3 → jit (fun _ _ _ _ => False) (wb_X12_findLinks_b9  Q ) n x1 x2 x3 M → J 9 [(0, .ref (ad 0)), (1, .int (Ii x1)), (2, .int (Ii x2)), (3, .int (Ii x3))] [] M := by
    intro n
    induction n with
    | zero => intro x1 x2 x3 M gx1 gx2 gx3 hF; exact False.elim hF
    | succ n ih =>
    intro x1 x2 x3 M gx1 gx2 gx3 hF
    have hF : wb_X12_findLinks_b9  Q  (jit (fun _ _ _ _ => False) (wb_X12_findLinks_b9  Q ) n) x1 x2 x3 M := hF
    unfold wb_X12_findLinks_b9 at hF
    refine j_iload_n hJ dX12_findLinks_9 rfl 3 rfl ?_
    refine j_iload_n hJ dX12_findLinks_10 rfl 2 rfl ?_
    refine j_icmp_ge hJ 116 gx3 gx2 dX12_findLinks_11 (by decide) (fun z1 => ?_) (fun z1 => ?_)
    · have hF := hF.1 z1
      exact j_vret hJ rfl dX12_findLinks_116 hF
    · have hF := hF.2 z1
      refine j_iconst hJ dX12_findLinks_14 ?_
      refine j_istore (lv' := [(4, .int (Ii 0)), (0, .ref (ad 0)), (1, .int (Ii x1)), (2, .int (Ii x2)), (3, .int (Ii x3))]) hJ dX12_findLinks_15 (by decide) rfl ?_
      exact j_sub hJ [1, 2, 3, 4, 0] rfl (k_X12_findLinks_b17 hin  hJ ih x1 x2 x3 0 _ gx1 gx2 gx3 rk_0 hF)
  intro x1 x2 x3 M gx1 gx2 gx3 hF
  obtain ⟨n, hF⟩ := hF
  exact H9 n x1 x2 x3 M gx1 gx2 gx3 hF
set_option maxHeartbeats 4000000 in
set_option maxRecDepth 100000 in
theorem c_X12_findLinks {l : Launch} {D : va_G} {cy : Nat → ClassId} {ad : Nat → Nat} (hin : jIn ad ksR.length) : jCN l D vwCl (tyR cy) cy ad ftR ksR (XtR ad) yX12_findLinks (.code yX12_findLinks cX12_findLinks 5 none :: Om) ({ frames := 3, cells := 0, slots := 0, locals := 70 } : Room) 0 (W_X12_findLinks ad) := by
  refine jCN_of (y := yX12_findLinks) (cc := cX12_findLinks) (nL := 5) (rk := 0) (rm := ({ frames := 3, cells := 0, slots := 0, locals := 70 } : Room)) (own := RX12) (tyR_ok cy) hin (XtR_ok ad) Om_good (by decide) rfl ?_
  intro Q av M hF
  obtain ⟨p1, rfl, gp1, hF⟩ := hF
  refine ⟨Nat.le_of_ble_eq_true rfl, fun J hJ => ?_⟩
  show J 0 [(0, .ref (ad 0)), (1, .int (Ii p1))] [] M
  unfold w_X12_findLinks at hF
  refine j_aload_n hJ dX12_findLinks_0 rfl 0 rfl ?_
  refine j_gr (e := 38) hJ kR_0 fR_15_48 fl_X12_183 dX12_findLinks_1 rfl ?_
  refine j_iload_n hJ dX12_findLinks_4 rfl 1 rfl ?_
  refine j_iald hJ gp1 kR_38 hF.1 hF.2.1 dX12_findLinks_5 (fun v1 ev1 gv1 => ?_)
  have hF := hF.2.2 v1 ev1 gv1
  refine j_istore_n (lv' := [(2, .int (Ii v1)), (0, .ref (ad 0)), (1, .int (Ii p1))]) hJ dX12_findLinks_6 rfl (by decide) rfl ?_
  refine j_iconst hJ dX12_findLinks_7 ?_
  refine j_istore_n (lv' := [(3, .int (Ii 0)), (2, .int (Ii v1)), (0, .ref (ad 0)), (1, .int (Ii p1))]) hJ dX12_findLinks_8 rfl (by decide) rfl ?_
  exact j_sub hJ [2, 3, 1, 0] rfl (k_X12_findLinks_b9 hin  hJ  p1 v1 0 _ gp1 gv1 rk_0 hF)
def W_X12_count (ad : Nat → Nat) (Q : Int → MM → Prop) (av : List Value) (M : MM) : Prop := ∃ (p1 : Int), av = [.ref (ad 0), .int (Ii p1)] ∧ ri_ p1 ∧ w_X12_count  Q p1 M
set_option maxHeartbeats 4000000 in
set_option maxRecDepth 100000 in
theorem k_X12_count_b97 {l : Launch} {D : va_G} {cy : Nat → ClassId} {ad : Nat → Nat} {Q : Int → MM → Prop} {J : Nat → List (Nat × Value) → List Value → MM → Prop} (hin : jIn ad ksR.length)   (hJ : jOk l D vwCl (tyR cy) cy ad ftR ksR (XtR ad) Om RX12 cX12_count 5 1 ({ frames := 0, cells := 0, slots := 0, locals := 0 } : Room) Q J) {K4 : Int → Int → Int → MM → Prop} (hK4 : ∀ (x1 x2 x3 : Int) (M : MM), ri_ x1 → ri_ x2 → ri_ x3 → K4 x1 x2 x3 M → J 4 [(0, .ref (ad 0)), (1, .int (Ii x1)), (2, .int (Ii x2)), (3, .int (Ii x3))] [] M) : ∀ (x1 x2 x3 : Int) (M : MM), ri_ x1 → ri_ x2 → ri_ x3 → w_X12_count_b97  Q K4 x1 x2 x3 M → J 97 [(0, .ref (ad 0)), (1, .int (Ii x1)), (2, .int (Ii x2)), (3, .int (Ii x3))] [] M := by
  intro x1 x2 x3 M gx1 gx2 gx3 hF
  unfold w_X12_count_b97 at hF
  refine j_iinc (lv' := [(3, .int (Ii (x3 + 1))), (0, .ref (ad 0)), (1, .int (Ii x1)), (2, .int (Ii x2))]) (k := 3) hJ dX12_count_97 rfl (by decide) rfl ?_
  have g1 := hF.1; have hF := hF.2
  refine j_goto hJ 4 dX12_count_100 (by decide) ?_
  exact j_sub hJ [1, 2, 3, 0] rfl (hK4 x1 x2 (x3 + 1) _ gx1 gx2 g1 hF)
set_option maxHeartbeats 4000000 in
set_option maxRecDepth 100000 in
theorem k_X12_count_b89 {l : Launch} {D : va_G} {cy : Nat → ClassId} {ad : Nat → Nat} {Q : Int → MM → Prop} {J : Nat → List (Nat × Value) → List Value → MM → Prop} (hin : jIn ad ksR.length)   (hJ : jOk l D vwCl (tyR cy) cy ad ftR ksR (XtR ad) Om RX12 cX12_count 5 1 ({ frames := 0, cells := 0, slots := 0, locals := 0 } : Room) Q J) {K4 : Int → Int → Int → MM → Prop} (hK4 : ∀ (x1 x2 x3 : Int) (M : MM), ri_ x1 → ri_ x2 → ri_ x3 → K4 x1 x2 x3 M → J 4 [(0, .ref (ad 0)), (1, .int (Ii x1)), (2, .int (Ii x2)), (3, .int (Ii x3))] [] M) {K45 : Int → Int → Int → Int → MM → Prop} (hK45 : ∀ (x1 x2 x3 x4 : Int) (M : MM), ri_ x1 → ri_ x2 → ri_ x3 → ri_ x4 → K45 x1 x2 x3 x4 M → J 45 [(0, .ref (ad 0)), (1, .int (Ii x1)), (2, .int (Ii x2)), (3, .int (Ii x3)), (4, .int (Ii x4))] [] M) : ∀ (x1 x3 x4 s0 s1 : Int) (M : MM), ri_ x1 → ri_ x3 → ri_ x4 → ri_ s0 → ri_ s1 → w_X12_count_b89  Q K4 K45 x1 x3 x4 s0 s1 M → J 89 [(0, .ref (ad 0)), (1, .int (Ii x1)), (3, .int (Ii x3)), (4, .int (Ii x4))] [.int (Ii s0), .int (Ii s1)] M := by
  intro x1 x3 x4 s0 s1 M gx1 gx3 gx4 gs0 gs1 hF
  unfold w_X12_count_b89 at hF
  refine j_iadd hJ dX12_count_89 ?_
  have g1 := hF.1; have hF := hF.2
  refine j_istore_n (lv' := [(2, .int (Ii (s1 + s0))), (0, .ref (ad 0)), (1, .int (Ii x1)), (3, .int (Ii x3)), (4, .int (Ii x4))]) hJ dX12_count_90 rfl (by decide) rfl ?_
  refine j_iinc (lv' := [(4, .int (Ii (x4 + 1))), (2, .int (Ii (s1 + s0))), (0, .ref (ad 0)), (1, .int (Ii x1)), (3, .int (Ii x3))]) (k := 4) hJ dX12_count_91 rfl (by decide) rfl ?_
  have g2 := hF.1; have hF := hF.2
  refine j_goto hJ 45 dX12_count_94 (by decide) ?_
  exact j_sub hJ [2, 3, 1, 4, 0] rfl (hK45 x1 (s1 + s0) x3 (x4 + 1) _ gx1 g1 gx3 g2 hF)
set_option maxHeartbeats 4000000 in
set_option maxRecDepth 100000 in
theorem k_X12_count_b45 {l : Launch} {D : va_G} {cy : Nat → ClassId} {ad : Nat → Nat} {Q : Int → MM → Prop} {J : Nat → List (Nat × Value) → List Value → MM → Prop} (hin : jIn ad ksR.length)   (hJ : jOk l D vwCl (tyR cy) cy ad ftR ksR (XtR ad) Om RX12 cX12_count 5 1 ({ frames := 0, cells := 0, slots := 0, locals := 0 } : Room) Q J) {K4 : Int → Int → Int → MM → Prop} (hK4 : ∀ (x1 x2 x3 : Int) (M : MM), ri_ x1 → ri_ x2 → ri_ x3 → K4 x1 x2 x3 M → J 4 [(0, .ref (ad 0)), (1, .int (Ii x1)), (2, .int (Ii x2)), (3, .int (Ii x3))] [] M) : ∀ (x1 x2 x3 x4 : Int) (M : MM), ri_ x1 → ri_ x2 → ri_ x3 → ri_ x4 → w_X12_count_b45  Q K4 x1 x2 x3 x4 M → J 45 [(0, .ref (ad 0)), (1, .int (Ii x1)), (2, .int (Ii x2)), (3, .int (Ii x3)), (4, .int (Ii x4))] [] M := by
  have H9 : ∀ (n : Nat) (x1 x2 x3 x4 : Int) (M : MM), ri_ x1 → ri_ x2 → ri_ x3 → ri_ x4 → jit (fun _ _ _ _ _ => False) (wb_X12_count_b45  Q K4) n x1 x2 x3 x4 M → J 45 [(0, .ref (ad 0)), (1, .int (Ii x1)), (2, .int (Ii x2)), (3, .int (Ii x3)), (4, .int (Ii x4))] [] M := by
    intro n
    induction n with
    | zero => intro x1 x2 x3 x4 M gx1 gx2 gx3 gx4 hF; exact False.elim hF
    | succ n ih =>
    intro x1 x2 x3 x4 M gx1 gx2 gx3 gx4 hF
    have hF : wb_X12_count_b45  Q K4 (jit (fun _ _ _ _ _ => False) (wb_X12_count_b45  Q K4) n) x1 x2 x3 x4 M := hF
    unfold wb_X12_count_b45 at hF
    refine j_iload hJ dX12_count_45 4 rfl ?_
    refine j_bipush hJ dX12_count_47 (by decide) ?_
    refine j_icmp_ge hJ 97 gx4 rk_40 dX12_count_49 (by decide) (fun z1 => ?_) (fun z1 => ?_)
    · have hF := hF.1 z1
      exact j_sub hJ [0, 1, 2, 3] rfl (k_X12_count_b97 hin  hJ hK4 x1 x2 x3 _ gx1 gx2 gx3 hF)
    · have hF := hF.2 z1
      refine j_aload_n hJ dX12_count_52 rfl 0 rfl ?_
      refine j_gr (e := 83) hJ kR_0 fR_15_118 fl_X12_324 dX12_count_53 rfl ?_
      refine j_iload_n hJ dX12_count_56 rfl 1 rfl ?_
      refine j_iald hJ gx1 kR_83 hF.1 hF.2.1 dX12_count_57 (fun v2 ev2 gv2 => ?_)
      have hF := hF.2.2 v2 ev2 gv2
      refine j_iconst hJ dX12_count_58 ?_
      refine j_icmp_ne hJ 97 gv2 rk_2 dX12_count_59 (by decide) (fun z3 => ?_) (fun z3 => ?_)
      · have hF := hF.1 z3
        exact j_sub hJ [0, 1, 2, 3] rfl (k_X12_count_b97 hin  hJ hK4 x1 x2 x3 _ gx1 gx2 gx3 hF)
      · have hF := hF.2 z3
        refine j_iload_n hJ dX12_count_62 rfl 2 rfl ?_
        refine j_aload_n hJ dX12_count_63 rfl 0 rfl ?_
        refine j_gr (e := 95) hJ kR_0 fR_15_130 fl_X12_360 dX12_count_64 rfl ?_
        refine j_sipush hJ dX12_count_67 (by decide) ?_
        refine j_iload_n hJ dX12_count_70 rfl 1 rfl ?_
        refine j_imul hJ dX12_count_71 ?_
        have g4 := hF.1; have hF := hF.2
        refine j_bipush hJ dX12_count_72 (by decide) ?_
        refine j_iload_n hJ dX12_count_74 rfl 3 rfl ?_
        refine j_imul hJ dX12_count_75 ?_
        have g5 := hF.1; have hF := hF.2
        refine j_iadd hJ dX12_count_76 ?_
        have g6 := hF.1; have hF := hF.2
        refine j_iload hJ dX12_count_77 4 rfl ?_
        refine j_iadd hJ dX12_count_79 ?_
        have g7 := hF.1; have hF := hF.2
        refine j_zald hJ g7 kR_95 hF.1 hF.2.1 dX12_count_80 (fun v8 ev8 gv8 => ?_)
        have hF := hF.2.2 v8 ev8 gv8
        refine j_if_eq hJ 88 (jz_ri gv8) dX12_count_81 (by decide) (fun z9 => ?_) (fun z9 => ?_)
        · have hF := hF.1 z9
          refine j_iconst hJ dX12_count_88 ?_
          exact j_sub hJ [0, 1, 3, 4] rfl (k_X12_count_b89 hin  hJ hK4 ih x1 x3 x4 0 x2 _ gx1 gx3 gx4 rk_0 gx2 hF)
        · have hF := hF.2 z9
          refine j_iconst hJ dX12_count_84 ?_
          refine j_goto hJ 89 dX12_count_85 (by decide) ?_
          exact j_sub hJ [0, 1, 3, 4] rfl (k_X12_count_b89 hin  hJ hK4 ih x1 x3 x4 1 x2 _ gx1 gx3 gx4 rk_1 gx2 hF)
  intro x1 x2 x3 x4 M gx1 gx2 gx3 gx4 hF
  obtain ⟨n, hF⟩ := hF
  exact H9 n x1 x2 x3 x4 M gx1 gx2 gx3 gx4 hF
set_option maxHeartbeats 4000000 in
set_option maxRecDepth 100000 in
theorem k_X12_count_b42 {l : Launch} {D : va_G} {cy : Nat → ClassId} {ad : Nat → Nat} {Q : Int → MM → Prop} {J : Nat → List (Nat × Value) → List Value → MM → Prop} (hin : jIn ad ksR.length)   (hJ : jOk l D vwCl (tyR cy) cy ad ftR ksR (XtR ad) Om RX12 cX12_count 5 1 ({ frames := 0, cells := 0, slots := 0, locals := 0 } : Room) Q J) {K4 : Int → Int → Int → MM → Prop} (hK4 : ∀ (x1 x2 x3 : Int) (M : MM), ri_ x1 → ri_ x2 → ri_ x3 → K4 x1 x2 x3 M → J 4 [(0, .ref (ad 0)), (1, .int (Ii x1)), (2, .int (Ii x2)), (3, .int (Ii x3))] [] M) : ∀ (x1 x2 x3 : Int) (M : MM), ri_ x1 → ri_ x2 → ri_ x3 → w_X12_count_b42  Q K4 x1 x2 x3 M → J 42 [(0, .ref (ad 0)), (1, .int (Ii x1)), (2, .int (Ii x2)), (3, .int (Ii x3))] [] M := by
  intro x1 x2 x3 M gx1 gx2 gx3 hF
  unfold w_X12_count_b42 at hF
  refine j_iconst hJ dX12_count_42 ?_
  refine j_istore (lv' := [(4, .int (Ii 0)), (0, .ref (ad 0)), (1, .int (Ii x1)), (2, .int (Ii x2)), (3, .int (Ii x3))]) hJ dX12_count_43 (by decide) rfl ?_
  exact j_sub hJ [1, 2, 3, 4, 0] rfl (k_X12_count_b45 hin  hJ hK4 x1 x2 x3 0 _ gx1 gx2 gx3 rk_0 hF)
set_option maxHeartbeats 4000000 in
set_option maxRecDepth 100000 in
theorem k_X12_count_b40 {l : Launch} {D : va_G} {cy : Nat → ClassId} {ad : Nat → Nat} {Q : Int → MM → Prop} {J : Nat → List (Nat × Value) → List Value → MM → Prop} (hin : jIn ad ksR.length)   (hJ : jOk l D vwCl (tyR cy) cy ad ftR ksR (XtR ad) Om RX12 cX12_count 5 1 ({ frames := 0, cells := 0, slots := 0, locals := 0 } : Room) Q J) {K4 : Int → Int → Int → MM → Prop} (hK4 : ∀ (x1 x2 x3 : Int) (M : MM), ri_ x1 → ri_ x2 → ri_ x3 → K4 x1 x2 x3 M → J 4 [(0, .ref (ad 0)), (1, .int (Ii x1)), (2, .int (Ii x2)), (3, .int (Ii x3))] [] M) : ∀ (x1 x3 s0 s1 : Int) (M : MM), ri_ x1 → ri_ x3 → ri_ s0 → ri_ s1 → w_X12_count_b40  Q K4 x1 x3 s0 s1 M → J 40 [(0, .ref (ad 0)), (1, .int (Ii x1)), (3, .int (Ii x3))] [.int (Ii s0), .int (Ii s1)] M := by
  intro x1 x3 s0 s1 M gx1 gx3 gs0 gs1 hF
  unfold w_X12_count_b40 at hF
  refine j_iadd hJ dX12_count_40 ?_
  have g1 := hF.1; have hF := hF.2
  refine j_istore_n (lv' := [(2, .int (Ii (s1 + s0))), (0, .ref (ad 0)), (1, .int (Ii x1)), (3, .int (Ii x3))]) hJ dX12_count_41 rfl (by decide) rfl ?_
  exact j_sub hJ [1, 2, 0, 3] rfl (k_X12_count_b42 hin  hJ hK4 x1 (s1 + s0) x3 _ gx1 g1 gx3 hF)
set_option maxHeartbeats 4000000 in
set_option maxRecDepth 100000 in
theorem k_X12_count_b4 {l : Launch} {D : va_G} {cy : Nat → ClassId} {ad : Nat → Nat} {Q : Int → MM → Prop} {J : Nat → List (Nat × Value) → List Value → MM → Prop} (hin : jIn ad ksR.length)   (hJ : jOk l D vwCl (tyR cy) cy ad ftR ksR (XtR ad) Om RX12 cX12_count 5 1 ({ frames := 0, cells := 0, slots := 0, locals := 0 } : Room) Q J)  : ∀ (x1 x2 x3 : Int) (M : MM), ri_ x1 → ri_ x2 → ri_ x3 → w_X12_count_b4  Q  x1 x2 x3 M → J 4 [(0, .ref (ad 0)), (1, .int (Ii x1)), (2, .int (Ii x2)), (3, .int (Ii x3))] [] M := by
  have H9 : ∀ (n : Nat) (x1 x2 x3 : Int) (M : MM), ri_ x1 → ri_ x2 → ri_ x3 → jit (fun _ _ _ _ => False) (wb_X12_count_b4  Q ) n x1 x2 x3 M → J 4 [(0, .ref (ad 0)), (1, .int (Ii x1)), (2, .int (Ii x2)), (3, .int (Ii x3))] [] M := by
    intro n
    induction n with
    | zero => intro x1 x2 x3 M gx1 gx2 gx3 hF; exact False.elim hF
    | succ n ih =>
    intro x1 x2 x3 M gx1 gx2 gx3 hF
    have hF : wb_X12_count_b4  Q  (jit (fun _ _ _ _ => False) (wb_X12_count_b4  Q ) n) x1 x2 x3 M := hF
    unfold wb_X12_count_b4 at hF
    refine j_iload_n hJ dX12_count_4 rfl 3 rfl ?_
    refine j_bipush hJ dX12_count_5 (by decide) ?_
    refine j_icmp_ge hJ 103 gx3 rk_40 dX12_count_7 (by decide) (fun z1 => ?_) (fun z1 => ?_)
    · have hF := hF.1 z1
      refine j_iload_n hJ dX12_count_103 rfl 2 rfl ?_
      exact j_iret hJ rfl gx2 dX12_count_104 hF
    · have hF := hF.2 z1
      refine j_aload_n hJ dX12_count_10 rfl 0 rfl ?_
      refine j_gr (e := 83) hJ kR_0 fR_15_118 fl_X12_324 dX12_count_11 rfl ?_
      refine j_iload_n hJ dX12_count_14 rfl 1 rfl ?_
      refine j_iald hJ gx1 kR_83 hF.1 hF.2.1 dX12_count_15 (fun v2 ev2 gv2 => ?_)
      have hF := hF.2.2 v2 ev2 gv2
      refine j_iconst hJ dX12_count_16 ?_
      refine j_icmp_ne hJ 42 gv2 rk_1 dX12_count_17 (by decide) (fun z3 => ?_) (fun z3 => ?_)
      · have hF := hF.1 z3
        exact j_sub hJ [0, 1, 2, 3] rfl (k_X12_count_b42 hin  hJ ih x1 x2 x3 _ gx1 gx2 gx3 hF)
      · have hF := hF.2 z3
        refine j_iload_n hJ dX12_count_20 rfl 2 rfl ?_
        refine j_aload_n hJ dX12_count_21 rfl 0 rfl ?_
        refine j_gr (e := 94) hJ kR_0 fR_15_129 fl_X12_357 dX12_count_22 rfl ?_
        refine j_bipush hJ dX12_count_25 (by decide) ?_
        refine j_iload_n hJ dX12_count_27 rfl 1 rfl ?_
        refine j_imul hJ dX12_count_28 ?_
        have g4 := hF.1; have hF := hF.2
        refine j_iload_n hJ dX12_count_29 rfl 3 rfl ?_
        refine j_iadd hJ dX12_count_30 ?_
        have g5 := hF.1; have hF := hF.2
        refine j_zald hJ g5 kR_94 hF.1 hF.2.1 dX12_count_31 (fun v6 ev6 gv6 => ?_)
        have hF := hF.2.2 v6 ev6 gv6
        refine j_if_eq hJ 39 (jz_ri gv6) dX12_count_32 (by decide) (fun z7 => ?_) (fun z7 => ?_)
        · have hF := hF.1 z7
          refine j_iconst hJ dX12_count_39 ?_
          exact j_sub hJ [0, 1, 3] rfl (k_X12_count_b40 hin  hJ ih x1 x3 0 x2 _ gx1 gx3 rk_0 gx2 hF)
        · have hF := hF.2 z7
          refine j_iconst hJ dX12_count_35 ?_
          refine j_goto hJ 40 dX12_count_36 (by decide) ?_
          exact j_sub hJ [0, 1, 3] rfl (k_X12_count_b40 hin  hJ ih x1 x3 1 x2 _ gx1 gx3 rk_1 gx2 hF)
  intro x1 x2 x3 M gx1 gx2 gx3 hF
  obtain ⟨n, hF⟩ := hF
  exact H9 n x1 x2 x3 M gx1 gx2 gx3 hF
set_option maxHeartbeats 4000000 in
set_option maxRecDepth 100000 in
theorem c_X12_count {l : Launch} {D : va_G} {cy : Nat → ClassId} {ad : Nat → Nat} (hin : jIn ad ksR.length) : jCN l D vwCl (tyR cy) cy ad ftR ksR (XtR ad) yX12_count (.code yX12_count cX12_count 5 (some .int) :: Om) ({ frames := 0, cells := 0, slots := 0, locals := 0 } : Room) 1 (W_X12_count ad) := by
  refine jCN_of (y := yX12_count) (cc := cX12_count) (nL := 5) (rk := 1) (rm := ({ frames := 0, cells := 0, slots := 0, locals := 0 } : Room)) (own := RX12) (tyR_ok cy) hin (XtR_ok ad) Om_good (by decide) rfl ?_
  intro Q av M hF
  obtain ⟨p1, rfl, gp1, hF⟩ := hF
  refine ⟨Nat.le_of_ble_eq_true rfl, fun J hJ => ?_⟩
  show J 0 [(0, .ref (ad 0)), (1, .int (Ii p1))] [] M
  unfold w_X12_count at hF
  refine j_iconst hJ dX12_count_0 ?_
  refine j_istore_n (lv' := [(2, .int (Ii 0)), (0, .ref (ad 0)), (1, .int (Ii p1))]) hJ dX12_count_1 rfl (by decide) rfl ?_
  refine j_iconst hJ dX12_count_2 ?_
  refine j_istore_n (lv' := [(3, .int (Ii 0)), (2, .int (Ii 0)), (0, .ref (ad 0)), (1, .int (Ii p1))]) hJ dX12_count_3 rfl (by decide) rfl ?_
  exact j_sub hJ [2, 3, 1, 0] rfl (k_X12_count_b4 hin  hJ  p1 0 0 _ gp1 rk_0 rk_0 hF)
def W_X12_rules (ad : Nat → Nat) (Q : Int → MM → Prop) (av : List Value) (M : MM) : Prop := ∃ (p1 : Int), av = [.ref (ad 0), .int (Ii p1)] ∧ ri_ p1 ∧ w_X12_rules  Q p1 M
set_option maxHeartbeats 4000000 in
set_option maxRecDepth 100000 in
theorem k_X12_rules_b238 {l : Launch} {D : va_G} {cy : Nat → ClassId} {ad : Nat → Nat} {Q : Int → MM → Prop} {J : Nat → List (Nat × Value) → List Value → MM → Prop} (hin : jIn ad ksR.length)   (hJ : jOk l D vwCl (tyR cy) cy ad ftR ksR (XtR ad) Om RX12 cX12_rules 4 1 ({ frames := 15, cells := 0, slots := 0, locals := 465 } : Room) Q J)  : ∀ (x2 x3 : Int) (M : MM), ri_ x2 → ri_ x3 → w_X12_rules_b238  Q  x2 x3 M → J 238 [(0, .ref (ad 0)), (2, .int (Ii x2)), (3, .int (Ii x3))] [] M := by
  have H9 : ∀ (n : Nat) (x2 x3 : Int) (M : MM), ri_ x2 → ri_ x3 → jit (fun _ _ _ => False) (wb_X12_rules_b238  Q ) n x2 x3 M → J 238 [(0, .ref (ad 0)), (2, .int (Ii x2)), (3, .int (Ii x3))] [] M := by
    intro n
    induction n with
    | zero => intro x2 x3 M gx2 gx3 hF; exact False.elim hF
    | succ n ih =>
    intro x2 x3 M gx2 gx3 hF
    have hF : wb_X12_rules_b238  Q  (jit (fun _ _ _ => False) (wb_X12_rules_b238  Q ) n) x2 x3 M := hF
    unfold wb_X12_rules_b238 at hF
    refine j_iload_n hJ dX12_rules_238 rfl 2 rfl ?_
    refine j_aload_n hJ dX12_rules_239 rfl 0 rfl ?_
    refine j_gi hJ kR_0 fR_15_133 rfl fl_X12_905 dX12_rules_240 (fun v1 ev1 gv1 => ?_)
    have hF := hF v1 ev1 gv1
    refine j_icmp_ge hJ 260 gx3 gv1 dX12_rules_243 (by decide) (fun z2 => ?_) (fun z2 => ?_)
    · have hF := hF.1 z2
      refine j_iload_n hJ dX12_rules_260 rfl 1 rfl ?_
      exact j_iret hJ rfl gx2 dX12_rules_261 hF
    · have hF := hF.2 z2
      refine j_iload_n hJ dX12_rules_246 rfl 1 rfl ?_
      refine j_aload_n hJ dX12_rules_247 rfl 0 rfl ?_
      refine j_iload_n hJ dX12_rules_248 rfl 2 rfl ?_
      refine j_callVi hJ (c_X12_count (l := l) (D := D) (cy := cy) (ad := ad) hin) rfl om_1528 ⟨rfl, rfl, Nat.le_of_ble_eq_true rfl, Nat.le_of_ble_eq_true rfl⟩ [.int (Ii x3)] mv_X12_948 hd_X12_countv kR_0 rfl rfl rfl (Nat.le_of_ble_eq_true rfl) dX12_rules_249 ⟨x3, rfl, gx3, hF⟩ (fun r3 M4 gr3 qM4 => ?_)
      have hF := qM4 gr3
      refine j_iadd hJ dX12_rules_252 ?_
      have g5 := hF.1; have hF := hF.2
      refine j_istore_n (lv' := [(2, .int (Ii (x2 + r3))), (0, .ref (ad 0)), (3, .int (Ii x3))]) hJ dX12_rules_253 rfl (by decide) rfl ?_
      refine j_iinc (lv' := [(3, .int (Ii (x3 + 1))), (2, .int (Ii (x2 + r3))), (0, .ref (ad 0))]) (k := 2) hJ dX12_rules_254 rfl (by decide) rfl ?_
      have g6 := hF.1; have hF := hF.2
      refine j_goto hJ 238 dX12_rules_257 (by decide) ?_
      exact j_sub hJ [2, 1, 0] rfl (ih (x2 + r3) (x3 + 1) _ g5 g6 hF)
  intro x2 x3 M gx2 gx3 hF
  obtain ⟨n, hF⟩ := hF
  exact H9 n x2 x3 M gx2 gx3 hF
set_option maxHeartbeats 4000000 in
set_option maxRecDepth 100000 in
theorem k_X12_rules_b199 {l : Launch} {D : va_G} {cy : Nat → ClassId} {ad : Nat → Nat} {Q : Int → MM → Prop} {J : Nat → List (Nat × Value) → List Value → MM → Prop} (hin : jIn ad ksR.length)   (hJ : jOk l D vwCl (tyR cy) cy ad ftR ksR (XtR ad) Om RX12 cX12_rules 4 1 ({ frames := 15, cells := 0, slots := 0, locals := 465 } : Room) Q J) {K175 : MM → Prop} (hK175 : ∀ (M : MM), K175  M → J 175 [(0, .ref (ad 0))] [] M) {K189 : Int → MM → Prop} (hK189 : ∀ (x2 : Int) (M : MM), ri_ x2 → K189 x2 M → J 189 [(0, .ref (ad 0)), (2, .int (Ii x2))] [] M) : ∀ (x2 x3 : Int) (M : MM), ri_ x2 → ri_ x3 → w_X12_rules_b199  Q K175 K189 x2 x3 M → J 199 [(0, .ref (ad 0)), (2, .int (Ii x2)), (3, .int (Ii x3))] [] M := by
  have H9 : ∀ (n : Nat) (x2 x3 : Int) (M : MM), ri_ x2 → ri_ x3 → jit (fun _ _ _ => False) (wb_X12_rules_b199  Q K175 K189) n x2 x3 M → J 199 [(0, .ref (ad 0)), (2, .int (Ii x2)), (3, .int (Ii x3))] [] M := by
    intro n
    induction n with
    | zero => intro x2 x3 M gx2 gx3 hF; exact False.elim hF
    | succ n ih =>
    intro x2 x3 M gx2 gx3 hF
    have hF : wb_X12_rules_b199  Q K175 K189 (jit (fun _ _ _ => False) (wb_X12_rules_b199  Q K175 K189) n) x2 x3 M := hF
    unfold wb_X12_rules_b199 at hF
    refine j_iload_n hJ dX12_rules_199 rfl 2 rfl ?_
    refine j_bipush hJ dX12_rules_200 (by decide) ?_
    refine j_icmp_ge hJ 218 gx3 rk_9 dX12_rules_202 (by decide) (fun z1 => ?_) (fun z1 => ?_)
    · have hF := hF.1 z1
      refine j_aload_n hJ dX12_rules_218 rfl 0 rfl ?_
      refine j_iload_n hJ dX12_rules_219 rfl 1 rfl ?_
      refine j_iconst hJ dX12_rules_220 ?_
      refine j_callVz hJ (c_X12_join (l := l) (D := D) (cy := cy) (ad := ad) hin) rfl om_1520 ⟨rfl, rfl, Nat.le_of_ble_eq_true rfl, Nat.le_of_ble_eq_true rfl⟩ [.int (Ii x2), .int (Ii 0)] mv_X12_939 hd_X12_joinv kR_0 rfl rfl rfl (Nat.le_of_ble_eq_true rfl) dX12_rules_221 ⟨x2, 0, rfl, gx2, rk_0, hF⟩ (fun r2 M3 gr2 qM3 => ?_)
      have hF := qM3 gr2
      refine j_istore_n (lv' := [(3, .int (Ii r2)), (0, .ref (ad 0)), (2, .int (Ii x2))]) hJ dX12_rules_224 rfl (by decide) rfl ?_
      refine j_iinc (lv' := [(2, .int (Ii (x2 + 1))), (3, .int (Ii r2)), (0, .ref (ad 0))]) (k := 2) hJ dX12_rules_225 rfl (by decide) rfl ?_
      have g4 := hF.1; have hF := hF.2
      refine j_goto hJ 189 dX12_rules_228 (by decide) ?_
      exact j_sub hJ [2, 0] rfl (hK189 (x2 + 1) _ g4 hF)
    · have hF := hF.2 z1
      refine j_aload_n hJ dX12_rules_205 rfl 0 rfl ?_
      refine j_gr (e := 96) hJ kR_0 fR_15_131 fl_X12_363 dX12_rules_206 rfl ?_
      refine j_iload_n hJ dX12_rules_209 rfl 2 rfl ?_
      refine j_iconst hJ dX12_rules_210 ?_
      refine j_zast hJ gx3 (by decide) kR_96 hF.1 hF.2.1 dX12_rules_211 (fun M5 eM5 => ?_)
      have hF := hF.2.2 M5 eM5
      refine j_iinc (lv' := [(3, .int (Ii (x3 + 1))), (0, .ref (ad 0)), (2, .int (Ii x2))]) (k := 2) hJ dX12_rules_212 rfl (by decide) rfl ?_
      have g6 := hF.1; have hF := hF.2
      refine j_goto hJ 199 dX12_rules_215 (by decide) ?_
      exact j_sub hJ [1, 2, 0] rfl (ih x2 (x3 + 1) _ gx2 g6 hF)
  intro x2 x3 M gx2 gx3 hF
  obtain ⟨n, hF⟩ := hF
  exact H9 n x2 x3 M gx2 gx3 hF
set_option maxHeartbeats 4000000 in
set_option maxRecDepth 100000 in
theorem k_X12_rules_b189 {l : Launch} {D : va_G} {cy : Nat → ClassId} {ad : Nat → Nat} {Q : Int → MM → Prop} {J : Nat → List (Nat × Value) → List Value → MM → Prop} (hin : jIn ad ksR.length)   (hJ : jOk l D vwCl (tyR cy) cy ad ftR ksR (XtR ad) Om RX12 cX12_rules 4 1 ({ frames := 15, cells := 0, slots := 0, locals := 465 } : Room) Q J) {K175 : MM → Prop} (hK175 : ∀ (M : MM), K175  M → J 175 [(0, .ref (ad 0))] [] M) : ∀ (x2 : Int) (M : MM), ri_ x2 → w_X12_rules_b189  Q K175 x2 M → J 189 [(0, .ref (ad 0)), (2, .int (Ii x2))] [] M := by
  have H9 : ∀ (n : Nat) (x2 : Int) (M : MM), ri_ x2 → jit (fun _ _ => False) (wb_X12_rules_b189  Q K175) n x2 M → J 189 [(0, .ref (ad 0)), (2, .int (Ii x2))] [] M := by
    intro n
    induction n with
    | zero => intro x2 M gx2 hF; exact False.elim hF
    | succ n ih =>
    intro x2 M gx2 hF
    have hF : wb_X12_rules_b189  Q K175 (jit (fun _ _ => False) (wb_X12_rules_b189  Q K175) n) x2 M := hF
    unfold wb_X12_rules_b189 at hF
    refine j_iload_n hJ dX12_rules_189 rfl 1 rfl ?_
    refine j_aload_n hJ dX12_rules_190 rfl 0 rfl ?_
    refine j_gi hJ kR_0 fR_15_134 rfl fl_X12_908 dX12_rules_191 (fun v1 ev1 gv1 => ?_)
    have hF := hF v1 ev1 gv1
    refine j_icmp_ge hJ 231 gx2 gv1 dX12_rules_194 (by decide) (fun z2 => ?_) (fun z2 => ?_)
    · have hF := hF.1 z2
      refine j_goto hJ 175 dX12_rules_231 (by decide) ?_
      exact j_sub hJ [0] rfl (hK175  _  hF)
    · have hF := hF.2 z2
      refine j_iconst hJ dX12_rules_197 ?_
      refine j_istore_n (lv' := [(3, .int (Ii 0)), (0, .ref (ad 0)), (2, .int (Ii x2))]) hJ dX12_rules_198 rfl (by decide) rfl ?_
      exact j_sub hJ [1, 2, 0] rfl (k_X12_rules_b199 hin  hJ hK175 ih x2 0 _ gx2 rk_0 hF)
  intro x2 M gx2 hF
  obtain ⟨n, hF⟩ := hF
  exact H9 n x2 M gx2 hF
set_option maxHeartbeats 4000000 in
set_option maxRecDepth 100000 in
theorem k_X12_rules_b175 {l : Launch} {D : va_G} {cy : Nat → ClassId} {ad : Nat → Nat} {Q : Int → MM → Prop} {J : Nat → List (Nat × Value) → List Value → MM → Prop} (hin : jIn ad ksR.length)   (hJ : jOk l D vwCl (tyR cy) cy ad ftR ksR (XtR ad) Om RX12 cX12_rules 4 1 ({ frames := 15, cells := 0, slots := 0, locals := 465 } : Room) Q J)  : ∀ (M : MM), w_X12_rules_b175  Q   M → J 175 [(0, .ref (ad 0))] [] M := by
  have H9 : ∀ (n : Nat) (M : MM), jit (fun _ => False) (wb_X12_rules_b175  Q ) n  M → J 175 [(0, .ref (ad 0))] [] M := by
    intro n
    induction n with
    | zero => intro  M  hF; exact False.elim hF
    | succ n ih =>
    intro  M  hF
    have hF : wb_X12_rules_b175  Q  (jit (fun _ => False) (wb_X12_rules_b175  Q ) n)  M := hF
    unfold wb_X12_rules_b175 at hF
    refine j_aload_n hJ dX12_rules_175 rfl 0 rfl ?_
    refine j_gz hJ kR_0 fR_15_138 rfl fl_X12_933 dX12_rules_176 (fun v1 ev1 gv1 => ?_)
    have hF := hF v1 ev1 gv1
    refine j_if_eq hJ 234 (jz_ri gv1) dX12_rules_179 (by decide) (fun z2 => ?_) (fun z2 => ?_)
    · have hF := hF.1 z2
      refine j_iconst hJ dX12_rules_234 ?_
      refine j_istore_n (lv' := [(2, .int (Ii 0)), (0, .ref (ad 0))]) hJ dX12_rules_235 rfl (by decide) rfl ?_
      refine j_iconst hJ dX12_rules_236 ?_
      refine j_istore_n (lv' := [(3, .int (Ii 0)), (2, .int (Ii 0)), (0, .ref (ad 0))]) hJ dX12_rules_237 rfl (by decide) rfl ?_
      exact j_sub hJ [2, 1, 0] rfl (k_X12_rules_b238 hin  hJ  0 0 _ rk_0 rk_0 hF)
    · have hF := hF.2 z2
      refine j_aload_n hJ dX12_rules_182 rfl 0 rfl ?_
      refine j_iconst hJ dX12_rules_183 ?_
      refine j_pz hJ (by decide) kR_0 fR_15_138 rfl fp_X12_933 dX12_rules_184 (fun M3 eM3 => ?_)
      have hF := hF M3 eM3
      refine j_iconst hJ dX12_rules_187 ?_
      refine j_istore_n (lv' := [(2, .int (Ii 0)), (0, .ref (ad 0))]) hJ dX12_rules_188 rfl (by decide) rfl ?_
      exact j_sub hJ [1, 0] rfl (k_X12_rules_b189 hin  hJ ih 0 _ rk_0 hF)
  intro  M  hF
  obtain ⟨n, hF⟩ := hF
  exact H9 n  M  hF
set_option maxHeartbeats 4000000 in
set_option maxRecDepth 100000 in
theorem k_X12_rules_b145 {l : Launch} {D : va_G} {cy : Nat → ClassId} {ad : Nat → Nat} {Q : Int → MM → Prop} {J : Nat → List (Nat × Value) → List Value → MM → Prop} (hin : jIn ad ksR.length)   (hJ : jOk l D vwCl (tyR cy) cy ad ftR ksR (XtR ad) Om RX12 cX12_rules 4 1 ({ frames := 15, cells := 0, slots := 0, locals := 465 } : Room) Q J)  : ∀ (x2 : Int) (M : MM), ri_ x2 → w_X12_rules_b145  Q  x2 M → J 145 [(0, .ref (ad 0)), (2, .int (Ii x2))] [] M := by
  have H9 : ∀ (n : Nat) (x2 : Int) (M : MM), ri_ x2 → jit (fun _ _ => False) (wb_X12_rules_b145  Q ) n x2 M → J 145 [(0, .ref (ad 0)), (2, .int (Ii x2))] [] M := by
    intro n
    induction n with
    | zero => intro x2 M gx2 hF; exact False.elim hF
    | succ n ih =>
    intro x2 M gx2 hF
    have hF : wb_X12_rules_b145  Q  (jit (fun _ _ => False) (wb_X12_rules_b145  Q ) n) x2 M := hF
    unfold wb_X12_rules_b145 at hF
    refine j_iload_n hJ dX12_rules_145 rfl 1 rfl ?_
    refine j_sipush hJ dX12_rules_146 (by decide) ?_
    refine j_aload_n hJ dX12_rules_149 rfl 0 rfl ?_
    refine j_gi hJ kR_0 fR_15_133 rfl fl_X12_905 dX12_rules_150 (fun v1 ev1 gv1 => ?_)
    have hF := hF v1 ev1 gv1
    refine j_imul hJ dX12_rules_153 ?_
    have g2 := hF.1; have hF := hF.2
    refine j_icmp_ge hJ 170 gx2 g2 dX12_rules_154 (by decide) (fun z3 => ?_) (fun z3 => ?_)
    · have hF := hF.1 z3
      refine j_aload_n hJ dX12_rules_170 rfl 0 rfl ?_
      refine j_iconst hJ dX12_rules_171 ?_
      refine j_pz hJ (by decide) kR_0 fR_15_138 rfl fp_X12_933 dX12_rules_172 (fun M4 eM4 => ?_)
      have hF := hF M4 eM4
      exact j_sub hJ [0] rfl (k_X12_rules_b175 hin  hJ   _  hF)
    · have hF := hF.2 z3
      refine j_aload_n hJ dX12_rules_157 rfl 0 rfl ?_
      refine j_gr (e := 95) hJ kR_0 fR_15_130 fl_X12_360 dX12_rules_158 rfl ?_
      refine j_iload_n hJ dX12_rules_161 rfl 1 rfl ?_
      refine j_iconst hJ dX12_rules_162 ?_
      refine j_zast hJ gx2 (by decide) kR_95 hF.1 hF.2.1 dX12_rules_163 (fun M5 eM5 => ?_)
      have hF := hF.2.2 M5 eM5
      refine j_iinc (lv' := [(2, .int (Ii (x2 + 1))), (0, .ref (ad 0))]) (k := 1) hJ dX12_rules_164 rfl (by decide) rfl ?_
      have g6 := hF.1; have hF := hF.2
      refine j_goto hJ 145 dX12_rules_167 (by decide) ?_
      exact j_sub hJ [1, 0] rfl (ih (x2 + 1) _ g6 hF)
  intro x2 M gx2 hF
  obtain ⟨n, hF⟩ := hF
  exact H9 n x2 M gx2 hF
set_option maxHeartbeats 4000000 in
set_option maxRecDepth 100000 in
theorem k_X12_rules_b123 {l : Launch} {D : va_G} {cy : Nat → ClassId} {ad : Nat → Nat} {Q : Int → MM → Prop} {J : Nat → List (Nat × Value) → List Value → MM → Prop} (hin : jIn ad ksR.length)   (hJ : jOk l D vwCl (tyR cy) cy ad ftR ksR (XtR ad) Om RX12 cX12_rules 4 1 ({ frames := 15, cells := 0, slots := 0, locals := 465 } : Room) Q J)  : ∀ (x2 : Int) (M : MM), ri_ x2 → w_X12_rules_b123  Q  x2 M → J 123 [(0, .ref (ad 0)), (2, .int (Ii x2))] [] M := by
  have H9 : ∀ (n : Nat) (x2 : Int) (M : MM), ri_ x2 → jit (fun _ _ => False) (wb_X12_rules_b123  Q ) n x2 M → J 123 [(0, .ref (ad 0)), (2, .int (Ii x2))] [] M := by
    intro n
    induction n with
    | zero => intro x2 M gx2 hF; exact False.elim hF
    | succ n ih =>
    intro x2 M gx2 hF
    have hF : wb_X12_rules_b123  Q  (jit (fun _ _ => False) (wb_X12_rules_b123  Q ) n) x2 M := hF
    unfold wb_X12_rules_b123 at hF
    refine j_iload_n hJ dX12_rules_123 rfl 1 rfl ?_
    refine j_sipush hJ dX12_rules_124 (by decide) ?_
    refine j_icmp_ge hJ 143 gx2 rk_240 dX12_rules_127 (by decide) (fun z1 => ?_) (fun z1 => ?_)
    · have hF := hF.1 z1
      refine j_iconst hJ dX12_rules_143 ?_
      refine j_istore_n (lv' := [(2, .int (Ii 0)), (0, .ref (ad 0))]) hJ dX12_rules_144 rfl (by decide) rfl ?_
      exact j_sub hJ [1, 0] rfl (k_X12_rules_b145 hin  hJ  0 _ rk_0 hF)
    · have hF := hF.2 z1
      refine j_aload_n hJ dX12_rules_130 rfl 0 rfl ?_
      refine j_gr (e := 94) hJ kR_0 fR_15_129 fl_X12_357 dX12_rules_131 rfl ?_
      refine j_iload_n hJ dX12_rules_134 rfl 1 rfl ?_
      refine j_iconst hJ dX12_rules_135 ?_
      refine j_zast hJ gx2 (by decide) kR_94 hF.1 hF.2.1 dX12_rules_136 (fun M2 eM2 => ?_)
      have hF := hF.2.2 M2 eM2
      refine j_iinc (lv' := [(2, .int (Ii (x2 + 1))), (0, .ref (ad 0))]) (k := 1) hJ dX12_rules_137 rfl (by decide) rfl ?_
      have g3 := hF.1; have hF := hF.2
      refine j_goto hJ 123 dX12_rules_140 (by decide) ?_
      exact j_sub hJ [1, 0] rfl (ih (x2 + 1) _ g3 hF)
  intro x2 M gx2 hF
  obtain ⟨n, hF⟩ := hF
  exact H9 n x2 M gx2 hF
set_option maxHeartbeats 4000000 in
set_option maxRecDepth 100000 in
theorem k_X12_rules_b94 {l : Launch} {D : va_G} {cy : Nat → ClassId} {ad : Nat → Nat} {Q : Int → MM → Prop} {J : Nat → List (Nat × Value) → List Value → MM → Prop} (hin : jIn ad ksR.length)   (hJ : jOk l D vwCl (tyR cy) cy ad ftR ksR (XtR ad) Om RX12 cX12_rules 4 1 ({ frames := 15, cells := 0, slots := 0, locals := 465 } : Room) Q J)  : ∀ (x1 s0 : Int) (M : MM), ri_ x1 → ri_ s0 → w_X12_rules_b94  Q  x1 s0 M → J 94 [(0, .ref (ad 0)), (1, .int (Ii x1))] [.int (Ii s0), .ref (ad 0)] M := by
  intro x1 s0 M gx1 gs0 hF
  unfold w_X12_rules_b94 at hF
  refine j_pi hJ gs0 kR_0 fR_15_0 rfl fp_X12_388 dX12_rules_94 (fun M1 eM1 => ?_)
  have hF := hF M1 eM1
  refine j_aload_n hJ dX12_rules_97 rfl 0 rfl ?_
  refine j_gi hJ kR_0 fR_15_0 rfl fl_X12_388 dX12_rules_98 (fun v2 ev2 gv2 => ?_)
  have hF := hF v2 ev2 gv2
  refine j_if_le hJ 111 gv2 dX12_rules_101 (by decide) (fun z3 => ?_) (fun z3 => ?_)
  · have hF := hF.1 z3
    refine j_aload_n hJ dX12_rules_111 rfl 0 rfl ?_
    refine j_iload_n hJ dX12_rules_112 rfl 1 rfl ?_
    refine j_pi hJ gx1 kR_0 fR_15_97 rfl fp_X12_826 dX12_rules_113 (fun M4 eM4 => ?_)
    have hF := hF M4 eM4
    refine j_aload_n hJ dX12_rules_116 rfl 0 rfl ?_
    refine j_iload_n hJ dX12_rules_117 rfl 1 rfl ?_
    refine j_callVv hJ (c_X12_findLinks (l := l) (D := D) (cy := cy) (ad := ad) hin) rfl om_1524 ⟨rfl, rfl, Nat.le_of_ble_eq_true rfl, Nat.le_of_ble_eq_true rfl⟩ [.int (Ii x1)] mv_X12_945 hd_X12_findLinksv kR_0 rfl rfl rfl (Nat.le_of_ble_eq_true rfl) dX12_rules_118 ⟨x1, rfl, gx1, hF⟩ (fun M6 qM6 => ?_)
    have hF := qM6
    refine j_iconst hJ dX12_rules_121 ?_
    refine j_istore_n (lv' := [(2, .int (Ii 0)), (0, .ref (ad 0)), (1, .int (Ii x1))]) hJ dX12_rules_122 rfl (by decide) rfl ?_
    exact j_sub hJ [1, 0] rfl (k_X12_rules_b123 hin  hJ  0 _ rk_0 hF)
  · have hF := hF.2 z3
    refine j_aload_n hJ dX12_rules_104 rfl 0 rfl ?_
    refine j_iconst hJ dX12_rules_105 ?_
    refine j_pi hJ rk_0 kR_0 fR_15_133 rfl fp_X12_905 dX12_rules_106 (fun M7 eM7 => ?_)
    have hF := hF M7 eM7
    refine j_iconst hJ dX12_rules_109 ?_
    exact j_iret hJ rfl rk_0 dX12_rules_110 hF
set_option maxHeartbeats 4000000 in
set_option maxRecDepth 100000 in
theorem k_X12_rules_b77 {l : Launch} {D : va_G} {cy : Nat → ClassId} {ad : Nat → Nat} {Q : Int → MM → Prop} {J : Nat → List (Nat × Value) → List Value → MM → Prop} (hin : jIn ad ksR.length)   (hJ : jOk l D vwCl (tyR cy) cy ad ftR ksR (XtR ad) Om RX12 cX12_rules 4 1 ({ frames := 15, cells := 0, slots := 0, locals := 465 } : Room) Q J)  : ∀ (x1 : Int) (M : MM), ri_ x1 → w_X12_rules_b77  Q  x1 M → J 77 [(0, .ref (ad 0)), (1, .int (Ii x1))] [] M := by
  intro x1 M gx1 hF
  unfold w_X12_rules_b77 at hF
  refine j_aload_n hJ dX12_rules_77 rfl 0 rfl ?_
  refine j_callVv hJ (c_X12_endText (l := l) (D := D) (cy := cy) (ad := ad) hin) rfl om_1464 ⟨rfl, rfl, Nat.le_of_ble_eq_true rfl, Nat.le_of_ble_eq_true rfl⟩ [] mv_X12_858 hd_X12_endTextv kR_0 rfl rfl rfl (Nat.le_of_ble_eq_true rfl) dX12_rules_78 ⟨rfl, hF⟩ (fun M2 qM2 => ?_)
  have hF := qM2
  refine j_aload_n hJ dX12_rules_81 rfl 0 rfl ?_
  refine j_aload_n hJ dX12_rules_82 rfl 0 rfl ?_
  refine j_gi hJ kR_0 fR_15_81 rfl fl_X12_776 dX12_rules_83 (fun v3 ev3 gv3 => ?_)
  have hF := hF v3 ev3 gv3
  refine j_if_le hJ 93 gv3 dX12_rules_86 (by decide) (fun z4 => ?_) (fun z4 => ?_)
  · have hF := hF.1 z4
    refine j_iconst hJ dX12_rules_93 ?_
    exact j_sub hJ [0, 1] rfl (k_X12_rules_b94 hin  hJ  x1 0 _ gx1 rk_0 hF)
  · have hF := hF.2 z4
    refine j_iconst hJ dX12_rules_89 ?_
    refine j_goto hJ 94 dX12_rules_90 (by decide) ?_
    exact j_sub hJ [0, 1] rfl (k_X12_rules_b94 hin  hJ  x1 3 _ gx1 rk_3 hF)
set_option maxHeartbeats 4000000 in
set_option maxRecDepth 100000 in
theorem k_X12_rules_b56 {l : Launch} {D : va_G} {cy : Nat → ClassId} {ad : Nat → Nat} {Q : Int → MM → Prop} {J : Nat → List (Nat × Value) → List Value → MM → Prop} (hin : jIn ad ksR.length)   (hJ : jOk l D vwCl (tyR cy) cy ad ftR ksR (XtR ad) Om RX12 cX12_rules 4 1 ({ frames := 15, cells := 0, slots := 0, locals := 465 } : Room) Q J)  : ∀ (x1 : Int) (M : MM), ri_ x1 → w_X12_rules_b56  Q  x1 M → J 56 [(0, .ref (ad 0)), (1, .int (Ii x1))] [] M := by
  have H9 : ∀ (n : Nat) (x1 : Int) (M : MM), ri_ x1 → jit (fun _ _ => False) (wb_X12_rules_b56  Q ) n x1 M → J 56 [(0, .ref (ad 0)), (1, .int (Ii x1))] [] M := by
    intro n
    induction n with
    | zero => intro x1 M gx1 hF; exact False.elim hF
    | succ n ih =>
    intro x1 M gx1 hF
    have hF : wb_X12_rules_b56  Q  (jit (fun _ _ => False) (wb_X12_rules_b56  Q ) n) x1 M := hF
    unfold wb_X12_rules_b56 at hF
    refine j_aload_n hJ dX12_rules_56 rfl 0 rfl ?_
    refine j_gi hJ kR_0 fR_15_83 rfl fl_X12_625 dX12_rules_57 (fun v1 ev1 gv1 => ?_)
    have hF := hF v1 ev1 gv1
    refine j_if_ne hJ 77 gv1 dX12_rules_60 (by decide) (fun z2 => ?_) (fun z2 => ?_)
    · have hF := hF.1 z2
      exact j_sub hJ [0, 1] rfl (k_X12_rules_b77 hin  hJ  x1 _ gx1 hF)
    · have hF := hF.2 z2
      refine j_aload_n hJ dX12_rules_63 rfl 0 rfl ?_
      refine j_gi hJ kR_0 fR_15_80 rfl fl_X12_644 dX12_rules_64 (fun v3 ev3 gv3 => ?_)
      have hF := hF v3 ev3 gv3
      refine j_if_eq hJ 77 gv3 dX12_rules_67 (by decide) (fun z4 => ?_) (fun z4 => ?_)
      · have hF := hF.1 z4
        exact j_sub hJ [0, 1] rfl (k_X12_rules_b77 hin  hJ  x1 _ gx1 hF)
      · have hF := hF.2 z4
        refine j_aload_n hJ dX12_rules_70 rfl 0 rfl ?_
        refine j_callVv hJ (c_X12_readRule (l := l) (D := D) (cy := cy) (ad := ad) hin) rfl om_1532 ⟨rfl, rfl, Nat.le_of_ble_eq_true rfl, Nat.le_of_ble_eq_true rfl⟩ [] mv_X12_942 hd_X12_readRulev kR_0 rfl rfl rfl (Nat.le_of_ble_eq_true rfl) dX12_rules_71 ⟨rfl, hF⟩ (fun M6 qM6 => ?_)
        have hF := qM6
        refine j_goto hJ 56 dX12_rules_74 (by decide) ?_
        exact j_sub hJ [0, 1] rfl (ih x1 _ gx1 hF)
  intro x1 M gx1 hF
  obtain ⟨n, hF⟩ := hF
  exact H9 n x1 M gx1 hF
set_option maxHeartbeats 4000000 in
set_option maxRecDepth 100000 in
theorem k_X12_rules_b29 {l : Launch} {D : va_G} {cy : Nat → ClassId} {ad : Nat → Nat} {Q : Int → MM → Prop} {J : Nat → List (Nat × Value) → List Value → MM → Prop} (hin : jIn ad ksR.length)   (hJ : jOk l D vwCl (tyR cy) cy ad ftR ksR (XtR ad) Om RX12 cX12_rules 4 1 ({ frames := 15, cells := 0, slots := 0, locals := 465 } : Room) Q J)  : ∀ (x1 s0 : Int) (M : MM), ri_ x1 → ri_ s0 → w_X12_rules_b29  Q  x1 s0 M → J 29 [(0, .ref (ad 0)), (1, .int (Ii x1))] [.int (Ii s0), .ref (ad 0)] M := by
  intro x1 s0 M gx1 gs0 hF
  unfold w_X12_rules_b29 at hF
  refine j_pi hJ gs0 kR_0 fR_15_0 rfl fp_X12_388 dX12_rules_29 (fun M1 eM1 => ?_)
  have hF := hF M1 eM1
  refine j_aload_n hJ dX12_rules_32 rfl 0 rfl ?_
  refine j_gi hJ kR_0 fR_15_0 rfl fl_X12_388 dX12_rules_33 (fun v2 ev2 gv2 => ?_)
  have hF := hF v2 ev2 gv2
  refine j_if_le hJ 41 gv2 dX12_rules_36 (by decide) (fun z3 => ?_) (fun z3 => ?_)
  · have hF := hF.1 z3
    refine j_aload_n hJ dX12_rules_41 rfl 0 rfl ?_
    refine j_iconst hJ dX12_rules_42 ?_
    refine j_pi hJ rk_0 kR_0 fR_15_133 rfl fp_X12_905 dX12_rules_43 (fun M4 eM4 => ?_)
    have hF := hF M4 eM4
    refine j_aload_n hJ dX12_rules_46 rfl 0 rfl ?_
    refine j_iconst hJ dX12_rules_47 ?_
    refine j_pi hJ rk_0 kR_0 fR_15_134 rfl fp_X12_908 dX12_rules_48 (fun M5 eM5 => ?_)
    have hF := hF M5 eM5
    refine j_aload_n hJ dX12_rules_51 rfl 0 rfl ?_
    refine j_iconst hJ dX12_rules_52 ?_
    refine j_callVv hJ (c_X12_beginText (l := l) (D := D) (cy := cy) (ad := ad) hin) rfl om_1460 ⟨rfl, rfl, Nat.le_of_ble_eq_true rfl, Nat.le_of_ble_eq_true rfl⟩ [.int (Ii 0)] mv_X12_855 hd_X12_beginTextv kR_0 rfl rfl rfl (Nat.le_of_ble_eq_true rfl) dX12_rules_53 ⟨0, rfl, rk_0, hF⟩ (fun M7 qM7 => ?_)
    have hF := qM7
    exact j_sub hJ [0, 1] rfl (k_X12_rules_b56 hin  hJ  x1 _ gx1 hF)
  · have hF := hF.2 z3
    refine j_iconst hJ dX12_rules_39 ?_
    exact j_iret hJ rfl rk_0 dX12_rules_40 hF
set_option maxHeartbeats 4000000 in
set_option maxRecDepth 100000 in
theorem c_X12_rules {l : Launch} {D : va_G} {cy : Nat → ClassId} {ad : Nat → Nat} (hin : jIn ad ksR.length) : jCN l D vwCl (tyR cy) cy ad ftR ksR (XtR ad) yX12_rules (.code yX12_rules cX12_rules 4 (some .int) :: Om) ({ frames := 15, cells := 0, slots := 0, locals := 465 } : Room) 1 (W_X12_rules ad) := by
  refine jCN_of (y := yX12_rules) (cc := cX12_rules) (nL := 4) (rk := 1) (rm := ({ frames := 15, cells := 0, slots := 0, locals := 465 } : Room)) (own := RX12) (tyR_ok cy) hin (XtR_ok ad) Om_good (by decide) rfl ?_
  intro Q av M hF
  obtain ⟨p1, rfl, gp1, hF⟩ := hF
  refine ⟨Nat.le_of_ble_eq_true rfl, fun J hJ => ?_⟩
  show J 0 [(0, .ref (ad 0)), (1, .int (Ii p1))] [] M
  unfold w_X12_rules at hF
  refine j_aload_n hJ dX12_rules_0 rfl 0 rfl ?_
  refine j_aload_n hJ dX12_rules_1 rfl 0 rfl ?_
  refine j_iload_n hJ dX12_rules_2 rfl 1 rfl ?_
  refine j_callVz hJ (c_X12_isPicture (l := l) (D := D) (cy := cy) (ad := ad) hin) rfl om_1296 ⟨rfl, rfl, Nat.le_of_ble_eq_true rfl, Nat.le_of_ble_eq_true rfl⟩ [.int (Ii p1)] mv_X12_542 hd_X12_isPicturev kR_0 rfl rfl rfl (Nat.le_of_ble_eq_true rfl) dX12_rules_3 ⟨p1, rfl, gp1, hF⟩ (fun r1 M2 gr1 qM2 => ?_)
  have hF := qM2 gr1
  refine j_if_eq hJ 28 (jz_ri gr1) dX12_rules_6 (by decide) (fun z3 => ?_) (fun z3 => ?_)
  · have hF := hF.1 z3
    refine j_iconst hJ dX12_rules_28 ?_
    exact j_sub hJ [0, 1] rfl (k_X12_rules_b29 hin  hJ  p1 1 _ gp1 rk_1 hF)
  · have hF := hF.2 z3
    refine j_aload_n hJ dX12_rules_9 rfl 0 rfl ?_
    refine j_gr (e := 38) hJ kR_0 fR_15_48 fl_X12_183 dX12_rules_10 rfl ?_
    refine j_iload_n hJ dX12_rules_13 rfl 1 rfl ?_
    refine j_iald hJ gp1 kR_38 hF.1 hF.2.1 dX12_rules_14 (fun v4 ev4 gv4 => ?_)
    have hF := hF.2.2 v4 ev4 gv4
    refine j_bipush hJ dX12_rules_15 (by decide) ?_
    refine j_icmp_le hJ 24 gv4 rk_40 dX12_rules_17 (by decide) (fun z5 => ?_) (fun z5 => ?_)
    · have hF := hF.1 z5
      refine j_iconst hJ dX12_rules_24 ?_
      refine j_goto hJ 29 dX12_rules_25 (by decide) ?_
      exact j_sub hJ [0, 1] rfl (k_X12_rules_b29 hin  hJ  p1 0 _ gp1 rk_0 hF)
    · have hF := hF.2 z5
      refine j_iconst hJ dX12_rules_20 ?_
      refine j_goto hJ 29 dX12_rules_21 (by decide) ?_
      exact j_sub hJ [0, 1] rfl (k_X12_rules_b29 hin  hJ  p1 2 _ gp1 rk_2 hF)
def W_X12_facts (ad : Nat → Nat) (Q : Int → MM → Prop) (av : List Value) (M : MM) : Prop := ∃ (p1 : Int), av = [.ref (ad 0), .int (Ii p1)] ∧ ri_ p1 ∧ w_X12_facts  Q p1 M
set_option maxHeartbeats 4000000 in
set_option maxRecDepth 100000 in
theorem c_X12_facts {l : Launch} {D : va_G} {cy : Nat → ClassId} {ad : Nat → Nat} (hin : jIn ad ksR.length) : jCN l D vwCl (tyR cy) cy ad ftR ksR (XtR ad) yX12_facts (.code yX12_facts cX12_facts 2 (some .int) :: Om) ({ frames := 1, cells := 0, slots := 0, locals := 24 } : Room) 1 (W_X12_facts ad) := by
  refine jCN_of (y := yX12_facts) (cc := cX12_facts) (nL := 2) (rk := 1) (rm := ({ frames := 1, cells := 0, slots := 0, locals := 24 } : Room)) (own := RX12) (tyR_ok cy) hin (XtR_ok ad) Om_good (by decide) rfl ?_
  intro Q av M hF
  obtain ⟨p1, rfl, gp1, hF⟩ := hF
  refine ⟨Nat.le_of_ble_eq_true rfl, fun J hJ => ?_⟩
  show J 0 [(0, .ref (ad 0)), (1, .int (Ii p1))] [] M
  unfold w_X12_facts at hF
  refine j_aload_n hJ dX12_facts_0 rfl 0 rfl ?_
  refine j_iconst hJ dX12_facts_1 ?_
  refine j_pi hJ rk_0 kR_0 fR_15_0 rfl fp_X12_388 dX12_facts_2 (fun M1 eM1 => ?_)
  have hF := hF M1 eM1
  refine j_iload_n hJ dX12_facts_5 rfl 1 rfl ?_
  refine j_if_lt hJ 25 gp1 dX12_facts_6 (by decide) (fun z2 => ?_) (fun z2 => ?_)
  · have hF := hF.1 z2
    refine j_iconst hJ dX12_facts_25 ?_
    exact j_iret hJ rfl rk_m1 dX12_facts_26 hF
  · have hF := hF.2 z2
    refine j_iload_n hJ dX12_facts_9 rfl 1 rfl ?_
    refine j_aload_n hJ dX12_facts_10 rfl 0 rfl ?_
    refine j_gi hJ kR_0 fR_15_133 rfl fl_X12_905 dX12_facts_11 (fun v3 ev3 gv3 => ?_)
    have hF := hF v3 ev3 gv3
    refine j_icmp_ge hJ 25 gp1 gv3 dX12_facts_14 (by decide) (fun z4 => ?_) (fun z4 => ?_)
    · have hF := hF.1 z4
      refine j_iconst hJ dX12_facts_25 ?_
      exact j_iret hJ rfl rk_m1 dX12_facts_26 hF
    · have hF := hF.2 z4
      refine j_aload_n hJ dX12_facts_17 rfl 0 rfl ?_
      refine j_iload_n hJ dX12_facts_18 rfl 1 rfl ?_
      refine j_callVi hJ (c_X12_count (l := l) (D := D) (cy := cy) (ad := ad) hin) rfl om_1528 ⟨rfl, rfl, Nat.le_of_ble_eq_true rfl, Nat.le_of_ble_eq_true rfl⟩ [.int (Ii p1)] mv_X12_948 hd_X12_countv kR_0 rfl rfl rfl (Nat.le_of_ble_eq_true rfl) dX12_facts_19 ⟨p1, rfl, gp1, hF⟩ (fun r5 M6 gr5 qM6 => ?_)
      have hF := qM6 gr5
      refine j_goto hJ 26 dX12_facts_22 (by decide) ?_
      exact j_iret hJ rfl gr5 dX12_facts_26 hF
def W_X12_isFact (ad : Nat → Nat) (Q : Int → MM → Prop) (av : List Value) (M : MM) : Prop := ∃ (p1 : Int) (p2 : Int) (p3 : Int), av = [.ref (ad 0), .int (Ii p1), .int (Ii p2), .int (Ii p3)] ∧ ri_ p1 ∧ ri_ p2 ∧ ri_ p3 ∧ w_X12_isFact  Q p1 p2 p3 M
set_option maxHeartbeats 4000000 in
set_option maxRecDepth 100000 in
theorem k_X12_isFact_b65 {l : Launch} {D : va_G} {cy : Nat → ClassId} {ad : Nat → Nat} {Q : Int → MM → Prop} {J : Nat → List (Nat × Value) → List Value → MM → Prop} (hin : jIn ad ksR.length)   (hJ : jOk l D vwCl (tyR cy) cy ad ftR ksR (XtR ad) Om RX12 cX12_isFact 5 3 ({ frames := 1, cells := 0, slots := 0, locals := 23 } : Room) Q J)  : ∀ (x1 x2 x3 s0 : Int) (M : MM), ri_ x1 → ri_ x2 → ri_ x3 → ri_ s0 → w_X12_isFact_b65  Q  x1 x2 x3 s0 M → J 65 [(0, .ref (ad 0)), (1, .int (Ii x1)), (2, .int (Ii x2)), (3, .int (Ii x3))] [.int (Ii s0)] M := by
  intro x1 x2 x3 s0 M gx1 gx2 gx3 gs0 hF
  unfold w_X12_isFact_b65 at hF
  refine j_istore (lv' := [(4, .int (Ii s0)), (0, .ref (ad 0)), (1, .int (Ii x1)), (2, .int (Ii x2)), (3, .int (Ii x3))]) hJ dX12_isFact_65 (by decide) rfl ?_
  refine j_iload hJ dX12_isFact_67 0 rfl ?_
  refine j_if_eq hJ 86 gs0 dX12_isFact_69 (by decide) (fun z1 => ?_) (fun z1 => ?_)
  · have hF := hF.1 z1
    refine j_iconst hJ dX12_isFact_86 ?_
    exact j_zret hJ rfl (by decide) dX12_isFact_87 hF
  · have hF := hF.2 z1
    refine j_aload_n hJ dX12_isFact_72 rfl 1 rfl ?_
    refine j_iload_n hJ dX12_isFact_73 rfl 2 rfl ?_
    refine j_iload_n hJ dX12_isFact_74 rfl 3 rfl ?_
    refine j_iload_n hJ dX12_isFact_75 rfl 4 rfl ?_
    refine j_callVz hJ (c_X12_isFactNow (l := l) (D := D) (cy := cy) (ad := ad) hin) rfl om_1512 ⟨rfl, rfl, Nat.le_of_ble_eq_true rfl, Nat.le_of_ble_eq_true rfl⟩ [.int (Ii x1), .int (Ii x2), .int (Ii x3)] mv_X12_930 hd_X12_isFactNowv kR_0 rfl rfl rfl (Nat.le_of_ble_eq_true rfl) dX12_isFact_76 ⟨x1, x2, x3, rfl, gx1, gx2, gx3, hF⟩ (fun r2 M3 gr2 qM3 => ?_)
    have hF := qM3 gr2
    refine j_if_eq hJ 86 (jz_ri gr2) dX12_isFact_79 (by decide) (fun z4 => ?_) (fun z4 => ?_)
    · have hF := hF.1 z4
      refine j_iconst hJ dX12_isFact_86 ?_
      exact j_zret hJ rfl (by decide) dX12_isFact_87 hF
    · have hF := hF.2 z4
      refine j_iconst hJ dX12_isFact_82 ?_
      refine j_goto hJ 87 dX12_isFact_83 (by decide) ?_
      exact j_zret hJ rfl (by decide) dX12_isFact_87 hF
set_option maxHeartbeats 4000000 in
set_option maxRecDepth 100000 in
theorem k_X12_isFact_b64 {l : Launch} {D : va_G} {cy : Nat → ClassId} {ad : Nat → Nat} {Q : Int → MM → Prop} {J : Nat → List (Nat × Value) → List Value → MM → Prop} (hin : jIn ad ksR.length)   (hJ : jOk l D vwCl (tyR cy) cy ad ftR ksR (XtR ad) Om RX12 cX12_isFact 5 3 ({ frames := 1, cells := 0, slots := 0, locals := 23 } : Room) Q J)  : ∀ (x1 x2 x3 : Int) (M : MM), ri_ x1 → ri_ x2 → ri_ x3 → w_X12_isFact_b64  Q  x1 x2 x3 M → J 64 [(0, .ref (ad 0)), (1, .int (Ii x1)), (2, .int (Ii x2)), (3, .int (Ii x3))] [] M := by
  intro x1 x2 x3 M gx1 gx2 gx3 hF
  unfold w_X12_isFact_b64 at hF
  refine j_iconst hJ dX12_isFact_64 ?_
  exact j_sub hJ [0, 1, 2, 3] rfl (k_X12_isFact_b65 hin  hJ  x1 x2 x3 0 _ gx1 gx2 gx3 rk_0 hF)
set_option maxHeartbeats 4000000 in
set_option maxRecDepth 100000 in
theorem k_X12_isFact_b60 {l : Launch} {D : va_G} {cy : Nat → ClassId} {ad : Nat → Nat} {Q : Int → MM → Prop} {J : Nat → List (Nat × Value) → List Value → MM → Prop} (hin : jIn ad ksR.length)   (hJ : jOk l D vwCl (tyR cy) cy ad ftR ksR (XtR ad) Om RX12 cX12_isFact 5 3 ({ frames := 1, cells := 0, slots := 0, locals := 23 } : Room) Q J)  : ∀ (x1 x2 x3 : Int) (M : MM), ri_ x1 → ri_ x2 → ri_ x3 → w_X12_isFact_b60  Q  x1 x2 x3 M → J 60 [(0, .ref (ad 0)), (1, .int (Ii x1)), (2, .int (Ii x2)), (3, .int (Ii x3))] [] M := by
  intro x1 x2 x3 M gx1 gx2 gx3 hF
  unfold w_X12_isFact_b60 at hF
  refine j_iconst hJ dX12_isFact_60 ?_
  refine j_goto hJ 65 dX12_isFact_61 (by decide) ?_
  exact j_sub hJ [0, 1, 2, 3] rfl (k_X12_isFact_b65 hin  hJ  x1 x2 x3 1 _ gx1 gx2 gx3 rk_1 hF)
set_option maxHeartbeats 4000000 in
set_option maxRecDepth 100000 in
theorem k_X12_isFact_b18 {l : Launch} {D : va_G} {cy : Nat → ClassId} {ad : Nat → Nat} {Q : Int → MM → Prop} {J : Nat → List (Nat × Value) → List Value → MM → Prop} (hin : jIn ad ksR.length)   (hJ : jOk l D vwCl (tyR cy) cy ad ftR ksR (XtR ad) Om RX12 cX12_isFact 5 3 ({ frames := 1, cells := 0, slots := 0, locals := 23 } : Room) Q J)  : ∀ (x1 x2 x3 s0 : Int) (M : MM), ri_ x1 → ri_ x2 → ri_ x3 → ri_ s0 → w_X12_isFact_b18  Q  x1 x2 x3 s0 M → J 18 [(0, .ref (ad 0)), (1, .int (Ii x1)), (2, .int (Ii x2)), (3, .int (Ii x3))] [.int (Ii s0), .ref (ad 0)] M := by
  intro x1 x2 x3 s0 M gx1 gx2 gx3 gs0 hF
  unfold w_X12_isFact_b18 at hF
  refine j_pi hJ gs0 kR_0 fR_15_0 rfl fp_X12_388 dX12_isFact_18 (fun M1 eM1 => ?_)
  have hF := hF M1 eM1
  refine j_aload_n hJ dX12_isFact_21 rfl 0 rfl ?_
  refine j_gi hJ kR_0 fR_15_0 rfl fl_X12_388 dX12_isFact_22 (fun v2 ev2 gv2 => ?_)
  have hF := hF v2 ev2 gv2
  refine j_if_le hJ 30 gv2 dX12_isFact_25 (by decide) (fun z3 => ?_) (fun z3 => ?_)
  · have hF := hF.1 z3
    refine j_iload_n hJ dX12_isFact_30 rfl 2 rfl ?_
    refine j_if_lt hJ 64 gx2 dX12_isFact_31 (by decide) (fun z4 => ?_) (fun z4 => ?_)
    · have hF := hF.1 z4
      exact j_sub hJ [0, 1, 2, 3] rfl (k_X12_isFact_b64 hin  hJ  x1 x2 x3 _ gx1 gx2 gx3 hF)
    · have hF := hF.2 z4
      refine j_iload_n hJ dX12_isFact_34 rfl 2 rfl ?_
      refine j_bipush hJ dX12_isFact_35 (by decide) ?_
      refine j_icmp_ge hJ 64 gx2 rk_40 dX12_isFact_37 (by decide) (fun z5 => ?_) (fun z5 => ?_)
      · have hF := hF.1 z5
        exact j_sub hJ [0, 1, 2, 3] rfl (k_X12_isFact_b64 hin  hJ  x1 x2 x3 _ gx1 gx2 gx3 hF)
      · have hF := hF.2 z5
        refine j_aload_n hJ dX12_isFact_40 rfl 0 rfl ?_
        refine j_gr (e := 83) hJ kR_0 fR_15_118 fl_X12_324 dX12_isFact_41 rfl ?_
        refine j_iload_n hJ dX12_isFact_44 rfl 1 rfl ?_
        refine j_iald hJ gx1 kR_83 hF.1 hF.2.1 dX12_isFact_45 (fun v6 ev6 gv6 => ?_)
        have hF := hF.2.2 v6 ev6 gv6
        refine j_iconst hJ dX12_isFact_46 ?_
        refine j_icmp_eq hJ 60 gv6 rk_1 dX12_isFact_47 (by decide) (fun z7 => ?_) (fun z7 => ?_)
        · have hF := hF.1 z7
          exact j_sub hJ [0, 1, 2, 3] rfl (k_X12_isFact_b60 hin  hJ  x1 x2 x3 _ gx1 gx2 gx3 hF)
        · have hF := hF.2 z7
          refine j_iload_n hJ dX12_isFact_50 rfl 3 rfl ?_
          refine j_if_lt hJ 64 gx3 dX12_isFact_51 (by decide) (fun z8 => ?_) (fun z8 => ?_)
          · have hF := hF.1 z8
            exact j_sub hJ [0, 1, 2, 3] rfl (k_X12_isFact_b64 hin  hJ  x1 x2 x3 _ gx1 gx2 gx3 hF)
          · have hF := hF.2 z8
            refine j_iload_n hJ dX12_isFact_54 rfl 3 rfl ?_
            refine j_bipush hJ dX12_isFact_55 (by decide) ?_
            refine j_icmp_ge hJ 64 gx3 rk_40 dX12_isFact_57 (by decide) (fun z9 => ?_) (fun z9 => ?_)
            · have hF := hF.1 z9
              exact j_sub hJ [0, 1, 2, 3] rfl (k_X12_isFact_b64 hin  hJ  x1 x2 x3 _ gx1 gx2 gx3 hF)
            · have hF := hF.2 z9
              exact j_sub hJ [0, 1, 2, 3] rfl (k_X12_isFact_b60 hin  hJ  x1 x2 x3 _ gx1 gx2 gx3 hF)
  · have hF := hF.2 z3
    refine j_iconst hJ dX12_isFact_28 ?_
    exact j_zret hJ rfl (by decide) dX12_isFact_29 hF
set_option maxHeartbeats 4000000 in
set_option maxRecDepth 100000 in
theorem k_X12_isFact_b13 {l : Launch} {D : va_G} {cy : Nat → ClassId} {ad : Nat → Nat} {Q : Int → MM → Prop} {J : Nat → List (Nat × Value) → List Value → MM → Prop} (hin : jIn ad ksR.length)   (hJ : jOk l D vwCl (tyR cy) cy ad ftR ksR (XtR ad) Om RX12 cX12_isFact 5 3 ({ frames := 1, cells := 0, slots := 0, locals := 23 } : Room) Q J)  : ∀ (x1 x2 x3 : Int) (M : MM), ri_ x1 → ri_ x2 → ri_ x3 → w_X12_isFact_b13  Q  x1 x2 x3 M → J 13 [(0, .ref (ad 0)), (1, .int (Ii x1)), (2, .int (Ii x2)), (3, .int (Ii x3))] [.ref (ad 0)] M := by
  intro x1 x2 x3 M gx1 gx2 gx3 hF
  unfold w_X12_isFact_b13 at hF
  refine j_iconst hJ dX12_isFact_13 ?_
  refine j_goto hJ 18 dX12_isFact_14 (by decide) ?_
  exact j_sub hJ [0, 1, 2, 3] rfl (k_X12_isFact_b18 hin  hJ  x1 x2 x3 1 _ gx1 gx2 gx3 rk_1 hF)
set_option maxHeartbeats 4000000 in
set_option maxRecDepth 100000 in
theorem c_X12_isFact {l : Launch} {D : va_G} {cy : Nat → ClassId} {ad : Nat → Nat} (hin : jIn ad ksR.length) : jCN l D vwCl (tyR cy) cy ad ftR ksR (XtR ad) yX12_isFact (.code yX12_isFact cX12_isFact 5 (some .boolean) :: Om) ({ frames := 1, cells := 0, slots := 0, locals := 23 } : Room) 3 (W_X12_isFact ad) := by
  refine jCN_of (y := yX12_isFact) (cc := cX12_isFact) (nL := 5) (rk := 3) (rm := ({ frames := 1, cells := 0, slots := 0, locals := 23 } : Room)) (own := RX12) (tyR_ok cy) hin (XtR_ok ad) Om_good (by decide) rfl ?_
  intro Q av M hF
  obtain ⟨p1, p2, p3, rfl, gp1, gp2, gp3, hF⟩ := hF
  refine ⟨Nat.le_of_ble_eq_true rfl, fun J hJ => ?_⟩
  show J 0 [(0, .ref (ad 0)), (1, .int (Ii p1)), (2, .int (Ii p2)), (3, .int (Ii p3))] [] M
  unfold w_X12_isFact at hF
  refine j_aload_n hJ dX12_isFact_0 rfl 0 rfl ?_
  refine j_iload_n hJ dX12_isFact_1 rfl 1 rfl ?_
  refine j_if_lt hJ 13 gp1 dX12_isFact_2 (by decide) (fun z1 => ?_) (fun z1 => ?_)
  · have hF := hF.1 z1
    exact j_sub hJ [0, 1, 2, 3] rfl (k_X12_isFact_b13 hin  hJ  p1 p2 p3 _ gp1 gp2 gp3 hF)
  · have hF := hF.2 z1
    refine j_iload_n hJ dX12_isFact_5 rfl 1 rfl ?_
    refine j_aload_n hJ dX12_isFact_6 rfl 0 rfl ?_
    refine j_gi hJ kR_0 fR_15_133 rfl fl_X12_905 dX12_isFact_7 (fun v2 ev2 gv2 => ?_)
    have hF := hF v2 ev2 gv2
    refine j_icmp_lt hJ 17 gp1 gv2 dX12_isFact_10 (by decide) (fun z3 => ?_) (fun z3 => ?_)
    · have hF := hF.1 z3
      refine j_iconst hJ dX12_isFact_17 ?_
      exact j_sub hJ [0, 1, 2, 3] rfl (k_X12_isFact_b18 hin  hJ  p1 p2 p3 0 _ gp1 gp2 gp3 rk_0 hF)
    · have hF := hF.2 z3
      exact j_sub hJ [0, 1, 2, 3] rfl (k_X12_isFact_b13 hin  hJ  p1 p2 p3 _ gp1 gp2 gp3 hF)
