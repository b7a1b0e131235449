def W_X12_fieldLook (ad : Nat → Nat) (Q : Int → MM → Prop) (av : List Value) (M : MM) : Prop := ∃ (p1 : Int) (p2 : Int) (p3 : Int), av = [.ref (ad 0), .int (Ii p1), .int (Ii p2), .int (Ii p3)] ∧ ri_ p1 ∧ ri_ p2 ∧ ri_ p3 ∧ w_X12_fieldLook  Q p1 p2 p3 M
set_option maxHeartbeats 4000000 in
set_option maxRecDepth 100000 in
theorem c_X12_fieldLook {l : Launch} {D : va_G} {cy : Nat → ClassId} {ad : Nat → Nat} (hin : jIn ad ksR.length) : jCN l D vwCl (tyR cy) cy ad ftR ksR (XtR ad) yX12_fieldLook (.code yX12_fieldLook cX12_fieldLook 5 (some .int) :: Om) ({ frames := 1, cells := 0, slots := 0, locals := 21 } : Room) 1 (W_X12_fieldLook ad) := by
  refine jCN_of (y := yX12_fieldLook) (cc := cX12_fieldLook) (nL := 5) (rk := 1) (rm := ({ frames := 1, cells := 0, slots := 0, locals := 21 } : Room)) (own := RX12) (tyR_ok cy) hin (XtR_ok ad) Om_good (by decide) rfl ?_
  intro Q av M hF
  obtain ⟨p1, p2, p3, rfl, gp1, gp2, gp3, hF⟩ := hF
  refine ⟨Nat.le_of_ble_eq_true rfl, fun J hJ => ?_⟩
  show J 0 [(0, .ref (ad 0)), (1, .int (Ii p1)), (2, .int (Ii p2)), (3, .int (Ii p3))] [] M
  unfold w_X12_fieldLook at hF
  refine j_aload_n hJ dX12_fieldLook_0 rfl 0 rfl ?_
  refine j_iconst hJ dX12_fieldLook_1 ?_
  refine j_pi hJ rk_0 kR_0 fR_15_0 rfl fp_X12_388 dX12_fieldLook_2 (fun M1 eM1 => ?_)
  have hF := hF M1 eM1
  refine j_aload_n hJ dX12_fieldLook_5 rfl 0 rfl ?_
  refine j_iload_n hJ dX12_fieldLook_6 rfl 1 rfl ?_
  refine j_callVz hJ (c_X12_isClass (l := l) (D := D) (cy := cy) (ad := ad) hin) rfl om_1064 ⟨rfl, rfl, Nat.le_of_ble_eq_true rfl, Nat.le_of_ble_eq_true rfl⟩ [.int (Ii p1)] mv_X12_416 hd_X12_isClassv kR_0 rfl rfl rfl (Nat.le_of_ble_eq_true rfl) dX12_fieldLook_7 ⟨p1, rfl, gp1, hF⟩ (fun r2 M3 gr2 qM3 => ?_)
  have hF := qM3 gr2
  refine j_if_eq hJ 27 (jz_ri gr2) dX12_fieldLook_10 (by decide) (fun z4 => ?_) (fun z4 => ?_)
  · have hF := hF.1 z4
    refine j_iconst hJ dX12_fieldLook_27 ?_
    exact j_iret hJ rfl rk_m1 dX12_fieldLook_28 hF
  · have hF := hF.2 z4
    refine j_iload_n hJ dX12_fieldLook_13 rfl 2 rfl ?_
    refine j_if_lt hJ 27 gp2 dX12_fieldLook_14 (by decide) (fun z5 => ?_) (fun z5 => ?_)
    · have hF := hF.1 z5
      refine j_iconst hJ dX12_fieldLook_27 ?_
      exact j_iret hJ rfl rk_m1 dX12_fieldLook_28 hF
    · have hF := hF.2 z5
      refine j_iload_n hJ dX12_fieldLook_17 rfl 2 rfl ?_
      refine j_aload_n hJ dX12_fieldLook_18 rfl 0 rfl ?_
      refine j_gr (e := 9) hJ kR_0 fR_15_10 fl_X12_94 dX12_fieldLook_19 rfl ?_
      refine j_iload_n hJ dX12_fieldLook_22 rfl 1 rfl ?_
      refine j_iald hJ gp1 kR_9 hF.1 hF.2.1 dX12_fieldLook_23 (fun v6 ev6 gv6 => ?_)
      have hF := hF.2.2 v6 ev6 gv6
      refine j_icmp_lt hJ 29 gp2 gv6 dX12_fieldLook_24 (by decide) (fun z7 => ?_) (fun z7 => ?_)
      · have hF := hF.1 z7
        refine j_bipush hJ dX12_fieldLook_29 (by decide) ?_
        refine j_iload_n hJ dX12_fieldLook_31 rfl 1 rfl ?_
        refine j_imul hJ dX12_fieldLook_32 ?_
        have g8 := hF.1; have hF := hF.2
        refine j_iload_n hJ dX12_fieldLook_33 rfl 2 rfl ?_
        refine j_iadd hJ dX12_fieldLook_34 ?_
        have g9 := hF.1; have hF := hF.2
        refine j_istore (lv' := [(4, .int (Ii ((6 * p1) + p2))), (0, .ref (ad 0)), (1, .int (Ii p1)), (2, .int (Ii p2)), (3, .int (Ii p3))]) hJ dX12_fieldLook_35 (by decide) rfl ?_
        refine j_iload_n hJ dX12_fieldLook_37 rfl 4 rfl ?_
        by_cases z10 : p3 = 0
        · refine j_tabIn hJ 34 72 gp3 dX12_fieldLook_38 (by omega) (by omega) (by rw [z10]; decide) (by decide) ?_
          have hF := hF.1 z10
          refine j_aload_n hJ dX12_fieldLook_72 rfl 1 rfl ?_
          refine j_gr (e := 12) hJ kR_0 fR_15_13 fl_X12_103 dX12_fieldLook_73 rfl ?_
          refine j_iload hJ dX12_fieldLook_76 0 rfl ?_
          refine j_iald hJ g9 kR_12 hF.1 hF.2.1 dX12_fieldLook_78 (fun v11 ev11 gv11 => ?_)
          have hF := hF.2.2 v11 ev11 gv11
          exact j_iret hJ rfl gv11 dX12_fieldLook_79 hF
        by_cases z12 : p3 = 1
        · refine j_tabIn hJ 42 80 gp3 dX12_fieldLook_38 (by omega) (by omega) (by rw [z12]; decide) (by decide) ?_
          have hF := hF.2.1 z12
          refine j_aload_n hJ dX12_fieldLook_80 rfl 1 rfl ?_
          refine j_gr (e := 13) hJ kR_0 fR_15_14 fl_X12_106 dX12_fieldLook_81 rfl ?_
          refine j_iload hJ dX12_fieldLook_84 0 rfl ?_
          refine j_iald hJ g9 kR_13 hF.1 hF.2.1 dX12_fieldLook_86 (fun v13 ev13 gv13 => ?_)
          have hF := hF.2.2 v13 ev13 gv13
          exact j_iret hJ rfl gv13 dX12_fieldLook_87 hF
        by_cases z14 : p3 = 2
        · refine j_tabIn hJ 50 88 gp3 dX12_fieldLook_38 (by omega) (by omega) (by rw [z14]; decide) (by decide) ?_
          have hF := hF.2.2.1 z14
          refine j_aload_n hJ dX12_fieldLook_88 rfl 1 rfl ?_
          refine j_gr (e := 17) hJ kR_0 fR_15_18 fl_X12_119 dX12_fieldLook_89 rfl ?_
          refine j_iload hJ dX12_fieldLook_92 0 rfl ?_
          refine j_zald hJ g9 kR_17 hF.1 hF.2.1 dX12_fieldLook_94 (fun v15 ev15 gv15 => ?_)
          have hF := hF.2.2 v15 ev15 gv15
          refine j_if_eq hJ 102 (jz_ri gv15) dX12_fieldLook_95 (by decide) (fun z16 => ?_) (fun z16 => ?_)
          · have hF := hF.1 z16
            refine j_iconst hJ dX12_fieldLook_102 ?_
            exact j_iret hJ rfl rk_0 dX12_fieldLook_103 hF
          · have hF := hF.2 z16
            refine j_iconst hJ dX12_fieldLook_98 ?_
            refine j_goto hJ 103 dX12_fieldLook_99 (by decide) ?_
            exact j_iret hJ rfl rk_1 dX12_fieldLook_103 hF
        by_cases z17 : p3 = 3
        · refine j_tabIn hJ 66 104 gp3 dX12_fieldLook_38 (by omega) (by omega) (by rw [z17]; decide) (by decide) ?_
          have hF := hF.2.2.2.1 z17
          refine j_aload_n hJ dX12_fieldLook_104 rfl 1 rfl ?_
          refine j_gr (e := 14) hJ kR_0 fR_15_15 fl_X12_109 dX12_fieldLook_105 rfl ?_
          refine j_iload hJ dX12_fieldLook_108 0 rfl ?_
          refine j_iald hJ g9 kR_14 hF.1 hF.2.1 dX12_fieldLook_110 (fun v18 ev18 gv18 => ?_)
          have hF := hF.2.2 v18 ev18 gv18
          exact j_iret hJ rfl gv18 dX12_fieldLook_111 hF
        by_cases z19 : p3 = 4
        · refine j_tabIn hJ 74 112 gp3 dX12_fieldLook_38 (by omega) (by omega) (by rw [z19]; decide) (by decide) ?_
          have hF := hF.2.2.2.2.1 z19
          refine j_aload_n hJ dX12_fieldLook_112 rfl 1 rfl ?_
          refine j_gr (e := 17) hJ kR_0 fR_15_18 fl_X12_119 dX12_fieldLook_113 rfl ?_
          refine j_iload hJ dX12_fieldLook_116 0 rfl ?_
          refine j_zald hJ g9 kR_17 hF.1 hF.2.1 dX12_fieldLook_118 (fun v20 ev20 gv20 => ?_)
          have hF := hF.2.2 v20 ev20 gv20
          refine j_if_eq hJ 126 (jz_ri gv20) dX12_fieldLook_119 (by decide) (fun z21 => ?_) (fun z21 => ?_)
          · have hF := hF.1 z21
            refine j_aload_n hJ dX12_fieldLook_126 rfl 1 rfl ?_
            refine j_gr (e := 15) hJ kR_0 fR_15_16 fl_X12_112 dX12_fieldLook_127 rfl ?_
            refine j_iload hJ dX12_fieldLook_130 0 rfl ?_
            refine j_iald hJ g9 kR_15 hF.1 hF.2.1 dX12_fieldLook_132 (fun v22 ev22 gv22 => ?_)
            have hF := hF.2.2 v22 ev22 gv22
            exact j_iret hJ rfl gv22 dX12_fieldLook_133 hF
          · have hF := hF.2 z21
            refine j_iconst hJ dX12_fieldLook_122 ?_
            refine j_goto hJ 133 dX12_fieldLook_123 (by decide) ?_
            exact j_iret hJ rfl rk_m1 dX12_fieldLook_133 hF
        have z23 : ¬ p3 = 0 ∧ ¬ p3 = 1 ∧ ¬ p3 = 2 ∧ ¬ p3 = 3 ∧ ¬ p3 = 4 := ⟨z10, z12, z14, z17, z19⟩
        have hF := hF.2.2.2.2.2 z23
        refine j_tabOut hJ 134 gp3 dX12_fieldLook_38 (by omega) (by decide) ?_
        refine j_iconst hJ dX12_fieldLook_134 ?_
        exact j_iret hJ rfl rk_m1 dX12_fieldLook_135 hF
      · have hF := hF.2 z7
        refine j_iconst hJ dX12_fieldLook_27 ?_
        exact j_iret hJ rfl rk_m1 dX12_fieldLook_28 hF
def W_X12_isArrayType (ad : Nat → Nat) (Q : Int → MM → Prop) (av : List Value) (M : MM) : Prop := ∃ (p1 : Int), av = [.ref (ad 0), .int (Ii p1)] ∧ ri_ p1 ∧ w_X12_isArrayType  Q p1 M
set_option maxHeartbeats 4000000 in
set_option maxRecDepth 100000 in
theorem k_X12_isArrayType_b12 {l : Launch} {D : va_G} {cy : Nat → ClassId} {ad : Nat → Nat} {Q : Int → MM → Prop} {J : Nat → List (Nat × Value) → List Value → MM → Prop} (hin : jIn ad ksR.length)   (hJ : jOk l D vwCl (tyR cy) cy ad ftR ksR (XtR ad) Om RX12 cX12_isArrayType 2 3 ({ frames := 1, cells := 0, slots := 0, locals := 21 } : Room) Q J)  : ∀ (x1 : Int) (M : MM), ri_ x1 → w_X12_isArrayType_b12  Q  x1 M → J 12 [(0, .ref (ad 0)), (1, .int (Ii x1))] [] M := by
  intro x1 M gx1 hF
  unfold w_X12_isArrayType_b12 at hF
  refine j_iload_n hJ dX12_isArrayType_12 rfl 1 rfl ?_
  refine j_bipush hJ dX12_isArrayType_13 (by decide) ?_
  refine j_icmp_eq hJ 35 gx1 rk_29 dX12_isArrayType_15 (by decide) (fun z1 => ?_) (fun z1 => ?_)
  · have hF := hF.1 z1
    refine j_iconst hJ dX12_isArrayType_35 ?_
    refine j_goto hJ 40 dX12_isArrayType_36 (by decide) ?_
    exact j_zret hJ rfl (by decide) dX12_isArrayType_40 hF
  · have hF := hF.2 z1
    refine j_iload_n hJ dX12_isArrayType_18 rfl 1 rfl ?_
    refine j_bipush hJ dX12_isArrayType_19 (by decide) ?_
    refine j_icmp_lt hJ 39 gx1 rk_30 dX12_isArrayType_21 (by decide) (fun z2 => ?_) (fun z2 => ?_)
    · have hF := hF.1 z2
      refine j_iconst hJ dX12_isArrayType_39 ?_
      exact j_zret hJ rfl (by decide) dX12_isArrayType_40 hF
    · have hF := hF.2 z2
      refine j_aload_n hJ dX12_isArrayType_24 rfl 0 rfl ?_
      refine j_iload_n hJ dX12_isArrayType_25 rfl 1 rfl ?_
      refine j_bipush hJ dX12_isArrayType_26 (by decide) ?_
      refine j_isub hJ dX12_isArrayType_28 ?_
      have g3 := hF.1; have hF := hF.2
      refine j_callVz hJ (c_X12_isClass (l := l) (D := D) (cy := cy) (ad := ad) hin) rfl om_1064 ⟨rfl, rfl, Nat.le_of_ble_eq_true rfl, Nat.le_of_ble_eq_true rfl⟩ [.int (Ii (x1 - 30))] mv_X12_416 hd_X12_isClassv kR_0 rfl rfl rfl (Nat.le_of_ble_eq_true rfl) dX12_isArrayType_29 ⟨(x1 - 30), rfl, g3, hF⟩ (fun r4 M5 gr4 qM5 => ?_)
      have hF := qM5 gr4
      refine j_if_eq hJ 39 (jz_ri gr4) dX12_isArrayType_32 (by decide) (fun z6 => ?_) (fun z6 => ?_)
      · have hF := hF.1 z6
        refine j_iconst hJ dX12_isArrayType_39 ?_
        exact j_zret hJ rfl (by decide) dX12_isArrayType_40 hF
      · have hF := hF.2 z6
        refine j_iconst hJ dX12_isArrayType_35 ?_
        refine j_goto hJ 40 dX12_isArrayType_36 (by decide) ?_
        exact j_zret hJ rfl (by decide) dX12_isArrayType_40 hF
set_option maxHeartbeats 4000000 in
set_option maxRecDepth 100000 in
theorem c_X12_isArrayType {l : Launch} {D : va_G} {cy : Nat → ClassId} {ad : Nat → Nat} (hin : jIn ad ksR.length) : jCN l D vwCl (tyR cy) cy ad ftR ksR (XtR ad) yX12_isArrayType (.code yX12_isArrayType cX12_isArrayType 2 (some .boolean) :: Om) ({ frames := 1, cells := 0, slots := 0, locals := 21 } : Room) 3 (W_X12_isArrayType ad) := by
  refine jCN_of (y := yX12_isArrayType) (cc := cX12_isArrayType) (nL := 2) (rk := 3) (rm := ({ frames := 1, cells := 0, slots := 0, locals := 21 } : Room)) (own := RX12) (tyR_ok cy) hin (XtR_ok ad) Om_good (by decide) rfl ?_
  intro Q av M hF
  obtain ⟨p1, rfl, gp1, hF⟩ := hF
  refine ⟨Nat.le_of_ble_eq_true rfl, fun J hJ => ?_⟩
  show J 0 [(0, .ref (ad 0)), (1, .int (Ii p1))] [] M
  unfold w_X12_isArrayType at hF
  refine j_iload_n hJ dX12_isArrayType_0 rfl 1 rfl ?_
  refine j_bipush hJ dX12_isArrayType_1 (by decide) ?_
  refine j_icmp_lt hJ 12 gp1 rk_20 dX12_isArrayType_3 (by decide) (fun z1 => ?_) (fun z1 => ?_)
  · have hF := hF.1 z1
    exact j_sub hJ [0, 1] rfl (k_X12_isArrayType_b12 hin  hJ  p1 _ gp1 hF)
  · have hF := hF.2 z1
    refine j_iload_n hJ dX12_isArrayType_6 rfl 1 rfl ?_
    refine j_bipush hJ dX12_isArrayType_7 (by decide) ?_
    refine j_icmp_le hJ 35 gp1 rk_24 dX12_isArrayType_9 (by decide) (fun z2 => ?_) (fun z2 => ?_)
    · have hF := hF.1 z2
      refine j_iconst hJ dX12_isArrayType_35 ?_
      refine j_goto hJ 40 dX12_isArrayType_36 (by decide) ?_
      exact j_zret hJ rfl (by decide) dX12_isArrayType_40 hF
    · have hF := hF.2 z2
      exact j_sub hJ [0, 1] rfl (k_X12_isArrayType_b12 hin  hJ  p1 _ gp1 hF)
def W_X12_slotCount (ad : Nat → Nat) (Q : Int → MM → Prop) (av : List Value) (M : MM) : Prop := ∃ (p1 : Int) (p2 : Int), av = [.ref (ad 0), .int (Ii p1), .int (Ii p2)] ∧ ri_ p1 ∧ ri_ p2 ∧ w_X12_slotCount  Q p1 p2 M
set_option maxHeartbeats 4000000 in
set_option maxRecDepth 100000 in
theorem c_X12_slotCount {l : Launch} {D : va_G} {cy : Nat → ClassId} {ad : Nat → Nat} (hin : jIn ad ksR.length) : jCN l D vwCl (tyR cy) cy ad ftR ksR (XtR ad) yX12_slotCount (.code yX12_slotCount cX12_slotCount 3 (some .int) :: Om) ({ frames := 1, cells := 0, slots := 0, locals := 21 } : Room) 1 (W_X12_slotCount ad) := by
  refine jCN_of (y := yX12_slotCount) (cc := cX12_slotCount) (nL := 3) (rk := 1) (rm := ({ frames := 1, cells := 0, slots := 0, locals := 21 } : Room)) (own := RX12) (tyR_ok cy) hin (XtR_ok ad) Om_good (by decide) rfl ?_
  intro Q av M hF
  obtain ⟨p1, p2, rfl, gp1, gp2, hF⟩ := hF
  refine ⟨Nat.le_of_ble_eq_true rfl, fun J hJ => ?_⟩
  show J 0 [(0, .ref (ad 0)), (1, .int (Ii p1)), (2, .int (Ii p2))] [] M
  unfold w_X12_slotCount at hF
  refine j_aload_n hJ dX12_slotCount_0 rfl 0 rfl ?_
  refine j_iload_n hJ dX12_slotCount_1 rfl 1 rfl ?_
  refine j_callVz hJ (c_X12_isClass (l := l) (D := D) (cy := cy) (ad := ad) hin) rfl om_1064 ⟨rfl, rfl, Nat.le_of_ble_eq_true rfl, Nat.le_of_ble_eq_true rfl⟩ [.int (Ii p1)] mv_X12_416 hd_X12_isClassv kR_0 rfl rfl rfl (Nat.le_of_ble_eq_true rfl) dX12_slotCount_2 ⟨p1, rfl, gp1, hF⟩ (fun r1 M2 gr1 qM2 => ?_)
  have hF := qM2 gr1
  refine j_if_eq hJ 17 (jz_ri gr1) dX12_slotCount_5 (by decide) (fun z3 => ?_) (fun z3 => ?_)
  · have hF := hF.1 z3
    refine j_iload_n hJ dX12_slotCount_17 rfl 2 rfl ?_
    exact j_iret hJ rfl gp2 dX12_slotCount_18 hF
  · have hF := hF.2 z3
    refine j_aload_n hJ dX12_slotCount_8 rfl 0 rfl ?_
    refine j_gr (e := 10) hJ kR_0 fR_15_11 fl_X12_97 dX12_slotCount_9 rfl ?_
    refine j_iload_n hJ dX12_slotCount_12 rfl 1 rfl ?_
    refine j_iald hJ gp1 kR_10 hF.1 hF.2.1 dX12_slotCount_13 (fun v4 ev4 gv4 => ?_)
    have hF := hF.2.2 v4 ev4 gv4
    refine j_goto hJ 18 dX12_slotCount_14 (by decide) ?_
    exact j_iret hJ rfl gv4 dX12_slotCount_18 hF
def W_X12_isObject (ad : Nat → Nat) (Q : Int → MM → Prop) (av : List Value) (M : MM) : Prop := ∃ (p1 : Int), av = [.ref (ad 0), .int (Ii p1)] ∧ ri_ p1 ∧ w_X12_isObject  Q p1 M
set_option maxHeartbeats 4000000 in
set_option maxRecDepth 100000 in
theorem c_X12_isObject {l : Launch} {D : va_G} {cy : Nat → ClassId} {ad : Nat → Nat} (hin : jIn ad ksR.length) : jCN l D vwCl (tyR cy) cy ad ftR ksR (XtR ad) yX12_isObject (.code yX12_isObject cX12_isObject 2 (some .boolean) :: Om) ({ frames := 0, cells := 0, slots := 0, locals := 0 } : Room) 3 (W_X12_isObject ad) := by
  refine jCN_of (y := yX12_isObject) (cc := cX12_isObject) (nL := 2) (rk := 3) (rm := ({ frames := 0, cells := 0, slots := 0, locals := 0 } : Room)) (own := RX12) (tyR_ok cy) hin (XtR_ok ad) Om_good (by decide) rfl ?_
  intro Q av M hF
  obtain ⟨p1, rfl, gp1, hF⟩ := hF
  refine ⟨Nat.le_of_ble_eq_true rfl, fun J hJ => ?_⟩
  show J 0 [(0, .ref (ad 0)), (1, .int (Ii p1))] [] M
  unfold w_X12_isObject at hF
  refine j_iload_n hJ dX12_isObject_0 rfl 1 rfl ?_
  refine j_if_lt hJ 25 gp1 dX12_isObject_1 (by decide) (fun z1 => ?_) (fun z1 => ?_)
  · have hF := hF.1 z1
    refine j_iconst hJ dX12_isObject_25 ?_
    exact j_zret hJ rfl (by decide) dX12_isObject_26 hF
  · have hF := hF.2 z1
    refine j_iload_n hJ dX12_isObject_4 rfl 1 rfl ?_
    refine j_aload_n hJ dX12_isObject_5 rfl 0 rfl ?_
    refine j_gi hJ kR_0 fR_15_26 rfl fl_X12_435 dX12_isObject_6 (fun v2 ev2 gv2 => ?_)
    have hF := hF v2 ev2 gv2
    refine j_icmp_ge hJ 25 gp1 gv2 dX12_isObject_9 (by decide) (fun z3 => ?_) (fun z3 => ?_)
    · have hF := hF.1 z3
      refine j_iconst hJ dX12_isObject_25 ?_
      exact j_zret hJ rfl (by decide) dX12_isObject_26 hF
    · have hF := hF.2 z3
      refine j_aload_n hJ dX12_isObject_12 rfl 0 rfl ?_
      refine j_gr (e := 22) hJ kR_0 fR_15_24 fl_X12_134 dX12_isObject_13 rfl ?_
      refine j_iload_n hJ dX12_isObject_16 rfl 1 rfl ?_
      refine j_zald hJ gp1 kR_22 hF.1 hF.2.1 dX12_isObject_17 (fun v4 ev4 gv4 => ?_)
      have hF := hF.2.2 v4 ev4 gv4
      refine j_if_eq hJ 25 (jz_ri gv4) dX12_isObject_18 (by decide) (fun z5 => ?_) (fun z5 => ?_)
      · have hF := hF.1 z5
        refine j_iconst hJ dX12_isObject_25 ?_
        exact j_zret hJ rfl (by decide) dX12_isObject_26 hF
      · have hF := hF.2 z5
        refine j_iconst hJ dX12_isObject_21 ?_
        refine j_goto hJ 26 dX12_isObject_22 (by decide) ?_
        exact j_zret hJ rfl (by decide) dX12_isObject_26 hF
def W_X12_fieldOf (ad : Nat → Nat) (Q : Int → MM → Prop) (av : List Value) (M : MM) : Prop := ∃ (p1 : Int) (p2 : Int), av = [.ref (ad 0), .int (Ii p1), .int (Ii p2)] ∧ ri_ p1 ∧ ri_ p2 ∧ w_X12_fieldOf  Q p1 p2 M
set_option maxHeartbeats 4000000 in
set_option maxRecDepth 100000 in
theorem k_X12_fieldOf_b97 {l : Launch} {D : va_G} {cy : Nat → ClassId} {ad : Nat → Nat} {Q : Int → MM → Prop} {J : Nat → List (Nat × Value) → List Value → MM → Prop} (hin : jIn ad ksR.length)   (hJ : jOk l D vwCl (tyR cy) cy ad ftR ksR (XtR ad) Om RX12 cX12_fieldOf 6 1 ({ frames := 0, cells := 0, slots := 0, locals := 0 } : Room) Q J) {K43 : Int → Int → Int → Int → MM → Prop} (hK43 : ∀ (x2 x3 x4 x5 : Int) (M : MM), ri_ x2 → ri_ x3 → ri_ x4 → ri_ x5 → K43 x2 x3 x4 x5 M → J 43 [(0, .ref (ad 0)), (2, .int (Ii x2)), (3, .int (Ii x3)), (4, .int (Ii x4)), (5, .int (Ii x5))] [] M) : ∀ (x2 x3 x5 s0 : Int) (M : MM), ri_ x2 → ri_ x3 → ri_ x5 → ri_ s0 → w_X12_fieldOf_b97  Q K43 x2 x3 x5 s0 M → J 97 [(0, .ref (ad 0)), (2, .int (Ii x2)), (3, .int (Ii x3)), (5, .int (Ii x5))] [.int (Ii s0)] M := by
  intro x2 x3 x5 s0 M gx2 gx3 gx5 gs0 hF
  unfold w_X12_fieldOf_b97 at hF
  refine j_istore (lv' := [(4, .int (Ii s0)), (0, .ref (ad 0)), (2, .int (Ii x2)), (3, .int (Ii x3)), (5, .int (Ii x5))]) hJ dX12_fieldOf_97 (by decide) rfl ?_
  refine j_iinc (lv' := [(5, .int (Ii (x5 + 1))), (4, .int (Ii s0)), (0, .ref (ad 0)), (2, .int (Ii x2)), (3, .int (Ii x3))]) (k := 4) hJ dX12_fieldOf_99 rfl (by decide) rfl ?_
  have g1 := hF.1; have hF := hF.2
  refine j_goto hJ 43 dX12_fieldOf_102 (by decide) ?_
  exact j_sub hJ [2, 3, 4, 1, 0] rfl (hK43 x2 x3 s0 (x5 + 1) _ gx2 gx3 gs0 g1 hF)
set_option maxHeartbeats 4000000 in
set_option maxRecDepth 100000 in
theorem k_X12_fieldOf_b95 {l : Launch} {D : va_G} {cy : Nat → ClassId} {ad : Nat → Nat} {Q : Int → MM → Prop} {J : Nat → List (Nat × Value) → List Value → MM → Prop} (hin : jIn ad ksR.length)   (hJ : jOk l D vwCl (tyR cy) cy ad ftR ksR (XtR ad) Om RX12 cX12_fieldOf 6 1 ({ frames := 0, cells := 0, slots := 0, locals := 0 } : Room) Q J) {K43 : Int → Int → Int → Int → MM → Prop} (hK43 : ∀ (x2 x3 x4 x5 : Int) (M : MM), ri_ x2 → ri_ x3 → ri_ x4 → ri_ x5 → K43 x2 x3 x4 x5 M → J 43 [(0, .ref (ad 0)), (2, .int (Ii x2)), (3, .int (Ii x3)), (4, .int (Ii x4)), (5, .int (Ii x5))] [] M) : ∀ (x2 x3 x4 x5 : Int) (M : MM), ri_ x2 → ri_ x3 → ri_ x4 → ri_ x5 → w_X12_fieldOf_b95  Q K43 x2 x3 x4 x5 M → J 95 [(0, .ref (ad 0)), (2, .int (Ii x2)), (3, .int (Ii x3)), (4, .int (Ii x4)), (5, .int (Ii x5))] [] M := by
  intro x2 x3 x4 x5 M gx2 gx3 gx4 gx5 hF
  unfold w_X12_fieldOf_b95 at hF
  refine j_iload hJ dX12_fieldOf_95 3 rfl ?_
  exact j_sub hJ [0, 1, 2, 4] rfl (k_X12_fieldOf_b97 hin  hJ hK43 x2 x3 x5 x4 _ gx2 gx3 gx5 gx4 hF)
set_option maxHeartbeats 4000000 in
set_option maxRecDepth 100000 in
theorem k_X12_fieldOf_b43 {l : Launch} {D : va_G} {cy : Nat → ClassId} {ad : Nat → Nat} {Q : Int → MM → Prop} {J : Nat → List (Nat × Value) → List Value → MM → Prop} (hin : jIn ad ksR.length)   (hJ : jOk l D vwCl (tyR cy) cy ad ftR ksR (XtR ad) Om RX12 cX12_fieldOf 6 1 ({ frames := 0, cells := 0, slots := 0, locals := 0 } : Room) Q J)  : ∀ (x2 x3 x4 x5 : Int) (M : MM), ri_ x2 → ri_ x3 → ri_ x4 → ri_ x5 → w_X12_fieldOf_b43  Q  x2 x3 x4 x5 M → J 43 [(0, .ref (ad 0)), (2, .int (Ii x2)), (3, .int (Ii x3)), (4, .int (Ii x4)), (5, .int (Ii x5))] [] M := by
  have H9 : ∀ (n : Nat) (x2 x3 x4 x5 : Int) (M : MM), ri_ x2 → ri_ x3 → ri_ x4 → ri_ x5 → jit (fun _ _ _ _ _ => False) (wb_X12_fieldOf_b43  Q ) n x2 x3 x4 x5 M → J 43 [(0, .ref (ad 0)), (2, .int (Ii x2)), (3, .int (Ii x3)), (4, .int (Ii x4)), (5, .int (Ii x5))] [] M := by
    intro n
    induction n with
    | zero => intro x2 x3 x4 x5 M gx2 gx3 gx4 gx5 hF; exact False.elim hF
    | succ n ih =>
    intro x2 x3 x4 x5 M gx2 gx3 gx4 gx5 hF
    have hF : wb_X12_fieldOf_b43  Q  (jit (fun _ _ _ _ _ => False) (wb_X12_fieldOf_b43  Q ) n) x2 x3 x4 x5 M := hF
    unfold wb_X12_fieldOf_b43 at hF
    refine j_iload hJ dX12_fieldOf_43 4 rfl ?_
    refine j_aload_n hJ dX12_fieldOf_45 rfl 0 rfl ?_
    refine j_gr (e := 9) hJ kR_0 fR_15_10 fl_X12_94 dX12_fieldOf_46 rfl ?_
    refine j_iload_n hJ dX12_fieldOf_49 rfl 2 rfl ?_
    refine j_iald hJ gx3 kR_9 hF.1 hF.2.1 dX12_fieldOf_50 (fun v1 ev1 gv1 => ?_)
    have hF := hF.2.2 v1 ev1 gv1
    refine j_icmp_ge hJ 105 gx5 gv1 dX12_fieldOf_51 (by decide) (fun z2 => ?_) (fun z2 => ?_)
    · have hF := hF.1 z2
      refine j_iload hJ dX12_fieldOf_105 3 rfl ?_
      exact j_iret hJ rfl gx4 dX12_fieldOf_107 hF
    · have hF := hF.2 z2
      refine j_aload_n hJ dX12_fieldOf_54 rfl 0 rfl ?_
      refine j_gr (e := 17) hJ kR_0 fR_15_18 fl_X12_119 dX12_fieldOf_55 rfl ?_
      refine j_bipush hJ dX12_fieldOf_58 (by decide) ?_
      refine j_iload_n hJ dX12_fieldOf_60 rfl 2 rfl ?_
      refine j_imul hJ dX12_fieldOf_61 ?_
      have g3 := hF.1; have hF := hF.2
      refine j_iload hJ dX12_fieldOf_62 4 rfl ?_
      refine j_iadd hJ dX12_fieldOf_64 ?_
      have g4 := hF.1; have hF := hF.2
      refine j_zald hJ g4 kR_17 hF.1 hF.2.1 dX12_fieldOf_65 (fun v5 ev5 gv5 => ?_)
      have hF := hF.2.2 v5 ev5 gv5
      refine j_if_ne hJ 95 (jz_ri gv5) dX12_fieldOf_66 (by decide) (fun z6 => ?_) (fun z6 => ?_)
      · have hF := hF.1 z6
        exact j_sub hJ [0, 1, 2, 3, 4] rfl (k_X12_fieldOf_b95 hin  hJ ih x2 x3 x4 x5 _ gx2 gx3 gx4 gx5 hF)
      · have hF := hF.2 z6
        refine j_aload_n hJ dX12_fieldOf_69 rfl 0 rfl ?_
        refine j_gr (e := 14) hJ kR_0 fR_15_15 fl_X12_109 dX12_fieldOf_70 rfl ?_
        refine j_bipush hJ dX12_fieldOf_73 (by decide) ?_
        refine j_iload_n hJ dX12_fieldOf_75 rfl 2 rfl ?_
        refine j_imul hJ dX12_fieldOf_76 ?_
        have g7 := hF.1; have hF := hF.2
        refine j_iload hJ dX12_fieldOf_77 4 rfl ?_
        refine j_iadd hJ dX12_fieldOf_79 ?_
        have g8 := hF.1; have hF := hF.2
        refine j_iald hJ g8 kR_14 hF.1 hF.2.1 dX12_fieldOf_80 (fun v9 ev9 gv9 => ?_)
        have hF := hF.2.2 v9 ev9 gv9
        refine j_iload_n hJ dX12_fieldOf_81 rfl 1 rfl ?_
        refine j_icmp_ne hJ 95 gv9 gx2 dX12_fieldOf_82 (by decide) (fun z10 => ?_) (fun z10 => ?_)
        · have hF := hF.1 z10
          exact j_sub hJ [0, 1, 2, 3, 4] rfl (k_X12_fieldOf_b95 hin  hJ ih x2 x3 x4 x5 _ gx2 gx3 gx4 gx5 hF)
        · have hF := hF.2 z10
          refine j_bipush hJ dX12_fieldOf_85 (by decide) ?_
          refine j_iload_n hJ dX12_fieldOf_87 rfl 2 rfl ?_
          refine j_imul hJ dX12_fieldOf_88 ?_
          have g11 := hF.1; have hF := hF.2
          refine j_iload hJ dX12_fieldOf_89 4 rfl ?_
          refine j_iadd hJ dX12_fieldOf_91 ?_
          have g12 := hF.1; have hF := hF.2
          refine j_goto hJ 97 dX12_fieldOf_92 (by decide) ?_
          exact j_sub hJ [0, 1, 2, 4] rfl (k_X12_fieldOf_b97 hin  hJ ih x2 x3 x5 ((6 * x3) + x5) _ gx2 gx3 gx5 g12 hF)
  intro x2 x3 x4 x5 M gx2 gx3 gx4 gx5 hF
  obtain ⟨n, hF⟩ := hF
  exact H9 n x2 x3 x4 x5 M gx2 gx3 gx4 gx5 hF
set_option maxHeartbeats 4000000 in
set_option maxRecDepth 100000 in
theorem k_X12_fieldOf_b37 {l : Launch} {D : va_G} {cy : Nat → ClassId} {ad : Nat → Nat} {Q : Int → MM → Prop} {J : Nat → List (Nat × Value) → List Value → MM → Prop} (hin : jIn ad ksR.length)   (hJ : jOk l D vwCl (tyR cy) cy ad ftR ksR (XtR ad) Om RX12 cX12_fieldOf 6 1 ({ frames := 0, cells := 0, slots := 0, locals := 0 } : Room) Q J)  : ∀ (x2 x3 : Int) (M : MM), ri_ x2 → ri_ x3 → w_X12_fieldOf_b37  Q  x2 x3 M → J 37 [(0, .ref (ad 0)), (2, .int (Ii x2)), (3, .int (Ii x3))] [] M := by
  intro x2 x3 M gx2 gx3 hF
  unfold w_X12_fieldOf_b37 at hF
  refine j_iconst hJ dX12_fieldOf_37 ?_
  refine j_istore (lv' := [(4, .int (Ii (-1))), (0, .ref (ad 0)), (2, .int (Ii x2)), (3, .int (Ii x3))]) hJ dX12_fieldOf_38 (by decide) rfl ?_
  refine j_iconst hJ dX12_fieldOf_40 ?_
  refine j_istore (lv' := [(5, .int (Ii 0)), (4, .int (Ii (-1))), (0, .ref (ad 0)), (2, .int (Ii x2)), (3, .int (Ii x3))]) hJ dX12_fieldOf_41 (by decide) rfl ?_
  exact j_sub hJ [2, 3, 4, 1, 0] rfl (k_X12_fieldOf_b43 hin  hJ  x2 x3 (-1) 0 _ gx2 gx3 rk_m1 rk_0 hF)
set_option maxHeartbeats 4000000 in
set_option maxRecDepth 100000 in
theorem k_X12_fieldOf_b2 {l : Launch} {D : va_G} {cy : Nat → ClassId} {ad : Nat → Nat} {Q : Int → MM → Prop} {J : Nat → List (Nat × Value) → List Value → MM → Prop} (hin : jIn ad ksR.length)   (hJ : jOk l D vwCl (tyR cy) cy ad ftR ksR (XtR ad) Om RX12 cX12_fieldOf 6 1 ({ frames := 0, cells := 0, slots := 0, locals := 0 } : Room) Q J)  : ∀ (x2 x3 : Int) (M : MM), ri_ x2 → ri_ x3 → w_X12_fieldOf_b2  Q  x2 x3 M → J 2 [(0, .ref (ad 0)), (2, .int (Ii x2)), (3, .int (Ii x3))] [] M := by
  have H9 : ∀ (n : Nat) (x2 x3 : Int) (M : MM), ri_ x2 → ri_ x3 → jit (fun _ _ _ => False) (wb_X12_fieldOf_b2  Q ) n x2 x3 M → J 2 [(0, .ref (ad 0)), (2, .int (Ii x2)), (3, .int (Ii x3))] [] M := by
    intro n
    induction n with
    | zero => intro x2 x3 M gx2 gx3 hF; exact False.elim hF
    | succ n ih =>
    intro x2 x3 M gx2 gx3 hF
    have hF : wb_X12_fieldOf_b2  Q  (jit (fun _ _ _ => False) (wb_X12_fieldOf_b2  Q ) n) x2 x3 M := hF
    unfold wb_X12_fieldOf_b2 at hF
    refine j_aload_n hJ dX12_fieldOf_2 rfl 0 rfl ?_
    refine j_gr (e := 8) hJ kR_0 fR_15_9 fl_X12_91 dX12_fieldOf_3 rfl ?_
    refine j_iload_n hJ dX12_fieldOf_6 rfl 2 rfl ?_
    refine j_iald hJ gx3 kR_8 hF.1 hF.2.1 dX12_fieldOf_7 (fun v1 ev1 gv1 => ?_)
    have hF := hF.2.2 v1 ev1 gv1
    refine j_iconst hJ dX12_fieldOf_8 ?_
    refine j_icmp_eq hJ 37 gv1 rk_m1 dX12_fieldOf_9 (by decide) (fun z2 => ?_) (fun z2 => ?_)
    · have hF := hF.1 z2
      exact j_sub hJ [0, 1, 2] rfl (k_X12_fieldOf_b37 hin  hJ  x2 x3 _ gx2 gx3 hF)
    · have hF := hF.2 z2
      refine j_iload_n hJ dX12_fieldOf_12 rfl 1 rfl ?_
      refine j_aload_n hJ dX12_fieldOf_13 rfl 0 rfl ?_
      refine j_gr (e := 10) hJ kR_0 fR_15_11 fl_X12_97 dX12_fieldOf_14 rfl ?_
      refine j_aload_n hJ dX12_fieldOf_17 rfl 0 rfl ?_
      refine j_gr (e := 8) hJ kR_0 fR_15_9 fl_X12_91 dX12_fieldOf_18 rfl ?_
      refine j_iload_n hJ dX12_fieldOf_21 rfl 2 rfl ?_
      refine j_iald hJ gx3 kR_8 hF.1 hF.2.1 dX12_fieldOf_22 (fun v3 ev3 gv3 => ?_)
      have hF := hF.2.2 v3 ev3 gv3
      refine j_iald hJ gv3 kR_10 hF.1 hF.2.1 dX12_fieldOf_23 (fun v4 ev4 gv4 => ?_)
      have hF := hF.2.2 v4 ev4 gv4
      refine j_icmp_ge hJ 37 gx2 gv4 dX12_fieldOf_24 (by decide) (fun z5 => ?_) (fun z5 => ?_)
      · have hF := hF.1 z5
        exact j_sub hJ [0, 1, 2] rfl (k_X12_fieldOf_b37 hin  hJ  x2 x3 _ gx2 gx3 hF)
      · have hF := hF.2 z5
        refine j_aload_n hJ dX12_fieldOf_27 rfl 0 rfl ?_
        refine j_gr (e := 8) hJ kR_0 fR_15_9 fl_X12_91 dX12_fieldOf_28 rfl ?_
        refine j_iload_n hJ dX12_fieldOf_31 rfl 2 rfl ?_
        refine j_iald hJ gx3 kR_8 hF.1 hF.2.1 dX12_fieldOf_32 (fun v6 ev6 gv6 => ?_)
        have hF := hF.2.2 v6 ev6 gv6
        refine j_istore_n (lv' := [(3, .int (Ii v6)), (0, .ref (ad 0)), (2, .int (Ii x2))]) hJ dX12_fieldOf_33 rfl (by decide) rfl ?_
        refine j_goto hJ 2 dX12_fieldOf_34 (by decide) ?_
        exact j_sub hJ [1, 2, 0] rfl (ih x2 v6 _ gx2 gv6 hF)
  intro x2 x3 M gx2 gx3 hF
  obtain ⟨n, hF⟩ := hF
  exact H9 n x2 x3 M gx2 gx3 hF
set_option maxHeartbeats 4000000 in
set_option maxRecDepth 100000 in
theorem c_X12_fieldOf {l : Launch} {D : va_G} {cy : Nat → ClassId} {ad : Nat → Nat} (hin : jIn ad ksR.length) : jCN l D vwCl (tyR cy) cy ad ftR ksR (XtR ad) yX12_fieldOf (.code yX12_fieldOf cX12_fieldOf 6 (some .int) :: Om) ({ frames := 0, cells := 0, slots := 0, locals := 0 } : Room) 1 (W_X12_fieldOf ad) := by
  refine jCN_of (y := yX12_fieldOf) (cc := cX12_fieldOf) (nL := 6) (rk := 1) (rm := ({ frames := 0, cells := 0, slots := 0, locals := 0 } : Room)) (own := RX12) (tyR_ok cy) hin (XtR_ok ad) Om_good (by decide) rfl ?_
  intro Q av M hF
  obtain ⟨p1, p2, rfl, gp1, gp2, hF⟩ := hF
  refine ⟨Nat.le_of_ble_eq_true rfl, fun J hJ => ?_⟩
  show J 0 [(0, .ref (ad 0)), (1, .int (Ii p1)), (2, .int (Ii p2))] [] M
  unfold w_X12_fieldOf at hF
  refine j_iload_n hJ dX12_fieldOf_0 rfl 1 rfl ?_
  refine j_istore_n (lv' := [(3, .int (Ii p1)), (0, .ref (ad 0)), (1, .int (Ii p1)), (2, .int (Ii p2))]) hJ dX12_fieldOf_1 rfl (by decide) rfl ?_
  exact j_sub hJ [1, 3, 0] rfl (k_X12_fieldOf_b2 hin  hJ  p2 p1 _ gp2 gp1 hF)
def W_X12_kindOf (ad : Nat → Nat) (Q : Int → MM → Prop) (av : List Value) (M : MM) : Prop := ∃ (p1 : Int) (p2 : Int), av = [.ref (ad 0), .int (Ii p1), .int (Ii p2)] ∧ ri_ p1 ∧ ri_ p2 ∧ w_X12_kindOf  Q p1 p2 M
set_option maxHeartbeats 4000000 in
set_option maxRecDepth 100000 in
theorem c_X12_kindOf {l : Launch} {D : va_G} {cy : Nat → ClassId} {ad : Nat → Nat} (hin : jIn ad ksR.length) : jCN l D vwCl (tyR cy) cy ad ftR ksR (XtR ad) yX12_kindOf (.code yX12_kindOf cX12_kindOf 3 (some .int) :: Om) ({ frames := 1, cells := 0, slots := 0, locals := 25 } : Room) 1 (W_X12_kindOf ad) := by
  refine jCN_of (y := yX12_kindOf) (cc := cX12_kindOf) (nL := 3) (rk := 1) (rm := ({ frames := 1, cells := 0, slots := 0, locals := 25 } : Room)) (own := RX12) (tyR_ok cy) hin (XtR_ok ad) Om_good (by decide) rfl ?_
  intro Q av M hF
  obtain ⟨p1, p2, rfl, gp1, gp2, hF⟩ := hF
  refine ⟨Nat.le_of_ble_eq_true rfl, fun J hJ => ?_⟩
  show J 0 [(0, .ref (ad 0)), (1, .int (Ii p1)), (2, .int (Ii p2))] [] M
  unfold w_X12_kindOf at hF
  refine j_aload_n hJ dX12_kindOf_0 rfl 0 rfl ?_
  refine j_iload_n hJ dX12_kindOf_1 rfl 1 rfl ?_
  refine j_callVz hJ (c_X12_isClass (l := l) (D := D) (cy := cy) (ad := ad) hin) rfl om_1064 ⟨rfl, rfl, Nat.le_of_ble_eq_true rfl, Nat.le_of_ble_eq_true rfl⟩ [.int (Ii p1)] mv_X12_416 hd_X12_isClassv kR_0 rfl rfl rfl (Nat.le_of_ble_eq_true rfl) dX12_kindOf_2 ⟨p1, rfl, gp1, hF⟩ (fun r1 M2 gr1 qM2 => ?_)
  have hF := qM2 gr1
  refine j_if_eq hJ 22 (jz_ri gr1) dX12_kindOf_5 (by decide) (fun z3 => ?_) (fun z3 => ?_)
  · have hF := hF.1 z3
    refine j_iload_n hJ dX12_kindOf_22 rfl 1 rfl ?_
    refine j_bipush hJ dX12_kindOf_23 (by decide) ?_
    refine j_icmp_lt hJ 32 gp1 rk_29 dX12_kindOf_25 (by decide) (fun z4 => ?_) (fun z4 => ?_)
    · have hF := hF.1 z4
      refine j_iload_n hJ dX12_kindOf_32 rfl 1 rfl ?_
      refine j_bipush hJ dX12_kindOf_33 (by decide) ?_
      refine j_isub hJ dX12_kindOf_35 ?_
      have g5 := hF.1; have hF := hF.2
      exact j_iret hJ rfl g5 dX12_kindOf_36 hF
    · have hF := hF.2 z4
      refine j_iconst hJ dX12_kindOf_28 ?_
      refine j_goto hJ 36 dX12_kindOf_29 (by decide) ?_
      exact j_iret hJ rfl rk_5 dX12_kindOf_36 hF
  · have hF := hF.2 z3
    refine j_aload_n hJ dX12_kindOf_8 rfl 0 rfl ?_
    refine j_gr (e := 12) hJ kR_0 fR_15_13 fl_X12_103 dX12_kindOf_9 rfl ?_
    refine j_aload_n hJ dX12_kindOf_12 rfl 0 rfl ?_
    refine j_iload_n hJ dX12_kindOf_13 rfl 1 rfl ?_
    refine j_iload_n hJ dX12_kindOf_14 rfl 2 rfl ?_
    refine j_callVi hJ (c_X12_fieldOf (l := l) (D := D) (cy := cy) (ad := ad) hin) rfl om_1077 ⟨rfl, rfl, Nat.le_of_ble_eq_true rfl, Nat.le_of_ble_eq_true rfl⟩ [.int (Ii p1), .int (Ii p2)] mv_X12_441 hd_X12_fieldOfv kR_0 rfl rfl rfl (Nat.le_of_ble_eq_true rfl) dX12_kindOf_15 ⟨p1, p2, rfl, gp1, gp2, hF⟩ (fun r6 M7 gr6 qM7 => ?_)
    have hF := qM7 gr6
    refine j_iald hJ gr6 kR_12 hF.1 hF.2.1 dX12_kindOf_18 (fun v8 ev8 gv8 => ?_)
    have hF := hF.2.2 v8 ev8 gv8
    refine j_goto hJ 36 dX12_kindOf_19 (by decide) ?_
    exact j_iret hJ rfl gv8 dX12_kindOf_36 hF
def W_X12_linkOf (ad : Nat → Nat) (Q : Int → MM → Prop) (av : List Value) (M : MM) : Prop := ∃ (p1 : Int) (p2 : Int), av = [.ref (ad 0), .int (Ii p1), .int (Ii p2)] ∧ ri_ p1 ∧ ri_ p2 ∧ w_X12_linkOf  Q p1 p2 M
set_option maxHeartbeats 4000000 in
set_option maxRecDepth 100000 in
theorem c_X12_linkOf {l : Launch} {D : va_G} {cy : Nat → ClassId} {ad : Nat → Nat} (hin : jIn ad ksR.length) : jCN l D vwCl (tyR cy) cy ad ftR ksR (XtR ad) yX12_linkOf (.code yX12_linkOf cX12_linkOf 3 (some .int) :: Om) ({ frames := 1, cells := 0, slots := 0, locals := 25 } : Room) 1 (W_X12_linkOf ad) := by
  refine jCN_of (y := yX12_linkOf) (cc := cX12_linkOf) (nL := 3) (rk := 1) (rm := ({ frames := 1, cells := 0, slots := 0, locals := 25 } : Room)) (own := RX12) (tyR_ok cy) hin (XtR_ok ad) Om_good (by decide) rfl ?_
  intro Q av M hF
  obtain ⟨p1, p2, rfl, gp1, gp2, hF⟩ := hF
  refine ⟨Nat.le_of_ble_eq_true rfl, fun J hJ => ?_⟩
  show J 0 [(0, .ref (ad 0)), (1, .int (Ii p1)), (2, .int (Ii p2))] [] M
  unfold w_X12_linkOf at hF
  refine j_aload_n hJ dX12_linkOf_0 rfl 0 rfl ?_
  refine j_iload_n hJ dX12_linkOf_1 rfl 1 rfl ?_
  refine j_callVz hJ (c_X12_isClass (l := l) (D := D) (cy := cy) (ad := ad) hin) rfl om_1064 ⟨rfl, rfl, Nat.le_of_ble_eq_true rfl, Nat.le_of_ble_eq_true rfl⟩ [.int (Ii p1)] mv_X12_416 hd_X12_isClassv kR_0 rfl rfl rfl (Nat.le_of_ble_eq_true rfl) dX12_linkOf_2 ⟨p1, rfl, gp1, hF⟩ (fun r1 M2 gr1 qM2 => ?_)
  have hF := qM2 gr1
  refine j_if_eq hJ 22 (jz_ri gr1) dX12_linkOf_5 (by decide) (fun z3 => ?_) (fun z3 => ?_)
  · have hF := hF.1 z3
    refine j_iload_n hJ dX12_linkOf_22 rfl 1 rfl ?_
    refine j_bipush hJ dX12_linkOf_23 (by decide) ?_
    refine j_icmp_ne hJ 32 gp1 rk_29 dX12_linkOf_25 (by decide) (fun z4 => ?_) (fun z4 => ?_)
    · have hF := hF.1 z4
      refine j_iload_n hJ dX12_linkOf_32 rfl 1 rfl ?_
      refine j_bipush hJ dX12_linkOf_33 (by decide) ?_
      refine j_isub hJ dX12_linkOf_35 ?_
      have g5 := hF.1; have hF := hF.2
      exact j_iret hJ rfl g5 dX12_linkOf_36 hF
    · have hF := hF.2 z4
      refine j_iconst hJ dX12_linkOf_28 ?_
      refine j_goto hJ 36 dX12_linkOf_29 (by decide) ?_
      exact j_iret hJ rfl rk_m1 dX12_linkOf_36 hF
  · have hF := hF.2 z3
    refine j_aload_n hJ dX12_linkOf_8 rfl 0 rfl ?_
    refine j_gr (e := 13) hJ kR_0 fR_15_14 fl_X12_106 dX12_linkOf_9 rfl ?_
    refine j_aload_n hJ dX12_linkOf_12 rfl 0 rfl ?_
    refine j_iload_n hJ dX12_linkOf_13 rfl 1 rfl ?_
    refine j_iload_n hJ dX12_linkOf_14 rfl 2 rfl ?_
    refine j_callVi hJ (c_X12_fieldOf (l := l) (D := D) (cy := cy) (ad := ad) hin) rfl om_1077 ⟨rfl, rfl, Nat.le_of_ble_eq_true rfl, Nat.le_of_ble_eq_true rfl⟩ [.int (Ii p1), .int (Ii p2)] mv_X12_441 hd_X12_fieldOfv kR_0 rfl rfl rfl (Nat.le_of_ble_eq_true rfl) dX12_linkOf_15 ⟨p1, p2, rfl, gp1, gp2, hF⟩ (fun r6 M7 gr6 qM7 => ?_)
    have hF := qM7 gr6
    refine j_iald hJ gr6 kR_13 hF.1 hF.2.1 dX12_linkOf_18 (fun v8 ev8 gv8 => ?_)
    have hF := hF.2.2 v8 ev8 gv8
    refine j_goto hJ 36 dX12_linkOf_19 (by decide) ?_
    exact j_iret hJ rfl gv8 dX12_linkOf_36 hF
def W_X12_fits (ad : Nat → Nat) (Q : Int → MM → Prop) (av : List Value) (M : MM) : Prop := ∃ (p1 : Int) (p2 : Int), av = [.ref (ad 0), .int (Ii p1), .int (Ii p2)] ∧ ri_ p1 ∧ ri_ p2 ∧ w_X12_fits  Q p1 p2 M
set_option maxHeartbeats 4000000 in
set_option maxRecDepth 100000 in
theorem c_X12_fits {l : Launch} {D : va_G} {cy : Nat → ClassId} {ad : Nat → Nat} (hin : jIn ad ksR.length) : jCN l D vwCl (tyR cy) cy ad ftR ksR (XtR ad) yX12_fits (.code yX12_fits cX12_fits 3 (some .boolean) :: Om) ({ frames := 1, cells := 0, slots := 0, locals := 23 } : Room) 3 (W_X12_fits ad) := by
  refine jCN_of (y := yX12_fits) (cc := cX12_fits) (nL := 3) (rk := 3) (rm := ({ frames := 1, cells := 0, slots := 0, locals := 23 } : Room)) (own := RX12) (tyR_ok cy) hin (XtR_ok ad) Om_good (by decide) rfl ?_
  intro Q av M hF
  obtain ⟨p1, p2, rfl, gp1, gp2, hF⟩ := hF
  refine ⟨Nat.le_of_ble_eq_true rfl, fun J hJ => ?_⟩
  show J 0 [(0, .ref (ad 0)), (1, .int (Ii p1)), (2, .int (Ii p2))] [] M
  unfold w_X12_fits at hF
  refine j_iload_n hJ dX12_fits_0 rfl 2 rfl ?_
  refine j_iconst hJ dX12_fits_1 ?_
  refine j_icmp_eq hJ 10 gp2 rk_m1 dX12_fits_2 (by decide) (fun z1 => ?_) (fun z1 => ?_)
  · have hF := hF.1 z1
    refine j_iconst hJ dX12_fits_10 ?_
    exact j_zret hJ rfl (by decide) dX12_fits_11 hF
  · have hF := hF.2 z1
    refine j_iload_n hJ dX12_fits_5 rfl 1 rfl ?_
    refine j_iload_n hJ dX12_fits_6 rfl 2 rfl ?_
    refine j_icmp_ne hJ 12 gp1 gp2 dX12_fits_7 (by decide) (fun z2 => ?_) (fun z2 => ?_)
    · have hF := hF.1 z2
      refine j_aload_n hJ dX12_fits_12 rfl 0 rfl ?_
      refine j_iload_n hJ dX12_fits_13 rfl 2 rfl ?_
      refine j_callVz hJ (c_X12_isClass (l := l) (D := D) (cy := cy) (ad := ad) hin) rfl om_1064 ⟨rfl, rfl, Nat.le_of_ble_eq_true rfl, Nat.le_of_ble_eq_true rfl⟩ [.int (Ii p2)] mv_X12_416 hd_X12_isClassv kR_0 rfl rfl rfl (Nat.le_of_ble_eq_true rfl) dX12_fits_14 ⟨p2, rfl, gp2, hF⟩ (fun r3 M4 gr3 qM4 => ?_)
      have hF := qM4 gr3
      refine j_if_eq hJ 43 (jz_ri gr3) dX12_fits_17 (by decide) (fun z5 => ?_) (fun z5 => ?_)
      · have hF := hF.1 z5
        refine j_iload_n hJ dX12_fits_43 rfl 1 rfl ?_
        refine j_bipush hJ dX12_fits_44 (by decide) ?_
        refine j_icmp_ge hJ 51 gp1 rk_30 dX12_fits_46 (by decide) (fun z6 => ?_) (fun z6 => ?_)
        · have hF := hF.1 z6
          refine j_iload_n hJ dX12_fits_51 rfl 2 rfl ?_
          refine j_bipush hJ dX12_fits_52 (by decide) ?_
          refine j_icmp_eq hJ 78 gp2 rk_29 dX12_fits_54 (by decide) (fun z7 => ?_) (fun z7 => ?_)
          · have hF := hF.1 z7
            refine j_iconst hJ dX12_fits_78 ?_
            refine j_goto hJ 83 dX12_fits_79 (by decide) ?_
            exact j_zret hJ rfl (by decide) dX12_fits_83 hF
          · have hF := hF.2 z7
            refine j_iload_n hJ dX12_fits_57 rfl 2 rfl ?_
            refine j_bipush hJ dX12_fits_58 (by decide) ?_
            refine j_icmp_lt hJ 82 gp2 rk_30 dX12_fits_60 (by decide) (fun z8 => ?_) (fun z8 => ?_)
            · have hF := hF.1 z8
              refine j_iconst hJ dX12_fits_82 ?_
              exact j_zret hJ rfl (by decide) dX12_fits_83 hF
            · have hF := hF.2 z8
              refine j_aload_n hJ dX12_fits_63 rfl 0 rfl ?_
              refine j_iload_n hJ dX12_fits_64 rfl 1 rfl ?_
              refine j_bipush hJ dX12_fits_65 (by decide) ?_
              refine j_isub hJ dX12_fits_67 ?_
              have g9 := hF.1; have hF := hF.2
              refine j_iload_n hJ dX12_fits_68 rfl 2 rfl ?_
              refine j_bipush hJ dX12_fits_69 (by decide) ?_
              refine j_isub hJ dX12_fits_71 ?_
              have g10 := hF.1; have hF := hF.2
              refine j_callVz hJ (c_X12_is (l := l) (D := D) (cy := cy) (ad := ad) hin) rfl om_1081 ⟨rfl, rfl, Nat.le_of_ble_eq_true rfl, Nat.le_of_ble_eq_true rfl⟩ [.int (Ii (p1 - 30)), .int (Ii (p2 - 30))] mv_X12_445 hd_X12_isv kR_0 rfl rfl rfl (Nat.le_of_ble_eq_true rfl) dX12_fits_72 ⟨(p1 - 30), (p2 - 30), rfl, g9, g10, hF⟩ (fun r11 M12 gr11 qM12 => ?_)
              have hF := qM12 gr11
              refine j_if_eq hJ 82 (jz_ri gr11) dX12_fits_75 (by decide) (fun z13 => ?_) (fun z13 => ?_)
              · have hF := hF.1 z13
                refine j_iconst hJ dX12_fits_82 ?_
                exact j_zret hJ rfl (by decide) dX12_fits_83 hF
              · have hF := hF.2 z13
                refine j_iconst hJ dX12_fits_78 ?_
                refine j_goto hJ 83 dX12_fits_79 (by decide) ?_
                exact j_zret hJ rfl (by decide) dX12_fits_83 hF
        · have hF := hF.2 z6
          refine j_iconst hJ dX12_fits_49 ?_
          exact j_zret hJ rfl (by decide) dX12_fits_50 hF
      · have hF := hF.2 z5
        refine j_aload_n hJ dX12_fits_20 rfl 0 rfl ?_
        refine j_iload_n hJ dX12_fits_21 rfl 1 rfl ?_
        refine j_callVz hJ (c_X12_isClass (l := l) (D := D) (cy := cy) (ad := ad) hin) rfl om_1064 ⟨rfl, rfl, Nat.le_of_ble_eq_true rfl, Nat.le_of_ble_eq_true rfl⟩ [.int (Ii p1)] mv_X12_416 hd_X12_isClassv kR_0 rfl rfl rfl (Nat.le_of_ble_eq_true rfl) dX12_fits_22 ⟨p1, rfl, gp1, hF⟩ (fun r14 M15 gr14 qM15 => ?_)
        have hF := qM15 gr14
        refine j_if_eq hJ 41 (jz_ri gr14) dX12_fits_25 (by decide) (fun z16 => ?_) (fun z16 => ?_)
        · have hF := hF.1 z16
          refine j_iconst hJ dX12_fits_41 ?_
          exact j_zret hJ rfl (by decide) dX12_fits_42 hF
        · have hF := hF.2 z16
          refine j_aload_n hJ dX12_fits_28 rfl 0 rfl ?_
          refine j_iload_n hJ dX12_fits_29 rfl 1 rfl ?_
          refine j_iload_n hJ dX12_fits_30 rfl 2 rfl ?_
          refine j_callVz hJ (c_X12_is (l := l) (D := D) (cy := cy) (ad := ad) hin) rfl om_1081 ⟨rfl, rfl, Nat.le_of_ble_eq_true rfl, Nat.le_of_ble_eq_true rfl⟩ [.int (Ii p1), .int (Ii p2)] mv_X12_445 hd_X12_isv kR_0 rfl rfl rfl (Nat.le_of_ble_eq_true rfl) dX12_fits_31 ⟨p1, p2, rfl, gp1, gp2, hF⟩ (fun r17 M18 gr17 qM18 => ?_)
          have hF := qM18 gr17
          refine j_if_eq hJ 41 (jz_ri gr17) dX12_fits_34 (by decide) (fun z19 => ?_) (fun z19 => ?_)
          · have hF := hF.1 z19
            refine j_iconst hJ dX12_fits_41 ?_
            exact j_zret hJ rfl (by decide) dX12_fits_42 hF
          · have hF := hF.2 z19
            refine j_iconst hJ dX12_fits_37 ?_
            refine j_goto hJ 42 dX12_fits_38 (by decide) ?_
            exact j_zret hJ rfl (by decide) dX12_fits_42 hF
    · have hF := hF.2 z2
      refine j_iconst hJ dX12_fits_10 ?_
      exact j_zret hJ rfl (by decide) dX12_fits_11 hF
def W_X12_isOfKind (ad : Nat → Nat) (Q : Int → MM → Prop) (av : List Value) (M : MM) : Prop := ∃ (p1 : Int) (p2 : Int) (p3 : Int), av = [.ref (ad 0), .int (Ii p1), .int (Ii p2), .long (Ll p3)] ∧ ri_ p1 ∧ ri_ p2 ∧ rl_ p3 ∧ w_X12_isOfKind  Q p1 p2 p3 M
set_option maxHeartbeats 4000000 in
set_option maxRecDepth 100000 in
theorem k_X12_isOfKind_b100 {l : Launch} {D : va_G} {cy : Nat → ClassId} {ad : Nat → Nat} {Q : Int → MM → Prop} {J : Nat → List (Nat × Value) → List Value → MM → Prop} (hin : jIn ad ksR.length)   (hJ : jOk l D vwCl (tyR cy) cy ad ftR ksR (XtR ad) Om RX12 cX12_isOfKind 6 3 ({ frames := 2, cells := 0, slots := 0, locals := 45 } : Room) Q J)  : ∀ (x1 x3 s0 : Int) (M : MM), ri_ x1 → rl_ x3 → ri_ s0 → w_X12_isOfKind_b100  Q  x1 x3 s0 M → J 100 [(1, .int (Ii x1)), (3, .long (Ll x3))] [.int (Ii s0)] M := by
  intro x1 x3 s0 M gx1 gx3 gs0 hF
  unfold w_X12_isOfKind_b100 at hF
  refine j_istore (lv' := [(5, .int (Ii s0)), (1, .int (Ii x1)), (3, .long (Ll x3))]) hJ dX12_isOfKind_100 (by decide) rfl ?_
  refine j_iload_n hJ dX12_isOfKind_102 rfl 1 rfl ?_
  refine j_if_ne hJ 124 gx1 dX12_isOfKind_103 (by decide) (fun z1 => ?_) (fun z1 => ?_)
  · have hF := hF.1 z1
    refine j_iload hJ dX12_isOfKind_124 0 rfl ?_
    refine j_bipush hJ dX12_isOfKind_126 (by decide) ?_
    refine j_icmp_eq hJ 154 gs0 rk_64 dX12_isOfKind_128 (by decide) (fun z2 => ?_) (fun z2 => ?_)
    · have hF := hF.1 z2
      refine j_iconst hJ dX12_isOfKind_154 ?_
      refine j_goto hJ 159 dX12_isOfKind_155 (by decide) ?_
      exact j_zret hJ rfl (by decide) dX12_isOfKind_159 hF
    · have hF := hF.2 z2
      refine j_lload_n hJ dX12_isOfKind_131 rfl 2 rfl ?_
      refine j_lconst (x := 1) hJ dX12_isOfKind_132 rfl ?_
      refine j_iload hJ dX12_isOfKind_133 0 rfl ?_
      refine j_iconst hJ dX12_isOfKind_135 ?_
      refine j_isub hJ dX12_isOfKind_136 ?_
      have g3 := hF.1; have hF := hF.2
      refine j_lshl hJ dX12_isOfKind_137 ?_
      refine j_lnegw hJ dX12_isOfKind_138 ?_
      refine j_lcmp_lt hJ 158 gx3 (rl_w _) dX12_isOfKind_139 dX12_isOfKind_140 (by decide) (fun z4 => ?_) (fun z4 => ?_)
      · have hF := hF.1 z4
        refine j_iconst hJ dX12_isOfKind_158 ?_
        exact j_zret hJ rfl (by decide) dX12_isOfKind_159 hF
      · have hF := hF.2 z4
        refine j_lload_n hJ dX12_isOfKind_143 rfl 2 rfl ?_
        refine j_lconst (x := 1) hJ dX12_isOfKind_144 rfl ?_
        refine j_iload hJ dX12_isOfKind_145 0 rfl ?_
        refine j_iconst hJ dX12_isOfKind_147 ?_
        refine j_isub hJ dX12_isOfKind_148 ?_
        have g5 := hF.1; have hF := hF.2
        refine j_lshl hJ dX12_isOfKind_149 ?_
        refine j_lcmp_ge hJ 158 gx3 (rl_of _) dX12_isOfKind_150 dX12_isOfKind_151 (by decide) (fun z6 => ?_) (fun z6 => ?_)
        · have hF := hF.1 z6
          refine j_iconst hJ dX12_isOfKind_158 ?_
          exact j_zret hJ rfl (by decide) dX12_isOfKind_159 hF
        · have hF := hF.2 z6
          refine j_iconst hJ dX12_isOfKind_154 ?_
          refine j_goto hJ 159 dX12_isOfKind_155 (by decide) ?_
          exact j_zret hJ rfl (by decide) dX12_isOfKind_159 hF
  · have hF := hF.2 z1
    refine j_lload_n hJ dX12_isOfKind_106 rfl 2 rfl ?_
    refine j_lconst (x := 0) hJ dX12_isOfKind_107 rfl ?_
    refine j_lcmp_eq hJ 118 gx3 lkm_0 dX12_isOfKind_108 dX12_isOfKind_109 (by decide) (fun z7 => ?_) (fun z7 => ?_)
    · have hF := hF.1 z7
      refine j_iconst hJ dX12_isOfKind_118 ?_
      refine j_goto hJ 123 dX12_isOfKind_119 (by decide) ?_
      exact j_zret hJ rfl (by decide) dX12_isOfKind_123 hF
    · have hF := hF.2 z7
      refine j_lload_n hJ dX12_isOfKind_112 rfl 2 rfl ?_
      refine j_lconst (x := 1) hJ dX12_isOfKind_113 rfl ?_
      refine j_lcmp_ne hJ 122 gx3 lk_1 dX12_isOfKind_114 dX12_isOfKind_115 (by decide) (fun z8 => ?_) (fun z8 => ?_)
      · have hF := hF.1 z8
        refine j_iconst hJ dX12_isOfKind_122 ?_
        exact j_zret hJ rfl (by decide) dX12_isOfKind_123 hF
      · have hF := hF.2 z8
        refine j_iconst hJ dX12_isOfKind_118 ?_
        refine j_goto hJ 123 dX12_isOfKind_119 (by decide) ?_
        exact j_zret hJ rfl (by decide) dX12_isOfKind_123 hF
set_option maxHeartbeats 4000000 in
set_option maxRecDepth 100000 in
theorem c_X12_isOfKind {l : Launch} {D : va_G} {cy : Nat → ClassId} {ad : Nat → Nat} (hin : jIn ad ksR.length) : jCN l D vwCl (tyR cy) cy ad ftR ksR (XtR ad) yX12_isOfKind (.code yX12_isOfKind cX12_isOfKind 6 (some .boolean) :: Om) ({ frames := 2, cells := 0, slots := 0, locals := 45 } : Room) 3 (W_X12_isOfKind ad) := by
  refine jCN_of (y := yX12_isOfKind) (cc := cX12_isOfKind) (nL := 6) (rk := 3) (rm := ({ frames := 2, cells := 0, slots := 0, locals := 45 } : Room)) (own := RX12) (tyR_ok cy) hin (XtR_ok ad) Om_good (by decide) rfl ?_
  intro Q av M hF
  obtain ⟨p1, p2, p3, rfl, gp1, gp2, gp3, hF⟩ := hF
  refine ⟨Nat.le_of_ble_eq_true rfl, fun J hJ => ?_⟩
  show J 0 [(0, .ref (ad 0)), (1, .int (Ii p1)), (2, .int (Ii p2)), (3, .long (Ll p3))] [] M
  unfold w_X12_isOfKind at hF
  refine j_iload_n hJ dX12_isOfKind_0 rfl 1 rfl ?_
  refine j_iconst hJ dX12_isOfKind_1 ?_
  refine j_icmp_ne hJ 60 gp1 rk_5 dX12_isOfKind_2 (by decide) (fun z1 => ?_) (fun z1 => ?_)
  · have hF := hF.1 z1
    refine j_iload_n hJ dX12_isOfKind_60 rfl 1 rfl ?_
    refine j_if_ne hJ 68 gp1 dX12_isOfKind_61 (by decide) (fun z2 => ?_) (fun z2 => ?_)
    · have hF := hF.1 z2
      refine j_iload_n hJ dX12_isOfKind_68 rfl 1 rfl ?_
      refine j_iconst hJ dX12_isOfKind_69 ?_
      refine j_icmp_ne hJ 78 gp1 rk_1 dX12_isOfKind_70 (by decide) (fun z3 => ?_) (fun z3 => ?_)
      · have hF := hF.1 z3
        refine j_iload_n hJ dX12_isOfKind_78 rfl 1 rfl ?_
        refine j_iconst hJ dX12_isOfKind_79 ?_
        refine j_icmp_ne hJ 88 gp1 rk_2 dX12_isOfKind_80 (by decide) (fun z4 => ?_) (fun z4 => ?_)
        · have hF := hF.1 z4
          refine j_iload_n hJ dX12_isOfKind_88 rfl 1 rfl ?_
          refine j_iconst hJ dX12_isOfKind_89 ?_
          refine j_icmp_ne hJ 98 gp1 rk_3 dX12_isOfKind_90 (by decide) (fun z5 => ?_) (fun z5 => ?_)
          · have hF := hF.1 z5
            refine j_bipush hJ dX12_isOfKind_98 (by decide) ?_
            exact j_sub hJ [1, 3] rfl (k_X12_isOfKind_b100 hin  hJ  p1 p3 64 _ gp1 gp3 rk_64 hF)
          · have hF := hF.2 z5
            refine j_bipush hJ dX12_isOfKind_93 (by decide) ?_
            refine j_goto hJ 100 dX12_isOfKind_95 (by decide) ?_
            exact j_sub hJ [1, 3] rfl (k_X12_isOfKind_b100 hin  hJ  p1 p3 32 _ gp1 gp3 rk_32 hF)
        · have hF := hF.2 z4
          refine j_bipush hJ dX12_isOfKind_83 (by decide) ?_
          refine j_goto hJ 100 dX12_isOfKind_85 (by decide) ?_
          exact j_sub hJ [1, 3] rfl (k_X12_isOfKind_b100 hin  hJ  p1 p3 16 _ gp1 gp3 rk_16 hF)
      · have hF := hF.2 z3
        refine j_bipush hJ dX12_isOfKind_73 (by decide) ?_
        refine j_goto hJ 100 dX12_isOfKind_75 (by decide) ?_
        exact j_sub hJ [1, 3] rfl (k_X12_isOfKind_b100 hin  hJ  p1 p3 8 _ gp1 gp3 rk_8 hF)
    · have hF := hF.2 z2
      refine j_iconst hJ dX12_isOfKind_64 ?_
      refine j_goto hJ 100 dX12_isOfKind_65 (by decide) ?_
      exact j_sub hJ [1, 3] rfl (k_X12_isOfKind_b100 hin  hJ  p1 p3 1 _ gp1 gp3 rk_1 hF)
  · have hF := hF.2 z1
    refine j_lload_n hJ dX12_isOfKind_5 rfl 3 rfl ?_
    refine j_ldc2 hJ (-1) om_1068 (by decide) dX12_isOfKind_6 ?_
    refine j_lcmp_eq hJ 54 gp3 lk_m1 dX12_isOfKind_9 dX12_isOfKind_10 (by decide) (fun z6 => ?_) (fun z6 => ?_)
    · have hF := hF.1 z6
      refine j_iconst hJ dX12_isOfKind_54 ?_
      refine j_goto hJ 59 dX12_isOfKind_55 (by decide) ?_
      exact j_zret hJ rfl (by decide) dX12_isOfKind_59 hF
    · have hF := hF.2 z6
      refine j_lload_n hJ dX12_isOfKind_13 rfl 3 rfl ?_
      refine j_lconst (x := 0) hJ dX12_isOfKind_14 rfl ?_
      refine j_lcmp_lt hJ 58 gp3 lkm_0 dX12_isOfKind_15 dX12_isOfKind_16 (by decide) (fun z7 => ?_) (fun z7 => ?_)
      · have hF := hF.1 z7
        refine j_iconst hJ dX12_isOfKind_58 ?_
        exact j_zret hJ rfl (by decide) dX12_isOfKind_59 hF
      · have hF := hF.2 z7
        refine j_lload_n hJ dX12_isOfKind_19 rfl 3 rfl ?_
        refine j_aload_n hJ dX12_isOfKind_20 rfl 0 rfl ?_
        refine j_gi hJ kR_0 fR_15_26 rfl fl_X12_435 dX12_isOfKind_21 (fun v8 ev8 gv8 => ?_)
        have hF := hF v8 ev8 gv8
        refine j_i2l hJ gv8 dX12_isOfKind_24 ?_
        refine j_lcmp_ge hJ 58 gp3 (rl_ri gv8) dX12_isOfKind_25 dX12_isOfKind_26 (by decide) (fun z9 => ?_) (fun z9 => ?_)
        · have hF := hF.1 z9
          refine j_iconst hJ dX12_isOfKind_58 ?_
          exact j_zret hJ rfl (by decide) dX12_isOfKind_59 hF
        · have hF := hF.2 z9
          refine j_aload_n hJ dX12_isOfKind_29 rfl 0 rfl ?_
          refine j_gr (e := 22) hJ kR_0 fR_15_24 fl_X12_134 dX12_isOfKind_30 rfl ?_
          refine j_lload_n hJ dX12_isOfKind_33 rfl 3 rfl ?_
          refine j_l2i hJ dX12_isOfKind_34 ?_
          have g10 := hF.1; have hF := hF.2
          refine j_zald hJ g10 kR_22 hF.1 hF.2.1 dX12_isOfKind_35 (fun v11 ev11 gv11 => ?_)
          have hF := hF.2.2 v11 ev11 gv11
          refine j_if_eq hJ 58 (jz_ri gv11) dX12_isOfKind_36 (by decide) (fun z12 => ?_) (fun z12 => ?_)
          · have hF := hF.1 z12
            refine j_iconst hJ dX12_isOfKind_58 ?_
            exact j_zret hJ rfl (by decide) dX12_isOfKind_59 hF
          · have hF := hF.2 z12
            refine j_aload_n hJ dX12_isOfKind_39 rfl 0 rfl ?_
            refine j_aload_n hJ dX12_isOfKind_40 rfl 0 rfl ?_
            refine j_gr (e := 19) hJ kR_0 fR_15_21 fl_X12_125 dX12_isOfKind_41 rfl ?_
            refine j_lload_n hJ dX12_isOfKind_44 rfl 3 rfl ?_
            refine j_l2i hJ dX12_isOfKind_45 ?_
            have g13 := hF.1; have hF := hF.2
            refine j_iald hJ g13 kR_19 hF.1 hF.2.1 dX12_isOfKind_46 (fun v14 ev14 gv14 => ?_)
            have hF := hF.2.2 v14 ev14 gv14
            refine j_iload_n hJ dX12_isOfKind_47 rfl 2 rfl ?_
            refine j_callVz hJ (c_X12_fits (l := l) (D := D) (cy := cy) (ad := ad) hin) rfl om_1085 ⟨rfl, rfl, Nat.le_of_ble_eq_true rfl, Nat.le_of_ble_eq_true rfl⟩ [.int (Ii v14), .int (Ii p2)] mv_X12_449 hd_X12_fitsv kR_0 rfl rfl rfl (Nat.le_of_ble_eq_true rfl) dX12_isOfKind_48 ⟨v14, p2, rfl, gv14, gp2, hF⟩ (fun r15 M16 gr15 qM16 => ?_)
            have hF := qM16 gr15
            refine j_if_eq hJ 58 (jz_ri gr15) dX12_isOfKind_51 (by decide) (fun z17 => ?_) (fun z17 => ?_)
            · have hF := hF.1 z17
              refine j_iconst hJ dX12_isOfKind_58 ?_
              exact j_zret hJ rfl (by decide) dX12_isOfKind_59 hF
            · have hF := hF.2 z17
              refine j_iconst hJ dX12_isOfKind_54 ?_
              refine j_goto hJ 59 dX12_isOfKind_55 (by decide) ?_
              exact j_zret hJ rfl (by decide) dX12_isOfKind_59 hF
def W_X12_objectSize (ad : Nat → Nat) (Q : Int → MM → Prop) (av : List Value) (M : MM) : Prop := ∃ (p1 : Int) (p2 : Int), av = [.ref (ad 0), .int (Ii p1), .int (Ii p2)] ∧ ri_ p1 ∧ ri_ p2 ∧ w_X12_objectSize  Q p1 p2 M
set_option maxHeartbeats 4000000 in
set_option maxRecDepth 100000 in
theorem k_X12_objectSize_b31 {l : Launch} {D : va_G} {cy : Nat → ClassId} {ad : Nat → Nat} {Q : Int → MM → Prop} {J : Nat → List (Nat × Value) → List Value → MM → Prop} (hin : jIn ad ksR.length)   (hJ : jOk l D vwCl (tyR cy) cy ad ftR ksR (XtR ad) Om RX12 cX12_objectSize 4 1 ({ frames := 1, cells := 0, slots := 0, locals := 21 } : Room) Q J)  : ∀ (x2 s0 : Int) (M : MM), ri_ x2 → ri_ s0 → w_X12_objectSize_b31  Q  x2 s0 M → J 31 [(2, .int (Ii x2))] [.int (Ii s0)] M := by
  intro x2 s0 M gx2 gs0 hF
  unfold w_X12_objectSize_b31 at hF
  refine j_istore_n (lv' := [(3, .int (Ii s0)), (2, .int (Ii x2))]) hJ dX12_objectSize_31 rfl (by decide) rfl ?_
  refine j_bipush hJ dX12_objectSize_32 (by decide) ?_
  refine j_iload_n hJ dX12_objectSize_34 rfl 1 rfl ?_
  refine j_iload_n hJ dX12_objectSize_35 rfl 0 rfl ?_
  refine j_imul hJ dX12_objectSize_36 ?_
  have g1 := hF.1; have hF := hF.2
  refine j_iadd hJ dX12_objectSize_37 ?_
  have g2 := hF.1; have hF := hF.2
  refine j_bipush hJ dX12_objectSize_38 (by decide) ?_
  refine j_iadd hJ dX12_objectSize_40 ?_
  have g3 := hF.1; have hF := hF.2
  refine j_bipush hJ dX12_objectSize_41 (by decide) ?_
  refine j_idiv hJ g3 rk_8 (by decide) dX12_objectSize_43 ?_
  have g4 := hF.1; have hF := hF.2
  refine j_bipush hJ dX12_objectSize_44 (by decide) ?_
  refine j_imul hJ dX12_objectSize_46 ?_
  have g5 := hF.1; have hF := hF.2
  exact j_iret hJ rfl g5 dX12_objectSize_47 hF
set_option maxHeartbeats 4000000 in
set_option maxRecDepth 100000 in
theorem c_X12_objectSize {l : Launch} {D : va_G} {cy : Nat → ClassId} {ad : Nat → Nat} (hin : jIn ad ksR.length) : jCN l D vwCl (tyR cy) cy ad ftR ksR (XtR ad) yX12_objectSize (.code yX12_objectSize cX12_objectSize 4 (some .int) :: Om) ({ frames := 1, cells := 0, slots := 0, locals := 21 } : Room) 1 (W_X12_objectSize ad) := by
  refine jCN_of (y := yX12_objectSize) (cc := cX12_objectSize) (nL := 4) (rk := 1) (rm := ({ frames := 1, cells := 0, slots := 0, locals := 21 } : Room)) (own := RX12) (tyR_ok cy) hin (XtR_ok ad) Om_good (by decide) rfl ?_
  intro Q av M hF
  obtain ⟨p1, p2, rfl, gp1, gp2, hF⟩ := hF
  refine ⟨Nat.le_of_ble_eq_true rfl, fun J hJ => ?_⟩
  show J 0 [(0, .ref (ad 0)), (1, .int (Ii p1)), (2, .int (Ii p2))] [] M
  unfold w_X12_objectSize at hF
  refine j_aload_n hJ dX12_objectSize_0 rfl 0 rfl ?_
  refine j_iload_n hJ dX12_objectSize_1 rfl 1 rfl ?_
  refine j_callVz hJ (c_X12_isClass (l := l) (D := D) (cy := cy) (ad := ad) hin) rfl om_1064 ⟨rfl, rfl, Nat.le_of_ble_eq_true rfl, Nat.le_of_ble_eq_true rfl⟩ [.int (Ii p1)] mv_X12_416 hd_X12_isClassv kR_0 rfl rfl rfl (Nat.le_of_ble_eq_true rfl) dX12_objectSize_2 ⟨p1, rfl, gp1, hF⟩ (fun r1 M2 gr1 qM2 => ?_)
  have hF := qM2 gr1
  refine j_if_eq hJ 14 (jz_ri gr1) dX12_objectSize_5 (by decide) (fun z3 => ?_) (fun z3 => ?_)
  · have hF := hF.1 z3
    refine j_iload_n hJ dX12_objectSize_14 rfl 1 rfl ?_
    refine j_bipush hJ dX12_objectSize_15 (by decide) ?_
    refine j_icmp_lt hJ 24 gp1 rk_29 dX12_objectSize_17 (by decide) (fun z4 => ?_) (fun z4 => ?_)
    · have hF := hF.1 z4
      refine j_iload_n hJ dX12_objectSize_24 rfl 1 rfl ?_
      refine j_bipush hJ dX12_objectSize_25 (by decide) ?_
      refine j_isub hJ dX12_objectSize_27 ?_
      have g5 := hF.1; have hF := hF.2
      refine j_callSi hJ (c_X12_width (l := l) (D := D) (cy := cy) (ad := ad) hin) rfl om_1057 ⟨rfl, rfl, Nat.le_of_ble_eq_true rfl, Nat.le_of_ble_eq_true rfl⟩ [.int (Ii (p1 - 20))] mv_X12_427 hd_X12_width rfl (Nat.le_of_ble_eq_true rfl) dX12_objectSize_28 ⟨(p1 - 20), rfl, g5, hF⟩ (fun r6 M7 gr6 qM7 => ?_)
      have hF := qM7 gr6
      exact j_sub hJ [2] rfl (k_X12_objectSize_b31 hin  hJ  p2 r6 _ gp2 gr6 hF)
    · have hF := hF.2 z4
      refine j_iconst hJ dX12_objectSize_20 ?_
      refine j_goto hJ 31 dX12_objectSize_21 (by decide) ?_
      exact j_sub hJ [2] rfl (k_X12_objectSize_b31 hin  hJ  p2 4 _ gp2 rk_4 hF)
  · have hF := hF.2 z3
    refine j_aload_n hJ dX12_objectSize_8 rfl 0 rfl ?_
    refine j_iload_n hJ dX12_objectSize_9 rfl 1 rfl ?_
    refine j_callVi hJ (c_X12_sizeOf (l := l) (D := D) (cy := cy) (ad := ad) hin) rfl om_1073 ⟨rfl, rfl, Nat.le_of_ble_eq_true rfl, Nat.le_of_ble_eq_true rfl⟩ [.int (Ii p1)] mv_X12_438 hd_X12_sizeOfv kR_0 rfl rfl rfl (Nat.le_of_ble_eq_true rfl) dX12_objectSize_10 ⟨p1, rfl, gp1, hF⟩ (fun r8 M9 gr8 qM9 => ?_)
    have hF := qM9 gr8
    exact j_iret hJ rfl gr8 dX12_objectSize_13 hF
def W_X12_add (ad : Nat → Nat) (Q : Int → MM → Prop) (av : List Value) (M : MM) : Prop := ∃ (p1 : Int) (p2 : Int), av = [.ref (ad 0), .int (Ii p1), .int (Ii p2)] ∧ ri_ p1 ∧ ri_ p2 ∧ w_X12_add  Q p1 p2 M
set_option maxHeartbeats 4000000 in
set_option maxRecDepth 100000 in
theorem k_X12_add_b105 {l : Launch} {D : va_G} {cy : Nat → ClassId} {ad : Nat → Nat} {Q : Int → MM → Prop} {J : Nat → List (Nat × Value) → List Value → MM → Prop} (hin : jIn ad ksR.length)   (hJ : jOk l D vwCl (tyR cy) cy ad ftR ksR (XtR ad) Om RX12 cX12_add 6 1 ({ frames := 2, cells := 0, slots := 0, locals := 47 } : Room) Q J) {K69 : Int → Int → Int → Int → MM → Prop} (hK69 : ∀ (x1 x3 x4 x5 : Int) (M : MM), ri_ x1 → ri_ x3 → ri_ x4 → ri_ x5 → K69 x1 x3 x4 x5 M → J 69 [(0, .ref (ad 0)), (1, .int (Ii x1)), (3, .int (Ii x3)), (4, .int (Ii x4)), (5, .int (Ii x5))] [] M) : ∀ (x1 x3 x4 x5 s0 s1 : Int) (M : MM), ri_ x1 → ri_ x3 → ri_ x4 → ri_ x5 → rl_ s0 → ri_ s1 → w_X12_add_b105  Q K69 x1 x3 x4 x5 s0 s1 M → J 105 [(0, .ref (ad 0)), (1, .int (Ii x1)), (3, .int (Ii x3)), (4, .int (Ii x4)), (5, .int (Ii x5))] [.long (Ll s0), .int (Ii s1), .ref (ad 23)] M := by
  intro x1 x3 x4 x5 s0 s1 M gx1 gx3 gx4 gx5 gs0 gs1 hF
  unfold w_X12_add_b105 at hF
  refine j_last hJ gs1 gs0 kR_23 hF.1 hF.2.1 dX12_add_105 (fun M1 eM1 => ?_)
  have hF := hF.2.2 M1 eM1
  refine j_iinc (lv' := [(5, .int (Ii (x5 + 1))), (0, .ref (ad 0)), (1, .int (Ii x1)), (3, .int (Ii x3)), (4, .int (Ii x4))]) (k := 4) hJ dX12_add_106 rfl (by decide) rfl ?_
  have g2 := hF.1; have hF := hF.2
  refine j_goto hJ 69 dX12_add_109 (by decide) ?_
  exact j_sub hJ [1, 2, 3, 4, 0] rfl (hK69 x1 x3 x4 (x5 + 1) _ gx1 gx3 gx4 g2 hF)
set_option maxHeartbeats 4000000 in
set_option maxRecDepth 100000 in
theorem k_X12_add_b69 {l : Launch} {D : va_G} {cy : Nat → ClassId} {ad : Nat → Nat} {Q : Int → MM → Prop} {J : Nat → List (Nat × Value) → List Value → MM → Prop} (hin : jIn ad ksR.length)   (hJ : jOk l D vwCl (tyR cy) cy ad ftR ksR (XtR ad) Om RX12 cX12_add 6 1 ({ frames := 2, cells := 0, slots := 0, locals := 47 } : Room) Q J)  : ∀ (x1 x3 x4 x5 : Int) (M : MM), ri_ x1 → ri_ x3 → ri_ x4 → ri_ x5 → w_X12_add_b69  Q  x1 x3 x4 x5 M → J 69 [(0, .ref (ad 0)), (1, .int (Ii x1)), (3, .int (Ii x3)), (4, .int (Ii x4)), (5, .int (Ii x5))] [] M := by
  have H9 : ∀ (n : Nat) (x1 x3 x4 x5 : Int) (M : MM), ri_ x1 → ri_ x3 → ri_ x4 → ri_ x5 → jit (fun _ _ _ _ _ => False) (wb_X12_add_b69  Q ) n x1 x3 x4 x5 M → J 69 [(0, .ref (ad 0)), (1, .int (Ii x1)), (3, .int (Ii x3)), (4, .int (Ii x4)), (5, .int (Ii x5))] [] M := by
    intro n
    induction n with
    | zero => intro x1 x3 x4 x5 M gx1 gx3 gx4 gx5 hF; exact False.elim hF
    | succ n ih =>
    intro x1 x3 x4 x5 M gx1 gx3 gx4 gx5 hF
    have hF : wb_X12_add_b69  Q  (jit (fun _ _ _ _ _ => False) (wb_X12_add_b69  Q ) n) x1 x3 x4 x5 M := hF
    unfold wb_X12_add_b69 at hF
    refine j_iload hJ dX12_add_69 4 rfl ?_
    refine j_iload hJ dX12_add_71 3 rfl ?_
    refine j_icmp_ge hJ 112 gx5 gx4 dX12_add_73 (by decide) (fun z1 => ?_) (fun z1 => ?_)
    · have hF := hF.1 z1
      refine j_aload_n hJ dX12_add_112 rfl 0 rfl ?_
      refine j_dup hJ dX12_add_113 rfl ?_
      refine j_gi hJ kR_0 fR_15_27 rfl fl_X12_452 dX12_add_114 (fun v2 ev2 gv2 => ?_)
      have hF := hF v2 ev2 gv2
      refine j_iload hJ dX12_add_117 3 rfl ?_
      refine j_iadd hJ dX12_add_119 ?_
      have g3 := hF.1; have hF := hF.2
      refine j_pi hJ g3 kR_0 fR_15_27 rfl fp_X12_452 dX12_add_120 (fun M4 eM4 => ?_)
      have hF := hF M4 eM4
      refine j_aload_n hJ dX12_add_123 rfl 0 rfl ?_
      refine j_dup hJ dX12_add_124 rfl ?_
      refine j_gi hJ kR_0 fR_15_28 rfl fl_X12_461 dX12_add_125 (fun v5 ev5 gv5 => ?_)
      have hF := hF v5 ev5 gv5
      refine j_iload hJ dX12_add_128 3 rfl ?_
      refine j_iadd hJ dX12_add_130 ?_
      have g6 := hF.1; have hF := hF.2
      refine j_pi hJ g6 kR_0 fR_15_28 rfl fp_X12_461 dX12_add_131 (fun M7 eM7 => ?_)
      have hF := hF M7 eM7
      refine j_iload_n hJ dX12_add_134 rfl 2 rfl ?_
      exact j_iret hJ rfl gx3 dX12_add_135 hF
    · have hF := hF.2 z1
      refine j_aload_n hJ dX12_add_76 rfl 0 rfl ?_
      refine j_gr (e := 23) hJ kR_0 fR_15_25 fl_X12_138 dX12_add_77 rfl ?_
      refine j_aload_n hJ dX12_add_80 rfl 0 rfl ?_
      refine j_gi hJ kR_0 fR_15_27 rfl fl_X12_452 dX12_add_81 (fun v8 ev8 gv8 => ?_)
      have hF := hF v8 ev8 gv8
      refine j_iload hJ dX12_add_84 4 rfl ?_
      refine j_iadd hJ dX12_add_86 ?_
      have g9 := hF.1; have hF := hF.2
      refine j_aload_n hJ dX12_add_87 rfl 0 rfl ?_
      refine j_iload_n hJ dX12_add_88 rfl 1 rfl ?_
      refine j_iload hJ dX12_add_89 4 rfl ?_
      refine j_callVi hJ (c_X12_kindOf (l := l) (D := D) (cy := cy) (ad := ad) hin) rfl om_1093 ⟨rfl, rfl, Nat.le_of_ble_eq_true rfl, Nat.le_of_ble_eq_true rfl⟩ [.int (Ii x1), .int (Ii x5)] mv_X12_458 hd_X12_kindOfv kR_0 rfl rfl rfl (Nat.le_of_ble_eq_true rfl) dX12_add_91 ⟨x1, x5, rfl, gx1, gx5, hF⟩ (fun r10 M11 gr10 qM11 => ?_)
      have hF := qM11 gr10
      refine j_iconst hJ dX12_add_94 ?_
      refine j_icmp_ne hJ 104 gr10 rk_5 dX12_add_95 (by decide) (fun z12 => ?_) (fun z12 => ?_)
      · have hF := hF.1 z12
        refine j_lconst (x := 0) hJ dX12_add_104 rfl ?_
        exact j_sub hJ [0, 1, 2, 3, 4] rfl (k_X12_add_b105 hin  hJ ih x1 x3 x4 x5 0 (v8 + x5) _ gx1 gx3 gx4 gx5 lkm_0 g9 hF)
      · have hF := hF.2 z12
        refine j_ldc2 hJ (-1) om_1068 (by decide) dX12_add_98 ?_
        refine j_goto hJ 105 dX12_add_101 (by decide) ?_
        exact j_sub hJ [0, 1, 2, 3, 4] rfl (k_X12_add_b105 hin  hJ ih x1 x3 x4 x5 (-1) (v8 + x5) _ gx1 gx3 gx4 gx5 lk_m1 g9 hF)
  intro x1 x3 x4 x5 M gx1 gx3 gx4 gx5 hF
  obtain ⟨n, hF⟩ := hF
  exact H9 n x1 x3 x4 x5 M gx1 gx3 gx4 gx5 hF
set_option maxHeartbeats 4000000 in
set_option maxRecDepth 100000 in
theorem k_X12_add_b40 {l : Launch} {D : va_G} {cy : Nat → ClassId} {ad : Nat → Nat} {Q : Int → MM → Prop} {J : Nat → List (Nat × Value) → List Value → MM → Prop} (hin : jIn ad ksR.length)   (hJ : jOk l D vwCl (tyR cy) cy ad ftR ksR (XtR ad) Om RX12 cX12_add 6 1 ({ frames := 2, cells := 0, slots := 0, locals := 47 } : Room) Q J)  : ∀ (x1 x2 x3 s0 s1 : Int) (M : MM), ri_ x1 → ri_ x2 → ri_ x3 → ri_ s0 → ri_ s1 → w_X12_add_b40  Q  x1 x2 x3 s0 s1 M → J 40 [(0, .ref (ad 0)), (1, .int (Ii x1)), (2, .int (Ii x2)), (3, .int (Ii x3))] [.int (Ii s0), .int (Ii s1), .ref (ad 20)] M := by
  intro x1 x2 x3 s0 s1 M gx1 gx2 gx3 gs0 gs1 hF
  unfold w_X12_add_b40 at hF
  refine j_iast hJ gs1 gs0 kR_20 hF.1 hF.2.1 dX12_add_40 (fun M1 eM1 => ?_)
  have hF := hF.2.2 M1 eM1
  refine j_aload_n hJ dX12_add_41 rfl 0 rfl ?_
  refine j_gr (e := 21) hJ kR_0 fR_15_23 fl_X12_131 dX12_add_42 rfl ?_
  refine j_iload_n hJ dX12_add_45 rfl 3 rfl ?_
  refine j_aload_n hJ dX12_add_46 rfl 0 rfl ?_
  refine j_gi hJ kR_0 fR_15_27 rfl fl_X12_452 dX12_add_47 (fun v2 ev2 gv2 => ?_)
  have hF := hF v2 ev2 gv2
  refine j_iast hJ gx3 gv2 kR_21 hF.1 hF.2.1 dX12_add_50 (fun M3 eM3 => ?_)
  have hF := hF.2.2 M3 eM3
  refine j_aload_n hJ dX12_add_51 rfl 0 rfl ?_
  refine j_gr (e := 22) hJ kR_0 fR_15_24 fl_X12_134 dX12_add_52 rfl ?_
  refine j_iload_n hJ dX12_add_55 rfl 3 rfl ?_
  refine j_iconst hJ dX12_add_56 ?_
  refine j_zast hJ gx3 (by decide) kR_22 hF.1 hF.2.1 dX12_add_57 (fun M4 eM4 => ?_)
  have hF := hF.2.2 M4 eM4
  refine j_aload_n hJ dX12_add_58 rfl 0 rfl ?_
  refine j_iload_n hJ dX12_add_59 rfl 1 rfl ?_
  refine j_iload_n hJ dX12_add_60 rfl 2 rfl ?_
  refine j_callVi hJ (c_X12_slotCount (l := l) (D := D) (cy := cy) (ad := ad) hin) rfl om_1089 ⟨rfl, rfl, Nat.le_of_ble_eq_true rfl, Nat.le_of_ble_eq_true rfl⟩ [.int (Ii x1), .int (Ii x2)] mv_X12_455 hd_X12_slotCountv kR_0 rfl rfl rfl (Nat.le_of_ble_eq_true rfl) dX12_add_61 ⟨x1, x2, rfl, gx1, gx2, hF⟩ (fun r5 M6 gr5 qM6 => ?_)
  have hF := qM6 gr5
  refine j_istore (lv' := [(4, .int (Ii r5)), (0, .ref (ad 0)), (1, .int (Ii x1)), (2, .int (Ii x2)), (3, .int (Ii x3))]) hJ dX12_add_64 (by decide) rfl ?_
  refine j_iconst hJ dX12_add_66 ?_
  refine j_istore (lv' := [(5, .int (Ii 0)), (4, .int (Ii r5)), (0, .ref (ad 0)), (1, .int (Ii x1)), (2, .int (Ii x2)), (3, .int (Ii x3))]) hJ dX12_add_67 (by decide) rfl ?_
  exact j_sub hJ [2, 3, 5, 1, 0] rfl (k_X12_add_b69 hin  hJ  x1 x3 r5 0 _ gx1 gx3 gr5 rk_0 hF)
set_option maxHeartbeats 4000000 in
set_option maxRecDepth 100000 in
theorem c_X12_add {l : Launch} {D : va_G} {cy : Nat → ClassId} {ad : Nat → Nat} (hin : jIn ad ksR.length) : jCN l D vwCl (tyR cy) cy ad ftR ksR (XtR ad) yX12_add (.code yX12_add cX12_add 6 (some .int) :: Om) ({ frames := 2, cells := 0, slots := 0, locals := 47 } : Room) 1 (W_X12_add ad) := by
  refine jCN_of (y := yX12_add) (cc := cX12_add) (nL := 6) (rk := 1) (rm := ({ frames := 2, cells := 0, slots := 0, locals := 47 } : Room)) (own := RX12) (tyR_ok cy) hin (XtR_ok ad) Om_good (by decide) rfl ?_
  intro Q av M hF
  obtain ⟨p1, p2, rfl, gp1, gp2, hF⟩ := hF
  refine ⟨Nat.le_of_ble_eq_true rfl, fun J hJ => ?_⟩
  show J 0 [(0, .ref (ad 0)), (1, .int (Ii p1)), (2, .int (Ii p2))] [] M
  unfold w_X12_add at hF
  refine j_aload_n hJ dX12_add_0 rfl 0 rfl ?_
  refine j_gi hJ kR_0 fR_15_26 rfl fl_X12_435 dX12_add_1 (fun v1 ev1 gv1 => ?_)
  have hF := hF v1 ev1 gv1
  refine j_istore_n (lv' := [(3, .int (Ii v1)), (0, .ref (ad 0)), (1, .int (Ii p1)), (2, .int (Ii p2))]) hJ dX12_add_4 rfl (by decide) rfl ?_
  refine j_aload_n hJ dX12_add_5 rfl 1 rfl ?_
  refine j_dup hJ dX12_add_6 rfl ?_
  refine j_gi hJ kR_0 fR_15_26 rfl fl_X12_435 dX12_add_7 (fun v2 ev2 gv2 => ?_)
  have hF := hF v2 ev2 gv2
  refine j_iconst hJ dX12_add_10 ?_
  refine j_iadd hJ dX12_add_11 ?_
  have g3 := hF.1; have hF := hF.2
  refine j_pi hJ g3 kR_0 fR_15_26 rfl fp_X12_435 dX12_add_12 (fun M4 eM4 => ?_)
  have hF := hF M4 eM4
  refine j_aload_n hJ dX12_add_15 rfl 1 rfl ?_
  refine j_gr (e := 19) hJ kR_0 fR_15_21 fl_X12_125 dX12_add_16 rfl ?_
  refine j_iload_n hJ dX12_add_19 rfl 0 rfl ?_
  refine j_iload_n hJ dX12_add_20 rfl 2 rfl ?_
  refine j_iast hJ gv1 gp1 kR_19 hF.1 hF.2.1 dX12_add_21 (fun M5 eM5 => ?_)
  have hF := hF.2.2 M5 eM5
  refine j_aload_n hJ dX12_add_22 rfl 1 rfl ?_
  refine j_gr (e := 20) hJ kR_0 fR_15_22 fl_X12_128 dX12_add_23 rfl ?_
  refine j_iload_n hJ dX12_add_26 rfl 0 rfl ?_
  refine j_aload_n hJ dX12_add_27 rfl 1 rfl ?_
  refine j_iload_n hJ dX12_add_28 rfl 2 rfl ?_
  refine j_callVz hJ (c_X12_isClass (l := l) (D := D) (cy := cy) (ad := ad) hin) rfl om_1064 ⟨rfl, rfl, Nat.le_of_ble_eq_true rfl, Nat.le_of_ble_eq_true rfl⟩ [.int (Ii p1)] mv_X12_416 hd_X12_isClassv kR_0 rfl rfl rfl (Nat.le_of_ble_eq_true rfl) dX12_add_29 ⟨p1, rfl, gp1, hF⟩ (fun r6 M7 gr6 qM7 => ?_)
  have hF := qM7 gr6
  refine j_if_eq hJ 39 (jz_ri gr6) dX12_add_32 (by decide) (fun z8 => ?_) (fun z8 => ?_)
  · have hF := hF.1 z8
    refine j_iload_n hJ dX12_add_39 rfl 3 rfl ?_
    exact j_sub hJ [1, 2, 3, 0] rfl (k_X12_add_b40 hin  hJ  p1 p2 v1 p2 v1 _ gp1 gp2 gv1 gp2 gv1 hF)
  · have hF := hF.2 z8
    refine j_iconst hJ dX12_add_35 ?_
    refine j_goto hJ 40 dX12_add_36 (by decide) ?_
    exact j_sub hJ [1, 2, 3, 0] rfl (k_X12_add_b40 hin  hJ  p1 p2 v1 0 v1 _ gp1 gp2 gv1 rk_0 gv1 hF)
def W_X12_make (ad : Nat → Nat) (Q : Int → MM → Prop) (av : List Value) (M : MM) : Prop := ∃ (p1 : Int) (p2 : Int), av = [.ref (ad 0), .int (Ii p1), .int (Ii p2)] ∧ ri_ p1 ∧ ri_ p2 ∧ w_X12_make  Q p1 p2 M
set_option maxHeartbeats 4000000 in
set_option maxRecDepth 100000 in
theorem k_X12_make_b121 {l : Launch} {D : va_G} {cy : Nat → ClassId} {ad : Nat → Nat} {Q : Int → MM → Prop} {J : Nat → List (Nat × Value) → List Value → MM → Prop} (hin : jIn ad ksR.length)   (hJ : jOk l D vwCl (tyR cy) cy ad ftR ksR (XtR ad) Om RX12 cX12_make 4 1 ({ frames := 3, cells := 0, slots := 0, locals := 72 } : Room) Q J)  : ∀ (x1 x2 : Int) (M : MM), ri_ x1 → ri_ x2 → w_X12_make_b121  Q  x1 x2 M → J 121 [(0, .ref (ad 0)), (1, .int (Ii x1)), (2, .int (Ii x2))] [] M := by
  intro x1 x2 M gx1 gx2 hF
  unfold w_X12_make_b121 at hF
  refine j_aload_n hJ dX12_make_121 rfl 0 rfl ?_
  refine j_iload_n hJ dX12_make_122 rfl 1 rfl ?_
  refine j_iload_n hJ dX12_make_123 rfl 2 rfl ?_
  refine j_callVi hJ (c_X12_add (l := l) (D := D) (cy := cy) (ad := ad) hin) rfl om_1097 ⟨rfl, rfl, Nat.le_of_ble_eq_true rfl, Nat.le_of_ble_eq_true rfl⟩ [.int (Ii x1), .int (Ii x2)] mv_X12_467 hd_X12_addv kR_0 rfl rfl rfl (Nat.le_of_ble_eq_true rfl) dX12_make_124 ⟨x1, x2, rfl, gx1, gx2, hF⟩ (fun r1 M2 gr1 qM2 => ?_)
  have hF := qM2 gr1
  exact j_iret hJ rfl gr1 dX12_make_127 hF
set_option maxHeartbeats 4000000 in
set_option maxRecDepth 100000 in
theorem k_X12_make_b99 {l : Launch} {D : va_G} {cy : Nat → ClassId} {ad : Nat → Nat} {Q : Int → MM → Prop} {J : Nat → List (Nat × Value) → List Value → MM → Prop} (hin : jIn ad ksR.length)   (hJ : jOk l D vwCl (tyR cy) cy ad ftR ksR (XtR ad) Om RX12 cX12_make 4 1 ({ frames := 3, cells := 0, slots := 0, locals := 72 } : Room) Q J)  : ∀ (x1 x2 x3 : Int) (M : MM), ri_ x1 → ri_ x2 → ri_ x3 → w_X12_make_b99  Q  x1 x2 x3 M → J 99 [(0, .ref (ad 0)), (1, .int (Ii x1)), (2, .int (Ii x2)), (3, .int (Ii x3))] [] M := by
  have H9 : ∀ (n : Nat) (x1 x2 x3 : Int) (M : MM), ri_ x1 → ri_ x2 → ri_ x3 → jit (fun _ _ _ _ => False) (wb_X12_make_b99  Q ) n x1 x2 x3 M → J 99 [(0, .ref (ad 0)), (1, .int (Ii x1)), (2, .int (Ii x2)), (3, .int (Ii x3))] [] M := by
    intro n
    induction n with
    | zero => intro x1 x2 x3 M gx1 gx2 gx3 hF; exact False.elim hF
    | succ n ih =>
    intro x1 x2 x3 M gx1 gx2 gx3 hF
    have hF : wb_X12_make_b99  Q  (jit (fun _ _ _ _ => False) (wb_X12_make_b99  Q ) n) x1 x2 x3 M := hF
    unfold wb_X12_make_b99 at hF
    refine j_iload_n hJ dX12_make_99 rfl 3 rfl ?_
    refine j_iconst hJ dX12_make_100 ?_
    refine j_icmp_eq hJ 121 gx3 rk_m1 dX12_make_101 (by decide) (fun z1 => ?_) (fun z1 => ?_)
    · have hF := hF.1 z1
      exact j_sub hJ [0, 1, 2] rfl (k_X12_make_b121 hin  hJ  x1 x2 _ gx1 gx2 hF)
    · have hF := hF.2 z1
      refine j_aload_n hJ dX12_make_104 rfl 0 rfl ?_
      refine j_gr (e := 16) hJ kR_0 fR_15_17 fl_X12_115 dX12_make_105 rfl ?_
      refine j_iload_n hJ dX12_make_108 rfl 3 rfl ?_
      refine j_iconst hJ dX12_make_109 ?_
      refine j_zast hJ gx3 (by decide) kR_16 hF.1 hF.2.1 dX12_make_110 (fun M2 eM2 => ?_)
      have hF := hF.2.2 M2 eM2
      refine j_aload_n hJ dX12_make_111 rfl 0 rfl ?_
      refine j_gr (e := 8) hJ kR_0 fR_15_9 fl_X12_91 dX12_make_112 rfl ?_
      refine j_iload_n hJ dX12_make_115 rfl 3 rfl ?_
      refine j_iald hJ gx3 kR_8 hF.1 hF.2.1 dX12_make_116 (fun v3 ev3 gv3 => ?_)
      have hF := hF.2.2 v3 ev3 gv3
      refine j_istore_n (lv' := [(3, .int (Ii v3)), (0, .ref (ad 0)), (1, .int (Ii x1)), (2, .int (Ii x2))]) hJ dX12_make_117 rfl (by decide) rfl ?_
      refine j_goto hJ 99 dX12_make_118 (by decide) ?_
      exact j_sub hJ [1, 2, 3, 0] rfl (ih x1 x2 v3 _ gx1 gx2 gv3 hF)
  intro x1 x2 x3 M gx1 gx2 gx3 hF
  obtain ⟨n, hF⟩ := hF
  exact H9 n x1 x2 x3 M gx1 gx2 gx3 hF
set_option maxHeartbeats 4000000 in
set_option maxRecDepth 100000 in
theorem k_X12_make_b77 {l : Launch} {D : va_G} {cy : Nat → ClassId} {ad : Nat → Nat} {Q : Int → MM → Prop} {J : Nat → List (Nat × Value) → List Value → MM → Prop} (hin : jIn ad ksR.length)   (hJ : jOk l D vwCl (tyR cy) cy ad ftR ksR (XtR ad) Om RX12 cX12_make 4 1 ({ frames := 3, cells := 0, slots := 0, locals := 72 } : Room) Q J)  : ∀ (x1 x2 s0 : Int) (M : MM), ri_ x1 → ri_ x2 → ri_ s0 → w_X12_make_b77  Q  x1 x2 s0 M → J 77 [(0, .ref (ad 0)), (1, .int (Ii x1)), (2, .int (Ii x2))] [.int (Ii s0), .ref (ad 0)] M := by
  intro x1 x2 s0 M gx1 gx2 gs0 hF
  unfold w_X12_make_b77 at hF
  refine j_pi hJ gs0 kR_0 fR_15_0 rfl fp_X12_388 dX12_make_77 (fun M1 eM1 => ?_)
  have hF := hF M1 eM1
  refine j_aload_n hJ dX12_make_80 rfl 0 rfl ?_
  refine j_gi hJ kR_0 fR_15_0 rfl fl_X12_388 dX12_make_81 (fun v2 ev2 gv2 => ?_)
  have hF := hF v2 ev2 gv2
  refine j_if_le hJ 89 gv2 dX12_make_84 (by decide) (fun z3 => ?_) (fun z3 => ?_)
  · have hF := hF.1 z3
    refine j_aload_n hJ dX12_make_89 rfl 0 rfl ?_
    refine j_iload_n hJ dX12_make_90 rfl 1 rfl ?_
    refine j_callVz hJ (c_X12_isClass (l := l) (D := D) (cy := cy) (ad := ad) hin) rfl om_1064 ⟨rfl, rfl, Nat.le_of_ble_eq_true rfl, Nat.le_of_ble_eq_true rfl⟩ [.int (Ii x1)] mv_X12_416 hd_X12_isClassv kR_0 rfl rfl rfl (Nat.le_of_ble_eq_true rfl) dX12_make_91 ⟨x1, rfl, gx1, hF⟩ (fun r4 M5 gr4 qM5 => ?_)
    have hF := qM5 gr4
    refine j_if_eq hJ 121 (jz_ri gr4) dX12_make_94 (by decide) (fun z6 => ?_) (fun z6 => ?_)
    · have hF := hF.1 z6
      exact j_sub hJ [0, 1, 2] rfl (k_X12_make_b121 hin  hJ  x1 x2 _ gx1 gx2 hF)
    · have hF := hF.2 z6
      refine j_iload_n hJ dX12_make_97 rfl 1 rfl ?_
      refine j_istore_n (lv' := [(3, .int (Ii x1)), (0, .ref (ad 0)), (1, .int (Ii x1)), (2, .int (Ii x2))]) hJ dX12_make_98 rfl (by decide) rfl ?_
      exact j_sub hJ [1, 2, 3, 0] rfl (k_X12_make_b99 hin  hJ  x1 x2 x1 _ gx1 gx2 gx1 hF)
  · have hF := hF.2 z3
    refine j_iconst hJ dX12_make_87 ?_
    exact j_iret hJ rfl rk_0 dX12_make_88 hF
set_option maxHeartbeats 4000000 in
set_option maxRecDepth 100000 in
theorem k_X12_make_b72 {l : Launch} {D : va_G} {cy : Nat → ClassId} {ad : Nat → Nat} {Q : Int → MM → Prop} {J : Nat → List (Nat × Value) → List Value → MM → Prop} (hin : jIn ad ksR.length)   (hJ : jOk l D vwCl (tyR cy) cy ad ftR ksR (XtR ad) Om RX12 cX12_make 4 1 ({ frames := 3, cells := 0, slots := 0, locals := 72 } : Room) Q J)  : ∀ (x1 x2 : Int) (M : MM), ri_ x1 → ri_ x2 → w_X12_make_b72  Q  x1 x2 M → J 72 [(0, .ref (ad 0)), (1, .int (Ii x1)), (2, .int (Ii x2))] [.ref (ad 0)] M := by
  intro x1 x2 M gx1 gx2 hF
  unfold w_X12_make_b72 at hF
  refine j_iconst hJ dX12_make_72 ?_
  refine j_goto hJ 77 dX12_make_73 (by decide) ?_
  exact j_sub hJ [0, 1, 2] rfl (k_X12_make_b77 hin  hJ  x1 x2 2 _ gx1 gx2 rk_2 hF)
set_option maxHeartbeats 4000000 in
set_option maxRecDepth 100000 in
theorem k_X12_make_b32 {l : Launch} {D : va_G} {cy : Nat → ClassId} {ad : Nat → Nat} {Q : Int → MM → Prop} {J : Nat → List (Nat × Value) → List Value → MM → Prop} (hin : jIn ad ksR.length)   (hJ : jOk l D vwCl (tyR cy) cy ad ftR ksR (XtR ad) Om RX12 cX12_make 4 1 ({ frames := 3, cells := 0, slots := 0, locals := 72 } : Room) Q J)  : ∀ (x1 x2 s0 : Int) (M : MM), ri_ x1 → ri_ x2 → ri_ s0 → w_X12_make_b32  Q  x1 x2 s0 M → J 32 [(0, .ref (ad 0)), (1, .int (Ii x1)), (2, .int (Ii x2))] [.int (Ii s0), .ref (ad 0)] M := by
  intro x1 x2 s0 M gx1 gx2 gs0 hF
  unfold w_X12_make_b32 at hF
  refine j_pi hJ gs0 kR_0 fR_15_0 rfl fp_X12_388 dX12_make_32 (fun M1 eM1 => ?_)
  have hF := hF M1 eM1
  refine j_aload_n hJ dX12_make_35 rfl 0 rfl ?_
  refine j_gi hJ kR_0 fR_15_0 rfl fl_X12_388 dX12_make_36 (fun v2 ev2 gv2 => ?_)
  have hF := hF v2 ev2 gv2
  refine j_if_le hJ 44 gv2 dX12_make_39 (by decide) (fun z3 => ?_) (fun z3 => ?_)
  · have hF := hF.1 z3
    refine j_aload_n hJ dX12_make_44 rfl 0 rfl ?_
    refine j_aload_n hJ dX12_make_45 rfl 0 rfl ?_
    refine j_gi hJ kR_0 fR_15_26 rfl fl_X12_435 dX12_make_46 (fun v4 ev4 gv4 => ?_)
    have hF := hF v4 ev4 gv4
    refine j_sipush hJ dX12_make_49 (by decide) ?_
    refine j_icmp_eq hJ 72 gv4 rk_400 dX12_make_52 (by decide) (fun z5 => ?_) (fun z5 => ?_)
    · have hF := hF.1 z5
      exact j_sub hJ [0, 1, 2] rfl (k_X12_make_b72 hin  hJ  x1 x2 _ gx1 gx2 hF)
    · have hF := hF.2 z5
      refine j_aload_n hJ dX12_make_55 rfl 0 rfl ?_
      refine j_gi hJ kR_0 fR_15_28 rfl fl_X12_461 dX12_make_56 (fun v6 ev6 gv6 => ?_)
      have hF := hF v6 ev6 gv6
      refine j_aload_n hJ dX12_make_59 rfl 0 rfl ?_
      refine j_iload_n hJ dX12_make_60 rfl 1 rfl ?_
      refine j_iload_n hJ dX12_make_61 rfl 2 rfl ?_
      refine j_callVi hJ (c_X12_slotCount (l := l) (D := D) (cy := cy) (ad := ad) hin) rfl om_1089 ⟨rfl, rfl, Nat.le_of_ble_eq_true rfl, Nat.le_of_ble_eq_true rfl⟩ [.int (Ii x1), .int (Ii x2)] mv_X12_455 hd_X12_slotCountv kR_0 rfl rfl rfl (Nat.le_of_ble_eq_true rfl) dX12_make_62 ⟨x1, x2, rfl, gx1, gx2, hF⟩ (fun r7 M8 gr7 qM8 => ?_)
      have hF := qM8 gr7
      refine j_iadd hJ dX12_make_65 ?_
      have g9 := hF.1; have hF := hF.2
      refine j_sipush hJ dX12_make_66 (by decide) ?_
      refine j_icmp_le hJ 76 g9 rk_4000 dX12_make_69 (by decide) (fun z10 => ?_) (fun z10 => ?_)
      · have hF := hF.1 z10
        refine j_iconst hJ dX12_make_76 ?_
        exact j_sub hJ [0, 1, 2] rfl (k_X12_make_b77 hin  hJ  x1 x2 0 _ gx1 gx2 rk_0 hF)
      · have hF := hF.2 z10
        exact j_sub hJ [0, 1, 2] rfl (k_X12_make_b72 hin  hJ  x1 x2 _ gx1 gx2 hF)
  · have hF := hF.2 z3
    refine j_iconst hJ dX12_make_42 ?_
    exact j_iret hJ rfl rk_0 dX12_make_43 hF
set_option maxHeartbeats 4000000 in
set_option maxRecDepth 100000 in
theorem k_X12_make_b31 {l : Launch} {D : va_G} {cy : Nat → ClassId} {ad : Nat → Nat} {Q : Int → MM → Prop} {J : Nat → List (Nat × Value) → List Value → MM → Prop} (hin : jIn ad ksR.length)   (hJ : jOk l D vwCl (tyR cy) cy ad ftR ksR (XtR ad) Om RX12 cX12_make 4 1 ({ frames := 3, cells := 0, slots := 0, locals := 72 } : Room) Q J)  : ∀ (x1 x2 : Int) (M : MM), ri_ x1 → ri_ x2 → w_X12_make_b31  Q  x1 x2 M → J 31 [(0, .ref (ad 0)), (1, .int (Ii x1)), (2, .int (Ii x2))] [.ref (ad 0)] M := by
  intro x1 x2 M gx1 gx2 hF
  unfold w_X12_make_b31 at hF
  refine j_iconst hJ dX12_make_31 ?_
  exact j_sub hJ [0, 1, 2] rfl (k_X12_make_b32 hin  hJ  x1 x2 0 _ gx1 gx2 rk_0 hF)
set_option maxHeartbeats 4000000 in
set_option maxRecDepth 100000 in
theorem k_X12_make_b27 {l : Launch} {D : va_G} {cy : Nat → ClassId} {ad : Nat → Nat} {Q : Int → MM → Prop} {J : Nat → List (Nat × Value) → List Value → MM → Prop} (hin : jIn ad ksR.length)   (hJ : jOk l D vwCl (tyR cy) cy ad ftR ksR (XtR ad) Om RX12 cX12_make 4 1 ({ frames := 3, cells := 0, slots := 0, locals := 72 } : Room) Q J)  : ∀ (x1 x2 : Int) (M : MM), ri_ x1 → ri_ x2 → w_X12_make_b27  Q  x1 x2 M → J 27 [(0, .ref (ad 0)), (1, .int (Ii x1)), (2, .int (Ii x2))] [.ref (ad 0)] M := by
  intro x1 x2 M gx1 gx2 hF
  unfold w_X12_make_b27 at hF
  refine j_iconst hJ dX12_make_27 ?_
  refine j_goto hJ 32 dX12_make_28 (by decide) ?_
  exact j_sub hJ [0, 1, 2] rfl (k_X12_make_b32 hin  hJ  x1 x2 1 _ gx1 gx2 rk_1 hF)
set_option maxHeartbeats 4000000 in
set_option maxRecDepth 100000 in
theorem c_X12_make {l : Launch} {D : va_G} {cy : Nat → ClassId} {ad : Nat → Nat} (hin : jIn ad ksR.length) : jCN l D vwCl (tyR cy) cy ad ftR ksR (XtR ad) yX12_make (.code yX12_make cX12_make 4 (some .int) :: Om) ({ frames := 3, cells := 0, slots := 0, locals := 72 } : Room) 1 (W_X12_make ad) := by
  refine jCN_of (y := yX12_make) (cc := cX12_make) (nL := 4) (rk := 1) (rm := ({ frames := 3, cells := 0, slots := 0, locals := 72 } : Room)) (own := RX12) (tyR_ok cy) hin (XtR_ok ad) Om_good (by decide) rfl ?_
  intro Q av M hF
  obtain ⟨p1, p2, rfl, gp1, gp2, hF⟩ := hF
  refine ⟨Nat.le_of_ble_eq_true rfl, fun J hJ => ?_⟩
  show J 0 [(0, .ref (ad 0)), (1, .int (Ii p1)), (2, .int (Ii p2))] [] M
  unfold w_X12_make at hF
  refine j_aload_n hJ dX12_make_0 rfl 0 rfl ?_
  refine j_aload_n hJ dX12_make_1 rfl 0 rfl ?_
  refine j_iload_n hJ dX12_make_2 rfl 1 rfl ?_
  refine j_callVz hJ (c_X12_isClass (l := l) (D := D) (cy := cy) (ad := ad) hin) rfl om_1064 ⟨rfl, rfl, Nat.le_of_ble_eq_true rfl, Nat.le_of_ble_eq_true rfl⟩ [.int (Ii p1)] mv_X12_416 hd_X12_isClassv kR_0 rfl rfl rfl (Nat.le_of_ble_eq_true rfl) dX12_make_3 ⟨p1, rfl, gp1, hF⟩ (fun r1 M2 gr1 qM2 => ?_)
  have hF := qM2 gr1
  refine j_if_ne hJ 31 (jz_ri gr1) dX12_make_6 (by decide) (fun z3 => ?_) (fun z3 => ?_)
  · have hF := hF.1 z3
    exact j_sub hJ [0, 1, 2] rfl (k_X12_make_b31 hin  hJ  p1 p2 _ gp1 gp2 hF)
  · have hF := hF.2 z3
    refine j_aload_n hJ dX12_make_9 rfl 0 rfl ?_
    refine j_iload_n hJ dX12_make_10 rfl 1 rfl ?_
    refine j_callVz hJ (c_X12_isArrayType (l := l) (D := D) (cy := cy) (ad := ad) hin) rfl om_1101 ⟨rfl, rfl, Nat.le_of_ble_eq_true rfl, Nat.le_of_ble_eq_true rfl⟩ [.int (Ii p1)] mv_X12_464 hd_X12_isArrayTypev kR_0 rfl rfl rfl (Nat.le_of_ble_eq_true rfl) dX12_make_11 ⟨p1, rfl, gp1, hF⟩ (fun r4 M5 gr4 qM5 => ?_)
    have hF := qM5 gr4
    refine j_if_eq hJ 27 (jz_ri gr4) dX12_make_14 (by decide) (fun z6 => ?_) (fun z6 => ?_)
    · have hF := hF.1 z6
      exact j_sub hJ [0, 1, 2] rfl (k_X12_make_b27 hin  hJ  p1 p2 _ gp1 gp2 hF)
    · have hF := hF.2 z6
      refine j_iload_n hJ dX12_make_17 rfl 2 rfl ?_
      refine j_if_lt hJ 27 gp2 dX12_make_18 (by decide) (fun z7 => ?_) (fun z7 => ?_)
      · have hF := hF.1 z7
        exact j_sub hJ [0, 1, 2] rfl (k_X12_make_b27 hin  hJ  p1 p2 _ gp1 gp2 hF)
      · have hF := hF.2 z7
        refine j_iload_n hJ dX12_make_21 rfl 2 rfl ?_
        refine j_bipush hJ dX12_make_22 (by decide) ?_
        refine j_icmp_le hJ 31 gp2 rk_60 dX12_make_24 (by decide) (fun z8 => ?_) (fun z8 => ?_)
        · have hF := hF.1 z8
          exact j_sub hJ [0, 1, 2] rfl (k_X12_make_b31 hin  hJ  p1 p2 _ gp1 gp2 hF)
        · have hF := hF.2 z8
          exact j_sub hJ [0, 1, 2] rfl (k_X12_make_b27 hin  hJ  p1 p2 _ gp1 gp2 hF)
def W_X12_rootAt (ad : Nat → Nat) (Q : Int → MM → Prop) (av : List Value) (M : MM) : Prop := ∃ (p1 : Int), av = [.ref (ad 0), .int (Ii p1)] ∧ ri_ p1 ∧ w_X12_rootAt  Q p1 M
set_option maxHeartbeats 4000000 in
set_option maxRecDepth 100000 in
theorem k_X12_rootAt_b27 {l : Launch} {D : va_G} {cy : Nat → ClassId} {ad : Nat → Nat} {Q : Int → MM → Prop} {J : Nat → List (Nat × Value) → List Value → MM → Prop} (hin : jIn ad ksR.length)   (hJ : jOk l D vwCl (tyR cy) cy ad ftR ksR (XtR ad) Om RX12 cX12_rootAt 4 1 ({ frames := 0, cells := 0, slots := 0, locals := 0 } : Room) Q J) {K4 : Int → Int → Int → MM → Prop} (hK4 : ∀ (x1 x2 x3 : Int) (M : MM), ri_ x1 → ri_ x2 → ri_ x3 → K4 x1 x2 x3 M → J 4 [(0, .ref (ad 0)), (1, .int (Ii x1)), (2, .int (Ii x2)), (3, .int (Ii x3))] [] M) : ∀ (x1 x3 s0 : Int) (M : MM), ri_ x1 → ri_ x3 → ri_ s0 → w_X12_rootAt_b27  Q K4 x1 x3 s0 M → J 27 [(0, .ref (ad 0)), (1, .int (Ii x1)), (3, .int (Ii x3))] [.int (Ii s0)] M := by
  intro x1 x3 s0 M gx1 gx3 gs0 hF
  unfold w_X12_rootAt_b27 at hF
  refine j_istore_n (lv' := [(2, .int (Ii s0)), (0, .ref (ad 0)), (1, .int (Ii x1)), (3, .int (Ii x3))]) hJ dX12_rootAt_27 rfl (by decide) rfl ?_
  refine j_iinc (lv' := [(3, .int (Ii (x3 + 1))), (2, .int (Ii s0)), (0, .ref (ad 0)), (1, .int (Ii x1))]) (k := 3) hJ dX12_rootAt_28 rfl (by decide) rfl ?_
  have g1 := hF.1; have hF := hF.2
  refine j_goto hJ 4 dX12_rootAt_31 (by decide) ?_
  exact j_sub hJ [2, 3, 1, 0] rfl (hK4 x1 s0 (x3 + 1) _ gx1 gs0 g1 hF)
set_option maxHeartbeats 4000000 in
set_option maxRecDepth 100000 in
theorem k_X12_rootAt_b4 {l : Launch} {D : va_G} {cy : Nat → ClassId} {ad : Nat → Nat} {Q : Int → MM → Prop} {J : Nat → List (Nat × Value) → List Value → MM → Prop} (hin : jIn ad ksR.length)   (hJ : jOk l D vwCl (tyR cy) cy ad ftR ksR (XtR ad) Om RX12 cX12_rootAt 4 1 ({ frames := 0, cells := 0, slots := 0, locals := 0 } : Room) Q J)  : ∀ (x1 x2 x3 : Int) (M : MM), ri_ x1 → ri_ x2 → ri_ x3 → w_X12_rootAt_b4  Q  x1 x2 x3 M → J 4 [(0, .ref (ad 0)), (1, .int (Ii x1)), (2, .int (Ii x2)), (3, .int (Ii x3))] [] M := by
  have H9 : ∀ (n : Nat) (x1 x2 x3 : Int) (M : MM), ri_ x1 → ri_ x2 → ri_ x3 → jit (fun _ _ _ _ => False) (wb_X12_rootAt_b4  Q ) n x1 x2 x3 M → J 4 [(0, .ref (ad 0)), (1, .int (Ii x1)), (2, .int (Ii x2)), (3, .int (Ii x3))] [] M := by
    intro n
    induction n with
    | zero => intro x1 x2 x3 M gx1 gx2 gx3 hF; exact False.elim hF
    | succ n ih =>
    intro x1 x2 x3 M gx1 gx2 gx3 hF
    have hF : wb_X12_rootAt_b4  Q  (jit (fun _ _ _ _ => False) (wb_X12_rootAt_b4  Q ) n) x1 x2 x3 M := hF
    unfold wb_X12_rootAt_b4 at hF
    refine j_iload_n hJ dX12_rootAt_4 rfl 3 rfl ?_
    refine j_aload_n hJ dX12_rootAt_5 rfl 0 rfl ?_
    refine j_gi hJ kR_0 fR_15_31 rfl fl_X12_470 dX12_rootAt_6 (fun v1 ev1 gv1 => ?_)
    have hF := hF v1 ev1 gv1
    refine j_icmp_ge hJ 34 gx3 gv1 dX12_rootAt_9 (by decide) (fun z2 => ?_) (fun z2 => ?_)
    · have hF := hF.1 z2
      refine j_iload_n hJ dX12_rootAt_34 rfl 2 rfl ?_
      exact j_iret hJ rfl gx2 dX12_rootAt_35 hF
    · have hF := hF.2 z2
      refine j_aload_n hJ dX12_rootAt_12 rfl 0 rfl ?_
      refine j_gr (e := 24) hJ kR_0 fR_15_30 fl_X12_141 dX12_rootAt_13 rfl ?_
      refine j_iload_n hJ dX12_rootAt_16 rfl 3 rfl ?_
      refine j_iald hJ gx3 kR_24 hF.1 hF.2.1 dX12_rootAt_17 (fun v3 ev3 gv3 => ?_)
      have hF := hF.2.2 v3 ev3 gv3
      refine j_iload_n hJ dX12_rootAt_18 rfl 1 rfl ?_
      refine j_icmp_ne hJ 26 gv3 gx1 dX12_rootAt_19 (by decide) (fun z4 => ?_) (fun z4 => ?_)
      · have hF := hF.1 z4
        refine j_iload_n hJ dX12_rootAt_26 rfl 2 rfl ?_
        exact j_sub hJ [0, 1, 3] rfl (k_X12_rootAt_b27 hin  hJ ih x1 x3 x2 _ gx1 gx3 gx2 hF)
      · have hF := hF.2 z4
        refine j_iload_n hJ dX12_rootAt_22 rfl 3 rfl ?_
        refine j_goto hJ 27 dX12_rootAt_23 (by decide) ?_
        exact j_sub hJ [0, 1, 3] rfl (k_X12_rootAt_b27 hin  hJ ih x1 x3 x3 _ gx1 gx3 gx3 hF)
  intro x1 x2 x3 M gx1 gx2 gx3 hF
  obtain ⟨n, hF⟩ := hF
  exact H9 n x1 x2 x3 M gx1 gx2 gx3 hF
set_option maxHeartbeats 4000000 in
set_option maxRecDepth 100000 in
theorem c_X12_rootAt {l : Launch} {D : va_G} {cy : Nat → ClassId} {ad : Nat → Nat} (hin : jIn ad ksR.length) : jCN l D vwCl (tyR cy) cy ad ftR ksR (XtR ad) yX12_rootAt (.code yX12_rootAt cX12_rootAt 4 (some .int) :: Om) ({ frames := 0, cells := 0, slots := 0, locals := 0 } : Room) 1 (W_X12_rootAt ad) := by
  refine jCN_of (y := yX12_rootAt) (cc := cX12_rootAt) (nL := 4) (rk := 1) (rm := ({ frames := 0, cells := 0, slots := 0, locals := 0 } : Room)) (own := RX12) (tyR_ok cy) hin (XtR_ok ad) Om_good (by decide) rfl ?_
  intro Q av M hF
  obtain ⟨p1, rfl, gp1, hF⟩ := hF
  refine ⟨Nat.le_of_ble_eq_true rfl, fun J hJ => ?_⟩
  show J 0 [(0, .ref (ad 0)), (1, .int (Ii p1))] [] M
  unfold w_X12_rootAt at hF
  refine j_iconst hJ dX12_rootAt_0 ?_
  refine j_istore_n (lv' := [(2, .int (Ii (-1))), (0, .ref (ad 0)), (1, .int (Ii p1))]) hJ dX12_rootAt_1 rfl (by decide) rfl ?_
  refine j_iconst hJ dX12_rootAt_2 ?_
  refine j_istore_n (lv' := [(3, .int (Ii 0)), (2, .int (Ii (-1))), (0, .ref (ad 0)), (1, .int (Ii p1))]) hJ dX12_rootAt_3 rfl (by decide) rfl ?_
  exact j_sub hJ [2, 3, 1, 0] rfl (k_X12_rootAt_b4 hin  hJ  p1 (-1) 0 _ gp1 rk_m1 rk_0 hF)
def W_X12_root (ad : Nat → Nat) (Q : Int → MM → Prop) (av : List Value) (M : MM) : Prop := ∃ (p1 : Int) (p2 : Int), av = [.ref (ad 0), .int (Ii p1), .int (Ii p2)] ∧ ri_ p1 ∧ (p2 = 0 ∨ p2 = 1) ∧ w_X12_root  Q p1 p2 M
set_option maxHeartbeats 4000000 in
set_option maxRecDepth 100000 in
theorem k_X12_root_b108 {l : Launch} {D : va_G} {cy : Nat → ClassId} {ad : Nat → Nat} {Q : Int → MM → Prop} {J : Nat → List (Nat × Value) → List Value → MM → Prop} (hin : jIn ad ksR.length)   (hJ : jOk l D vwCl (tyR cy) cy ad ftR ksR (XtR ad) Om RX12 cX12_root 5 0 ({ frames := 1, cells := 0, slots := 0, locals := 23 } : Room) Q J)  : ∀ (x4 : Int) (M : MM), ri_ x4 → w_X12_root_b108  Q  x4 M → J 108 [(0, .ref (ad 0)), (4, .int (Ii x4))] [] M := by
  have H9 : ∀ (n : Nat) (x4 : Int) (M : MM), ri_ x4 → jit (fun _ _ => False) (wb_X12_root_b108  Q ) n x4 M → J 108 [(0, .ref (ad 0)), (4, .int (Ii x4))] [] M := by
    intro n
    induction n with
    | zero => intro x4 M gx4 hF; exact False.elim hF
    | succ n ih =>
    intro x4 M gx4 hF
    have hF : wb_X12_root_b108  Q  (jit (fun _ _ => False) (wb_X12_root_b108  Q ) n) x4 M := hF
    unfold wb_X12_root_b108 at hF
    refine j_iload hJ dX12_root_108 1 rfl ?_
    refine j_iconst hJ dX12_root_110 ?_
    refine j_iadd hJ dX12_root_111 ?_
    have g1 := hF.1; have hF := hF.2
    refine j_aload_n hJ dX12_root_112 rfl 0 rfl ?_
    refine j_gi hJ kR_0 fR_15_31 rfl fl_X12_470 dX12_root_113 (fun v2 ev2 gv2 => ?_)
    have hF := hF v2 ev2 gv2
    refine j_icmp_ge hJ 141 g1 gv2 dX12_root_116 (by decide) (fun z3 => ?_) (fun z3 => ?_)
    · have hF := hF.1 z3
      refine j_aload_n hJ dX12_root_141 rfl 0 rfl ?_
      refine j_dup hJ dX12_root_142 rfl ?_
      refine j_gi hJ kR_0 fR_15_31 rfl fl_X12_470 dX12_root_143 (fun v4 ev4 gv4 => ?_)
      have hF := hF v4 ev4 gv4
      refine j_iconst hJ dX12_root_146 ?_
      refine j_isub hJ dX12_root_147 ?_
      have g5 := hF.1; have hF := hF.2
      refine j_pi hJ g5 kR_0 fR_15_31 rfl fp_X12_470 dX12_root_148 (fun M6 eM6 => ?_)
      have hF := hF M6 eM6
      exact j_vret hJ rfl dX12_root_151 hF
    · have hF := hF.2 z3
      refine j_aload_n hJ dX12_root_119 rfl 0 rfl ?_
      refine j_gr (e := 24) hJ kR_0 fR_15_30 fl_X12_141 dX12_root_120 rfl ?_
      refine j_iload hJ dX12_root_123 1 rfl ?_
      refine j_aload_n hJ dX12_root_125 rfl 0 rfl ?_
      refine j_gr (e := 24) hJ kR_0 fR_15_30 fl_X12_141 dX12_root_126 rfl ?_
      refine j_iload hJ dX12_root_129 1 rfl ?_
      refine j_iconst hJ dX12_root_131 ?_
      refine j_iadd hJ dX12_root_132 ?_
      have g7 := hF.1; have hF := hF.2
      refine j_iald hJ g7 kR_24 hF.1 hF.2.1 dX12_root_133 (fun v8 ev8 gv8 => ?_)
      have hF := hF.2.2 v8 ev8 gv8
      refine j_iast hJ gx4 gv8 kR_24 hF.1 hF.2.1 dX12_root_134 (fun M9 eM9 => ?_)
      have hF := hF.2.2 M9 eM9
      refine j_iinc (lv' := [(4, .int (Ii (x4 + 1))), (0, .ref (ad 0))]) (k := 1) hJ dX12_root_135 rfl (by decide) rfl ?_
      have g10 := hF.1; have hF := hF.2
      refine j_goto hJ 108 dX12_root_138 (by decide) ?_
      exact j_sub hJ [1, 0] rfl (ih (x4 + 1) _ g10 hF)
  intro x4 M gx4 hF
  obtain ⟨n, hF⟩ := hF
  exact H9 n x4 M gx4 hF
set_option maxHeartbeats 4000000 in
set_option maxRecDepth 100000 in
theorem k_X12_root_b95 {l : Launch} {D : va_G} {cy : Nat → ClassId} {ad : Nat → Nat} {Q : Int → MM → Prop} {J : Nat → List (Nat × Value) → List Value → MM → Prop} (hin : jIn ad ksR.length)   (hJ : jOk l D vwCl (tyR cy) cy ad ftR ksR (XtR ad) Om RX12 cX12_root 5 0 ({ frames := 1, cells := 0, slots := 0, locals := 23 } : Room) Q J)  : ∀ (x2 x3 : Int) (M : MM), ri_ x2 → ri_ x3 → w_X12_root_b95  Q  x2 x3 M → J 95 [(0, .ref (ad 0)), (2, .int (Ii x2)), (3, .int (Ii x3))] [] M := by
  intro x2 x3 M gx2 gx3 hF
  unfold w_X12_root_b95 at hF
  refine j_iload_n hJ dX12_root_95 rfl 1 rfl ?_
  refine j_if_ne hJ 104 gx2 dX12_root_96 (by decide) (fun z1 => ?_) (fun z1 => ?_)
  · have hF := hF.1 z1
    exact j_vret hJ rfl dX12_root_104 hF
  · have hF := hF.2 z1
    refine j_iload_n hJ dX12_root_99 rfl 2 rfl ?_
    refine j_iconst hJ dX12_root_100 ?_
    refine j_icmp_ne hJ 105 gx3 rk_m1 dX12_root_101 (by decide) (fun z2 => ?_) (fun z2 => ?_)
    · have hF := hF.1 z2
      refine j_iload_n hJ dX12_root_105 rfl 2 rfl ?_
      refine j_istore (lv' := [(4, .int (Ii x3)), (0, .ref (ad 0)), (2, .int (Ii x2)), (3, .int (Ii x3))]) hJ dX12_root_106 (by decide) rfl ?_
      exact j_sub hJ [1, 0] rfl (k_X12_root_b108 hin  hJ  x3 _ gx3 hF)
    · have hF := hF.2 z2
      exact j_vret hJ rfl dX12_root_104 hF
set_option maxHeartbeats 4000000 in
set_option maxRecDepth 100000 in
theorem k_X12_root_b55 {l : Launch} {D : va_G} {cy : Nat → ClassId} {ad : Nat → Nat} {Q : Int → MM → Prop} {J : Nat → List (Nat × Value) → List Value → MM → Prop} (hin : jIn ad ksR.length)   (hJ : jOk l D vwCl (tyR cy) cy ad ftR ksR (XtR ad) Om RX12 cX12_root 5 0 ({ frames := 1, cells := 0, slots := 0, locals := 23 } : Room) Q J)  : ∀ (x1 x2 x3 s0 : Int) (M : MM), ri_ x1 → ri_ x2 → ri_ x3 → ri_ s0 → w_X12_root_b55  Q  x1 x2 x3 s0 M → J 55 [(0, .ref (ad 0)), (1, .int (Ii x1)), (2, .int (Ii x2)), (3, .int (Ii x3))] [.int (Ii s0), .ref (ad 0)] M := by
  intro x1 x2 x3 s0 M gx1 gx2 gx3 gs0 hF
  unfold w_X12_root_b55 at hF
  refine j_pi hJ gs0 kR_0 fR_15_0 rfl fp_X12_388 dX12_root_55 (fun M1 eM1 => ?_)
  have hF := hF M1 eM1
  refine j_aload_n hJ dX12_root_58 rfl 0 rfl ?_
  refine j_gi hJ kR_0 fR_15_0 rfl fl_X12_388 dX12_root_59 (fun v2 ev2 gv2 => ?_)
  have hF := hF v2 ev2 gv2
  refine j_if_le hJ 66 gv2 dX12_root_62 (by decide) (fun z3 => ?_) (fun z3 => ?_)
  · have hF := hF.1 z3
    refine j_iload_n hJ dX12_root_66 rfl 2 rfl ?_
    refine j_if_eq hJ 95 gx2 dX12_root_67 (by decide) (fun z4 => ?_) (fun z4 => ?_)
    · have hF := hF.1 z4
      exact j_sub hJ [0, 2, 3] rfl (k_X12_root_b95 hin  hJ  x2 x3 _ gx2 gx3 hF)
    · have hF := hF.2 z4
      refine j_iload_n hJ dX12_root_70 rfl 3 rfl ?_
      refine j_iconst hJ dX12_root_71 ?_
      refine j_icmp_ne hJ 95 gx3 rk_m1 dX12_root_72 (by decide) (fun z5 => ?_) (fun z5 => ?_)
      · have hF := hF.1 z5
        exact j_sub hJ [0, 2, 3] rfl (k_X12_root_b95 hin  hJ  x2 x3 _ gx2 gx3 hF)
      · have hF := hF.2 z5
        refine j_aload_n hJ dX12_root_75 rfl 0 rfl ?_
        refine j_gr (e := 24) hJ kR_0 fR_15_30 fl_X12_141 dX12_root_76 rfl ?_
        refine j_aload_n hJ dX12_root_79 rfl 0 rfl ?_
        refine j_gi hJ kR_0 fR_15_31 rfl fl_X12_470 dX12_root_80 (fun v6 ev6 gv6 => ?_)
        have hF := hF v6 ev6 gv6
        refine j_iload_n hJ dX12_root_83 rfl 1 rfl ?_
        refine j_iast hJ gv6 gx1 kR_24 hF.1 hF.2.1 dX12_root_84 (fun M7 eM7 => ?_)
        have hF := hF.2.2 M7 eM7
        refine j_aload_n hJ dX12_root_85 rfl 0 rfl ?_
        refine j_dup hJ dX12_root_86 rfl ?_
        refine j_gi hJ kR_0 fR_15_31 rfl fl_X12_470 dX12_root_87 (fun v8 ev8 gv8 => ?_)
        have hF := hF v8 ev8 gv8
        refine j_iconst hJ dX12_root_90 ?_
        refine j_iadd hJ dX12_root_91 ?_
        have g9 := hF.1; have hF := hF.2
        refine j_pi hJ g9 kR_0 fR_15_31 rfl fp_X12_470 dX12_root_92 (fun M10 eM10 => ?_)
        have hF := hF M10 eM10
        exact j_sub hJ [0, 2, 3] rfl (k_X12_root_b95 hin  hJ  x2 x3 _ gx2 gx3 hF)
  · have hF := hF.2 z3
    exact j_vret hJ rfl dX12_root_65 hF
set_option maxHeartbeats 4000000 in
set_option maxRecDepth 100000 in
theorem k_X12_root_b54 {l : Launch} {D : va_G} {cy : Nat → ClassId} {ad : Nat → Nat} {Q : Int → MM → Prop} {J : Nat → List (Nat × Value) → List Value → MM → Prop} (hin : jIn ad ksR.length)   (hJ : jOk l D vwCl (tyR cy) cy ad ftR ksR (XtR ad) Om RX12 cX12_root 5 0 ({ frames := 1, cells := 0, slots := 0, locals := 23 } : Room) Q J)  : ∀ (x1 x2 x3 : Int) (M : MM), ri_ x1 → ri_ x2 → ri_ x3 → w_X12_root_b54  Q  x1 x2 x3 M → J 54 [(0, .ref (ad 0)), (1, .int (Ii x1)), (2, .int (Ii x2)), (3, .int (Ii x3))] [.ref (ad 0)] M := by
  intro x1 x2 x3 M gx1 gx2 gx3 hF
  unfold w_X12_root_b54 at hF
  refine j_iconst hJ dX12_root_54 ?_
  exact j_sub hJ [0, 1, 2, 3] rfl (k_X12_root_b55 hin  hJ  x1 x2 x3 0 _ gx1 gx2 gx3 rk_0 hF)
set_option maxHeartbeats 4000000 in
set_option maxRecDepth 100000 in
theorem k_X12_root_b14 {l : Launch} {D : va_G} {cy : Nat → ClassId} {ad : Nat → Nat} {Q : Int → MM → Prop} {J : Nat → List (Nat × Value) → List Value → MM → Prop} (hin : jIn ad ksR.length)   (hJ : jOk l D vwCl (tyR cy) cy ad ftR ksR (XtR ad) Om RX12 cX12_root 5 0 ({ frames := 1, cells := 0, slots := 0, locals := 23 } : Room) Q J)  : ∀ (x1 x2 s0 : Int) (M : MM), ri_ x1 → ri_ x2 → ri_ s0 → w_X12_root_b14  Q  x1 x2 s0 M → J 14 [(0, .ref (ad 0)), (1, .int (Ii x1)), (2, .int (Ii x2))] [.int (Ii s0), .ref (ad 0)] M := by
  intro x1 x2 s0 M gx1 gx2 gs0 hF
  unfold w_X12_root_b14 at hF
  refine j_pi hJ gs0 kR_0 fR_15_0 rfl fp_X12_388 dX12_root_14 (fun M1 eM1 => ?_)
  have hF := hF M1 eM1
  refine j_aload_n hJ dX12_root_17 rfl 0 rfl ?_
  refine j_gi hJ kR_0 fR_15_0 rfl fl_X12_388 dX12_root_18 (fun v2 ev2 gv2 => ?_)
  have hF := hF v2 ev2 gv2
  refine j_if_le hJ 25 gv2 dX12_root_21 (by decide) (fun z3 => ?_) (fun z3 => ?_)
  · have hF := hF.1 z3
    refine j_aload_n hJ dX12_root_25 rfl 0 rfl ?_
    refine j_iload_n hJ dX12_root_26 rfl 1 rfl ?_
    refine j_callVi hJ (c_X12_rootAt (l := l) (D := D) (cy := cy) (ad := ad) hin) rfl om_1109 ⟨rfl, rfl, Nat.le_of_ble_eq_true rfl, Nat.le_of_ble_eq_true rfl⟩ [.int (Ii x1)] mv_X12_476 hd_X12_rootAtv kR_0 rfl rfl rfl (Nat.le_of_ble_eq_true rfl) dX12_root_27 ⟨x1, rfl, gx1, hF⟩ (fun r4 M5 gr4 qM5 => ?_)
    have hF := qM5 gr4
    refine j_istore_n (lv' := [(3, .int (Ii r4)), (0, .ref (ad 0)), (1, .int (Ii x1)), (2, .int (Ii x2))]) hJ dX12_root_30 rfl (by decide) rfl ?_
    refine j_aload_n hJ dX12_root_31 rfl 1 rfl ?_
    refine j_iload_n hJ dX12_root_32 rfl 3 rfl ?_
    refine j_if_eq hJ 54 gx2 dX12_root_33 (by decide) (fun z6 => ?_) (fun z6 => ?_)
    · have hF := hF.1 z6
      exact j_sub hJ [1, 2, 3, 0] rfl (k_X12_root_b54 hin  hJ  x1 x2 r4 _ gx1 gx2 gr4 hF)
    · have hF := hF.2 z6
      refine j_iload_n hJ dX12_root_36 rfl 0 rfl ?_
      refine j_iconst hJ dX12_root_37 ?_
      refine j_icmp_ne hJ 54 gr4 rk_m1 dX12_root_38 (by decide) (fun z7 => ?_) (fun z7 => ?_)
      · have hF := hF.1 z7
        exact j_sub hJ [1, 2, 3, 0] rfl (k_X12_root_b54 hin  hJ  x1 x2 r4 _ gx1 gx2 gr4 hF)
      · have hF := hF.2 z7
        refine j_aload_n hJ dX12_root_41 rfl 1 rfl ?_
        refine j_gi hJ kR_0 fR_15_31 rfl fl_X12_470 dX12_root_42 (fun v8 ev8 gv8 => ?_)
        have hF := hF v8 ev8 gv8
        refine j_bipush hJ dX12_root_45 (by decide) ?_
        refine j_icmp_ne hJ 54 gv8 rk_12 dX12_root_47 (by decide) (fun z9 => ?_) (fun z9 => ?_)
        · have hF := hF.1 z9
          exact j_sub hJ [1, 2, 3, 0] rfl (k_X12_root_b54 hin  hJ  x1 x2 r4 _ gx1 gx2 gr4 hF)
        · have hF := hF.2 z9
          refine j_iconst hJ dX12_root_50 ?_
          refine j_goto hJ 55 dX12_root_51 (by decide) ?_
          exact j_sub hJ [1, 2, 3, 0] rfl (k_X12_root_b55 hin  hJ  x1 x2 r4 2 _ gx1 gx2 gr4 rk_2 hF)
  · have hF := hF.2 z3
    exact j_vret hJ rfl dX12_root_24 hF
set_option maxHeartbeats 4000000 in
set_option maxRecDepth 100000 in
theorem c_X12_root {l : Launch} {D : va_G} {cy : Nat → ClassId} {ad : Nat → Nat} (hin : jIn ad ksR.length) : jCN l D vwCl (tyR cy) cy ad ftR ksR (XtR ad) yX12_root (.code yX12_root cX12_root 5 none :: Om) ({ frames := 1, cells := 0, slots := 0, locals := 23 } : Room) 0 (W_X12_root ad) := by
  refine jCN_of (y := yX12_root) (cc := cX12_root) (nL := 5) (rk := 0) (rm := ({ frames := 1, cells := 0, slots := 0, locals := 23 } : Room)) (own := RX12) (tyR_ok cy) hin (XtR_ok ad) Om_good (by decide) rfl ?_
  intro Q av M hF
  obtain ⟨p1, p2, rfl, gp1, gp2, hF⟩ := hF
  refine ⟨Nat.le_of_ble_eq_true rfl, fun J hJ => ?_⟩
  show J 0 [(0, .ref (ad 0)), (1, .int (Ii p1)), (2, .int (Ii p2))] [] M
  unfold w_X12_root at hF
  refine j_aload_n hJ dX12_root_0 rfl 0 rfl ?_
  refine j_aload_n hJ dX12_root_1 rfl 0 rfl ?_
  refine j_iload_n hJ dX12_root_2 rfl 1 rfl ?_
  refine j_callVz hJ (c_X12_isObject (l := l) (D := D) (cy := cy) (ad := ad) hin) rfl om_1105 ⟨rfl, rfl, Nat.le_of_ble_eq_true rfl, Nat.le_of_ble_eq_true rfl⟩ [.int (Ii p1)] mv_X12_473 hd_X12_isObjectv kR_0 rfl rfl rfl (Nat.le_of_ble_eq_true rfl) dX12_root_3 ⟨p1, rfl, gp1, hF⟩ (fun r1 M2 gr1 qM2 => ?_)
  have hF := qM2 gr1
  refine j_if_eq hJ 13 (jz_ri gr1) dX12_root_6 (by decide) (fun z3 => ?_) (fun z3 => ?_)
  · have hF := hF.1 z3
    refine j_iconst hJ dX12_root_13 ?_
    exact j_sub hJ [0, 1, 2] rfl (k_X12_root_b14 hin  hJ  p1 p2 1 _ gp1 (jz_ri gp2) rk_1 hF)
  · have hF := hF.2 z3
    refine j_iconst hJ dX12_root_9 ?_
    refine j_goto hJ 14 dX12_root_10 (by decide) ?_
    exact j_sub hJ [0, 1, 2] rfl (k_X12_root_b14 hin  hJ  p1 p2 0 _ gp1 (jz_ri gp2) rk_0 hF)
def W_X12_look (ad : Nat → Nat) (Q : Int → MM → Prop) (av : List Value) (M : MM) : Prop := ∃ (p1 : Int) (p2 : Int) (p3 : Int) (p4 : Int), av = [.ref (ad 0), .int (Ii p1), .int (Ii p2), .long (Ll p3), .long (Ll p4)] ∧ ri_ p1 ∧ ri_ p2 ∧ rl_ p3 ∧ rl_ p4 ∧ w_X12_look  Q p1 p2 p3 p4 M
set_option maxHeartbeats 4000000 in
set_option maxRecDepth 100000 in
theorem k_X12_look_b252 {l : Launch} {D : va_G} {cy : Nat → ClassId} {ad : Nat → Nat} {Q : Int → MM → Prop} {J : Nat → List (Nat × Value) → List Value → MM → Prop} (hin : jIn ad ksR.length)   (hJ : jOk l D vwCl (tyR cy) cy ad ftR ksR (XtR ad) Om RX12 cX12_look 13 0 ({ frames := 0, cells := 0, slots := 0, locals := 0 } : Room) Q J)  : ∀ (x1 x2 x3 x5 x11 : Int) (M : MM), ri_ x1 → ri_ x2 → rl_ x3 → rl_ x5 → ri_ x11 → w_X12_look_b252  Q  x1 x2 x3 x5 x11 M → J 252 [(0, .ref (ad 0)), (1, .int (Ii x1)), (2, .int (Ii x2)), (3, .long (Ll x3)), (5, .long (Ll x5)), (11, .int (Ii x11))] [] M := by
  intro x1 x2 x3 x5 x11 M gx1 gx2 gx3 gx5 gx11 hF
  unfold w_X12_look_b252 at hF
  refine j_iload hJ dX12_look_252 5 rfl ?_
  refine j_aload_n hJ dX12_look_254 rfl 0 rfl ?_
  refine j_gr (e := 31) hJ kR_0 fR_15_39 fl_X12_162 dX12_look_255 rfl ?_
  refine j_iload_n hJ dX12_look_258 rfl 1 rfl ?_
  refine j_iald hJ gx1 kR_31 hF.1 hF.2.1 dX12_look_259 (fun v1 ev1 gv1 => ?_)
  have hF := hF.2.2 v1 ev1 gv1
  refine j_iadd hJ dX12_look_260 ?_
  have g2 := hF.1; have hF := hF.2
  refine j_istore (lv' := [(12, .int (Ii (x11 + v1))), (0, .ref (ad 0)), (1, .int (Ii x1)), (2, .int (Ii x2)), (3, .long (Ll x3)), (5, .long (Ll x5)), (11, .int (Ii x11))]) hJ dX12_look_261 (by decide) rfl ?_
  refine j_aload_n hJ dX12_look_263 rfl 1 rfl ?_
  refine j_gr (e := 32) hJ kR_0 fR_15_40 fl_X12_165 dX12_look_264 rfl ?_
  refine j_iload hJ dX12_look_267 0 rfl ?_
  refine j_aload_n hJ dX12_look_269 rfl 1 rfl ?_
  refine j_gi hJ kR_0 fR_15_29 rfl fl_X12_482 dX12_look_270 (fun v3 ev3 gv3 => ?_)
  have hF := hF v3 ev3 gv3
  refine j_iast hJ g2 gv3 kR_32 hF.1 hF.2.1 dX12_look_273 (fun M4 eM4 => ?_)
  have hF := hF.2.2 M4 eM4
  refine j_aload_n hJ dX12_look_274 rfl 1 rfl ?_
  refine j_gr (e := 33) hJ kR_0 fR_15_41 fl_X12_168 dX12_look_275 rfl ?_
  refine j_iload hJ dX12_look_278 0 rfl ?_
  refine j_iload_n hJ dX12_look_280 rfl 3 rfl ?_
  refine j_iast hJ g2 gx2 kR_33 hF.1 hF.2.1 dX12_look_281 (fun M5 eM5 => ?_)
  have hF := hF.2.2 M5 eM5
  refine j_aload_n hJ dX12_look_282 rfl 1 rfl ?_
  refine j_gr (e := 34) hJ kR_0 fR_15_42 fl_X12_171 dX12_look_283 rfl ?_
  refine j_iload hJ dX12_look_286 0 rfl ?_
  refine j_lload_n hJ dX12_look_288 rfl 4 rfl ?_
  refine j_last hJ g2 gx3 kR_34 hF.1 hF.2.1 dX12_look_289 (fun M6 eM6 => ?_)
  have hF := hF.2.2 M6 eM6
  refine j_aload_n hJ dX12_look_290 rfl 1 rfl ?_
  refine j_gr (e := 35) hJ kR_0 fR_15_43 fl_X12_174 dX12_look_291 rfl ?_
  refine j_iload hJ dX12_look_294 0 rfl ?_
  refine j_lload hJ dX12_look_296 5 rfl ?_
  refine j_last hJ g2 gx5 kR_35 hF.1 hF.2.1 dX12_look_298 (fun M7 eM7 => ?_)
  have hF := hF.2.2 M7 eM7
  refine j_aload_n hJ dX12_look_299 rfl 1 rfl ?_
  refine j_gr (e := 31) hJ kR_0 fR_15_39 fl_X12_162 dX12_look_300 rfl ?_
  refine j_iload_n hJ dX12_look_303 rfl 2 rfl ?_
  refine j_dup2_11 hJ dX12_look_304 rfl rfl ?_
  refine j_iald hJ gx1 kR_31 hF.1 hF.2.1 dX12_look_305 (fun v8 ev8 gv8 => ?_)
  have hF := hF.2.2 v8 ev8 gv8
  refine j_iconst hJ dX12_look_306 ?_
  refine j_iadd hJ dX12_look_307 ?_
  have g9 := hF.1; have hF := hF.2
  refine j_iast hJ gx1 g9 kR_31 hF.1 hF.2.1 dX12_look_308 (fun M10 eM10 => ?_)
  have hF := hF.2.2 M10 eM10
  exact j_vret hJ rfl dX12_look_309 hF
set_option maxHeartbeats 4000000 in
set_option maxRecDepth 100000 in
theorem k_X12_look_b163 {l : Launch} {D : va_G} {cy : Nat → ClassId} {ad : Nat → Nat} {Q : Int → MM → Prop} {J : Nat → List (Nat × Value) → List Value → MM → Prop} (hin : jIn ad ksR.length)   (hJ : jOk l D vwCl (tyR cy) cy ad ftR ksR (XtR ad) Om RX12 cX12_look 13 0 ({ frames := 0, cells := 0, slots := 0, locals := 0 } : Room) Q J)  : ∀ (x1 x2 x3 x5 x11 x12 : Int) (M : MM), ri_ x1 → ri_ x2 → rl_ x3 → rl_ x5 → ri_ x11 → ri_ x12 → w_X12_look_b163  Q  x1 x2 x3 x5 x11 x12 M → J 163 [(0, .ref (ad 0)), (1, .int (Ii x1)), (2, .int (Ii x2)), (3, .long (Ll x3)), (5, .long (Ll x5)), (11, .int (Ii x11)), (12, .int (Ii x12))] [] M := by
  have H9 : ∀ (n : Nat) (x1 x2 x3 x5 x11 x12 : Int) (M : MM), ri_ x1 → ri_ x2 → rl_ x3 → rl_ x5 → ri_ x11 → ri_ x12 → jit (fun _ _ _ _ _ _ _ => False) (wb_X12_look_b163  Q ) n x1 x2 x3 x5 x11 x12 M → J 163 [(0, .ref (ad 0)), (1, .int (Ii x1)), (2, .int (Ii x2)), (3, .long (Ll x3)), (5, .long (Ll x5)), (11, .int (Ii x11)), (12, .int (Ii x12))] [] M := by
    intro n
    induction n with
    | zero => intro x1 x2 x3 x5 x11 x12 M gx1 gx2 gx3 gx5 gx11 gx12 hF; exact False.elim hF
    | succ n ih =>
    intro x1 x2 x3 x5 x11 x12 M gx1 gx2 gx3 gx5 gx11 gx12 hF
    have hF : wb_X12_look_b163  Q  (jit (fun _ _ _ _ _ _ _ => False) (wb_X12_look_b163  Q ) n) x1 x2 x3 x5 x11 x12 M := hF
    unfold wb_X12_look_b163 at hF
    refine j_iload hJ dX12_look_163 6 rfl ?_
    refine j_iload hJ dX12_look_165 5 rfl ?_
    refine j_iconst hJ dX12_look_167 ?_
    refine j_iadd hJ dX12_look_168 ?_
    have g1 := hF.1; have hF := hF.2
    refine j_icmp_ge hJ 242 gx12 g1 dX12_look_169 (by decide) (fun z2 => ?_) (fun z2 => ?_)
    · have hF := hF.1 z2
      refine j_aload_n hJ dX12_look_242 rfl 0 rfl ?_
      refine j_gr (e := 31) hJ kR_0 fR_15_39 fl_X12_162 dX12_look_243 rfl ?_
      refine j_iload_n hJ dX12_look_246 rfl 1 rfl ?_
      refine j_dup2_11 hJ dX12_look_247 rfl rfl ?_
      refine j_iald hJ gx1 kR_31 hF.1 hF.2.1 dX12_look_248 (fun v3 ev3 gv3 => ?_)
      have hF := hF.2.2 v3 ev3 gv3
      refine j_iconst hJ dX12_look_249 ?_
      refine j_isub hJ dX12_look_250 ?_
      have g4 := hF.1; have hF := hF.2
      refine j_iast hJ gx1 g4 kR_31 hF.1 hF.2.1 dX12_look_251 (fun M5 eM5 => ?_)
      have hF := hF.2.2 M5 eM5
      exact j_sub hJ [0, 1, 2, 3, 4, 5] rfl (k_X12_look_b252 hin  hJ  x1 x2 x3 x5 x11 _ gx1 gx2 gx3 gx5 gx11 hF)
    · have hF := hF.2 z2
      refine j_aload_n hJ dX12_look_172 rfl 0 rfl ?_
      refine j_gr (e := 32) hJ kR_0 fR_15_40 fl_X12_165 dX12_look_173 rfl ?_
      refine j_iload hJ dX12_look_176 6 rfl ?_
      refine j_aload_n hJ dX12_look_178 rfl 0 rfl ?_
      refine j_gr (e := 32) hJ kR_0 fR_15_40 fl_X12_165 dX12_look_179 rfl ?_
      refine j_iload hJ dX12_look_182 6 rfl ?_
      refine j_iconst hJ dX12_look_184 ?_
      refine j_iadd hJ dX12_look_185 ?_
      have g6 := hF.1; have hF := hF.2
      refine j_iald hJ g6 kR_32 hF.1 hF.2.1 dX12_look_186 (fun v7 ev7 gv7 => ?_)
      have hF := hF.2.2 v7 ev7 gv7
      refine j_iast hJ gx12 gv7 kR_32 hF.1 hF.2.1 dX12_look_187 (fun M8 eM8 => ?_)
      have hF := hF.2.2 M8 eM8
      refine j_aload_n hJ dX12_look_188 rfl 0 rfl ?_
      refine j_gr (e := 33) hJ kR_0 fR_15_41 fl_X12_168 dX12_look_189 rfl ?_
      refine j_iload hJ dX12_look_192 6 rfl ?_
      refine j_aload_n hJ dX12_look_194 rfl 0 rfl ?_
      refine j_gr (e := 33) hJ kR_0 fR_15_41 fl_X12_168 dX12_look_195 rfl ?_
      refine j_iload hJ dX12_look_198 6 rfl ?_
      refine j_iconst hJ dX12_look_200 ?_
      refine j_iadd hJ dX12_look_201 ?_
      have g9 := hF.1; have hF := hF.2
      refine j_iald hJ g9 kR_33 hF.1 hF.2.1 dX12_look_202 (fun v10 ev10 gv10 => ?_)
      have hF := hF.2.2 v10 ev10 gv10
      refine j_iast hJ gx12 gv10 kR_33 hF.1 hF.2.1 dX12_look_203 (fun M11 eM11 => ?_)
      have hF := hF.2.2 M11 eM11
      refine j_aload_n hJ dX12_look_204 rfl 0 rfl ?_
      refine j_gr (e := 34) hJ kR_0 fR_15_42 fl_X12_171 dX12_look_205 rfl ?_
      refine j_iload hJ dX12_look_208 6 rfl ?_
      refine j_aload_n hJ dX12_look_210 rfl 0 rfl ?_
      refine j_gr (e := 34) hJ kR_0 fR_15_42 fl_X12_171 dX12_look_211 rfl ?_
      refine j_iload hJ dX12_look_214 6 rfl ?_
      refine j_iconst hJ dX12_look_216 ?_
      refine j_iadd hJ dX12_look_217 ?_
      have g12 := hF.1; have hF := hF.2
      refine j_lald hJ g12 kR_34 hF.1 hF.2.1 dX12_look_218 (fun v13 ev13 gv13 => ?_)
      have hF := hF.2.2 v13 ev13 gv13
      refine j_last hJ gx12 gv13 kR_34 hF.1 hF.2.1 dX12_look_219 (fun M14 eM14 => ?_)
      have hF := hF.2.2 M14 eM14
      refine j_aload_n hJ dX12_look_220 rfl 0 rfl ?_
      refine j_gr (e := 35) hJ kR_0 fR_15_43 fl_X12_174 dX12_look_221 rfl ?_
      refine j_iload hJ dX12_look_224 6 rfl ?_
      refine j_aload_n hJ dX12_look_226 rfl 0 rfl ?_
      refine j_gr (e := 35) hJ kR_0 fR_15_43 fl_X12_174 dX12_look_227 rfl ?_
      refine j_iload hJ dX12_look_230 6 rfl ?_
      refine j_iconst hJ dX12_look_232 ?_
      refine j_iadd hJ dX12_look_233 ?_
      have g15 := hF.1; have hF := hF.2
      refine j_lald hJ g15 kR_35 hF.1 hF.2.1 dX12_look_234 (fun v16 ev16 gv16 => ?_)
      have hF := hF.2.2 v16 ev16 gv16
      refine j_last hJ gx12 gv16 kR_35 hF.1 hF.2.1 dX12_look_235 (fun M17 eM17 => ?_)
      have hF := hF.2.2 M17 eM17
      refine j_iinc (lv' := [(12, .int (Ii (x12 + 1))), (0, .ref (ad 0)), (1, .int (Ii x1)), (2, .int (Ii x2)), (3, .long (Ll x3)), (5, .long (Ll x5)), (11, .int (Ii x11))]) (k := 6) hJ dX12_look_236 rfl (by decide) rfl ?_
      have g18 := hF.1; have hF := hF.2
      refine j_goto hJ 163 dX12_look_239 (by decide) ?_
      exact j_sub hJ [1, 2, 3, 4, 5, 6, 0] rfl (ih x1 x2 x3 x5 x11 (x12 + 1) _ gx1 gx2 gx3 gx5 gx11 g18 hF)
  intro x1 x2 x3 x5 x11 x12 M gx1 gx2 gx3 gx5 gx11 gx12 hF
  obtain ⟨n, hF⟩ := hF
  exact H9 n x1 x2 x3 x5 x11 x12 M gx1 gx2 gx3 gx5 gx11 gx12 hF
set_option maxHeartbeats 4000000 in
set_option maxRecDepth 100000 in
theorem k_X12_look_b134 {l : Launch} {D : va_G} {cy : Nat → ClassId} {ad : Nat → Nat} {Q : Int → MM → Prop} {J : Nat → List (Nat × Value) → List Value → MM → Prop} (hin : jIn ad ksR.length)   (hJ : jOk l D vwCl (tyR cy) cy ad ftR ksR (XtR ad) Om RX12 cX12_look 13 0 ({ frames := 0, cells := 0, slots := 0, locals := 0 } : Room) Q J)  : ∀ (x1 x2 x3 x5 s0 : Int) (M : MM), ri_ x1 → ri_ x2 → rl_ x3 → rl_ x5 → ri_ s0 → w_X12_look_b134  Q  x1 x2 x3 x5 s0 M → J 134 [(0, .ref (ad 0)), (1, .int (Ii x1)), (2, .int (Ii x2)), (3, .long (Ll x3)), (5, .long (Ll x5))] [.int (Ii s0)] M := by
  intro x1 x2 x3 x5 s0 M gx1 gx2 gx3 gx5 gs0 hF
  unfold w_X12_look_b134 at hF
  refine j_istore (lv' := [(10, .int (Ii s0)), (0, .ref (ad 0)), (1, .int (Ii x1)), (2, .int (Ii x2)), (3, .long (Ll x3)), (5, .long (Ll x5))]) hJ dX12_look_134 (by decide) rfl ?_
  refine j_iload hJ dX12_look_136 0 rfl ?_
  refine j_if_ne hJ 142 gs0 dX12_look_138 (by decide) (fun z1 => ?_) (fun z1 => ?_)
  · have hF := hF.1 z1
    refine j_bipush hJ dX12_look_142 (by decide) ?_
    refine j_iload_n hJ dX12_look_144 rfl 2 rfl ?_
    refine j_imul hJ dX12_look_145 ?_
    have g2 := hF.1; have hF := hF.2
    refine j_istore (lv' := [(11, .int (Ii (6 * x1))), (10, .int (Ii s0)), (0, .ref (ad 0)), (1, .int (Ii x1)), (2, .int (Ii x2)), (3, .long (Ll x3)), (5, .long (Ll x5))]) hJ dX12_look_146 (by decide) rfl ?_
    refine j_aload_n hJ dX12_look_148 rfl 2 rfl ?_
    refine j_gr (e := 31) hJ kR_0 fR_15_39 fl_X12_162 dX12_look_149 rfl ?_
    refine j_iload_n hJ dX12_look_152 rfl 3 rfl ?_
    refine j_iald hJ gx1 kR_31 hF.1 hF.2.1 dX12_look_153 (fun v3 ev3 gv3 => ?_)
    have hF := hF.2.2 v3 ev3 gv3
    refine j_bipush hJ dX12_look_154 (by decide) ?_
    refine j_icmp_ne hJ 252 gv3 rk_6 dX12_look_156 (by decide) (fun z4 => ?_) (fun z4 => ?_)
    · have hF := hF.1 z4
      exact j_sub hJ [2, 3, 4, 5, 6, 0] rfl (k_X12_look_b252 hin  hJ  x1 x2 x3 x5 (6 * x1) _ gx1 gx2 gx3 gx5 g2 hF)
    · have hF := hF.2 z4
      refine j_iload hJ dX12_look_159 0 rfl ?_
      refine j_istore (lv' := [(12, .int (Ii (6 * x1))), (11, .int (Ii (6 * x1))), (10, .int (Ii s0)), (0, .ref (ad 0)), (1, .int (Ii x1)), (2, .int (Ii x2)), (3, .long (Ll x3)), (5, .long (Ll x5))]) hJ dX12_look_161 (by decide) rfl ?_
      exact j_sub hJ [3, 4, 5, 6, 7, 1, 0] rfl (k_X12_look_b163 hin  hJ  x1 x2 x3 x5 (6 * x1) (6 * x1) _ gx1 gx2 gx3 gx5 g2 g2 hF)
  · have hF := hF.2 z1
    exact j_vret hJ rfl dX12_look_141 hF
set_option maxHeartbeats 4000000 in
set_option maxRecDepth 100000 in
theorem k_X12_look_b129 {l : Launch} {D : va_G} {cy : Nat → ClassId} {ad : Nat → Nat} {Q : Int → MM → Prop} {J : Nat → List (Nat × Value) → List Value → MM → Prop} (hin : jIn ad ksR.length)   (hJ : jOk l D vwCl (tyR cy) cy ad ftR ksR (XtR ad) Om RX12 cX12_look 13 0 ({ frames := 0, cells := 0, slots := 0, locals := 0 } : Room) Q J)  : ∀ (x1 x2 x3 x5 : Int) (M : MM), ri_ x1 → ri_ x2 → rl_ x3 → rl_ x5 → w_X12_look_b129  Q  x1 x2 x3 x5 M → J 129 [(0, .ref (ad 0)), (1, .int (Ii x1)), (2, .int (Ii x2)), (3, .long (Ll x3)), (5, .long (Ll x5))] [] M := by
  intro x1 x2 x3 x5 M gx1 gx2 gx3 gx5 hF
  unfold w_X12_look_b129 at hF
  refine j_iconst hJ dX12_look_129 ?_
  refine j_goto hJ 134 dX12_look_130 (by decide) ?_
  exact j_sub hJ [0, 1, 2, 3, 4] rfl (k_X12_look_b134 hin  hJ  x1 x2 x3 x5 1 _ gx1 gx2 gx3 gx5 rk_1 hF)
set_option maxHeartbeats 4000000 in
set_option maxRecDepth 100000 in
theorem k_X12_look_b133 {l : Launch} {D : va_G} {cy : Nat → ClassId} {ad : Nat → Nat} {Q : Int → MM → Prop} {J : Nat → List (Nat × Value) → List Value → MM → Prop} (hin : jIn ad ksR.length)   (hJ : jOk l D vwCl (tyR cy) cy ad ftR ksR (XtR ad) Om RX12 cX12_look 13 0 ({ frames := 0, cells := 0, slots := 0, locals := 0 } : Room) Q J)  : ∀ (x1 x2 x3 x5 : Int) (M : MM), ri_ x1 → ri_ x2 → rl_ x3 → rl_ x5 → w_X12_look_b133  Q  x1 x2 x3 x5 M → J 133 [(0, .ref (ad 0)), (1, .int (Ii x1)), (2, .int (Ii x2)), (3, .long (Ll x3)), (5, .long (Ll x5))] [] M := by
  intro x1 x2 x3 x5 M gx1 gx2 gx3 gx5 hF
  unfold w_X12_look_b133 at hF
  refine j_iconst hJ dX12_look_133 ?_
  exact j_sub hJ [0, 1, 2, 3, 4] rfl (k_X12_look_b134 hin  hJ  x1 x2 x3 x5 0 _ gx1 gx2 gx3 gx5 rk_0 hF)
set_option maxHeartbeats 4000000 in
set_option maxRecDepth 100000 in
theorem k_X12_look_b87 {l : Launch} {D : va_G} {cy : Nat → ClassId} {ad : Nat → Nat} {Q : Int → MM → Prop} {J : Nat → List (Nat × Value) → List Value → MM → Prop} (hin : jIn ad ksR.length)   (hJ : jOk l D vwCl (tyR cy) cy ad ftR ksR (XtR ad) Om RX12 cX12_look 13 0 ({ frames := 0, cells := 0, slots := 0, locals := 0 } : Room) Q J)  : ∀ (x1 x2 x3 x5 x7 : Int) (M : MM), ri_ x1 → ri_ x2 → rl_ x3 → rl_ x5 → ri_ x7 → w_X12_look_b87  Q  x1 x2 x3 x5 x7 M → J 87 [(0, .ref (ad 0)), (1, .int (Ii x1)), (2, .int (Ii x2)), (3, .long (Ll x3)), (5, .long (Ll x5)), (7, .int (Ii x7))] [] M := by
  intro x1 x2 x3 x5 x7 M gx1 gx2 gx3 gx5 gx7 hF
  unfold w_X12_look_b87 at hF
  refine j_aload_n hJ dX12_look_87 rfl 0 rfl ?_
  refine j_gr (e := 30) hJ kR_0 fR_15_38 fl_X12_159 dX12_look_88 rfl ?_
  refine j_iload_n hJ dX12_look_91 rfl 1 rfl ?_
  refine j_iald hJ gx1 kR_30 hF.1 hF.2.1 dX12_look_92 (fun v1 ev1 gv1 => ?_)
  have hF := hF.2.2 v1 ev1 gv1
  refine j_iconst hJ dX12_look_93 ?_
  refine j_icmp_ne hJ 133 gv1 rk_3 dX12_look_94 (by decide) (fun z2 => ?_) (fun z2 => ?_)
  · have hF := hF.1 z2
    exact j_sub hJ [0, 1, 2, 3, 4] rfl (k_X12_look_b133 hin  hJ  x1 x2 x3 x5 _ gx1 gx2 gx3 gx5 hF)
  · have hF := hF.2 z2
    refine j_iload hJ dX12_look_97 5 rfl ?_
    refine j_if_eq hJ 122 gx7 dX12_look_99 (by decide) (fun z3 => ?_) (fun z3 => ?_)
    · have hF := hF.1 z3
      refine j_lload hJ dX12_look_122 4 rfl ?_
      refine j_lload_n hJ dX12_look_124 rfl 3 rfl ?_
      refine j_lcmp_le hJ 133 gx5 gx3 dX12_look_125 dX12_look_126 (by decide) (fun z4 => ?_) (fun z4 => ?_)
      · have hF := hF.1 z4
        exact j_sub hJ [0, 1, 2, 3, 4] rfl (k_X12_look_b133 hin  hJ  x1 x2 x3 x5 _ gx1 gx2 gx3 gx5 hF)
      · have hF := hF.2 z4
        exact j_sub hJ [0, 1, 2, 3, 4] rfl (k_X12_look_b129 hin  hJ  x1 x2 x3 x5 _ gx1 gx2 gx3 gx5 hF)
    · have hF := hF.2 z3
      refine j_lload_n hJ dX12_look_102 rfl 3 rfl ?_
      refine j_ldc2 hJ (-1) om_1068 (by decide) dX12_look_103 ?_
      refine j_lcmp_ne hJ 133 gx3 lk_m1 dX12_look_106 dX12_look_107 (by decide) (fun z5 => ?_) (fun z5 => ?_)
      · have hF := hF.1 z5
        exact j_sub hJ [0, 1, 2, 3, 4] rfl (k_X12_look_b133 hin  hJ  x1 x2 x3 x5 _ gx1 gx2 gx3 gx5 hF)
      · have hF := hF.2 z5
        refine j_lload hJ dX12_look_110 4 rfl ?_
        refine j_ldc2 hJ (-1) om_1068 (by decide) dX12_look_112 ?_
        refine j_lcmp_eq hJ 133 gx5 lk_m1 dX12_look_115 dX12_look_116 (by decide) (fun z6 => ?_) (fun z6 => ?_)
        · have hF := hF.1 z6
          exact j_sub hJ [0, 1, 2, 3, 4] rfl (k_X12_look_b133 hin  hJ  x1 x2 x3 x5 _ gx1 gx2 gx3 gx5 hF)
        · have hF := hF.2 z6
          refine j_goto hJ 129 dX12_look_119 (by decide) ?_
          exact j_sub hJ [0, 1, 2, 3, 4] rfl (k_X12_look_b129 hin  hJ  x1 x2 x3 x5 _ gx1 gx2 gx3 gx5 hF)
set_option maxHeartbeats 4000000 in
set_option maxRecDepth 100000 in
theorem k_X12_look_b62 {l : Launch} {D : va_G} {cy : Nat → ClassId} {ad : Nat → Nat} {Q : Int → MM → Prop} {J : Nat → List (Nat × Value) → List Value → MM → Prop} (hin : jIn ad ksR.length)   (hJ : jOk l D vwCl (tyR cy) cy ad ftR ksR (XtR ad) Om RX12 cX12_look 13 0 ({ frames := 0, cells := 0, slots := 0, locals := 0 } : Room) Q J)  : ∀ (x1 x2 x3 x5 x7 x8 : Int) (M : MM), ri_ x1 → ri_ x2 → rl_ x3 → rl_ x5 → ri_ x7 → rl_ x8 → w_X12_look_b62  Q  x1 x2 x3 x5 x7 x8 M → J 62 [(0, .ref (ad 0)), (1, .int (Ii x1)), (2, .int (Ii x2)), (3, .long (Ll x3)), (5, .long (Ll x5)), (7, .int (Ii x7)), (8, .long (Ll x8))] [] M := by
  intro x1 x2 x3 x5 x7 x8 M gx1 gx2 gx3 gx5 gx7 gx8 hF
  unfold w_X12_look_b62 at hF
  refine j_aload_n hJ dX12_look_62 rfl 0 rfl ?_
  refine j_gr (e := 30) hJ kR_0 fR_15_38 fl_X12_159 dX12_look_63 rfl ?_
  refine j_iload_n hJ dX12_look_66 rfl 1 rfl ?_
  refine j_iald hJ gx1 kR_30 hF.1 hF.2.1 dX12_look_67 (fun v1 ev1 gv1 => ?_)
  have hF := hF.2.2 v1 ev1 gv1
  refine j_iconst hJ dX12_look_68 ?_
  refine j_icmp_ne hJ 87 gv1 rk_2 dX12_look_69 (by decide) (fun z2 => ?_) (fun z2 => ?_)
  · have hF := hF.1 z2
    exact j_sub hJ [0, 1, 2, 3, 4, 5] rfl (k_X12_look_b87 hin  hJ  x1 x2 x3 x5 x7 _ gx1 gx2 gx3 gx5 gx7 hF)
  · have hF := hF.2 z2
    refine j_lload hJ dX12_look_72 4 rfl ?_
    refine j_lload hJ dX12_look_74 6 rfl ?_
    refine j_lcmp_ne hJ 87 gx5 gx8 dX12_look_76 dX12_look_77 (by decide) (fun z3 => ?_) (fun z3 => ?_)
    · have hF := hF.1 z3
      exact j_sub hJ [0, 1, 2, 3, 4, 5] rfl (k_X12_look_b87 hin  hJ  x1 x2 x3 x5 x7 _ gx1 gx2 gx3 gx5 gx7 hF)
    · have hF := hF.2 z3
      refine j_lload_n hJ dX12_look_80 rfl 3 rfl ?_
      refine j_lload hJ dX12_look_81 6 rfl ?_
      refine j_lcmp_ne hJ 129 gx3 gx8 dX12_look_83 dX12_look_84 (by decide) (fun z4 => ?_) (fun z4 => ?_)
      · have hF := hF.1 z4
        exact j_sub hJ [0, 1, 2, 3, 4] rfl (k_X12_look_b129 hin  hJ  x1 x2 x3 x5 _ gx1 gx2 gx3 gx5 hF)
      · have hF := hF.2 z4
        exact j_sub hJ [0, 1, 2, 3, 4, 5] rfl (k_X12_look_b87 hin  hJ  x1 x2 x3 x5 x7 _ gx1 gx2 gx3 gx5 gx7 hF)
set_option maxHeartbeats 4000000 in
set_option maxRecDepth 100000 in
theorem k_X12_look_b34 {l : Launch} {D : va_G} {cy : Nat → ClassId} {ad : Nat → Nat} {Q : Int → MM → Prop} {J : Nat → List (Nat × Value) → List Value → MM → Prop} (hin : jIn ad ksR.length)   (hJ : jOk l D vwCl (tyR cy) cy ad ftR ksR (XtR ad) Om RX12 cX12_look 13 0 ({ frames := 0, cells := 0, slots := 0, locals := 0 } : Room) Q J)  : ∀ (x1 x2 x3 x5 x7 s0 : Int) (M : MM), ri_ x1 → ri_ x2 → rl_ x3 → rl_ x5 → ri_ x7 → rl_ s0 → w_X12_look_b34  Q  x1 x2 x3 x5 x7 s0 M → J 34 [(0, .ref (ad 0)), (1, .int (Ii x1)), (2, .int (Ii x2)), (3, .long (Ll x3)), (5, .long (Ll x5)), (7, .int (Ii x7))] [.long (Ll s0)] M := by
  intro x1 x2 x3 x5 x7 s0 M gx1 gx2 gx3 gx5 gx7 gs0 hF
  unfold w_X12_look_b34 at hF
  refine j_lstore (lv' := [(8, .long (Ll s0)), (0, .ref (ad 0)), (1, .int (Ii x1)), (2, .int (Ii x2)), (3, .long (Ll x3)), (5, .long (Ll x5)), (7, .int (Ii x7))]) hJ dX12_look_34 (by decide) rfl ?_
  refine j_aload_n hJ dX12_look_36 rfl 1 rfl ?_
  refine j_gr (e := 30) hJ kR_0 fR_15_38 fl_X12_159 dX12_look_37 rfl ?_
  refine j_iload_n hJ dX12_look_40 rfl 2 rfl ?_
  refine j_iald hJ gx1 kR_30 hF.1 hF.2.1 dX12_look_41 (fun v1 ev1 gv1 => ?_)
  have hF := hF.2.2 v1 ev1 gv1
  refine j_if_eq hJ 129 gv1 dX12_look_42 (by decide) (fun z2 => ?_) (fun z2 => ?_)
  · have hF := hF.1 z2
    exact j_sub hJ [1, 2, 3, 4, 5] rfl (k_X12_look_b129 hin  hJ  x1 x2 x3 x5 _ gx1 gx2 gx3 gx5 hF)
  · have hF := hF.2 z2
    refine j_aload_n hJ dX12_look_45 rfl 1 rfl ?_
    refine j_gr (e := 30) hJ kR_0 fR_15_38 fl_X12_159 dX12_look_46 rfl ?_
    refine j_iload_n hJ dX12_look_49 rfl 2 rfl ?_
    refine j_iald hJ gx1 kR_30 hF.1 hF.2.1 dX12_look_50 (fun v3 ev3 gv3 => ?_)
    have hF := hF.2.2 v3 ev3 gv3
    refine j_iconst hJ dX12_look_51 ?_
    refine j_icmp_ne hJ 62 gv3 rk_1 dX12_look_52 (by decide) (fun z4 => ?_) (fun z4 => ?_)
    · have hF := hF.1 z4
      exact j_sub hJ [1, 2, 3, 4, 5, 6, 0] rfl (k_X12_look_b62 hin  hJ  x1 x2 x3 x5 x7 s0 _ gx1 gx2 gx3 gx5 gx7 gs0 hF)
    · have hF := hF.2 z4
      refine j_lload hJ dX12_look_55 5 rfl ?_
      refine j_lload_n hJ dX12_look_57 rfl 4 rfl ?_
      refine j_lcmp_ne hJ 129 gx5 gx3 dX12_look_58 dX12_look_59 (by decide) (fun z5 => ?_) (fun z5 => ?_)
      · have hF := hF.1 z5
        exact j_sub hJ [1, 2, 3, 4, 5] rfl (k_X12_look_b129 hin  hJ  x1 x2 x3 x5 _ gx1 gx2 gx3 gx5 hF)
      · have hF := hF.2 z5
        exact j_sub hJ [1, 2, 3, 4, 5, 6, 0] rfl (k_X12_look_b62 hin  hJ  x1 x2 x3 x5 x7 s0 _ gx1 gx2 gx3 gx5 gx7 gs0 hF)
set_option maxHeartbeats 4000000 in
set_option maxRecDepth 100000 in
theorem k_X12_look_b20 {l : Launch} {D : va_G} {cy : Nat → ClassId} {ad : Nat → Nat} {Q : Int → MM → Prop} {J : Nat → List (Nat × Value) → List Value → MM → Prop} (hin : jIn ad ksR.length)   (hJ : jOk l D vwCl (tyR cy) cy ad ftR ksR (XtR ad) Om RX12 cX12_look 13 0 ({ frames := 0, cells := 0, slots := 0, locals := 0 } : Room) Q J)  : ∀ (x1 x2 x3 x5 s0 : Int) (M : MM), ri_ x1 → ri_ x2 → rl_ x3 → rl_ x5 → ri_ s0 → w_X12_look_b20  Q  x1 x2 x3 x5 s0 M → J 20 [(0, .ref (ad 0)), (1, .int (Ii x1)), (2, .int (Ii x2)), (3, .long (Ll x3)), (5, .long (Ll x5))] [.int (Ii s0)] M := by
  intro x1 x2 x3 x5 s0 M gx1 gx2 gx3 gx5 gs0 hF
  unfold w_X12_look_b20 at hF
  refine j_istore (lv' := [(7, .int (Ii s0)), (0, .ref (ad 0)), (1, .int (Ii x1)), (2, .int (Ii x2)), (3, .long (Ll x3)), (5, .long (Ll x5))]) hJ dX12_look_20 (by decide) rfl ?_
  refine j_iload hJ dX12_look_22 0 rfl ?_
  refine j_if_eq hJ 33 gs0 dX12_look_24 (by decide) (fun z1 => ?_) (fun z1 => ?_)
  · have hF := hF.1 z1
    refine j_lconst (x := 0) hJ dX12_look_33 rfl ?_
    exact j_sub hJ [1, 2, 3, 4, 5, 0] rfl (k_X12_look_b34 hin  hJ  x1 x2 x3 x5 s0 0 _ gx1 gx2 gx3 gx5 gs0 lkm_0 hF)
  · have hF := hF.2 z1
    refine j_ldc2 hJ (-1) om_1068 (by decide) dX12_look_27 ?_
    refine j_goto hJ 34 dX12_look_30 (by decide) ?_
    exact j_sub hJ [1, 2, 3, 4, 5, 0] rfl (k_X12_look_b34 hin  hJ  x1 x2 x3 x5 s0 (-1) _ gx1 gx2 gx3 gx5 gs0 lk_m1 hF)
set_option maxHeartbeats 4000000 in
set_option maxRecDepth 100000 in
theorem c_X12_look {l : Launch} {D : va_G} {cy : Nat → ClassId} {ad : Nat → Nat} (hin : jIn ad ksR.length) : jCN l D vwCl (tyR cy) cy ad ftR ksR (XtR ad) yX12_look (.code yX12_look cX12_look 13 none :: Om) ({ frames := 0, cells := 0, slots := 0, locals := 0 } : Room) 0 (W_X12_look ad) := by
  refine jCN_of (y := yX12_look) (cc := cX12_look) (nL := 13) (rk := 0) (rm := ({ frames := 0, cells := 0, slots := 0, locals := 0 } : Room)) (own := RX12) (tyR_ok cy) hin (XtR_ok ad) Om_good (by decide) rfl ?_
  intro Q av M hF
  obtain ⟨p1, p2, p3, p4, rfl, gp1, gp2, gp3, gp4, hF⟩ := hF
  refine ⟨Nat.le_of_ble_eq_true rfl, fun J hJ => ?_⟩
  show J 0 [(0, .ref (ad 0)), (1, .int (Ii p1)), (2, .int (Ii p2)), (3, .long (Ll p3)), (5, .long (Ll p4))] [] M
  unfold w_X12_look at hF
  refine j_aload_n hJ dX12_look_0 rfl 0 rfl ?_
  refine j_gr (e := 12) hJ kR_0 fR_15_13 fl_X12_103 dX12_look_1 rfl ?_
  refine j_aload_n hJ dX12_look_4 rfl 0 rfl ?_
  refine j_gr (e := 29) hJ kR_0 fR_15_37 fl_X12_156 dX12_look_5 rfl ?_
  refine j_iload_n hJ dX12_look_8 rfl 1 rfl ?_
  refine j_iald hJ gp1 kR_29 hF.1 hF.2.1 dX12_look_9 (fun v1 ev1 gv1 => ?_)
  have hF := hF.2.2 v1 ev1 gv1
  refine j_iald hJ gv1 kR_12 hF.1 hF.2.1 dX12_look_10 (fun v2 ev2 gv2 => ?_)
  have hF := hF.2.2 v2 ev2 gv2
  refine j_iconst hJ dX12_look_11 ?_
  refine j_icmp_ne hJ 19 gv2 rk_5 dX12_look_12 (by decide) (fun z3 => ?_) (fun z3 => ?_)
  · have hF := hF.1 z3
    refine j_iconst hJ dX12_look_19 ?_
    exact j_sub hJ [0, 1, 2, 3, 4] rfl (k_X12_look_b20 hin  hJ  p1 p2 p3 p4 0 _ gp1 gp2 gp3 gp4 rk_0 hF)
  · have hF := hF.2 z3
    refine j_iconst hJ dX12_look_15 ?_
    refine j_goto hJ 20 dX12_look_16 (by decide) ?_
    exact j_sub hJ [0, 1, 2, 3, 4] rfl (k_X12_look_b20 hin  hJ  p1 p2 p3 p4 1 _ gp1 gp2 gp3 gp4 rk_1 hF)
def W_X12_write (ad : Nat → Nat) (Q : Int → MM → Prop) (av : List Value) (M : MM) : Prop := ∃ (p1 : Int) (p2 : Int) (p3 : Int), av = [.ref (ad 0), .int (Ii p1), .int (Ii p2), .long (Ll p3)] ∧ ri_ p1 ∧ ri_ p2 ∧ rl_ p3 ∧ w_X12_write  Q p1 p2 p3 M
set_option maxHeartbeats 4000000 in
set_option maxRecDepth 100000 in
theorem k_X12_write_b290 {l : Launch} {D : va_G} {cy : Nat → ClassId} {ad : Nat → Nat} {Q : Int → MM → Prop} {J : Nat → List (Nat × Value) → List Value → MM → Prop} (hin : jIn ad ksR.length)   (hJ : jOk l D vwCl (tyR cy) cy ad ftR ksR (XtR ad) Om RX12 cX12_write 9 0 ({ frames := 1, cells := 0, slots := 0, locals := 32 } : Room) Q J) {K253 : Int → Int → Int → Int → Int → MM → Prop} (hK253 : ∀ (x1 x3 x5 x7 x8 : Int) (M : MM), ri_ x1 → rl_ x3 → rl_ x5 → ri_ x7 → ri_ x8 → K253 x1 x3 x5 x7 x8 M → J 253 [(0, .ref (ad 0)), (1, .int (Ii x1)), (3, .long (Ll x3)), (5, .long (Ll x5)), (7, .int (Ii x7)), (8, .int (Ii x8))] [] M) : ∀ (x1 x3 x5 x7 x8 : Int) (M : MM), ri_ x1 → rl_ x3 → rl_ x5 → ri_ x7 → ri_ x8 → w_X12_write_b290  Q K253 x1 x3 x5 x7 x8 M → J 290 [(0, .ref (ad 0)), (1, .int (Ii x1)), (3, .long (Ll x3)), (5, .long (Ll x5)), (7, .int (Ii x7)), (8, .int (Ii x8))] [] M := by
  intro x1 x3 x5 x7 x8 M gx1 gx3 gx5 gx7 gx8 hF
  unfold w_X12_write_b290 at hF
  refine j_iinc (lv' := [(8, .int (Ii (x8 + 1))), (0, .ref (ad 0)), (1, .int (Ii x1)), (3, .long (Ll x3)), (5, .long (Ll x5)), (7, .int (Ii x7))]) (k := 5) hJ dX12_write_290 rfl (by decide) rfl ?_
  have g1 := hF.1; have hF := hF.2
  refine j_goto hJ 253 dX12_write_293 (by decide) ?_
  exact j_sub hJ [1, 2, 3, 4, 5, 0] rfl (hK253 x1 x3 x5 x7 (x8 + 1) _ gx1 gx3 gx5 gx7 g1 hF)
set_option maxHeartbeats 4000000 in
set_option maxRecDepth 100000 in
theorem k_X12_write_b253 {l : Launch} {D : va_G} {cy : Nat → ClassId} {ad : Nat → Nat} {Q : Int → MM → Prop} {J : Nat → List (Nat × Value) → List Value → MM → Prop} (hin : jIn ad ksR.length)   (hJ : jOk l D vwCl (tyR cy) cy ad ftR ksR (XtR ad) Om RX12 cX12_write 9 0 ({ frames := 1, cells := 0, slots := 0, locals := 32 } : Room) Q J)  : ∀ (x1 x3 x5 x7 x8 : Int) (M : MM), ri_ x1 → rl_ x3 → rl_ x5 → ri_ x7 → ri_ x8 → w_X12_write_b253  Q  x1 x3 x5 x7 x8 M → J 253 [(0, .ref (ad 0)), (1, .int (Ii x1)), (3, .long (Ll x3)), (5, .long (Ll x5)), (7, .int (Ii x7)), (8, .int (Ii x8))] [] M := by
  have H9 : ∀ (n : Nat) (x1 x3 x5 x7 x8 : Int) (M : MM), ri_ x1 → rl_ x3 → rl_ x5 → ri_ x7 → ri_ x8 → jit (fun _ _ _ _ _ _ => False) (wb_X12_write_b253  Q ) n x1 x3 x5 x7 x8 M → J 253 [(0, .ref (ad 0)), (1, .int (Ii x1)), (3, .long (Ll x3)), (5, .long (Ll x5)), (7, .int (Ii x7)), (8, .int (Ii x8))] [] M := by
    intro n
    induction n with
    | zero => intro x1 x3 x5 x7 x8 M gx1 gx3 gx5 gx7 gx8 hF; exact False.elim hF
    | succ n ih =>
    intro x1 x3 x5 x7 x8 M gx1 gx3 gx5 gx7 gx8 hF
    have hF : wb_X12_write_b253  Q  (jit (fun _ _ _ _ _ _ => False) (wb_X12_write_b253  Q ) n) x1 x3 x5 x7 x8 M := hF
    unfold wb_X12_write_b253 at hF
    refine j_iload hJ dX12_write_253 5 rfl ?_
    refine j_aload_n hJ dX12_write_255 rfl 0 rfl ?_
    refine j_gi hJ kR_0 fR_15_44 rfl fl_X12_485 dX12_write_256 (fun v1 ev1 gv1 => ?_)
    have hF := hF v1 ev1 gv1
    refine j_icmp_ge hJ 296 gx8 gv1 dX12_write_259 (by decide) (fun z2 => ?_) (fun z2 => ?_)
    · have hF := hF.1 z2
      refine j_aload_n hJ dX12_write_296 rfl 0 rfl ?_
      refine j_dup hJ dX12_write_297 rfl ?_
      refine j_gi hJ kR_0 fR_15_29 rfl fl_X12_482 dX12_write_298 (fun v3 ev3 gv3 => ?_)
      have hF := hF v3 ev3 gv3
      refine j_iconst hJ dX12_write_301 ?_
      refine j_iadd hJ dX12_write_302 ?_
      have g4 := hF.1; have hF := hF.2
      refine j_pi hJ g4 kR_0 fR_15_29 rfl fp_X12_482 dX12_write_303 (fun M5 eM5 => ?_)
      have hF := hF M5 eM5
      exact j_vret hJ rfl dX12_write_306 hF
    · have hF := hF.2 z2
      refine j_iload hJ dX12_write_262 4 rfl ?_
      refine j_iconst hJ dX12_write_264 ?_
      refine j_icmp_eq hJ 290 gx7 rk_m1 dX12_write_265 (by decide) (fun z6 => ?_) (fun z6 => ?_)
      · have hF := hF.1 z6
        exact j_sub hJ [0, 1, 2, 3, 4, 5] rfl (k_X12_write_b290 hin  hJ ih x1 x3 x5 x7 x8 _ gx1 gx3 gx5 gx7 gx8 hF)
      · have hF := hF.2 z6
        refine j_aload_n hJ dX12_write_268 rfl 0 rfl ?_
        refine j_gr (e := 29) hJ kR_0 fR_15_37 fl_X12_156 dX12_write_269 rfl ?_
        refine j_iload hJ dX12_write_272 5 rfl ?_
        refine j_iald hJ gx8 kR_29 hF.1 hF.2.1 dX12_write_274 (fun v7 ev7 gv7 => ?_)
        have hF := hF.2.2 v7 ev7 gv7
        refine j_iload hJ dX12_write_275 4 rfl ?_
        refine j_icmp_ne hJ 290 gv7 gx7 dX12_write_277 (by decide) (fun z8 => ?_) (fun z8 => ?_)
        · have hF := hF.1 z8
          exact j_sub hJ [0, 1, 2, 3, 4, 5] rfl (k_X12_write_b290 hin  hJ ih x1 x3 x5 x7 x8 _ gx1 gx3 gx5 gx7 gx8 hF)
        · have hF := hF.2 z8
          refine j_aload_n hJ dX12_write_280 rfl 0 rfl ?_
          refine j_iload hJ dX12_write_281 5 rfl ?_
          refine j_iload_n hJ dX12_write_283 rfl 1 rfl ?_
          refine j_lload hJ dX12_write_284 3 rfl ?_
          refine j_lload_n hJ dX12_write_286 rfl 2 rfl ?_
          refine j_callVv hJ (c_X12_look (l := l) (D := D) (cy := cy) (ad := ad) hin) rfl om_1113 ⟨rfl, rfl, Nat.le_of_ble_eq_true rfl, Nat.le_of_ble_eq_true rfl⟩ [.int (Ii x8), .int (Ii x1), .long (Ll x5), .long (Ll x3)] mv_X12_488 hd_X12_lookv kR_0 rfl rfl rfl (Nat.le_of_ble_eq_true rfl) dX12_write_287 ⟨x8, x1, x5, x3, rfl, gx8, gx1, gx5, gx3, hF⟩ (fun M10 qM10 => ?_)
          have hF := qM10
          exact j_sub hJ [0, 1, 2, 3, 4, 5] rfl (k_X12_write_b290 hin  hJ ih x1 x3 x5 x7 x8 _ gx1 gx3 gx5 gx7 gx8 hF)
  intro x1 x3 x5 x7 x8 M gx1 gx3 gx5 gx7 gx8 hF
  obtain ⟨n, hF⟩ := hF
  exact H9 n x1 x3 x5 x7 x8 M gx1 gx3 gx5 gx7 gx8 hF
set_option maxHeartbeats 4000000 in
set_option maxRecDepth 100000 in
theorem k_X12_write_b248 {l : Launch} {D : va_G} {cy : Nat → ClassId} {ad : Nat → Nat} {Q : Int → MM → Prop} {J : Nat → List (Nat × Value) → List Value → MM → Prop} (hin : jIn ad ksR.length)   (hJ : jOk l D vwCl (tyR cy) cy ad ftR ksR (XtR ad) Om RX12 cX12_write 9 0 ({ frames := 1, cells := 0, slots := 0, locals := 32 } : Room) Q J)  : ∀ (x1 x3 x5 s0 : Int) (M : MM), ri_ x1 → rl_ x3 → rl_ x5 → ri_ s0 → w_X12_write_b248  Q  x1 x3 x5 s0 M → J 248 [(0, .ref (ad 0)), (1, .int (Ii x1)), (3, .long (Ll x3)), (5, .long (Ll x5))] [.int (Ii s0)] M := by
  intro x1 x3 x5 s0 M gx1 gx3 gx5 gs0 hF
  unfold w_X12_write_b248 at hF
  refine j_istore (lv' := [(7, .int (Ii s0)), (0, .ref (ad 0)), (1, .int (Ii x1)), (3, .long (Ll x3)), (5, .long (Ll x5))]) hJ dX12_write_248 (by decide) rfl ?_
  refine j_iconst hJ dX12_write_250 ?_
  refine j_istore (lv' := [(8, .int (Ii 0)), (7, .int (Ii s0)), (0, .ref (ad 0)), (1, .int (Ii x1)), (3, .long (Ll x3)), (5, .long (Ll x5))]) hJ dX12_write_251 (by decide) rfl ?_
  exact j_sub hJ [2, 3, 4, 5, 1, 0] rfl (k_X12_write_b253 hin  hJ  x1 x3 x5 s0 0 _ gx1 gx3 gx5 gs0 rk_0 hF)
set_option maxHeartbeats 4000000 in
set_option maxRecDepth 100000 in
theorem k_X12_write_b157 {l : Launch} {D : va_G} {cy : Nat → ClassId} {ad : Nat → Nat} {Q : Int → MM → Prop} {J : Nat → List (Nat × Value) → List Value → MM → Prop} (hin : jIn ad ksR.length)   (hJ : jOk l D vwCl (tyR cy) cy ad ftR ksR (XtR ad) Om RX12 cX12_write 9 0 ({ frames := 1, cells := 0, slots := 0, locals := 32 } : Room) Q J)  : ∀ (x1 x2 x3 x5 : Int) (M : MM), ri_ x1 → ri_ x2 → rl_ x3 → rl_ x5 → w_X12_write_b157  Q  x1 x2 x3 x5 M → J 157 [(0, .ref (ad 0)), (1, .int (Ii x1)), (2, .int (Ii x2)), (3, .long (Ll x3)), (5, .long (Ll x5))] [] M := by
  intro x1 x2 x3 x5 M gx1 gx2 gx3 gx5 hF
  unfold w_X12_write_b157 at hF
  refine j_aload_n hJ dX12_write_157 rfl 0 rfl ?_
  refine j_gr (e := 25) hJ kR_0 fR_15_32 fl_X12_144 dX12_write_158 rfl ?_
  refine j_aload_n hJ dX12_write_161 rfl 0 rfl ?_
  refine j_gi hJ kR_0 fR_15_36 rfl fl_X12_479 dX12_write_162 (fun v1 ev1 gv1 => ?_)
  have hF := hF v1 ev1 gv1
  refine j_iload_n hJ dX12_write_165 rfl 1 rfl ?_
  refine j_iast hJ gv1 gx1 kR_25 hF.1 hF.2.1 dX12_write_166 (fun M2 eM2 => ?_)
  have hF := hF.2.2 M2 eM2
  refine j_aload_n hJ dX12_write_167 rfl 0 rfl ?_
  refine j_gr (e := 26) hJ kR_0 fR_15_33 fl_X12_147 dX12_write_168 rfl ?_
  refine j_aload_n hJ dX12_write_171 rfl 0 rfl ?_
  refine j_gi hJ kR_0 fR_15_36 rfl fl_X12_479 dX12_write_172 (fun v3 ev3 gv3 => ?_)
  have hF := hF v3 ev3 gv3
  refine j_iload_n hJ dX12_write_175 rfl 2 rfl ?_
  refine j_iast hJ gv3 gx2 kR_26 hF.1 hF.2.1 dX12_write_176 (fun M4 eM4 => ?_)
  have hF := hF.2.2 M4 eM4
  refine j_aload_n hJ dX12_write_177 rfl 0 rfl ?_
  refine j_gr (e := 27) hJ kR_0 fR_15_34 fl_X12_150 dX12_write_178 rfl ?_
  refine j_aload_n hJ dX12_write_181 rfl 0 rfl ?_
  refine j_gi hJ kR_0 fR_15_36 rfl fl_X12_479 dX12_write_182 (fun v5 ev5 gv5 => ?_)
  have hF := hF v5 ev5 gv5
  refine j_aload_n hJ dX12_write_185 rfl 0 rfl ?_
  refine j_gi hJ kR_0 fR_15_29 rfl fl_X12_482 dX12_write_186 (fun v6 ev6 gv6 => ?_)
  have hF := hF v6 ev6 gv6
  refine j_iast hJ gv5 gv6 kR_27 hF.1 hF.2.1 dX12_write_189 (fun M7 eM7 => ?_)
  have hF := hF.2.2 M7 eM7
  refine j_aload_n hJ dX12_write_190 rfl 0 rfl ?_
  refine j_gr (e := 28) hJ kR_0 fR_15_35 fl_X12_153 dX12_write_191 rfl ?_
  refine j_aload_n hJ dX12_write_194 rfl 0 rfl ?_
  refine j_gi hJ kR_0 fR_15_36 rfl fl_X12_479 dX12_write_195 (fun v8 ev8 gv8 => ?_)
  have hF := hF v8 ev8 gv8
  refine j_lload hJ dX12_write_198 4 rfl ?_
  refine j_last hJ gv8 gx5 kR_28 hF.1 hF.2.1 dX12_write_200 (fun M9 eM9 => ?_)
  have hF := hF.2.2 M9 eM9
  refine j_aload_n hJ dX12_write_201 rfl 0 rfl ?_
  refine j_dup hJ dX12_write_202 rfl ?_
  refine j_gi hJ kR_0 fR_15_36 rfl fl_X12_479 dX12_write_203 (fun v10 ev10 gv10 => ?_)
  have hF := hF v10 ev10 gv10
  refine j_iconst hJ dX12_write_206 ?_
  refine j_iadd hJ dX12_write_207 ?_
  have g11 := hF.1; have hF := hF.2
  refine j_pi hJ g11 kR_0 fR_15_36 rfl fp_X12_479 dX12_write_208 (fun M12 eM12 => ?_)
  have hF := hF M12 eM12
  refine j_iload_n hJ dX12_write_211 rfl 1 rfl ?_
  refine j_iconst hJ dX12_write_212 ?_
  refine j_icmp_ne hJ 220 gx1 rk_m1 dX12_write_213 (by decide) (fun z13 => ?_) (fun z13 => ?_)
  · have hF := hF.1 z13
    refine j_aload_n hJ dX12_write_220 rfl 0 rfl ?_
    refine j_aload_n hJ dX12_write_221 rfl 0 rfl ?_
    refine j_gr (e := 19) hJ kR_0 fR_15_21 fl_X12_125 dX12_write_222 rfl ?_
    refine j_iload_n hJ dX12_write_225 rfl 1 rfl ?_
    refine j_iald hJ gx1 kR_19 hF.1 hF.2.1 dX12_write_226 (fun v14 ev14 gv14 => ?_)
    have hF := hF.2.2 v14 ev14 gv14
    refine j_callVz hJ (c_X12_isClass (l := l) (D := D) (cy := cy) (ad := ad) hin) rfl om_1064 ⟨rfl, rfl, Nat.le_of_ble_eq_true rfl, Nat.le_of_ble_eq_true rfl⟩ [.int (Ii v14)] mv_X12_416 hd_X12_isClassv kR_0 rfl rfl rfl (Nat.le_of_ble_eq_true rfl) dX12_write_227 ⟨v14, rfl, gv14, hF⟩ (fun r15 M16 gr15 qM16 => ?_)
    have hF := qM16 gr15
    refine j_if_eq hJ 247 (jz_ri gr15) dX12_write_230 (by decide) (fun z17 => ?_) (fun z17 => ?_)
    · have hF := hF.1 z17
      refine j_iconst hJ dX12_write_247 ?_
      exact j_sub hJ [0, 1, 3, 4] rfl (k_X12_write_b248 hin  hJ  x1 x3 x5 (-1) _ gx1 gx3 gx5 rk_m1 hF)
    · have hF := hF.2 z17
      refine j_aload_n hJ dX12_write_233 rfl 0 rfl ?_
      refine j_aload_n hJ dX12_write_234 rfl 0 rfl ?_
      refine j_gr (e := 19) hJ kR_0 fR_15_21 fl_X12_125 dX12_write_235 rfl ?_
      refine j_iload_n hJ dX12_write_238 rfl 1 rfl ?_
      refine j_iald hJ gx1 kR_19 hF.1 hF.2.1 dX12_write_239 (fun v18 ev18 gv18 => ?_)
      have hF := hF.2.2 v18 ev18 gv18
      refine j_iload_n hJ dX12_write_240 rfl 2 rfl ?_
      refine j_callVi hJ (c_X12_fieldOf (l := l) (D := D) (cy := cy) (ad := ad) hin) rfl om_1077 ⟨rfl, rfl, Nat.le_of_ble_eq_true rfl, Nat.le_of_ble_eq_true rfl⟩ [.int (Ii v18), .int (Ii x2)] mv_X12_441 hd_X12_fieldOfv kR_0 rfl rfl rfl (Nat.le_of_ble_eq_true rfl) dX12_write_241 ⟨v18, x2, rfl, gv18, gx2, hF⟩ (fun r19 M20 gr19 qM20 => ?_)
      have hF := qM20 gr19
      refine j_goto hJ 248 dX12_write_244 (by decide) ?_
      exact j_sub hJ [0, 1, 3, 4] rfl (k_X12_write_b248 hin  hJ  x1 x3 x5 r19 _ gx1 gx3 gx5 gr19 hF)
  · have hF := hF.2 z13
    refine j_iload_n hJ dX12_write_216 rfl 2 rfl ?_
    refine j_goto hJ 248 dX12_write_217 (by decide) ?_
    exact j_sub hJ [0, 1, 3, 4] rfl (k_X12_write_b248 hin  hJ  x1 x3 x5 x2 _ gx1 gx3 gx5 gx2 hF)
set_option maxHeartbeats 4000000 in
set_option maxRecDepth 100000 in
theorem k_X12_write_b70 {l : Launch} {D : va_G} {cy : Nat → ClassId} {ad : Nat → Nat} {Q : Int → MM → Prop} {J : Nat → List (Nat × Value) → List Value → MM → Prop} (hin : jIn ad ksR.length)   (hJ : jOk l D vwCl (tyR cy) cy ad ftR ksR (XtR ad) Om RX12 cX12_write 9 0 ({ frames := 1, cells := 0, slots := 0, locals := 32 } : Room) Q J)  : ∀ (x1 x2 x3 x5 x7 : Int) (M : MM), ri_ x1 → ri_ x2 → rl_ x3 → rl_ x5 → ri_ x7 → w_X12_write_b70  Q  x1 x2 x3 x5 x7 M → J 70 [(0, .ref (ad 0)), (1, .int (Ii x1)), (2, .int (Ii x2)), (3, .long (Ll x3)), (5, .long (Ll x5)), (7, .int (Ii x7))] [] M := by
  have H9 : ∀ (n : Nat) (x1 x2 x3 x5 x7 : Int) (M : MM), ri_ x1 → ri_ x2 → rl_ x3 → rl_ x5 → ri_ x7 → jit (fun _ _ _ _ _ _ => False) (wb_X12_write_b70  Q ) n x1 x2 x3 x5 x7 M → J 70 [(0, .ref (ad 0)), (1, .int (Ii x1)), (2, .int (Ii x2)), (3, .long (Ll x3)), (5, .long (Ll x5)), (7, .int (Ii x7))] [] M := by
    intro n
    induction n with
    | zero => intro x1 x2 x3 x5 x7 M gx1 gx2 gx3 gx5 gx7 hF; exact False.elim hF
    | succ n ih =>
    intro x1 x2 x3 x5 x7 M gx1 gx2 gx3 gx5 gx7 hF
    have hF : wb_X12_write_b70  Q  (jit (fun _ _ _ _ _ _ => False) (wb_X12_write_b70  Q ) n) x1 x2 x3 x5 x7 M := hF
    unfold wb_X12_write_b70 at hF
    refine j_iload hJ dX12_write_70 5 rfl ?_
    refine j_bipush hJ dX12_write_72 (by decide) ?_
    refine j_icmp_ge hJ 147 gx7 rk_99 dX12_write_74 (by decide) (fun z1 => ?_) (fun z1 => ?_)
    · have hF := hF.1 z1
      refine j_aload_n hJ dX12_write_147 rfl 0 rfl ?_
      refine j_dup hJ dX12_write_148 rfl ?_
      refine j_gi hJ kR_0 fR_15_36 rfl fl_X12_479 dX12_write_149 (fun v2 ev2 gv2 => ?_)
      have hF := hF v2 ev2 gv2
      refine j_iconst hJ dX12_write_152 ?_
      refine j_isub hJ dX12_write_153 ?_
      have g3 := hF.1; have hF := hF.2
      refine j_pi hJ g3 kR_0 fR_15_36 rfl fp_X12_479 dX12_write_154 (fun M4 eM4 => ?_)
      have hF := hF M4 eM4
      exact j_sub hJ [0, 1, 2, 3, 4] rfl (k_X12_write_b157 hin  hJ  x1 x2 x3 x5 _ gx1 gx2 gx3 gx5 hF)
    · have hF := hF.2 z1
      refine j_aload_n hJ dX12_write_77 rfl 0 rfl ?_
      refine j_gr (e := 25) hJ kR_0 fR_15_32 fl_X12_144 dX12_write_78 rfl ?_
      refine j_iload hJ dX12_write_81 5 rfl ?_
      refine j_aload_n hJ dX12_write_83 rfl 0 rfl ?_
      refine j_gr (e := 25) hJ kR_0 fR_15_32 fl_X12_144 dX12_write_84 rfl ?_
      refine j_iload hJ dX12_write_87 5 rfl ?_
      refine j_iconst hJ dX12_write_89 ?_
      refine j_iadd hJ dX12_write_90 ?_
      have g5 := hF.1; have hF := hF.2
      refine j_iald hJ g5 kR_25 hF.1 hF.2.1 dX12_write_91 (fun v6 ev6 gv6 => ?_)
      have hF := hF.2.2 v6 ev6 gv6
      refine j_iast hJ gx7 gv6 kR_25 hF.1 hF.2.1 dX12_write_92 (fun M7 eM7 => ?_)
      have hF := hF.2.2 M7 eM7
      refine j_aload_n hJ dX12_write_93 rfl 0 rfl ?_
      refine j_gr (e := 26) hJ kR_0 fR_15_33 fl_X12_147 dX12_write_94 rfl ?_
      refine j_iload hJ dX12_write_97 5 rfl ?_
      refine j_aload_n hJ dX12_write_99 rfl 0 rfl ?_
      refine j_gr (e := 26) hJ kR_0 fR_15_33 fl_X12_147 dX12_write_100 rfl ?_
      refine j_iload hJ dX12_write_103 5 rfl ?_
      refine j_iconst hJ dX12_write_105 ?_
      refine j_iadd hJ dX12_write_106 ?_
      have g8 := hF.1; have hF := hF.2
      refine j_iald hJ g8 kR_26 hF.1 hF.2.1 dX12_write_107 (fun v9 ev9 gv9 => ?_)
      have hF := hF.2.2 v9 ev9 gv9
      refine j_iast hJ gx7 gv9 kR_26 hF.1 hF.2.1 dX12_write_108 (fun M10 eM10 => ?_)
      have hF := hF.2.2 M10 eM10
      refine j_aload_n hJ dX12_write_109 rfl 0 rfl ?_
      refine j_gr (e := 27) hJ kR_0 fR_15_34 fl_X12_150 dX12_write_110 rfl ?_
      refine j_iload hJ dX12_write_113 5 rfl ?_
      refine j_aload_n hJ dX12_write_115 rfl 0 rfl ?_
      refine j_gr (e := 27) hJ kR_0 fR_15_34 fl_X12_150 dX12_write_116 rfl ?_
      refine j_iload hJ dX12_write_119 5 rfl ?_
      refine j_iconst hJ dX12_write_121 ?_
      refine j_iadd hJ dX12_write_122 ?_
      have g11 := hF.1; have hF := hF.2
      refine j_iald hJ g11 kR_27 hF.1 hF.2.1 dX12_write_123 (fun v12 ev12 gv12 => ?_)
      have hF := hF.2.2 v12 ev12 gv12
      refine j_iast hJ gx7 gv12 kR_27 hF.1 hF.2.1 dX12_write_124 (fun M13 eM13 => ?_)
      have hF := hF.2.2 M13 eM13
      refine j_aload_n hJ dX12_write_125 rfl 0 rfl ?_
      refine j_gr (e := 28) hJ kR_0 fR_15_35 fl_X12_153 dX12_write_126 rfl ?_
      refine j_iload hJ dX12_write_129 5 rfl ?_
      refine j_aload_n hJ dX12_write_131 rfl 0 rfl ?_
      refine j_gr (e := 28) hJ kR_0 fR_15_35 fl_X12_153 dX12_write_132 rfl ?_
      refine j_iload hJ dX12_write_135 5 rfl ?_
      refine j_iconst hJ dX12_write_137 ?_
      refine j_iadd hJ dX12_write_138 ?_
      have g14 := hF.1; have hF := hF.2
      refine j_lald hJ g14 kR_28 hF.1 hF.2.1 dX12_write_139 (fun v15 ev15 gv15 => ?_)
      have hF := hF.2.2 v15 ev15 gv15
      refine j_last hJ gx7 gv15 kR_28 hF.1 hF.2.1 dX12_write_140 (fun M16 eM16 => ?_)
      have hF := hF.2.2 M16 eM16
      refine j_iinc (lv' := [(7, .int (Ii (x7 + 1))), (0, .ref (ad 0)), (1, .int (Ii x1)), (2, .int (Ii x2)), (3, .long (Ll x3)), (5, .long (Ll x5))]) (k := 5) hJ dX12_write_141 rfl (by decide) rfl ?_
      have g17 := hF.1; have hF := hF.2
      refine j_goto hJ 70 dX12_write_144 (by decide) ?_
      exact j_sub hJ [1, 2, 3, 4, 5, 0] rfl (ih x1 x2 x3 x5 (x7 + 1) _ gx1 gx2 gx3 gx5 g17 hF)
  intro x1 x2 x3 x5 x7 M gx1 gx2 gx3 gx5 gx7 hF
  obtain ⟨n, hF⟩ := hF
  exact H9 n x1 x2 x3 x5 x7 M gx1 gx2 gx3 gx5 gx7 hF
set_option maxHeartbeats 4000000 in
set_option maxRecDepth 100000 in
theorem k_X12_write_b58 {l : Launch} {D : va_G} {cy : Nat → ClassId} {ad : Nat → Nat} {Q : Int → MM → Prop} {J : Nat → List (Nat × Value) → List Value → MM → Prop} (hin : jIn ad ksR.length)   (hJ : jOk l D vwCl (tyR cy) cy ad ftR ksR (XtR ad) Om RX12 cX12_write 9 0 ({ frames := 1, cells := 0, slots := 0, locals := 32 } : Room) Q J)  : ∀ (x1 x2 x3 x5 : Int) (M : MM), ri_ x1 → ri_ x2 → rl_ x3 → rl_ x5 → w_X12_write_b58  Q  x1 x2 x3 x5 M → J 58 [(0, .ref (ad 0)), (1, .int (Ii x1)), (2, .int (Ii x2)), (3, .long (Ll x3)), (5, .long (Ll x5))] [] M := by
  intro x1 x2 x3 x5 M gx1 gx2 gx3 gx5 hF
  unfold w_X12_write_b58 at hF
  refine j_aload_n hJ dX12_write_58 rfl 0 rfl ?_
  refine j_gi hJ kR_0 fR_15_36 rfl fl_X12_479 dX12_write_59 (fun v1 ev1 gv1 => ?_)
  have hF := hF v1 ev1 gv1
  refine j_bipush hJ dX12_write_62 (by decide) ?_
  refine j_icmp_ne hJ 157 gv1 rk_100 dX12_write_64 (by decide) (fun z2 => ?_) (fun z2 => ?_)
  · have hF := hF.1 z2
    exact j_sub hJ [0, 1, 2, 3, 4] rfl (k_X12_write_b157 hin  hJ  x1 x2 x3 x5 _ gx1 gx2 gx3 gx5 hF)
  · have hF := hF.2 z2
    refine j_iconst hJ dX12_write_67 ?_
    refine j_istore (lv' := [(7, .int (Ii 0)), (0, .ref (ad 0)), (1, .int (Ii x1)), (2, .int (Ii x2)), (3, .long (Ll x3)), (5, .long (Ll x5))]) hJ dX12_write_68 (by decide) rfl ?_
    exact j_sub hJ [1, 2, 3, 4, 5, 0] rfl (k_X12_write_b70 hin  hJ  x1 x2 x3 x5 0 _ gx1 gx2 gx3 gx5 rk_0 hF)
set_option maxHeartbeats 4000000 in
set_option maxRecDepth 100000 in
theorem k_X12_write_b27 {l : Launch} {D : va_G} {cy : Nat → ClassId} {ad : Nat → Nat} {Q : Int → MM → Prop} {J : Nat → List (Nat × Value) → List Value → MM → Prop} (hin : jIn ad ksR.length)   (hJ : jOk l D vwCl (tyR cy) cy ad ftR ksR (XtR ad) Om RX12 cX12_write 9 0 ({ frames := 1, cells := 0, slots := 0, locals := 32 } : Room) Q J)  : ∀ (x1 x2 x3 s0 : Int) (M : MM), ri_ x1 → ri_ x2 → rl_ x3 → rl_ s0 → w_X12_write_b27  Q  x1 x2 x3 s0 M → J 27 [(0, .ref (ad 0)), (1, .int (Ii x1)), (2, .int (Ii x2)), (3, .long (Ll x3))] [.long (Ll s0)] M := by
  intro x1 x2 x3 s0 M gx1 gx2 gx3 gs0 hF
  unfold w_X12_write_b27 at hF
  refine j_lstore (lv' := [(5, .long (Ll s0)), (0, .ref (ad 0)), (1, .int (Ii x1)), (2, .int (Ii x2)), (3, .long (Ll x3))]) hJ dX12_write_27 (by decide) rfl ?_
  refine j_iload_n hJ dX12_write_29 rfl 2 rfl ?_
  refine j_iconst hJ dX12_write_30 ?_
  refine j_icmp_ne hJ 44 gx1 rk_m1 dX12_write_31 (by decide) (fun z1 => ?_) (fun z1 => ?_)
  · have hF := hF.1 z1
    refine j_aload_n hJ dX12_write_44 rfl 1 rfl ?_
    refine j_gr (e := 23) hJ kR_0 fR_15_25 fl_X12_138 dX12_write_45 rfl ?_
    refine j_aload_n hJ dX12_write_48 rfl 1 rfl ?_
    refine j_gr (e := 21) hJ kR_0 fR_15_23 fl_X12_131 dX12_write_49 rfl ?_
    refine j_iload_n hJ dX12_write_52 rfl 2 rfl ?_
    refine j_iald hJ gx1 kR_21 hF.1 hF.2.1 dX12_write_53 (fun v2 ev2 gv2 => ?_)
    have hF := hF.2.2 v2 ev2 gv2
    refine j_iload_n hJ dX12_write_54 rfl 3 rfl ?_
    refine j_iadd hJ dX12_write_55 ?_
    have g3 := hF.1; have hF := hF.2
    refine j_lload_n hJ dX12_write_56 rfl 4 rfl ?_
    refine j_last hJ g3 gx3 kR_23 hF.1 hF.2.1 dX12_write_57 (fun M4 eM4 => ?_)
    have hF := hF.2.2 M4 eM4
    exact j_sub hJ [1, 2, 3, 4, 0] rfl (k_X12_write_b58 hin  hJ  x1 x2 x3 s0 _ gx1 gx2 gx3 gs0 hF)
  · have hF := hF.2 z1
    refine j_aload_n hJ dX12_write_34 rfl 1 rfl ?_
    refine j_gr (e := 6) hJ kR_0 fR_15_7 fl_X12_84 dX12_write_35 rfl ?_
    refine j_iload_n hJ dX12_write_38 rfl 3 rfl ?_
    refine j_lload_n hJ dX12_write_39 rfl 4 rfl ?_
    refine j_last hJ gx2 gx3 kR_6 hF.1 hF.2.1 dX12_write_40 (fun M5 eM5 => ?_)
    have hF := hF.2.2 M5 eM5
    refine j_goto hJ 58 dX12_write_41 (by decide) ?_
    exact j_sub hJ [1, 2, 3, 4, 0] rfl (k_X12_write_b58 hin  hJ  x1 x2 x3 s0 _ gx1 gx2 gx3 gs0 hF)
set_option maxHeartbeats 4000000 in
set_option maxRecDepth 100000 in
theorem c_X12_write {l : Launch} {D : va_G} {cy : Nat → ClassId} {ad : Nat → Nat} (hin : jIn ad ksR.length) : jCN l D vwCl (tyR cy) cy ad ftR ksR (XtR ad) yX12_write (.code yX12_write cX12_write 9 none :: Om) ({ frames := 1, cells := 0, slots := 0, locals := 32 } : Room) 0 (W_X12_write ad) := by
  refine jCN_of (y := yX12_write) (cc := cX12_write) (nL := 9) (rk := 0) (rm := ({ frames := 1, cells := 0, slots := 0, locals := 32 } : Room)) (own := RX12) (tyR_ok cy) hin (XtR_ok ad) Om_good (by decide) rfl ?_
  intro Q av M hF
  obtain ⟨p1, p2, p3, rfl, gp1, gp2, gp3, hF⟩ := hF
  refine ⟨Nat.le_of_ble_eq_true rfl, fun J hJ => ?_⟩
  show J 0 [(0, .ref (ad 0)), (1, .int (Ii p1)), (2, .int (Ii p2)), (3, .long (Ll p3))] [] M
  unfold w_X12_write at hF
  refine j_iload_n hJ dX12_write_0 rfl 1 rfl ?_
  refine j_iconst hJ dX12_write_1 ?_
  refine j_icmp_ne hJ 14 gp1 rk_m1 dX12_write_2 (by decide) (fun z1 => ?_) (fun z1 => ?_)
  · have hF := hF.1 z1
    refine j_aload_n hJ dX12_write_14 rfl 0 rfl ?_
    refine j_gr (e := 23) hJ kR_0 fR_15_25 fl_X12_138 dX12_write_15 rfl ?_
    refine j_aload_n hJ dX12_write_18 rfl 0 rfl ?_
    refine j_gr (e := 21) hJ kR_0 fR_15_23 fl_X12_131 dX12_write_19 rfl ?_
    refine j_iload_n hJ dX12_write_22 rfl 1 rfl ?_
    refine j_iald hJ gp1 kR_21 hF.1 hF.2.1 dX12_write_23 (fun v2 ev2 gv2 => ?_)
    have hF := hF.2.2 v2 ev2 gv2
    refine j_iload_n hJ dX12_write_24 rfl 2 rfl ?_
    refine j_iadd hJ dX12_write_25 ?_
    have g3 := hF.1; have hF := hF.2
    refine j_lald hJ g3 kR_23 hF.1 hF.2.1 dX12_write_26 (fun v4 ev4 gv4 => ?_)
    have hF := hF.2.2 v4 ev4 gv4
    exact j_sub hJ [0, 1, 2, 3] rfl (k_X12_write_b27 hin  hJ  p1 p2 p3 v4 _ gp1 gp2 gp3 gv4 hF)
  · have hF := hF.2 z1
    refine j_aload_n hJ dX12_write_5 rfl 0 rfl ?_
    refine j_gr (e := 6) hJ kR_0 fR_15_7 fl_X12_84 dX12_write_6 rfl ?_
    refine j_iload_n hJ dX12_write_9 rfl 2 rfl ?_
    refine j_lald hJ gp2 kR_6 hF.1 hF.2.1 dX12_write_10 (fun v5 ev5 gv5 => ?_)
    have hF := hF.2.2 v5 ev5 gv5
    refine j_goto hJ 27 dX12_write_11 (by decide) ?_
    exact j_sub hJ [0, 1, 2, 3] rfl (k_X12_write_b27 hin  hJ  p1 p2 p3 v5 _ gp1 gp2 gp3 gv5 hF)
def W_X12_beginWalk (ad : Nat → Nat) (Q : Int → MM → Prop) (av : List Value) (M : MM) : Prop := av = [.ref (ad 0)] ∧ w_X12_beginWalk  Q  M
set_option maxHeartbeats 4000000 in
set_option maxRecDepth 100000 in
theorem k_X12_beginWalk_b7 {l : Launch} {D : va_G} {cy : Nat → ClassId} {ad : Nat → Nat} {Q : Int → MM → Prop} {J : Nat → List (Nat × Value) → List Value → MM → Prop} (hin : jIn ad ksR.length)   (hJ : jOk l D vwCl (tyR cy) cy ad ftR ksR (XtR ad) Om RX12 cX12_beginWalk 2 0 ({ frames := 0, cells := 0, slots := 0, locals := 0 } : Room) Q J)  : ∀ (x1 : Int) (M : MM), ri_ x1 → w_X12_beginWalk_b7  Q  x1 M → J 7 [(0, .ref (ad 0)), (1, .int (Ii x1))] [] M := by
  have H9 : ∀ (n : Nat) (x1 : Int) (M : MM), ri_ x1 → jit (fun _ _ => False) (wb_X12_beginWalk_b7  Q ) n x1 M → J 7 [(0, .ref (ad 0)), (1, .int (Ii x1))] [] M := by
    intro n
    induction n with
    | zero => intro x1 M gx1 hF; exact False.elim hF
    | succ n ih =>
    intro x1 M gx1 hF
    have hF : wb_X12_beginWalk_b7  Q  (jit (fun _ _ => False) (wb_X12_beginWalk_b7  Q ) n) x1 M := hF
    unfold wb_X12_beginWalk_b7 at hF
    refine j_iload_n hJ dX12_beginWalk_7 rfl 1 rfl ?_
    refine j_sipush hJ dX12_beginWalk_8 (by decide) ?_
    refine j_icmp_ge hJ 27 gx1 rk_400 dX12_beginWalk_11 (by decide) (fun z1 => ?_) (fun z1 => ?_)
    · have hF := hF.1 z1
      exact j_vret hJ rfl dX12_beginWalk_27 hF
    · have hF := hF.2 z1
      refine j_aload_n hJ dX12_beginWalk_14 rfl 0 rfl ?_
      refine j_gr (e := 37) hJ kR_0 fR_15_46 fl_X12_180 dX12_beginWalk_15 rfl ?_
      refine j_iload_n hJ dX12_beginWalk_18 rfl 1 rfl ?_
      refine j_iconst hJ dX12_beginWalk_19 ?_
      refine j_iast hJ gx1 rk_m1 kR_37 hF.1 hF.2.1 dX12_beginWalk_20 (fun M2 eM2 => ?_)
      have hF := hF.2.2 M2 eM2
      refine j_iinc (lv' := [(1, .int (Ii (x1 + 1))), (0, .ref (ad 0))]) (k := 1) hJ dX12_beginWalk_21 rfl (by decide) rfl ?_
      have g3 := hF.1; have hF := hF.2
      refine j_goto hJ 7 dX12_beginWalk_24 (by decide) ?_
      exact j_sub hJ [1, 0] rfl (ih (x1 + 1) _ g3 hF)
  intro x1 M gx1 hF
  obtain ⟨n, hF⟩ := hF
  exact H9 n x1 M gx1 hF
set_option maxHeartbeats 4000000 in
set_option maxRecDepth 100000 in
theorem c_X12_beginWalk {l : Launch} {D : va_G} {cy : Nat → ClassId} {ad : Nat → Nat} (hin : jIn ad ksR.length) : jCN l D vwCl (tyR cy) cy ad ftR ksR (XtR ad) yX12_beginWalk (.code yX12_beginWalk cX12_beginWalk 2 none :: Om) ({ frames := 0, cells := 0, slots := 0, locals := 0 } : Room) 0 (W_X12_beginWalk ad) := by
  refine jCN_of (y := yX12_beginWalk) (cc := cX12_beginWalk) (nL := 2) (rk := 0) (rm := ({ frames := 0, cells := 0, slots := 0, locals := 0 } : Room)) (own := RX12) (tyR_ok cy) hin (XtR_ok ad) Om_good (by decide) rfl ?_
  intro Q av M hF
  obtain ⟨rfl, hF⟩ := hF
  refine ⟨Nat.le_of_ble_eq_true rfl, fun J hJ => ?_⟩
  show J 0 [(0, .ref (ad 0))] [] M
  unfold w_X12_beginWalk at hF
  refine j_aload_n hJ dX12_beginWalk_0 rfl 0 rfl ?_
  refine j_iconst hJ dX12_beginWalk_1 ?_
  refine j_pi hJ rk_0 kR_0 fR_15_47 rfl fp_X12_522 dX12_beginWalk_2 (fun M1 eM1 => ?_)
  have hF := hF M1 eM1
  refine j_iconst hJ dX12_beginWalk_5 ?_
  refine j_istore_n (lv' := [(1, .int (Ii 0)), (0, .ref (ad 0))]) hJ dX12_beginWalk_6 rfl (by decide) rfl ?_
  exact j_sub hJ [1, 0] rfl (k_X12_beginWalk_b7 hin  hJ  0 _ rk_0 hF)
def W_X12_isLinkSlot (ad : Nat → Nat) (Q : Int → MM → Prop) (av : List Value) (M : MM) : Prop := ∃ (p1 : Int) (p2 : Int), av = [.ref (ad 0), .int (Ii p1), .int (Ii p2)] ∧ ri_ p1 ∧ ri_ p2 ∧ w_X12_isLinkSlot  Q p1 p2 M
set_option maxHeartbeats 4000000 in
set_option maxRecDepth 100000 in
theorem c_X12_isLinkSlot {l : Launch} {D : va_G} {cy : Nat → ClassId} {ad : Nat → Nat} (hin : jIn ad ksR.length) : jCN l D vwCl (tyR cy) cy ad ftR ksR (XtR ad) yX12_isLinkSlot (.code yX12_isLinkSlot cX12_isLinkSlot 3 (some .boolean) :: Om) ({ frames := 2, cells := 0, slots := 0, locals := 47 } : Room) 3 (W_X12_isLinkSlot ad) := by
  refine jCN_of (y := yX12_isLinkSlot) (cc := cX12_isLinkSlot) (nL := 3) (rk := 3) (rm := ({ frames := 2, cells := 0, slots := 0, locals := 47 } : Room)) (own := RX12) (tyR_ok cy) hin (XtR_ok ad) Om_good (by decide) rfl ?_
  intro Q av M hF
  obtain ⟨p1, p2, rfl, gp1, gp2, hF⟩ := hF
  refine ⟨Nat.le_of_ble_eq_true rfl, fun J hJ => ?_⟩
  show J 0 [(0, .ref (ad 0)), (1, .int (Ii p1)), (2, .int (Ii p2))] [] M
  unfold w_X12_isLinkSlot at hF
  refine j_aload_n hJ dX12_isLinkSlot_0 rfl 0 rfl ?_
  refine j_aload_n hJ dX12_isLinkSlot_1 rfl 0 rfl ?_
  refine j_gr (e := 19) hJ kR_0 fR_15_21 fl_X12_125 dX12_isLinkSlot_2 rfl ?_
  refine j_iload_n hJ dX12_isLinkSlot_5 rfl 1 rfl ?_
  refine j_iald hJ gp1 kR_19 hF.1 hF.2.1 dX12_isLinkSlot_6 (fun v1 ev1 gv1 => ?_)
  have hF := hF.2.2 v1 ev1 gv1
  refine j_iload_n hJ dX12_isLinkSlot_7 rfl 2 rfl ?_
  refine j_callVi hJ (c_X12_kindOf (l := l) (D := D) (cy := cy) (ad := ad) hin) rfl om_1093 ⟨rfl, rfl, Nat.le_of_ble_eq_true rfl, Nat.le_of_ble_eq_true rfl⟩ [.int (Ii v1), .int (Ii p2)] mv_X12_458 hd_X12_kindOfv kR_0 rfl rfl rfl (Nat.le_of_ble_eq_true rfl) dX12_isLinkSlot_8 ⟨v1, p2, rfl, gv1, gp2, hF⟩ (fun r2 M3 gr2 qM3 => ?_)
  have hF := qM3 gr2
  refine j_iconst hJ dX12_isLinkSlot_11 ?_
  refine j_icmp_ne hJ 19 gr2 rk_5 dX12_isLinkSlot_12 (by decide) (fun z4 => ?_) (fun z4 => ?_)
  · have hF := hF.1 z4
    refine j_iconst hJ dX12_isLinkSlot_19 ?_
    exact j_zret hJ rfl (by decide) dX12_isLinkSlot_20 hF
  · have hF := hF.2 z4
    refine j_iconst hJ dX12_isLinkSlot_15 ?_
    refine j_goto hJ 20 dX12_isLinkSlot_16 (by decide) ?_
    exact j_zret hJ rfl (by decide) dX12_isLinkSlot_20 hF
