def W_X12_collect (ad : Nat → Nat) (Q : Int → MM → Prop) (av : List Value) (M : MM) : Prop := av = [.ref (ad 0)] ∧ w_X12_collect  Q  M
set_option maxHeartbeats 4000000 in
set_option maxRecDepth 100000 in
theorem k_X12_collect_b78 {l : Launch} {D : va_G} {cy : Nat → ClassId} {ad : Nat → Nat} {Q : Int → MM → Prop} {J : Nat → List (Nat × Value) → List Value → MM → Prop} (hin : jIn ad ksR.length)   (hJ : jOk l D vwCl (tyR cy) cy ad ftR ksR (XtR ad) Om RX12 cX12_collect 3 1 ({ frames := 5, cells := 0, slots := 0, locals := 115 } : Room) Q J) {K13 : Int → Int → MM → Prop} (hK13 : ∀ (x1 x2 : Int) (M : MM), ri_ x1 → ri_ x2 → K13 x1 x2 M → J 13 [(0, .ref (ad 0)), (1, .int (Ii x1)), (2, .int (Ii x2))] [] M) : ∀ (x1 x2 : Int) (M : MM), ri_ x1 → ri_ x2 → w_X12_collect_b78  Q K13 x1 x2 M → J 78 [(0, .ref (ad 0)), (1, .int (Ii x1)), (2, .int (Ii x2))] [] M := by
  intro x1 x2 M gx1 gx2 hF
  unfold w_X12_collect_b78 at hF
  refine j_iinc (lv' := [(2, .int (Ii (x2 + 1))), (0, .ref (ad 0)), (1, .int (Ii x1))]) (k := 2) hJ dX12_collect_78 rfl (by decide) rfl ?_
  have g1 := hF.1; have hF := hF.2
  refine j_goto hJ 13 dX12_collect_81 (by decide) ?_
  exact j_sub hJ [1, 2, 0] rfl (hK13 x1 (x2 + 1) _ gx1 g1 hF)
set_option maxHeartbeats 4000000 in
set_option maxRecDepth 100000 in
theorem k_X12_collect_b13 {l : Launch} {D : va_G} {cy : Nat → ClassId} {ad : Nat → Nat} {Q : Int → MM → Prop} {J : Nat → List (Nat × Value) → List Value → MM → Prop} (hin : jIn ad ksR.length)   (hJ : jOk l D vwCl (tyR cy) cy ad ftR ksR (XtR ad) Om RX12 cX12_collect 3 1 ({ frames := 5, cells := 0, slots := 0, locals := 115 } : Room) Q J)  : ∀ (x1 x2 : Int) (M : MM), ri_ x1 → ri_ x2 → w_X12_collect_b13  Q  x1 x2 M → J 13 [(0, .ref (ad 0)), (1, .int (Ii x1)), (2, .int (Ii x2))] [] M := by
  have H9 : ∀ (n : Nat) (x1 x2 : Int) (M : MM), ri_ x1 → ri_ x2 → jit (fun _ _ _ => False) (wb_X12_collect_b13  Q ) n x1 x2 M → J 13 [(0, .ref (ad 0)), (1, .int (Ii x1)), (2, .int (Ii x2))] [] M := by
    intro n
    induction n with
    | zero => intro x1 x2 M gx1 gx2 hF; exact False.elim hF
    | succ n ih =>
    intro x1 x2 M gx1 gx2 hF
    have hF : wb_X12_collect_b13  Q  (jit (fun _ _ _ => False) (wb_X12_collect_b13  Q ) n) x1 x2 M := hF
    unfold wb_X12_collect_b13 at hF
    refine j_iload_n hJ dX12_collect_13 rfl 2 rfl ?_
    refine j_aload_n hJ dX12_collect_14 rfl 0 rfl ?_
    refine j_gi hJ kR_0 fR_15_26 rfl fl_X12_435 dX12_collect_15 (fun v1 ev1 gv1 => ?_)
    have hF := hF v1 ev1 gv1
    refine j_icmp_ge hJ 84 gx2 gv1 dX12_collect_18 (by decide) (fun z2 => ?_) (fun z2 => ?_)
    · have hF := hF.1 z2
      refine j_aload_n hJ dX12_collect_84 rfl 0 rfl ?_
      refine j_iconst hJ dX12_collect_85 ?_
      refine j_pi hJ rk_0 kR_0 fR_15_36 rfl fp_X12_479 dX12_collect_86 (fun M3 eM3 => ?_)
      have hF := hF M3 eM3
      refine j_iload_n hJ dX12_collect_89 rfl 1 rfl ?_
      exact j_iret hJ rfl gx1 dX12_collect_90 hF
    · have hF := hF.2 z2
      refine j_aload_n hJ dX12_collect_21 rfl 0 rfl ?_
      refine j_gr (e := 22) hJ kR_0 fR_15_24 fl_X12_134 dX12_collect_22 rfl ?_
      refine j_iload_n hJ dX12_collect_25 rfl 2 rfl ?_
      refine j_zald hJ gx2 kR_22 hF.1 hF.2.1 dX12_collect_26 (fun v4 ev4 gv4 => ?_)
      have hF := hF.2.2 v4 ev4 gv4
      refine j_if_eq hJ 78 (jz_ri gv4) dX12_collect_27 (by decide) (fun z5 => ?_) (fun z5 => ?_)
      · have hF := hF.1 z5
        exact j_sub hJ [0, 1, 2] rfl (k_X12_collect_b78 hin  hJ ih x1 x2 _ gx1 gx2 hF)
      · have hF := hF.2 z5
        refine j_aload_n hJ dX12_collect_30 rfl 0 rfl ?_
        refine j_gr (e := 37) hJ kR_0 fR_15_46 fl_X12_180 dX12_collect_31 rfl ?_
        refine j_iload_n hJ dX12_collect_34 rfl 2 rfl ?_
        refine j_iald hJ gx2 kR_37 hF.1 hF.2.1 dX12_collect_35 (fun v6 ev6 gv6 => ?_)
        have hF := hF.2.2 v6 ev6 gv6
        refine j_iconst hJ dX12_collect_36 ?_
        refine j_icmp_eq hJ 43 gv6 rk_m1 dX12_collect_37 (by decide) (fun z7 => ?_) (fun z7 => ?_)
        · have hF := hF.1 z7
          refine j_aload_n hJ dX12_collect_43 rfl 0 rfl ?_
          refine j_gr (e := 22) hJ kR_0 fR_15_24 fl_X12_134 dX12_collect_44 rfl ?_
          refine j_iload_n hJ dX12_collect_47 rfl 2 rfl ?_
          refine j_iconst hJ dX12_collect_48 ?_
          refine j_zast hJ gx2 (by decide) kR_22 hF.1 hF.2.1 dX12_collect_49 (fun M8 eM8 => ?_)
          have hF := hF.2.2 M8 eM8
          refine j_aload_n hJ dX12_collect_50 rfl 0 rfl ?_
          refine j_dup hJ dX12_collect_51 rfl ?_
          refine j_gi hJ kR_0 fR_15_28 rfl fl_X12_461 dX12_collect_52 (fun v9 ev9 gv9 => ?_)
          have hF := hF v9 ev9 gv9
          refine j_aload_n hJ dX12_collect_55 rfl 0 rfl ?_
          refine j_aload_n hJ dX12_collect_56 rfl 0 rfl ?_
          refine j_gr (e := 19) hJ kR_0 fR_15_21 fl_X12_125 dX12_collect_57 rfl ?_
          refine j_iload_n hJ dX12_collect_60 rfl 2 rfl ?_
          refine j_iald hJ gx2 kR_19 hF.1 hF.2.1 dX12_collect_61 (fun v10 ev10 gv10 => ?_)
          have hF := hF.2.2 v10 ev10 gv10
          refine j_aload_n hJ dX12_collect_62 rfl 0 rfl ?_
          refine j_gr (e := 20) hJ kR_0 fR_15_22 fl_X12_128 dX12_collect_63 rfl ?_
          refine j_iload_n hJ dX12_collect_66 rfl 2 rfl ?_
          refine j_iald hJ gx2 kR_20 hF.1 hF.2.1 dX12_collect_67 (fun v11 ev11 gv11 => ?_)
          have hF := hF.2.2 v11 ev11 gv11
          refine j_callVi hJ (c_X12_slotCount (l := l) (D := D) (cy := cy) (ad := ad) hin) rfl om_1089 ⟨rfl, rfl, Nat.le_of_ble_eq_true rfl, Nat.le_of_ble_eq_true rfl⟩ [.int (Ii v10), .int (Ii v11)] mv_X12_455 hd_X12_slotCountv kR_0 rfl rfl rfl (Nat.le_of_ble_eq_true rfl) dX12_collect_68 ⟨v10, v11, rfl, gv10, gv11, hF⟩ (fun r12 M13 gr12 qM13 => ?_)
          have hF := qM13 gr12
          refine j_isub hJ dX12_collect_71 ?_
          have g14 := hF.1; have hF := hF.2
          refine j_pi hJ g14 kR_0 fR_15_28 rfl fp_X12_461 dX12_collect_72 (fun M15 eM15 => ?_)
          have hF := hF M15 eM15
          refine j_iinc (lv' := [(1, .int (Ii (x1 + 1))), (0, .ref (ad 0)), (2, .int (Ii x2))]) (k := 1) hJ dX12_collect_75 rfl (by decide) rfl ?_
          have g16 := hF.1; have hF := hF.2
          exact j_sub hJ [1, 0, 2] rfl (k_X12_collect_b78 hin  hJ ih (x1 + 1) x2 _ g16 gx2 hF)
        · have hF := hF.2 z7
          refine j_goto hJ 78 dX12_collect_40 (by decide) ?_
          exact j_sub hJ [0, 1, 2] rfl (k_X12_collect_b78 hin  hJ ih x1 x2 _ gx1 gx2 hF)
  intro x1 x2 M gx1 gx2 hF
  obtain ⟨n, hF⟩ := hF
  exact H9 n x1 x2 M gx1 gx2 hF
set_option maxHeartbeats 4000000 in
set_option maxRecDepth 100000 in
theorem c_X12_collect {l : Launch} {D : va_G} {cy : Nat → ClassId} {ad : Nat → Nat} (hin : jIn ad ksR.length) : jCN l D vwCl (tyR cy) cy ad ftR ksR (XtR ad) yX12_collect (.code yX12_collect cX12_collect 3 (some .int) :: Om) ({ frames := 5, cells := 0, slots := 0, locals := 115 } : Room) 1 (W_X12_collect ad) := by
  refine jCN_of (y := yX12_collect) (cc := cX12_collect) (nL := 3) (rk := 1) (rm := ({ frames := 5, cells := 0, slots := 0, locals := 115 } : Room)) (own := RX12) (tyR_ok cy) hin (XtR_ok ad) Om_good (by decide) rfl ?_
  intro Q av M hF
  obtain ⟨rfl, hF⟩ := hF
  refine ⟨Nat.le_of_ble_eq_true rfl, fun J hJ => ?_⟩
  show J 0 [(0, .ref (ad 0))] [] M
  unfold w_X12_collect at hF
  refine j_aload_n hJ dX12_collect_0 rfl 0 rfl ?_
  refine j_iconst hJ dX12_collect_1 ?_
  refine j_pi hJ rk_0 kR_0 fR_15_0 rfl fp_X12_388 dX12_collect_2 (fun M1 eM1 => ?_)
  have hF := hF M1 eM1
  refine j_aload_n hJ dX12_collect_5 rfl 0 rfl ?_
  refine j_callVv hJ (c_X12_walkRoots (l := l) (D := D) (cy := cy) (ad := ad) hin) rfl om_1149 ⟨rfl, rfl, Nat.le_of_ble_eq_true rfl, Nat.le_of_ble_eq_true rfl⟩ [] mv_X12_539 hd_X12_walkRootsv kR_0 rfl rfl rfl (Nat.le_of_ble_eq_true rfl) dX12_collect_6 ⟨rfl, hF⟩ (fun M3 qM3 => ?_)
  have hF := qM3
  refine j_iconst hJ dX12_collect_9 ?_
  refine j_istore_n (lv' := [(1, .int (Ii 0)), (0, .ref (ad 0))]) hJ dX12_collect_10 rfl (by decide) rfl ?_
  refine j_iconst hJ dX12_collect_11 ?_
  refine j_istore_n (lv' := [(2, .int (Ii 0)), (1, .int (Ii 0)), (0, .ref (ad 0))]) hJ dX12_collect_12 rfl (by decide) rfl ?_
  exact j_sub hJ [2, 1, 0] rfl (k_X12_collect_b13 hin  hJ  0 0 _ rk_0 rk_0 hF)
def W_X12_isPicture (ad : Nat → Nat) (Q : Int → MM → Prop) (av : List Value) (M : MM) : Prop := ∃ (p1 : Int), av = [.ref (ad 0), .int (Ii p1)] ∧ ri_ p1 ∧ w_X12_isPicture  Q p1 M
set_option maxHeartbeats 4000000 in
set_option maxRecDepth 100000 in
theorem c_X12_isPicture {l : Launch} {D : va_G} {cy : Nat → ClassId} {ad : Nat → Nat} (hin : jIn ad ksR.length) : jCN l D vwCl (tyR cy) cy ad ftR ksR (XtR ad) yX12_isPicture (.code yX12_isPicture cX12_isPicture 2 (some .boolean) :: Om) ({ frames := 0, cells := 0, slots := 0, locals := 0 } : Room) 3 (W_X12_isPicture ad) := by
  refine jCN_of (y := yX12_isPicture) (cc := cX12_isPicture) (nL := 2) (rk := 3) (rm := ({ frames := 0, cells := 0, slots := 0, locals := 0 } : Room)) (own := RX12) (tyR_ok cy) hin (XtR_ok ad) Om_good (by decide) rfl ?_
  intro Q av M hF
  obtain ⟨p1, rfl, gp1, hF⟩ := hF
  refine ⟨Nat.le_of_ble_eq_true rfl, fun J hJ => ?_⟩
  show J 0 [(0, .ref (ad 0)), (1, .int (Ii p1))] [] M
  unfold w_X12_isPicture at hF
  refine j_iload_n hJ dX12_isPicture_0 rfl 1 rfl ?_
  refine j_if_lt hJ 13 gp1 dX12_isPicture_1 (by decide) (fun z1 => ?_) (fun z1 => ?_)
  · have hF := hF.1 z1
    refine j_iconst hJ dX12_isPicture_13 ?_
    exact j_zret hJ rfl (by decide) dX12_isPicture_14 hF
  · have hF := hF.2 z1
    refine j_iload_n hJ dX12_isPicture_4 rfl 1 rfl ?_
    refine j_iconst hJ dX12_isPicture_5 ?_
    refine j_icmp_ge hJ 13 gp1 rk_4 dX12_isPicture_6 (by decide) (fun z2 => ?_) (fun z2 => ?_)
    · have hF := hF.1 z2
      refine j_iconst hJ dX12_isPicture_13 ?_
      exact j_zret hJ rfl (by decide) dX12_isPicture_14 hF
    · have hF := hF.2 z2
      refine j_iconst hJ dX12_isPicture_9 ?_
      refine j_goto hJ 14 dX12_isPicture_10 (by decide) ?_
      exact j_zret hJ rfl (by decide) dX12_isPicture_14 hF
def W_X12_isThing (ad : Nat → Nat) (Q : Int → MM → Prop) (av : List Value) (M : MM) : Prop := ∃ (p1 : Int) (p2 : Int), av = [.ref (ad 0), .int (Ii p1), .int (Ii p2)] ∧ ri_ p1 ∧ ri_ p2 ∧ w_X12_isThing  Q p1 p2 M
set_option maxHeartbeats 4000000 in
set_option maxRecDepth 100000 in
theorem c_X12_isThing {l : Launch} {D : va_G} {cy : Nat → ClassId} {ad : Nat → Nat} (hin : jIn ad ksR.length) : jCN l D vwCl (tyR cy) cy ad ftR ksR (XtR ad) yX12_isThing (.code yX12_isThing cX12_isThing 3 (some .boolean) :: Om) ({ frames := 1, cells := 0, slots := 0, locals := 21 } : Room) 3 (W_X12_isThing ad) := by
  refine jCN_of (y := yX12_isThing) (cc := cX12_isThing) (nL := 3) (rk := 3) (rm := ({ frames := 1, cells := 0, slots := 0, locals := 21 } : Room)) (own := RX12) (tyR_ok cy) hin (XtR_ok ad) Om_good (by decide) rfl ?_
  intro Q av M hF
  obtain ⟨p1, p2, rfl, gp1, gp2, hF⟩ := hF
  refine ⟨Nat.le_of_ble_eq_true rfl, fun J hJ => ?_⟩
  show J 0 [(0, .ref (ad 0)), (1, .int (Ii p1)), (2, .int (Ii p2))] [] M
  unfold w_X12_isThing at hF
  refine j_aload_n hJ dX12_isThing_0 rfl 0 rfl ?_
  refine j_iload_n hJ dX12_isThing_1 rfl 1 rfl ?_
  refine j_callVz hJ (c_X12_isPicture (l := l) (D := D) (cy := cy) (ad := ad) hin) rfl om_1296 ⟨rfl, rfl, Nat.le_of_ble_eq_true rfl, Nat.le_of_ble_eq_true rfl⟩ [.int (Ii p1)] mv_X12_542 hd_X12_isPicturev kR_0 rfl rfl rfl (Nat.le_of_ble_eq_true rfl) dX12_isThing_2 ⟨p1, rfl, gp1, hF⟩ (fun r1 M2 gr1 qM2 => ?_)
  have hF := qM2 gr1
  refine j_if_eq hJ 26 (jz_ri gr1) dX12_isThing_5 (by decide) (fun z3 => ?_) (fun z3 => ?_)
  · have hF := hF.1 z3
    refine j_iconst hJ dX12_isThing_26 ?_
    exact j_zret hJ rfl (by decide) dX12_isThing_27 hF
  · have hF := hF.2 z3
    refine j_iload_n hJ dX12_isThing_8 rfl 2 rfl ?_
    refine j_if_lt hJ 26 gp2 dX12_isThing_9 (by decide) (fun z4 => ?_) (fun z4 => ?_)
    · have hF := hF.1 z4
      refine j_iconst hJ dX12_isThing_26 ?_
      exact j_zret hJ rfl (by decide) dX12_isThing_27 hF
    · have hF := hF.2 z4
      refine j_iload_n hJ dX12_isThing_12 rfl 2 rfl ?_
      refine j_aload_n hJ dX12_isThing_13 rfl 0 rfl ?_
      refine j_gr (e := 38) hJ kR_0 fR_15_48 fl_X12_183 dX12_isThing_14 rfl ?_
      refine j_iload_n hJ dX12_isThing_17 rfl 1 rfl ?_
      refine j_iald hJ gp1 kR_38 hF.1 hF.2.1 dX12_isThing_18 (fun v5 ev5 gv5 => ?_)
      have hF := hF.2.2 v5 ev5 gv5
      refine j_icmp_ge hJ 26 gp2 gv5 dX12_isThing_19 (by decide) (fun z6 => ?_) (fun z6 => ?_)
      · have hF := hF.1 z6
        refine j_iconst hJ dX12_isThing_26 ?_
        exact j_zret hJ rfl (by decide) dX12_isThing_27 hF
      · have hF := hF.2 z6
        refine j_iconst hJ dX12_isThing_22 ?_
        refine j_goto hJ 27 dX12_isThing_23 (by decide) ?_
        exact j_zret hJ rfl (by decide) dX12_isThing_27 hF
def W_X12_findRings (ad : Nat → Nat) (Q : Int → MM → Prop) (av : List Value) (M : MM) : Prop := ∃ (p1 : Int), av = [.ref (ad 0), .int (Ii p1)] ∧ ri_ p1 ∧ w_X12_findRings  Q p1 M
set_option maxHeartbeats 4000000 in
set_option maxRecDepth 100000 in
theorem k_X12_findRings_b197 {l : Launch} {D : va_G} {cy : Nat → ClassId} {ad : Nat → Nat} {Q : Int → MM → Prop} {J : Nat → List (Nat × Value) → List Value → MM → Prop} (hin : jIn ad ksR.length)   (hJ : jOk l D vwCl (tyR cy) cy ad ftR ksR (XtR ad) Om RX12 cX12_findRings 5 0 ({ frames := 5, cells := 0, slots := 0, locals := 121 } : Room) Q J) {K84 : Int → Int → Int → MM → Prop} (hK84 : ∀ (x1 x2 x3 : Int) (M : MM), ri_ x1 → ri_ x2 → ri_ x3 → K84 x1 x2 x3 M → J 84 [(0, .ref (ad 0)), (1, .int (Ii x1)), (2, .int (Ii x2)), (3, .int (Ii x3))] [] M) : ∀ (x1 x2 x3 : Int) (M : MM), ri_ x1 → ri_ x2 → ri_ x3 → w_X12_findRings_b197  Q K84 x1 x2 x3 M → J 197 [(0, .ref (ad 0)), (1, .int (Ii x1)), (2, .int (Ii x2)), (3, .int (Ii x3))] [] M := by
  intro x1 x2 x3 M gx1 gx2 gx3 hF
  unfold w_X12_findRings_b197 at hF
  refine j_iinc (lv' := [(3, .int (Ii (x3 + 1))), (0, .ref (ad 0)), (1, .int (Ii x1)), (2, .int (Ii x2))]) (k := 3) hJ dX12_findRings_197 rfl (by decide) rfl ?_
  have g1 := hF.1; have hF := hF.2
  refine j_goto hJ 84 dX12_findRings_200 (by decide) ?_
  exact j_sub hJ [1, 2, 3, 0] rfl (hK84 x1 x2 (x3 + 1) _ gx1 gx2 g1 hF)
set_option maxHeartbeats 4000000 in
set_option maxRecDepth 100000 in
theorem k_X12_findRings_b181 {l : Launch} {D : va_G} {cy : Nat → ClassId} {ad : Nat → Nat} {Q : Int → MM → Prop} {J : Nat → List (Nat × Value) → List Value → MM → Prop} (hin : jIn ad ksR.length)   (hJ : jOk l D vwCl (tyR cy) cy ad ftR ksR (XtR ad) Om RX12 cX12_findRings 5 0 ({ frames := 5, cells := 0, slots := 0, locals := 121 } : Room) Q J) {K84 : Int → Int → Int → MM → Prop} (hK84 : ∀ (x1 x2 x3 : Int) (M : MM), ri_ x1 → ri_ x2 → ri_ x3 → K84 x1 x2 x3 M → J 84 [(0, .ref (ad 0)), (1, .int (Ii x1)), (2, .int (Ii x2)), (3, .int (Ii x3))] [] M) {K125 : Int → Int → Int → Int → MM → Prop} (hK125 : ∀ (x1 x2 x3 x4 : Int) (M : MM), ri_ x1 → ri_ x2 → ri_ x3 → ri_ x4 → K125 x1 x2 x3 x4 M → J 125 [(0, .ref (ad 0)), (1, .int (Ii x1)), (2, .int (Ii x2)), (3, .int (Ii x3)), (4, .int (Ii x4))] [] M) : ∀ (x1 x2 x3 x4 : Int) (M : MM), ri_ x1 → ri_ x2 → ri_ x3 → ri_ x4 → w_X12_findRings_b181  Q K84 K125 x1 x2 x3 x4 M → J 181 [(0, .ref (ad 0)), (1, .int (Ii x1)), (2, .int (Ii x2)), (3, .int (Ii x3)), (4, .int (Ii x4))] [] M := by
  intro x1 x2 x3 x4 M gx1 gx2 gx3 gx4 hF
  unfold w_X12_findRings_b181 at hF
  refine j_iinc (lv' := [(4, .int (Ii (x4 + 1))), (0, .ref (ad 0)), (1, .int (Ii x1)), (2, .int (Ii x2)), (3, .int (Ii x3))]) (k := 4) hJ dX12_findRings_181 rfl (by decide) rfl ?_
  have g1 := hF.1; have hF := hF.2
  refine j_goto hJ 125 dX12_findRings_184 (by decide) ?_
  exact j_sub hJ [1, 2, 3, 4, 0] rfl (hK125 x1 x2 x3 (x4 + 1) _ gx1 gx2 gx3 g1 hF)
set_option maxHeartbeats 4000000 in
set_option maxRecDepth 100000 in
theorem k_X12_findRings_b125 {l : Launch} {D : va_G} {cy : Nat → ClassId} {ad : Nat → Nat} {Q : Int → MM → Prop} {J : Nat → List (Nat × Value) → List Value → MM → Prop} (hin : jIn ad ksR.length)   (hJ : jOk l D vwCl (tyR cy) cy ad ftR ksR (XtR ad) Om RX12 cX12_findRings 5 0 ({ frames := 5, cells := 0, slots := 0, locals := 121 } : Room) Q J) {K84 : Int → Int → Int → MM → Prop} (hK84 : ∀ (x1 x2 x3 : Int) (M : MM), ri_ x1 → ri_ x2 → ri_ x3 → K84 x1 x2 x3 M → J 84 [(0, .ref (ad 0)), (1, .int (Ii x1)), (2, .int (Ii x2)), (3, .int (Ii x3))] [] M) : ∀ (x1 x2 x3 x4 : Int) (M : MM), ri_ x1 → ri_ x2 → ri_ x3 → ri_ x4 → w_X12_findRings_b125  Q K84 x1 x2 x3 x4 M → J 125 [(0, .ref (ad 0)), (1, .int (Ii x1)), (2, .int (Ii x2)), (3, .int (Ii x3)), (4, .int (Ii x4))] [] M := by
  have H9 : ∀ (n : Nat) (x1 x2 x3 x4 : Int) (M : MM), ri_ x1 → ri_ x2 → ri_ x3 → ri_ x4 → jit (fun _ _ _ _ _ => False) (wb_X12_findRings_b125  Q K84) n x1 x2 x3 x4 M → J 125 [(0, .ref (ad 0)), (1, .int (Ii x1)), (2, .int (Ii x2)), (3, .int (Ii x3)), (4, .int (Ii x4))] [] M := by
    intro n
    induction n with
    | zero => intro x1 x2 x3 x4 M gx1 gx2 gx3 gx4 hF; exact False.elim hF
    | succ n ih =>
    intro x1 x2 x3 x4 M gx1 gx2 gx3 gx4 hF
    have hF : wb_X12_findRings_b125  Q K84 (jit (fun _ _ _ _ _ => False) (wb_X12_findRings_b125  Q K84) n) x1 x2 x3 x4 M := hF
    unfold wb_X12_findRings_b125 at hF
    refine j_iload hJ dX12_findRings_125 4 rfl ?_
    refine j_iload_n hJ dX12_findRings_127 rfl 2 rfl ?_
    refine j_icmp_ge hJ 187 gx4 gx2 dX12_findRings_128 (by decide) (fun z1 => ?_) (fun z1 => ?_)
    · have hF := hF.1 z1
      refine j_aload_n hJ dX12_findRings_187 rfl 0 rfl ?_
      refine j_gr (e := 53) hJ kR_0 fR_15_63 fl_X12_228 dX12_findRings_188 rfl ?_
      refine j_iload_n hJ dX12_findRings_191 rfl 1 rfl ?_
      refine j_dup2_11 hJ dX12_findRings_192 rfl rfl ?_
      refine j_iald hJ gx1 kR_53 hF.1 hF.2.1 dX12_findRings_193 (fun v2 ev2 gv2 => ?_)
      have hF := hF.2.2 v2 ev2 gv2
      refine j_iconst hJ dX12_findRings_194 ?_
      refine j_iadd hJ dX12_findRings_195 ?_
      have g3 := hF.1; have hF := hF.2
      refine j_iast hJ gx1 g3 kR_53 hF.1 hF.2.1 dX12_findRings_196 (fun M4 eM4 => ?_)
      have hF := hF.2.2 M4 eM4
      exact j_sub hJ [0, 1, 2, 3] rfl (k_X12_findRings_b197 hin  hJ hK84 x1 x2 x3 _ gx1 gx2 gx3 hF)
    · have hF := hF.2 z1
      refine j_aload_n hJ dX12_findRings_131 rfl 0 rfl ?_
      refine j_gr (e := 61) hJ kR_0 fR_15_71 fl_X12_253 dX12_findRings_132 rfl ?_
      refine j_sipush hJ dX12_findRings_135 (by decide) ?_
      refine j_iload_n hJ dX12_findRings_138 rfl 3 rfl ?_
      refine j_imul hJ dX12_findRings_139 ?_
      have g5 := hF.1; have hF := hF.2
      refine j_iload hJ dX12_findRings_140 4 rfl ?_
      refine j_iadd hJ dX12_findRings_142 ?_
      have g6 := hF.1; have hF := hF.2
      refine j_zald hJ g6 kR_61 hF.1 hF.2.1 dX12_findRings_143 (fun v7 ev7 gv7 => ?_)
      have hF := hF.2.2 v7 ev7 gv7
      refine j_if_eq hJ 181 (jz_ri gv7) dX12_findRings_144 (by decide) (fun z8 => ?_) (fun z8 => ?_)
      · have hF := hF.1 z8
        exact j_sub hJ [0, 1, 2, 3, 4] rfl (k_X12_findRings_b181 hin  hJ hK84 ih x1 x2 x3 x4 _ gx1 gx2 gx3 gx4 hF)
      · have hF := hF.2 z8
        refine j_aload_n hJ dX12_findRings_147 rfl 0 rfl ?_
        refine j_gr (e := 61) hJ kR_0 fR_15_71 fl_X12_253 dX12_findRings_148 rfl ?_
        refine j_sipush hJ dX12_findRings_151 (by decide) ?_
        refine j_iload hJ dX12_findRings_154 4 rfl ?_
        refine j_imul hJ dX12_findRings_156 ?_
        have g9 := hF.1; have hF := hF.2
        refine j_iload_n hJ dX12_findRings_157 rfl 3 rfl ?_
        refine j_iadd hJ dX12_findRings_158 ?_
        have g10 := hF.1; have hF := hF.2
        refine j_zald hJ g10 kR_61 hF.1 hF.2.1 dX12_findRings_159 (fun v11 ev11 gv11 => ?_)
        have hF := hF.2.2 v11 ev11 gv11
        refine j_if_eq hJ 181 (jz_ri gv11) dX12_findRings_160 (by decide) (fun z12 => ?_) (fun z12 => ?_)
        · have hF := hF.1 z12
          exact j_sub hJ [0, 1, 2, 3, 4] rfl (k_X12_findRings_b181 hin  hJ hK84 ih x1 x2 x3 x4 _ gx1 gx2 gx3 gx4 hF)
        · have hF := hF.2 z12
          refine j_aload_n hJ dX12_findRings_163 rfl 0 rfl ?_
          refine j_gr (e := 49) hJ kR_0 fR_15_59 fl_X12_216 dX12_findRings_164 rfl ?_
          refine j_aload_n hJ dX12_findRings_167 rfl 0 rfl ?_
          refine j_iload_n hJ dX12_findRings_168 rfl 1 rfl ?_
          refine j_iload hJ dX12_findRings_169 4 rfl ?_
          refine j_callVi hJ (c_X12_at (l := l) (D := D) (cy := cy) (ad := ad) hin) rfl om_1153 ⟨rfl, rfl, Nat.le_of_ble_eq_true rfl, Nat.le_of_ble_eq_true rfl⟩ [.int (Ii x1), .int (Ii x4)] mv_X12_545 hd_X12_atv kR_0 rfl rfl rfl (Nat.le_of_ble_eq_true rfl) dX12_findRings_171 ⟨x1, x4, rfl, gx1, gx4, hF⟩ (fun r13 M14 gr13 qM14 => ?_)
          have hF := qM14 gr13
          refine j_aload_n hJ dX12_findRings_174 rfl 0 rfl ?_
          refine j_gr (e := 53) hJ kR_0 fR_15_63 fl_X12_228 dX12_findRings_175 rfl ?_
          refine j_iload_n hJ dX12_findRings_178 rfl 1 rfl ?_
          refine j_iald hJ gx1 kR_53 hF.1 hF.2.1 dX12_findRings_179 (fun v15 ev15 gv15 => ?_)
          have hF := hF.2.2 v15 ev15 gv15
          refine j_iast hJ gr13 gv15 kR_49 hF.1 hF.2.1 dX12_findRings_180 (fun M16 eM16 => ?_)
          have hF := hF.2.2 M16 eM16
          exact j_sub hJ [0, 1, 2, 3, 4] rfl (k_X12_findRings_b181 hin  hJ hK84 ih x1 x2 x3 x4 _ gx1 gx2 gx3 gx4 hF)
  intro x1 x2 x3 x4 M gx1 gx2 gx3 gx4 hF
  obtain ⟨n, hF⟩ := hF
  exact H9 n x1 x2 x3 x4 M gx1 gx2 gx3 gx4 hF
set_option maxHeartbeats 4000000 in
set_option maxRecDepth 100000 in
theorem k_X12_findRings_b84 {l : Launch} {D : va_G} {cy : Nat → ClassId} {ad : Nat → Nat} {Q : Int → MM → Prop} {J : Nat → List (Nat × Value) → List Value → MM → Prop} (hin : jIn ad ksR.length)   (hJ : jOk l D vwCl (tyR cy) cy ad ftR ksR (XtR ad) Om RX12 cX12_findRings 5 0 ({ frames := 5, cells := 0, slots := 0, locals := 121 } : Room) Q J)  : ∀ (x1 x2 x3 : Int) (M : MM), ri_ x1 → ri_ x2 → ri_ x3 → w_X12_findRings_b84  Q  x1 x2 x3 M → J 84 [(0, .ref (ad 0)), (1, .int (Ii x1)), (2, .int (Ii x2)), (3, .int (Ii x3))] [] M := by
  have H9 : ∀ (n : Nat) (x1 x2 x3 : Int) (M : MM), ri_ x1 → ri_ x2 → ri_ x3 → jit (fun _ _ _ _ => False) (wb_X12_findRings_b84  Q ) n x1 x2 x3 M → J 84 [(0, .ref (ad 0)), (1, .int (Ii x1)), (2, .int (Ii x2)), (3, .int (Ii x3))] [] M := by
    intro n
    induction n with
    | zero => intro x1 x2 x3 M gx1 gx2 gx3 hF; exact False.elim hF
    | succ n ih =>
    intro x1 x2 x3 M gx1 gx2 gx3 hF
    have hF : wb_X12_findRings_b84  Q  (jit (fun _ _ _ _ => False) (wb_X12_findRings_b84  Q ) n) x1 x2 x3 M := hF
    unfold wb_X12_findRings_b84 at hF
    refine j_iload_n hJ dX12_findRings_84 rfl 3 rfl ?_
    refine j_iload_n hJ dX12_findRings_85 rfl 2 rfl ?_
    refine j_icmp_ge hJ 203 gx3 gx2 dX12_findRings_86 (by decide) (fun z1 => ?_) (fun z1 => ?_)
    · have hF := hF.1 z1
      exact j_vret hJ rfl dX12_findRings_203 hF
    · have hF := hF.2 z1
      refine j_aload_n hJ dX12_findRings_89 rfl 0 rfl ?_
      refine j_gr (e := 49) hJ kR_0 fR_15_59 fl_X12_216 dX12_findRings_90 rfl ?_
      refine j_aload_n hJ dX12_findRings_93 rfl 0 rfl ?_
      refine j_iload_n hJ dX12_findRings_94 rfl 1 rfl ?_
      refine j_iload_n hJ dX12_findRings_95 rfl 3 rfl ?_
      refine j_callVi hJ (c_X12_at (l := l) (D := D) (cy := cy) (ad := ad) hin) rfl om_1153 ⟨rfl, rfl, Nat.le_of_ble_eq_true rfl, Nat.le_of_ble_eq_true rfl⟩ [.int (Ii x1), .int (Ii x3)] mv_X12_545 hd_X12_atv kR_0 rfl rfl rfl (Nat.le_of_ble_eq_true rfl) dX12_findRings_96 ⟨x1, x3, rfl, gx1, gx3, hF⟩ (fun r2 M3 gr2 qM3 => ?_)
      have hF := qM3 gr2
      refine j_iald hJ gr2 kR_49 hF.1 hF.2.1 dX12_findRings_99 (fun v4 ev4 gv4 => ?_)
      have hF := hF.2.2 v4 ev4 gv4
      refine j_iconst hJ dX12_findRings_100 ?_
      refine j_icmp_ne hJ 197 gv4 rk_m1 dX12_findRings_101 (by decide) (fun z5 => ?_) (fun z5 => ?_)
      · have hF := hF.1 z5
        exact j_sub hJ [0, 1, 2, 3] rfl (k_X12_findRings_b197 hin  hJ ih x1 x2 x3 _ gx1 gx2 gx3 hF)
      · have hF := hF.2 z5
        refine j_aload_n hJ dX12_findRings_104 rfl 0 rfl ?_
        refine j_gr (e := 61) hJ kR_0 fR_15_71 fl_X12_253 dX12_findRings_105 rfl ?_
        refine j_sipush hJ dX12_findRings_108 (by decide) ?_
        refine j_iload_n hJ dX12_findRings_111 rfl 3 rfl ?_
        refine j_imul hJ dX12_findRings_112 ?_
        have g6 := hF.1; have hF := hF.2
        refine j_iload_n hJ dX12_findRings_113 rfl 3 rfl ?_
        refine j_iadd hJ dX12_findRings_114 ?_
        have g7 := hF.1; have hF := hF.2
        refine j_zald hJ g7 kR_61 hF.1 hF.2.1 dX12_findRings_115 (fun v8 ev8 gv8 => ?_)
        have hF := hF.2.2 v8 ev8 gv8
        refine j_if_ne hJ 122 (jz_ri gv8) dX12_findRings_116 (by decide) (fun z9 => ?_) (fun z9 => ?_)
        · have hF := hF.1 z9
          refine j_iload_n hJ dX12_findRings_122 rfl 3 rfl ?_
          refine j_istore (lv' := [(4, .int (Ii x3)), (0, .ref (ad 0)), (1, .int (Ii x1)), (2, .int (Ii x2)), (3, .int (Ii x3))]) hJ dX12_findRings_123 (by decide) rfl ?_
          exact j_sub hJ [1, 2, 3, 4, 0] rfl (k_X12_findRings_b125 hin  hJ ih x1 x2 x3 x3 _ gx1 gx2 gx3 gx3 hF)
        · have hF := hF.2 z9
          refine j_goto hJ 197 dX12_findRings_119 (by decide) ?_
          exact j_sub hJ [0, 1, 2, 3] rfl (k_X12_findRings_b197 hin  hJ ih x1 x2 x3 _ gx1 gx2 gx3 hF)
  intro x1 x2 x3 M gx1 gx2 gx3 hF
  obtain ⟨n, hF⟩ := hF
  exact H9 n x1 x2 x3 M gx1 gx2 gx3 hF
set_option maxHeartbeats 4000000 in
set_option maxRecDepth 100000 in
theorem k_X12_findRings_b25 {l : Launch} {D : va_G} {cy : Nat → ClassId} {ad : Nat → Nat} {Q : Int → MM → Prop} {J : Nat → List (Nat × Value) → List Value → MM → Prop} (hin : jIn ad ksR.length)   (hJ : jOk l D vwCl (tyR cy) cy ad ftR ksR (XtR ad) Om RX12 cX12_findRings 5 0 ({ frames := 5, cells := 0, slots := 0, locals := 121 } : Room) Q J) {K9 : Int → Int → Int → MM → Prop} (hK9 : ∀ (x1 x2 x3 : Int) (M : MM), ri_ x1 → ri_ x2 → ri_ x3 → K9 x1 x2 x3 M → J 9 [(0, .ref (ad 0)), (1, .int (Ii x1)), (2, .int (Ii x2)), (3, .int (Ii x3))] [] M) : ∀ (x1 x2 x3 x4 : Int) (M : MM), ri_ x1 → ri_ x2 → ri_ x3 → ri_ x4 → w_X12_findRings_b25  Q K9 x1 x2 x3 x4 M → J 25 [(0, .ref (ad 0)), (1, .int (Ii x1)), (2, .int (Ii x2)), (3, .int (Ii x3)), (4, .int (Ii x4))] [] M := by
  have H9 : ∀ (n : Nat) (x1 x2 x3 x4 : Int) (M : MM), ri_ x1 → ri_ x2 → ri_ x3 → ri_ x4 → jit (fun _ _ _ _ _ => False) (wb_X12_findRings_b25  Q K9) n x1 x2 x3 x4 M → J 25 [(0, .ref (ad 0)), (1, .int (Ii x1)), (2, .int (Ii x2)), (3, .int (Ii x3)), (4, .int (Ii x4))] [] M := by
    intro n
    induction n with
    | zero => intro x1 x2 x3 x4 M gx1 gx2 gx3 gx4 hF; exact False.elim hF
    | succ n ih =>
    intro x1 x2 x3 x4 M gx1 gx2 gx3 gx4 hF
    have hF : wb_X12_findRings_b25  Q K9 (jit (fun _ _ _ _ _ => False) (wb_X12_findRings_b25  Q K9) n) x1 x2 x3 x4 M := hF
    unfold wb_X12_findRings_b25 at hF
    refine j_iload hJ dX12_findRings_25 4 rfl ?_
    refine j_iload_n hJ dX12_findRings_27 rfl 2 rfl ?_
    refine j_icmp_ge hJ 57 gx4 gx2 dX12_findRings_28 (by decide) (fun z1 => ?_) (fun z1 => ?_)
    · have hF := hF.1 z1
      refine j_aload_n hJ dX12_findRings_57 rfl 0 rfl ?_
      refine j_gr (e := 49) hJ kR_0 fR_15_59 fl_X12_216 dX12_findRings_58 rfl ?_
      refine j_aload_n hJ dX12_findRings_61 rfl 0 rfl ?_
      refine j_iload_n hJ dX12_findRings_62 rfl 1 rfl ?_
      refine j_iload_n hJ dX12_findRings_63 rfl 3 rfl ?_
      refine j_callVi hJ (c_X12_at (l := l) (D := D) (cy := cy) (ad := ad) hin) rfl om_1153 ⟨rfl, rfl, Nat.le_of_ble_eq_true rfl, Nat.le_of_ble_eq_true rfl⟩ [.int (Ii x1), .int (Ii x3)] mv_X12_545 hd_X12_atv kR_0 rfl rfl rfl (Nat.le_of_ble_eq_true rfl) dX12_findRings_64 ⟨x1, x3, rfl, gx1, gx3, hF⟩ (fun r2 M3 gr2 qM3 => ?_)
      have hF := qM3 gr2
      refine j_iconst hJ dX12_findRings_67 ?_
      refine j_iast hJ gr2 rk_m1 kR_49 hF.1 hF.2.1 dX12_findRings_68 (fun M4 eM4 => ?_)
      have hF := hF.2.2 M4 eM4
      refine j_iinc (lv' := [(3, .int (Ii (x3 + 1))), (0, .ref (ad 0)), (1, .int (Ii x1)), (2, .int (Ii x2)), (4, .int (Ii x4))]) (k := 3) hJ dX12_findRings_69 rfl (by decide) rfl ?_
      have g5 := hF.1; have hF := hF.2
      refine j_goto hJ 9 dX12_findRings_72 (by decide) ?_
      exact j_sub hJ [1, 2, 3, 0] rfl (hK9 x1 x2 (x3 + 1) _ gx1 gx2 g5 hF)
    · have hF := hF.2 z1
      refine j_aload_n hJ dX12_findRings_31 rfl 0 rfl ?_
      refine j_gr (e := 61) hJ kR_0 fR_15_71 fl_X12_253 dX12_findRings_32 rfl ?_
      refine j_sipush hJ dX12_findRings_35 (by decide) ?_
      refine j_iload_n hJ dX12_findRings_38 rfl 3 rfl ?_
      refine j_imul hJ dX12_findRings_39 ?_
      have g6 := hF.1; have hF := hF.2
      refine j_iload hJ dX12_findRings_40 4 rfl ?_
      refine j_iadd hJ dX12_findRings_42 ?_
      have g7 := hF.1; have hF := hF.2
      refine j_aload_n hJ dX12_findRings_43 rfl 0 rfl ?_
      refine j_gr (e := 60) hJ kR_0 fR_15_70 fl_X12_249 dX12_findRings_44 rfl ?_
      refine j_iload hJ dX12_findRings_47 4 rfl ?_
      refine j_zald hJ gx4 kR_60 hF.1 hF.2.1 dX12_findRings_49 (fun v8 ev8 gv8 => ?_)
      have hF := hF.2.2 v8 ev8 gv8
      refine j_zast hJ g7 gv8 kR_61 hF.1 hF.2.1 dX12_findRings_50 (fun M9 eM9 => ?_)
      have hF := hF.2.2 M9 eM9
      refine j_iinc (lv' := [(4, .int (Ii (x4 + 1))), (0, .ref (ad 0)), (1, .int (Ii x1)), (2, .int (Ii x2)), (3, .int (Ii x3))]) (k := 4) hJ dX12_findRings_51 rfl (by decide) rfl ?_
      have g10 := hF.1; have hF := hF.2
      refine j_goto hJ 25 dX12_findRings_54 (by decide) ?_
      exact j_sub hJ [1, 2, 3, 4, 0] rfl (ih x1 x2 x3 (x4 + 1) _ gx1 gx2 gx3 g10 hF)
  intro x1 x2 x3 x4 M gx1 gx2 gx3 gx4 hF
  obtain ⟨n, hF⟩ := hF
  exact H9 n x1 x2 x3 x4 M gx1 gx2 gx3 gx4 hF
set_option maxHeartbeats 4000000 in
set_option maxRecDepth 100000 in
theorem k_X12_findRings_b9 {l : Launch} {D : va_G} {cy : Nat → ClassId} {ad : Nat → Nat} {Q : Int → MM → Prop} {J : Nat → List (Nat × Value) → List Value → MM → Prop} (hin : jIn ad ksR.length)   (hJ : jOk l D vwCl (tyR cy) cy ad ftR ksR (XtR ad) Om RX12 cX12_findRings 5 0 ({ frames := 5, cells := 0, slots := 0, locals := 121 } : Room) Q J)  : ∀ (x1 x2 x3 : Int) (M : MM), ri_ x1 → ri_ x2 → ri_ x3 → w_X12_findRings_b9  Q  x1 x2 x3 M → J 9 [(0, .ref (ad 0)), (1, .int (Ii x1)), (2, .int (Ii x2)), (3, .int (Ii x3))] [] M := by
  have H9 : ∀ (n : Nat) (x1 x2 x3 : Int) (M : MM), ri_ x1 → ri_ x2 → ri_ x3 → jit (fun _ _ _ _ => False) (wb_X12_findRings_b9  Q ) n x1 x2 x3 M → J 9 [(0, .ref (ad 0)), (1, .int (Ii x1)), (2, .int (Ii x2)), (3, .int (Ii x3))] [] M := by
    intro n
    induction n with
    | zero => intro x1 x2 x3 M gx1 gx2 gx3 hF; exact False.elim hF
    | succ n ih =>
    intro x1 x2 x3 M gx1 gx2 gx3 hF
    have hF : wb_X12_findRings_b9  Q  (jit (fun _ _ _ _ => False) (wb_X12_findRings_b9  Q ) n) x1 x2 x3 M := hF
    unfold wb_X12_findRings_b9 at hF
    refine j_iload_n hJ dX12_findRings_9 rfl 3 rfl ?_
    refine j_iload_n hJ dX12_findRings_10 rfl 2 rfl ?_
    refine j_icmp_ge hJ 75 gx3 gx2 dX12_findRings_11 (by decide) (fun z1 => ?_) (fun z1 => ?_)
    · have hF := hF.1 z1
      refine j_aload_n hJ dX12_findRings_75 rfl 0 rfl ?_
      refine j_gr (e := 53) hJ kR_0 fR_15_63 fl_X12_228 dX12_findRings_76 rfl ?_
      refine j_iload_n hJ dX12_findRings_79 rfl 1 rfl ?_
      refine j_iconst hJ dX12_findRings_80 ?_
      refine j_iast hJ gx1 rk_0 kR_53 hF.1 hF.2.1 dX12_findRings_81 (fun M2 eM2 => ?_)
      have hF := hF.2.2 M2 eM2
      refine j_iconst hJ dX12_findRings_82 ?_
      refine j_istore_n (lv' := [(3, .int (Ii 0)), (0, .ref (ad 0)), (1, .int (Ii x1)), (2, .int (Ii x2))]) hJ dX12_findRings_83 rfl (by decide) rfl ?_
      exact j_sub hJ [1, 2, 3, 0] rfl (k_X12_findRings_b84 hin  hJ  x1 x2 0 _ gx1 gx2 rk_0 hF)
    · have hF := hF.2 z1
      refine j_aload_n hJ dX12_findRings_14 rfl 0 rfl ?_
      refine j_iload_n hJ dX12_findRings_15 rfl 1 rfl ?_
      refine j_iload_n hJ dX12_findRings_16 rfl 3 rfl ?_
      refine j_iconst hJ dX12_findRings_17 ?_
      refine j_iconst hJ dX12_findRings_18 ?_
      refine j_callVv hJ (c_X12_reach (l := l) (D := D) (cy := cy) (ad := ad) hin) rfl om_1189 ⟨rfl, rfl, Nat.le_of_ble_eq_true rfl, Nat.le_of_ble_eq_true rfl⟩ [.int (Ii x1), .int (Ii x3), .int (Ii (-1)), .int (Ii 0)] mv_X12_591 hd_X12_reachv kR_0 rfl rfl rfl (Nat.le_of_ble_eq_true rfl) dX12_findRings_19 ⟨x1, x3, (-1), 0, rfl, gx1, gx3, rk_m1, (by decide), hF⟩ (fun M4 qM4 => ?_)
      have hF := qM4
      refine j_iconst hJ dX12_findRings_22 ?_
      refine j_istore (lv' := [(4, .int (Ii 0)), (0, .ref (ad 0)), (1, .int (Ii x1)), (2, .int (Ii x2)), (3, .int (Ii x3))]) hJ dX12_findRings_23 (by decide) rfl ?_
      exact j_sub hJ [1, 2, 3, 4, 0] rfl (k_X12_findRings_b25 hin  hJ ih x1 x2 x3 0 _ gx1 gx2 gx3 rk_0 hF)
  intro x1 x2 x3 M gx1 gx2 gx3 hF
  obtain ⟨n, hF⟩ := hF
  exact H9 n x1 x2 x3 M gx1 gx2 gx3 hF
set_option maxHeartbeats 4000000 in
set_option maxRecDepth 100000 in
theorem c_X12_findRings {l : Launch} {D : va_G} {cy : Nat → ClassId} {ad : Nat → Nat} (hin : jIn ad ksR.length) : jCN l D vwCl (tyR cy) cy ad ftR ksR (XtR ad) yX12_findRings (.code yX12_findRings cX12_findRings 5 none :: Om) ({ frames := 5, cells := 0, slots := 0, locals := 121 } : Room) 0 (W_X12_findRings ad) := by
  refine jCN_of (y := yX12_findRings) (cc := cX12_findRings) (nL := 5) (rk := 0) (rm := ({ frames := 5, cells := 0, slots := 0, locals := 121 } : Room)) (own := RX12) (tyR_ok cy) hin (XtR_ok ad) Om_good (by decide) rfl ?_
  intro Q av M hF
  obtain ⟨p1, rfl, gp1, hF⟩ := hF
  refine ⟨Nat.le_of_ble_eq_true rfl, fun J hJ => ?_⟩
  show J 0 [(0, .ref (ad 0)), (1, .int (Ii p1))] [] M
  unfold w_X12_findRings at hF
  refine j_aload_n hJ dX12_findRings_0 rfl 0 rfl ?_
  refine j_gr (e := 38) hJ kR_0 fR_15_48 fl_X12_183 dX12_findRings_1 rfl ?_
  refine j_iload_n hJ dX12_findRings_4 rfl 1 rfl ?_
  refine j_iald hJ gp1 kR_38 hF.1 hF.2.1 dX12_findRings_5 (fun v1 ev1 gv1 => ?_)
  have hF := hF.2.2 v1 ev1 gv1
  refine j_istore_n (lv' := [(2, .int (Ii v1)), (0, .ref (ad 0)), (1, .int (Ii p1))]) hJ dX12_findRings_6 rfl (by decide) rfl ?_
  refine j_iconst hJ dX12_findRings_7 ?_
  refine j_istore_n (lv' := [(3, .int (Ii 0)), (2, .int (Ii v1)), (0, .ref (ad 0)), (1, .int (Ii p1))]) hJ dX12_findRings_8 rfl (by decide) rfl ?_
  exact j_sub hJ [2, 3, 1, 0] rfl (k_X12_findRings_b9 hin  hJ  p1 v1 0 _ gp1 gv1 rk_0 hF)
def W_X12_areDoubles (ad : Nat → Nat) (Q : Int → MM → Prop) (av : List Value) (M : MM) : Prop := ∃ (p1 : Int) (p2 : Int) (p3 : Int), av = [.ref (ad 0), .int (Ii p1), .int (Ii p2), .int (Ii p3)] ∧ ri_ p1 ∧ ri_ p2 ∧ ri_ p3 ∧ w_X12_areDoubles  Q p1 p2 p3 M
set_option maxHeartbeats 4000000 in
set_option maxRecDepth 100000 in
theorem k_X12_areDoubles_b101 {l : Launch} {D : va_G} {cy : Nat → ClassId} {ad : Nat → Nat} {Q : Int → MM → Prop} {J : Nat → List (Nat × Value) → List Value → MM → Prop} (hin : jIn ad ksR.length)   (hJ : jOk l D vwCl (tyR cy) cy ad ftR ksR (XtR ad) Om RX12 cX12_areDoubles 6 3 ({ frames := 3, cells := 0, slots := 0, locals := 65 } : Room) Q J) {K60 : Int → Int → Int → Int → Int → MM → Prop} (hK60 : ∀ (x1 x2 x3 x4 x5 : Int) (M : MM), ri_ x1 → ri_ x2 → ri_ x3 → ri_ x4 → ri_ x5 → K60 x1 x2 x3 x4 x5 M → J 60 [(0, .ref (ad 0)), (1, .int (Ii x1)), (2, .int (Ii x2)), (3, .int (Ii x3)), (4, .int (Ii x4)), (5, .int (Ii x5))] [] M) : ∀ (x1 x2 x3 x5 s0 : Int) (M : MM), ri_ x1 → ri_ x2 → ri_ x3 → ri_ x5 → ri_ s0 → w_X12_areDoubles_b101  Q K60 x1 x2 x3 x5 s0 M → J 101 [(0, .ref (ad 0)), (1, .int (Ii x1)), (2, .int (Ii x2)), (3, .int (Ii x3)), (5, .int (Ii x5))] [.int (Ii s0)] M := by
  intro x1 x2 x3 x5 s0 M gx1 gx2 gx3 gx5 gs0 hF
  unfold w_X12_areDoubles_b101 at hF
  refine j_istore (lv' := [(4, .int (Ii s0)), (0, .ref (ad 0)), (1, .int (Ii x1)), (2, .int (Ii x2)), (3, .int (Ii x3)), (5, .int (Ii x5))]) hJ dX12_areDoubles_101 (by decide) rfl ?_
  refine j_iinc (lv' := [(5, .int (Ii (x5 + 1))), (4, .int (Ii s0)), (0, .ref (ad 0)), (1, .int (Ii x1)), (2, .int (Ii x2)), (3, .int (Ii x3))]) (k := 5) hJ dX12_areDoubles_103 rfl (by decide) rfl ?_
  have g1 := hF.1; have hF := hF.2
  refine j_goto hJ 60 dX12_areDoubles_106 (by decide) ?_
  exact j_sub hJ [2, 3, 4, 5, 1, 0] rfl (hK60 x1 x2 x3 s0 (x5 + 1) _ gx1 gx2 gx3 gs0 g1 hF)
set_option maxHeartbeats 4000000 in
set_option maxRecDepth 100000 in
theorem k_X12_areDoubles_b60 {l : Launch} {D : va_G} {cy : Nat → ClassId} {ad : Nat → Nat} {Q : Int → MM → Prop} {J : Nat → List (Nat × Value) → List Value → MM → Prop} (hin : jIn ad ksR.length)   (hJ : jOk l D vwCl (tyR cy) cy ad ftR ksR (XtR ad) Om RX12 cX12_areDoubles 6 3 ({ frames := 3, cells := 0, slots := 0, locals := 65 } : Room) Q J)  : ∀ (x1 x2 x3 x4 x5 : Int) (M : MM), ri_ x1 → ri_ x2 → ri_ x3 → ri_ x4 → ri_ x5 → w_X12_areDoubles_b60  Q  x1 x2 x3 x4 x5 M → J 60 [(0, .ref (ad 0)), (1, .int (Ii x1)), (2, .int (Ii x2)), (3, .int (Ii x3)), (4, .int (Ii x4)), (5, .int (Ii x5))] [] M := by
  have H9 : ∀ (n : Nat) (x1 x2 x3 x4 x5 : Int) (M : MM), ri_ x1 → ri_ x2 → ri_ x3 → ri_ x4 → ri_ x5 → jit (fun _ _ _ _ _ _ => False) (wb_X12_areDoubles_b60  Q ) n x1 x2 x3 x4 x5 M → J 60 [(0, .ref (ad 0)), (1, .int (Ii x1)), (2, .int (Ii x2)), (3, .int (Ii x3)), (4, .int (Ii x4)), (5, .int (Ii x5))] [] M := by
    intro n
    induction n with
    | zero => intro x1 x2 x3 x4 x5 M gx1 gx2 gx3 gx4 gx5 hF; exact False.elim hF
    | succ n ih =>
    intro x1 x2 x3 x4 x5 M gx1 gx2 gx3 gx4 gx5 hF
    have hF : wb_X12_areDoubles_b60  Q  (jit (fun _ _ _ _ _ _ => False) (wb_X12_areDoubles_b60  Q ) n) x1 x2 x3 x4 x5 M := hF
    unfold wb_X12_areDoubles_b60 at hF
    refine j_iload hJ dX12_areDoubles_60 4 rfl ?_
    refine j_if_eq hJ 109 gx4 dX12_areDoubles_62 (by decide) (fun z1 => ?_) (fun z1 => ?_)
    · have hF := hF.1 z1
      refine j_iload hJ dX12_areDoubles_109 4 rfl ?_
      exact j_zret hJ rfl hF.1 dX12_areDoubles_111 hF.2
    · have hF := hF.2 z1
      refine j_iload hJ dX12_areDoubles_65 5 rfl ?_
      refine j_aload_n hJ dX12_areDoubles_67 rfl 0 rfl ?_
      refine j_iload_n hJ dX12_areDoubles_68 rfl 1 rfl ?_
      refine j_iload_n hJ dX12_areDoubles_69 rfl 2 rfl ?_
      refine j_callVi hJ (c_X12_slotsIn (l := l) (D := D) (cy := cy) (ad := ad) hin) rfl om_1165 ⟨rfl, rfl, Nat.le_of_ble_eq_true rfl, Nat.le_of_ble_eq_true rfl⟩ [.int (Ii x1), .int (Ii x2)] mv_X12_570 hd_X12_slotsInv kR_0 rfl rfl rfl (Nat.le_of_ble_eq_true rfl) dX12_areDoubles_70 ⟨x1, x2, rfl, gx1, gx2, hF⟩ (fun r2 M3 gr2 qM3 => ?_)
      have hF := qM3 gr2
      refine j_icmp_ge hJ 109 gx5 gr2 dX12_areDoubles_73 (by decide) (fun z4 => ?_) (fun z4 => ?_)
      · have hF := hF.1 z4
        refine j_iload hJ dX12_areDoubles_109 4 rfl ?_
        exact j_zret hJ rfl hF.1 dX12_areDoubles_111 hF.2
      · have hF := hF.2 z4
        refine j_aload_n hJ dX12_areDoubles_76 rfl 0 rfl ?_
        refine j_iload_n hJ dX12_areDoubles_77 rfl 1 rfl ?_
        refine j_iload_n hJ dX12_areDoubles_78 rfl 2 rfl ?_
        refine j_iload hJ dX12_areDoubles_79 5 rfl ?_
        refine j_callVl hJ (c_X12_valueIn (l := l) (D := D) (cy := cy) (ad := ad) hin) rfl om_1173 ⟨rfl, rfl, Nat.le_of_ble_eq_true rfl, Nat.le_of_ble_eq_true rfl⟩ [.int (Ii x1), .int (Ii x2), .int (Ii x5)] mv_X12_577 hd_X12_valueInv kR_0 rfl rfl rfl (Nat.le_of_ble_eq_true rfl) dX12_areDoubles_81 ⟨x1, x2, x5, rfl, gx1, gx2, gx5, hF⟩ (fun r5 M6 gr5 qM6 => ?_)
        have hF := qM6 gr5
        refine j_aload_n hJ dX12_areDoubles_84 rfl 0 rfl ?_
        refine j_iload_n hJ dX12_areDoubles_85 rfl 1 rfl ?_
        refine j_iload_n hJ dX12_areDoubles_86 rfl 3 rfl ?_
        refine j_iload hJ dX12_areDoubles_87 5 rfl ?_
        refine j_callVl hJ (c_X12_valueIn (l := l) (D := D) (cy := cy) (ad := ad) hin) rfl om_1173 ⟨rfl, rfl, Nat.le_of_ble_eq_true rfl, Nat.le_of_ble_eq_true rfl⟩ [.int (Ii x1), .int (Ii x3), .int (Ii x5)] mv_X12_577 hd_X12_valueInv kR_0 rfl rfl rfl (Nat.le_of_ble_eq_true rfl) dX12_areDoubles_89 ⟨x1, x3, x5, rfl, gx1, gx3, gx5, hF⟩ (fun r7 M8 gr7 qM8 => ?_)
        have hF := qM8 gr7
        refine j_lcmp_ne hJ 100 gr5 gr7 dX12_areDoubles_92 dX12_areDoubles_93 (by decide) (fun z9 => ?_) (fun z9 => ?_)
        · have hF := hF.1 z9
          refine j_iconst hJ dX12_areDoubles_100 ?_
          exact j_sub hJ [0, 1, 2, 3, 5] rfl (k_X12_areDoubles_b101 hin  hJ ih x1 x2 x3 x5 0 _ gx1 gx2 gx3 gx5 rk_0 hF)
        · have hF := hF.2 z9
          refine j_iconst hJ dX12_areDoubles_96 ?_
          refine j_goto hJ 101 dX12_areDoubles_97 (by decide) ?_
          exact j_sub hJ [0, 1, 2, 3, 5] rfl (k_X12_areDoubles_b101 hin  hJ ih x1 x2 x3 x5 1 _ gx1 gx2 gx3 gx5 rk_1 hF)
  intro x1 x2 x3 x4 x5 M gx1 gx2 gx3 gx4 gx5 hF
  obtain ⟨n, hF⟩ := hF
  exact H9 n x1 x2 x3 x4 x5 M gx1 gx2 gx3 gx4 gx5 hF
set_option maxHeartbeats 4000000 in
set_option maxRecDepth 100000 in
theorem k_X12_areDoubles_b55 {l : Launch} {D : va_G} {cy : Nat → ClassId} {ad : Nat → Nat} {Q : Int → MM → Prop} {J : Nat → List (Nat × Value) → List Value → MM → Prop} (hin : jIn ad ksR.length)   (hJ : jOk l D vwCl (tyR cy) cy ad ftR ksR (XtR ad) Om RX12 cX12_areDoubles 6 3 ({ frames := 3, cells := 0, slots := 0, locals := 65 } : Room) Q J)  : ∀ (x1 x2 x3 s0 : Int) (M : MM), ri_ x1 → ri_ x2 → ri_ x3 → ri_ s0 → w_X12_areDoubles_b55  Q  x1 x2 x3 s0 M → J 55 [(0, .ref (ad 0)), (1, .int (Ii x1)), (2, .int (Ii x2)), (3, .int (Ii x3))] [.int (Ii s0)] M := by
  intro x1 x2 x3 s0 M gx1 gx2 gx3 gs0 hF
  unfold w_X12_areDoubles_b55 at hF
  refine j_istore (lv' := [(4, .int (Ii s0)), (0, .ref (ad 0)), (1, .int (Ii x1)), (2, .int (Ii x2)), (3, .int (Ii x3))]) hJ dX12_areDoubles_55 (by decide) rfl ?_
  refine j_iconst hJ dX12_areDoubles_57 ?_
  refine j_istore (lv' := [(5, .int (Ii 0)), (4, .int (Ii s0)), (0, .ref (ad 0)), (1, .int (Ii x1)), (2, .int (Ii x2)), (3, .int (Ii x3))]) hJ dX12_areDoubles_58 (by decide) rfl ?_
  exact j_sub hJ [2, 3, 4, 5, 1, 0] rfl (k_X12_areDoubles_b60 hin  hJ  x1 x2 x3 s0 0 _ gx1 gx2 gx3 gs0 rk_0 hF)
set_option maxHeartbeats 4000000 in
set_option maxRecDepth 100000 in
theorem k_X12_areDoubles_b54 {l : Launch} {D : va_G} {cy : Nat → ClassId} {ad : Nat → Nat} {Q : Int → MM → Prop} {J : Nat → List (Nat × Value) → List Value → MM → Prop} (hin : jIn ad ksR.length)   (hJ : jOk l D vwCl (tyR cy) cy ad ftR ksR (XtR ad) Om RX12 cX12_areDoubles 6 3 ({ frames := 3, cells := 0, slots := 0, locals := 65 } : Room) Q J)  : ∀ (x1 x2 x3 : Int) (M : MM), ri_ x1 → ri_ x2 → ri_ x3 → w_X12_areDoubles_b54  Q  x1 x2 x3 M → J 54 [(0, .ref (ad 0)), (1, .int (Ii x1)), (2, .int (Ii x2)), (3, .int (Ii x3))] [] M := by
  intro x1 x2 x3 M gx1 gx2 gx3 hF
  unfold w_X12_areDoubles_b54 at hF
  refine j_iconst hJ dX12_areDoubles_54 ?_
  exact j_sub hJ [0, 1, 2, 3] rfl (k_X12_areDoubles_b55 hin  hJ  x1 x2 x3 0 _ gx1 gx2 gx3 rk_0 hF)
set_option maxHeartbeats 4000000 in
set_option maxRecDepth 100000 in
theorem c_X12_areDoubles {l : Launch} {D : va_G} {cy : Nat → ClassId} {ad : Nat → Nat} (hin : jIn ad ksR.length) : jCN l D vwCl (tyR cy) cy ad ftR ksR (XtR ad) yX12_areDoubles (.code yX12_areDoubles cX12_areDoubles 6 (some .boolean) :: Om) ({ frames := 3, cells := 0, slots := 0, locals := 65 } : Room) 3 (W_X12_areDoubles ad) := by
  refine jCN_of (y := yX12_areDoubles) (cc := cX12_areDoubles) (nL := 6) (rk := 3) (rm := ({ frames := 3, cells := 0, slots := 0, locals := 65 } : Room)) (own := RX12) (tyR_ok cy) hin (XtR_ok ad) Om_good (by decide) rfl ?_
  intro Q av M hF
  obtain ⟨p1, p2, p3, rfl, gp1, gp2, gp3, hF⟩ := hF
  refine ⟨Nat.le_of_ble_eq_true rfl, fun J hJ => ?_⟩
  show J 0 [(0, .ref (ad 0)), (1, .int (Ii p1)), (2, .int (Ii p2)), (3, .int (Ii p3))] [] M
  unfold w_X12_areDoubles at hF
  refine j_aload_n hJ dX12_areDoubles_0 rfl 0 rfl ?_
  refine j_gr (e := 40) hJ kR_0 fR_15_50 fl_X12_189 dX12_areDoubles_1 rfl ?_
  refine j_aload_n hJ dX12_areDoubles_4 rfl 0 rfl ?_
  refine j_iload_n hJ dX12_areDoubles_5 rfl 1 rfl ?_
  refine j_iload_n hJ dX12_areDoubles_6 rfl 2 rfl ?_
  refine j_callVi hJ (c_X12_at (l := l) (D := D) (cy := cy) (ad := ad) hin) rfl om_1153 ⟨rfl, rfl, Nat.le_of_ble_eq_true rfl, Nat.le_of_ble_eq_true rfl⟩ [.int (Ii p1), .int (Ii p2)] mv_X12_545 hd_X12_atv kR_0 rfl rfl rfl (Nat.le_of_ble_eq_true rfl) dX12_areDoubles_7 ⟨p1, p2, rfl, gp1, gp2, hF⟩ (fun r1 M2 gr1 qM2 => ?_)
  have hF := qM2 gr1
  refine j_iald hJ gr1 kR_40 hF.1 hF.2.1 dX12_areDoubles_10 (fun v3 ev3 gv3 => ?_)
  have hF := hF.2.2 v3 ev3 gv3
  refine j_aload_n hJ dX12_areDoubles_11 rfl 0 rfl ?_
  refine j_gr (e := 40) hJ kR_0 fR_15_50 fl_X12_189 dX12_areDoubles_12 rfl ?_
  refine j_aload_n hJ dX12_areDoubles_15 rfl 0 rfl ?_
  refine j_iload_n hJ dX12_areDoubles_16 rfl 1 rfl ?_
  refine j_iload_n hJ dX12_areDoubles_17 rfl 3 rfl ?_
  refine j_callVi hJ (c_X12_at (l := l) (D := D) (cy := cy) (ad := ad) hin) rfl om_1153 ⟨rfl, rfl, Nat.le_of_ble_eq_true rfl, Nat.le_of_ble_eq_true rfl⟩ [.int (Ii p1), .int (Ii p3)] mv_X12_545 hd_X12_atv kR_0 rfl rfl rfl (Nat.le_of_ble_eq_true rfl) dX12_areDoubles_18 ⟨p1, p3, rfl, gp1, gp3, hF⟩ (fun r4 M5 gr4 qM5 => ?_)
  have hF := qM5 gr4
  refine j_iald hJ gr4 kR_40 hF.1 hF.2.1 dX12_areDoubles_21 (fun v6 ev6 gv6 => ?_)
  have hF := hF.2.2 v6 ev6 gv6
  refine j_icmp_ne hJ 54 gv3 gv6 dX12_areDoubles_22 (by decide) (fun z7 => ?_) (fun z7 => ?_)
  · have hF := hF.1 z7
    exact j_sub hJ [0, 1, 2, 3] rfl (k_X12_areDoubles_b54 hin  hJ  p1 p2 p3 _ gp1 gp2 gp3 hF)
  · have hF := hF.2 z7
    refine j_aload_n hJ dX12_areDoubles_25 rfl 0 rfl ?_
    refine j_gr (e := 41) hJ kR_0 fR_15_51 fl_X12_192 dX12_areDoubles_26 rfl ?_
    refine j_aload_n hJ dX12_areDoubles_29 rfl 0 rfl ?_
    refine j_iload_n hJ dX12_areDoubles_30 rfl 1 rfl ?_
    refine j_iload_n hJ dX12_areDoubles_31 rfl 2 rfl ?_
    refine j_callVi hJ (c_X12_at (l := l) (D := D) (cy := cy) (ad := ad) hin) rfl om_1153 ⟨rfl, rfl, Nat.le_of_ble_eq_true rfl, Nat.le_of_ble_eq_true rfl⟩ [.int (Ii p1), .int (Ii p2)] mv_X12_545 hd_X12_atv kR_0 rfl rfl rfl (Nat.le_of_ble_eq_true rfl) dX12_areDoubles_32 ⟨p1, p2, rfl, gp1, gp2, hF⟩ (fun r8 M9 gr8 qM9 => ?_)
    have hF := qM9 gr8
    refine j_iald hJ gr8 kR_41 hF.1 hF.2.1 dX12_areDoubles_35 (fun v10 ev10 gv10 => ?_)
    have hF := hF.2.2 v10 ev10 gv10
    refine j_aload_n hJ dX12_areDoubles_36 rfl 0 rfl ?_
    refine j_gr (e := 41) hJ kR_0 fR_15_51 fl_X12_192 dX12_areDoubles_37 rfl ?_
    refine j_aload_n hJ dX12_areDoubles_40 rfl 0 rfl ?_
    refine j_iload_n hJ dX12_areDoubles_41 rfl 1 rfl ?_
    refine j_iload_n hJ dX12_areDoubles_42 rfl 3 rfl ?_
    refine j_callVi hJ (c_X12_at (l := l) (D := D) (cy := cy) (ad := ad) hin) rfl om_1153 ⟨rfl, rfl, Nat.le_of_ble_eq_true rfl, Nat.le_of_ble_eq_true rfl⟩ [.int (Ii p1), .int (Ii p3)] mv_X12_545 hd_X12_atv kR_0 rfl rfl rfl (Nat.le_of_ble_eq_true rfl) dX12_areDoubles_43 ⟨p1, p3, rfl, gp1, gp3, hF⟩ (fun r11 M12 gr11 qM12 => ?_)
    have hF := qM12 gr11
    refine j_iald hJ gr11 kR_41 hF.1 hF.2.1 dX12_areDoubles_46 (fun v13 ev13 gv13 => ?_)
    have hF := hF.2.2 v13 ev13 gv13
    refine j_icmp_ne hJ 54 gv10 gv13 dX12_areDoubles_47 (by decide) (fun z14 => ?_) (fun z14 => ?_)
    · have hF := hF.1 z14
      exact j_sub hJ [0, 1, 2, 3] rfl (k_X12_areDoubles_b54 hin  hJ  p1 p2 p3 _ gp1 gp2 gp3 hF)
    · have hF := hF.2 z14
      refine j_iconst hJ dX12_areDoubles_50 ?_
      refine j_goto hJ 55 dX12_areDoubles_51 (by decide) ?_
      exact j_sub hJ [0, 1, 2, 3] rfl (k_X12_areDoubles_b55 hin  hJ  p1 p2 p3 1 _ gp1 gp2 gp3 rk_1 hF)
def W_X12_findGroups (ad : Nat → Nat) (Q : Int → MM → Prop) (av : List Value) (M : MM) : Prop := ∃ (p1 : Int), av = [.ref (ad 0), .int (Ii p1)] ∧ ri_ p1 ∧ w_X12_findGroups  Q p1 M
set_option maxHeartbeats 4000000 in
set_option maxRecDepth 100000 in
theorem k_X12_findGroups_b175 {l : Launch} {D : va_G} {cy : Nat → ClassId} {ad : Nat → Nat} {Q : Int → MM → Prop} {J : Nat → List (Nat × Value) → List Value → MM → Prop} (hin : jIn ad ksR.length)   (hJ : jOk l D vwCl (tyR cy) cy ad ftR ksR (XtR ad) Om RX12 cX12_findGroups 5 0 ({ frames := 4, cells := 0, slots := 0, locals := 90 } : Room) Q J) {K39 : Int → Int → MM → Prop} (hK39 : ∀ (x1 x2 : Int) (M : MM), ri_ x1 → ri_ x2 → K39 x1 x2 M → J 39 [(0, .ref (ad 0)), (1, .int (Ii x1)), (2, .int (Ii x2))] [] M) : ∀ (x1 x2 : Int) (M : MM), ri_ x1 → ri_ x2 → w_X12_findGroups_b175  Q K39 x1 x2 M → J 175 [(0, .ref (ad 0)), (1, .int (Ii x1)), (2, .int (Ii x2))] [] M := by
  intro x1 x2 M gx1 gx2 hF
  unfold w_X12_findGroups_b175 at hF
  refine j_iinc (lv' := [(2, .int (Ii (x2 + 1))), (0, .ref (ad 0)), (1, .int (Ii x1))]) (k := 2) hJ dX12_findGroups_175 rfl (by decide) rfl ?_
  have g1 := hF.1; have hF := hF.2
  refine j_goto hJ 39 dX12_findGroups_178 (by decide) ?_
  exact j_sub hJ [1, 2, 0] rfl (hK39 x1 (x2 + 1) _ gx1 g1 hF)
set_option maxHeartbeats 4000000 in
set_option maxRecDepth 100000 in
theorem k_X12_findGroups_b135 {l : Launch} {D : va_G} {cy : Nat → ClassId} {ad : Nat → Nat} {Q : Int → MM → Prop} {J : Nat → List (Nat × Value) → List Value → MM → Prop} (hin : jIn ad ksR.length)   (hJ : jOk l D vwCl (tyR cy) cy ad ftR ksR (XtR ad) Om RX12 cX12_findGroups 5 0 ({ frames := 4, cells := 0, slots := 0, locals := 90 } : Room) Q J) {K39 : Int → Int → MM → Prop} (hK39 : ∀ (x1 x2 : Int) (M : MM), ri_ x1 → ri_ x2 → K39 x1 x2 M → J 39 [(0, .ref (ad 0)), (1, .int (Ii x1)), (2, .int (Ii x2))] [] M) {K74 : Int → Int → Int → Int → MM → Prop} (hK74 : ∀ (x1 x2 x3 x4 : Int) (M : MM), ri_ x1 → ri_ x2 → ri_ x3 → ri_ x4 → K74 x1 x2 x3 x4 M → J 74 [(0, .ref (ad 0)), (1, .int (Ii x1)), (2, .int (Ii x2)), (3, .int (Ii x3)), (4, .int (Ii x4))] [] M) : ∀ (x1 x2 x3 x4 : Int) (M : MM), ri_ x1 → ri_ x2 → ri_ x3 → ri_ x4 → w_X12_findGroups_b135  Q K39 K74 x1 x2 x3 x4 M → J 135 [(0, .ref (ad 0)), (1, .int (Ii x1)), (2, .int (Ii x2)), (3, .int (Ii x3)), (4, .int (Ii x4))] [] M := by
  intro x1 x2 x3 x4 M gx1 gx2 gx3 gx4 hF
  unfold w_X12_findGroups_b135 at hF
  refine j_iinc (lv' := [(4, .int (Ii (x4 + 1))), (0, .ref (ad 0)), (1, .int (Ii x1)), (2, .int (Ii x2)), (3, .int (Ii x3))]) (k := 4) hJ dX12_findGroups_135 rfl (by decide) rfl ?_
  have g1 := hF.1; have hF := hF.2
  refine j_goto hJ 74 dX12_findGroups_138 (by decide) ?_
  exact j_sub hJ [1, 2, 3, 4, 0] rfl (hK74 x1 x2 x3 (x4 + 1) _ gx1 gx2 gx3 g1 hF)
set_option maxHeartbeats 4000000 in
set_option maxRecDepth 100000 in
theorem k_X12_findGroups_b74 {l : Launch} {D : va_G} {cy : Nat → ClassId} {ad : Nat → Nat} {Q : Int → MM → Prop} {J : Nat → List (Nat × Value) → List Value → MM → Prop} (hin : jIn ad ksR.length)   (hJ : jOk l D vwCl (tyR cy) cy ad ftR ksR (XtR ad) Om RX12 cX12_findGroups 5 0 ({ frames := 4, cells := 0, slots := 0, locals := 90 } : Room) Q J) {K39 : Int → Int → MM → Prop} (hK39 : ∀ (x1 x2 : Int) (M : MM), ri_ x1 → ri_ x2 → K39 x1 x2 M → J 39 [(0, .ref (ad 0)), (1, .int (Ii x1)), (2, .int (Ii x2))] [] M) : ∀ (x1 x2 x3 x4 : Int) (M : MM), ri_ x1 → ri_ x2 → ri_ x3 → ri_ x4 → w_X12_findGroups_b74  Q K39 x1 x2 x3 x4 M → J 74 [(0, .ref (ad 0)), (1, .int (Ii x1)), (2, .int (Ii x2)), (3, .int (Ii x3)), (4, .int (Ii x4))] [] M := by
  have H9 : ∀ (n : Nat) (x1 x2 x3 x4 : Int) (M : MM), ri_ x1 → ri_ x2 → ri_ x3 → ri_ x4 → jit (fun _ _ _ _ _ => False) (wb_X12_findGroups_b74  Q K39) n x1 x2 x3 x4 M → J 74 [(0, .ref (ad 0)), (1, .int (Ii x1)), (2, .int (Ii x2)), (3, .int (Ii x3)), (4, .int (Ii x4))] [] M := by
    intro n
    induction n with
    | zero => intro x1 x2 x3 x4 M gx1 gx2 gx3 gx4 hF; exact False.elim hF
    | succ n ih =>
    intro x1 x2 x3 x4 M gx1 gx2 gx3 gx4 hF
    have hF : wb_X12_findGroups_b74  Q K39 (jit (fun _ _ _ _ _ => False) (wb_X12_findGroups_b74  Q K39) n) x1 x2 x3 x4 M := hF
    unfold wb_X12_findGroups_b74 at hF
    refine j_iload hJ dX12_findGroups_74 4 rfl ?_
    refine j_aload_n hJ dX12_findGroups_76 rfl 0 rfl ?_
    refine j_gr (e := 38) hJ kR_0 fR_15_48 fl_X12_183 dX12_findGroups_77 rfl ?_
    refine j_iload_n hJ dX12_findGroups_80 rfl 1 rfl ?_
    refine j_iald hJ gx1 kR_38 hF.1 hF.2.1 dX12_findGroups_81 (fun v1 ev1 gv1 => ?_)
    have hF := hF.2.2 v1 ev1 gv1
    refine j_icmp_ge hJ 141 gx4 gv1 dX12_findGroups_82 (by decide) (fun z2 => ?_) (fun z2 => ?_)
    · have hF := hF.1 z2
      refine j_iload_n hJ dX12_findGroups_141 rfl 3 rfl ?_
      refine j_if_ne hJ 148 gx3 dX12_findGroups_142 (by decide) (fun z3 => ?_) (fun z3 => ?_)
      · have hF := hF.1 z3
        refine j_aload_n hJ dX12_findGroups_148 rfl 0 rfl ?_
        refine j_gr (e := 50) hJ kR_0 fR_15_60 fl_X12_219 dX12_findGroups_149 rfl ?_
        refine j_aload_n hJ dX12_findGroups_152 rfl 0 rfl ?_
        refine j_iload_n hJ dX12_findGroups_153 rfl 1 rfl ?_
        refine j_iload_n hJ dX12_findGroups_154 rfl 2 rfl ?_
        refine j_callVi hJ (c_X12_at (l := l) (D := D) (cy := cy) (ad := ad) hin) rfl om_1153 ⟨rfl, rfl, Nat.le_of_ble_eq_true rfl, Nat.le_of_ble_eq_true rfl⟩ [.int (Ii x1), .int (Ii x2)] mv_X12_545 hd_X12_atv kR_0 rfl rfl rfl (Nat.le_of_ble_eq_true rfl) dX12_findGroups_155 ⟨x1, x2, rfl, gx1, gx2, hF⟩ (fun r4 M5 gr4 qM5 => ?_)
        have hF := qM5 gr4
        refine j_aload_n hJ dX12_findGroups_158 rfl 0 rfl ?_
        refine j_gr (e := 54) hJ kR_0 fR_15_64 fl_X12_231 dX12_findGroups_159 rfl ?_
        refine j_iload_n hJ dX12_findGroups_162 rfl 1 rfl ?_
        refine j_iald hJ gx1 kR_54 hF.1 hF.2.1 dX12_findGroups_163 (fun v6 ev6 gv6 => ?_)
        have hF := hF.2.2 v6 ev6 gv6
        refine j_iast hJ gr4 gv6 kR_50 hF.1 hF.2.1 dX12_findGroups_164 (fun M7 eM7 => ?_)
        have hF := hF.2.2 M7 eM7
        refine j_aload_n hJ dX12_findGroups_165 rfl 0 rfl ?_
        refine j_gr (e := 54) hJ kR_0 fR_15_64 fl_X12_231 dX12_findGroups_166 rfl ?_
        refine j_iload_n hJ dX12_findGroups_169 rfl 1 rfl ?_
        refine j_dup2_11 hJ dX12_findGroups_170 rfl rfl ?_
        refine j_iald hJ gx1 kR_54 hF.1 hF.2.1 dX12_findGroups_171 (fun v8 ev8 gv8 => ?_)
        have hF := hF.2.2 v8 ev8 gv8
        refine j_iconst hJ dX12_findGroups_172 ?_
        refine j_iadd hJ dX12_findGroups_173 ?_
        have g9 := hF.1; have hF := hF.2
        refine j_iast hJ gx1 g9 kR_54 hF.1 hF.2.1 dX12_findGroups_174 (fun M10 eM10 => ?_)
        have hF := hF.2.2 M10 eM10
        exact j_sub hJ [0, 1, 2] rfl (k_X12_findGroups_b175 hin  hJ hK39 x1 x2 _ gx1 gx2 hF)
      · have hF := hF.2 z3
        refine j_goto hJ 175 dX12_findGroups_145 (by decide) ?_
        exact j_sub hJ [0, 1, 2] rfl (k_X12_findGroups_b175 hin  hJ hK39 x1 x2 _ gx1 gx2 hF)
    · have hF := hF.2 z2
      refine j_aload_n hJ dX12_findGroups_85 rfl 0 rfl ?_
      refine j_gr (e := 50) hJ kR_0 fR_15_60 fl_X12_219 dX12_findGroups_86 rfl ?_
      refine j_aload_n hJ dX12_findGroups_89 rfl 0 rfl ?_
      refine j_iload_n hJ dX12_findGroups_90 rfl 1 rfl ?_
      refine j_iload hJ dX12_findGroups_91 4 rfl ?_
      refine j_callVi hJ (c_X12_at (l := l) (D := D) (cy := cy) (ad := ad) hin) rfl om_1153 ⟨rfl, rfl, Nat.le_of_ble_eq_true rfl, Nat.le_of_ble_eq_true rfl⟩ [.int (Ii x1), .int (Ii x4)] mv_X12_545 hd_X12_atv kR_0 rfl rfl rfl (Nat.le_of_ble_eq_true rfl) dX12_findGroups_93 ⟨x1, x4, rfl, gx1, gx4, hF⟩ (fun r11 M12 gr11 qM12 => ?_)
      have hF := qM12 gr11
      refine j_iald hJ gr11 kR_50 hF.1 hF.2.1 dX12_findGroups_96 (fun v13 ev13 gv13 => ?_)
      have hF := hF.2.2 v13 ev13 gv13
      refine j_iconst hJ dX12_findGroups_97 ?_
      refine j_icmp_ne hJ 135 gv13 rk_m1 dX12_findGroups_98 (by decide) (fun z14 => ?_) (fun z14 => ?_)
      · have hF := hF.1 z14
        exact j_sub hJ [0, 1, 2, 3, 4] rfl (k_X12_findGroups_b135 hin  hJ hK39 ih x1 x2 x3 x4 _ gx1 gx2 gx3 gx4 hF)
      · have hF := hF.2 z14
        refine j_aload_n hJ dX12_findGroups_101 rfl 0 rfl ?_
        refine j_iload_n hJ dX12_findGroups_102 rfl 1 rfl ?_
        refine j_iload_n hJ dX12_findGroups_103 rfl 2 rfl ?_
        refine j_iload hJ dX12_findGroups_104 4 rfl ?_
        refine j_callVz hJ (c_X12_areDoubles (l := l) (D := D) (cy := cy) (ad := ad) hin) rfl om_1304 ⟨rfl, rfl, Nat.le_of_ble_eq_true rfl, Nat.le_of_ble_eq_true rfl⟩ [.int (Ii x1), .int (Ii x2), .int (Ii x4)] mv_X12_597 hd_X12_areDoublesv kR_0 rfl rfl rfl (Nat.le_of_ble_eq_true rfl) dX12_findGroups_106 ⟨x1, x2, x4, rfl, gx1, gx2, gx4, hF⟩ (fun r15 M16 gr15 qM16 => ?_)
        have hF := qM16 gr15
        refine j_if_ne hJ 115 (jz_ri gr15) dX12_findGroups_109 (by decide) (fun z17 => ?_) (fun z17 => ?_)
        · have hF := hF.1 z17
          refine j_aload_n hJ dX12_findGroups_115 rfl 0 rfl ?_
          refine j_gr (e := 50) hJ kR_0 fR_15_60 fl_X12_219 dX12_findGroups_116 rfl ?_
          refine j_aload_n hJ dX12_findGroups_119 rfl 0 rfl ?_
          refine j_iload_n hJ dX12_findGroups_120 rfl 1 rfl ?_
          refine j_iload hJ dX12_findGroups_121 4 rfl ?_
          refine j_callVi hJ (c_X12_at (l := l) (D := D) (cy := cy) (ad := ad) hin) rfl om_1153 ⟨rfl, rfl, Nat.le_of_ble_eq_true rfl, Nat.le_of_ble_eq_true rfl⟩ [.int (Ii x1), .int (Ii x4)] mv_X12_545 hd_X12_atv kR_0 rfl rfl rfl (Nat.le_of_ble_eq_true rfl) dX12_findGroups_123 ⟨x1, x4, rfl, gx1, gx4, hF⟩ (fun r18 M19 gr18 qM19 => ?_)
          have hF := qM19 gr18
          refine j_aload_n hJ dX12_findGroups_126 rfl 0 rfl ?_
          refine j_gr (e := 54) hJ kR_0 fR_15_64 fl_X12_231 dX12_findGroups_127 rfl ?_
          refine j_iload_n hJ dX12_findGroups_130 rfl 1 rfl ?_
          refine j_iald hJ gx1 kR_54 hF.1 hF.2.1 dX12_findGroups_131 (fun v20 ev20 gv20 => ?_)
          have hF := hF.2.2 v20 ev20 gv20
          refine j_iast hJ gr18 gv20 kR_50 hF.1 hF.2.1 dX12_findGroups_132 (fun M21 eM21 => ?_)
          have hF := hF.2.2 M21 eM21
          refine j_iconst hJ dX12_findGroups_133 ?_
          refine j_istore_n (lv' := [(3, .int (Ii 1)), (0, .ref (ad 0)), (1, .int (Ii x1)), (2, .int (Ii x2)), (4, .int (Ii x4))]) hJ dX12_findGroups_134 rfl (by decide) rfl ?_
          exact j_sub hJ [1, 2, 3, 0, 4] rfl (k_X12_findGroups_b135 hin  hJ hK39 ih x1 x2 1 x4 _ gx1 gx2 rk_1 gx4 hF)
        · have hF := hF.2 z17
          refine j_goto hJ 135 dX12_findGroups_112 (by decide) ?_
          exact j_sub hJ [0, 1, 2, 3, 4] rfl (k_X12_findGroups_b135 hin  hJ hK39 ih x1 x2 x3 x4 _ gx1 gx2 gx3 gx4 hF)
  intro x1 x2 x3 x4 M gx1 gx2 gx3 gx4 hF
  obtain ⟨n, hF⟩ := hF
  exact H9 n x1 x2 x3 x4 M gx1 gx2 gx3 gx4 hF
set_option maxHeartbeats 4000000 in
set_option maxRecDepth 100000 in
theorem k_X12_findGroups_b39 {l : Launch} {D : va_G} {cy : Nat → ClassId} {ad : Nat → Nat} {Q : Int → MM → Prop} {J : Nat → List (Nat × Value) → List Value → MM → Prop} (hin : jIn ad ksR.length)   (hJ : jOk l D vwCl (tyR cy) cy ad ftR ksR (XtR ad) Om RX12 cX12_findGroups 5 0 ({ frames := 4, cells := 0, slots := 0, locals := 90 } : Room) Q J)  : ∀ (x1 x2 : Int) (M : MM), ri_ x1 → ri_ x2 → w_X12_findGroups_b39  Q  x1 x2 M → J 39 [(0, .ref (ad 0)), (1, .int (Ii x1)), (2, .int (Ii x2))] [] M := by
  have H9 : ∀ (n : Nat) (x1 x2 : Int) (M : MM), ri_ x1 → ri_ x2 → jit (fun _ _ _ => False) (wb_X12_findGroups_b39  Q ) n x1 x2 M → J 39 [(0, .ref (ad 0)), (1, .int (Ii x1)), (2, .int (Ii x2))] [] M := by
    intro n
    induction n with
    | zero => intro x1 x2 M gx1 gx2 hF; exact False.elim hF
    | succ n ih =>
    intro x1 x2 M gx1 gx2 hF
    have hF : wb_X12_findGroups_b39  Q  (jit (fun _ _ _ => False) (wb_X12_findGroups_b39  Q ) n) x1 x2 M := hF
    unfold wb_X12_findGroups_b39 at hF
    refine j_iload_n hJ dX12_findGroups_39 rfl 2 rfl ?_
    refine j_aload_n hJ dX12_findGroups_40 rfl 0 rfl ?_
    refine j_gr (e := 38) hJ kR_0 fR_15_48 fl_X12_183 dX12_findGroups_41 rfl ?_
    refine j_iload_n hJ dX12_findGroups_44 rfl 1 rfl ?_
    refine j_iald hJ gx1 kR_38 hF.1 hF.2.1 dX12_findGroups_45 (fun v1 ev1 gv1 => ?_)
    have hF := hF.2.2 v1 ev1 gv1
    refine j_icmp_ge hJ 181 gx2 gv1 dX12_findGroups_46 (by decide) (fun z2 => ?_) (fun z2 => ?_)
    · have hF := hF.1 z2
      exact j_vret hJ rfl dX12_findGroups_181 hF
    · have hF := hF.2 z2
      refine j_aload_n hJ dX12_findGroups_49 rfl 0 rfl ?_
      refine j_gr (e := 50) hJ kR_0 fR_15_60 fl_X12_219 dX12_findGroups_50 rfl ?_
      refine j_aload_n hJ dX12_findGroups_53 rfl 0 rfl ?_
      refine j_iload_n hJ dX12_findGroups_54 rfl 1 rfl ?_
      refine j_iload_n hJ dX12_findGroups_55 rfl 2 rfl ?_
      refine j_callVi hJ (c_X12_at (l := l) (D := D) (cy := cy) (ad := ad) hin) rfl om_1153 ⟨rfl, rfl, Nat.le_of_ble_eq_true rfl, Nat.le_of_ble_eq_true rfl⟩ [.int (Ii x1), .int (Ii x2)] mv_X12_545 hd_X12_atv kR_0 rfl rfl rfl (Nat.le_of_ble_eq_true rfl) dX12_findGroups_56 ⟨x1, x2, rfl, gx1, gx2, hF⟩ (fun r3 M4 gr3 qM4 => ?_)
      have hF := qM4 gr3
      refine j_iald hJ gr3 kR_50 hF.1 hF.2.1 dX12_findGroups_59 (fun v5 ev5 gv5 => ?_)
      have hF := hF.2.2 v5 ev5 gv5
      refine j_iconst hJ dX12_findGroups_60 ?_
      refine j_icmp_eq hJ 67 gv5 rk_m1 dX12_findGroups_61 (by decide) (fun z6 => ?_) (fun z6 => ?_)
      · have hF := hF.1 z6
        refine j_iconst hJ dX12_findGroups_67 ?_
        refine j_istore_n (lv' := [(3, .int (Ii 0)), (0, .ref (ad 0)), (1, .int (Ii x1)), (2, .int (Ii x2))]) hJ dX12_findGroups_68 rfl (by decide) rfl ?_
        refine j_iload_n hJ dX12_findGroups_69 rfl 3 rfl ?_
        refine j_iconst hJ dX12_findGroups_70 ?_
        refine j_iadd hJ dX12_findGroups_71 ?_
        have g7 := hF.1; have hF := hF.2
        refine j_istore (lv' := [(4, .int (Ii (x2 + 1))), (3, .int (Ii 0)), (0, .ref (ad 0)), (1, .int (Ii x1)), (2, .int (Ii x2))]) hJ dX12_findGroups_72 (by decide) rfl ?_
        exact j_sub hJ [2, 3, 4, 1, 0] rfl (k_X12_findGroups_b74 hin  hJ ih x1 x2 0 (x2 + 1) _ gx1 gx2 rk_0 g7 hF)
      · have hF := hF.2 z6
        refine j_goto hJ 175 dX12_findGroups_64 (by decide) ?_
        exact j_sub hJ [0, 1, 2] rfl (k_X12_findGroups_b175 hin  hJ ih x1 x2 _ gx1 gx2 hF)
  intro x1 x2 M gx1 gx2 hF
  obtain ⟨n, hF⟩ := hF
  exact H9 n x1 x2 M gx1 gx2 hF
set_option maxHeartbeats 4000000 in
set_option maxRecDepth 100000 in
theorem k_X12_findGroups_b9 {l : Launch} {D : va_G} {cy : Nat → ClassId} {ad : Nat → Nat} {Q : Int → MM → Prop} {J : Nat → List (Nat × Value) → List Value → MM → Prop} (hin : jIn ad ksR.length)   (hJ : jOk l D vwCl (tyR cy) cy ad ftR ksR (XtR ad) Om RX12 cX12_findGroups 5 0 ({ frames := 4, cells := 0, slots := 0, locals := 90 } : Room) Q J)  : ∀ (x1 x2 : Int) (M : MM), ri_ x1 → ri_ x2 → w_X12_findGroups_b9  Q  x1 x2 M → J 9 [(0, .ref (ad 0)), (1, .int (Ii x1)), (2, .int (Ii x2))] [] M := by
  have H9 : ∀ (n : Nat) (x1 x2 : Int) (M : MM), ri_ x1 → ri_ x2 → jit (fun _ _ _ => False) (wb_X12_findGroups_b9  Q ) n x1 x2 M → J 9 [(0, .ref (ad 0)), (1, .int (Ii x1)), (2, .int (Ii x2))] [] M := by
    intro n
    induction n with
    | zero => intro x1 x2 M gx1 gx2 hF; exact False.elim hF
    | succ n ih =>
    intro x1 x2 M gx1 gx2 hF
    have hF : wb_X12_findGroups_b9  Q  (jit (fun _ _ _ => False) (wb_X12_findGroups_b9  Q ) n) x1 x2 M := hF
    unfold wb_X12_findGroups_b9 at hF
    refine j_iload_n hJ dX12_findGroups_9 rfl 2 rfl ?_
    refine j_aload_n hJ dX12_findGroups_10 rfl 0 rfl ?_
    refine j_gr (e := 38) hJ kR_0 fR_15_48 fl_X12_183 dX12_findGroups_11 rfl ?_
    refine j_iload_n hJ dX12_findGroups_14 rfl 1 rfl ?_
    refine j_iald hJ gx1 kR_38 hF.1 hF.2.1 dX12_findGroups_15 (fun v1 ev1 gv1 => ?_)
    have hF := hF.2.2 v1 ev1 gv1
    refine j_icmp_ge hJ 37 gx2 gv1 dX12_findGroups_16 (by decide) (fun z2 => ?_) (fun z2 => ?_)
    · have hF := hF.1 z2
      refine j_iconst hJ dX12_findGroups_37 ?_
      refine j_istore_n (lv' := [(2, .int (Ii 0)), (0, .ref (ad 0)), (1, .int (Ii x1))]) hJ dX12_findGroups_38 rfl (by decide) rfl ?_
      exact j_sub hJ [1, 2, 0] rfl (k_X12_findGroups_b39 hin  hJ  x1 0 _ gx1 rk_0 hF)
    · have hF := hF.2 z2
      refine j_aload_n hJ dX12_findGroups_19 rfl 0 rfl ?_
      refine j_gr (e := 50) hJ kR_0 fR_15_60 fl_X12_219 dX12_findGroups_20 rfl ?_
      refine j_aload_n hJ dX12_findGroups_23 rfl 0 rfl ?_
      refine j_iload_n hJ dX12_findGroups_24 rfl 1 rfl ?_
      refine j_iload_n hJ dX12_findGroups_25 rfl 2 rfl ?_
      refine j_callVi hJ (c_X12_at (l := l) (D := D) (cy := cy) (ad := ad) hin) rfl om_1153 ⟨rfl, rfl, Nat.le_of_ble_eq_true rfl, Nat.le_of_ble_eq_true rfl⟩ [.int (Ii x1), .int (Ii x2)] mv_X12_545 hd_X12_atv kR_0 rfl rfl rfl (Nat.le_of_ble_eq_true rfl) dX12_findGroups_26 ⟨x1, x2, rfl, gx1, gx2, hF⟩ (fun r3 M4 gr3 qM4 => ?_)
      have hF := qM4 gr3
      refine j_iconst hJ dX12_findGroups_29 ?_
      refine j_iast hJ gr3 rk_m1 kR_50 hF.1 hF.2.1 dX12_findGroups_30 (fun M5 eM5 => ?_)
      have hF := hF.2.2 M5 eM5
      refine j_iinc (lv' := [(2, .int (Ii (x2 + 1))), (0, .ref (ad 0)), (1, .int (Ii x1))]) (k := 2) hJ dX12_findGroups_31 rfl (by decide) rfl ?_
      have g6 := hF.1; have hF := hF.2
      refine j_goto hJ 9 dX12_findGroups_34 (by decide) ?_
      exact j_sub hJ [1, 2, 0] rfl (ih x1 (x2 + 1) _ gx1 g6 hF)
  intro x1 x2 M gx1 gx2 hF
  obtain ⟨n, hF⟩ := hF
  exact H9 n x1 x2 M gx1 gx2 hF
set_option maxHeartbeats 4000000 in
set_option maxRecDepth 100000 in
theorem c_X12_findGroups {l : Launch} {D : va_G} {cy : Nat → ClassId} {ad : Nat → Nat} (hin : jIn ad ksR.length) : jCN l D vwCl (tyR cy) cy ad ftR ksR (XtR ad) yX12_findGroups (.code yX12_findGroups cX12_findGroups 5 none :: Om) ({ frames := 4, cells := 0, slots := 0, locals := 90 } : Room) 0 (W_X12_findGroups ad) := by
  refine jCN_of (y := yX12_findGroups) (cc := cX12_findGroups) (nL := 5) (rk := 0) (rm := ({ frames := 4, cells := 0, slots := 0, locals := 90 } : Room)) (own := RX12) (tyR_ok cy) hin (XtR_ok ad) Om_good (by decide) rfl ?_
  intro Q av M hF
  obtain ⟨p1, rfl, gp1, hF⟩ := hF
  refine ⟨Nat.le_of_ble_eq_true rfl, fun J hJ => ?_⟩
  show J 0 [(0, .ref (ad 0)), (1, .int (Ii p1))] [] M
  unfold w_X12_findGroups at hF
  refine j_aload_n hJ dX12_findGroups_0 rfl 0 rfl ?_
  refine j_gr (e := 54) hJ kR_0 fR_15_64 fl_X12_231 dX12_findGroups_1 rfl ?_
  refine j_iload_n hJ dX12_findGroups_4 rfl 1 rfl ?_
  refine j_iconst hJ dX12_findGroups_5 ?_
  refine j_iast hJ gp1 rk_0 kR_54 hF.1 hF.2.1 dX12_findGroups_6 (fun M1 eM1 => ?_)
  have hF := hF.2.2 M1 eM1
  refine j_iconst hJ dX12_findGroups_7 ?_
  refine j_istore_n (lv' := [(2, .int (Ii 0)), (0, .ref (ad 0)), (1, .int (Ii p1))]) hJ dX12_findGroups_8 rfl (by decide) rfl ?_
  exact j_sub hJ [1, 2, 0] rfl (k_X12_findGroups_b9 hin  hJ  p1 0 _ gp1 rk_0 hF)
def W_X12_study (ad : Nat → Nat) (Q : Int → MM → Prop) (av : List Value) (M : MM) : Prop := ∃ (p1 : Int), av = [.ref (ad 0), .int (Ii p1)] ∧ ri_ p1 ∧ w_X12_study  Q p1 M
set_option maxHeartbeats 4000000 in
set_option maxRecDepth 100000 in
theorem k_X12_study_b9 {l : Launch} {D : va_G} {cy : Nat → ClassId} {ad : Nat → Nat} {Q : Int → MM → Prop} {J : Nat → List (Nat × Value) → List Value → MM → Prop} (hin : jIn ad ksR.length)   (hJ : jOk l D vwCl (tyR cy) cy ad ftR ksR (XtR ad) Om RX12 cX12_study 3 0 ({ frames := 6, cells := 0, slots := 0, locals := 147 } : Room) Q J)  : ∀ (x1 x2 : Int) (M : MM), ri_ x1 → ri_ x2 → w_X12_study_b9  Q  x1 x2 M → J 9 [(0, .ref (ad 0)), (1, .int (Ii x1)), (2, .int (Ii x2))] [] M := by
  have H9 : ∀ (n : Nat) (x1 x2 : Int) (M : MM), ri_ x1 → ri_ x2 → jit (fun _ _ _ => False) (wb_X12_study_b9  Q ) n x1 x2 M → J 9 [(0, .ref (ad 0)), (1, .int (Ii x1)), (2, .int (Ii x2))] [] M := by
    intro n
    induction n with
    | zero => intro x1 x2 M gx1 gx2 hF; exact False.elim hF
    | succ n ih =>
    intro x1 x2 M gx1 gx2 hF
    have hF : wb_X12_study_b9  Q  (jit (fun _ _ _ => False) (wb_X12_study_b9  Q ) n) x1 x2 M := hF
    unfold wb_X12_study_b9 at hF
    refine j_iload_n hJ dX12_study_9 rfl 2 rfl ?_
    refine j_aload_n hJ dX12_study_10 rfl 0 rfl ?_
    refine j_gr (e := 38) hJ kR_0 fR_15_48 fl_X12_183 dX12_study_11 rfl ?_
    refine j_iload_n hJ dX12_study_14 rfl 1 rfl ?_
    refine j_iald hJ gx1 kR_38 hF.1 hF.2.1 dX12_study_15 (fun v1 ev1 gv1 => ?_)
    have hF := hF.2.2 v1 ev1 gv1
    refine j_icmp_ge hJ 37 gx2 gv1 dX12_study_16 (by decide) (fun z2 => ?_) (fun z2 => ?_)
    · have hF := hF.1 z2
      refine j_aload_n hJ dX12_study_37 rfl 0 rfl ?_
      refine j_iload_n hJ dX12_study_38 rfl 1 rfl ?_
      refine j_callVv hJ (c_X12_findWays (l := l) (D := D) (cy := cy) (ad := ad) hin) rfl om_1177 ⟨rfl, rfl, Nat.le_of_ble_eq_true rfl, Nat.le_of_ble_eq_true rfl⟩ [.int (Ii x1)] mv_X12_558 hd_X12_findWaysv kR_0 rfl rfl rfl (Nat.le_of_ble_eq_true rfl) dX12_study_39 ⟨x1, rfl, gx1, hF⟩ (fun M4 qM4 => ?_)
      have hF := qM4
      refine j_aload_n hJ dX12_study_42 rfl 0 rfl ?_
      refine j_iload_n hJ dX12_study_43 rfl 1 rfl ?_
      refine j_callVv hJ (c_X12_findDominators (l := l) (D := D) (cy := cy) (ad := ad) hin) rfl om_1201 ⟨rfl, rfl, Nat.le_of_ble_eq_true rfl, Nat.le_of_ble_eq_true rfl⟩ [.int (Ii x1)] mv_X12_561 hd_X12_findDominatorsv kR_0 rfl rfl rfl (Nat.le_of_ble_eq_true rfl) dX12_study_44 ⟨x1, rfl, gx1, hF⟩ (fun M6 qM6 => ?_)
      have hF := qM6
      refine j_aload_n hJ dX12_study_47 rfl 0 rfl ?_
      refine j_iload_n hJ dX12_study_48 rfl 1 rfl ?_
      refine j_callVv hJ (c_X12_findRings (l := l) (D := D) (cy := cy) (ad := ad) hin) rfl om_1300 ⟨rfl, rfl, Nat.le_of_ble_eq_true rfl, Nat.le_of_ble_eq_true rfl⟩ [.int (Ii x1)] mv_X12_564 hd_X12_findRingsv kR_0 rfl rfl rfl (Nat.le_of_ble_eq_true rfl) dX12_study_49 ⟨x1, rfl, gx1, hF⟩ (fun M8 qM8 => ?_)
      have hF := qM8
      refine j_aload_n hJ dX12_study_52 rfl 0 rfl ?_
      refine j_iload_n hJ dX12_study_53 rfl 1 rfl ?_
      refine j_callVv hJ (c_X12_findGroups (l := l) (D := D) (cy := cy) (ad := ad) hin) rfl om_1308 ⟨rfl, rfl, Nat.le_of_ble_eq_true rfl, Nat.le_of_ble_eq_true rfl⟩ [.int (Ii x1)] mv_X12_567 hd_X12_findGroupsv kR_0 rfl rfl rfl (Nat.le_of_ble_eq_true rfl) dX12_study_54 ⟨x1, rfl, gx1, hF⟩ (fun M10 qM10 => ?_)
      have hF := qM10
      exact j_vret hJ rfl dX12_study_57 hF
    · have hF := hF.2 z2
      refine j_aload_n hJ dX12_study_19 rfl 0 rfl ?_
      refine j_gr (e := 59) hJ kR_0 fR_15_69 fl_X12_246 dX12_study_20 rfl ?_
      refine j_aload_n hJ dX12_study_23 rfl 0 rfl ?_
      refine j_iload_n hJ dX12_study_24 rfl 1 rfl ?_
      refine j_iload_n hJ dX12_study_25 rfl 2 rfl ?_
      refine j_callVi hJ (c_X12_at (l := l) (D := D) (cy := cy) (ad := ad) hin) rfl om_1153 ⟨rfl, rfl, Nat.le_of_ble_eq_true rfl, Nat.le_of_ble_eq_true rfl⟩ [.int (Ii x1), .int (Ii x2)] mv_X12_545 hd_X12_atv kR_0 rfl rfl rfl (Nat.le_of_ble_eq_true rfl) dX12_study_26 ⟨x1, x2, rfl, gx1, gx2, hF⟩ (fun r11 M12 gr11 qM12 => ?_)
      have hF := qM12 gr11
      refine j_iconst hJ dX12_study_29 ?_
      refine j_zast hJ gr11 (by decide) kR_59 hF.1 hF.2.1 dX12_study_30 (fun M13 eM13 => ?_)
      have hF := hF.2.2 M13 eM13
      refine j_iinc (lv' := [(2, .int (Ii (x2 + 1))), (0, .ref (ad 0)), (1, .int (Ii x1))]) (k := 2) hJ dX12_study_31 rfl (by decide) rfl ?_
      have g14 := hF.1; have hF := hF.2
      refine j_goto hJ 9 dX12_study_34 (by decide) ?_
      exact j_sub hJ [1, 2, 0] rfl (ih x1 (x2 + 1) _ gx1 g14 hF)
  intro x1 x2 M gx1 gx2 hF
  obtain ⟨n, hF⟩ := hF
  exact H9 n x1 x2 M gx1 gx2 hF
set_option maxHeartbeats 4000000 in
set_option maxRecDepth 100000 in
theorem c_X12_study {l : Launch} {D : va_G} {cy : Nat → ClassId} {ad : Nat → Nat} (hin : jIn ad ksR.length) : jCN l D vwCl (tyR cy) cy ad ftR ksR (XtR ad) yX12_study (.code yX12_study cX12_study 3 none :: Om) ({ frames := 6, cells := 0, slots := 0, locals := 147 } : Room) 0 (W_X12_study ad) := by
  refine jCN_of (y := yX12_study) (cc := cX12_study) (nL := 3) (rk := 0) (rm := ({ frames := 6, cells := 0, slots := 0, locals := 147 } : Room)) (own := RX12) (tyR_ok cy) hin (XtR_ok ad) Om_good (by decide) rfl ?_
  intro Q av M hF
  obtain ⟨p1, rfl, gp1, hF⟩ := hF
  refine ⟨Nat.le_of_ble_eq_true rfl, fun J hJ => ?_⟩
  show J 0 [(0, .ref (ad 0)), (1, .int (Ii p1))] [] M
  unfold w_X12_study at hF
  refine j_aload_n hJ dX12_study_0 rfl 0 rfl ?_
  refine j_gr (e := 52) hJ kR_0 fR_15_62 fl_X12_225 dX12_study_1 rfl ?_
  refine j_iload_n hJ dX12_study_4 rfl 1 rfl ?_
  refine j_iconst hJ dX12_study_5 ?_
  refine j_iast hJ gp1 rk_0 kR_52 hF.1 hF.2.1 dX12_study_6 (fun M1 eM1 => ?_)
  have hF := hF.2.2 M1 eM1
  refine j_iconst hJ dX12_study_7 ?_
  refine j_istore_n (lv' := [(2, .int (Ii 0)), (0, .ref (ad 0)), (1, .int (Ii p1))]) hJ dX12_study_8 rfl (by decide) rfl ?_
  exact j_sub hJ [1, 2, 0] rfl (k_X12_study_b9 hin  hJ  p1 0 _ gp1 rk_0 hF)
def W_X12_take (ad : Nat → Nat) (Q : Int → MM → Prop) (av : List Value) (M : MM) : Prop := ∃ (p1 : Int), av = [.ref (ad 0), .int (Ii p1)] ∧ ri_ p1 ∧ w_X12_take  Q p1 M
set_option maxHeartbeats 4000000 in
set_option maxRecDepth 100000 in
theorem k_X12_take_b14 {l : Launch} {D : va_G} {cy : Nat → ClassId} {ad : Nat → Nat} {Q : Int → MM → Prop} {J : Nat → List (Nat × Value) → List Value → MM → Prop} (hin : jIn ad ksR.length)   (hJ : jOk l D vwCl (tyR cy) cy ad ftR ksR (XtR ad) Om RX12 cX12_take 2 1 ({ frames := 7, cells := 0, slots := 0, locals := 169 } : Room) Q J)  : ∀ (x1 s0 : Int) (M : MM), ri_ x1 → ri_ s0 → w_X12_take_b14  Q  x1 s0 M → J 14 [(0, .ref (ad 0)), (1, .int (Ii x1))] [.int (Ii s0), .ref (ad 0)] M := by
  intro x1 s0 M gx1 gs0 hF
  unfold w_X12_take_b14 at hF
  refine j_pi hJ gs0 kR_0 fR_15_0 rfl fp_X12_388 dX12_take_14 (fun M1 eM1 => ?_)
  have hF := hF M1 eM1
  refine j_aload_n hJ dX12_take_17 rfl 0 rfl ?_
  refine j_gi hJ kR_0 fR_15_0 rfl fl_X12_388 dX12_take_18 (fun v2 ev2 gv2 => ?_)
  have hF := hF v2 ev2 gv2
  refine j_if_le hJ 26 gv2 dX12_take_21 (by decide) (fun z3 => ?_) (fun z3 => ?_)
  · have hF := hF.1 z3
    refine j_aload_n hJ dX12_take_26 rfl 0 rfl ?_
    refine j_iload_n hJ dX12_take_27 rfl 1 rfl ?_
    refine j_callVv hJ (c_X12_picture0 (l := l) (D := D) (cy := cy) (ad := ad) hin) rfl om_1161 ⟨rfl, rfl, Nat.le_of_ble_eq_true rfl, Nat.le_of_ble_eq_true rfl⟩ [.int (Ii x1)] mv_X12_552 hd_X12_picture0v kR_0 rfl rfl rfl (Nat.le_of_ble_eq_true rfl) dX12_take_28 ⟨x1, rfl, gx1, hF⟩ (fun M5 qM5 => ?_)
    have hF := qM5
    refine j_aload_n hJ dX12_take_31 rfl 0 rfl ?_
    refine j_iload_n hJ dX12_take_32 rfl 1 rfl ?_
    refine j_callVv hJ (c_X12_study (l := l) (D := D) (cy := cy) (ad := ad) hin) rfl om_1312 ⟨rfl, rfl, Nat.le_of_ble_eq_true rfl, Nat.le_of_ble_eq_true rfl⟩ [.int (Ii x1)] mv_X12_555 hd_X12_studyv kR_0 rfl rfl rfl (Nat.le_of_ble_eq_true rfl) dX12_take_33 ⟨x1, rfl, gx1, hF⟩ (fun M7 qM7 => ?_)
    have hF := qM7
    refine j_aload_n hJ dX12_take_36 rfl 0 rfl ?_
    refine j_gr (e := 38) hJ kR_0 fR_15_48 fl_X12_183 dX12_take_37 rfl ?_
    refine j_iload_n hJ dX12_take_40 rfl 1 rfl ?_
    refine j_iald hJ gx1 kR_38 hF.1 hF.2.1 dX12_take_41 (fun v8 ev8 gv8 => ?_)
    have hF := hF.2.2 v8 ev8 gv8
    exact j_iret hJ rfl gv8 dX12_take_42 hF
  · have hF := hF.2 z3
    refine j_iconst hJ dX12_take_24 ?_
    exact j_iret hJ rfl rk_0 dX12_take_25 hF
set_option maxHeartbeats 4000000 in
set_option maxRecDepth 100000 in
theorem c_X12_take {l : Launch} {D : va_G} {cy : Nat → ClassId} {ad : Nat → Nat} (hin : jIn ad ksR.length) : jCN l D vwCl (tyR cy) cy ad ftR ksR (XtR ad) yX12_take (.code yX12_take cX12_take 2 (some .int) :: Om) ({ frames := 7, cells := 0, slots := 0, locals := 169 } : Room) 1 (W_X12_take ad) := by
  refine jCN_of (y := yX12_take) (cc := cX12_take) (nL := 2) (rk := 1) (rm := ({ frames := 7, cells := 0, slots := 0, locals := 169 } : Room)) (own := RX12) (tyR_ok cy) hin (XtR_ok ad) Om_good (by decide) rfl ?_
  intro Q av M hF
  obtain ⟨p1, rfl, gp1, hF⟩ := hF
  refine ⟨Nat.le_of_ble_eq_true rfl, fun J hJ => ?_⟩
  show J 0 [(0, .ref (ad 0)), (1, .int (Ii p1))] [] M
  unfold w_X12_take at hF
  refine j_aload_n hJ dX12_take_0 rfl 0 rfl ?_
  refine j_aload_n hJ dX12_take_1 rfl 0 rfl ?_
  refine j_iload_n hJ dX12_take_2 rfl 1 rfl ?_
  refine j_callVz hJ (c_X12_isPicture (l := l) (D := D) (cy := cy) (ad := ad) hin) rfl om_1296 ⟨rfl, rfl, Nat.le_of_ble_eq_true rfl, Nat.le_of_ble_eq_true rfl⟩ [.int (Ii p1)] mv_X12_542 hd_X12_isPicturev kR_0 rfl rfl rfl (Nat.le_of_ble_eq_true rfl) dX12_take_3 ⟨p1, rfl, gp1, hF⟩ (fun r1 M2 gr1 qM2 => ?_)
  have hF := qM2 gr1
  refine j_if_eq hJ 13 (jz_ri gr1) dX12_take_6 (by decide) (fun z3 => ?_) (fun z3 => ?_)
  · have hF := hF.1 z3
    refine j_iconst hJ dX12_take_13 ?_
    exact j_sub hJ [0, 1] rfl (k_X12_take_b14 hin  hJ  p1 1 _ gp1 rk_1 hF)
  · have hF := hF.2 z3
    refine j_iconst hJ dX12_take_9 ?_
    refine j_goto hJ 14 dX12_take_10 (by decide) ?_
    exact j_sub hJ [0, 1] rfl (k_X12_take_b14 hin  hJ  p1 0 _ gp1 rk_0 hF)
def W_X12_holders (ad : Nat → Nat) (Q : Int → MM → Prop) (av : List Value) (M : MM) : Prop := ∃ (p1 : Int) (p2 : Int), av = [.ref (ad 0), .int (Ii p1), .int (Ii p2)] ∧ ri_ p1 ∧ ri_ p2 ∧ w_X12_holders  Q p1 p2 M
set_option maxHeartbeats 4000000 in
set_option maxRecDepth 100000 in
theorem k_X12_holders_b109 {l : Launch} {D : va_G} {cy : Nat → ClassId} {ad : Nat → Nat} {Q : Int → MM → Prop} {J : Nat → List (Nat × Value) → List Value → MM → Prop} (hin : jIn ad ksR.length)   (hJ : jOk l D vwCl (tyR cy) cy ad ftR ksR (XtR ad) Om RX12 cX12_holders 6 1 ({ frames := 3, cells := 0, slots := 0, locals := 70 } : Room) Q J) {K50 : Int → Int → Int → Int → MM → Prop} (hK50 : ∀ (x1 x2 x3 x4 : Int) (M : MM), ri_ x1 → ri_ x2 → ri_ x3 → ri_ x4 → K50 x1 x2 x3 x4 M → J 50 [(0, .ref (ad 0)), (1, .int (Ii x1)), (2, .int (Ii x2)), (3, .int (Ii x3)), (4, .int (Ii x4))] [] M) {K64 : Int → Int → Int → Int → Int → MM → Prop} (hK64 : ∀ (x1 x2 x3 x4 x5 : Int) (M : MM), ri_ x1 → ri_ x2 → ri_ x3 → ri_ x4 → ri_ x5 → K64 x1 x2 x3 x4 x5 M → J 64 [(0, .ref (ad 0)), (1, .int (Ii x1)), (2, .int (Ii x2)), (3, .int (Ii x3)), (4, .int (Ii x4)), (5, .int (Ii x5))] [] M) : ∀ (x1 x2 x4 x5 s0 s1 : Int) (M : MM), ri_ x1 → ri_ x2 → ri_ x4 → ri_ x5 → ri_ s0 → ri_ s1 → w_X12_holders_b109  Q K50 K64 x1 x2 x4 x5 s0 s1 M → J 109 [(0, .ref (ad 0)), (1, .int (Ii x1)), (2, .int (Ii x2)), (4, .int (Ii x4)), (5, .int (Ii x5))] [.int (Ii s0), .int (Ii s1)] M := by
  intro x1 x2 x4 x5 s0 s1 M gx1 gx2 gx4 gx5 gs0 gs1 hF
  unfold w_X12_holders_b109 at hF
  refine j_iadd hJ dX12_holders_109 ?_
  have g1 := hF.1; have hF := hF.2
  refine j_istore_n (lv' := [(3, .int (Ii (s1 + s0))), (0, .ref (ad 0)), (1, .int (Ii x1)), (2, .int (Ii x2)), (4, .int (Ii x4)), (5, .int (Ii x5))]) hJ dX12_holders_110 rfl (by decide) rfl ?_
  refine j_iinc (lv' := [(5, .int (Ii (x5 + 1))), (3, .int (Ii (s1 + s0))), (0, .ref (ad 0)), (1, .int (Ii x1)), (2, .int (Ii x2)), (4, .int (Ii x4))]) (k := 5) hJ dX12_holders_111 rfl (by decide) rfl ?_
  have g2 := hF.1; have hF := hF.2
  refine j_goto hJ 64 dX12_holders_114 (by decide) ?_
  exact j_sub hJ [2, 3, 4, 1, 5, 0] rfl (hK64 x1 x2 (s1 + s0) x4 (x5 + 1) _ gx1 gx2 g1 gx4 g2 hF)
set_option maxHeartbeats 4000000 in
set_option maxRecDepth 100000 in
theorem k_X12_holders_b108 {l : Launch} {D : va_G} {cy : Nat → ClassId} {ad : Nat → Nat} {Q : Int → MM → Prop} {J : Nat → List (Nat × Value) → List Value → MM → Prop} (hin : jIn ad ksR.length)   (hJ : jOk l D vwCl (tyR cy) cy ad ftR ksR (XtR ad) Om RX12 cX12_holders 6 1 ({ frames := 3, cells := 0, slots := 0, locals := 70 } : Room) Q J) {K50 : Int → Int → Int → Int → MM → Prop} (hK50 : ∀ (x1 x2 x3 x4 : Int) (M : MM), ri_ x1 → ri_ x2 → ri_ x3 → ri_ x4 → K50 x1 x2 x3 x4 M → J 50 [(0, .ref (ad 0)), (1, .int (Ii x1)), (2, .int (Ii x2)), (3, .int (Ii x3)), (4, .int (Ii x4))] [] M) {K64 : Int → Int → Int → Int → Int → MM → Prop} (hK64 : ∀ (x1 x2 x3 x4 x5 : Int) (M : MM), ri_ x1 → ri_ x2 → ri_ x3 → ri_ x4 → ri_ x5 → K64 x1 x2 x3 x4 x5 M → J 64 [(0, .ref (ad 0)), (1, .int (Ii x1)), (2, .int (Ii x2)), (3, .int (Ii x3)), (4, .int (Ii x4)), (5, .int (Ii x5))] [] M) : ∀ (x1 x2 x4 x5 s0 : Int) (M : MM), ri_ x1 → ri_ x2 → ri_ x4 → ri_ x5 → ri_ s0 → w_X12_holders_b108  Q K50 K64 x1 x2 x4 x5 s0 M → J 108 [(0, .ref (ad 0)), (1, .int (Ii x1)), (2, .int (Ii x2)), (4, .int (Ii x4)), (5, .int (Ii x5))] [.int (Ii s0)] M := by
  intro x1 x2 x4 x5 s0 M gx1 gx2 gx4 gx5 gs0 hF
  unfold w_X12_holders_b108 at hF
  refine j_iconst hJ dX12_holders_108 ?_
  exact j_sub hJ [0, 1, 2, 3, 4] rfl (k_X12_holders_b109 hin  hJ hK50 hK64 x1 x2 x4 x5 0 s0 _ gx1 gx2 gx4 gx5 rk_0 gs0 hF)
set_option maxHeartbeats 4000000 in
set_option maxRecDepth 100000 in
theorem k_X12_holders_b64 {l : Launch} {D : va_G} {cy : Nat → ClassId} {ad : Nat → Nat} {Q : Int → MM → Prop} {J : Nat → List (Nat × Value) → List Value → MM → Prop} (hin : jIn ad ksR.length)   (hJ : jOk l D vwCl (tyR cy) cy ad ftR ksR (XtR ad) Om RX12 cX12_holders 6 1 ({ frames := 3, cells := 0, slots := 0, locals := 70 } : Room) Q J) {K50 : Int → Int → Int → Int → MM → Prop} (hK50 : ∀ (x1 x2 x3 x4 : Int) (M : MM), ri_ x1 → ri_ x2 → ri_ x3 → ri_ x4 → K50 x1 x2 x3 x4 M → J 50 [(0, .ref (ad 0)), (1, .int (Ii x1)), (2, .int (Ii x2)), (3, .int (Ii x3)), (4, .int (Ii x4))] [] M) : ∀ (x1 x2 x3 x4 x5 : Int) (M : MM), ri_ x1 → ri_ x2 → ri_ x3 → ri_ x4 → ri_ x5 → w_X12_holders_b64  Q K50 x1 x2 x3 x4 x5 M → J 64 [(0, .ref (ad 0)), (1, .int (Ii x1)), (2, .int (Ii x2)), (3, .int (Ii x3)), (4, .int (Ii x4)), (5, .int (Ii x5))] [] M := by
  have H9 : ∀ (n : Nat) (x1 x2 x3 x4 x5 : Int) (M : MM), ri_ x1 → ri_ x2 → ri_ x3 → ri_ x4 → ri_ x5 → jit (fun _ _ _ _ _ _ => False) (wb_X12_holders_b64  Q K50) n x1 x2 x3 x4 x5 M → J 64 [(0, .ref (ad 0)), (1, .int (Ii x1)), (2, .int (Ii x2)), (3, .int (Ii x3)), (4, .int (Ii x4)), (5, .int (Ii x5))] [] M := by
    intro n
    induction n with
    | zero => intro x1 x2 x3 x4 x5 M gx1 gx2 gx3 gx4 gx5 hF; exact False.elim hF
    | succ n ih =>
    intro x1 x2 x3 x4 x5 M gx1 gx2 gx3 gx4 gx5 hF
    have hF : wb_X12_holders_b64  Q K50 (jit (fun _ _ _ _ _ _ => False) (wb_X12_holders_b64  Q K50) n) x1 x2 x3 x4 x5 M := hF
    unfold wb_X12_holders_b64 at hF
    refine j_iload hJ dX12_holders_64 5 rfl ?_
    refine j_aload_n hJ dX12_holders_66 rfl 0 rfl ?_
    refine j_iload_n hJ dX12_holders_67 rfl 1 rfl ?_
    refine j_iload hJ dX12_holders_68 4 rfl ?_
    refine j_callVi hJ (c_X12_slotsIn (l := l) (D := D) (cy := cy) (ad := ad) hin) rfl om_1165 ⟨rfl, rfl, Nat.le_of_ble_eq_true rfl, Nat.le_of_ble_eq_true rfl⟩ [.int (Ii x1), .int (Ii x4)] mv_X12_570 hd_X12_slotsInv kR_0 rfl rfl rfl (Nat.le_of_ble_eq_true rfl) dX12_holders_70 ⟨x1, x4, rfl, gx1, gx4, hF⟩ (fun r1 M2 gr1 qM2 => ?_)
    have hF := qM2 gr1
    refine j_icmp_ge hJ 117 gx5 gr1 dX12_holders_73 (by decide) (fun z3 => ?_) (fun z3 => ?_)
    · have hF := hF.1 z3
      refine j_iinc (lv' := [(4, .int (Ii (x4 + 1))), (0, .ref (ad 0)), (1, .int (Ii x1)), (2, .int (Ii x2)), (3, .int (Ii x3)), (5, .int (Ii x5))]) (k := 4) hJ dX12_holders_117 rfl (by decide) rfl ?_
      have g4 := hF.1; have hF := hF.2
      refine j_goto hJ 50 dX12_holders_120 (by decide) ?_
      exact j_sub hJ [1, 2, 3, 4, 0] rfl (hK50 x1 x2 x3 (x4 + 1) _ gx1 gx2 gx3 g4 hF)
    · have hF := hF.2 z3
      refine j_iload_n hJ dX12_holders_76 rfl 3 rfl ?_
      refine j_aload_n hJ dX12_holders_77 rfl 0 rfl ?_
      refine j_iload_n hJ dX12_holders_78 rfl 1 rfl ?_
      refine j_iload hJ dX12_holders_79 4 rfl ?_
      refine j_iload hJ dX12_holders_81 5 rfl ?_
      refine j_callVz hJ (c_X12_linksIn (l := l) (D := D) (cy := cy) (ad := ad) hin) rfl om_1169 ⟨rfl, rfl, Nat.le_of_ble_eq_true rfl, Nat.le_of_ble_eq_true rfl⟩ [.int (Ii x1), .int (Ii x4), .int (Ii x5)] mv_X12_573 hd_X12_linksInv kR_0 rfl rfl rfl (Nat.le_of_ble_eq_true rfl) dX12_holders_83 ⟨x1, x4, x5, rfl, gx1, gx4, gx5, hF⟩ (fun r5 M6 gr5 qM6 => ?_)
      have hF := qM6 gr5
      refine j_if_eq hJ 108 (jz_ri gr5) dX12_holders_86 (by decide) (fun z7 => ?_) (fun z7 => ?_)
      · have hF := hF.1 z7
        exact j_sub hJ [0, 1, 2, 4, 5] rfl (k_X12_holders_b108 hin  hJ hK50 ih x1 x2 x4 x5 x3 _ gx1 gx2 gx4 gx5 gx3 hF)
      · have hF := hF.2 z7
        refine j_aload_n hJ dX12_holders_89 rfl 0 rfl ?_
        refine j_iload_n hJ dX12_holders_90 rfl 1 rfl ?_
        refine j_iload hJ dX12_holders_91 4 rfl ?_
        refine j_iload hJ dX12_holders_93 5 rfl ?_
        refine j_callVl hJ (c_X12_valueIn (l := l) (D := D) (cy := cy) (ad := ad) hin) rfl om_1173 ⟨rfl, rfl, Nat.le_of_ble_eq_true rfl, Nat.le_of_ble_eq_true rfl⟩ [.int (Ii x1), .int (Ii x4), .int (Ii x5)] mv_X12_577 hd_X12_valueInv kR_0 rfl rfl rfl (Nat.le_of_ble_eq_true rfl) dX12_holders_95 ⟨x1, x4, x5, rfl, gx1, gx4, gx5, hF⟩ (fun r8 M9 gr8 qM9 => ?_)
        have hF := qM9 gr8
        refine j_iload_n hJ dX12_holders_98 rfl 2 rfl ?_
        refine j_i2l hJ gx2 dX12_holders_99 ?_
        refine j_lcmp_ne hJ 108 gr8 (rl_ri gx2) dX12_holders_100 dX12_holders_101 (by decide) (fun z10 => ?_) (fun z10 => ?_)
        · have hF := hF.1 z10
          exact j_sub hJ [0, 1, 2, 4, 5] rfl (k_X12_holders_b108 hin  hJ hK50 ih x1 x2 x4 x5 x3 _ gx1 gx2 gx4 gx5 gx3 hF)
        · have hF := hF.2 z10
          refine j_iconst hJ dX12_holders_104 ?_
          refine j_goto hJ 109 dX12_holders_105 (by decide) ?_
          exact j_sub hJ [0, 1, 2, 4, 5] rfl (k_X12_holders_b109 hin  hJ hK50 ih x1 x2 x4 x5 1 x3 _ gx1 gx2 gx4 gx5 rk_1 gx3 hF)
  intro x1 x2 x3 x4 x5 M gx1 gx2 gx3 gx4 gx5 hF
  obtain ⟨n, hF⟩ := hF
  exact H9 n x1 x2 x3 x4 x5 M gx1 gx2 gx3 gx4 gx5 hF
set_option maxHeartbeats 4000000 in
set_option maxRecDepth 100000 in
theorem k_X12_holders_b50 {l : Launch} {D : va_G} {cy : Nat → ClassId} {ad : Nat → Nat} {Q : Int → MM → Prop} {J : Nat → List (Nat × Value) → List Value → MM → Prop} (hin : jIn ad ksR.length)   (hJ : jOk l D vwCl (tyR cy) cy ad ftR ksR (XtR ad) Om RX12 cX12_holders 6 1 ({ frames := 3, cells := 0, slots := 0, locals := 70 } : Room) Q J)  : ∀ (x1 x2 x3 x4 : Int) (M : MM), ri_ x1 → ri_ x2 → ri_ x3 → ri_ x4 → w_X12_holders_b50  Q  x1 x2 x3 x4 M → J 50 [(0, .ref (ad 0)), (1, .int (Ii x1)), (2, .int (Ii x2)), (3, .int (Ii x3)), (4, .int (Ii x4))] [] M := by
  have H9 : ∀ (n : Nat) (x1 x2 x3 x4 : Int) (M : MM), ri_ x1 → ri_ x2 → ri_ x3 → ri_ x4 → jit (fun _ _ _ _ _ => False) (wb_X12_holders_b50  Q ) n x1 x2 x3 x4 M → J 50 [(0, .ref (ad 0)), (1, .int (Ii x1)), (2, .int (Ii x2)), (3, .int (Ii x3)), (4, .int (Ii x4))] [] M := by
    intro n
    induction n with
    | zero => intro x1 x2 x3 x4 M gx1 gx2 gx3 gx4 hF; exact False.elim hF
    | succ n ih =>
    intro x1 x2 x3 x4 M gx1 gx2 gx3 gx4 hF
    have hF : wb_X12_holders_b50  Q  (jit (fun _ _ _ _ _ => False) (wb_X12_holders_b50  Q ) n) x1 x2 x3 x4 M := hF
    unfold wb_X12_holders_b50 at hF
    refine j_iload hJ dX12_holders_50 4 rfl ?_
    refine j_aload_n hJ dX12_holders_52 rfl 0 rfl ?_
    refine j_gr (e := 38) hJ kR_0 fR_15_48 fl_X12_183 dX12_holders_53 rfl ?_
    refine j_iload_n hJ dX12_holders_56 rfl 1 rfl ?_
    refine j_iald hJ gx1 kR_38 hF.1 hF.2.1 dX12_holders_57 (fun v1 ev1 gv1 => ?_)
    have hF := hF.2.2 v1 ev1 gv1
    refine j_icmp_ge hJ 123 gx4 gv1 dX12_holders_58 (by decide) (fun z2 => ?_) (fun z2 => ?_)
    · have hF := hF.1 z2
      refine j_iload_n hJ dX12_holders_123 rfl 3 rfl ?_
      exact j_iret hJ rfl gx3 dX12_holders_124 hF
    · have hF := hF.2 z2
      refine j_iconst hJ dX12_holders_61 ?_
      refine j_istore (lv' := [(5, .int (Ii 0)), (0, .ref (ad 0)), (1, .int (Ii x1)), (2, .int (Ii x2)), (3, .int (Ii x3)), (4, .int (Ii x4))]) hJ dX12_holders_62 (by decide) rfl ?_
      exact j_sub hJ [1, 2, 3, 4, 5, 0] rfl (k_X12_holders_b64 hin  hJ ih x1 x2 x3 x4 0 _ gx1 gx2 gx3 gx4 rk_0 hF)
  intro x1 x2 x3 x4 M gx1 gx2 gx3 gx4 hF
  obtain ⟨n, hF⟩ := hF
  exact H9 n x1 x2 x3 x4 M gx1 gx2 gx3 gx4 hF
set_option maxHeartbeats 4000000 in
set_option maxRecDepth 100000 in
theorem k_X12_holders_b39 {l : Launch} {D : va_G} {cy : Nat → ClassId} {ad : Nat → Nat} {Q : Int → MM → Prop} {J : Nat → List (Nat × Value) → List Value → MM → Prop} (hin : jIn ad ksR.length)   (hJ : jOk l D vwCl (tyR cy) cy ad ftR ksR (XtR ad) Om RX12 cX12_holders 6 1 ({ frames := 3, cells := 0, slots := 0, locals := 70 } : Room) Q J) {K5 : Int → Int → Int → Int → MM → Prop} (hK5 : ∀ (x1 x2 x3 x4 : Int) (M : MM), ri_ x1 → ri_ x2 → ri_ x3 → ri_ x4 → K5 x1 x2 x3 x4 M → J 5 [(0, .ref (ad 0)), (1, .int (Ii x1)), (2, .int (Ii x2)), (3, .int (Ii x3)), (4, .int (Ii x4))] [] M) : ∀ (x1 x2 x4 s0 s1 : Int) (M : MM), ri_ x1 → ri_ x2 → ri_ x4 → ri_ s0 → ri_ s1 → w_X12_holders_b39  Q K5 x1 x2 x4 s0 s1 M → J 39 [(0, .ref (ad 0)), (1, .int (Ii x1)), (2, .int (Ii x2)), (4, .int (Ii x4))] [.int (Ii s0), .int (Ii s1)] M := by
  intro x1 x2 x4 s0 s1 M gx1 gx2 gx4 gs0 gs1 hF
  unfold w_X12_holders_b39 at hF
  refine j_iadd hJ dX12_holders_39 ?_
  have g1 := hF.1; have hF := hF.2
  refine j_istore_n (lv' := [(3, .int (Ii (s1 + s0))), (0, .ref (ad 0)), (1, .int (Ii x1)), (2, .int (Ii x2)), (4, .int (Ii x4))]) hJ dX12_holders_40 rfl (by decide) rfl ?_
  refine j_iinc (lv' := [(4, .int (Ii (x4 + 1))), (3, .int (Ii (s1 + s0))), (0, .ref (ad 0)), (1, .int (Ii x1)), (2, .int (Ii x2))]) (k := 4) hJ dX12_holders_41 rfl (by decide) rfl ?_
  have g2 := hF.1; have hF := hF.2
  refine j_goto hJ 5 dX12_holders_44 (by decide) ?_
  exact j_sub hJ [2, 3, 4, 1, 0] rfl (hK5 x1 x2 (s1 + s0) (x4 + 1) _ gx1 gx2 g1 g2 hF)
set_option maxHeartbeats 4000000 in
set_option maxRecDepth 100000 in
theorem k_X12_holders_b5 {l : Launch} {D : va_G} {cy : Nat → ClassId} {ad : Nat → Nat} {Q : Int → MM → Prop} {J : Nat → List (Nat × Value) → List Value → MM → Prop} (hin : jIn ad ksR.length)   (hJ : jOk l D vwCl (tyR cy) cy ad ftR ksR (XtR ad) Om RX12 cX12_holders 6 1 ({ frames := 3, cells := 0, slots := 0, locals := 70 } : Room) Q J)  : ∀ (x1 x2 x3 x4 : Int) (M : MM), ri_ x1 → ri_ x2 → ri_ x3 → ri_ x4 → w_X12_holders_b5  Q  x1 x2 x3 x4 M → J 5 [(0, .ref (ad 0)), (1, .int (Ii x1)), (2, .int (Ii x2)), (3, .int (Ii x3)), (4, .int (Ii x4))] [] M := by
  have H9 : ∀ (n : Nat) (x1 x2 x3 x4 : Int) (M : MM), ri_ x1 → ri_ x2 → ri_ x3 → ri_ x4 → jit (fun _ _ _ _ _ => False) (wb_X12_holders_b5  Q ) n x1 x2 x3 x4 M → J 5 [(0, .ref (ad 0)), (1, .int (Ii x1)), (2, .int (Ii x2)), (3, .int (Ii x3)), (4, .int (Ii x4))] [] M := by
    intro n
    induction n with
    | zero => intro x1 x2 x3 x4 M gx1 gx2 gx3 gx4 hF; exact False.elim hF
    | succ n ih =>
    intro x1 x2 x3 x4 M gx1 gx2 gx3 gx4 hF
    have hF : wb_X12_holders_b5  Q  (jit (fun _ _ _ _ _ => False) (wb_X12_holders_b5  Q ) n) x1 x2 x3 x4 M := hF
    unfold wb_X12_holders_b5 at hF
    refine j_iload hJ dX12_holders_5 4 rfl ?_
    refine j_aload_n hJ dX12_holders_7 rfl 0 rfl ?_
    refine j_gr (e := 55) hJ kR_0 fR_15_65 fl_X12_234 dX12_holders_8 rfl ?_
    refine j_iload_n hJ dX12_holders_11 rfl 1 rfl ?_
    refine j_iald hJ gx1 kR_55 hF.1 hF.2.1 dX12_holders_12 (fun v1 ev1 gv1 => ?_)
    have hF := hF.2.2 v1 ev1 gv1
    refine j_icmp_ge hJ 47 gx4 gv1 dX12_holders_13 (by decide) (fun z2 => ?_) (fun z2 => ?_)
    · have hF := hF.1 z2
      refine j_iconst hJ dX12_holders_47 ?_
      refine j_istore (lv' := [(4, .int (Ii 0)), (0, .ref (ad 0)), (1, .int (Ii x1)), (2, .int (Ii x2)), (3, .int (Ii x3))]) hJ dX12_holders_48 (by decide) rfl ?_
      exact j_sub hJ [1, 2, 3, 4, 0] rfl (k_X12_holders_b50 hin  hJ  x1 x2 x3 0 _ gx1 gx2 gx3 rk_0 hF)
    · have hF := hF.2 z2
      refine j_iload_n hJ dX12_holders_16 rfl 3 rfl ?_
      refine j_aload_n hJ dX12_holders_17 rfl 0 rfl ?_
      refine j_gr (e := 57) hJ kR_0 fR_15_67 fl_X12_240 dX12_holders_18 rfl ?_
      refine j_sipush hJ dX12_holders_21 (by decide) ?_
      refine j_iload_n hJ dX12_holders_24 rfl 1 rfl ?_
      refine j_imul hJ dX12_holders_25 ?_
      have g3 := hF.1; have hF := hF.2
      refine j_iload hJ dX12_holders_26 4 rfl ?_
      refine j_iadd hJ dX12_holders_28 ?_
      have g4 := hF.1; have hF := hF.2
      refine j_iald hJ g4 kR_57 hF.1 hF.2.1 dX12_holders_29 (fun v5 ev5 gv5 => ?_)
      have hF := hF.2.2 v5 ev5 gv5
      refine j_iload_n hJ dX12_holders_30 rfl 2 rfl ?_
      refine j_icmp_ne hJ 38 gv5 gx2 dX12_holders_31 (by decide) (fun z6 => ?_) (fun z6 => ?_)
      · have hF := hF.1 z6
        refine j_iconst hJ dX12_holders_38 ?_
        exact j_sub hJ [0, 1, 2, 4] rfl (k_X12_holders_b39 hin  hJ ih x1 x2 x4 0 x3 _ gx1 gx2 gx4 rk_0 gx3 hF)
      · have hF := hF.2 z6
        refine j_iconst hJ dX12_holders_34 ?_
        refine j_goto hJ 39 dX12_holders_35 (by decide) ?_
        exact j_sub hJ [0, 1, 2, 4] rfl (k_X12_holders_b39 hin  hJ ih x1 x2 x4 1 x3 _ gx1 gx2 gx4 rk_1 gx3 hF)
  intro x1 x2 x3 x4 M gx1 gx2 gx3 gx4 hF
  obtain ⟨n, hF⟩ := hF
  exact H9 n x1 x2 x3 x4 M gx1 gx2 gx3 gx4 hF
set_option maxHeartbeats 4000000 in
set_option maxRecDepth 100000 in
theorem c_X12_holders {l : Launch} {D : va_G} {cy : Nat → ClassId} {ad : Nat → Nat} (hin : jIn ad ksR.length) : jCN l D vwCl (tyR cy) cy ad ftR ksR (XtR ad) yX12_holders (.code yX12_holders cX12_holders 6 (some .int) :: Om) ({ frames := 3, cells := 0, slots := 0, locals := 70 } : Room) 1 (W_X12_holders ad) := by
  refine jCN_of (y := yX12_holders) (cc := cX12_holders) (nL := 6) (rk := 1) (rm := ({ frames := 3, cells := 0, slots := 0, locals := 70 } : Room)) (own := RX12) (tyR_ok cy) hin (XtR_ok ad) Om_good (by decide) rfl ?_
  intro Q av M hF
  obtain ⟨p1, p2, rfl, gp1, gp2, hF⟩ := hF
  refine ⟨Nat.le_of_ble_eq_true rfl, fun J hJ => ?_⟩
  show J 0 [(0, .ref (ad 0)), (1, .int (Ii p1)), (2, .int (Ii p2))] [] M
  unfold w_X12_holders at hF
  refine j_iconst hJ dX12_holders_0 ?_
  refine j_istore_n (lv' := [(3, .int (Ii 0)), (0, .ref (ad 0)), (1, .int (Ii p1)), (2, .int (Ii p2))]) hJ dX12_holders_1 rfl (by decide) rfl ?_
  refine j_iconst hJ dX12_holders_2 ?_
  refine j_istore (lv' := [(4, .int (Ii 0)), (3, .int (Ii 0)), (0, .ref (ad 0)), (1, .int (Ii p1)), (2, .int (Ii p2))]) hJ dX12_holders_3 (by decide) rfl ?_
  exact j_sub hJ [2, 3, 4, 1, 0] rfl (k_X12_holders_b5 hin  hJ  p1 p2 0 0 _ gp1 gp2 rk_0 rk_0 hF)
def W_X12_thing (ad : Nat → Nat) (Q : Int → MM → Prop) (av : List Value) (M : MM) : Prop := ∃ (p1 : Int) (p2 : Int) (p3 : Int), av = [.ref (ad 0), .int (Ii p1), .int (Ii p2), .int (Ii p3)] ∧ ri_ p1 ∧ ri_ p2 ∧ ri_ p3 ∧ w_X12_thing  Q p1 p2 p3 M
set_option maxHeartbeats 4000000 in
set_option maxRecDepth 100000 in
theorem c_X12_thing {l : Launch} {D : va_G} {cy : Nat → ClassId} {ad : Nat → Nat} (hin : jIn ad ksR.length) : jCN l D vwCl (tyR cy) cy ad ftR ksR (XtR ad) yX12_thing (.code yX12_thing cX12_thing 5 (some .int) :: Om) ({ frames := 4, cells := 0, slots := 0, locals := 95 } : Room) 1 (W_X12_thing ad) := by
  refine jCN_of (y := yX12_thing) (cc := cX12_thing) (nL := 5) (rk := 1) (rm := ({ frames := 4, cells := 0, slots := 0, locals := 95 } : Room)) (own := RX12) (tyR_ok cy) hin (XtR_ok ad) Om_good (by decide) rfl ?_
  intro Q av M hF
  obtain ⟨p1, p2, p3, rfl, gp1, gp2, gp3, hF⟩ := hF
  refine ⟨Nat.le_of_ble_eq_true rfl, fun J hJ => ?_⟩
  show J 0 [(0, .ref (ad 0)), (1, .int (Ii p1)), (2, .int (Ii p2)), (3, .int (Ii p3))] [] M
  unfold w_X12_thing at hF
  refine j_aload_n hJ dX12_thing_0 rfl 0 rfl ?_
  refine j_iconst hJ dX12_thing_1 ?_
  refine j_pi hJ rk_0 kR_0 fR_15_0 rfl fp_X12_388 dX12_thing_2 (fun M1 eM1 => ?_)
  have hF := hF M1 eM1
  refine j_aload_n hJ dX12_thing_5 rfl 0 rfl ?_
  refine j_iload_n hJ dX12_thing_6 rfl 1 rfl ?_
  refine j_iload_n hJ dX12_thing_7 rfl 2 rfl ?_
  refine j_callVz hJ (c_X12_isThing (l := l) (D := D) (cy := cy) (ad := ad) hin) rfl om_1316 ⟨rfl, rfl, Nat.le_of_ble_eq_true rfl, Nat.le_of_ble_eq_true rfl⟩ [.int (Ii p1), .int (Ii p2)] mv_X12_600 hd_X12_isThingv kR_0 rfl rfl rfl (Nat.le_of_ble_eq_true rfl) dX12_thing_8 ⟨p1, p2, rfl, gp1, gp2, hF⟩ (fun r2 M3 gr2 qM3 => ?_)
  have hF := qM3 gr2
  refine j_if_ne hJ 16 (jz_ri gr2) dX12_thing_11 (by decide) (fun z4 => ?_) (fun z4 => ?_)
  · have hF := hF.1 z4
    refine j_aload_n hJ dX12_thing_16 rfl 0 rfl ?_
    refine j_iload_n hJ dX12_thing_17 rfl 1 rfl ?_
    refine j_iload_n hJ dX12_thing_18 rfl 2 rfl ?_
    refine j_callVi hJ (c_X12_at (l := l) (D := D) (cy := cy) (ad := ad) hin) rfl om_1153 ⟨rfl, rfl, Nat.le_of_ble_eq_true rfl, Nat.le_of_ble_eq_true rfl⟩ [.int (Ii p1), .int (Ii p2)] mv_X12_545 hd_X12_atv kR_0 rfl rfl rfl (Nat.le_of_ble_eq_true rfl) dX12_thing_19 ⟨p1, p2, rfl, gp1, gp2, hF⟩ (fun r5 M6 gr5 qM6 => ?_)
    have hF := qM6 gr5
    refine j_istore (lv' := [(4, .int (Ii r5)), (0, .ref (ad 0)), (1, .int (Ii p1)), (2, .int (Ii p2)), (3, .int (Ii p3))]) hJ dX12_thing_22 (by decide) rfl ?_
    refine j_iload_n hJ dX12_thing_24 rfl 4 rfl ?_
    by_cases z7 : p3 = 0
    · refine j_tabIn hJ 67 92 gp3 dX12_thing_25 (by omega) (by omega) (by rw [z7]; decide) (by decide) ?_
      have hF := hF.1 z7
      refine j_aload_n hJ dX12_thing_92 rfl 1 rfl ?_
      refine j_gr (e := 39) hJ kR_0 fR_15_49 fl_X12_186 dX12_thing_93 rfl ?_
      refine j_iload hJ dX12_thing_96 0 rfl ?_
      refine j_iald hJ gr5 kR_39 hF.1 hF.2.1 dX12_thing_98 (fun v8 ev8 gv8 => ?_)
      have hF := hF.2.2 v8 ev8 gv8
      exact j_iret hJ rfl gv8 dX12_thing_99 hF
    by_cases z9 : p3 = 1
    · refine j_tabIn hJ 75 100 gp3 dX12_thing_25 (by omega) (by omega) (by rw [z9]; decide) (by decide) ?_
      have hF := hF.2.1 z9
      refine j_aload_n hJ dX12_thing_100 rfl 1 rfl ?_
      refine j_gr (e := 40) hJ kR_0 fR_15_50 fl_X12_189 dX12_thing_101 rfl ?_
      refine j_iload hJ dX12_thing_104 0 rfl ?_
      refine j_iald hJ gr5 kR_40 hF.1 hF.2.1 dX12_thing_106 (fun v10 ev10 gv10 => ?_)
      have hF := hF.2.2 v10 ev10 gv10
      exact j_iret hJ rfl gv10 dX12_thing_107 hF
    by_cases z11 : p3 = 2
    · refine j_tabIn hJ 83 108 gp3 dX12_thing_25 (by omega) (by omega) (by rw [z11]; decide) (by decide) ?_
      have hF := hF.2.2.1 z11
      refine j_aload_n hJ dX12_thing_108 rfl 1 rfl ?_
      refine j_gr (e := 41) hJ kR_0 fR_15_51 fl_X12_192 dX12_thing_109 rfl ?_
      refine j_iload hJ dX12_thing_112 0 rfl ?_
      refine j_iald hJ gr5 kR_41 hF.1 hF.2.1 dX12_thing_114 (fun v12 ev12 gv12 => ?_)
      have hF := hF.2.2 v12 ev12 gv12
      exact j_iret hJ rfl gv12 dX12_thing_115 hF
    by_cases z13 : p3 = 3
    · refine j_tabIn hJ 91 116 gp3 dX12_thing_25 (by omega) (by omega) (by rw [z13]; decide) (by decide) ?_
      have hF := hF.2.2.2.1 z13
      refine j_aload_n hJ dX12_thing_116 rfl 1 rfl ?_
      refine j_iload_n hJ dX12_thing_117 rfl 2 rfl ?_
      refine j_iload_n hJ dX12_thing_118 rfl 3 rfl ?_
      refine j_callVi hJ (c_X12_sizeIn (l := l) (D := D) (cy := cy) (ad := ad) hin) rfl om_1197 ⟨rfl, rfl, Nat.le_of_ble_eq_true rfl, Nat.le_of_ble_eq_true rfl⟩ [.int (Ii p1), .int (Ii p2)] mv_X12_594 hd_X12_sizeInv kR_0 rfl rfl rfl (Nat.le_of_ble_eq_true rfl) dX12_thing_119 ⟨p1, p2, rfl, gp1, gp2, hF⟩ (fun r14 M15 gr14 qM15 => ?_)
      have hF := qM15 gr14
      exact j_iret hJ rfl gr14 dX12_thing_122 hF
    by_cases z16 : p3 = 4
    · refine j_tabIn hJ 98 123 gp3 dX12_thing_25 (by omega) (by omega) (by rw [z16]; decide) (by decide) ?_
      have hF := hF.2.2.2.2.1 z16
      refine j_aload_n hJ dX12_thing_123 rfl 1 rfl ?_
      refine j_gr (e := 43) hJ kR_0 fR_15_53 fl_X12_198 dX12_thing_124 rfl ?_
      refine j_iload hJ dX12_thing_127 0 rfl ?_
      refine j_iald hJ gr5 kR_43 hF.1 hF.2.1 dX12_thing_129 (fun v17 ev17 gv17 => ?_)
      have hF := hF.2.2 v17 ev17 gv17
      exact j_iret hJ rfl gv17 dX12_thing_130 hF
    by_cases z18 : p3 = 5
    · refine j_tabIn hJ 106 131 gp3 dX12_thing_25 (by omega) (by omega) (by rw [z18]; decide) (by decide) ?_
      have hF := hF.2.2.2.2.2.1 z18
      refine j_aload_n hJ dX12_thing_131 rfl 1 rfl ?_
      refine j_gr (e := 44) hJ kR_0 fR_15_54 fl_X12_201 dX12_thing_132 rfl ?_
      refine j_iload hJ dX12_thing_135 0 rfl ?_
      refine j_iald hJ gr5 kR_44 hF.1 hF.2.1 dX12_thing_137 (fun v19 ev19 gv19 => ?_)
      have hF := hF.2.2 v19 ev19 gv19
      exact j_iret hJ rfl gv19 dX12_thing_138 hF
    by_cases z20 : p3 = 6
    · refine j_tabIn hJ 114 139 gp3 dX12_thing_25 (by omega) (by omega) (by rw [z20]; decide) (by decide) ?_
      have hF := hF.2.2.2.2.2.2.1 z20
      refine j_aload_n hJ dX12_thing_139 rfl 1 rfl ?_
      refine j_gr (e := 45) hJ kR_0 fR_15_55 fl_X12_204 dX12_thing_140 rfl ?_
      refine j_iload hJ dX12_thing_143 0 rfl ?_
      refine j_iald hJ gr5 kR_45 hF.1 hF.2.1 dX12_thing_145 (fun v21 ev21 gv21 => ?_)
      have hF := hF.2.2 v21 ev21 gv21
      exact j_iret hJ rfl gv21 dX12_thing_146 hF
    by_cases z22 : p3 = 7
    · refine j_tabIn hJ 122 147 gp3 dX12_thing_25 (by omega) (by omega) (by rw [z22]; decide) (by decide) ?_
      have hF := hF.2.2.2.2.2.2.2.1 z22
      refine j_aload_n hJ dX12_thing_147 rfl 1 rfl ?_
      refine j_iload_n hJ dX12_thing_148 rfl 2 rfl ?_
      refine j_iload_n hJ dX12_thing_149 rfl 3 rfl ?_
      refine j_callVi hJ (c_X12_holders (l := l) (D := D) (cy := cy) (ad := ad) hin) rfl om_1320 ⟨rfl, rfl, Nat.le_of_ble_eq_true rfl, Nat.le_of_ble_eq_true rfl⟩ [.int (Ii p1), .int (Ii p2)] mv_X12_603 hd_X12_holdersv kR_0 rfl rfl rfl (Nat.le_of_ble_eq_true rfl) dX12_thing_150 ⟨p1, p2, rfl, gp1, gp2, hF⟩ (fun r23 M24 gr23 qM24 => ?_)
      have hF := qM24 gr23
      exact j_iret hJ rfl gr23 dX12_thing_153 hF
    by_cases z25 : p3 = 8
    · refine j_tabIn hJ 129 154 gp3 dX12_thing_25 (by omega) (by omega) (by rw [z25]; decide) (by decide) ?_
      have hF := hF.2.2.2.2.2.2.2.2.1 z25
      refine j_aload_n hJ dX12_thing_154 rfl 1 rfl ?_
      refine j_gr (e := 46) hJ kR_0 fR_15_56 fl_X12_207 dX12_thing_155 rfl ?_
      refine j_iload hJ dX12_thing_158 0 rfl ?_
      refine j_iald hJ gr5 kR_46 hF.1 hF.2.1 dX12_thing_160 (fun v26 ev26 gv26 => ?_)
      have hF := hF.2.2 v26 ev26 gv26
      exact j_iret hJ rfl gv26 dX12_thing_161 hF
    by_cases z27 : p3 = 9
    · refine j_tabIn hJ 137 162 gp3 dX12_thing_25 (by omega) (by omega) (by rw [z27]; decide) (by decide) ?_
      have hF := hF.2.2.2.2.2.2.2.2.2.1 z27
      refine j_aload_n hJ dX12_thing_162 rfl 1 rfl ?_
      refine j_gr (e := 47) hJ kR_0 fR_15_57 fl_X12_210 dX12_thing_163 rfl ?_
      refine j_iload hJ dX12_thing_166 0 rfl ?_
      refine j_iald hJ gr5 kR_47 hF.1 hF.2.1 dX12_thing_168 (fun v28 ev28 gv28 => ?_)
      have hF := hF.2.2 v28 ev28 gv28
      exact j_iret hJ rfl gv28 dX12_thing_169 hF
    by_cases z29 : p3 = 10
    · refine j_tabIn hJ 145 170 gp3 dX12_thing_25 (by omega) (by omega) (by rw [z29]; decide) (by decide) ?_
      have hF := hF.2.2.2.2.2.2.2.2.2.2.1 z29
      refine j_aload_n hJ dX12_thing_170 rfl 1 rfl ?_
      refine j_gr (e := 48) hJ kR_0 fR_15_58 fl_X12_213 dX12_thing_171 rfl ?_
      refine j_iload hJ dX12_thing_174 0 rfl ?_
      refine j_iald hJ gr5 kR_48 hF.1 hF.2.1 dX12_thing_176 (fun v30 ev30 gv30 => ?_)
      have hF := hF.2.2 v30 ev30 gv30
      exact j_iret hJ rfl gv30 dX12_thing_177 hF
    by_cases z31 : p3 = 11
    · refine j_tabIn hJ 153 178 gp3 dX12_thing_25 (by omega) (by omega) (by rw [z31]; decide) (by decide) ?_
      have hF := hF.2.2.2.2.2.2.2.2.2.2.2.1 z31
      refine j_aload_n hJ dX12_thing_178 rfl 1 rfl ?_
      refine j_gr (e := 49) hJ kR_0 fR_15_59 fl_X12_216 dX12_thing_179 rfl ?_
      refine j_iload hJ dX12_thing_182 0 rfl ?_
      refine j_iald hJ gr5 kR_49 hF.1 hF.2.1 dX12_thing_184 (fun v32 ev32 gv32 => ?_)
      have hF := hF.2.2 v32 ev32 gv32
      exact j_iret hJ rfl gv32 dX12_thing_185 hF
    by_cases z33 : p3 = 12
    · refine j_tabIn hJ 161 186 gp3 dX12_thing_25 (by omega) (by omega) (by rw [z33]; decide) (by decide) ?_
      have hF := hF.2.2.2.2.2.2.2.2.2.2.2.2.1 z33
      refine j_aload_n hJ dX12_thing_186 rfl 1 rfl ?_
      refine j_gr (e := 50) hJ kR_0 fR_15_60 fl_X12_219 dX12_thing_187 rfl ?_
      refine j_iload hJ dX12_thing_190 0 rfl ?_
      refine j_iald hJ gr5 kR_50 hF.1 hF.2.1 dX12_thing_192 (fun v34 ev34 gv34 => ?_)
      have hF := hF.2.2 v34 ev34 gv34
      exact j_iret hJ rfl gv34 dX12_thing_193 hF
    have z35 : ¬ p3 = 0 ∧ ¬ p3 = 1 ∧ ¬ p3 = 2 ∧ ¬ p3 = 3 ∧ ¬ p3 = 4 ∧ ¬ p3 = 5 ∧ ¬ p3 = 6 ∧ ¬ p3 = 7 ∧ ¬ p3 = 8 ∧ ¬ p3 = 9 ∧ ¬ p3 = 10 ∧ ¬ p3 = 11 ∧ ¬ p3 = 12 := ⟨z7, z9, z11, z13, z16, z18, z20, z22, z25, z27, z29, z31, z33⟩
    have hF := hF.2.2.2.2.2.2.2.2.2.2.2.2.2 z35
    refine j_tabOut hJ 194 gp3 dX12_thing_25 (by omega) (by decide) ?_
    refine j_iconst hJ dX12_thing_194 ?_
    exact j_iret hJ rfl rk_m1 dX12_thing_195 hF
  · have hF := hF.2 z4
    refine j_iconst hJ dX12_thing_14 ?_
    exact j_iret hJ rfl rk_m1 dX12_thing_15 hF
def W_X12_slot (ad : Nat → Nat) (Q : Int → MM → Prop) (av : List Value) (M : MM) : Prop := ∃ (p1 : Int) (p2 : Int) (p3 : Int), av = [.ref (ad 0), .int (Ii p1), .int (Ii p2), .int (Ii p3)] ∧ ri_ p1 ∧ ri_ p2 ∧ ri_ p3 ∧ w_X12_slot  Q p1 p2 p3 M
set_option maxHeartbeats 4000000 in
set_option maxRecDepth 100000 in
theorem k_X12_slot_b29 {l : Launch} {D : va_G} {cy : Nat → ClassId} {ad : Nat → Nat} {Q : Int → MM → Prop} {J : Nat → List (Nat × Value) → List Value → MM → Prop} (hin : jIn ad ksR.length)   (hJ : jOk l D vwCl (tyR cy) cy ad ftR ksR (XtR ad) Om RX12 cX12_slot 4 2 ({ frames := 3, cells := 0, slots := 0, locals := 65 } : Room) Q J)  : ∀ (x1 x2 x3 s0 : Int) (M : MM), ri_ x1 → ri_ x2 → ri_ x3 → ri_ s0 → w_X12_slot_b29  Q  x1 x2 x3 s0 M → J 29 [(0, .ref (ad 0)), (1, .int (Ii x1)), (2, .int (Ii x2)), (3, .int (Ii x3))] [.int (Ii s0), .ref (ad 0)] M := by
  intro x1 x2 x3 s0 M gx1 gx2 gx3 gs0 hF
  unfold w_X12_slot_b29 at hF
  refine j_pi hJ gs0 kR_0 fR_15_0 rfl fp_X12_388 dX12_slot_29 (fun M1 eM1 => ?_)
  have hF := hF M1 eM1
  refine j_aload_n hJ dX12_slot_32 rfl 0 rfl ?_
  refine j_gi hJ kR_0 fR_15_0 rfl fl_X12_388 dX12_slot_33 (fun v2 ev2 gv2 => ?_)
  have hF := hF v2 ev2 gv2
  refine j_if_le hJ 43 gv2 dX12_slot_36 (by decide) (fun z3 => ?_) (fun z3 => ?_)
  · have hF := hF.1 z3
    refine j_aload_n hJ dX12_slot_43 rfl 0 rfl ?_
    refine j_iload_n hJ dX12_slot_44 rfl 1 rfl ?_
    refine j_iload_n hJ dX12_slot_45 rfl 2 rfl ?_
    refine j_iload_n hJ dX12_slot_46 rfl 3 rfl ?_
    refine j_callVl hJ (c_X12_valueIn (l := l) (D := D) (cy := cy) (ad := ad) hin) rfl om_1173 ⟨rfl, rfl, Nat.le_of_ble_eq_true rfl, Nat.le_of_ble_eq_true rfl⟩ [.int (Ii x1), .int (Ii x2), .int (Ii x3)] mv_X12_577 hd_X12_valueInv kR_0 rfl rfl rfl (Nat.le_of_ble_eq_true rfl) dX12_slot_47 ⟨x1, x2, x3, rfl, gx1, gx2, gx3, hF⟩ (fun r4 M5 gr4 qM5 => ?_)
    have hF := qM5 gr4
    exact j_lret hJ rfl gr4 dX12_slot_50 hF
  · have hF := hF.2 z3
    refine j_lconst (x := 0) hJ dX12_slot_39 rfl ?_
    refine j_goto hJ 50 dX12_slot_40 (by decide) ?_
    exact j_lret hJ rfl lkm_0 dX12_slot_50 hF
set_option maxHeartbeats 4000000 in
set_option maxRecDepth 100000 in
theorem k_X12_slot_b24 {l : Launch} {D : va_G} {cy : Nat → ClassId} {ad : Nat → Nat} {Q : Int → MM → Prop} {J : Nat → List (Nat × Value) → List Value → MM → Prop} (hin : jIn ad ksR.length)   (hJ : jOk l D vwCl (tyR cy) cy ad ftR ksR (XtR ad) Om RX12 cX12_slot 4 2 ({ frames := 3, cells := 0, slots := 0, locals := 65 } : Room) Q J)  : ∀ (x1 x2 x3 : Int) (M : MM), ri_ x1 → ri_ x2 → ri_ x3 → w_X12_slot_b24  Q  x1 x2 x3 M → J 24 [(0, .ref (ad 0)), (1, .int (Ii x1)), (2, .int (Ii x2)), (3, .int (Ii x3))] [.ref (ad 0)] M := by
  intro x1 x2 x3 M gx1 gx2 gx3 hF
  unfold w_X12_slot_b24 at hF
  refine j_iconst hJ dX12_slot_24 ?_
  refine j_goto hJ 29 dX12_slot_25 (by decide) ?_
  exact j_sub hJ [0, 1, 2, 3] rfl (k_X12_slot_b29 hin  hJ  x1 x2 x3 1 _ gx1 gx2 gx3 rk_1 hF)
set_option maxHeartbeats 4000000 in
set_option maxRecDepth 100000 in
theorem c_X12_slot {l : Launch} {D : va_G} {cy : Nat → ClassId} {ad : Nat → Nat} (hin : jIn ad ksR.length) : jCN l D vwCl (tyR cy) cy ad ftR ksR (XtR ad) yX12_slot (.code yX12_slot cX12_slot 4 (some .long) :: Om) ({ frames := 3, cells := 0, slots := 0, locals := 65 } : Room) 2 (W_X12_slot ad) := by
  refine jCN_of (y := yX12_slot) (cc := cX12_slot) (nL := 4) (rk := 2) (rm := ({ frames := 3, cells := 0, slots := 0, locals := 65 } : Room)) (own := RX12) (tyR_ok cy) hin (XtR_ok ad) Om_good (by decide) rfl ?_
  intro Q av M hF
  obtain ⟨p1, p2, p3, rfl, gp1, gp2, gp3, hF⟩ := hF
  refine ⟨Nat.le_of_ble_eq_true rfl, fun J hJ => ?_⟩
  show J 0 [(0, .ref (ad 0)), (1, .int (Ii p1)), (2, .int (Ii p2)), (3, .int (Ii p3))] [] M
  unfold w_X12_slot at hF
  refine j_aload_n hJ dX12_slot_0 rfl 0 rfl ?_
  refine j_aload_n hJ dX12_slot_1 rfl 0 rfl ?_
  refine j_iload_n hJ dX12_slot_2 rfl 1 rfl ?_
  refine j_iload_n hJ dX12_slot_3 rfl 2 rfl ?_
  refine j_callVz hJ (c_X12_isThing (l := l) (D := D) (cy := cy) (ad := ad) hin) rfl om_1316 ⟨rfl, rfl, Nat.le_of_ble_eq_true rfl, Nat.le_of_ble_eq_true rfl⟩ [.int (Ii p1), .int (Ii p2)] mv_X12_600 hd_X12_isThingv kR_0 rfl rfl rfl (Nat.le_of_ble_eq_true rfl) dX12_slot_4 ⟨p1, p2, rfl, gp1, gp2, hF⟩ (fun r1 M2 gr1 qM2 => ?_)
  have hF := qM2 gr1
  refine j_if_eq hJ 24 (jz_ri gr1) dX12_slot_7 (by decide) (fun z3 => ?_) (fun z3 => ?_)
  · have hF := hF.1 z3
    exact j_sub hJ [0, 1, 2, 3] rfl (k_X12_slot_b24 hin  hJ  p1 p2 p3 _ gp1 gp2 gp3 hF)
  · have hF := hF.2 z3
    refine j_iload_n hJ dX12_slot_10 rfl 3 rfl ?_
    refine j_if_lt hJ 24 gp3 dX12_slot_11 (by decide) (fun z4 => ?_) (fun z4 => ?_)
    · have hF := hF.1 z4
      exact j_sub hJ [0, 1, 2, 3] rfl (k_X12_slot_b24 hin  hJ  p1 p2 p3 _ gp1 gp2 gp3 hF)
    · have hF := hF.2 z4
      refine j_iload_n hJ dX12_slot_14 rfl 3 rfl ?_
      refine j_aload_n hJ dX12_slot_15 rfl 0 rfl ?_
      refine j_iload_n hJ dX12_slot_16 rfl 1 rfl ?_
      refine j_iload_n hJ dX12_slot_17 rfl 2 rfl ?_
      refine j_callVi hJ (c_X12_slotsIn (l := l) (D := D) (cy := cy) (ad := ad) hin) rfl om_1165 ⟨rfl, rfl, Nat.le_of_ble_eq_true rfl, Nat.le_of_ble_eq_true rfl⟩ [.int (Ii p1), .int (Ii p2)] mv_X12_570 hd_X12_slotsInv kR_0 rfl rfl rfl (Nat.le_of_ble_eq_true rfl) dX12_slot_18 ⟨p1, p2, rfl, gp1, gp2, hF⟩ (fun r5 M6 gr5 qM6 => ?_)
      have hF := qM6 gr5
      refine j_icmp_lt hJ 28 gp3 gr5 dX12_slot_21 (by decide) (fun z7 => ?_) (fun z7 => ?_)
      · have hF := hF.1 z7
        refine j_iconst hJ dX12_slot_28 ?_
        exact j_sub hJ [0, 1, 2, 3] rfl (k_X12_slot_b29 hin  hJ  p1 p2 p3 0 _ gp1 gp2 gp3 rk_0 hF)
      · have hF := hF.2 z7
        exact j_sub hJ [0, 1, 2, 3] rfl (k_X12_slot_b24 hin  hJ  p1 p2 p3 _ gp1 gp2 gp3 hF)
def W_X12_holder (ad : Nat → Nat) (Q : Int → MM → Prop) (av : List Value) (M : MM) : Prop := ∃ (p1 : Int) (p2 : Int) (p3 : Int) (p4 : Int), av = [.ref (ad 0), .int (Ii p1), .int (Ii p2), .int (Ii p3), .int (Ii p4)] ∧ ri_ p1 ∧ ri_ p2 ∧ ri_ p3 ∧ ri_ p4 ∧ w_X12_holder  Q p1 p2 p3 p4 M
set_option maxHeartbeats 4000000 in
set_option maxRecDepth 100000 in
theorem k_X12_holder_b221 {l : Launch} {D : va_G} {cy : Nat → ClassId} {ad : Nat → Nat} {Q : Int → MM → Prop} {J : Nat → List (Nat × Value) → List Value → MM → Prop} (hin : jIn ad ksR.length)   (hJ : jOk l D vwCl (tyR cy) cy ad ftR ksR (XtR ad) Om RX12 cX12_holder 9 1 ({ frames := 4, cells := 0, slots := 0, locals := 95 } : Room) Q J) {K132 : Int → Int → Int → Int → Int → Int → MM → Prop} (hK132 : ∀ (x1 x2 x4 x5 x6 x7 : Int) (M : MM), ri_ x1 → ri_ x2 → ri_ x4 → ri_ x5 → ri_ x6 → ri_ x7 → K132 x1 x2 x4 x5 x6 x7 M → J 132 [(0, .ref (ad 0)), (1, .int (Ii x1)), (2, .int (Ii x2)), (4, .int (Ii x4)), (5, .int (Ii x5)), (6, .int (Ii x6)), (7, .int (Ii x7))] [] M) : ∀ (x1 x2 x4 x5 x6 x7 : Int) (M : MM), ri_ x1 → ri_ x2 → ri_ x4 → ri_ x5 → ri_ x6 → ri_ x7 → w_X12_holder_b221  Q K132 x1 x2 x4 x5 x6 x7 M → J 221 [(0, .ref (ad 0)), (1, .int (Ii x1)), (2, .int (Ii x2)), (4, .int (Ii x4)), (5, .int (Ii x5)), (6, .int (Ii x6)), (7, .int (Ii x7))] [] M := by
  intro x1 x2 x4 x5 x6 x7 M gx1 gx2 gx4 gx5 gx6 gx7 hF
  unfold w_X12_holder_b221 at hF
  refine j_iinc (lv' := [(7, .int (Ii (x7 + 1))), (0, .ref (ad 0)), (1, .int (Ii x1)), (2, .int (Ii x2)), (4, .int (Ii x4)), (5, .int (Ii x5)), (6, .int (Ii x6))]) (k := 6) hJ dX12_holder_221 rfl (by decide) rfl ?_
  have g1 := hF.1; have hF := hF.2
  refine j_goto hJ 132 dX12_holder_224 (by decide) ?_
  exact j_sub hJ [1, 2, 3, 4, 5, 6, 0] rfl (hK132 x1 x2 x4 x5 x6 (x7 + 1) _ gx1 gx2 gx4 gx5 gx6 g1 hF)
set_option maxHeartbeats 4000000 in
set_option maxRecDepth 100000 in
theorem k_X12_holder_b215 {l : Launch} {D : va_G} {cy : Nat → ClassId} {ad : Nat → Nat} {Q : Int → MM → Prop} {J : Nat → List (Nat × Value) → List Value → MM → Prop} (hin : jIn ad ksR.length)   (hJ : jOk l D vwCl (tyR cy) cy ad ftR ksR (XtR ad) Om RX12 cX12_holder 9 1 ({ frames := 4, cells := 0, slots := 0, locals := 95 } : Room) Q J) {K132 : Int → Int → Int → Int → Int → Int → MM → Prop} (hK132 : ∀ (x1 x2 x4 x5 x6 x7 : Int) (M : MM), ri_ x1 → ri_ x2 → ri_ x4 → ri_ x5 → ri_ x6 → ri_ x7 → K132 x1 x2 x4 x5 x6 x7 M → J 132 [(0, .ref (ad 0)), (1, .int (Ii x1)), (2, .int (Ii x2)), (4, .int (Ii x4)), (5, .int (Ii x5)), (6, .int (Ii x6)), (7, .int (Ii x7))] [] M) {K151 : Int → Int → Int → Int → Int → Int → Int → MM → Prop} (hK151 : ∀ (x1 x2 x4 x5 x6 x7 x8 : Int) (M : MM), ri_ x1 → ri_ x2 → ri_ x4 → ri_ x5 → ri_ x6 → ri_ x7 → ri_ x8 → K151 x1 x2 x4 x5 x6 x7 x8 M → J 151 [(0, .ref (ad 0)), (1, .int (Ii x1)), (2, .int (Ii x2)), (4, .int (Ii x4)), (5, .int (Ii x5)), (6, .int (Ii x6)), (7, .int (Ii x7)), (8, .int (Ii x8))] [] M) : ∀ (x1 x2 x4 x5 x6 x7 x8 : Int) (M : MM), ri_ x1 → ri_ x2 → ri_ x4 → ri_ x5 → ri_ x6 → ri_ x7 → ri_ x8 → w_X12_holder_b215  Q K132 K151 x1 x2 x4 x5 x6 x7 x8 M → J 215 [(0, .ref (ad 0)), (1, .int (Ii x1)), (2, .int (Ii x2)), (4, .int (Ii x4)), (5, .int (Ii x5)), (6, .int (Ii x6)), (7, .int (Ii x7)), (8, .int (Ii x8))] [] M := by
  intro x1 x2 x4 x5 x6 x7 x8 M gx1 gx2 gx4 gx5 gx6 gx7 gx8 hF
  unfold w_X12_holder_b215 at hF
  refine j_iinc (lv' := [(8, .int (Ii (x8 + 1))), (0, .ref (ad 0)), (1, .int (Ii x1)), (2, .int (Ii x2)), (4, .int (Ii x4)), (5, .int (Ii x5)), (6, .int (Ii x6)), (7, .int (Ii x7))]) (k := 7) hJ dX12_holder_215 rfl (by decide) rfl ?_
  have g1 := hF.1; have hF := hF.2
  refine j_goto hJ 151 dX12_holder_218 (by decide) ?_
  exact j_sub hJ [1, 2, 3, 4, 5, 6, 7, 0] rfl (hK151 x1 x2 x4 x5 x6 x7 (x8 + 1) _ gx1 gx2 gx4 gx5 gx6 gx7 g1 hF)
set_option maxHeartbeats 4000000 in
set_option maxRecDepth 100000 in
theorem k_X12_holder_b210 {l : Launch} {D : va_G} {cy : Nat → ClassId} {ad : Nat → Nat} {Q : Int → MM → Prop} {J : Nat → List (Nat × Value) → List Value → MM → Prop} (hin : jIn ad ksR.length)   (hJ : jOk l D vwCl (tyR cy) cy ad ftR ksR (XtR ad) Om RX12 cX12_holder 9 1 ({ frames := 4, cells := 0, slots := 0, locals := 95 } : Room) Q J) {K132 : Int → Int → Int → Int → Int → Int → MM → Prop} (hK132 : ∀ (x1 x2 x4 x5 x6 x7 : Int) (M : MM), ri_ x1 → ri_ x2 → ri_ x4 → ri_ x5 → ri_ x6 → ri_ x7 → K132 x1 x2 x4 x5 x6 x7 M → J 132 [(0, .ref (ad 0)), (1, .int (Ii x1)), (2, .int (Ii x2)), (4, .int (Ii x4)), (5, .int (Ii x5)), (6, .int (Ii x6)), (7, .int (Ii x7))] [] M) {K151 : Int → Int → Int → Int → Int → Int → Int → MM → Prop} (hK151 : ∀ (x1 x2 x4 x5 x6 x7 x8 : Int) (M : MM), ri_ x1 → ri_ x2 → ri_ x4 → ri_ x5 → ri_ x6 → ri_ x7 → ri_ x8 → K151 x1 x2 x4 x5 x6 x7 x8 M → J 151 [(0, .ref (ad 0)), (1, .int (Ii x1)), (2, .int (Ii x2)), (4, .int (Ii x4)), (5, .int (Ii x5)), (6, .int (Ii x6)), (7, .int (Ii x7)), (8, .int (Ii x8))] [] M) : ∀ (x1 x2 x4 x5 x7 x8 s0 : Int) (M : MM), ri_ x1 → ri_ x2 → ri_ x4 → ri_ x5 → ri_ x7 → ri_ x8 → ri_ s0 → w_X12_holder_b210  Q K132 K151 x1 x2 x4 x5 x7 x8 s0 M → J 210 [(0, .ref (ad 0)), (1, .int (Ii x1)), (2, .int (Ii x2)), (4, .int (Ii x4)), (5, .int (Ii x5)), (7, .int (Ii x7)), (8, .int (Ii x8))] [.int (Ii s0)] M := by
  intro x1 x2 x4 x5 x7 x8 s0 M gx1 gx2 gx4 gx5 gx7 gx8 gs0 hF
  unfold w_X12_holder_b210 at hF
  refine j_istore (lv' := [(6, .int (Ii s0)), (0, .ref (ad 0)), (1, .int (Ii x1)), (2, .int (Ii x2)), (4, .int (Ii x4)), (5, .int (Ii x5)), (7, .int (Ii x7)), (8, .int (Ii x8))]) hJ dX12_holder_210 (by decide) rfl ?_
  refine j_iinc (lv' := [(5, .int (Ii (x5 + (-1)))), (6, .int (Ii s0)), (0, .ref (ad 0)), (1, .int (Ii x1)), (2, .int (Ii x2)), (4, .int (Ii x4)), (7, .int (Ii x7)), (8, .int (Ii x8))]) (k := 5) hJ dX12_holder_212 rfl (by decide) rfl ?_
  have g1 := hF.1; have hF := hF.2
  exact j_sub hJ [2, 3, 4, 5, 0, 1, 6, 7] rfl (k_X12_holder_b215 hin  hJ hK132 hK151 x1 x2 x4 (x5 + (-1)) s0 x7 x8 _ gx1 gx2 gx4 g1 gs0 gx7 gx8 hF)
set_option maxHeartbeats 4000000 in
set_option maxRecDepth 100000 in
theorem k_X12_holder_b151 {l : Launch} {D : va_G} {cy : Nat → ClassId} {ad : Nat → Nat} {Q : Int → MM → Prop} {J : Nat → List (Nat × Value) → List Value → MM → Prop} (hin : jIn ad ksR.length)   (hJ : jOk l D vwCl (tyR cy) cy ad ftR ksR (XtR ad) Om RX12 cX12_holder 9 1 ({ frames := 4, cells := 0, slots := 0, locals := 95 } : Room) Q J) {K132 : Int → Int → Int → Int → Int → Int → MM → Prop} (hK132 : ∀ (x1 x2 x4 x5 x6 x7 : Int) (M : MM), ri_ x1 → ri_ x2 → ri_ x4 → ri_ x5 → ri_ x6 → ri_ x7 → K132 x1 x2 x4 x5 x6 x7 M → J 132 [(0, .ref (ad 0)), (1, .int (Ii x1)), (2, .int (Ii x2)), (4, .int (Ii x4)), (5, .int (Ii x5)), (6, .int (Ii x6)), (7, .int (Ii x7))] [] M) : ∀ (x1 x2 x4 x5 x6 x7 x8 : Int) (M : MM), ri_ x1 → ri_ x2 → ri_ x4 → ri_ x5 → ri_ x6 → ri_ x7 → ri_ x8 → w_X12_holder_b151  Q K132 x1 x2 x4 x5 x6 x7 x8 M → J 151 [(0, .ref (ad 0)), (1, .int (Ii x1)), (2, .int (Ii x2)), (4, .int (Ii x4)), (5, .int (Ii x5)), (6, .int (Ii x6)), (7, .int (Ii x7)), (8, .int (Ii x8))] [] M := by
  have H9 : ∀ (n : Nat) (x1 x2 x4 x5 x6 x7 x8 : Int) (M : MM), ri_ x1 → ri_ x2 → ri_ x4 → ri_ x5 → ri_ x6 → ri_ x7 → ri_ x8 → jit (fun _ _ _ _ _ _ _ _ => False) (wb_X12_holder_b151  Q K132) n x1 x2 x4 x5 x6 x7 x8 M → J 151 [(0, .ref (ad 0)), (1, .int (Ii x1)), (2, .int (Ii x2)), (4, .int (Ii x4)), (5, .int (Ii x5)), (6, .int (Ii x6)), (7, .int (Ii x7)), (8, .int (Ii x8))] [] M := by
    intro n
    induction n with
    | zero => intro x1 x2 x4 x5 x6 x7 x8 M gx1 gx2 gx4 gx5 gx6 gx7 gx8 hF; exact False.elim hF
    | succ n ih =>
    intro x1 x2 x4 x5 x6 x7 x8 M gx1 gx2 gx4 gx5 gx6 gx7 gx8 hF
    have hF : wb_X12_holder_b151  Q K132 (jit (fun _ _ _ _ _ _ _ _ => False) (wb_X12_holder_b151  Q K132) n) x1 x2 x4 x5 x6 x7 x8 M := hF
    unfold wb_X12_holder_b151 at hF
    refine j_iload hJ dX12_holder_151 7 rfl ?_
    refine j_aload_n hJ dX12_holder_153 rfl 0 rfl ?_
    refine j_iload_n hJ dX12_holder_154 rfl 1 rfl ?_
    refine j_iload hJ dX12_holder_155 6 rfl ?_
    refine j_callVi hJ (c_X12_slotsIn (l := l) (D := D) (cy := cy) (ad := ad) hin) rfl om_1165 ⟨rfl, rfl, Nat.le_of_ble_eq_true rfl, Nat.le_of_ble_eq_true rfl⟩ [.int (Ii x1), .int (Ii x7)] mv_X12_570 hd_X12_slotsInv kR_0 rfl rfl rfl (Nat.le_of_ble_eq_true rfl) dX12_holder_157 ⟨x1, x7, rfl, gx1, gx7, hF⟩ (fun r1 M2 gr1 qM2 => ?_)
    have hF := qM2 gr1
    refine j_icmp_ge hJ 221 gx8 gr1 dX12_holder_160 (by decide) (fun z3 => ?_) (fun z3 => ?_)
    · have hF := hF.1 z3
      exact j_sub hJ [0, 1, 2, 3, 4, 5, 6] rfl (k_X12_holder_b221 hin  hJ hK132 x1 x2 x4 x5 x6 x7 _ gx1 gx2 gx4 gx5 gx6 gx7 hF)
    · have hF := hF.2 z3
      refine j_iload hJ dX12_holder_163 4 rfl ?_
      refine j_if_lt hJ 221 gx5 dX12_holder_165 (by decide) (fun z4 => ?_) (fun z4 => ?_)
      · have hF := hF.1 z4
        exact j_sub hJ [0, 1, 2, 3, 4, 5, 6] rfl (k_X12_holder_b221 hin  hJ hK132 x1 x2 x4 x5 x6 x7 _ gx1 gx2 gx4 gx5 gx6 gx7 hF)
      · have hF := hF.2 z4
        refine j_aload_n hJ dX12_holder_168 rfl 0 rfl ?_
        refine j_iload_n hJ dX12_holder_169 rfl 1 rfl ?_
        refine j_iload hJ dX12_holder_170 6 rfl ?_
        refine j_iload hJ dX12_holder_172 7 rfl ?_
        refine j_callVz hJ (c_X12_linksIn (l := l) (D := D) (cy := cy) (ad := ad) hin) rfl om_1169 ⟨rfl, rfl, Nat.le_of_ble_eq_true rfl, Nat.le_of_ble_eq_true rfl⟩ [.int (Ii x1), .int (Ii x7), .int (Ii x8)] mv_X12_573 hd_X12_linksInv kR_0 rfl rfl rfl (Nat.le_of_ble_eq_true rfl) dX12_holder_174 ⟨x1, x7, x8, rfl, gx1, gx7, gx8, hF⟩ (fun r5 M6 gr5 qM6 => ?_)
        have hF := qM6 gr5
        refine j_if_eq hJ 215 (jz_ri gr5) dX12_holder_177 (by decide) (fun z7 => ?_) (fun z7 => ?_)
        · have hF := hF.1 z7
          exact j_sub hJ [0, 1, 2, 3, 4, 5, 6, 7] rfl (k_X12_holder_b215 hin  hJ hK132 ih x1 x2 x4 x5 x6 x7 x8 _ gx1 gx2 gx4 gx5 gx6 gx7 gx8 hF)
        · have hF := hF.2 z7
          refine j_aload_n hJ dX12_holder_180 rfl 0 rfl ?_
          refine j_iload_n hJ dX12_holder_181 rfl 1 rfl ?_
          refine j_iload hJ dX12_holder_182 6 rfl ?_
          refine j_iload hJ dX12_holder_184 7 rfl ?_
          refine j_callVl hJ (c_X12_valueIn (l := l) (D := D) (cy := cy) (ad := ad) hin) rfl om_1173 ⟨rfl, rfl, Nat.le_of_ble_eq_true rfl, Nat.le_of_ble_eq_true rfl⟩ [.int (Ii x1), .int (Ii x7), .int (Ii x8)] mv_X12_577 hd_X12_valueInv kR_0 rfl rfl rfl (Nat.le_of_ble_eq_true rfl) dX12_holder_186 ⟨x1, x7, x8, rfl, gx1, gx7, gx8, hF⟩ (fun r8 M9 gr8 qM9 => ?_)
          have hF := qM9 gr8
          refine j_iload_n hJ dX12_holder_189 rfl 2 rfl ?_
          refine j_i2l hJ gx2 dX12_holder_190 ?_
          refine j_lcmp_eq hJ 198 gr8 (rl_ri gx2) dX12_holder_191 dX12_holder_192 (by decide) (fun z10 => ?_) (fun z10 => ?_)
          · have hF := hF.1 z10
            refine j_iload hJ dX12_holder_198 3 rfl ?_
            refine j_if_ne hJ 208 gx4 dX12_holder_200 (by decide) (fun z11 => ?_) (fun z11 => ?_)
            · have hF := hF.1 z11
              refine j_iload hJ dX12_holder_208 7 rfl ?_
              exact j_sub hJ [0, 1, 2, 3, 4, 6, 7] rfl (k_X12_holder_b210 hin  hJ hK132 ih x1 x2 x4 x5 x7 x8 x8 _ gx1 gx2 gx4 gx5 gx7 gx8 gx8 hF)
            · have hF := hF.2 z11
              refine j_iload hJ dX12_holder_203 6 rfl ?_
              refine j_goto hJ 210 dX12_holder_205 (by decide) ?_
              exact j_sub hJ [0, 1, 2, 3, 4, 6, 7] rfl (k_X12_holder_b210 hin  hJ hK132 ih x1 x2 x4 x5 x7 x8 x7 _ gx1 gx2 gx4 gx5 gx7 gx8 gx7 hF)
          · have hF := hF.2 z10
            refine j_goto hJ 215 dX12_holder_195 (by decide) ?_
            exact j_sub hJ [0, 1, 2, 3, 4, 5, 6, 7] rfl (k_X12_holder_b215 hin  hJ hK132 ih x1 x2 x4 x5 x6 x7 x8 _ gx1 gx2 gx4 gx5 gx6 gx7 gx8 hF)
  intro x1 x2 x4 x5 x6 x7 x8 M gx1 gx2 gx4 gx5 gx6 gx7 gx8 hF
  obtain ⟨n, hF⟩ := hF
  exact H9 n x1 x2 x4 x5 x6 x7 x8 M gx1 gx2 gx4 gx5 gx6 gx7 gx8 hF
set_option maxHeartbeats 4000000 in
set_option maxRecDepth 100000 in
theorem k_X12_holder_b132 {l : Launch} {D : va_G} {cy : Nat → ClassId} {ad : Nat → Nat} {Q : Int → MM → Prop} {J : Nat → List (Nat × Value) → List Value → MM → Prop} (hin : jIn ad ksR.length)   (hJ : jOk l D vwCl (tyR cy) cy ad ftR ksR (XtR ad) Om RX12 cX12_holder 9 1 ({ frames := 4, cells := 0, slots := 0, locals := 95 } : Room) Q J)  : ∀ (x1 x2 x4 x5 x6 x7 : Int) (M : MM), ri_ x1 → ri_ x2 → ri_ x4 → ri_ x5 → ri_ x6 → ri_ x7 → w_X12_holder_b132  Q  x1 x2 x4 x5 x6 x7 M → J 132 [(0, .ref (ad 0)), (1, .int (Ii x1)), (2, .int (Ii x2)), (4, .int (Ii x4)), (5, .int (Ii x5)), (6, .int (Ii x6)), (7, .int (Ii x7))] [] M := by
  have H9 : ∀ (n : Nat) (x1 x2 x4 x5 x6 x7 : Int) (M : MM), ri_ x1 → ri_ x2 → ri_ x4 → ri_ x5 → ri_ x6 → ri_ x7 → jit (fun _ _ _ _ _ _ _ => False) (wb_X12_holder_b132  Q ) n x1 x2 x4 x5 x6 x7 M → J 132 [(0, .ref (ad 0)), (1, .int (Ii x1)), (2, .int (Ii x2)), (4, .int (Ii x4)), (5, .int (Ii x5)), (6, .int (Ii x6)), (7, .int (Ii x7))] [] M := by
    intro n
    induction n with
    | zero => intro x1 x2 x4 x5 x6 x7 M gx1 gx2 gx4 gx5 gx6 gx7 hF; exact False.elim hF
    | succ n ih =>
    intro x1 x2 x4 x5 x6 x7 M gx1 gx2 gx4 gx5 gx6 gx7 hF
    have hF : wb_X12_holder_b132  Q  (jit (fun _ _ _ _ _ _ _ => False) (wb_X12_holder_b132  Q ) n) x1 x2 x4 x5 x6 x7 M := hF
    unfold wb_X12_holder_b132 at hF
    refine j_iload hJ dX12_holder_132 6 rfl ?_
    refine j_aload_n hJ dX12_holder_134 rfl 0 rfl ?_
    refine j_gr (e := 38) hJ kR_0 fR_15_48 fl_X12_183 dX12_holder_135 rfl ?_
    refine j_iload_n hJ dX12_holder_138 rfl 1 rfl ?_
    refine j_iald hJ gx1 kR_38 hF.1 hF.2.1 dX12_holder_139 (fun v1 ev1 gv1 => ?_)
    have hF := hF.2.2 v1 ev1 gv1
    refine j_icmp_ge hJ 227 gx7 gv1 dX12_holder_140 (by decide) (fun z2 => ?_) (fun z2 => ?_)
    · have hF := hF.1 z2
      refine j_iload hJ dX12_holder_227 5 rfl ?_
      exact j_iret hJ rfl gx6 dX12_holder_229 hF
    · have hF := hF.2 z2
      refine j_iload hJ dX12_holder_143 4 rfl ?_
      refine j_if_lt hJ 227 gx5 dX12_holder_145 (by decide) (fun z3 => ?_) (fun z3 => ?_)
      · have hF := hF.1 z3
        refine j_iload hJ dX12_holder_227 5 rfl ?_
        exact j_iret hJ rfl gx6 dX12_holder_229 hF
      · have hF := hF.2 z3
        refine j_iconst hJ dX12_holder_148 ?_
        refine j_istore (lv' := [(8, .int (Ii 0)), (0, .ref (ad 0)), (1, .int (Ii x1)), (2, .int (Ii x2)), (4, .int (Ii x4)), (5, .int (Ii x5)), (6, .int (Ii x6)), (7, .int (Ii x7))]) hJ dX12_holder_149 (by decide) rfl ?_
        exact j_sub hJ [1, 2, 3, 4, 5, 6, 7, 0] rfl (k_X12_holder_b151 hin  hJ ih x1 x2 x4 x5 x6 x7 0 _ gx1 gx2 gx4 gx5 gx6 gx7 rk_0 hF)
  intro x1 x2 x4 x5 x6 x7 M gx1 gx2 gx4 gx5 gx6 gx7 hF
  obtain ⟨n, hF⟩ := hF
  exact H9 n x1 x2 x4 x5 x6 x7 M gx1 gx2 gx4 gx5 gx6 gx7 hF
set_option maxHeartbeats 4000000 in
set_option maxRecDepth 100000 in
theorem k_X12_holder_b120 {l : Launch} {D : va_G} {cy : Nat → ClassId} {ad : Nat → Nat} {Q : Int → MM → Prop} {J : Nat → List (Nat × Value) → List Value → MM → Prop} (hin : jIn ad ksR.length)   (hJ : jOk l D vwCl (tyR cy) cy ad ftR ksR (XtR ad) Om RX12 cX12_holder 9 1 ({ frames := 4, cells := 0, slots := 0, locals := 95 } : Room) Q J) {K58 : Int → Int → Int → Int → Int → MM → Prop} (hK58 : ∀ (x1 x2 x4 x5 x6 : Int) (M : MM), ri_ x1 → ri_ x2 → ri_ x4 → ri_ x5 → ri_ x6 → K58 x1 x2 x4 x5 x6 M → J 58 [(0, .ref (ad 0)), (1, .int (Ii x1)), (2, .int (Ii x2)), (4, .int (Ii x4)), (5, .int (Ii x5)), (6, .int (Ii x6))] [] M) : ∀ (x1 x2 x4 x5 x6 : Int) (M : MM), ri_ x1 → ri_ x2 → ri_ x4 → ri_ x5 → ri_ x6 → w_X12_holder_b120  Q K58 x1 x2 x4 x5 x6 M → J 120 [(0, .ref (ad 0)), (1, .int (Ii x1)), (2, .int (Ii x2)), (4, .int (Ii x4)), (5, .int (Ii x5)), (6, .int (Ii x6))] [] M := by
  intro x1 x2 x4 x5 x6 M gx1 gx2 gx4 gx5 gx6 hF
  unfold w_X12_holder_b120 at hF
  refine j_iinc (lv' := [(6, .int (Ii (x6 + 1))), (0, .ref (ad 0)), (1, .int (Ii x1)), (2, .int (Ii x2)), (4, .int (Ii x4)), (5, .int (Ii x5))]) (k := 5) hJ dX12_holder_120 rfl (by decide) rfl ?_
  have g1 := hF.1; have hF := hF.2
  refine j_goto hJ 58 dX12_holder_123 (by decide) ?_
  exact j_sub hJ [1, 2, 3, 4, 5, 0] rfl (hK58 x1 x2 x4 x5 (x6 + 1) _ gx1 gx2 gx4 gx5 g1 hF)
set_option maxHeartbeats 4000000 in
set_option maxRecDepth 100000 in
theorem k_X12_holder_b58 {l : Launch} {D : va_G} {cy : Nat → ClassId} {ad : Nat → Nat} {Q : Int → MM → Prop} {J : Nat → List (Nat × Value) → List Value → MM → Prop} (hin : jIn ad ksR.length)   (hJ : jOk l D vwCl (tyR cy) cy ad ftR ksR (XtR ad) Om RX12 cX12_holder 9 1 ({ frames := 4, cells := 0, slots := 0, locals := 95 } : Room) Q J)  : ∀ (x1 x2 x4 x5 x6 : Int) (M : MM), ri_ x1 → ri_ x2 → ri_ x4 → ri_ x5 → ri_ x6 → w_X12_holder_b58  Q  x1 x2 x4 x5 x6 M → J 58 [(0, .ref (ad 0)), (1, .int (Ii x1)), (2, .int (Ii x2)), (4, .int (Ii x4)), (5, .int (Ii x5)), (6, .int (Ii x6))] [] M := by
  have H9 : ∀ (n : Nat) (x1 x2 x4 x5 x6 : Int) (M : MM), ri_ x1 → ri_ x2 → ri_ x4 → ri_ x5 → ri_ x6 → jit (fun _ _ _ _ _ _ => False) (wb_X12_holder_b58  Q ) n x1 x2 x4 x5 x6 M → J 58 [(0, .ref (ad 0)), (1, .int (Ii x1)), (2, .int (Ii x2)), (4, .int (Ii x4)), (5, .int (Ii x5)), (6, .int (Ii x6))] [] M := by
    intro n
    induction n with
    | zero => intro x1 x2 x4 x5 x6 M gx1 gx2 gx4 gx5 gx6 hF; exact False.elim hF
    | succ n ih =>
    intro x1 x2 x4 x5 x6 M gx1 gx2 gx4 gx5 gx6 hF
    have hF : wb_X12_holder_b58  Q  (jit (fun _ _ _ _ _ _ => False) (wb_X12_holder_b58  Q ) n) x1 x2 x4 x5 x6 M := hF
    unfold wb_X12_holder_b58 at hF
    refine j_iload hJ dX12_holder_58 5 rfl ?_
    refine j_aload_n hJ dX12_holder_60 rfl 0 rfl ?_
    refine j_gr (e := 55) hJ kR_0 fR_15_65 fl_X12_234 dX12_holder_61 rfl ?_
    refine j_iload_n hJ dX12_holder_64 rfl 1 rfl ?_
    refine j_iald hJ gx1 kR_55 hF.1 hF.2.1 dX12_holder_65 (fun v1 ev1 gv1 => ?_)
    have hF := hF.2.2 v1 ev1 gv1
    refine j_icmp_ge hJ 126 gx6 gv1 dX12_holder_66 (by decide) (fun z2 => ?_) (fun z2 => ?_)
    · have hF := hF.1 z2
      refine j_iconst hJ dX12_holder_126 ?_
      refine j_istore (lv' := [(6, .int (Ii (-1))), (0, .ref (ad 0)), (1, .int (Ii x1)), (2, .int (Ii x2)), (4, .int (Ii x4)), (5, .int (Ii x5))]) hJ dX12_holder_127 (by decide) rfl ?_
      refine j_iconst hJ dX12_holder_129 ?_
      refine j_istore (lv' := [(7, .int (Ii 0)), (6, .int (Ii (-1))), (0, .ref (ad 0)), (1, .int (Ii x1)), (2, .int (Ii x2)), (4, .int (Ii x4)), (5, .int (Ii x5))]) hJ dX12_holder_130 (by decide) rfl ?_
      exact j_sub hJ [2, 3, 4, 5, 6, 1, 0] rfl (k_X12_holder_b132 hin  hJ  x1 x2 x4 x5 (-1) 0 _ gx1 gx2 gx4 gx5 rk_m1 rk_0 hF)
    · have hF := hF.2 z2
      refine j_aload_n hJ dX12_holder_69 rfl 0 rfl ?_
      refine j_gr (e := 57) hJ kR_0 fR_15_67 fl_X12_240 dX12_holder_70 rfl ?_
      refine j_sipush hJ dX12_holder_73 (by decide) ?_
      refine j_iload_n hJ dX12_holder_76 rfl 1 rfl ?_
      refine j_imul hJ dX12_holder_77 ?_
      have g3 := hF.1; have hF := hF.2
      refine j_iload hJ dX12_holder_78 5 rfl ?_
      refine j_iadd hJ dX12_holder_80 ?_
      have g4 := hF.1; have hF := hF.2
      refine j_iald hJ g4 kR_57 hF.1 hF.2.1 dX12_holder_81 (fun v5 ev5 gv5 => ?_)
      have hF := hF.2.2 v5 ev5 gv5
      refine j_iload_n hJ dX12_holder_82 rfl 2 rfl ?_
      refine j_icmp_eq hJ 89 gv5 gx2 dX12_holder_83 (by decide) (fun z6 => ?_) (fun z6 => ?_)
      · have hF := hF.1 z6
        refine j_iload hJ dX12_holder_89 4 rfl ?_
        refine j_if_ne hJ 117 gx5 dX12_holder_91 (by decide) (fun z7 => ?_) (fun z7 => ?_)
        · have hF := hF.1 z7
          refine j_iinc (lv' := [(5, .int (Ii (x5 + (-1)))), (0, .ref (ad 0)), (1, .int (Ii x1)), (2, .int (Ii x2)), (4, .int (Ii x4)), (6, .int (Ii x6))]) (k := 4) hJ dX12_holder_117 rfl (by decide) rfl ?_
          have g8 := hF.1; have hF := hF.2
          exact j_sub hJ [1, 2, 3, 4, 0, 5] rfl (k_X12_holder_b120 hin  hJ ih x1 x2 x4 (x5 + (-1)) x6 _ gx1 gx2 gx4 g8 gx6 hF)
        · have hF := hF.2 z7
          refine j_iload hJ dX12_holder_94 3 rfl ?_
          refine j_if_ne hJ 103 gx4 dX12_holder_96 (by decide) (fun z9 => ?_) (fun z9 => ?_)
          · have hF := hF.1 z9
            refine j_aload_n hJ dX12_holder_103 rfl 0 rfl ?_
            refine j_gr (e := 56) hJ kR_0 fR_15_66 fl_X12_237 dX12_holder_104 rfl ?_
            refine j_sipush hJ dX12_holder_107 (by decide) ?_
            refine j_iload_n hJ dX12_holder_110 rfl 1 rfl ?_
            refine j_imul hJ dX12_holder_111 ?_
            have g10 := hF.1; have hF := hF.2
            refine j_iload hJ dX12_holder_112 5 rfl ?_
            refine j_iadd hJ dX12_holder_114 ?_
            have g11 := hF.1; have hF := hF.2
            refine j_iald hJ g11 kR_56 hF.1 hF.2.1 dX12_holder_115 (fun v12 ev12 gv12 => ?_)
            have hF := hF.2.2 v12 ev12 gv12
            exact j_iret hJ rfl gv12 dX12_holder_116 hF
          · have hF := hF.2 z9
            refine j_iconst hJ dX12_holder_99 ?_
            refine j_goto hJ 116 dX12_holder_100 (by decide) ?_
            exact j_iret hJ rfl rk_m1 dX12_holder_116 hF
      · have hF := hF.2 z6
        refine j_goto hJ 120 dX12_holder_86 (by decide) ?_
        exact j_sub hJ [0, 1, 2, 3, 4, 5] rfl (k_X12_holder_b120 hin  hJ ih x1 x2 x4 x5 x6 _ gx1 gx2 gx4 gx5 gx6 hF)
  intro x1 x2 x4 x5 x6 M gx1 gx2 gx4 gx5 gx6 hF
  obtain ⟨n, hF⟩ := hF
  exact H9 n x1 x2 x4 x5 x6 M gx1 gx2 gx4 gx5 gx6 hF
set_option maxHeartbeats 4000000 in
set_option maxRecDepth 100000 in
theorem k_X12_holder_b40 {l : Launch} {D : va_G} {cy : Nat → ClassId} {ad : Nat → Nat} {Q : Int → MM → Prop} {J : Nat → List (Nat × Value) → List Value → MM → Prop} (hin : jIn ad ksR.length)   (hJ : jOk l D vwCl (tyR cy) cy ad ftR ksR (XtR ad) Om RX12 cX12_holder 9 1 ({ frames := 4, cells := 0, slots := 0, locals := 95 } : Room) Q J)  : ∀ (x1 x2 x3 x4 s0 : Int) (M : MM), ri_ x1 → ri_ x2 → ri_ x3 → ri_ x4 → ri_ s0 → w_X12_holder_b40  Q  x1 x2 x3 x4 s0 M → J 40 [(0, .ref (ad 0)), (1, .int (Ii x1)), (2, .int (Ii x2)), (3, .int (Ii x3)), (4, .int (Ii x4))] [.int (Ii s0), .ref (ad 0)] M := by
  intro x1 x2 x3 x4 s0 M gx1 gx2 gx3 gx4 gs0 hF
  unfold w_X12_holder_b40 at hF
  refine j_pi hJ gs0 kR_0 fR_15_0 rfl fp_X12_388 dX12_holder_40 (fun M1 eM1 => ?_)
  have hF := hF M1 eM1
  refine j_aload_n hJ dX12_holder_43 rfl 0 rfl ?_
  refine j_gi hJ kR_0 fR_15_0 rfl fl_X12_388 dX12_holder_44 (fun v2 ev2 gv2 => ?_)
  have hF := hF v2 ev2 gv2
  refine j_if_le hJ 52 gv2 dX12_holder_47 (by decide) (fun z3 => ?_) (fun z3 => ?_)
  · have hF := hF.1 z3
    refine j_iload_n hJ dX12_holder_52 rfl 3 rfl ?_
    refine j_istore (lv' := [(5, .int (Ii x3)), (0, .ref (ad 0)), (1, .int (Ii x1)), (2, .int (Ii x2)), (3, .int (Ii x3)), (4, .int (Ii x4))]) hJ dX12_holder_53 (by decide) rfl ?_
    refine j_iconst hJ dX12_holder_55 ?_
    refine j_istore (lv' := [(6, .int (Ii 0)), (5, .int (Ii x3)), (0, .ref (ad 0)), (1, .int (Ii x1)), (2, .int (Ii x2)), (3, .int (Ii x3)), (4, .int (Ii x4))]) hJ dX12_holder_56 (by decide) rfl ?_
    exact j_sub hJ [2, 3, 4, 6, 1, 0] rfl (k_X12_holder_b58 hin  hJ  x1 x2 x4 x3 0 _ gx1 gx2 gx4 gx3 rk_0 hF)
  · have hF := hF.2 z3
    refine j_iconst hJ dX12_holder_50 ?_
    exact j_iret hJ rfl rk_0 dX12_holder_51 hF
set_option maxHeartbeats 4000000 in
set_option maxRecDepth 100000 in
theorem k_X12_holder_b35 {l : Launch} {D : va_G} {cy : Nat → ClassId} {ad : Nat → Nat} {Q : Int → MM → Prop} {J : Nat → List (Nat × Value) → List Value → MM → Prop} (hin : jIn ad ksR.length)   (hJ : jOk l D vwCl (tyR cy) cy ad ftR ksR (XtR ad) Om RX12 cX12_holder 9 1 ({ frames := 4, cells := 0, slots := 0, locals := 95 } : Room) Q J)  : ∀ (x1 x2 x3 x4 : Int) (M : MM), ri_ x1 → ri_ x2 → ri_ x3 → ri_ x4 → w_X12_holder_b35  Q  x1 x2 x3 x4 M → J 35 [(0, .ref (ad 0)), (1, .int (Ii x1)), (2, .int (Ii x2)), (3, .int (Ii x3)), (4, .int (Ii x4))] [.ref (ad 0)] M := by
  intro x1 x2 x3 x4 M gx1 gx2 gx3 gx4 hF
  unfold w_X12_holder_b35 at hF
  refine j_iconst hJ dX12_holder_35 ?_
  refine j_goto hJ 40 dX12_holder_36 (by decide) ?_
  exact j_sub hJ [0, 1, 2, 3, 4] rfl (k_X12_holder_b40 hin  hJ  x1 x2 x3 x4 1 _ gx1 gx2 gx3 gx4 rk_1 hF)
set_option maxHeartbeats 4000000 in
set_option maxRecDepth 100000 in
theorem c_X12_holder {l : Launch} {D : va_G} {cy : Nat → ClassId} {ad : Nat → Nat} (hin : jIn ad ksR.length) : jCN l D vwCl (tyR cy) cy ad ftR ksR (XtR ad) yX12_holder (.code yX12_holder cX12_holder 9 (some .int) :: Om) ({ frames := 4, cells := 0, slots := 0, locals := 95 } : Room) 1 (W_X12_holder ad) := by
  refine jCN_of (y := yX12_holder) (cc := cX12_holder) (nL := 9) (rk := 1) (rm := ({ frames := 4, cells := 0, slots := 0, locals := 95 } : Room)) (own := RX12) (tyR_ok cy) hin (XtR_ok ad) Om_good (by decide) rfl ?_
  intro Q av M hF
  obtain ⟨p1, p2, p3, p4, rfl, gp1, gp2, gp3, gp4, hF⟩ := hF
  refine ⟨Nat.le_of_ble_eq_true rfl, fun J hJ => ?_⟩
  show J 0 [(0, .ref (ad 0)), (1, .int (Ii p1)), (2, .int (Ii p2)), (3, .int (Ii p3)), (4, .int (Ii p4))] [] M
  unfold w_X12_holder at hF
  refine j_aload_n hJ dX12_holder_0 rfl 0 rfl ?_
  refine j_aload_n hJ dX12_holder_1 rfl 0 rfl ?_
  refine j_iload_n hJ dX12_holder_2 rfl 1 rfl ?_
  refine j_iload_n hJ dX12_holder_3 rfl 2 rfl ?_
  refine j_callVz hJ (c_X12_isThing (l := l) (D := D) (cy := cy) (ad := ad) hin) rfl om_1316 ⟨rfl, rfl, Nat.le_of_ble_eq_true rfl, Nat.le_of_ble_eq_true rfl⟩ [.int (Ii p1), .int (Ii p2)] mv_X12_600 hd_X12_isThingv kR_0 rfl rfl rfl (Nat.le_of_ble_eq_true rfl) dX12_holder_4 ⟨p1, p2, rfl, gp1, gp2, hF⟩ (fun r1 M2 gr1 qM2 => ?_)
  have hF := qM2 gr1
  refine j_if_eq hJ 35 (jz_ri gr1) dX12_holder_7 (by decide) (fun z3 => ?_) (fun z3 => ?_)
  · have hF := hF.1 z3
    exact j_sub hJ [0, 1, 2, 3, 4] rfl (k_X12_holder_b35 hin  hJ  p1 p2 p3 p4 _ gp1 gp2 gp3 gp4 hF)
  · have hF := hF.2 z3
    refine j_iload_n hJ dX12_holder_10 rfl 3 rfl ?_
    refine j_if_lt hJ 35 gp3 dX12_holder_11 (by decide) (fun z4 => ?_) (fun z4 => ?_)
    · have hF := hF.1 z4
      exact j_sub hJ [0, 1, 2, 3, 4] rfl (k_X12_holder_b35 hin  hJ  p1 p2 p3 p4 _ gp1 gp2 gp3 gp4 hF)
    · have hF := hF.2 z4
      refine j_iload_n hJ dX12_holder_14 rfl 3 rfl ?_
      refine j_aload_n hJ dX12_holder_15 rfl 0 rfl ?_
      refine j_iload_n hJ dX12_holder_16 rfl 1 rfl ?_
      refine j_iload_n hJ dX12_holder_17 rfl 2 rfl ?_
      refine j_callVi hJ (c_X12_holders (l := l) (D := D) (cy := cy) (ad := ad) hin) rfl om_1320 ⟨rfl, rfl, Nat.le_of_ble_eq_true rfl, Nat.le_of_ble_eq_true rfl⟩ [.int (Ii p1), .int (Ii p2)] mv_X12_603 hd_X12_holdersv kR_0 rfl rfl rfl (Nat.le_of_ble_eq_true rfl) dX12_holder_18 ⟨p1, p2, rfl, gp1, gp2, hF⟩ (fun r5 M6 gr5 qM6 => ?_)
      have hF := qM6 gr5
      refine j_icmp_ge hJ 35 gp3 gr5 dX12_holder_21 (by decide) (fun z7 => ?_) (fun z7 => ?_)
      · have hF := hF.1 z7
        exact j_sub hJ [0, 1, 2, 3, 4] rfl (k_X12_holder_b35 hin  hJ  p1 p2 p3 p4 _ gp1 gp2 gp3 gp4 hF)
      · have hF := hF.2 z7
        refine j_iload hJ dX12_holder_24 4 rfl ?_
        refine j_if_lt hJ 35 gp4 dX12_holder_26 (by decide) (fun z8 => ?_) (fun z8 => ?_)
        · have hF := hF.1 z8
          exact j_sub hJ [0, 1, 2, 3, 4] rfl (k_X12_holder_b35 hin  hJ  p1 p2 p3 p4 _ gp1 gp2 gp3 gp4 hF)
        · have hF := hF.2 z8
          refine j_iload hJ dX12_holder_29 4 rfl ?_
          refine j_iconst hJ dX12_holder_31 ?_
          refine j_icmp_le hJ 39 gp4 rk_1 dX12_holder_32 (by decide) (fun z9 => ?_) (fun z9 => ?_)
          · have hF := hF.1 z9
            refine j_iconst hJ dX12_holder_39 ?_
            exact j_sub hJ [0, 1, 2, 3, 4] rfl (k_X12_holder_b40 hin  hJ  p1 p2 p3 p4 0 _ gp1 gp2 gp3 gp4 rk_0 hF)
          · have hF := hF.2 z9
            exact j_sub hJ [0, 1, 2, 3, 4] rfl (k_X12_holder_b35 hin  hJ  p1 p2 p3 p4 _ gp1 gp2 gp3 gp4 hF)
def W_X12_firstOfGroup (ad : Nat → Nat) (Q : Int → MM → Prop) (av : List Value) (M : MM) : Prop := ∃ (p1 : Int) (p2 : Int), av = [.ref (ad 0), .int (Ii p1), .int (Ii p2)] ∧ ri_ p1 ∧ ri_ p2 ∧ w_X12_firstOfGroup  Q p1 p2 M
set_option maxHeartbeats 4000000 in
set_option maxRecDepth 100000 in
theorem k_X12_firstOfGroup_b2 {l : Launch} {D : va_G} {cy : Nat → ClassId} {ad : Nat → Nat} {Q : Int → MM → Prop} {J : Nat → List (Nat × Value) → List Value → MM → Prop} (hin : jIn ad ksR.length)   (hJ : jOk l D vwCl (tyR cy) cy ad ftR ksR (XtR ad) Om RX12 cX12_firstOfGroup 4 1 ({ frames := 1, cells := 0, slots := 0, locals := 22 } : Room) Q J)  : ∀ (x1 x2 x3 : Int) (M : MM), ri_ x1 → ri_ x2 → ri_ x3 → w_X12_firstOfGroup_b2  Q  x1 x2 x3 M → J 2 [(0, .ref (ad 0)), (1, .int (Ii x1)), (2, .int (Ii x2)), (3, .int (Ii x3))] [] M := by
  have H9 : ∀ (n : Nat) (x1 x2 x3 : Int) (M : MM), ri_ x1 → ri_ x2 → ri_ x3 → jit (fun _ _ _ _ => False) (wb_X12_firstOfGroup_b2  Q ) n x1 x2 x3 M → J 2 [(0, .ref (ad 0)), (1, .int (Ii x1)), (2, .int (Ii x2)), (3, .int (Ii x3))] [] M := by
    intro n
    induction n with
    | zero => intro x1 x2 x3 M gx1 gx2 gx3 hF; exact False.elim hF
    | succ n ih =>
    intro x1 x2 x3 M gx1 gx2 gx3 hF
    have hF : wb_X12_firstOfGroup_b2  Q  (jit (fun _ _ _ _ => False) (wb_X12_firstOfGroup_b2  Q ) n) x1 x2 x3 M := hF
    unfold wb_X12_firstOfGroup_b2 at hF
    refine j_aload_n hJ dX12_firstOfGroup_2 rfl 0 rfl ?_
    refine j_gr (e := 50) hJ kR_0 fR_15_60 fl_X12_219 dX12_firstOfGroup_3 rfl ?_
    refine j_aload_n hJ dX12_firstOfGroup_6 rfl 0 rfl ?_
    refine j_iload_n hJ dX12_firstOfGroup_7 rfl 1 rfl ?_
    refine j_iload_n hJ dX12_firstOfGroup_8 rfl 3 rfl ?_
    refine j_callVi hJ (c_X12_at (l := l) (D := D) (cy := cy) (ad := ad) hin) rfl om_1153 ⟨rfl, rfl, Nat.le_of_ble_eq_true rfl, Nat.le_of_ble_eq_true rfl⟩ [.int (Ii x1), .int (Ii x3)] mv_X12_545 hd_X12_atv kR_0 rfl rfl rfl (Nat.le_of_ble_eq_true rfl) dX12_firstOfGroup_9 ⟨x1, x3, rfl, gx1, gx3, hF⟩ (fun r1 M2 gr1 qM2 => ?_)
    have hF := qM2 gr1
    refine j_iald hJ gr1 kR_50 hF.1 hF.2.1 dX12_firstOfGroup_12 (fun v3 ev3 gv3 => ?_)
    have hF := hF.2.2 v3 ev3 gv3
    refine j_aload_n hJ dX12_firstOfGroup_13 rfl 0 rfl ?_
    refine j_gr (e := 50) hJ kR_0 fR_15_60 fl_X12_219 dX12_firstOfGroup_14 rfl ?_
    refine j_aload_n hJ dX12_firstOfGroup_17 rfl 0 rfl ?_
    refine j_iload_n hJ dX12_firstOfGroup_18 rfl 1 rfl ?_
    refine j_iload_n hJ dX12_firstOfGroup_19 rfl 2 rfl ?_
    refine j_callVi hJ (c_X12_at (l := l) (D := D) (cy := cy) (ad := ad) hin) rfl om_1153 ⟨rfl, rfl, Nat.le_of_ble_eq_true rfl, Nat.le_of_ble_eq_true rfl⟩ [.int (Ii x1), .int (Ii x2)] mv_X12_545 hd_X12_atv kR_0 rfl rfl rfl (Nat.le_of_ble_eq_true rfl) dX12_firstOfGroup_20 ⟨x1, x2, rfl, gx1, gx2, hF⟩ (fun r4 M5 gr4 qM5 => ?_)
    have hF := qM5 gr4
    refine j_iald hJ gr4 kR_50 hF.1 hF.2.1 dX12_firstOfGroup_23 (fun v6 ev6 gv6 => ?_)
    have hF := hF.2.2 v6 ev6 gv6
    refine j_icmp_eq hJ 33 gv3 gv6 dX12_firstOfGroup_24 (by decide) (fun z7 => ?_) (fun z7 => ?_)
    · have hF := hF.1 z7
      refine j_iload_n hJ dX12_firstOfGroup_33 rfl 3 rfl ?_
      exact j_iret hJ rfl gx3 dX12_firstOfGroup_34 hF
    · have hF := hF.2 z7
      refine j_iinc (lv' := [(3, .int (Ii (x3 + 1))), (0, .ref (ad 0)), (1, .int (Ii x1)), (2, .int (Ii x2))]) (k := 3) hJ dX12_firstOfGroup_27 rfl (by decide) rfl ?_
      have g8 := hF.1; have hF := hF.2
      refine j_goto hJ 2 dX12_firstOfGroup_30 (by decide) ?_
      exact j_sub hJ [1, 2, 3, 0] rfl (ih x1 x2 (x3 + 1) _ gx1 gx2 g8 hF)
  intro x1 x2 x3 M gx1 gx2 gx3 hF
  obtain ⟨n, hF⟩ := hF
  exact H9 n x1 x2 x3 M gx1 gx2 gx3 hF
set_option maxHeartbeats 4000000 in
set_option maxRecDepth 100000 in
theorem c_X12_firstOfGroup {l : Launch} {D : va_G} {cy : Nat → ClassId} {ad : Nat → Nat} (hin : jIn ad ksR.length) : jCN l D vwCl (tyR cy) cy ad ftR ksR (XtR ad) yX12_firstOfGroup (.code yX12_firstOfGroup cX12_firstOfGroup 4 (some .int) :: Om) ({ frames := 1, cells := 0, slots := 0, locals := 22 } : Room) 1 (W_X12_firstOfGroup ad) := by
  refine jCN_of (y := yX12_firstOfGroup) (cc := cX12_firstOfGroup) (nL := 4) (rk := 1) (rm := ({ frames := 1, cells := 0, slots := 0, locals := 22 } : Room)) (own := RX12) (tyR_ok cy) hin (XtR_ok ad) Om_good (by decide) rfl ?_
  intro Q av M hF
  obtain ⟨p1, p2, rfl, gp1, gp2, hF⟩ := hF
  refine ⟨Nat.le_of_ble_eq_true rfl, fun J hJ => ?_⟩
  show J 0 [(0, .ref (ad 0)), (1, .int (Ii p1)), (2, .int (Ii p2))] [] M
  unfold w_X12_firstOfGroup at hF
  refine j_iconst hJ dX12_firstOfGroup_0 ?_
  refine j_istore_n (lv' := [(3, .int (Ii 0)), (0, .ref (ad 0)), (1, .int (Ii p1)), (2, .int (Ii p2))]) hJ dX12_firstOfGroup_1 rfl (by decide) rfl ?_
  exact j_sub hJ [1, 2, 3, 0] rfl (k_X12_firstOfGroup_b2 hin  hJ  p1 p2 0 _ gp1 gp2 rk_0 hF)
def W_X12_picture (ad : Nat → Nat) (Q : Int → MM → Prop) (av : List Value) (M : MM) : Prop := ∃ (p1 : Int) (p2 : Int), av = [.ref (ad 0), .int (Ii p1), .int (Ii p2)] ∧ ri_ p1 ∧ ri_ p2 ∧ w_X12_picture  Q p1 p2 M
set_option maxHeartbeats 4000000 in
set_option maxRecDepth 100000 in
theorem k_X12_picture_b215 {l : Launch} {D : va_G} {cy : Nat → ClassId} {ad : Nat → Nat} {Q : Int → MM → Prop} {J : Nat → List (Nat × Value) → List Value → MM → Prop} (hin : jIn ad ksR.length)   (hJ : jOk l D vwCl (tyR cy) cy ad ftR ksR (XtR ad) Om RX12 cX12_picture 10 1 ({ frames := 3, cells := 0, slots := 0, locals := 66 } : Room) Q J) {K32 : Int → Int → Int → Int → Int → Int → Int → Int → MM → Prop} (hK32 : ∀ (x1 x2 x3 x4 x5 x6 x7 x8 : Int) (M : MM), ri_ x1 → ri_ x2 → ri_ x3 → ri_ x4 → ri_ x5 → ri_ x6 → ri_ x7 → ri_ x8 → K32 x1 x2 x3 x4 x5 x6 x7 x8 M → J 32 [(0, .ref (ad 0)), (1, .int (Ii x1)), (2, .int (Ii x2)), (3, .int (Ii x3)), (4, .int (Ii x4)), (5, .int (Ii x5)), (6, .int (Ii x6)), (7, .int (Ii x7)), (8, .int (Ii x8))] [] M) : ∀ (x1 x2 x3 x4 x5 x6 x8 s0 s1 : Int) (M : MM), ri_ x1 → ri_ x2 → ri_ x3 → ri_ x4 → ri_ x5 → ri_ x6 → ri_ x8 → ri_ s0 → ri_ s1 → w_X12_picture_b215  Q K32 x1 x2 x3 x4 x5 x6 x8 s0 s1 M → J 215 [(0, .ref (ad 0)), (1, .int (Ii x1)), (2, .int (Ii x2)), (3, .int (Ii x3)), (4, .int (Ii x4)), (5, .int (Ii x5)), (6, .int (Ii x6)), (8, .int (Ii x8))] [.int (Ii s0), .int (Ii s1)] M := by
  intro x1 x2 x3 x4 x5 x6 x8 s0 s1 M gx1 gx2 gx3 gx4 gx5 gx6 gx8 gs0 gs1 hF
  unfold w_X12_picture_b215 at hF
  refine j_iadd hJ dX12_picture_215 ?_
  have g1 := hF.1; have hF := hF.2
  refine j_istore (lv' := [(7, .int (Ii (s1 + s0))), (0, .ref (ad 0)), (1, .int (Ii x1)), (2, .int (Ii x2)), (3, .int (Ii x3)), (4, .int (Ii x4)), (5, .int (Ii x5)), (6, .int (Ii x6)), (8, .int (Ii x8))]) hJ dX12_picture_216 (by decide) rfl ?_
  refine j_iinc (lv' := [(8, .int (Ii (x8 + 1))), (7, .int (Ii (s1 + s0))), (0, .ref (ad 0)), (1, .int (Ii x1)), (2, .int (Ii x2)), (3, .int (Ii x3)), (4, .int (Ii x4)), (5, .int (Ii x5)), (6, .int (Ii x6))]) (k := 8) hJ dX12_picture_218 rfl (by decide) rfl ?_
  have g2 := hF.1; have hF := hF.2
  refine j_goto hJ 32 dX12_picture_221 (by decide) ?_
  exact j_sub hJ [2, 3, 4, 5, 6, 7, 8, 1, 0] rfl (hK32 x1 x2 x3 x4 x5 x6 (s1 + s0) (x8 + 1) _ gx1 gx2 gx3 gx4 gx5 gx6 g1 g2 hF)
set_option maxHeartbeats 4000000 in
set_option maxRecDepth 100000 in
theorem k_X12_picture_b214 {l : Launch} {D : va_G} {cy : Nat → ClassId} {ad : Nat → Nat} {Q : Int → MM → Prop} {J : Nat → List (Nat × Value) → List Value → MM → Prop} (hin : jIn ad ksR.length)   (hJ : jOk l D vwCl (tyR cy) cy ad ftR ksR (XtR ad) Om RX12 cX12_picture 10 1 ({ frames := 3, cells := 0, slots := 0, locals := 66 } : Room) Q J) {K32 : Int → Int → Int → Int → Int → Int → Int → Int → MM → Prop} (hK32 : ∀ (x1 x2 x3 x4 x5 x6 x7 x8 : Int) (M : MM), ri_ x1 → ri_ x2 → ri_ x3 → ri_ x4 → ri_ x5 → ri_ x6 → ri_ x7 → ri_ x8 → K32 x1 x2 x3 x4 x5 x6 x7 x8 M → J 32 [(0, .ref (ad 0)), (1, .int (Ii x1)), (2, .int (Ii x2)), (3, .int (Ii x3)), (4, .int (Ii x4)), (5, .int (Ii x5)), (6, .int (Ii x6)), (7, .int (Ii x7)), (8, .int (Ii x8))] [] M) : ∀ (x1 x2 x3 x4 x5 x6 x8 s0 : Int) (M : MM), ri_ x1 → ri_ x2 → ri_ x3 → ri_ x4 → ri_ x5 → ri_ x6 → ri_ x8 → ri_ s0 → w_X12_picture_b214  Q K32 x1 x2 x3 x4 x5 x6 x8 s0 M → J 214 [(0, .ref (ad 0)), (1, .int (Ii x1)), (2, .int (Ii x2)), (3, .int (Ii x3)), (4, .int (Ii x4)), (5, .int (Ii x5)), (6, .int (Ii x6)), (8, .int (Ii x8))] [.int (Ii s0)] M := by
  intro x1 x2 x3 x4 x5 x6 x8 s0 M gx1 gx2 gx3 gx4 gx5 gx6 gx8 gs0 hF
  unfold w_X12_picture_b214 at hF
  refine j_iconst hJ dX12_picture_214 ?_
  exact j_sub hJ [0, 1, 2, 3, 4, 5, 6, 7] rfl (k_X12_picture_b215 hin  hJ hK32 x1 x2 x3 x4 x5 x6 x8 0 s0 _ gx1 gx2 gx3 gx4 gx5 gx6 gx8 rk_0 gs0 hF)
set_option maxHeartbeats 4000000 in
set_option maxRecDepth 100000 in
theorem k_X12_picture_b163 {l : Launch} {D : va_G} {cy : Nat → ClassId} {ad : Nat → Nat} {Q : Int → MM → Prop} {J : Nat → List (Nat × Value) → List Value → MM → Prop} (hin : jIn ad ksR.length)   (hJ : jOk l D vwCl (tyR cy) cy ad ftR ksR (XtR ad) Om RX12 cX12_picture 10 1 ({ frames := 3, cells := 0, slots := 0, locals := 66 } : Room) Q J) {K32 : Int → Int → Int → Int → Int → Int → Int → Int → MM → Prop} (hK32 : ∀ (x1 x2 x3 x4 x5 x6 x7 x8 : Int) (M : MM), ri_ x1 → ri_ x2 → ri_ x3 → ri_ x4 → ri_ x5 → ri_ x6 → ri_ x7 → ri_ x8 → K32 x1 x2 x3 x4 x5 x6 x7 x8 M → J 32 [(0, .ref (ad 0)), (1, .int (Ii x1)), (2, .int (Ii x2)), (3, .int (Ii x3)), (4, .int (Ii x4)), (5, .int (Ii x5)), (6, .int (Ii x6)), (7, .int (Ii x7)), (8, .int (Ii x8))] [] M) : ∀ (x1 x2 x3 x4 x5 x7 x8 x9 s0 s1 : Int) (M : MM), ri_ x1 → ri_ x2 → ri_ x3 → ri_ x4 → ri_ x5 → ri_ x7 → ri_ x8 → ri_ x9 → ri_ s0 → ri_ s1 → w_X12_picture_b163  Q K32 x1 x2 x3 x4 x5 x7 x8 x9 s0 s1 M → J 163 [(0, .ref (ad 0)), (1, .int (Ii x1)), (2, .int (Ii x2)), (3, .int (Ii x3)), (4, .int (Ii x4)), (5, .int (Ii x5)), (7, .int (Ii x7)), (8, .int (Ii x8)), (9, .int (Ii x9))] [.int (Ii s0), .int (Ii s1)] M := by
  intro x1 x2 x3 x4 x5 x7 x8 x9 s0 s1 M gx1 gx2 gx3 gx4 gx5 gx7 gx8 gx9 gs0 gs1 hF
  unfold w_X12_picture_b163 at hF
  refine j_iadd hJ dX12_picture_163 ?_
  have g1 := hF.1; have hF := hF.2
  refine j_istore (lv' := [(6, .int (Ii (s1 + s0))), (0, .ref (ad 0)), (1, .int (Ii x1)), (2, .int (Ii x2)), (3, .int (Ii x3)), (4, .int (Ii x4)), (5, .int (Ii x5)), (7, .int (Ii x7)), (8, .int (Ii x8)), (9, .int (Ii x9))]) hJ dX12_picture_164 (by decide) rfl ?_
  refine j_iload hJ dX12_picture_166 7 rfl ?_
  refine j_aload_n hJ dX12_picture_168 rfl 1 rfl ?_
  refine j_iload hJ dX12_picture_169 9 rfl ?_
  refine j_callVz hJ (c_X12_isClass (l := l) (D := D) (cy := cy) (ad := ad) hin) rfl om_1064 ⟨rfl, rfl, Nat.le_of_ble_eq_true rfl, Nat.le_of_ble_eq_true rfl⟩ [.int (Ii x9)] mv_X12_416 hd_X12_isClassv kR_0 rfl rfl rfl (Nat.le_of_ble_eq_true rfl) dX12_picture_171 ⟨x9, rfl, gx9, hF⟩ (fun r2 M3 gr2 qM3 => ?_)
  have hF := qM3 gr2
  refine j_if_eq hJ 214 (jz_ri gr2) dX12_picture_174 (by decide) (fun z4 => ?_) (fun z4 => ?_)
  · have hF := hF.1 z4
    exact j_sub hJ [1, 2, 3, 4, 5, 6, 0, 8] rfl (k_X12_picture_b214 hin  hJ hK32 x1 x2 x3 x4 x5 (s1 + s0) x8 x7 _ gx1 gx2 gx3 gx4 gx5 g1 gx8 gx7 hF)
  · have hF := hF.2 z4
    refine j_iload_n hJ dX12_picture_177 rfl 3 rfl ?_
    refine j_sipush hJ dX12_picture_178 (by decide) ?_
    refine j_icmp_lt hJ 214 gx2 rk_200 dX12_picture_181 (by decide) (fun z5 => ?_) (fun z5 => ?_)
    · have hF := hF.1 z5
      exact j_sub hJ [1, 2, 3, 4, 5, 6, 0, 8] rfl (k_X12_picture_b214 hin  hJ hK32 x1 x2 x3 x4 x5 (s1 + s0) x8 x7 _ gx1 gx2 gx3 gx4 gx5 g1 gx8 gx7 hF)
    · have hF := hF.2 z5
      refine j_aload_n hJ dX12_picture_184 rfl 1 rfl ?_
      refine j_iload_n hJ dX12_picture_185 rfl 3 rfl ?_
      refine j_sipush hJ dX12_picture_186 (by decide) ?_
      refine j_isub hJ dX12_picture_189 ?_
      have g6 := hF.1; have hF := hF.2
      refine j_callVz hJ (c_X12_isClass (l := l) (D := D) (cy := cy) (ad := ad) hin) rfl om_1064 ⟨rfl, rfl, Nat.le_of_ble_eq_true rfl, Nat.le_of_ble_eq_true rfl⟩ [.int (Ii (x2 - 200))] mv_X12_416 hd_X12_isClassv kR_0 rfl rfl rfl (Nat.le_of_ble_eq_true rfl) dX12_picture_190 ⟨(x2 - 200), rfl, g6, hF⟩ (fun r7 M8 gr7 qM8 => ?_)
      have hF := qM8 gr7
      refine j_if_eq hJ 214 (jz_ri gr7) dX12_picture_193 (by decide) (fun z9 => ?_) (fun z9 => ?_)
      · have hF := hF.1 z9
        exact j_sub hJ [1, 2, 3, 4, 5, 6, 0, 8] rfl (k_X12_picture_b214 hin  hJ hK32 x1 x2 x3 x4 x5 (s1 + s0) x8 x7 _ gx1 gx2 gx3 gx4 gx5 g1 gx8 gx7 hF)
      · have hF := hF.2 z9
        refine j_aload_n hJ dX12_picture_196 rfl 1 rfl ?_
        refine j_iload hJ dX12_picture_197 9 rfl ?_
        refine j_iload_n hJ dX12_picture_199 rfl 3 rfl ?_
        refine j_sipush hJ dX12_picture_200 (by decide) ?_
        refine j_isub hJ dX12_picture_203 ?_
        have g10 := hF.1; have hF := hF.2
        refine j_callVz hJ (c_X12_is (l := l) (D := D) (cy := cy) (ad := ad) hin) rfl om_1081 ⟨rfl, rfl, Nat.le_of_ble_eq_true rfl, Nat.le_of_ble_eq_true rfl⟩ [.int (Ii x9), .int (Ii (x2 - 200))] mv_X12_445 hd_X12_isv kR_0 rfl rfl rfl (Nat.le_of_ble_eq_true rfl) dX12_picture_204 ⟨x9, (x2 - 200), rfl, gx9, g10, hF⟩ (fun r11 M12 gr11 qM12 => ?_)
        have hF := qM12 gr11
        refine j_if_eq hJ 214 (jz_ri gr11) dX12_picture_207 (by decide) (fun z13 => ?_) (fun z13 => ?_)
        · have hF := hF.1 z13
          exact j_sub hJ [1, 2, 3, 4, 5, 6, 0, 8] rfl (k_X12_picture_b214 hin  hJ hK32 x1 x2 x3 x4 x5 (s1 + s0) x8 x7 _ gx1 gx2 gx3 gx4 gx5 g1 gx8 gx7 hF)
        · have hF := hF.2 z13
          refine j_iconst hJ dX12_picture_210 ?_
          refine j_goto hJ 215 dX12_picture_211 (by decide) ?_
          exact j_sub hJ [1, 2, 3, 4, 5, 6, 0, 8] rfl (k_X12_picture_b215 hin  hJ hK32 x1 x2 x3 x4 x5 (s1 + s0) x8 1 x7 _ gx1 gx2 gx3 gx4 gx5 g1 gx8 rk_1 gx7 hF)
set_option maxHeartbeats 4000000 in
set_option maxRecDepth 100000 in
theorem k_X12_picture_b145 {l : Launch} {D : va_G} {cy : Nat → ClassId} {ad : Nat → Nat} {Q : Int → MM → Prop} {J : Nat → List (Nat × Value) → List Value → MM → Prop} (hin : jIn ad ksR.length)   (hJ : jOk l D vwCl (tyR cy) cy ad ftR ksR (XtR ad) Om RX12 cX12_picture 10 1 ({ frames := 3, cells := 0, slots := 0, locals := 66 } : Room) Q J) {K32 : Int → Int → Int → Int → Int → Int → Int → Int → MM → Prop} (hK32 : ∀ (x1 x2 x3 x4 x5 x6 x7 x8 : Int) (M : MM), ri_ x1 → ri_ x2 → ri_ x3 → ri_ x4 → ri_ x5 → ri_ x6 → ri_ x7 → ri_ x8 → K32 x1 x2 x3 x4 x5 x6 x7 x8 M → J 32 [(0, .ref (ad 0)), (1, .int (Ii x1)), (2, .int (Ii x2)), (3, .int (Ii x3)), (4, .int (Ii x4)), (5, .int (Ii x5)), (6, .int (Ii x6)), (7, .int (Ii x7)), (8, .int (Ii x8))] [] M) : ∀ (x1 x2 x3 x4 x6 x7 x8 x9 s0 : Int) (M : MM), ri_ x1 → ri_ x2 → ri_ x3 → ri_ x4 → ri_ x6 → ri_ x7 → ri_ x8 → ri_ x9 → ri_ s0 → w_X12_picture_b145  Q K32 x1 x2 x3 x4 x6 x7 x8 x9 s0 M → J 145 [(0, .ref (ad 0)), (1, .int (Ii x1)), (2, .int (Ii x2)), (3, .int (Ii x3)), (4, .int (Ii x4)), (6, .int (Ii x6)), (7, .int (Ii x7)), (8, .int (Ii x8)), (9, .int (Ii x9))] [.int (Ii s0)] M := by
  intro x1 x2 x3 x4 x6 x7 x8 x9 s0 M gx1 gx2 gx3 gx4 gx6 gx7 gx8 gx9 gs0 hF
  unfold w_X12_picture_b145 at hF
  refine j_istore (lv' := [(5, .int (Ii s0)), (0, .ref (ad 0)), (1, .int (Ii x1)), (2, .int (Ii x2)), (3, .int (Ii x3)), (4, .int (Ii x4)), (6, .int (Ii x6)), (7, .int (Ii x7)), (8, .int (Ii x8)), (9, .int (Ii x9))]) hJ dX12_picture_145 (by decide) rfl ?_
  refine j_iload hJ dX12_picture_147 6 rfl ?_
  refine j_iload hJ dX12_picture_149 9 rfl ?_
  refine j_iload_n hJ dX12_picture_151 rfl 3 rfl ?_
  refine j_bipush hJ dX12_picture_152 (by decide) ?_
  refine j_isubw hJ dX12_picture_154 ?_
  refine j_icmp_ne hJ 162 gx9 (ri_w _) dX12_picture_155 (by decide) (fun z1 => ?_) (fun z1 => ?_)
  · have hF := hF.1 z1
    refine j_iconst hJ dX12_picture_162 ?_
    exact j_sub hJ [1, 2, 3, 4, 5, 0, 7, 8, 9] rfl (k_X12_picture_b163 hin  hJ hK32 x1 x2 x3 x4 s0 x7 x8 x9 0 x6 _ gx1 gx2 gx3 gx4 gs0 gx7 gx8 gx9 rk_0 gx6 hF)
  · have hF := hF.2 z1
    refine j_iconst hJ dX12_picture_158 ?_
    refine j_goto hJ 163 dX12_picture_159 (by decide) ?_
    exact j_sub hJ [1, 2, 3, 4, 5, 0, 7, 8, 9] rfl (k_X12_picture_b163 hin  hJ hK32 x1 x2 x3 x4 s0 x7 x8 x9 1 x6 _ gx1 gx2 gx3 gx4 gs0 gx7 gx8 gx9 rk_1 gx6 hF)
set_option maxHeartbeats 4000000 in
set_option maxRecDepth 100000 in
theorem k_X12_picture_b108 {l : Launch} {D : va_G} {cy : Nat → ClassId} {ad : Nat → Nat} {Q : Int → MM → Prop} {J : Nat → List (Nat × Value) → List Value → MM → Prop} (hin : jIn ad ksR.length)   (hJ : jOk l D vwCl (tyR cy) cy ad ftR ksR (XtR ad) Om RX12 cX12_picture 10 1 ({ frames := 3, cells := 0, slots := 0, locals := 66 } : Room) Q J) {K32 : Int → Int → Int → Int → Int → Int → Int → Int → MM → Prop} (hK32 : ∀ (x1 x2 x3 x4 x5 x6 x7 x8 : Int) (M : MM), ri_ x1 → ri_ x2 → ri_ x3 → ri_ x4 → ri_ x5 → ri_ x6 → ri_ x7 → ri_ x8 → K32 x1 x2 x3 x4 x5 x6 x7 x8 M → J 32 [(0, .ref (ad 0)), (1, .int (Ii x1)), (2, .int (Ii x2)), (3, .int (Ii x3)), (4, .int (Ii x4)), (5, .int (Ii x5)), (6, .int (Ii x6)), (7, .int (Ii x7)), (8, .int (Ii x8))] [] M) : ∀ (x1 x2 x3 x5 x6 x7 x8 x9 s0 s1 : Int) (M : MM), ri_ x1 → ri_ x2 → ri_ x3 → ri_ x5 → ri_ x6 → ri_ x7 → ri_ x8 → ri_ x9 → ri_ s0 → ri_ s1 → w_X12_picture_b108  Q K32 x1 x2 x3 x5 x6 x7 x8 x9 s0 s1 M → J 108 [(0, .ref (ad 0)), (1, .int (Ii x1)), (2, .int (Ii x2)), (3, .int (Ii x3)), (5, .int (Ii x5)), (6, .int (Ii x6)), (7, .int (Ii x7)), (8, .int (Ii x8)), (9, .int (Ii x9))] [.int (Ii s0), .int (Ii s1)] M := by
  intro x1 x2 x3 x5 x6 x7 x8 x9 s0 s1 M gx1 gx2 gx3 gx5 gx6 gx7 gx8 gx9 gs0 gs1 hF
  unfold w_X12_picture_b108 at hF
  refine j_iadd hJ dX12_picture_108 ?_
  have g1 := hF.1; have hF := hF.2
  refine j_istore (lv' := [(4, .int (Ii (s1 + s0))), (0, .ref (ad 0)), (1, .int (Ii x1)), (2, .int (Ii x2)), (3, .int (Ii x3)), (5, .int (Ii x5)), (6, .int (Ii x6)), (7, .int (Ii x7)), (8, .int (Ii x8)), (9, .int (Ii x9))]) hJ dX12_picture_109 (by decide) rfl ?_
  refine j_aload_n hJ dX12_picture_111 rfl 1 rfl ?_
  refine j_gr (e := 43) hJ kR_0 fR_15_53 fl_X12_198 dX12_picture_112 rfl ?_
  refine j_aload_n hJ dX12_picture_115 rfl 1 rfl ?_
  refine j_iload_n hJ dX12_picture_116 rfl 2 rfl ?_
  refine j_iload hJ dX12_picture_117 8 rfl ?_
  refine j_callVi hJ (c_X12_at (l := l) (D := D) (cy := cy) (ad := ad) hin) rfl om_1153 ⟨rfl, rfl, Nat.le_of_ble_eq_true rfl, Nat.le_of_ble_eq_true rfl⟩ [.int (Ii x1), .int (Ii x8)] mv_X12_545 hd_X12_atv kR_0 rfl rfl rfl (Nat.le_of_ble_eq_true rfl) dX12_picture_119 ⟨x1, x8, rfl, gx1, gx8, hF⟩ (fun r2 M3 gr2 qM3 => ?_)
  have hF := qM3 gr2
  refine j_iald hJ gr2 kR_43 hF.1 hF.2.1 dX12_picture_122 (fun v4 ev4 gv4 => ?_)
  have hF := hF.2.2 v4 ev4 gv4
  refine j_iload hJ dX12_picture_123 5 rfl ?_
  refine j_icmp_le hJ 143 gv4 gx5 dX12_picture_125 (by decide) (fun z5 => ?_) (fun z5 => ?_)
  · have hF := hF.1 z5
    refine j_iload hJ dX12_picture_143 5 rfl ?_
    exact j_sub hJ [1, 2, 3, 4, 0, 6, 7, 8, 9] rfl (k_X12_picture_b145 hin  hJ hK32 x1 x2 x3 (s1 + s0) x6 x7 x8 x9 x5 _ gx1 gx2 gx3 g1 gx6 gx7 gx8 gx9 gx5 hF)
  · have hF := hF.2 z5
    refine j_aload_n hJ dX12_picture_128 rfl 1 rfl ?_
    refine j_gr (e := 43) hJ kR_0 fR_15_53 fl_X12_198 dX12_picture_129 rfl ?_
    refine j_aload_n hJ dX12_picture_132 rfl 1 rfl ?_
    refine j_iload_n hJ dX12_picture_133 rfl 2 rfl ?_
    refine j_iload hJ dX12_picture_134 8 rfl ?_
    refine j_callVi hJ (c_X12_at (l := l) (D := D) (cy := cy) (ad := ad) hin) rfl om_1153 ⟨rfl, rfl, Nat.le_of_ble_eq_true rfl, Nat.le_of_ble_eq_true rfl⟩ [.int (Ii x1), .int (Ii x8)] mv_X12_545 hd_X12_atv kR_0 rfl rfl rfl (Nat.le_of_ble_eq_true rfl) dX12_picture_136 ⟨x1, x8, rfl, gx1, gx8, hF⟩ (fun r6 M7 gr6 qM7 => ?_)
    have hF := qM7 gr6
    refine j_iald hJ gr6 kR_43 hF.1 hF.2.1 dX12_picture_139 (fun v8 ev8 gv8 => ?_)
    have hF := hF.2.2 v8 ev8 gv8
    refine j_goto hJ 145 dX12_picture_140 (by decide) ?_
    exact j_sub hJ [1, 2, 3, 4, 0, 6, 7, 8, 9] rfl (k_X12_picture_b145 hin  hJ hK32 x1 x2 x3 (s1 + s0) x6 x7 x8 x9 v8 _ gx1 gx2 gx3 g1 gx6 gx7 gx8 gx9 gv8 hF)
set_option maxHeartbeats 4000000 in
set_option maxRecDepth 100000 in
theorem k_X12_picture_b107 {l : Launch} {D : va_G} {cy : Nat → ClassId} {ad : Nat → Nat} {Q : Int → MM → Prop} {J : Nat → List (Nat × Value) → List Value → MM → Prop} (hin : jIn ad ksR.length)   (hJ : jOk l D vwCl (tyR cy) cy ad ftR ksR (XtR ad) Om RX12 cX12_picture 10 1 ({ frames := 3, cells := 0, slots := 0, locals := 66 } : Room) Q J) {K32 : Int → Int → Int → Int → Int → Int → Int → Int → MM → Prop} (hK32 : ∀ (x1 x2 x3 x4 x5 x6 x7 x8 : Int) (M : MM), ri_ x1 → ri_ x2 → ri_ x3 → ri_ x4 → ri_ x5 → ri_ x6 → ri_ x7 → ri_ x8 → K32 x1 x2 x3 x4 x5 x6 x7 x8 M → J 32 [(0, .ref (ad 0)), (1, .int (Ii x1)), (2, .int (Ii x2)), (3, .int (Ii x3)), (4, .int (Ii x4)), (5, .int (Ii x5)), (6, .int (Ii x6)), (7, .int (Ii x7)), (8, .int (Ii x8))] [] M) : ∀ (x1 x2 x3 x5 x6 x7 x8 x9 s0 : Int) (M : MM), ri_ x1 → ri_ x2 → ri_ x3 → ri_ x5 → ri_ x6 → ri_ x7 → ri_ x8 → ri_ x9 → ri_ s0 → w_X12_picture_b107  Q K32 x1 x2 x3 x5 x6 x7 x8 x9 s0 M → J 107 [(0, .ref (ad 0)), (1, .int (Ii x1)), (2, .int (Ii x2)), (3, .int (Ii x3)), (5, .int (Ii x5)), (6, .int (Ii x6)), (7, .int (Ii x7)), (8, .int (Ii x8)), (9, .int (Ii x9))] [.int (Ii s0)] M := by
  intro x1 x2 x3 x5 x6 x7 x8 x9 s0 M gx1 gx2 gx3 gx5 gx6 gx7 gx8 gx9 gs0 hF
  unfold w_X12_picture_b107 at hF
  refine j_iconst hJ dX12_picture_107 ?_
  exact j_sub hJ [0, 1, 2, 3, 4, 5, 6, 7, 8] rfl (k_X12_picture_b108 hin  hJ hK32 x1 x2 x3 x5 x6 x7 x8 x9 0 s0 _ gx1 gx2 gx3 gx5 gx6 gx7 gx8 gx9 rk_0 gs0 hF)
set_option maxHeartbeats 4000000 in
set_option maxRecDepth 100000 in
theorem k_X12_picture_b32 {l : Launch} {D : va_G} {cy : Nat → ClassId} {ad : Nat → Nat} {Q : Int → MM → Prop} {J : Nat → List (Nat × Value) → List Value → MM → Prop} (hin : jIn ad ksR.length)   (hJ : jOk l D vwCl (tyR cy) cy ad ftR ksR (XtR ad) Om RX12 cX12_picture 10 1 ({ frames := 3, cells := 0, slots := 0, locals := 66 } : Room) Q J)  : ∀ (x1 x2 x3 x4 x5 x6 x7 x8 : Int) (M : MM), ri_ x1 → ri_ x2 → ri_ x3 → ri_ x4 → ri_ x5 → ri_ x6 → ri_ x7 → ri_ x8 → w_X12_picture_b32  Q  x1 x2 x3 x4 x5 x6 x7 x8 M → J 32 [(0, .ref (ad 0)), (1, .int (Ii x1)), (2, .int (Ii x2)), (3, .int (Ii x3)), (4, .int (Ii x4)), (5, .int (Ii x5)), (6, .int (Ii x6)), (7, .int (Ii x7)), (8, .int (Ii x8))] [] M := by
  have H9 : ∀ (n : Nat) (x1 x2 x3 x4 x5 x6 x7 x8 : Int) (M : MM), ri_ x1 → ri_ x2 → ri_ x3 → ri_ x4 → ri_ x5 → ri_ x6 → ri_ x7 → ri_ x8 → jit (fun _ _ _ _ _ _ _ _ _ => False) (wb_X12_picture_b32  Q ) n x1 x2 x3 x4 x5 x6 x7 x8 M → J 32 [(0, .ref (ad 0)), (1, .int (Ii x1)), (2, .int (Ii x2)), (3, .int (Ii x3)), (4, .int (Ii x4)), (5, .int (Ii x5)), (6, .int (Ii x6)), (7, .int (Ii x7)), (8, .int (Ii x8))] [] M := by
    intro n
    induction n with
    | zero => intro x1 x2 x3 x4 x5 x6 x7 x8 M gx1 gx2 gx3 gx4 gx5 gx6 gx7 gx8 hF; exact False.elim hF
    | succ n ih =>
    intro x1 x2 x3 x4 x5 x6 x7 x8 M gx1 gx2 gx3 gx4 gx5 gx6 gx7 gx8 hF
    have hF : wb_X12_picture_b32  Q  (jit (fun _ _ _ _ _ _ _ _ _ => False) (wb_X12_picture_b32  Q ) n) x1 x2 x3 x4 x5 x6 x7 x8 M := hF
    unfold wb_X12_picture_b32 at hF
    refine j_iload hJ dX12_picture_32 8 rfl ?_
    refine j_aload_n hJ dX12_picture_34 rfl 0 rfl ?_
    refine j_gr (e := 38) hJ kR_0 fR_15_48 fl_X12_183 dX12_picture_35 rfl ?_
    refine j_iload_n hJ dX12_picture_38 rfl 1 rfl ?_
    refine j_iald hJ gx1 kR_38 hF.1 hF.2.1 dX12_picture_39 (fun v1 ev1 gv1 => ?_)
    have hF := hF.2.2 v1 ev1 gv1
    refine j_icmp_ge hJ 224 gx8 gv1 dX12_picture_40 (by decide) (fun z2 => ?_) (fun z2 => ?_)
    · have hF := hF.1 z2
      refine j_iload_n hJ dX12_picture_224 rfl 2 rfl ?_
      refine j_sipush hJ dX12_picture_225 (by decide) ?_
      refine j_icmp_lt hJ 250 gx2 rk_200 dX12_picture_228 (by decide) (fun z3 => ?_) (fun z3 => ?_)
      · have hF := hF.1 z3
        refine j_iload_n hJ dX12_picture_250 rfl 2 rfl ?_
        refine j_bipush hJ dX12_picture_251 (by decide) ?_
        refine j_icmp_lt hJ 274 gx2 rk_100 dX12_picture_253 (by decide) (fun z4 => ?_) (fun z4 => ?_)
        · have hF := hF.1 z4
          refine j_iload_n hJ dX12_picture_274 rfl 2 rfl ?_
          refine j_if_ne hJ 287 gx2 dX12_picture_275 (by decide) (fun z5 => ?_) (fun z5 => ?_)
          · have hF := hF.1 z5
            refine j_iload_n hJ dX12_picture_287 rfl 2 rfl ?_
            refine j_iconst hJ dX12_picture_288 ?_
            refine j_icmp_ne hJ 301 gx2 rk_1 dX12_picture_289 (by decide) (fun z6 => ?_) (fun z6 => ?_)
            · have hF := hF.1 z6
              refine j_iload_n hJ dX12_picture_301 rfl 2 rfl ?_
              refine j_iconst hJ dX12_picture_302 ?_
              refine j_icmp_ne hJ 315 gx2 rk_2 dX12_picture_303 (by decide) (fun z7 => ?_) (fun z7 => ?_)
              · have hF := hF.1 z7
                refine j_iload_n hJ dX12_picture_315 rfl 2 rfl ?_
                refine j_iconst hJ dX12_picture_316 ?_
                refine j_icmp_ne hJ 324 gx2 rk_3 dX12_picture_317 (by decide) (fun z8 => ?_) (fun z8 => ?_)
                · have hF := hF.1 z8
                  refine j_iload_n hJ dX12_picture_324 rfl 2 rfl ?_
                  refine j_iconst hJ dX12_picture_325 ?_
                  refine j_icmp_ne hJ 334 gx2 rk_4 dX12_picture_326 (by decide) (fun z9 => ?_) (fun z9 => ?_)
                  · have hF := hF.1 z9
                    refine j_iload_n hJ dX12_picture_334 rfl 2 rfl ?_
                    refine j_iconst hJ dX12_picture_335 ?_
                    refine j_icmp_ne hJ 344 gx2 rk_5 dX12_picture_336 (by decide) (fun z10 => ?_) (fun z10 => ?_)
                    · have hF := hF.1 z10
                      refine j_iconst hJ dX12_picture_344 ?_
                      exact j_iret hJ rfl rk_m1 dX12_picture_345 hF
                    · have hF := hF.2 z10
                      refine j_iload hJ dX12_picture_339 5 rfl ?_
                      refine j_goto hJ 345 dX12_picture_341 (by decide) ?_
                      exact j_iret hJ rfl gx5 dX12_picture_345 hF
                  · have hF := hF.2 z9
                    refine j_iload hJ dX12_picture_329 4 rfl ?_
                    refine j_goto hJ 345 dX12_picture_331 (by decide) ?_
                    exact j_iret hJ rfl gx4 dX12_picture_345 hF
                · have hF := hF.2 z8
                  refine j_iload_n hJ dX12_picture_320 rfl 3 rfl ?_
                  refine j_goto hJ 345 dX12_picture_321 (by decide) ?_
                  exact j_iret hJ rfl gx3 dX12_picture_345 hF
              · have hF := hF.2 z7
                refine j_aload_n hJ dX12_picture_306 rfl 0 rfl ?_
                refine j_gr (e := 54) hJ kR_0 fR_15_64 fl_X12_231 dX12_picture_307 rfl ?_
                refine j_iload_n hJ dX12_picture_310 rfl 1 rfl ?_
                refine j_iald hJ gx1 kR_54 hF.1 hF.2.1 dX12_picture_311 (fun v11 ev11 gv11 => ?_)
                have hF := hF.2.2 v11 ev11 gv11
                refine j_goto hJ 345 dX12_picture_312 (by decide) ?_
                exact j_iret hJ rfl gv11 dX12_picture_345 hF
            · have hF := hF.2 z6
              refine j_aload_n hJ dX12_picture_292 rfl 0 rfl ?_
              refine j_gr (e := 53) hJ kR_0 fR_15_63 fl_X12_228 dX12_picture_293 rfl ?_
              refine j_iload_n hJ dX12_picture_296 rfl 1 rfl ?_
              refine j_iald hJ gx1 kR_53 hF.1 hF.2.1 dX12_picture_297 (fun v12 ev12 gv12 => ?_)
              have hF := hF.2.2 v12 ev12 gv12
              refine j_goto hJ 345 dX12_picture_298 (by decide) ?_
              exact j_iret hJ rfl gv12 dX12_picture_345 hF
          · have hF := hF.2 z5
            refine j_aload_n hJ dX12_picture_278 rfl 0 rfl ?_
            refine j_gr (e := 38) hJ kR_0 fR_15_48 fl_X12_183 dX12_picture_279 rfl ?_
            refine j_iload_n hJ dX12_picture_282 rfl 1 rfl ?_
            refine j_iald hJ gx1 kR_38 hF.1 hF.2.1 dX12_picture_283 (fun v13 ev13 gv13 => ?_)
            have hF := hF.2.2 v13 ev13 gv13
            refine j_goto hJ 345 dX12_picture_284 (by decide) ?_
            exact j_iret hJ rfl gv13 dX12_picture_345 hF
        · have hF := hF.2 z4
          refine j_aload_n hJ dX12_picture_256 rfl 0 rfl ?_
          refine j_iload_n hJ dX12_picture_257 rfl 2 rfl ?_
          refine j_bipush hJ dX12_picture_258 (by decide) ?_
          refine j_isub hJ dX12_picture_260 ?_
          have g14 := hF.1; have hF := hF.2
          refine j_callVz hJ (c_X12_isClass (l := l) (D := D) (cy := cy) (ad := ad) hin) rfl om_1064 ⟨rfl, rfl, Nat.le_of_ble_eq_true rfl, Nat.le_of_ble_eq_true rfl⟩ [.int (Ii (x2 - 100))] mv_X12_416 hd_X12_isClassv kR_0 rfl rfl rfl (Nat.le_of_ble_eq_true rfl) dX12_picture_261 ⟨(x2 - 100), rfl, g14, hF⟩ (fun r15 M16 gr15 qM16 => ?_)
          have hF := qM16 gr15
          refine j_if_eq hJ 272 (jz_ri gr15) dX12_picture_264 (by decide) (fun z17 => ?_) (fun z17 => ?_)
          · have hF := hF.1 z17
            refine j_iconst hJ dX12_picture_272 ?_
            exact j_iret hJ rfl rk_m1 dX12_picture_273 hF
          · have hF := hF.2 z17
            refine j_iload hJ dX12_picture_267 6 rfl ?_
            refine j_goto hJ 273 dX12_picture_269 (by decide) ?_
            exact j_iret hJ rfl gx6 dX12_picture_273 hF
      · have hF := hF.2 z3
        refine j_aload_n hJ dX12_picture_231 rfl 0 rfl ?_
        refine j_iload_n hJ dX12_picture_232 rfl 2 rfl ?_
        refine j_sipush hJ dX12_picture_233 (by decide) ?_
        refine j_isub hJ dX12_picture_236 ?_
        have g18 := hF.1; have hF := hF.2
        refine j_callVz hJ (c_X12_isClass (l := l) (D := D) (cy := cy) (ad := ad) hin) rfl om_1064 ⟨rfl, rfl, Nat.le_of_ble_eq_true rfl, Nat.le_of_ble_eq_true rfl⟩ [.int (Ii (x2 - 200))] mv_X12_416 hd_X12_isClassv kR_0 rfl rfl rfl (Nat.le_of_ble_eq_true rfl) dX12_picture_237 ⟨(x2 - 200), rfl, g18, hF⟩ (fun r19 M20 gr19 qM20 => ?_)
        have hF := qM20 gr19
        refine j_if_eq hJ 248 (jz_ri gr19) dX12_picture_240 (by decide) (fun z21 => ?_) (fun z21 => ?_)
        · have hF := hF.1 z21
          refine j_iconst hJ dX12_picture_248 ?_
          exact j_iret hJ rfl rk_m1 dX12_picture_249 hF
        · have hF := hF.2 z21
          refine j_iload hJ dX12_picture_243 7 rfl ?_
          refine j_goto hJ 249 dX12_picture_245 (by decide) ?_
          exact j_iret hJ rfl gx7 dX12_picture_249 hF
    · have hF := hF.2 z2
      refine j_aload_n hJ dX12_picture_43 rfl 0 rfl ?_
      refine j_gr (e := 40) hJ kR_0 fR_15_50 fl_X12_189 dX12_picture_44 rfl ?_
      refine j_aload_n hJ dX12_picture_47 rfl 0 rfl ?_
      refine j_iload_n hJ dX12_picture_48 rfl 1 rfl ?_
      refine j_iload hJ dX12_picture_49 8 rfl ?_
      refine j_callVi hJ (c_X12_at (l := l) (D := D) (cy := cy) (ad := ad) hin) rfl om_1153 ⟨rfl, rfl, Nat.le_of_ble_eq_true rfl, Nat.le_of_ble_eq_true rfl⟩ [.int (Ii x1), .int (Ii x8)] mv_X12_545 hd_X12_atv kR_0 rfl rfl rfl (Nat.le_of_ble_eq_true rfl) dX12_picture_51 ⟨x1, x8, rfl, gx1, gx8, hF⟩ (fun r22 M23 gr22 qM23 => ?_)
      have hF := qM23 gr22
      refine j_iald hJ gr22 kR_40 hF.1 hF.2.1 dX12_picture_54 (fun v24 ev24 gv24 => ?_)
      have hF := hF.2.2 v24 ev24 gv24
      refine j_istore (lv' := [(9, .int (Ii v24)), (0, .ref (ad 0)), (1, .int (Ii x1)), (2, .int (Ii x2)), (3, .int (Ii x3)), (4, .int (Ii x4)), (5, .int (Ii x5)), (6, .int (Ii x6)), (7, .int (Ii x7)), (8, .int (Ii x8))]) hJ dX12_picture_55 (by decide) rfl ?_
      refine j_iload_n hJ dX12_picture_57 rfl 4 rfl ?_
      refine j_aload_n hJ dX12_picture_58 rfl 1 rfl ?_
      refine j_iload_n hJ dX12_picture_59 rfl 2 rfl ?_
      refine j_iload hJ dX12_picture_60 9 rfl ?_
      refine j_callVi hJ (c_X12_sizeIn (l := l) (D := D) (cy := cy) (ad := ad) hin) rfl om_1197 ⟨rfl, rfl, Nat.le_of_ble_eq_true rfl, Nat.le_of_ble_eq_true rfl⟩ [.int (Ii x1), .int (Ii x8)] mv_X12_594 hd_X12_sizeInv kR_0 rfl rfl rfl (Nat.le_of_ble_eq_true rfl) dX12_picture_62 ⟨x1, x8, rfl, gx1, gx8, hF⟩ (fun r25 M26 gr25 qM26 => ?_)
      have hF := qM26 gr25
      refine j_iadd hJ dX12_picture_65 ?_
      have g27 := hF.1; have hF := hF.2
      refine j_istore_n (lv' := [(3, .int (Ii (x3 + r25))), (9, .int (Ii v24)), (0, .ref (ad 0)), (1, .int (Ii x1)), (2, .int (Ii x2)), (4, .int (Ii x4)), (5, .int (Ii x5)), (6, .int (Ii x6)), (7, .int (Ii x7)), (8, .int (Ii x8))]) hJ dX12_picture_66 rfl (by decide) rfl ?_
      refine j_iload hJ dX12_picture_67 5 rfl ?_
      refine j_aload_n hJ dX12_picture_69 rfl 2 rfl ?_
      refine j_gr (e := 50) hJ kR_0 fR_15_60 fl_X12_219 dX12_picture_70 rfl ?_
      refine j_aload_n hJ dX12_picture_73 rfl 2 rfl ?_
      refine j_iload_n hJ dX12_picture_74 rfl 3 rfl ?_
      refine j_iload hJ dX12_picture_75 9 rfl ?_
      refine j_callVi hJ (c_X12_at (l := l) (D := D) (cy := cy) (ad := ad) hin) rfl om_1153 ⟨rfl, rfl, Nat.le_of_ble_eq_true rfl, Nat.le_of_ble_eq_true rfl⟩ [.int (Ii x1), .int (Ii x8)] mv_X12_545 hd_X12_atv kR_0 rfl rfl rfl (Nat.le_of_ble_eq_true rfl) dX12_picture_77 ⟨x1, x8, rfl, gx1, gx8, hF⟩ (fun r28 M29 gr28 qM29 => ?_)
      have hF := qM29 gr28
      refine j_iald hJ gr28 kR_50 hF.1 hF.2.1 dX12_picture_80 (fun v30 ev30 gv30 => ?_)
      have hF := hF.2.2 v30 ev30 gv30
      refine j_iconst hJ dX12_picture_81 ?_
      refine j_icmp_eq hJ 107 gv30 rk_m1 dX12_picture_82 (by decide) (fun z31 => ?_) (fun z31 => ?_)
      · have hF := hF.1 z31
        exact j_sub hJ [2, 3, 4, 0, 6, 7, 8, 9, 1] rfl (k_X12_picture_b107 hin  hJ ih x1 x2 (x3 + r25) x5 x6 x7 x8 v24 x4 _ gx1 gx2 g27 gx5 gx6 gx7 gx8 gv24 gx4 hF)
      · have hF := hF.2 z31
        refine j_aload_n hJ dX12_picture_85 rfl 2 rfl ?_
        refine j_iload_n hJ dX12_picture_86 rfl 3 rfl ?_
        refine j_iload hJ dX12_picture_87 9 rfl ?_
        refine j_callVi hJ (c_X12_firstOfGroup (l := l) (D := D) (cy := cy) (ad := ad) hin) rfl om_1324 ⟨rfl, rfl, Nat.le_of_ble_eq_true rfl, Nat.le_of_ble_eq_true rfl⟩ [.int (Ii x1), .int (Ii x8)] mv_X12_606 hd_X12_firstOfGroupv kR_0 rfl rfl rfl (Nat.le_of_ble_eq_true rfl) dX12_picture_89 ⟨x1, x8, rfl, gx1, gx8, hF⟩ (fun r32 M33 gr32 qM33 => ?_)
        have hF := qM33 gr32
        refine j_iload hJ dX12_picture_92 9 rfl ?_
        refine j_icmp_eq hJ 107 gr32 gx8 dX12_picture_94 (by decide) (fun z34 => ?_) (fun z34 => ?_)
        · have hF := hF.1 z34
          exact j_sub hJ [2, 3, 4, 0, 6, 7, 8, 9, 1] rfl (k_X12_picture_b107 hin  hJ ih x1 x2 (x3 + r25) x5 x6 x7 x8 v24 x4 _ gx1 gx2 g27 gx5 gx6 gx7 gx8 gv24 gx4 hF)
        · have hF := hF.2 z34
          refine j_aload_n hJ dX12_picture_97 rfl 2 rfl ?_
          refine j_iload_n hJ dX12_picture_98 rfl 3 rfl ?_
          refine j_iload hJ dX12_picture_99 9 rfl ?_
          refine j_callVi hJ (c_X12_sizeIn (l := l) (D := D) (cy := cy) (ad := ad) hin) rfl om_1197 ⟨rfl, rfl, Nat.le_of_ble_eq_true rfl, Nat.le_of_ble_eq_true rfl⟩ [.int (Ii x1), .int (Ii x8)] mv_X12_594 hd_X12_sizeInv kR_0 rfl rfl rfl (Nat.le_of_ble_eq_true rfl) dX12_picture_101 ⟨x1, x8, rfl, gx1, gx8, hF⟩ (fun r35 M36 gr35 qM36 => ?_)
          have hF := qM36 gr35
          refine j_goto hJ 108 dX12_picture_104 (by decide) ?_
          exact j_sub hJ [2, 3, 4, 0, 6, 7, 8, 9, 1] rfl (k_X12_picture_b108 hin  hJ ih x1 x2 (x3 + r25) x5 x6 x7 x8 v24 r35 x4 _ gx1 gx2 g27 gx5 gx6 gx7 gx8 gv24 gr35 gx4 hF)
  intro x1 x2 x3 x4 x5 x6 x7 x8 M gx1 gx2 gx3 gx4 gx5 gx6 gx7 gx8 hF
  obtain ⟨n, hF⟩ := hF
  exact H9 n x1 x2 x3 x4 x5 x6 x7 x8 M gx1 gx2 gx3 gx4 gx5 gx6 gx7 gx8 hF
set_option maxHeartbeats 4000000 in
set_option maxRecDepth 100000 in
theorem c_X12_picture {l : Launch} {D : va_G} {cy : Nat → ClassId} {ad : Nat → Nat} (hin : jIn ad ksR.length) : jCN l D vwCl (tyR cy) cy ad ftR ksR (XtR ad) yX12_picture (.code yX12_picture cX12_picture 10 (some .int) :: Om) ({ frames := 3, cells := 0, slots := 0, locals := 66 } : Room) 1 (W_X12_picture ad) := by
  refine jCN_of (y := yX12_picture) (cc := cX12_picture) (nL := 10) (rk := 1) (rm := ({ frames := 3, cells := 0, slots := 0, locals := 66 } : Room)) (own := RX12) (tyR_ok cy) hin (XtR_ok ad) Om_good (by decide) rfl ?_
  intro Q av M hF
  obtain ⟨p1, p2, rfl, gp1, gp2, hF⟩ := hF
  refine ⟨Nat.le_of_ble_eq_true rfl, fun J hJ => ?_⟩
  show J 0 [(0, .ref (ad 0)), (1, .int (Ii p1)), (2, .int (Ii p2))] [] M
  unfold w_X12_picture at hF
  refine j_aload_n hJ dX12_picture_0 rfl 0 rfl ?_
  refine j_iconst hJ dX12_picture_1 ?_
  refine j_pi hJ rk_0 kR_0 fR_15_0 rfl fp_X12_388 dX12_picture_2 (fun M1 eM1 => ?_)
  have hF := hF M1 eM1
  refine j_aload_n hJ dX12_picture_5 rfl 0 rfl ?_
  refine j_iload_n hJ dX12_picture_6 rfl 1 rfl ?_
  refine j_callVz hJ (c_X12_isPicture (l := l) (D := D) (cy := cy) (ad := ad) hin) rfl om_1296 ⟨rfl, rfl, Nat.le_of_ble_eq_true rfl, Nat.le_of_ble_eq_true rfl⟩ [.int (Ii p1)] mv_X12_542 hd_X12_isPicturev kR_0 rfl rfl rfl (Nat.le_of_ble_eq_true rfl) dX12_picture_7 ⟨p1, rfl, gp1, hF⟩ (fun r2 M3 gr2 qM3 => ?_)
  have hF := qM3 gr2
  refine j_if_ne hJ 15 (jz_ri gr2) dX12_picture_10 (by decide) (fun z4 => ?_) (fun z4 => ?_)
  · have hF := hF.1 z4
    refine j_iconst hJ dX12_picture_15 ?_
    refine j_istore_n (lv' := [(3, .int (Ii 0)), (0, .ref (ad 0)), (1, .int (Ii p1)), (2, .int (Ii p2))]) hJ dX12_picture_16 rfl (by decide) rfl ?_
    refine j_iconst hJ dX12_picture_17 ?_
    refine j_istore (lv' := [(4, .int (Ii 0)), (3, .int (Ii 0)), (0, .ref (ad 0)), (1, .int (Ii p1)), (2, .int (Ii p2))]) hJ dX12_picture_18 (by decide) rfl ?_
    refine j_iconst hJ dX12_picture_20 ?_
    refine j_istore (lv' := [(5, .int (Ii (-1))), (4, .int (Ii 0)), (3, .int (Ii 0)), (0, .ref (ad 0)), (1, .int (Ii p1)), (2, .int (Ii p2))]) hJ dX12_picture_21 (by decide) rfl ?_
    refine j_iconst hJ dX12_picture_23 ?_
    refine j_istore (lv' := [(6, .int (Ii 0)), (5, .int (Ii (-1))), (4, .int (Ii 0)), (3, .int (Ii 0)), (0, .ref (ad 0)), (1, .int (Ii p1)), (2, .int (Ii p2))]) hJ dX12_picture_24 (by decide) rfl ?_
    refine j_iconst hJ dX12_picture_26 ?_
    refine j_istore (lv' := [(7, .int (Ii 0)), (6, .int (Ii 0)), (5, .int (Ii (-1))), (4, .int (Ii 0)), (3, .int (Ii 0)), (0, .ref (ad 0)), (1, .int (Ii p1)), (2, .int (Ii p2))]) hJ dX12_picture_27 (by decide) rfl ?_
    refine j_iconst hJ dX12_picture_29 ?_
    refine j_istore (lv' := [(8, .int (Ii 0)), (7, .int (Ii 0)), (6, .int (Ii 0)), (5, .int (Ii (-1))), (4, .int (Ii 0)), (3, .int (Ii 0)), (0, .ref (ad 0)), (1, .int (Ii p1)), (2, .int (Ii p2))]) hJ dX12_picture_30 (by decide) rfl ?_
    exact j_sub hJ [6, 7, 8, 5, 4, 3, 2, 1, 0] rfl (k_X12_picture_b32 hin  hJ  p1 p2 0 0 (-1) 0 0 0 _ gp1 gp2 rk_0 rk_0 rk_m1 rk_0 rk_0 rk_0 hF)
  · have hF := hF.2 z4
    refine j_iconst hJ dX12_picture_13 ?_
    exact j_iret hJ rfl rk_m1 dX12_picture_14 hF
