def W_X12_wrong (ad : Nat → Nat) (Q : Int → MM → Prop) (av : List Value) (M : MM) : Prop := av = [.ref (ad 0)] ∧ w_X12_wrong  Q  M
set_option maxHeartbeats 4000000 in
set_option maxRecDepth 100000 in
theorem k_X12_wrong_b14 {l : Launch} {D : va_G} {cy : Nat → ClassId} {ad : Nat → Nat} {Q : Int → MM → Prop} {J : Nat → List (Nat × Value) → List Value → MM → Prop} (hin : jIn ad ksR.length)   (hJ : jOk l D vwCl (tyR cy) cy ad ftR ksR (XtR ad) Om RX12 cX12_wrong 1 0 ({ frames := 1, cells := 0, slots := 0, locals := 22 } : Room) Q J)  : ∀ (s0 : Int) (M : MM), ri_ s0 → w_X12_wrong_b14  Q  s0 M → J 14 [(0, .ref (ad 0))] [.int (Ii s0), .ref (ad 0)] M := by
  intro s0 M gs0 hF
  unfold w_X12_wrong_b14 at hF
  refine j_aload_n hJ dX12_wrong_14 rfl 0 rfl ?_
  refine j_gi hJ kR_0 fR_15_79 rfl fl_X12_637 dX12_wrong_15 (fun v1 ev1 gv1 => ?_)
  have hF := hF v1 ev1 gv1
  refine j_callVv hJ (c_X12_fail (l := l) (D := D) (cy := cy) (ad := ad) hin) rfl om_1351 ⟨rfl, rfl, Nat.le_of_ble_eq_true rfl, Nat.le_of_ble_eq_true rfl⟩ [.int (Ii s0), .int (Ii v1)] mv_X12_653 hd_X12_failv kR_0 rfl rfl rfl (Nat.le_of_ble_eq_true rfl) dX12_wrong_18 ⟨s0, v1, rfl, gs0, gv1, hF⟩ (fun M3 qM3 => ?_)
  have hF := qM3
  exact j_vret hJ rfl dX12_wrong_21 hF
set_option maxHeartbeats 4000000 in
set_option maxRecDepth 100000 in
theorem c_X12_wrong {l : Launch} {D : va_G} {cy : Nat → ClassId} {ad : Nat → Nat} (hin : jIn ad ksR.length) : jCN l D vwCl (tyR cy) cy ad ftR ksR (XtR ad) yX12_wrong (.code yX12_wrong cX12_wrong 1 none :: Om) ({ frames := 1, cells := 0, slots := 0, locals := 22 } : Room) 0 (W_X12_wrong ad) := by
  refine jCN_of (y := yX12_wrong) (cc := cX12_wrong) (nL := 1) (rk := 0) (rm := ({ frames := 1, cells := 0, slots := 0, locals := 22 } : Room)) (own := RX12) (tyR_ok cy) hin (XtR_ok ad) Om_good (by decide) rfl ?_
  intro Q av M hF
  obtain ⟨rfl, hF⟩ := hF
  refine ⟨Nat.le_of_ble_eq_true rfl, fun J hJ => ?_⟩
  show J 0 [(0, .ref (ad 0))] [] M
  unfold w_X12_wrong at hF
  refine j_aload_n hJ dX12_wrong_0 rfl 0 rfl ?_
  refine j_aload_n hJ dX12_wrong_1 rfl 0 rfl ?_
  refine j_gi hJ kR_0 fR_15_80 rfl fl_X12_644 dX12_wrong_2 (fun v1 ev1 gv1 => ?_)
  have hF := hF v1 ev1 gv1
  refine j_iconst hJ dX12_wrong_5 ?_
  refine j_icmp_ne hJ 13 gv1 rk_4 dX12_wrong_6 (by decide) (fun z2 => ?_) (fun z2 => ?_)
  · have hF := hF.1 z2
    refine j_iconst hJ dX12_wrong_13 ?_
    exact j_sub hJ [0] rfl (k_X12_wrong_b14 hin  hJ  1 _ rk_1 hF)
  · have hF := hF.2 z2
    refine j_iconst hJ dX12_wrong_9 ?_
    refine j_goto hJ 14 dX12_wrong_10 (by decide) ?_
    exact j_sub hJ [0] rfl (k_X12_wrong_b14 hin  hJ  2 _ rk_2 hF)
def W_X12_isSign (ad : Nat → Nat) (Q : Int → MM → Prop) (av : List Value) (M : MM) : Prop := ∃ (p1 : Int), av = [.ref (ad 0), .long (Ll p1)] ∧ rl_ p1 ∧ w_X12_isSign  Q p1 M
set_option maxHeartbeats 4000000 in
set_option maxRecDepth 100000 in
theorem c_X12_isSign {l : Launch} {D : va_G} {cy : Nat → ClassId} {ad : Nat → Nat} (hin : jIn ad ksR.length) : jCN l D vwCl (tyR cy) cy ad ftR ksR (XtR ad) yX12_isSign (.code yX12_isSign cX12_isSign 3 (some .boolean) :: Om) ({ frames := 0, cells := 0, slots := 0, locals := 0 } : Room) 3 (W_X12_isSign ad) := by
  refine jCN_of (y := yX12_isSign) (cc := cX12_isSign) (nL := 3) (rk := 3) (rm := ({ frames := 0, cells := 0, slots := 0, locals := 0 } : Room)) (own := RX12) (tyR_ok cy) hin (XtR_ok ad) Om_good (by decide) rfl ?_
  intro Q av M hF
  obtain ⟨p1, rfl, gp1, hF⟩ := hF
  refine ⟨Nat.le_of_ble_eq_true rfl, fun J hJ => ?_⟩
  show J 0 [(0, .ref (ad 0)), (1, .long (Ll p1))] [] M
  unfold w_X12_isSign at hF
  refine j_aload_n hJ dX12_isSign_0 rfl 0 rfl ?_
  refine j_gi hJ kR_0 fR_15_80 rfl fl_X12_644 dX12_isSign_1 (fun v1 ev1 gv1 => ?_)
  have hF := hF v1 ev1 gv1
  refine j_iconst hJ dX12_isSign_4 ?_
  refine j_icmp_ne hJ 21 gv1 rk_3 dX12_isSign_5 (by decide) (fun z2 => ?_) (fun z2 => ?_)
  · have hF := hF.1 z2
    refine j_iconst hJ dX12_isSign_21 ?_
    exact j_zret hJ rfl (by decide) dX12_isSign_22 hF
  · have hF := hF.2 z2
    refine j_aload_n hJ dX12_isSign_8 rfl 0 rfl ?_
    refine j_gl hJ kR_0 fR_15_85 rfl fl_X12_640 dX12_isSign_9 (fun v3 ev3 gv3 => ?_)
    have hF := hF v3 ev3 gv3
    refine j_lload_n hJ dX12_isSign_12 rfl 1 rfl ?_
    refine j_lcmp_ne hJ 21 gv3 gp1 dX12_isSign_13 dX12_isSign_14 (by decide) (fun z4 => ?_) (fun z4 => ?_)
    · have hF := hF.1 z4
      refine j_iconst hJ dX12_isSign_21 ?_
      exact j_zret hJ rfl (by decide) dX12_isSign_22 hF
    · have hF := hF.2 z4
      refine j_iconst hJ dX12_isSign_17 ?_
      refine j_goto hJ 22 dX12_isSign_18 (by decide) ?_
      exact j_zret hJ rfl (by decide) dX12_isSign_22 hF
def W_X12_isKey (ad : Nat → Nat) (Q : Int → MM → Prop) (av : List Value) (M : MM) : Prop := ∃ (p1 : Int), av = [.ref (ad 0), .int (Ii p1)] ∧ ri_ p1 ∧ w_X12_isKey  Q p1 M
set_option maxHeartbeats 4000000 in
set_option maxRecDepth 100000 in
theorem c_X12_isKey {l : Launch} {D : va_G} {cy : Nat → ClassId} {ad : Nat → Nat} (hin : jIn ad ksR.length) : jCN l D vwCl (tyR cy) cy ad ftR ksR (XtR ad) yX12_isKey (.code yX12_isKey cX12_isKey 2 (some .boolean) :: Om) ({ frames := 0, cells := 0, slots := 0, locals := 0 } : Room) 3 (W_X12_isKey ad) := by
  refine jCN_of (y := yX12_isKey) (cc := cX12_isKey) (nL := 2) (rk := 3) (rm := ({ frames := 0, cells := 0, slots := 0, locals := 0 } : Room)) (own := RX12) (tyR_ok cy) hin (XtR_ok ad) Om_good (by decide) rfl ?_
  intro Q av M hF
  obtain ⟨p1, rfl, gp1, hF⟩ := hF
  refine ⟨Nat.le_of_ble_eq_true rfl, fun J hJ => ?_⟩
  show J 0 [(0, .ref (ad 0)), (1, .int (Ii p1))] [] M
  unfold w_X12_isKey at hF
  refine j_aload_n hJ dX12_isKey_0 rfl 0 rfl ?_
  refine j_gi hJ kR_0 fR_15_80 rfl fl_X12_644 dX12_isKey_1 (fun v1 ev1 gv1 => ?_)
  have hF := hF v1 ev1 gv1
  refine j_iconst hJ dX12_isKey_4 ?_
  refine j_icmp_ne hJ 26 gv1 rk_1 dX12_isKey_5 (by decide) (fun z2 => ?_) (fun z2 => ?_)
  · have hF := hF.1 z2
    refine j_iconst hJ dX12_isKey_26 ?_
    exact j_zret hJ rfl (by decide) dX12_isKey_27 hF
  · have hF := hF.2 z2
    refine j_aload_n hJ dX12_isKey_8 rfl 0 rfl ?_
    refine j_gl hJ kR_0 fR_15_85 rfl fl_X12_640 dX12_isKey_9 (fun v3 ev3 gv3 => ?_)
    have hF := hF v3 ev3 gv3
    refine j_aload_n hJ dX12_isKey_12 rfl 0 rfl ?_
    refine j_gr (e := 3) hJ kR_0 fR_15_4 fl_X12_74 dX12_isKey_13 rfl ?_
    refine j_iload_n hJ dX12_isKey_16 rfl 1 rfl ?_
    refine j_lald hJ gp1 kR_3 hF.1 hF.2.1 dX12_isKey_17 (fun v4 ev4 gv4 => ?_)
    have hF := hF.2.2 v4 ev4 gv4
    refine j_lcmp_ne hJ 26 gv3 gv4 dX12_isKey_18 dX12_isKey_19 (by decide) (fun z5 => ?_) (fun z5 => ?_)
    · have hF := hF.1 z5
      refine j_iconst hJ dX12_isKey_26 ?_
      exact j_zret hJ rfl (by decide) dX12_isKey_27 hF
    · have hF := hF.2 z5
      refine j_iconst hJ dX12_isKey_22 ?_
      refine j_goto hJ 27 dX12_isKey_23 (by decide) ?_
      exact j_zret hJ rfl (by decide) dX12_isKey_27 hF
def W_X12_isName (ad : Nat → Nat) (Q : Int → MM → Prop) (av : List Value) (M : MM) : Prop := av = [.ref (ad 0)] ∧ w_X12_isName  Q  M
set_option maxHeartbeats 4000000 in
set_option maxRecDepth 100000 in
theorem c_X12_isName {l : Launch} {D : va_G} {cy : Nat → ClassId} {ad : Nat → Nat} (hin : jIn ad ksR.length) : jCN l D vwCl (tyR cy) cy ad ftR ksR (XtR ad) yX12_isName (.code yX12_isName cX12_isName 1 (some .boolean) :: Om) ({ frames := 1, cells := 0, slots := 0, locals := 24 } : Room) 3 (W_X12_isName ad) := by
  refine jCN_of (y := yX12_isName) (cc := cX12_isName) (nL := 1) (rk := 3) (rm := ({ frames := 1, cells := 0, slots := 0, locals := 24 } : Room)) (own := RX12) (tyR_ok cy) hin (XtR_ok ad) Om_good (by decide) rfl ?_
  intro Q av M hF
  obtain ⟨rfl, hF⟩ := hF
  refine ⟨Nat.le_of_ble_eq_true rfl, fun J hJ => ?_⟩
  show J 0 [(0, .ref (ad 0))] [] M
  unfold w_X12_isName at hF
  refine j_aload_n hJ dX12_isName_0 rfl 0 rfl ?_
  refine j_gi hJ kR_0 fR_15_80 rfl fl_X12_644 dX12_isName_1 (fun v1 ev1 gv1 => ?_)
  have hF := hF v1 ev1 gv1
  refine j_iconst hJ dX12_isName_4 ?_
  refine j_icmp_ne hJ 24 gv1 rk_1 dX12_isName_5 (by decide) (fun z2 => ?_) (fun z2 => ?_)
  · have hF := hF.1 z2
    refine j_iconst hJ dX12_isName_24 ?_
    exact j_zret hJ rfl (by decide) dX12_isName_25 hF
  · have hF := hF.2 z2
    refine j_aload_n hJ dX12_isName_8 rfl 0 rfl ?_
    refine j_aload_n hJ dX12_isName_9 rfl 0 rfl ?_
    refine j_gl hJ kR_0 fR_15_85 rfl fl_X12_640 dX12_isName_10 (fun v3 ev3 gv3 => ?_)
    have hF := hF v3 ev3 gv3
    refine j_callVi hJ (c_X12_keyOf (l := l) (D := D) (cy := cy) (ad := ad) hin) rfl om_1046 ⟨rfl, rfl, Nat.le_of_ble_eq_true rfl, Nat.le_of_ble_eq_true rfl⟩ [.long (Ll v3)] mv_X12_409 hd_X12_keyOfv kR_0 rfl rfl rfl (Nat.le_of_ble_eq_true rfl) dX12_isName_13 ⟨v3, rfl, gv3, hF⟩ (fun r4 M5 gr4 qM5 => ?_)
    have hF := qM5 gr4
    refine j_iconst hJ dX12_isName_16 ?_
    refine j_icmp_ne hJ 24 gr4 rk_m1 dX12_isName_17 (by decide) (fun z6 => ?_) (fun z6 => ?_)
    · have hF := hF.1 z6
      refine j_iconst hJ dX12_isName_24 ?_
      exact j_zret hJ rfl (by decide) dX12_isName_25 hF
    · have hF := hF.2 z6
      refine j_iconst hJ dX12_isName_20 ?_
      refine j_goto hJ 25 dX12_isName_21 (by decide) ?_
      exact j_zret hJ rfl (by decide) dX12_isName_25 hF
def W_X12_takesSign (ad : Nat → Nat) (Q : Int → MM → Prop) (av : List Value) (M : MM) : Prop := ∃ (p1 : Int), av = [.ref (ad 0), .long (Ll p1)] ∧ rl_ p1 ∧ w_X12_takesSign  Q p1 M
set_option maxHeartbeats 4000000 in
set_option maxRecDepth 100000 in
theorem k_X12_takesSign_b20 {l : Launch} {D : va_G} {cy : Nat → ClassId} {ad : Nat → Nat} {Q : Int → MM → Prop} {J : Nat → List (Nat × Value) → List Value → MM → Prop} (hin : jIn ad ksR.length)   (hJ : jOk l D vwCl (tyR cy) cy ad ftR ksR (XtR ad) Om RX12 cX12_takesSign 4 3 ({ frames := 3, cells := 0, slots := 0, locals := 64 } : Room) Q J)  : ∀ (s0 : Int) (M : MM), ri_ s0 → w_X12_takesSign_b20  Q  s0 M → J 20 [(0, .ref (ad 0))] [.int (Ii s0)] M := by
  intro s0 M gs0 hF
  unfold w_X12_takesSign_b20 at hF
  refine j_istore_n (lv' := [(3, .int (Ii s0)), (0, .ref (ad 0))]) hJ dX12_takesSign_20 rfl (by decide) rfl ?_
  refine j_iload_n hJ dX12_takesSign_21 rfl 0 rfl ?_
  refine j_if_eq hJ 29 gs0 dX12_takesSign_22 (by decide) (fun z1 => ?_) (fun z1 => ?_)
  · have hF := hF.1 z1
    refine j_iload_n hJ dX12_takesSign_29 rfl 0 rfl ?_
    exact j_zret hJ rfl hF.1 dX12_takesSign_30 hF.2
  · have hF := hF.2 z1
    refine j_aload_n hJ dX12_takesSign_25 rfl 1 rfl ?_
    refine j_callVv hJ (c_X12_advance (l := l) (D := D) (cy := cy) (ad := ad) hin) rfl om_1355 ⟨rfl, rfl, Nat.le_of_ble_eq_true rfl, Nat.le_of_ble_eq_true rfl⟩ [] mv_X12_661 hd_X12_advancev kR_0 rfl rfl rfl (Nat.le_of_ble_eq_true rfl) dX12_takesSign_26 ⟨rfl, hF⟩ (fun M3 qM3 => ?_)
    have hF := qM3
    refine j_iload_n hJ dX12_takesSign_29 rfl 0 rfl ?_
    exact j_zret hJ rfl hF.1 dX12_takesSign_30 hF.2
set_option maxHeartbeats 4000000 in
set_option maxRecDepth 100000 in
theorem k_X12_takesSign_b19 {l : Launch} {D : va_G} {cy : Nat → ClassId} {ad : Nat → Nat} {Q : Int → MM → Prop} {J : Nat → List (Nat × Value) → List Value → MM → Prop} (hin : jIn ad ksR.length)   (hJ : jOk l D vwCl (tyR cy) cy ad ftR ksR (XtR ad) Om RX12 cX12_takesSign 4 3 ({ frames := 3, cells := 0, slots := 0, locals := 64 } : Room) Q J)  : ∀ (M : MM), w_X12_takesSign_b19  Q   M → J 19 [(0, .ref (ad 0))] [] M := by
  intro  M  hF
  unfold w_X12_takesSign_b19 at hF
  refine j_iconst hJ dX12_takesSign_19 ?_
  exact j_sub hJ [0] rfl (k_X12_takesSign_b20 hin  hJ  0 _ rk_0 hF)
set_option maxHeartbeats 4000000 in
set_option maxRecDepth 100000 in
theorem c_X12_takesSign {l : Launch} {D : va_G} {cy : Nat → ClassId} {ad : Nat → Nat} (hin : jIn ad ksR.length) : jCN l D vwCl (tyR cy) cy ad ftR ksR (XtR ad) yX12_takesSign (.code yX12_takesSign cX12_takesSign 4 (some .boolean) :: Om) ({ frames := 3, cells := 0, slots := 0, locals := 64 } : Room) 3 (W_X12_takesSign ad) := by
  refine jCN_of (y := yX12_takesSign) (cc := cX12_takesSign) (nL := 4) (rk := 3) (rm := ({ frames := 3, cells := 0, slots := 0, locals := 64 } : Room)) (own := RX12) (tyR_ok cy) hin (XtR_ok ad) Om_good (by decide) rfl ?_
  intro Q av M hF
  obtain ⟨p1, rfl, gp1, hF⟩ := hF
  refine ⟨Nat.le_of_ble_eq_true rfl, fun J hJ => ?_⟩
  show J 0 [(0, .ref (ad 0)), (1, .long (Ll p1))] [] M
  unfold w_X12_takesSign at hF
  refine j_aload_n hJ dX12_takesSign_0 rfl 0 rfl ?_
  refine j_gi hJ kR_0 fR_15_83 rfl fl_X12_625 dX12_takesSign_1 (fun v1 ev1 gv1 => ?_)
  have hF := hF v1 ev1 gv1
  refine j_if_ne hJ 19 gv1 dX12_takesSign_4 (by decide) (fun z2 => ?_) (fun z2 => ?_)
  · have hF := hF.1 z2
    exact j_sub hJ [0] rfl (k_X12_takesSign_b19 hin  hJ   _  hF)
  · have hF := hF.2 z2
    refine j_aload_n hJ dX12_takesSign_7 rfl 0 rfl ?_
    refine j_lload_n hJ dX12_takesSign_8 rfl 1 rfl ?_
    refine j_callVz hJ (c_X12_isSign (l := l) (D := D) (cy := cy) (ad := ad) hin) rfl om_1359 ⟨rfl, rfl, Nat.le_of_ble_eq_true rfl, Nat.le_of_ble_eq_true rfl⟩ [.long (Ll p1)] mv_X12_657 hd_X12_isSignv kR_0 rfl rfl rfl (Nat.le_of_ble_eq_true rfl) dX12_takesSign_9 ⟨p1, rfl, gp1, hF⟩ (fun r3 M4 gr3 qM4 => ?_)
    have hF := qM4 gr3
    refine j_if_eq hJ 19 (jz_ri gr3) dX12_takesSign_12 (by decide) (fun z5 => ?_) (fun z5 => ?_)
    · have hF := hF.1 z5
      exact j_sub hJ [0] rfl (k_X12_takesSign_b19 hin  hJ   _  hF)
    · have hF := hF.2 z5
      refine j_iconst hJ dX12_takesSign_15 ?_
      refine j_goto hJ 20 dX12_takesSign_16 (by decide) ?_
      exact j_sub hJ [0] rfl (k_X12_takesSign_b20 hin  hJ  1 _ rk_1 hF)
def W_X12_needSign (ad : Nat → Nat) (Q : Int → MM → Prop) (av : List Value) (M : MM) : Prop := ∃ (p1 : Int), av = [.ref (ad 0), .long (Ll p1)] ∧ rl_ p1 ∧ w_X12_needSign  Q p1 M
set_option maxHeartbeats 4000000 in
set_option maxRecDepth 100000 in
theorem c_X12_needSign {l : Launch} {D : va_G} {cy : Nat → ClassId} {ad : Nat → Nat} (hin : jIn ad ksR.length) : jCN l D vwCl (tyR cy) cy ad ftR ksR (XtR ad) yX12_needSign (.code yX12_needSign cX12_needSign 3 none :: Om) ({ frames := 3, cells := 0, slots := 0, locals := 64 } : Room) 0 (W_X12_needSign ad) := by
  refine jCN_of (y := yX12_needSign) (cc := cX12_needSign) (nL := 3) (rk := 0) (rm := ({ frames := 3, cells := 0, slots := 0, locals := 64 } : Room)) (own := RX12) (tyR_ok cy) hin (XtR_ok ad) Om_good (by decide) rfl ?_
  intro Q av M hF
  obtain ⟨p1, rfl, gp1, hF⟩ := hF
  refine ⟨Nat.le_of_ble_eq_true rfl, fun J hJ => ?_⟩
  show J 0 [(0, .ref (ad 0)), (1, .long (Ll p1))] [] M
  unfold w_X12_needSign at hF
  refine j_aload_n hJ dX12_needSign_0 rfl 0 rfl ?_
  refine j_gi hJ kR_0 fR_15_83 rfl fl_X12_625 dX12_needSign_1 (fun v1 ev1 gv1 => ?_)
  have hF := hF v1 ev1 gv1
  refine j_if_le hJ 8 gv1 dX12_needSign_4 (by decide) (fun z2 => ?_) (fun z2 => ?_)
  · have hF := hF.1 z2
    refine j_aload_n hJ dX12_needSign_8 rfl 0 rfl ?_
    refine j_lload_n hJ dX12_needSign_9 rfl 1 rfl ?_
    refine j_callVz hJ (c_X12_isSign (l := l) (D := D) (cy := cy) (ad := ad) hin) rfl om_1359 ⟨rfl, rfl, Nat.le_of_ble_eq_true rfl, Nat.le_of_ble_eq_true rfl⟩ [.long (Ll p1)] mv_X12_657 hd_X12_isSignv kR_0 rfl rfl rfl (Nat.le_of_ble_eq_true rfl) dX12_needSign_10 ⟨p1, rfl, gp1, hF⟩ (fun r3 M4 gr3 qM4 => ?_)
    have hF := qM4 gr3
    refine j_if_eq hJ 23 (jz_ri gr3) dX12_needSign_13 (by decide) (fun z5 => ?_) (fun z5 => ?_)
    · have hF := hF.1 z5
      refine j_aload_n hJ dX12_needSign_23 rfl 0 rfl ?_
      refine j_callVv hJ (c_X12_wrong (l := l) (D := D) (cy := cy) (ad := ad) hin) rfl om_1363 ⟨rfl, rfl, Nat.le_of_ble_eq_true rfl, Nat.le_of_ble_eq_true rfl⟩ [] mv_X12_664 hd_X12_wrongv kR_0 rfl rfl rfl (Nat.le_of_ble_eq_true rfl) dX12_needSign_24 ⟨rfl, hF⟩ (fun M7 qM7 => ?_)
      have hF := qM7
      exact j_vret hJ rfl dX12_needSign_27 hF
    · have hF := hF.2 z5
      refine j_aload_n hJ dX12_needSign_16 rfl 0 rfl ?_
      refine j_callVv hJ (c_X12_advance (l := l) (D := D) (cy := cy) (ad := ad) hin) rfl om_1355 ⟨rfl, rfl, Nat.le_of_ble_eq_true rfl, Nat.le_of_ble_eq_true rfl⟩ [] mv_X12_661 hd_X12_advancev kR_0 rfl rfl rfl (Nat.le_of_ble_eq_true rfl) dX12_needSign_17 ⟨rfl, hF⟩ (fun M9 qM9 => ?_)
      have hF := qM9
      refine j_goto hJ 27 dX12_needSign_20 (by decide) ?_
      exact j_vret hJ rfl dX12_needSign_27 hF
  · have hF := hF.2 z2
    exact j_vret hJ rfl dX12_needSign_7 hF
def W_X12_takesKey (ad : Nat → Nat) (Q : Int → MM → Prop) (av : List Value) (M : MM) : Prop := ∃ (p1 : Int), av = [.ref (ad 0), .int (Ii p1)] ∧ ri_ p1 ∧ w_X12_takesKey  Q p1 M
set_option maxHeartbeats 4000000 in
set_option maxRecDepth 100000 in
theorem k_X12_takesKey_b20 {l : Launch} {D : va_G} {cy : Nat → ClassId} {ad : Nat → Nat} {Q : Int → MM → Prop} {J : Nat → List (Nat × Value) → List Value → MM → Prop} (hin : jIn ad ksR.length)   (hJ : jOk l D vwCl (tyR cy) cy ad ftR ksR (XtR ad) Om RX12 cX12_takesKey 3 3 ({ frames := 3, cells := 0, slots := 0, locals := 64 } : Room) Q J)  : ∀ (s0 : Int) (M : MM), ri_ s0 → w_X12_takesKey_b20  Q  s0 M → J 20 [(0, .ref (ad 0))] [.int (Ii s0)] M := by
  intro s0 M gs0 hF
  unfold w_X12_takesKey_b20 at hF
  refine j_istore_n (lv' := [(2, .int (Ii s0)), (0, .ref (ad 0))]) hJ dX12_takesKey_20 rfl (by decide) rfl ?_
  refine j_iload_n hJ dX12_takesKey_21 rfl 0 rfl ?_
  refine j_if_eq hJ 29 gs0 dX12_takesKey_22 (by decide) (fun z1 => ?_) (fun z1 => ?_)
  · have hF := hF.1 z1
    refine j_iload_n hJ dX12_takesKey_29 rfl 0 rfl ?_
    exact j_zret hJ rfl hF.1 dX12_takesKey_30 hF.2
  · have hF := hF.2 z1
    refine j_aload_n hJ dX12_takesKey_25 rfl 1 rfl ?_
    refine j_callVv hJ (c_X12_advance (l := l) (D := D) (cy := cy) (ad := ad) hin) rfl om_1355 ⟨rfl, rfl, Nat.le_of_ble_eq_true rfl, Nat.le_of_ble_eq_true rfl⟩ [] mv_X12_661 hd_X12_advancev kR_0 rfl rfl rfl (Nat.le_of_ble_eq_true rfl) dX12_takesKey_26 ⟨rfl, hF⟩ (fun M3 qM3 => ?_)
    have hF := qM3
    refine j_iload_n hJ dX12_takesKey_29 rfl 0 rfl ?_
    exact j_zret hJ rfl hF.1 dX12_takesKey_30 hF.2
set_option maxHeartbeats 4000000 in
set_option maxRecDepth 100000 in
theorem k_X12_takesKey_b19 {l : Launch} {D : va_G} {cy : Nat → ClassId} {ad : Nat → Nat} {Q : Int → MM → Prop} {J : Nat → List (Nat × Value) → List Value → MM → Prop} (hin : jIn ad ksR.length)   (hJ : jOk l D vwCl (tyR cy) cy ad ftR ksR (XtR ad) Om RX12 cX12_takesKey 3 3 ({ frames := 3, cells := 0, slots := 0, locals := 64 } : Room) Q J)  : ∀ (M : MM), w_X12_takesKey_b19  Q   M → J 19 [(0, .ref (ad 0))] [] M := by
  intro  M  hF
  unfold w_X12_takesKey_b19 at hF
  refine j_iconst hJ dX12_takesKey_19 ?_
  exact j_sub hJ [0] rfl (k_X12_takesKey_b20 hin  hJ  0 _ rk_0 hF)
set_option maxHeartbeats 4000000 in
set_option maxRecDepth 100000 in
theorem c_X12_takesKey {l : Launch} {D : va_G} {cy : Nat → ClassId} {ad : Nat → Nat} (hin : jIn ad ksR.length) : jCN l D vwCl (tyR cy) cy ad ftR ksR (XtR ad) yX12_takesKey (.code yX12_takesKey cX12_takesKey 3 (some .boolean) :: Om) ({ frames := 3, cells := 0, slots := 0, locals := 64 } : Room) 3 (W_X12_takesKey ad) := by
  refine jCN_of (y := yX12_takesKey) (cc := cX12_takesKey) (nL := 3) (rk := 3) (rm := ({ frames := 3, cells := 0, slots := 0, locals := 64 } : Room)) (own := RX12) (tyR_ok cy) hin (XtR_ok ad) Om_good (by decide) rfl ?_
  intro Q av M hF
  obtain ⟨p1, rfl, gp1, hF⟩ := hF
  refine ⟨Nat.le_of_ble_eq_true rfl, fun J hJ => ?_⟩
  show J 0 [(0, .ref (ad 0)), (1, .int (Ii p1))] [] M
  unfold w_X12_takesKey at hF
  refine j_aload_n hJ dX12_takesKey_0 rfl 0 rfl ?_
  refine j_gi hJ kR_0 fR_15_83 rfl fl_X12_625 dX12_takesKey_1 (fun v1 ev1 gv1 => ?_)
  have hF := hF v1 ev1 gv1
  refine j_if_ne hJ 19 gv1 dX12_takesKey_4 (by decide) (fun z2 => ?_) (fun z2 => ?_)
  · have hF := hF.1 z2
    exact j_sub hJ [0] rfl (k_X12_takesKey_b19 hin  hJ   _  hF)
  · have hF := hF.2 z2
    refine j_aload_n hJ dX12_takesKey_7 rfl 0 rfl ?_
    refine j_iload_n hJ dX12_takesKey_8 rfl 1 rfl ?_
    refine j_callVz hJ (c_X12_isKey (l := l) (D := D) (cy := cy) (ad := ad) hin) rfl om_1367 ⟨rfl, rfl, Nat.le_of_ble_eq_true rfl, Nat.le_of_ble_eq_true rfl⟩ [.int (Ii p1)] mv_X12_667 hd_X12_isKeyv kR_0 rfl rfl rfl (Nat.le_of_ble_eq_true rfl) dX12_takesKey_9 ⟨p1, rfl, gp1, hF⟩ (fun r3 M4 gr3 qM4 => ?_)
    have hF := qM4 gr3
    refine j_if_eq hJ 19 (jz_ri gr3) dX12_takesKey_12 (by decide) (fun z5 => ?_) (fun z5 => ?_)
    · have hF := hF.1 z5
      exact j_sub hJ [0] rfl (k_X12_takesKey_b19 hin  hJ   _  hF)
    · have hF := hF.2 z5
      refine j_iconst hJ dX12_takesKey_15 ?_
      refine j_goto hJ 20 dX12_takesKey_16 (by decide) ?_
      exact j_sub hJ [0] rfl (k_X12_takesKey_b20 hin  hJ  1 _ rk_1 hF)
def W_X12_node (ad : Nat → Nat) (Q : Int → MM → Prop) (av : List Value) (M : MM) : Prop := ∃ (p1 : Int), av = [.ref (ad 0), .int (Ii p1)] ∧ ri_ p1 ∧ w_X12_node  Q p1 M
set_option maxHeartbeats 4000000 in
set_option maxRecDepth 100000 in
theorem k_X12_node_b25 {l : Launch} {D : va_G} {cy : Nat → ClassId} {ad : Nat → Nat} {Q : Int → MM → Prop} {J : Nat → List (Nat × Value) → List Value → MM → Prop} (hin : jIn ad ksR.length)   (hJ : jOk l D vwCl (tyR cy) cy ad ftR ksR (XtR ad) Om RX12 cX12_node 3 1 ({ frames := 1, cells := 0, slots := 0, locals := 22 } : Room) Q J)  : ∀ (x1 : Int) (M : MM), ri_ x1 → w_X12_node_b25  Q  x1 M → J 25 [(0, .ref (ad 0)), (1, .int (Ii x1))] [] M := by
  intro x1 M gx1 hF
  unfold w_X12_node_b25 at hF
  refine j_aload_n hJ dX12_node_25 rfl 0 rfl ?_
  refine j_gi hJ kR_0 fR_15_83 rfl fl_X12_625 dX12_node_26 (fun v1 ev1 gv1 => ?_)
  have hF := hF v1 ev1 gv1
  refine j_if_le hJ 37 gv1 dX12_node_29 (by decide) (fun z2 => ?_) (fun z2 => ?_)
  · have hF := hF.1 z2
    refine j_aload_n hJ dX12_node_37 rfl 0 rfl ?_
    refine j_gi hJ kR_0 fR_15_91 rfl fl_X12_673 dX12_node_38 (fun v3 ev3 gv3 => ?_)
    have hF := hF v3 ev3 gv3
    refine j_aload_n hJ dX12_node_41 rfl 0 rfl ?_
    refine j_gi hJ kR_0 fR_15_92 rfl fl_X12_670 dX12_node_42 (fun v4 ev4 gv4 => ?_)
    have hF := hF v4 ev4 gv4
    refine j_iadd hJ dX12_node_45 ?_
    have g5 := hF.1; have hF := hF.2
    refine j_istore_n (lv' := [(2, .int (Ii (v3 + v4))), (0, .ref (ad 0)), (1, .int (Ii x1))]) hJ dX12_node_46 rfl (by decide) rfl ?_
    refine j_aload_n hJ dX12_node_47 rfl 1 rfl ?_
    refine j_dup hJ dX12_node_48 rfl ?_
    refine j_gi hJ kR_0 fR_15_92 rfl fl_X12_670 dX12_node_49 (fun v6 ev6 gv6 => ?_)
    have hF := hF v6 ev6 gv6
    refine j_iconst hJ dX12_node_52 ?_
    refine j_iadd hJ dX12_node_53 ?_
    have g7 := hF.1; have hF := hF.2
    refine j_pi hJ g7 kR_0 fR_15_92 rfl fp_X12_670 dX12_node_54 (fun M8 eM8 => ?_)
    have hF := hF M8 eM8
    refine j_aload_n hJ dX12_node_57 rfl 1 rfl ?_
    refine j_gr (e := 66) hJ kR_0 fR_15_86 fl_X12_272 dX12_node_58 rfl ?_
    refine j_iload_n hJ dX12_node_61 rfl 0 rfl ?_
    refine j_iload_n hJ dX12_node_62 rfl 2 rfl ?_
    refine j_iast hJ g5 gx1 kR_66 hF.1 hF.2.1 dX12_node_63 (fun M9 eM9 => ?_)
    have hF := hF.2.2 M9 eM9
    refine j_aload_n hJ dX12_node_64 rfl 1 rfl ?_
    refine j_gr (e := 67) hJ kR_0 fR_15_87 fl_X12_275 dX12_node_65 rfl ?_
    refine j_iload_n hJ dX12_node_68 rfl 0 rfl ?_
    refine j_iconst hJ dX12_node_69 ?_
    refine j_iast hJ g5 rk_m1 kR_67 hF.1 hF.2.1 dX12_node_70 (fun M10 eM10 => ?_)
    have hF := hF.2.2 M10 eM10
    refine j_aload_n hJ dX12_node_71 rfl 1 rfl ?_
    refine j_gr (e := 68) hJ kR_0 fR_15_88 fl_X12_278 dX12_node_72 rfl ?_
    refine j_iload_n hJ dX12_node_75 rfl 0 rfl ?_
    refine j_iconst hJ dX12_node_76 ?_
    refine j_iast hJ g5 rk_m1 kR_68 hF.1 hF.2.1 dX12_node_77 (fun M11 eM11 => ?_)
    have hF := hF.2.2 M11 eM11
    refine j_aload_n hJ dX12_node_78 rfl 1 rfl ?_
    refine j_gr (e := 69) hJ kR_0 fR_15_89 fl_X12_281 dX12_node_79 rfl ?_
    refine j_iload_n hJ dX12_node_82 rfl 0 rfl ?_
    refine j_iconst hJ dX12_node_83 ?_
    refine j_iast hJ g5 rk_m1 kR_69 hF.1 hF.2.1 dX12_node_84 (fun M12 eM12 => ?_)
    have hF := hF.2.2 M12 eM12
    refine j_aload_n hJ dX12_node_85 rfl 1 rfl ?_
    refine j_gr (e := 70) hJ kR_0 fR_15_90 fl_X12_284 dX12_node_86 rfl ?_
    refine j_iload_n hJ dX12_node_89 rfl 0 rfl ?_
    refine j_aload_n hJ dX12_node_90 rfl 1 rfl ?_
    refine j_gl hJ kR_0 fR_15_85 rfl fl_X12_640 dX12_node_91 (fun v13 ev13 gv13 => ?_)
    have hF := hF v13 ev13 gv13
    refine j_last hJ g5 gv13 kR_70 hF.1 hF.2.1 dX12_node_94 (fun M14 eM14 => ?_)
    have hF := hF.2.2 M14 eM14
    refine j_iload_n hJ dX12_node_95 rfl 0 rfl ?_
    exact j_iret hJ rfl g5 dX12_node_96 hF
  · have hF := hF.2 z2
    refine j_aload_n hJ dX12_node_32 rfl 0 rfl ?_
    refine j_gi hJ kR_0 fR_15_91 rfl fl_X12_673 dX12_node_33 (fun v15 ev15 gv15 => ?_)
    have hF := hF v15 ev15 gv15
    exact j_iret hJ rfl gv15 dX12_node_36 hF
set_option maxHeartbeats 4000000 in
set_option maxRecDepth 100000 in
theorem c_X12_node {l : Launch} {D : va_G} {cy : Nat → ClassId} {ad : Nat → Nat} (hin : jIn ad ksR.length) : jCN l D vwCl (tyR cy) cy ad ftR ksR (XtR ad) yX12_node (.code yX12_node cX12_node 3 (some .int) :: Om) ({ frames := 1, cells := 0, slots := 0, locals := 22 } : Room) 1 (W_X12_node ad) := by
  refine jCN_of (y := yX12_node) (cc := cX12_node) (nL := 3) (rk := 1) (rm := ({ frames := 1, cells := 0, slots := 0, locals := 22 } : Room)) (own := RX12) (tyR_ok cy) hin (XtR_ok ad) Om_good (by decide) rfl ?_
  intro Q av M hF
  obtain ⟨p1, rfl, gp1, hF⟩ := hF
  refine ⟨Nat.le_of_ble_eq_true rfl, fun J hJ => ?_⟩
  show J 0 [(0, .ref (ad 0)), (1, .int (Ii p1))] [] M
  unfold w_X12_node at hF
  refine j_aload_n hJ dX12_node_0 rfl 0 rfl ?_
  refine j_gi hJ kR_0 fR_15_83 rfl fl_X12_625 dX12_node_1 (fun v1 ev1 gv1 => ?_)
  have hF := hF v1 ev1 gv1
  refine j_if_ne hJ 25 gv1 dX12_node_4 (by decide) (fun z2 => ?_) (fun z2 => ?_)
  · have hF := hF.1 z2
    exact j_sub hJ [0, 1] rfl (k_X12_node_b25 hin  hJ  p1 _ gp1 hF)
  · have hF := hF.2 z2
    refine j_aload_n hJ dX12_node_7 rfl 0 rfl ?_
    refine j_gi hJ kR_0 fR_15_92 rfl fl_X12_670 dX12_node_8 (fun v3 ev3 gv3 => ?_)
    have hF := hF v3 ev3 gv3
    refine j_bipush hJ dX12_node_11 (by decide) ?_
    refine j_icmp_ne hJ 25 gv3 rk_120 dX12_node_13 (by decide) (fun z4 => ?_) (fun z4 => ?_)
    · have hF := hF.1 z4
      exact j_sub hJ [0, 1] rfl (k_X12_node_b25 hin  hJ  p1 _ gp1 hF)
    · have hF := hF.2 z4
      refine j_aload_n hJ dX12_node_16 rfl 0 rfl ?_
      refine j_iconst hJ dX12_node_17 ?_
      refine j_aload_n hJ dX12_node_18 rfl 0 rfl ?_
      refine j_gi hJ kR_0 fR_15_79 rfl fl_X12_637 dX12_node_19 (fun v5 ev5 gv5 => ?_)
      have hF := hF v5 ev5 gv5
      refine j_callVv hJ (c_X12_fail (l := l) (D := D) (cy := cy) (ad := ad) hin) rfl om_1351 ⟨rfl, rfl, Nat.le_of_ble_eq_true rfl, Nat.le_of_ble_eq_true rfl⟩ [.int (Ii 4), .int (Ii v5)] mv_X12_653 hd_X12_failv kR_0 rfl rfl rfl (Nat.le_of_ble_eq_true rfl) dX12_node_22 ⟨4, v5, rfl, rk_4, gv5, hF⟩ (fun M7 qM7 => ?_)
      have hF := qM7
      exact j_sub hJ [0, 1] rfl (k_X12_node_b25 hin  hJ  p1 _ gp1 hF)
def W_X12_nest (ad : Nat → Nat) (Q : Int → MM → Prop) (av : List Value) (M : MM) : Prop := av = [.ref (ad 0)] ∧ w_X12_nest  Q  M
set_option maxHeartbeats 4000000 in
set_option maxRecDepth 100000 in
theorem k_X12_nest_b25 {l : Launch} {D : va_G} {cy : Nat → ClassId} {ad : Nat → Nat} {Q : Int → MM → Prop} {J : Nat → List (Nat × Value) → List Value → MM → Prop} (hin : jIn ad ksR.length)   (hJ : jOk l D vwCl (tyR cy) cy ad ftR ksR (XtR ad) Om RX12 cX12_nest 1 0 ({ frames := 1, cells := 0, slots := 0, locals := 22 } : Room) Q J)  : ∀ (M : MM), w_X12_nest_b25  Q   M → J 25 [(0, .ref (ad 0))] [] M := by
  intro  M  hF
  unfold w_X12_nest_b25 at hF
  refine j_aload_n hJ dX12_nest_25 rfl 0 rfl ?_
  refine j_dup hJ dX12_nest_26 rfl ?_
  refine j_gi hJ kR_0 fR_15_93 rfl fl_X12_676 dX12_nest_27 (fun v1 ev1 gv1 => ?_)
  have hF := hF v1 ev1 gv1
  refine j_iconst hJ dX12_nest_30 ?_
  refine j_iadd hJ dX12_nest_31 ?_
  have g2 := hF.1; have hF := hF.2
  refine j_pi hJ g2 kR_0 fR_15_93 rfl fp_X12_676 dX12_nest_32 (fun M3 eM3 => ?_)
  have hF := hF M3 eM3
  exact j_vret hJ rfl dX12_nest_35 hF
set_option maxHeartbeats 4000000 in
set_option maxRecDepth 100000 in
theorem c_X12_nest {l : Launch} {D : va_G} {cy : Nat → ClassId} {ad : Nat → Nat} (hin : jIn ad ksR.length) : jCN l D vwCl (tyR cy) cy ad ftR ksR (XtR ad) yX12_nest (.code yX12_nest cX12_nest 1 none :: Om) ({ frames := 1, cells := 0, slots := 0, locals := 22 } : Room) 0 (W_X12_nest ad) := by
  refine jCN_of (y := yX12_nest) (cc := cX12_nest) (nL := 1) (rk := 0) (rm := ({ frames := 1, cells := 0, slots := 0, locals := 22 } : Room)) (own := RX12) (tyR_ok cy) hin (XtR_ok ad) Om_good (by decide) rfl ?_
  intro Q av M hF
  obtain ⟨rfl, hF⟩ := hF
  refine ⟨Nat.le_of_ble_eq_true rfl, fun J hJ => ?_⟩
  show J 0 [(0, .ref (ad 0))] [] M
  unfold w_X12_nest at hF
  refine j_aload_n hJ dX12_nest_0 rfl 0 rfl ?_
  refine j_gi hJ kR_0 fR_15_83 rfl fl_X12_625 dX12_nest_1 (fun v1 ev1 gv1 => ?_)
  have hF := hF v1 ev1 gv1
  refine j_if_ne hJ 25 gv1 dX12_nest_4 (by decide) (fun z2 => ?_) (fun z2 => ?_)
  · have hF := hF.1 z2
    exact j_sub hJ [0] rfl (k_X12_nest_b25 hin  hJ   _  hF)
  · have hF := hF.2 z2
    refine j_aload_n hJ dX12_nest_7 rfl 0 rfl ?_
    refine j_gi hJ kR_0 fR_15_93 rfl fl_X12_676 dX12_nest_8 (fun v3 ev3 gv3 => ?_)
    have hF := hF v3 ev3 gv3
    refine j_bipush hJ dX12_nest_11 (by decide) ?_
    refine j_icmp_ne hJ 25 gv3 rk_10 dX12_nest_13 (by decide) (fun z4 => ?_) (fun z4 => ?_)
    · have hF := hF.1 z4
      exact j_sub hJ [0] rfl (k_X12_nest_b25 hin  hJ   _  hF)
    · have hF := hF.2 z4
      refine j_aload_n hJ dX12_nest_16 rfl 0 rfl ?_
      refine j_iconst hJ dX12_nest_17 ?_
      refine j_aload_n hJ dX12_nest_18 rfl 0 rfl ?_
      refine j_gi hJ kR_0 fR_15_79 rfl fl_X12_637 dX12_nest_19 (fun v5 ev5 gv5 => ?_)
      have hF := hF v5 ev5 gv5
      refine j_callVv hJ (c_X12_fail (l := l) (D := D) (cy := cy) (ad := ad) hin) rfl om_1351 ⟨rfl, rfl, Nat.le_of_ble_eq_true rfl, Nat.le_of_ble_eq_true rfl⟩ [.int (Ii 4), .int (Ii v5)] mv_X12_653 hd_X12_failv kR_0 rfl rfl rfl (Nat.le_of_ble_eq_true rfl) dX12_nest_22 ⟨4, v5, rfl, rk_4, gv5, hF⟩ (fun M7 qM7 => ?_)
      have hF := qM7
      exact j_sub hJ [0] rfl (k_X12_nest_b25 hin  hJ   _  hF)
def W_X12_compared (ad : Nat → Nat) (Q : Int → MM → Prop) (av : List Value) (M : MM) : Prop := av = [.ref (ad 0)] ∧ w_X12_compared  Q  M
set_option maxHeartbeats 4000000 in
set_option maxRecDepth 100000 in
theorem c_X12_compared {l : Launch} {D : va_G} {cy : Nat → ClassId} {ad : Nat → Nat} (hin : jIn ad ksR.length) : jCN l D vwCl (tyR cy) cy ad ftR ksR (XtR ad) yX12_compared (.code yX12_compared cX12_compared 1 (some .int) :: Om) ({ frames := 1, cells := 0, slots := 0, locals := 22 } : Room) 1 (W_X12_compared ad) := by
  refine jCN_of (y := yX12_compared) (cc := cX12_compared) (nL := 1) (rk := 1) (rm := ({ frames := 1, cells := 0, slots := 0, locals := 22 } : Room)) (own := RX12) (tyR_ok cy) hin (XtR_ok ad) Om_good (by decide) rfl ?_
  intro Q av M hF
  obtain ⟨rfl, hF⟩ := hF
  refine ⟨Nat.le_of_ble_eq_true rfl, fun J hJ => ?_⟩
  show J 0 [(0, .ref (ad 0))] [] M
  unfold w_X12_compared at hF
  refine j_aload_n hJ dX12_compared_0 rfl 0 rfl ?_
  refine j_ldc2 hJ 61 om_1391 (by decide) dX12_compared_1 ?_
  refine j_callVz hJ (c_X12_isSign (l := l) (D := D) (cy := cy) (ad := ad) hin) rfl om_1359 ⟨rfl, rfl, Nat.le_of_ble_eq_true rfl, Nat.le_of_ble_eq_true rfl⟩ [.long (Ll 61)] mv_X12_657 hd_X12_isSignv kR_0 rfl rfl rfl (Nat.le_of_ble_eq_true rfl) dX12_compared_4 ⟨61, rfl, lk_61, hF⟩ (fun r1 M2 gr1 qM2 => ?_)
  have hF := qM2 gr1
  refine j_if_eq hJ 15 (jz_ri gr1) dX12_compared_7 (by decide) (fun z3 => ?_) (fun z3 => ?_)
  · have hF := hF.1 z3
    refine j_aload_n hJ dX12_compared_15 rfl 0 rfl ?_
    refine j_ldc2 hJ 8509 om_1392 (by decide) dX12_compared_16 ?_
    refine j_callVz hJ (c_X12_isSign (l := l) (D := D) (cy := cy) (ad := ad) hin) rfl om_1359 ⟨rfl, rfl, Nat.le_of_ble_eq_true rfl, Nat.le_of_ble_eq_true rfl⟩ [.long (Ll 8509)] mv_X12_657 hd_X12_isSignv kR_0 rfl rfl rfl (Nat.le_of_ble_eq_true rfl) dX12_compared_19 ⟨8509, rfl, lk_8509, hF⟩ (fun r4 M5 gr4 qM5 => ?_)
    have hF := qM5 gr4
    refine j_if_eq hJ 30 (jz_ri gr4) dX12_compared_22 (by decide) (fun z6 => ?_) (fun z6 => ?_)
    · have hF := hF.1 z6
      refine j_aload_n hJ dX12_compared_30 rfl 0 rfl ?_
      refine j_ldc2 hJ 60 om_1393 (by decide) dX12_compared_31 ?_
      refine j_callVz hJ (c_X12_isSign (l := l) (D := D) (cy := cy) (ad := ad) hin) rfl om_1359 ⟨rfl, rfl, Nat.le_of_ble_eq_true rfl, Nat.le_of_ble_eq_true rfl⟩ [.long (Ll 60)] mv_X12_657 hd_X12_isSignv kR_0 rfl rfl rfl (Nat.le_of_ble_eq_true rfl) dX12_compared_34 ⟨60, rfl, lk_60, hF⟩ (fun r7 M8 gr7 qM8 => ?_)
      have hF := qM8 gr7
      refine j_if_eq hJ 45 (jz_ri gr7) dX12_compared_37 (by decide) (fun z9 => ?_) (fun z9 => ?_)
      · have hF := hF.1 z9
        refine j_aload_n hJ dX12_compared_45 rfl 0 rfl ?_
        refine j_ldc2 hJ 15421 om_1394 (by decide) dX12_compared_46 ?_
        refine j_callVz hJ (c_X12_isSign (l := l) (D := D) (cy := cy) (ad := ad) hin) rfl om_1359 ⟨rfl, rfl, Nat.le_of_ble_eq_true rfl, Nat.le_of_ble_eq_true rfl⟩ [.long (Ll 15421)] mv_X12_657 hd_X12_isSignv kR_0 rfl rfl rfl (Nat.le_of_ble_eq_true rfl) dX12_compared_49 ⟨15421, rfl, lk_15421, hF⟩ (fun r10 M11 gr10 qM11 => ?_)
        have hF := qM11 gr10
        refine j_if_eq hJ 60 (jz_ri gr10) dX12_compared_52 (by decide) (fun z12 => ?_) (fun z12 => ?_)
        · have hF := hF.1 z12
          refine j_aload_n hJ dX12_compared_60 rfl 0 rfl ?_
          refine j_ldc2 hJ 62 om_1395 (by decide) dX12_compared_61 ?_
          refine j_callVz hJ (c_X12_isSign (l := l) (D := D) (cy := cy) (ad := ad) hin) rfl om_1359 ⟨rfl, rfl, Nat.le_of_ble_eq_true rfl, Nat.le_of_ble_eq_true rfl⟩ [.long (Ll 62)] mv_X12_657 hd_X12_isSignv kR_0 rfl rfl rfl (Nat.le_of_ble_eq_true rfl) dX12_compared_64 ⟨62, rfl, lk_62, hF⟩ (fun r13 M14 gr13 qM14 => ?_)
          have hF := qM14 gr13
          refine j_if_eq hJ 75 (jz_ri gr13) dX12_compared_67 (by decide) (fun z15 => ?_) (fun z15 => ?_)
          · have hF := hF.1 z15
            refine j_aload_n hJ dX12_compared_75 rfl 0 rfl ?_
            refine j_ldc2 hJ 15933 om_1396 (by decide) dX12_compared_76 ?_
            refine j_callVz hJ (c_X12_isSign (l := l) (D := D) (cy := cy) (ad := ad) hin) rfl om_1359 ⟨rfl, rfl, Nat.le_of_ble_eq_true rfl, Nat.le_of_ble_eq_true rfl⟩ [.long (Ll 15933)] mv_X12_657 hd_X12_isSignv kR_0 rfl rfl rfl (Nat.le_of_ble_eq_true rfl) dX12_compared_79 ⟨15933, rfl, lk_15933, hF⟩ (fun r16 M17 gr16 qM17 => ?_)
            have hF := qM17 gr16
            refine j_if_eq hJ 90 (jz_ri gr16) dX12_compared_82 (by decide) (fun z18 => ?_) (fun z18 => ?_)
            · have hF := hF.1 z18
              refine j_iconst hJ dX12_compared_90 ?_
              exact j_iret hJ rfl rk_m1 dX12_compared_91 hF
            · have hF := hF.2 z18
              refine j_bipush hJ dX12_compared_85 (by decide) ?_
              refine j_goto hJ 91 dX12_compared_87 (by decide) ?_
              exact j_iret hJ rfl rk_107 dX12_compared_91 hF
          · have hF := hF.2 z15
            refine j_bipush hJ dX12_compared_70 (by decide) ?_
            refine j_goto hJ 91 dX12_compared_72 (by decide) ?_
            exact j_iret hJ rfl rk_106 dX12_compared_91 hF
        · have hF := hF.2 z12
          refine j_bipush hJ dX12_compared_55 (by decide) ?_
          refine j_goto hJ 91 dX12_compared_57 (by decide) ?_
          exact j_iret hJ rfl rk_105 dX12_compared_91 hF
      · have hF := hF.2 z9
        refine j_bipush hJ dX12_compared_40 (by decide) ?_
        refine j_goto hJ 91 dX12_compared_42 (by decide) ?_
        exact j_iret hJ rfl rk_104 dX12_compared_91 hF
    · have hF := hF.2 z6
      refine j_bipush hJ dX12_compared_25 (by decide) ?_
      refine j_goto hJ 91 dX12_compared_27 (by decide) ?_
      exact j_iret hJ rfl rk_103 dX12_compared_91 hF
  · have hF := hF.2 z3
    refine j_bipush hJ dX12_compared_10 (by decide) ?_
    refine j_goto hJ 91 dX12_compared_12 (by decide) ?_
    exact j_iret hJ rfl rk_102 dX12_compared_91 hF
def W_X12_keyAtHand (ad : Nat → Nat) (Q : Int → MM → Prop) (av : List Value) (M : MM) : Prop := av = [.ref (ad 0)] ∧ w_X12_keyAtHand  Q  M
set_option maxHeartbeats 4000000 in
set_option maxRecDepth 100000 in
theorem c_X12_keyAtHand {l : Launch} {D : va_G} {cy : Nat → ClassId} {ad : Nat → Nat} (hin : jIn ad ksR.length) : jCN l D vwCl (tyR cy) cy ad ftR ksR (XtR ad) yX12_keyAtHand (.code yX12_keyAtHand cX12_keyAtHand 1 (some .int) :: Om) ({ frames := 1, cells := 0, slots := 0, locals := 24 } : Room) 1 (W_X12_keyAtHand ad) := by
  refine jCN_of (y := yX12_keyAtHand) (cc := cX12_keyAtHand) (nL := 1) (rk := 1) (rm := ({ frames := 1, cells := 0, slots := 0, locals := 24 } : Room)) (own := RX12) (tyR_ok cy) hin (XtR_ok ad) Om_good (by decide) rfl ?_
  intro Q av M hF
  obtain ⟨rfl, hF⟩ := hF
  refine ⟨Nat.le_of_ble_eq_true rfl, fun J hJ => ?_⟩
  show J 0 [(0, .ref (ad 0))] [] M
  unfold w_X12_keyAtHand at hF
  refine j_aload_n hJ dX12_keyAtHand_0 rfl 0 rfl ?_
  refine j_gi hJ kR_0 fR_15_80 rfl fl_X12_644 dX12_keyAtHand_1 (fun v1 ev1 gv1 => ?_)
  have hF := hF v1 ev1 gv1
  refine j_iconst hJ dX12_keyAtHand_4 ?_
  refine j_icmp_ne hJ 19 gv1 rk_1 dX12_keyAtHand_5 (by decide) (fun z2 => ?_) (fun z2 => ?_)
  · have hF := hF.1 z2
    refine j_iconst hJ dX12_keyAtHand_19 ?_
    exact j_iret hJ rfl rk_m1 dX12_keyAtHand_20 hF
  · have hF := hF.2 z2
    refine j_aload_n hJ dX12_keyAtHand_8 rfl 0 rfl ?_
    refine j_aload_n hJ dX12_keyAtHand_9 rfl 0 rfl ?_
    refine j_gl hJ kR_0 fR_15_85 rfl fl_X12_640 dX12_keyAtHand_10 (fun v3 ev3 gv3 => ?_)
    have hF := hF v3 ev3 gv3
    refine j_callVi hJ (c_X12_keyOf (l := l) (D := D) (cy := cy) (ad := ad) hin) rfl om_1046 ⟨rfl, rfl, Nat.le_of_ble_eq_true rfl, Nat.le_of_ble_eq_true rfl⟩ [.long (Ll v3)] mv_X12_409 hd_X12_keyOfv kR_0 rfl rfl rfl (Nat.le_of_ble_eq_true rfl) dX12_keyAtHand_13 ⟨v3, rfl, gv3, hF⟩ (fun r4 M5 gr4 qM5 => ?_)
    have hF := qM5 gr4
    refine j_goto hJ 20 dX12_keyAtHand_16 (by decide) ?_
    exact j_iret hJ rfl gr4 dX12_keyAtHand_20 hF
def rm_gr_ (dp : Nat) : Room := { frames := 4 + dp, cells := 0, slots := 0, locals := 86 + 24 * dp }
def W_X12_readE (dp : Nat) (ad : Nat → Nat) (Q : Int → MM → Prop) (av : List Value) (M : MM) : Prop := av = [.ref (ad 0)] ∧ gr_  dp 0 Q [] M
def W_X12_readAnd (dp : Nat) (ad : Nat → Nat) (Q : Int → MM → Prop) (av : List Value) (M : MM) : Prop := av = [.ref (ad 0)] ∧ gr_  dp 1 Q [] M
def W_X12_readNot (dp : Nat) (ad : Nat → Nat) (Q : Int → MM → Prop) (av : List Value) (M : MM) : Prop := av = [.ref (ad 0)] ∧ gr_  dp 2 Q [] M
def W_X12_readCompared (dp : Nat) (ad : Nat → Nat) (Q : Int → MM → Prop) (av : List Value) (M : MM) : Prop := av = [.ref (ad 0)] ∧ gr_  dp 3 Q [] M
def W_X12_readSum (dp : Nat) (ad : Nat → Nat) (Q : Int → MM → Prop) (av : List Value) (M : MM) : Prop := av = [.ref (ad 0)] ∧ gr_  dp 4 Q [] M
def W_X12_readProduct (dp : Nat) (ad : Nat → Nat) (Q : Int → MM → Prop) (av : List Value) (M : MM) : Prop := av = [.ref (ad 0)] ∧ gr_  dp 5 Q [] M
def W_X12_readTurned (dp : Nat) (ad : Nat → Nat) (Q : Int → MM → Prop) (av : List Value) (M : MM) : Prop := av = [.ref (ad 0)] ∧ gr_  dp 6 Q [] M
def W_X12_readP (dp : Nat) (ad : Nat → Nat) (Q : Int → MM → Prop) (av : List Value) (M : MM) : Prop := av = [.ref (ad 0)] ∧ gr_  dp 7 Q [] M
def W_X12_readAtom (dp : Nat) (ad : Nat → Nat) (Q : Int → MM → Prop) (av : List Value) (M : MM) : Prop := av = [.ref (ad 0)] ∧ gr_  dp 8 Q [] M
def W_X12_readFold (dp : Nat) (ad : Nat → Nat) (Q : Int → MM → Prop) (av : List Value) (M : MM) : Prop := ∃ (p1 : Int), av = [.ref (ad 0), .int (Ii p1)] ∧ ri_ p1 ∧ gr_  dp 9 Q [p1] M
def W_X12_readSet (dp : Nat) (ad : Nat → Nat) (Q : Int → MM → Prop) (av : List Value) (M : MM) : Prop := av = [.ref (ad 0)] ∧ gr_  dp 10 Q [] M
set_option maxHeartbeats 4000000 in
set_option maxRecDepth 100000 in
theorem k_X12_readE_b5 {l : Launch} {D : va_G} {cy : Nat → ClassId} {ad : Nat → Nat} {dp : Nat} {Q : Int → MM → Prop} {J : Nat → List (Nat × Value) → List Value → MM → Prop} (hin : jIn ad ksR.length)   (hg0 : jCN l D vwCl (tyR cy) cy ad ftR ksR (XtR ad) yX12_readE (.code yX12_readE cX12_readE 3 (some .int) :: Om) (rm_gr_ dp) 1 (W_X12_readE dp ad)) (hg1 : jCN l D vwCl (tyR cy) cy ad ftR ksR (XtR ad) yX12_readAnd (.code yX12_readAnd cX12_readAnd 3 (some .int) :: Om) (rm_gr_ dp) 1 (W_X12_readAnd dp ad)) (hg2 : jCN l D vwCl (tyR cy) cy ad ftR ksR (XtR ad) yX12_readNot (.code yX12_readNot cX12_readNot 2 (some .int) :: Om) (rm_gr_ dp) 1 (W_X12_readNot dp ad)) (hg3 : jCN l D vwCl (tyR cy) cy ad ftR ksR (XtR ad) yX12_readCompared (.code yX12_readCompared cX12_readCompared 4 (some .int) :: Om) (rm_gr_ dp) 1 (W_X12_readCompared dp ad)) (hg4 : jCN l D vwCl (tyR cy) cy ad ftR ksR (XtR ad) yX12_readSum (.code yX12_readSum cX12_readSum 3 (some .int) :: Om) (rm_gr_ dp) 1 (W_X12_readSum dp ad)) (hg5 : jCN l D vwCl (tyR cy) cy ad ftR ksR (XtR ad) yX12_readProduct (.code yX12_readProduct cX12_readProduct 3 (some .int) :: Om) (rm_gr_ dp) 1 (W_X12_readProduct dp ad)) (hg6 : jCN l D vwCl (tyR cy) cy ad ftR ksR (XtR ad) yX12_readTurned (.code yX12_readTurned cX12_readTurned 2 (some .int) :: Om) (rm_gr_ dp) 1 (W_X12_readTurned dp ad)) (hg7 : jCN l D vwCl (tyR cy) cy ad ftR ksR (XtR ad) yX12_readP (.code yX12_readP cX12_readP 4 (some .int) :: Om) (rm_gr_ dp) 1 (W_X12_readP dp ad)) (hg8 : jCN l D vwCl (tyR cy) cy ad ftR ksR (XtR ad) yX12_readAtom (.code yX12_readAtom cX12_readAtom 5 (some .int) :: Om) (rm_gr_ dp) 1 (W_X12_readAtom dp ad)) (hg9 : jCN l D vwCl (tyR cy) cy ad ftR ksR (XtR ad) yX12_readFold (.code yX12_readFold cX12_readFold 5 (some .int) :: Om) (rm_gr_ dp) 1 (W_X12_readFold dp ad)) (hg10 : jCN l D vwCl (tyR cy) cy ad ftR ksR (XtR ad) yX12_readSet (.code yX12_readSet cX12_readSet 4 (some .int) :: Om) (rm_gr_ dp) 1 (W_X12_readSet dp ad)) (hJ : jOk l D vwCl (tyR cy) cy ad ftR ksR (XtR ad) Om RX12 cX12_readE 3 1 (rm_gr_ (dp + 1)) Q J)  : ∀ (x1 : Int) (M : MM), ri_ x1 → w_X12_readE_b5  (gr_  dp) Q  x1 M → J 5 [(0, .ref (ad 0)), (1, .int (Ii x1))] [] M := by
  have H9 : ∀ (n : Nat) (x1 : Int) (M : MM), ri_ x1 → jit (fun _ _ => False) (wb_X12_readE_b5  (gr_  dp) Q ) n x1 M → J 5 [(0, .ref (ad 0)), (1, .int (Ii x1))] [] M := by
    intro n
    induction n with
    | zero => intro x1 M gx1 hF; exact False.elim hF
    | succ n ih =>
    intro x1 M gx1 hF
    have hF : wb_X12_readE_b5  (gr_  dp) Q  (jit (fun _ _ => False) (wb_X12_readE_b5  (gr_  dp) Q ) n) x1 M := hF
    unfold wb_X12_readE_b5 at hF
    refine j_aload_n hJ dX12_readE_5 rfl 0 rfl ?_
    refine j_gi hJ kR_0 fR_15_83 rfl fl_X12_625 dX12_readE_6 (fun v1 ev1 gv1 => ?_)
    have hF := hF v1 ev1 gv1
    refine j_if_ne hJ 54 gv1 dX12_readE_9 (by decide) (fun z2 => ?_) (fun z2 => ?_)
    · have hF := hF.1 z2
      refine j_iload_n hJ dX12_readE_54 rfl 1 rfl ?_
      exact j_iret hJ rfl gx1 dX12_readE_55 hF
    · have hF := hF.2 z2
      refine j_aload_n hJ dX12_readE_12 rfl 0 rfl ?_
      refine j_bipush hJ dX12_readE_13 (by decide) ?_
      refine j_callVz hJ (c_X12_isKey (l := l) (D := D) (cy := cy) (ad := ad) hin) rfl om_1367 ⟨rfl, rfl, by show _ ≤ _; simp only [rm_gr_]; omega, by show _ ≤ _; simp only [rm_gr_]; omega⟩ [.int (Ii 6)] mv_X12_667 hd_X12_isKeyv kR_0 rfl rfl rfl (Nat.le_of_ble_eq_true rfl) dX12_readE_15 ⟨6, rfl, rk_6, hF⟩ (fun r3 M4 gr3 qM4 => ?_)
      have hF := qM4 gr3
      refine j_if_eq hJ 54 (jz_ri gr3) dX12_readE_18 (by decide) (fun z5 => ?_) (fun z5 => ?_)
      · have hF := hF.1 z5
        refine j_iload_n hJ dX12_readE_54 rfl 1 rfl ?_
        exact j_iret hJ rfl gx1 dX12_readE_55 hF
      · have hF := hF.2 z5
        refine j_aload_n hJ dX12_readE_21 rfl 0 rfl ?_
        refine j_bipush hJ dX12_readE_22 (by decide) ?_
        refine j_callVi hJ (c_X12_node (l := l) (D := D) (cy := cy) (ad := ad) hin) rfl om_1375 ⟨rfl, rfl, by show _ ≤ _; simp only [rm_gr_]; omega, by show _ ≤ _; simp only [rm_gr_]; omega⟩ [.int (Ii 6)] mv_X12_683 hd_X12_nodev kR_0 rfl rfl rfl (Nat.le_of_ble_eq_true rfl) dX12_readE_24 ⟨6, rfl, rk_6, hF⟩ (fun r6 M7 gr6 qM7 => ?_)
        have hF := qM7 gr6
        refine j_istore_n (lv' := [(2, .int (Ii r6)), (0, .ref (ad 0)), (1, .int (Ii x1))]) hJ dX12_readE_27 rfl (by decide) rfl ?_
        refine j_aload_n hJ dX12_readE_28 rfl 1 rfl ?_
        refine j_callVv hJ (c_X12_advance (l := l) (D := D) (cy := cy) (ad := ad) hin) rfl om_1355 ⟨rfl, rfl, by show _ ≤ _; simp only [rm_gr_]; omega, by show _ ≤ _; simp only [rm_gr_]; omega⟩ [] mv_X12_661 hd_X12_advancev kR_0 rfl rfl rfl (Nat.le_of_ble_eq_true rfl) dX12_readE_29 ⟨rfl, hF⟩ (fun M9 qM9 => ?_)
        have hF := qM9
        refine j_aload_n hJ dX12_readE_32 rfl 1 rfl ?_
        refine j_gr (e := 67) hJ kR_0 fR_15_87 fl_X12_275 dX12_readE_33 rfl ?_
        refine j_iload_n hJ dX12_readE_36 rfl 0 rfl ?_
        refine j_iload_n hJ dX12_readE_37 rfl 2 rfl ?_
        refine j_iast hJ gr6 gx1 kR_67 hF.1 hF.2.1 dX12_readE_38 (fun M10 eM10 => ?_)
        have hF := hF.2.2 M10 eM10
        refine j_aload_n hJ dX12_readE_39 rfl 1 rfl ?_
        refine j_gr (e := 68) hJ kR_0 fR_15_88 fl_X12_278 dX12_readE_40 rfl ?_
        refine j_iload_n hJ dX12_readE_43 rfl 0 rfl ?_
        refine j_aload_n hJ dX12_readE_44 rfl 1 rfl ?_
        refine j_callVi hJ hg1 rfl om_1371 ⟨rfl, rfl, by show _ ≤ _; simp only [rm_gr_]; omega, by show _ ≤ _; simp only [rm_gr_]; omega⟩ [] mv_X12_679 hd_X12_readAndv kR_0 rfl rfl rfl (Nat.le_of_ble_eq_true rfl) dX12_readE_45 ⟨rfl, hF⟩ (fun r11 M12 gr11 qM12 => ?_)
        have hF := qM12 gr11
        refine j_iast hJ gr6 gr11 kR_68 hF.1 hF.2.1 dX12_readE_48 (fun M13 eM13 => ?_)
        have hF := hF.2.2 M13 eM13
        refine j_iload_n hJ dX12_readE_49 rfl 0 rfl ?_
        refine j_istore_n (lv' := [(1, .int (Ii r6)), (2, .int (Ii r6)), (0, .ref (ad 0))]) hJ dX12_readE_50 rfl (by decide) rfl ?_
        refine j_goto hJ 5 dX12_readE_51 (by decide) ?_
        exact j_sub hJ [2, 0] rfl (ih r6 _ gr6 hF)
  intro x1 M gx1 hF
  obtain ⟨n, hF⟩ := hF
  exact H9 n x1 M gx1 hF
set_option maxHeartbeats 4000000 in
set_option maxRecDepth 100000 in
theorem s_X12_readE {l : Launch} {D : va_G} {cy : Nat → ClassId} {ad : Nat → Nat} {dp : Nat} (hin : jIn ad ksR.length) (hg0 : jCN l D vwCl (tyR cy) cy ad ftR ksR (XtR ad) yX12_readE (.code yX12_readE cX12_readE 3 (some .int) :: Om) (rm_gr_ dp) 1 (W_X12_readE dp ad)) (hg1 : jCN l D vwCl (tyR cy) cy ad ftR ksR (XtR ad) yX12_readAnd (.code yX12_readAnd cX12_readAnd 3 (some .int) :: Om) (rm_gr_ dp) 1 (W_X12_readAnd dp ad)) (hg2 : jCN l D vwCl (tyR cy) cy ad ftR ksR (XtR ad) yX12_readNot (.code yX12_readNot cX12_readNot 2 (some .int) :: Om) (rm_gr_ dp) 1 (W_X12_readNot dp ad)) (hg3 : jCN l D vwCl (tyR cy) cy ad ftR ksR (XtR ad) yX12_readCompared (.code yX12_readCompared cX12_readCompared 4 (some .int) :: Om) (rm_gr_ dp) 1 (W_X12_readCompared dp ad)) (hg4 : jCN l D vwCl (tyR cy) cy ad ftR ksR (XtR ad) yX12_readSum (.code yX12_readSum cX12_readSum 3 (some .int) :: Om) (rm_gr_ dp) 1 (W_X12_readSum dp ad)) (hg5 : jCN l D vwCl (tyR cy) cy ad ftR ksR (XtR ad) yX12_readProduct (.code yX12_readProduct cX12_readProduct 3 (some .int) :: Om) (rm_gr_ dp) 1 (W_X12_readProduct dp ad)) (hg6 : jCN l D vwCl (tyR cy) cy ad ftR ksR (XtR ad) yX12_readTurned (.code yX12_readTurned cX12_readTurned 2 (some .int) :: Om) (rm_gr_ dp) 1 (W_X12_readTurned dp ad)) (hg7 : jCN l D vwCl (tyR cy) cy ad ftR ksR (XtR ad) yX12_readP (.code yX12_readP cX12_readP 4 (some .int) :: Om) (rm_gr_ dp) 1 (W_X12_readP dp ad)) (hg8 : jCN l D vwCl (tyR cy) cy ad ftR ksR (XtR ad) yX12_readAtom (.code yX12_readAtom cX12_readAtom 5 (some .int) :: Om) (rm_gr_ dp) 1 (W_X12_readAtom dp ad)) (hg9 : jCN l D vwCl (tyR cy) cy ad ftR ksR (XtR ad) yX12_readFold (.code yX12_readFold cX12_readFold 5 (some .int) :: Om) (rm_gr_ dp) 1 (W_X12_readFold dp ad)) (hg10 : jCN l D vwCl (tyR cy) cy ad ftR ksR (XtR ad) yX12_readSet (.code yX12_readSet cX12_readSet 4 (some .int) :: Om) (rm_gr_ dp) 1 (W_X12_readSet dp ad)) : jCN l D vwCl (tyR cy) cy ad ftR ksR (XtR ad) yX12_readE (.code yX12_readE cX12_readE 3 (some .int) :: Om) (rm_gr_ (dp + 1)) 1 (W_X12_readE (dp + 1) ad) := by
  refine jCN_of (y := yX12_readE) (cc := cX12_readE) (nL := 3) (rk := 1) (rm := (rm_gr_ (dp + 1))) (own := RX12) (tyR_ok cy) hin (XtR_ok ad) Om_good (by decide) rfl ?_
  intro Q av M hF
  obtain ⟨rfl, hF⟩ := hF
  refine ⟨Nat.le_of_ble_eq_true rfl, fun J hJ => ?_⟩
  show J 0 [(0, .ref (ad 0))] [] M
  have hF : b_X12_readE  (gr_  dp) Q  M := hF
  unfold b_X12_readE at hF
  refine j_aload_n hJ dX12_readE_0 rfl 0 rfl ?_
  refine j_callVi hJ hg1 rfl om_1371 ⟨rfl, rfl, by show _ ≤ _; simp only [rm_gr_]; omega, by show _ ≤ _; simp only [rm_gr_]; omega⟩ [] mv_X12_679 hd_X12_readAndv kR_0 rfl rfl rfl (Nat.le_of_ble_eq_true rfl) dX12_readE_1 ⟨rfl, hF⟩ (fun r1 M2 gr1 qM2 => ?_)
  have hF := qM2 gr1
  refine j_istore_n (lv' := [(1, .int (Ii r1)), (0, .ref (ad 0))]) hJ dX12_readE_4 rfl (by decide) rfl ?_
  exact j_sub hJ [1, 0] rfl (k_X12_readE_b5 hin  hg0 hg1 hg2 hg3 hg4 hg5 hg6 hg7 hg8 hg9 hg10 hJ  r1 _ gr1 hF)
set_option maxHeartbeats 4000000 in
set_option maxRecDepth 100000 in
theorem k_X12_readAnd_b5 {l : Launch} {D : va_G} {cy : Nat → ClassId} {ad : Nat → Nat} {dp : Nat} {Q : Int → MM → Prop} {J : Nat → List (Nat × Value) → List Value → MM → Prop} (hin : jIn ad ksR.length)   (hg0 : jCN l D vwCl (tyR cy) cy ad ftR ksR (XtR ad) yX12_readE (.code yX12_readE cX12_readE 3 (some .int) :: Om) (rm_gr_ dp) 1 (W_X12_readE dp ad)) (hg1 : jCN l D vwCl (tyR cy) cy ad ftR ksR (XtR ad) yX12_readAnd (.code yX12_readAnd cX12_readAnd 3 (some .int) :: Om) (rm_gr_ dp) 1 (W_X12_readAnd dp ad)) (hg2 : jCN l D vwCl (tyR cy) cy ad ftR ksR (XtR ad) yX12_readNot (.code yX12_readNot cX12_readNot 2 (some .int) :: Om) (rm_gr_ dp) 1 (W_X12_readNot dp ad)) (hg3 : jCN l D vwCl (tyR cy) cy ad ftR ksR (XtR ad) yX12_readCompared (.code yX12_readCompared cX12_readCompared 4 (some .int) :: Om) (rm_gr_ dp) 1 (W_X12_readCompared dp ad)) (hg4 : jCN l D vwCl (tyR cy) cy ad ftR ksR (XtR ad) yX12_readSum (.code yX12_readSum cX12_readSum 3 (some .int) :: Om) (rm_gr_ dp) 1 (W_X12_readSum dp ad)) (hg5 : jCN l D vwCl (tyR cy) cy ad ftR ksR (XtR ad) yX12_readProduct (.code yX12_readProduct cX12_readProduct 3 (some .int) :: Om) (rm_gr_ dp) 1 (W_X12_readProduct dp ad)) (hg6 : jCN l D vwCl (tyR cy) cy ad ftR ksR (XtR ad) yX12_readTurned (.code yX12_readTurned cX12_readTurned 2 (some .int) :: Om) (rm_gr_ dp) 1 (W_X12_readTurned dp ad)) (hg7 : jCN l D vwCl (tyR cy) cy ad ftR ksR (XtR ad) yX12_readP (.code yX12_readP cX12_readP 4 (some .int) :: Om) (rm_gr_ dp) 1 (W_X12_readP dp ad)) (hg8 : jCN l D vwCl (tyR cy) cy ad ftR ksR (XtR ad) yX12_readAtom (.code yX12_readAtom cX12_readAtom 5 (some .int) :: Om) (rm_gr_ dp) 1 (W_X12_readAtom dp ad)) (hg9 : jCN l D vwCl (tyR cy) cy ad ftR ksR (XtR ad) yX12_readFold (.code yX12_readFold cX12_readFold 5 (some .int) :: Om) (rm_gr_ dp) 1 (W_X12_readFold dp ad)) (hg10 : jCN l D vwCl (tyR cy) cy ad ftR ksR (XtR ad) yX12_readSet (.code yX12_readSet cX12_readSet 4 (some .int) :: Om) (rm_gr_ dp) 1 (W_X12_readSet dp ad)) (hJ : jOk l D vwCl (tyR cy) cy ad ftR ksR (XtR ad) Om RX12 cX12_readAnd 3 1 (rm_gr_ (dp + 1)) Q J)  : ∀ (x1 : Int) (M : MM), ri_ x1 → w_X12_readAnd_b5  (gr_  dp) Q  x1 M → J 5 [(0, .ref (ad 0)), (1, .int (Ii x1))] [] M := by
  have H9 : ∀ (n : Nat) (x1 : Int) (M : MM), ri_ x1 → jit (fun _ _ => False) (wb_X12_readAnd_b5  (gr_  dp) Q ) n x1 M → J 5 [(0, .ref (ad 0)), (1, .int (Ii x1))] [] M := by
    intro n
    induction n with
    | zero => intro x1 M gx1 hF; exact False.elim hF
    | succ n ih =>
    intro x1 M gx1 hF
    have hF : wb_X12_readAnd_b5  (gr_  dp) Q  (jit (fun _ _ => False) (wb_X12_readAnd_b5  (gr_  dp) Q ) n) x1 M := hF
    unfold wb_X12_readAnd_b5 at hF
    refine j_aload_n hJ dX12_readAnd_5 rfl 0 rfl ?_
    refine j_gi hJ kR_0 fR_15_83 rfl fl_X12_625 dX12_readAnd_6 (fun v1 ev1 gv1 => ?_)
    have hF := hF v1 ev1 gv1
    refine j_if_ne hJ 52 gv1 dX12_readAnd_9 (by decide) (fun z2 => ?_) (fun z2 => ?_)
    · have hF := hF.1 z2
      refine j_iload_n hJ dX12_readAnd_52 rfl 1 rfl ?_
      exact j_iret hJ rfl gx1 dX12_readAnd_53 hF
    · have hF := hF.2 z2
      refine j_aload_n hJ dX12_readAnd_12 rfl 0 rfl ?_
      refine j_iconst hJ dX12_readAnd_13 ?_
      refine j_callVz hJ (c_X12_isKey (l := l) (D := D) (cy := cy) (ad := ad) hin) rfl om_1367 ⟨rfl, rfl, by show _ ≤ _; simp only [rm_gr_]; omega, by show _ ≤ _; simp only [rm_gr_]; omega⟩ [.int (Ii 5)] mv_X12_667 hd_X12_isKeyv kR_0 rfl rfl rfl (Nat.le_of_ble_eq_true rfl) dX12_readAnd_14 ⟨5, rfl, rk_5, hF⟩ (fun r3 M4 gr3 qM4 => ?_)
      have hF := qM4 gr3
      refine j_if_eq hJ 52 (jz_ri gr3) dX12_readAnd_17 (by decide) (fun z5 => ?_) (fun z5 => ?_)
      · have hF := hF.1 z5
        refine j_iload_n hJ dX12_readAnd_52 rfl 1 rfl ?_
        exact j_iret hJ rfl gx1 dX12_readAnd_53 hF
      · have hF := hF.2 z5
        refine j_aload_n hJ dX12_readAnd_20 rfl 0 rfl ?_
        refine j_iconst hJ dX12_readAnd_21 ?_
        refine j_callVi hJ (c_X12_node (l := l) (D := D) (cy := cy) (ad := ad) hin) rfl om_1375 ⟨rfl, rfl, by show _ ≤ _; simp only [rm_gr_]; omega, by show _ ≤ _; simp only [rm_gr_]; omega⟩ [.int (Ii 5)] mv_X12_683 hd_X12_nodev kR_0 rfl rfl rfl (Nat.le_of_ble_eq_true rfl) dX12_readAnd_22 ⟨5, rfl, rk_5, hF⟩ (fun r6 M7 gr6 qM7 => ?_)
        have hF := qM7 gr6
        refine j_istore_n (lv' := [(2, .int (Ii r6)), (0, .ref (ad 0)), (1, .int (Ii x1))]) hJ dX12_readAnd_25 rfl (by decide) rfl ?_
        refine j_aload_n hJ dX12_readAnd_26 rfl 1 rfl ?_
        refine j_callVv hJ (c_X12_advance (l := l) (D := D) (cy := cy) (ad := ad) hin) rfl om_1355 ⟨rfl, rfl, by show _ ≤ _; simp only [rm_gr_]; omega, by show _ ≤ _; simp only [rm_gr_]; omega⟩ [] mv_X12_661 hd_X12_advancev kR_0 rfl rfl rfl (Nat.le_of_ble_eq_true rfl) dX12_readAnd_27 ⟨rfl, hF⟩ (fun M9 qM9 => ?_)
        have hF := qM9
        refine j_aload_n hJ dX12_readAnd_30 rfl 1 rfl ?_
        refine j_gr (e := 67) hJ kR_0 fR_15_87 fl_X12_275 dX12_readAnd_31 rfl ?_
        refine j_iload_n hJ dX12_readAnd_34 rfl 0 rfl ?_
        refine j_iload_n hJ dX12_readAnd_35 rfl 2 rfl ?_
        refine j_iast hJ gr6 gx1 kR_67 hF.1 hF.2.1 dX12_readAnd_36 (fun M10 eM10 => ?_)
        have hF := hF.2.2 M10 eM10
        refine j_aload_n hJ dX12_readAnd_37 rfl 1 rfl ?_
        refine j_gr (e := 68) hJ kR_0 fR_15_88 fl_X12_278 dX12_readAnd_38 rfl ?_
        refine j_iload_n hJ dX12_readAnd_41 rfl 0 rfl ?_
        refine j_aload_n hJ dX12_readAnd_42 rfl 1 rfl ?_
        refine j_callVi hJ hg2 rfl om_1379 ⟨rfl, rfl, by show _ ≤ _; simp only [rm_gr_]; omega, by show _ ≤ _; simp only [rm_gr_]; omega⟩ [] mv_X12_686 hd_X12_readNotv kR_0 rfl rfl rfl (Nat.le_of_ble_eq_true rfl) dX12_readAnd_43 ⟨rfl, hF⟩ (fun r11 M12 gr11 qM12 => ?_)
        have hF := qM12 gr11
        refine j_iast hJ gr6 gr11 kR_68 hF.1 hF.2.1 dX12_readAnd_46 (fun M13 eM13 => ?_)
        have hF := hF.2.2 M13 eM13
        refine j_iload_n hJ dX12_readAnd_47 rfl 0 rfl ?_
        refine j_istore_n (lv' := [(1, .int (Ii r6)), (2, .int (Ii r6)), (0, .ref (ad 0))]) hJ dX12_readAnd_48 rfl (by decide) rfl ?_
        refine j_goto hJ 5 dX12_readAnd_49 (by decide) ?_
        exact j_sub hJ [2, 0] rfl (ih r6 _ gr6 hF)
  intro x1 M gx1 hF
  obtain ⟨n, hF⟩ := hF
  exact H9 n x1 M gx1 hF
set_option maxHeartbeats 4000000 in
set_option maxRecDepth 100000 in
theorem s_X12_readAnd {l : Launch} {D : va_G} {cy : Nat → ClassId} {ad : Nat → Nat} {dp : Nat} (hin : jIn ad ksR.length) (hg0 : jCN l D vwCl (tyR cy) cy ad ftR ksR (XtR ad) yX12_readE (.code yX12_readE cX12_readE 3 (some .int) :: Om) (rm_gr_ dp) 1 (W_X12_readE dp ad)) (hg1 : jCN l D vwCl (tyR cy) cy ad ftR ksR (XtR ad) yX12_readAnd (.code yX12_readAnd cX12_readAnd 3 (some .int) :: Om) (rm_gr_ dp) 1 (W_X12_readAnd dp ad)) (hg2 : jCN l D vwCl (tyR cy) cy ad ftR ksR (XtR ad) yX12_readNot (.code yX12_readNot cX12_readNot 2 (some .int) :: Om) (rm_gr_ dp) 1 (W_X12_readNot dp ad)) (hg3 : jCN l D vwCl (tyR cy) cy ad ftR ksR (XtR ad) yX12_readCompared (.code yX12_readCompared cX12_readCompared 4 (some .int) :: Om) (rm_gr_ dp) 1 (W_X12_readCompared dp ad)) (hg4 : jCN l D vwCl (tyR cy) cy ad ftR ksR (XtR ad) yX12_readSum (.code yX12_readSum cX12_readSum 3 (some .int) :: Om) (rm_gr_ dp) 1 (W_X12_readSum dp ad)) (hg5 : jCN l D vwCl (tyR cy) cy ad ftR ksR (XtR ad) yX12_readProduct (.code yX12_readProduct cX12_readProduct 3 (some .int) :: Om) (rm_gr_ dp) 1 (W_X12_readProduct dp ad)) (hg6 : jCN l D vwCl (tyR cy) cy ad ftR ksR (XtR ad) yX12_readTurned (.code yX12_readTurned cX12_readTurned 2 (some .int) :: Om) (rm_gr_ dp) 1 (W_X12_readTurned dp ad)) (hg7 : jCN l D vwCl (tyR cy) cy ad ftR ksR (XtR ad) yX12_readP (.code yX12_readP cX12_readP 4 (some .int) :: Om) (rm_gr_ dp) 1 (W_X12_readP dp ad)) (hg8 : jCN l D vwCl (tyR cy) cy ad ftR ksR (XtR ad) yX12_readAtom (.code yX12_readAtom cX12_readAtom 5 (some .int) :: Om) (rm_gr_ dp) 1 (W_X12_readAtom dp ad)) (hg9 : jCN l D vwCl (tyR cy) cy ad ftR ksR (XtR ad) yX12_readFold (.code yX12_readFold cX12_readFold 5 (some .int) :: Om) (rm_gr_ dp) 1 (W_X12_readFold dp ad)) (hg10 : jCN l D vwCl (tyR cy) cy ad ftR ksR (XtR ad) yX12_readSet (.code yX12_readSet cX12_readSet 4 (some .int) :: Om) (rm_gr_ dp) 1 (W_X12_readSet dp ad)) : jCN l D vwCl (tyR cy) cy ad ftR ksR (XtR ad) yX12_readAnd (.code yX12_readAnd cX12_readAnd 3 (some .int) :: Om) (rm_gr_ (dp + 1)) 1 (W_X12_readAnd (dp + 1) ad) := by
  refine jCN_of (y := yX12_readAnd) (cc := cX12_readAnd) (nL := 3) (rk := 1) (rm := (rm_gr_ (dp + 1))) (own := RX12) (tyR_ok cy) hin (XtR_ok ad) Om_good (by decide) rfl ?_
  intro Q av M hF
  obtain ⟨rfl, hF⟩ := hF
  refine ⟨Nat.le_of_ble_eq_true rfl, fun J hJ => ?_⟩
  show J 0 [(0, .ref (ad 0))] [] M
  have hF : b_X12_readAnd  (gr_  dp) Q  M := hF
  unfold b_X12_readAnd at hF
  refine j_aload_n hJ dX12_readAnd_0 rfl 0 rfl ?_
  refine j_callVi hJ hg2 rfl om_1379 ⟨rfl, rfl, by show _ ≤ _; simp only [rm_gr_]; omega, by show _ ≤ _; simp only [rm_gr_]; omega⟩ [] mv_X12_686 hd_X12_readNotv kR_0 rfl rfl rfl (Nat.le_of_ble_eq_true rfl) dX12_readAnd_1 ⟨rfl, hF⟩ (fun r1 M2 gr1 qM2 => ?_)
  have hF := qM2 gr1
  refine j_istore_n (lv' := [(1, .int (Ii r1)), (0, .ref (ad 0))]) hJ dX12_readAnd_4 rfl (by decide) rfl ?_
  exact j_sub hJ [1, 0] rfl (k_X12_readAnd_b5 hin  hg0 hg1 hg2 hg3 hg4 hg5 hg6 hg7 hg8 hg9 hg10 hJ  r1 _ gr1 hF)
set_option maxHeartbeats 4000000 in
set_option maxRecDepth 100000 in
theorem k_X12_readNot_b16 {l : Launch} {D : va_G} {cy : Nat → ClassId} {ad : Nat → Nat} {dp : Nat} {Q : Int → MM → Prop} {J : Nat → List (Nat × Value) → List Value → MM → Prop} (hin : jIn ad ksR.length)   (hg0 : jCN l D vwCl (tyR cy) cy ad ftR ksR (XtR ad) yX12_readE (.code yX12_readE cX12_readE 3 (some .int) :: Om) (rm_gr_ dp) 1 (W_X12_readE dp ad)) (hg1 : jCN l D vwCl (tyR cy) cy ad ftR ksR (XtR ad) yX12_readAnd (.code yX12_readAnd cX12_readAnd 3 (some .int) :: Om) (rm_gr_ dp) 1 (W_X12_readAnd dp ad)) (hg2 : jCN l D vwCl (tyR cy) cy ad ftR ksR (XtR ad) yX12_readNot (.code yX12_readNot cX12_readNot 2 (some .int) :: Om) (rm_gr_ dp) 1 (W_X12_readNot dp ad)) (hg3 : jCN l D vwCl (tyR cy) cy ad ftR ksR (XtR ad) yX12_readCompared (.code yX12_readCompared cX12_readCompared 4 (some .int) :: Om) (rm_gr_ dp) 1 (W_X12_readCompared dp ad)) (hg4 : jCN l D vwCl (tyR cy) cy ad ftR ksR (XtR ad) yX12_readSum (.code yX12_readSum cX12_readSum 3 (some .int) :: Om) (rm_gr_ dp) 1 (W_X12_readSum dp ad)) (hg5 : jCN l D vwCl (tyR cy) cy ad ftR ksR (XtR ad) yX12_readProduct (.code yX12_readProduct cX12_readProduct 3 (some .int) :: Om) (rm_gr_ dp) 1 (W_X12_readProduct dp ad)) (hg6 : jCN l D vwCl (tyR cy) cy ad ftR ksR (XtR ad) yX12_readTurned (.code yX12_readTurned cX12_readTurned 2 (some .int) :: Om) (rm_gr_ dp) 1 (W_X12_readTurned dp ad)) (hg7 : jCN l D vwCl (tyR cy) cy ad ftR ksR (XtR ad) yX12_readP (.code yX12_readP cX12_readP 4 (some .int) :: Om) (rm_gr_ dp) 1 (W_X12_readP dp ad)) (hg8 : jCN l D vwCl (tyR cy) cy ad ftR ksR (XtR ad) yX12_readAtom (.code yX12_readAtom cX12_readAtom 5 (some .int) :: Om) (rm_gr_ dp) 1 (W_X12_readAtom dp ad)) (hg9 : jCN l D vwCl (tyR cy) cy ad ftR ksR (XtR ad) yX12_readFold (.code yX12_readFold cX12_readFold 5 (some .int) :: Om) (rm_gr_ dp) 1 (W_X12_readFold dp ad)) (hg10 : jCN l D vwCl (tyR cy) cy ad ftR ksR (XtR ad) yX12_readSet (.code yX12_readSet cX12_readSet 4 (some .int) :: Om) (rm_gr_ dp) 1 (W_X12_readSet dp ad)) (hJ : jOk l D vwCl (tyR cy) cy ad ftR ksR (XtR ad) Om RX12 cX12_readNot 2 1 (rm_gr_ (dp + 1)) Q J)  : ∀ (M : MM), w_X12_readNot_b16  (gr_  dp) Q   M → J 16 [(0, .ref (ad 0))] [] M := by
  intro  M  hF
  unfold w_X12_readNot_b16 at hF
  refine j_aload_n hJ dX12_readNot_16 rfl 0 rfl ?_
  refine j_callVi hJ hg3 rfl om_1383 ⟨rfl, rfl, by show _ ≤ _; simp only [rm_gr_]; omega, by show _ ≤ _; simp only [rm_gr_]; omega⟩ [] mv_X12_689 hd_X12_readComparedv kR_0 rfl rfl rfl (Nat.le_of_ble_eq_true rfl) dX12_readNot_17 ⟨rfl, hF⟩ (fun r1 M2 gr1 qM2 => ?_)
  have hF := qM2 gr1
  exact j_iret hJ rfl gr1 dX12_readNot_20 hF
set_option maxHeartbeats 4000000 in
set_option maxRecDepth 100000 in
theorem s_X12_readNot {l : Launch} {D : va_G} {cy : Nat → ClassId} {ad : Nat → Nat} {dp : Nat} (hin : jIn ad ksR.length) (hg0 : jCN l D vwCl (tyR cy) cy ad ftR ksR (XtR ad) yX12_readE (.code yX12_readE cX12_readE 3 (some .int) :: Om) (rm_gr_ dp) 1 (W_X12_readE dp ad)) (hg1 : jCN l D vwCl (tyR cy) cy ad ftR ksR (XtR ad) yX12_readAnd (.code yX12_readAnd cX12_readAnd 3 (some .int) :: Om) (rm_gr_ dp) 1 (W_X12_readAnd dp ad)) (hg2 : jCN l D vwCl (tyR cy) cy ad ftR ksR (XtR ad) yX12_readNot (.code yX12_readNot cX12_readNot 2 (some .int) :: Om) (rm_gr_ dp) 1 (W_X12_readNot dp ad)) (hg3 : jCN l D vwCl (tyR cy) cy ad ftR ksR (XtR ad) yX12_readCompared (.code yX12_readCompared cX12_readCompared 4 (some .int) :: Om) (rm_gr_ dp) 1 (W_X12_readCompared dp ad)) (hg4 : jCN l D vwCl (tyR cy) cy ad ftR ksR (XtR ad) yX12_readSum (.code yX12_readSum cX12_readSum 3 (some .int) :: Om) (rm_gr_ dp) 1 (W_X12_readSum dp ad)) (hg5 : jCN l D vwCl (tyR cy) cy ad ftR ksR (XtR ad) yX12_readProduct (.code yX12_readProduct cX12_readProduct 3 (some .int) :: Om) (rm_gr_ dp) 1 (W_X12_readProduct dp ad)) (hg6 : jCN l D vwCl (tyR cy) cy ad ftR ksR (XtR ad) yX12_readTurned (.code yX12_readTurned cX12_readTurned 2 (some .int) :: Om) (rm_gr_ dp) 1 (W_X12_readTurned dp ad)) (hg7 : jCN l D vwCl (tyR cy) cy ad ftR ksR (XtR ad) yX12_readP (.code yX12_readP cX12_readP 4 (some .int) :: Om) (rm_gr_ dp) 1 (W_X12_readP dp ad)) (hg8 : jCN l D vwCl (tyR cy) cy ad ftR ksR (XtR ad) yX12_readAtom (.code yX12_readAtom cX12_readAtom 5 (some .int) :: Om) (rm_gr_ dp) 1 (W_X12_readAtom dp ad)) (hg9 : jCN l D vwCl (tyR cy) cy ad ftR ksR (XtR ad) yX12_readFold (.code yX12_readFold cX12_readFold 5 (some .int) :: Om) (rm_gr_ dp) 1 (W_X12_readFold dp ad)) (hg10 : jCN l D vwCl (tyR cy) cy ad ftR ksR (XtR ad) yX12_readSet (.code yX12_readSet cX12_readSet 4 (some .int) :: Om) (rm_gr_ dp) 1 (W_X12_readSet dp ad)) : jCN l D vwCl (tyR cy) cy ad ftR ksR (XtR ad) yX12_readNot (.code yX12_readNot cX12_readNot 2 (some .int) :: Om) (rm_gr_ (dp + 1)) 1 (W_X12_readNot (dp + 1) ad) := by
  refine jCN_of (y := yX12_readNot) (cc := cX12_readNot) (nL := 2) (rk := 1) (rm := (rm_gr_ (dp + 1))) (own := RX12) (tyR_ok cy) hin (XtR_ok ad) Om_good (by decide) rfl ?_
  intro Q av M hF
  obtain ⟨rfl, hF⟩ := hF
  refine ⟨Nat.le_of_ble_eq_true rfl, fun J hJ => ?_⟩
  show J 0 [(0, .ref (ad 0))] [] M
  have hF : b_X12_readNot  (gr_  dp) Q  M := hF
  unfold b_X12_readNot at hF
  refine j_aload_n hJ dX12_readNot_0 rfl 0 rfl ?_
  refine j_gi hJ kR_0 fR_15_83 rfl fl_X12_625 dX12_readNot_1 (fun v1 ev1 gv1 => ?_)
  have hF := hF v1 ev1 gv1
  refine j_if_gt hJ 16 gv1 dX12_readNot_4 (by decide) (fun z2 => ?_) (fun z2 => ?_)
  · have hF := hF.1 z2
    exact j_sub hJ [0] rfl (k_X12_readNot_b16 hin  hg0 hg1 hg2 hg3 hg4 hg5 hg6 hg7 hg8 hg9 hg10 hJ   _  hF)
  · have hF := hF.2 z2
    refine j_aload_n hJ dX12_readNot_7 rfl 0 rfl ?_
    refine j_bipush hJ dX12_readNot_8 (by decide) ?_
    refine j_callVz hJ (c_X12_isKey (l := l) (D := D) (cy := cy) (ad := ad) hin) rfl om_1367 ⟨rfl, rfl, by show _ ≤ _; simp only [rm_gr_]; omega, by show _ ≤ _; simp only [rm_gr_]; omega⟩ [.int (Ii 7)] mv_X12_667 hd_X12_isKeyv kR_0 rfl rfl rfl (Nat.le_of_ble_eq_true rfl) dX12_readNot_10 ⟨7, rfl, rk_7, hF⟩ (fun r3 M4 gr3 qM4 => ?_)
    have hF := qM4 gr3
    refine j_if_ne hJ 21 (jz_ri gr3) dX12_readNot_13 (by decide) (fun z5 => ?_) (fun z5 => ?_)
    · have hF := hF.1 z5
      refine j_aload_n hJ dX12_readNot_21 rfl 0 rfl ?_
      refine j_bipush hJ dX12_readNot_22 (by decide) ?_
      refine j_callVi hJ (c_X12_node (l := l) (D := D) (cy := cy) (ad := ad) hin) rfl om_1375 ⟨rfl, rfl, by show _ ≤ _; simp only [rm_gr_]; omega, by show _ ≤ _; simp only [rm_gr_]; omega⟩ [.int (Ii 7)] mv_X12_683 hd_X12_nodev kR_0 rfl rfl rfl (Nat.le_of_ble_eq_true rfl) dX12_readNot_24 ⟨7, rfl, rk_7, hF⟩ (fun r6 M7 gr6 qM7 => ?_)
      have hF := qM7 gr6
      refine j_istore_n (lv' := [(1, .int (Ii r6)), (0, .ref (ad 0))]) hJ dX12_readNot_27 rfl (by decide) rfl ?_
      refine j_aload_n hJ dX12_readNot_28 rfl 1 rfl ?_
      refine j_callVv hJ (c_X12_advance (l := l) (D := D) (cy := cy) (ad := ad) hin) rfl om_1355 ⟨rfl, rfl, by show _ ≤ _; simp only [rm_gr_]; omega, by show _ ≤ _; simp only [rm_gr_]; omega⟩ [] mv_X12_661 hd_X12_advancev kR_0 rfl rfl rfl (Nat.le_of_ble_eq_true rfl) dX12_readNot_29 ⟨rfl, hF⟩ (fun M9 qM9 => ?_)
      have hF := qM9
      refine j_aload_n hJ dX12_readNot_32 rfl 1 rfl ?_
      refine j_gr (e := 67) hJ kR_0 fR_15_87 fl_X12_275 dX12_readNot_33 rfl ?_
      refine j_iload_n hJ dX12_readNot_36 rfl 0 rfl ?_
      refine j_aload_n hJ dX12_readNot_37 rfl 1 rfl ?_
      refine j_callVi hJ hg2 rfl om_1379 ⟨rfl, rfl, by show _ ≤ _; simp only [rm_gr_]; omega, by show _ ≤ _; simp only [rm_gr_]; omega⟩ [] mv_X12_686 hd_X12_readNotv kR_0 rfl rfl rfl (Nat.le_of_ble_eq_true rfl) dX12_readNot_38 ⟨rfl, hF⟩ (fun r10 M11 gr10 qM11 => ?_)
      have hF := qM11 gr10
      refine j_iast hJ gr6 gr10 kR_67 hF.1 hF.2.1 dX12_readNot_41 (fun M12 eM12 => ?_)
      have hF := hF.2.2 M12 eM12
      refine j_iload_n hJ dX12_readNot_42 rfl 0 rfl ?_
      exact j_iret hJ rfl gr6 dX12_readNot_43 hF
    · have hF := hF.2 z5
      exact j_sub hJ [0] rfl (k_X12_readNot_b16 hin  hg0 hg1 hg2 hg3 hg4 hg5 hg6 hg7 hg8 hg9 hg10 hJ   _  hF)
set_option maxHeartbeats 4000000 in
set_option maxRecDepth 100000 in
theorem k_X12_readCompared_b93 {l : Launch} {D : va_G} {cy : Nat → ClassId} {ad : Nat → Nat} {dp : Nat} {Q : Int → MM → Prop} {J : Nat → List (Nat × Value) → List Value → MM → Prop} (hin : jIn ad ksR.length)   (hg0 : jCN l D vwCl (tyR cy) cy ad ftR ksR (XtR ad) yX12_readE (.code yX12_readE cX12_readE 3 (some .int) :: Om) (rm_gr_ dp) 1 (W_X12_readE dp ad)) (hg1 : jCN l D vwCl (tyR cy) cy ad ftR ksR (XtR ad) yX12_readAnd (.code yX12_readAnd cX12_readAnd 3 (some .int) :: Om) (rm_gr_ dp) 1 (W_X12_readAnd dp ad)) (hg2 : jCN l D vwCl (tyR cy) cy ad ftR ksR (XtR ad) yX12_readNot (.code yX12_readNot cX12_readNot 2 (some .int) :: Om) (rm_gr_ dp) 1 (W_X12_readNot dp ad)) (hg3 : jCN l D vwCl (tyR cy) cy ad ftR ksR (XtR ad) yX12_readCompared (.code yX12_readCompared cX12_readCompared 4 (some .int) :: Om) (rm_gr_ dp) 1 (W_X12_readCompared dp ad)) (hg4 : jCN l D vwCl (tyR cy) cy ad ftR ksR (XtR ad) yX12_readSum (.code yX12_readSum cX12_readSum 3 (some .int) :: Om) (rm_gr_ dp) 1 (W_X12_readSum dp ad)) (hg5 : jCN l D vwCl (tyR cy) cy ad ftR ksR (XtR ad) yX12_readProduct (.code yX12_readProduct cX12_readProduct 3 (some .int) :: Om) (rm_gr_ dp) 1 (W_X12_readProduct dp ad)) (hg6 : jCN l D vwCl (tyR cy) cy ad ftR ksR (XtR ad) yX12_readTurned (.code yX12_readTurned cX12_readTurned 2 (some .int) :: Om) (rm_gr_ dp) 1 (W_X12_readTurned dp ad)) (hg7 : jCN l D vwCl (tyR cy) cy ad ftR ksR (XtR ad) yX12_readP (.code yX12_readP cX12_readP 4 (some .int) :: Om) (rm_gr_ dp) 1 (W_X12_readP dp ad)) (hg8 : jCN l D vwCl (tyR cy) cy ad ftR ksR (XtR ad) yX12_readAtom (.code yX12_readAtom cX12_readAtom 5 (some .int) :: Om) (rm_gr_ dp) 1 (W_X12_readAtom dp ad)) (hg9 : jCN l D vwCl (tyR cy) cy ad ftR ksR (XtR ad) yX12_readFold (.code yX12_readFold cX12_readFold 5 (some .int) :: Om) (rm_gr_ dp) 1 (W_X12_readFold dp ad)) (hg10 : jCN l D vwCl (tyR cy) cy ad ftR ksR (XtR ad) yX12_readSet (.code yX12_readSet cX12_readSet 4 (some .int) :: Om) (rm_gr_ dp) 1 (W_X12_readSet dp ad)) (hJ : jOk l D vwCl (tyR cy) cy ad ftR ksR (XtR ad) Om RX12 cX12_readCompared 4 1 (rm_gr_ (dp + 1)) Q J)  : ∀ (x1 x3 : Int) (M : MM), ri_ x1 → ri_ x3 → w_X12_readCompared_b93  (gr_  dp) Q  x1 x3 M → J 93 [(0, .ref (ad 0)), (1, .int (Ii x1)), (3, .int (Ii x3))] [] M := by
  intro x1 x3 M gx1 gx3 hF
  unfold w_X12_readCompared_b93 at hF
  refine j_aload_n hJ dX12_readCompared_93 rfl 0 rfl ?_
  refine j_gr (e := 67) hJ kR_0 fR_15_87 fl_X12_275 dX12_readCompared_94 rfl ?_
  refine j_iload_n hJ dX12_readCompared_97 rfl 2 rfl ?_
  refine j_iload_n hJ dX12_readCompared_98 rfl 1 rfl ?_
  refine j_iast hJ gx3 gx1 kR_67 hF.1 hF.2.1 dX12_readCompared_99 (fun M1 eM1 => ?_)
  have hF := hF.2.2 M1 eM1
  refine j_aload_n hJ dX12_readCompared_100 rfl 0 rfl ?_
  refine j_gr (e := 70) hJ kR_0 fR_15_90 fl_X12_284 dX12_readCompared_101 rfl ?_
  refine j_iload_n hJ dX12_readCompared_104 rfl 2 rfl ?_
  refine j_aload_n hJ dX12_readCompared_105 rfl 0 rfl ?_
  refine j_gl hJ kR_0 fR_15_85 rfl fl_X12_640 dX12_readCompared_106 (fun v2 ev2 gv2 => ?_)
  have hF := hF v2 ev2 gv2
  refine j_last hJ gx3 gv2 kR_70 hF.1 hF.2.1 dX12_readCompared_109 (fun M3 eM3 => ?_)
  have hF := hF.2.2 M3 eM3
  refine j_aload_n hJ dX12_readCompared_110 rfl 0 rfl ?_
  refine j_gi hJ kR_0 fR_15_83 rfl fl_X12_625 dX12_readCompared_111 (fun v4 ev4 gv4 => ?_)
  have hF := hF v4 ev4 gv4
  refine j_if_ne hJ 121 gv4 dX12_readCompared_114 (by decide) (fun z5 => ?_) (fun z5 => ?_)
  · have hF := hF.1 z5
    refine j_iload_n hJ dX12_readCompared_121 rfl 2 rfl ?_
    exact j_iret hJ rfl gx3 dX12_readCompared_122 hF
  · have hF := hF.2 z5
    refine j_aload_n hJ dX12_readCompared_117 rfl 0 rfl ?_
    refine j_callVv hJ (c_X12_advance (l := l) (D := D) (cy := cy) (ad := ad) hin) rfl om_1355 ⟨rfl, rfl, by show _ ≤ _; simp only [rm_gr_]; omega, by show _ ≤ _; simp only [rm_gr_]; omega⟩ [] mv_X12_661 hd_X12_advancev kR_0 rfl rfl rfl (Nat.le_of_ble_eq_true rfl) dX12_readCompared_118 ⟨rfl, hF⟩ (fun M7 qM7 => ?_)
    have hF := qM7
    refine j_iload_n hJ dX12_readCompared_121 rfl 2 rfl ?_
    exact j_iret hJ rfl gx3 dX12_readCompared_122 hF
set_option maxHeartbeats 4000000 in
set_option maxRecDepth 100000 in
theorem s_X12_readCompared {l : Launch} {D : va_G} {cy : Nat → ClassId} {ad : Nat → Nat} {dp : Nat} (hin : jIn ad ksR.length) (hg0 : jCN l D vwCl (tyR cy) cy ad ftR ksR (XtR ad) yX12_readE (.code yX12_readE cX12_readE 3 (some .int) :: Om) (rm_gr_ dp) 1 (W_X12_readE dp ad)) (hg1 : jCN l D vwCl (tyR cy) cy ad ftR ksR (XtR ad) yX12_readAnd (.code yX12_readAnd cX12_readAnd 3 (some .int) :: Om) (rm_gr_ dp) 1 (W_X12_readAnd dp ad)) (hg2 : jCN l D vwCl (tyR cy) cy ad ftR ksR (XtR ad) yX12_readNot (.code yX12_readNot cX12_readNot 2 (some .int) :: Om) (rm_gr_ dp) 1 (W_X12_readNot dp ad)) (hg3 : jCN l D vwCl (tyR cy) cy ad ftR ksR (XtR ad) yX12_readCompared (.code yX12_readCompared cX12_readCompared 4 (some .int) :: Om) (rm_gr_ dp) 1 (W_X12_readCompared dp ad)) (hg4 : jCN l D vwCl (tyR cy) cy ad ftR ksR (XtR ad) yX12_readSum (.code yX12_readSum cX12_readSum 3 (some .int) :: Om) (rm_gr_ dp) 1 (W_X12_readSum dp ad)) (hg5 : jCN l D vwCl (tyR cy) cy ad ftR ksR (XtR ad) yX12_readProduct (.code yX12_readProduct cX12_readProduct 3 (some .int) :: Om) (rm_gr_ dp) 1 (W_X12_readProduct dp ad)) (hg6 : jCN l D vwCl (tyR cy) cy ad ftR ksR (XtR ad) yX12_readTurned (.code yX12_readTurned cX12_readTurned 2 (some .int) :: Om) (rm_gr_ dp) 1 (W_X12_readTurned dp ad)) (hg7 : jCN l D vwCl (tyR cy) cy ad ftR ksR (XtR ad) yX12_readP (.code yX12_readP cX12_readP 4 (some .int) :: Om) (rm_gr_ dp) 1 (W_X12_readP dp ad)) (hg8 : jCN l D vwCl (tyR cy) cy ad ftR ksR (XtR ad) yX12_readAtom (.code yX12_readAtom cX12_readAtom 5 (some .int) :: Om) (rm_gr_ dp) 1 (W_X12_readAtom dp ad)) (hg9 : jCN l D vwCl (tyR cy) cy ad ftR ksR (XtR ad) yX12_readFold (.code yX12_readFold cX12_readFold 5 (some .int) :: Om) (rm_gr_ dp) 1 (W_X12_readFold dp ad)) (hg10 : jCN l D vwCl (tyR cy) cy ad ftR ksR (XtR ad) yX12_readSet (.code yX12_readSet cX12_readSet 4 (some .int) :: Om) (rm_gr_ dp) 1 (W_X12_readSet dp ad)) : jCN l D vwCl (tyR cy) cy ad ftR ksR (XtR ad) yX12_readCompared (.code yX12_readCompared cX12_readCompared 4 (some .int) :: Om) (rm_gr_ (dp + 1)) 1 (W_X12_readCompared (dp + 1) ad) := by
  refine jCN_of (y := yX12_readCompared) (cc := cX12_readCompared) (nL := 4) (rk := 1) (rm := (rm_gr_ (dp + 1))) (own := RX12) (tyR_ok cy) hin (XtR_ok ad) Om_good (by decide) rfl ?_
  intro Q av M hF
  obtain ⟨rfl, hF⟩ := hF
  refine ⟨Nat.le_of_ble_eq_true rfl, fun J hJ => ?_⟩
  show J 0 [(0, .ref (ad 0))] [] M
  have hF : b_X12_readCompared  (gr_  dp) Q  M := hF
  unfold b_X12_readCompared at hF
  refine j_aload_n hJ dX12_readCompared_0 rfl 0 rfl ?_
  refine j_callVi hJ hg4 rfl om_1387 ⟨rfl, rfl, by show _ ≤ _; simp only [rm_gr_]; omega, by show _ ≤ _; simp only [rm_gr_]; omega⟩ [] mv_X12_704 hd_X12_readSumv kR_0 rfl rfl rfl (Nat.le_of_ble_eq_true rfl) dX12_readCompared_1 ⟨rfl, hF⟩ (fun r1 M2 gr1 qM2 => ?_)
  have hF := qM2 gr1
  refine j_istore_n (lv' := [(1, .int (Ii r1)), (0, .ref (ad 0))]) hJ dX12_readCompared_4 rfl (by decide) rfl ?_
  refine j_aload_n hJ dX12_readCompared_5 rfl 1 rfl ?_
  refine j_gi hJ kR_0 fR_15_83 rfl fl_X12_625 dX12_readCompared_6 (fun v3 ev3 gv3 => ?_)
  have hF := hF v3 ev3 gv3
  refine j_if_le hJ 14 gv3 dX12_readCompared_9 (by decide) (fun z4 => ?_) (fun z4 => ?_)
  · have hF := hF.1 z4
    refine j_aload_n hJ dX12_readCompared_14 rfl 1 rfl ?_
    refine j_callVi hJ (c_X12_compared (l := l) (D := D) (cy := cy) (ad := ad) hin) rfl om_1397 ⟨rfl, rfl, by show _ ≤ _; simp only [rm_gr_]; omega, by show _ ≤ _; simp only [rm_gr_]; omega⟩ [] mv_X12_707 hd_X12_comparedv kR_0 rfl rfl rfl (Nat.le_of_ble_eq_true rfl) dX12_readCompared_15 ⟨rfl, hF⟩ (fun r5 M6 gr5 qM6 => ?_)
    have hF := qM6 gr5
    refine j_istore_n (lv' := [(2, .int (Ii r5)), (1, .int (Ii r1)), (0, .ref (ad 0))]) hJ dX12_readCompared_18 rfl (by decide) rfl ?_
    refine j_iload_n hJ dX12_readCompared_19 rfl 0 rfl ?_
    refine j_iconst hJ dX12_readCompared_20 ?_
    refine j_icmp_eq hJ 53 gr5 rk_m1 dX12_readCompared_21 (by decide) (fun z7 => ?_) (fun z7 => ?_)
    · have hF := hF.1 z7
      refine j_aload_n hJ dX12_readCompared_53 rfl 2 rfl ?_
      refine j_bipush hJ dX12_readCompared_54 (by decide) ?_
      refine j_callVz hJ (c_X12_isKey (l := l) (D := D) (cy := cy) (ad := ad) hin) rfl om_1367 ⟨rfl, rfl, by show _ ≤ _; simp only [rm_gr_]; omega, by show _ ≤ _; simp only [rm_gr_]; omega⟩ [.int (Ii 11)] mv_X12_667 hd_X12_isKeyv kR_0 rfl rfl rfl (Nat.le_of_ble_eq_true rfl) dX12_readCompared_56 ⟨11, rfl, rk_11, hF⟩ (fun r8 M9 gr8 qM9 => ?_)
      have hF := qM9 gr8
      refine j_if_ne hJ 64 (jz_ri gr8) dX12_readCompared_59 (by decide) (fun z10 => ?_) (fun z10 => ?_)
      · have hF := hF.1 z10
        refine j_aload_n hJ dX12_readCompared_64 rfl 2 rfl ?_
        refine j_bipush hJ dX12_readCompared_65 (by decide) ?_
        refine j_callVi hJ (c_X12_node (l := l) (D := D) (cy := cy) (ad := ad) hin) rfl om_1375 ⟨rfl, rfl, by show _ ≤ _; simp only [rm_gr_]; omega, by show _ ≤ _; simp only [rm_gr_]; omega⟩ [.int (Ii 11)] mv_X12_683 hd_X12_nodev kR_0 rfl rfl rfl (Nat.le_of_ble_eq_true rfl) dX12_readCompared_67 ⟨11, rfl, rk_11, hF⟩ (fun r11 M12 gr11 qM12 => ?_)
        have hF := qM12 gr11
        refine j_istore_n (lv' := [(3, .int (Ii r11)), (2, .int (Ii r5)), (1, .int (Ii r1)), (0, .ref (ad 0))]) hJ dX12_readCompared_70 rfl (by decide) rfl ?_
        refine j_aload_n hJ dX12_readCompared_71 rfl 3 rfl ?_
        refine j_callVv hJ (c_X12_advance (l := l) (D := D) (cy := cy) (ad := ad) hin) rfl om_1355 ⟨rfl, rfl, by show _ ≤ _; simp only [rm_gr_]; omega, by show _ ≤ _; simp only [rm_gr_]; omega⟩ [] mv_X12_661 hd_X12_advancev kR_0 rfl rfl rfl (Nat.le_of_ble_eq_true rfl) dX12_readCompared_72 ⟨rfl, hF⟩ (fun M14 qM14 => ?_)
        have hF := qM14
        refine j_aload_n hJ dX12_readCompared_75 rfl 3 rfl ?_
        refine j_gi hJ kR_0 fR_15_83 rfl fl_X12_625 dX12_readCompared_76 (fun v15 ev15 gv15 => ?_)
        have hF := hF v15 ev15 gv15
        refine j_if_ne hJ 93 gv15 dX12_readCompared_79 (by decide) (fun z16 => ?_) (fun z16 => ?_)
        · have hF := hF.1 z16
          exact j_sub hJ [3, 2, 0] rfl (k_X12_readCompared_b93 hin  hg0 hg1 hg2 hg3 hg4 hg5 hg6 hg7 hg8 hg9 hg10 hJ  r1 r11 _ gr1 gr11 hF)
        · have hF := hF.2 z16
          refine j_aload_n hJ dX12_readCompared_82 rfl 3 rfl ?_
          refine j_callVz hJ (c_X12_isName (l := l) (D := D) (cy := cy) (ad := ad) hin) rfl om_1401 ⟨rfl, rfl, by show _ ≤ _; simp only [rm_gr_]; omega, by show _ ≤ _; simp only [rm_gr_]; omega⟩ [] mv_X12_710 hd_X12_isNamev kR_0 rfl rfl rfl (Nat.le_of_ble_eq_true rfl) dX12_readCompared_83 ⟨rfl, hF⟩ (fun r17 M18 gr17 qM18 => ?_)
          have hF := qM18 gr17
          refine j_if_ne hJ 93 (jz_ri gr17) dX12_readCompared_86 (by decide) (fun z19 => ?_) (fun z19 => ?_)
          · have hF := hF.1 z19
            exact j_sub hJ [3, 2, 0] rfl (k_X12_readCompared_b93 hin  hg0 hg1 hg2 hg3 hg4 hg5 hg6 hg7 hg8 hg9 hg10 hJ  r1 r11 _ gr1 gr11 hF)
          · have hF := hF.2 z19
            refine j_aload_n hJ dX12_readCompared_89 rfl 3 rfl ?_
            refine j_callVv hJ (c_X12_wrong (l := l) (D := D) (cy := cy) (ad := ad) hin) rfl om_1363 ⟨rfl, rfl, by show _ ≤ _; simp only [rm_gr_]; omega, by show _ ≤ _; simp only [rm_gr_]; omega⟩ [] mv_X12_664 hd_X12_wrongv kR_0 rfl rfl rfl (Nat.le_of_ble_eq_true rfl) dX12_readCompared_90 ⟨rfl, hF⟩ (fun M21 qM21 => ?_)
            have hF := qM21
            exact j_sub hJ [3, 2, 0] rfl (k_X12_readCompared_b93 hin  hg0 hg1 hg2 hg3 hg4 hg5 hg6 hg7 hg8 hg9 hg10 hJ  r1 r11 _ gr1 gr11 hF)
      · have hF := hF.2 z10
        refine j_iload_n hJ dX12_readCompared_62 rfl 1 rfl ?_
        exact j_iret hJ rfl gr1 dX12_readCompared_63 hF
    · have hF := hF.2 z7
      refine j_aload_n hJ dX12_readCompared_24 rfl 2 rfl ?_
      refine j_iload_n hJ dX12_readCompared_25 rfl 0 rfl ?_
      refine j_callVi hJ (c_X12_node (l := l) (D := D) (cy := cy) (ad := ad) hin) rfl om_1375 ⟨rfl, rfl, by show _ ≤ _; simp only [rm_gr_]; omega, by show _ ≤ _; simp only [rm_gr_]; omega⟩ [.int (Ii r5)] mv_X12_683 hd_X12_nodev kR_0 rfl rfl rfl (Nat.le_of_ble_eq_true rfl) dX12_readCompared_26 ⟨r5, rfl, gr5, hF⟩ (fun r22 M23 gr22 qM23 => ?_)
      have hF := qM23 gr22
      refine j_istore_n (lv' := [(3, .int (Ii r22)), (2, .int (Ii r5)), (1, .int (Ii r1)), (0, .ref (ad 0))]) hJ dX12_readCompared_29 rfl (by decide) rfl ?_
      refine j_aload_n hJ dX12_readCompared_30 rfl 3 rfl ?_
      refine j_callVv hJ (c_X12_advance (l := l) (D := D) (cy := cy) (ad := ad) hin) rfl om_1355 ⟨rfl, rfl, by show _ ≤ _; simp only [rm_gr_]; omega, by show _ ≤ _; simp only [rm_gr_]; omega⟩ [] mv_X12_661 hd_X12_advancev kR_0 rfl rfl rfl (Nat.le_of_ble_eq_true rfl) dX12_readCompared_31 ⟨rfl, hF⟩ (fun M25 qM25 => ?_)
      have hF := qM25
      refine j_aload_n hJ dX12_readCompared_34 rfl 3 rfl ?_
      refine j_gr (e := 67) hJ kR_0 fR_15_87 fl_X12_275 dX12_readCompared_35 rfl ?_
      refine j_iload_n hJ dX12_readCompared_38 rfl 0 rfl ?_
      refine j_iload_n hJ dX12_readCompared_39 rfl 2 rfl ?_
      refine j_iast hJ gr22 gr1 kR_67 hF.1 hF.2.1 dX12_readCompared_40 (fun M26 eM26 => ?_)
      have hF := hF.2.2 M26 eM26
      refine j_aload_n hJ dX12_readCompared_41 rfl 3 rfl ?_
      refine j_gr (e := 68) hJ kR_0 fR_15_88 fl_X12_278 dX12_readCompared_42 rfl ?_
      refine j_iload_n hJ dX12_readCompared_45 rfl 0 rfl ?_
      refine j_aload_n hJ dX12_readCompared_46 rfl 3 rfl ?_
      refine j_callVi hJ hg4 rfl om_1387 ⟨rfl, rfl, by show _ ≤ _; simp only [rm_gr_]; omega, by show _ ≤ _; simp only [rm_gr_]; omega⟩ [] mv_X12_704 hd_X12_readSumv kR_0 rfl rfl rfl (Nat.le_of_ble_eq_true rfl) dX12_readCompared_47 ⟨rfl, hF⟩ (fun r27 M28 gr27 qM28 => ?_)
      have hF := qM28 gr27
      refine j_iast hJ gr22 gr27 kR_68 hF.1 hF.2.1 dX12_readCompared_50 (fun M29 eM29 => ?_)
      have hF := hF.2.2 M29 eM29
      refine j_iload_n hJ dX12_readCompared_51 rfl 0 rfl ?_
      exact j_iret hJ rfl gr22 dX12_readCompared_52 hF
  · have hF := hF.2 z4
    refine j_iload_n hJ dX12_readCompared_12 rfl 0 rfl ?_
    exact j_iret hJ rfl gr1 dX12_readCompared_13 hF
set_option maxHeartbeats 4000000 in
set_option maxRecDepth 100000 in
theorem k_X12_readSum_b50 {l : Launch} {D : va_G} {cy : Nat → ClassId} {ad : Nat → Nat} {dp : Nat} {Q : Int → MM → Prop} {J : Nat → List (Nat × Value) → List Value → MM → Prop} (hin : jIn ad ksR.length)   (hg0 : jCN l D vwCl (tyR cy) cy ad ftR ksR (XtR ad) yX12_readE (.code yX12_readE cX12_readE 3 (some .int) :: Om) (rm_gr_ dp) 1 (W_X12_readE dp ad)) (hg1 : jCN l D vwCl (tyR cy) cy ad ftR ksR (XtR ad) yX12_readAnd (.code yX12_readAnd cX12_readAnd 3 (some .int) :: Om) (rm_gr_ dp) 1 (W_X12_readAnd dp ad)) (hg2 : jCN l D vwCl (tyR cy) cy ad ftR ksR (XtR ad) yX12_readNot (.code yX12_readNot cX12_readNot 2 (some .int) :: Om) (rm_gr_ dp) 1 (W_X12_readNot dp ad)) (hg3 : jCN l D vwCl (tyR cy) cy ad ftR ksR (XtR ad) yX12_readCompared (.code yX12_readCompared cX12_readCompared 4 (some .int) :: Om) (rm_gr_ dp) 1 (W_X12_readCompared dp ad)) (hg4 : jCN l D vwCl (tyR cy) cy ad ftR ksR (XtR ad) yX12_readSum (.code yX12_readSum cX12_readSum 3 (some .int) :: Om) (rm_gr_ dp) 1 (W_X12_readSum dp ad)) (hg5 : jCN l D vwCl (tyR cy) cy ad ftR ksR (XtR ad) yX12_readProduct (.code yX12_readProduct cX12_readProduct 3 (some .int) :: Om) (rm_gr_ dp) 1 (W_X12_readProduct dp ad)) (hg6 : jCN l D vwCl (tyR cy) cy ad ftR ksR (XtR ad) yX12_readTurned (.code yX12_readTurned cX12_readTurned 2 (some .int) :: Om) (rm_gr_ dp) 1 (W_X12_readTurned dp ad)) (hg7 : jCN l D vwCl (tyR cy) cy ad ftR ksR (XtR ad) yX12_readP (.code yX12_readP cX12_readP 4 (some .int) :: Om) (rm_gr_ dp) 1 (W_X12_readP dp ad)) (hg8 : jCN l D vwCl (tyR cy) cy ad ftR ksR (XtR ad) yX12_readAtom (.code yX12_readAtom cX12_readAtom 5 (some .int) :: Om) (rm_gr_ dp) 1 (W_X12_readAtom dp ad)) (hg9 : jCN l D vwCl (tyR cy) cy ad ftR ksR (XtR ad) yX12_readFold (.code yX12_readFold cX12_readFold 5 (some .int) :: Om) (rm_gr_ dp) 1 (W_X12_readFold dp ad)) (hg10 : jCN l D vwCl (tyR cy) cy ad ftR ksR (XtR ad) yX12_readSet (.code yX12_readSet cX12_readSet 4 (some .int) :: Om) (rm_gr_ dp) 1 (W_X12_readSet dp ad)) (hJ : jOk l D vwCl (tyR cy) cy ad ftR ksR (XtR ad) Om RX12 cX12_readSum 3 1 (rm_gr_ (dp + 1)) Q J) {K5 : Int → MM → Prop} (hK5 : ∀ (x1 : Int) (M : MM), ri_ x1 → K5 x1 M → J 5 [(0, .ref (ad 0)), (1, .int (Ii x1))] [] M) : ∀ (x1 s0 : Int) (M : MM), ri_ x1 → ri_ s0 → w_X12_readSum_b50  (gr_  dp) Q K5 x1 s0 M → J 50 [(0, .ref (ad 0)), (1, .int (Ii x1))] [.int (Ii s0), .ref (ad 0)] M := by
  intro x1 s0 M gx1 gs0 hF
  unfold w_X12_readSum_b50 at hF
  refine j_callVi hJ (c_X12_node (l := l) (D := D) (cy := cy) (ad := ad) hin) rfl om_1375 ⟨rfl, rfl, by show _ ≤ _; simp only [rm_gr_]; omega, by show _ ≤ _; simp only [rm_gr_]; omega⟩ [.int (Ii s0)] mv_X12_683 hd_X12_nodev kR_0 rfl rfl rfl (Nat.le_of_ble_eq_true rfl) dX12_readSum_50 ⟨s0, rfl, gs0, hF⟩ (fun r1 M2 gr1 qM2 => ?_)
  have hF := qM2 gr1
  refine j_istore_n (lv' := [(2, .int (Ii r1)), (0, .ref (ad 0)), (1, .int (Ii x1))]) hJ dX12_readSum_53 rfl (by decide) rfl ?_
  refine j_aload_n hJ dX12_readSum_54 rfl 1 rfl ?_
  refine j_callVv hJ (c_X12_advance (l := l) (D := D) (cy := cy) (ad := ad) hin) rfl om_1355 ⟨rfl, rfl, by show _ ≤ _; simp only [rm_gr_]; omega, by show _ ≤ _; simp only [rm_gr_]; omega⟩ [] mv_X12_661 hd_X12_advancev kR_0 rfl rfl rfl (Nat.le_of_ble_eq_true rfl) dX12_readSum_55 ⟨rfl, hF⟩ (fun M4 qM4 => ?_)
  have hF := qM4
  refine j_aload_n hJ dX12_readSum_58 rfl 1 rfl ?_
  refine j_gr (e := 67) hJ kR_0 fR_15_87 fl_X12_275 dX12_readSum_59 rfl ?_
  refine j_iload_n hJ dX12_readSum_62 rfl 0 rfl ?_
  refine j_iload_n hJ dX12_readSum_63 rfl 2 rfl ?_
  refine j_iast hJ gr1 gx1 kR_67 hF.1 hF.2.1 dX12_readSum_64 (fun M5 eM5 => ?_)
  have hF := hF.2.2 M5 eM5
  refine j_aload_n hJ dX12_readSum_65 rfl 1 rfl ?_
  refine j_gr (e := 68) hJ kR_0 fR_15_88 fl_X12_278 dX12_readSum_66 rfl ?_
  refine j_iload_n hJ dX12_readSum_69 rfl 0 rfl ?_
  refine j_aload_n hJ dX12_readSum_70 rfl 1 rfl ?_
  refine j_callVi hJ hg5 rfl om_1405 ⟨rfl, rfl, by show _ ≤ _; simp only [rm_gr_]; omega, by show _ ≤ _; simp only [rm_gr_]; omega⟩ [] mv_X12_714 hd_X12_readProductv kR_0 rfl rfl rfl (Nat.le_of_ble_eq_true rfl) dX12_readSum_71 ⟨rfl, hF⟩ (fun r6 M7 gr6 qM7 => ?_)
  have hF := qM7 gr6
  refine j_iast hJ gr1 gr6 kR_68 hF.1 hF.2.1 dX12_readSum_74 (fun M8 eM8 => ?_)
  have hF := hF.2.2 M8 eM8
  refine j_iload_n hJ dX12_readSum_75 rfl 0 rfl ?_
  refine j_istore_n (lv' := [(1, .int (Ii r1)), (2, .int (Ii r1)), (0, .ref (ad 0))]) hJ dX12_readSum_76 rfl (by decide) rfl ?_
  refine j_goto hJ 5 dX12_readSum_77 (by decide) ?_
  exact j_sub hJ [2, 0] rfl (hK5 r1 _ gr1 hF)
set_option maxHeartbeats 4000000 in
set_option maxRecDepth 100000 in
theorem k_X12_readSum_b32 {l : Launch} {D : va_G} {cy : Nat → ClassId} {ad : Nat → Nat} {dp : Nat} {Q : Int → MM → Prop} {J : Nat → List (Nat × Value) → List Value → MM → Prop} (hin : jIn ad ksR.length)   (hg0 : jCN l D vwCl (tyR cy) cy ad ftR ksR (XtR ad) yX12_readE (.code yX12_readE cX12_readE 3 (some .int) :: Om) (rm_gr_ dp) 1 (W_X12_readE dp ad)) (hg1 : jCN l D vwCl (tyR cy) cy ad ftR ksR (XtR ad) yX12_readAnd (.code yX12_readAnd cX12_readAnd 3 (some .int) :: Om) (rm_gr_ dp) 1 (W_X12_readAnd dp ad)) (hg2 : jCN l D vwCl (tyR cy) cy ad ftR ksR (XtR ad) yX12_readNot (.code yX12_readNot cX12_readNot 2 (some .int) :: Om) (rm_gr_ dp) 1 (W_X12_readNot dp ad)) (hg3 : jCN l D vwCl (tyR cy) cy ad ftR ksR (XtR ad) yX12_readCompared (.code yX12_readCompared cX12_readCompared 4 (some .int) :: Om) (rm_gr_ dp) 1 (W_X12_readCompared dp ad)) (hg4 : jCN l D vwCl (tyR cy) cy ad ftR ksR (XtR ad) yX12_readSum (.code yX12_readSum cX12_readSum 3 (some .int) :: Om) (rm_gr_ dp) 1 (W_X12_readSum dp ad)) (hg5 : jCN l D vwCl (tyR cy) cy ad ftR ksR (XtR ad) yX12_readProduct (.code yX12_readProduct cX12_readProduct 3 (some .int) :: Om) (rm_gr_ dp) 1 (W_X12_readProduct dp ad)) (hg6 : jCN l D vwCl (tyR cy) cy ad ftR ksR (XtR ad) yX12_readTurned (.code yX12_readTurned cX12_readTurned 2 (some .int) :: Om) (rm_gr_ dp) 1 (W_X12_readTurned dp ad)) (hg7 : jCN l D vwCl (tyR cy) cy ad ftR ksR (XtR ad) yX12_readP (.code yX12_readP cX12_readP 4 (some .int) :: Om) (rm_gr_ dp) 1 (W_X12_readP dp ad)) (hg8 : jCN l D vwCl (tyR cy) cy ad ftR ksR (XtR ad) yX12_readAtom (.code yX12_readAtom cX12_readAtom 5 (some .int) :: Om) (rm_gr_ dp) 1 (W_X12_readAtom dp ad)) (hg9 : jCN l D vwCl (tyR cy) cy ad ftR ksR (XtR ad) yX12_readFold (.code yX12_readFold cX12_readFold 5 (some .int) :: Om) (rm_gr_ dp) 1 (W_X12_readFold dp ad)) (hg10 : jCN l D vwCl (tyR cy) cy ad ftR ksR (XtR ad) yX12_readSet (.code yX12_readSet cX12_readSet 4 (some .int) :: Om) (rm_gr_ dp) 1 (W_X12_readSet dp ad)) (hJ : jOk l D vwCl (tyR cy) cy ad ftR ksR (XtR ad) Om RX12 cX12_readSum 3 1 (rm_gr_ (dp + 1)) Q J) {K5 : Int → MM → Prop} (hK5 : ∀ (x1 : Int) (M : MM), ri_ x1 → K5 x1 M → J 5 [(0, .ref (ad 0)), (1, .int (Ii x1))] [] M) : ∀ (x1 : Int) (M : MM), ri_ x1 → w_X12_readSum_b32  (gr_  dp) Q K5 x1 M → J 32 [(0, .ref (ad 0)), (1, .int (Ii x1))] [] M := by
  intro x1 M gx1 hF
  unfold w_X12_readSum_b32 at hF
  refine j_aload_n hJ dX12_readSum_32 rfl 0 rfl ?_
  refine j_aload_n hJ dX12_readSum_33 rfl 0 rfl ?_
  refine j_ldc2 hJ 43 om_1409 (by decide) dX12_readSum_34 ?_
  refine j_callVz hJ (c_X12_isSign (l := l) (D := D) (cy := cy) (ad := ad) hin) rfl om_1359 ⟨rfl, rfl, by show _ ≤ _; simp only [rm_gr_]; omega, by show _ ≤ _; simp only [rm_gr_]; omega⟩ [.long (Ll 43)] mv_X12_657 hd_X12_isSignv kR_0 rfl rfl rfl (Nat.le_of_ble_eq_true rfl) dX12_readSum_37 ⟨43, rfl, lk_43, hF⟩ (fun r1 M2 gr1 qM2 => ?_)
  have hF := qM2 gr1
  refine j_if_eq hJ 48 (jz_ri gr1) dX12_readSum_40 (by decide) (fun z3 => ?_) (fun z3 => ?_)
  · have hF := hF.1 z3
    refine j_bipush hJ dX12_readSum_48 (by decide) ?_
    exact j_sub hJ [0, 1] rfl (k_X12_readSum_b50 hin  hg0 hg1 hg2 hg3 hg4 hg5 hg6 hg7 hg8 hg9 hg10 hJ hK5 x1 109 _ gx1 rk_109 hF)
  · have hF := hF.2 z3
    refine j_bipush hJ dX12_readSum_43 (by decide) ?_
    refine j_goto hJ 50 dX12_readSum_45 (by decide) ?_
    exact j_sub hJ [0, 1] rfl (k_X12_readSum_b50 hin  hg0 hg1 hg2 hg3 hg4 hg5 hg6 hg7 hg8 hg9 hg10 hJ hK5 x1 108 _ gx1 rk_108 hF)
set_option maxHeartbeats 4000000 in
set_option maxRecDepth 100000 in
theorem k_X12_readSum_b5 {l : Launch} {D : va_G} {cy : Nat → ClassId} {ad : Nat → Nat} {dp : Nat} {Q : Int → MM → Prop} {J : Nat → List (Nat × Value) → List Value → MM → Prop} (hin : jIn ad ksR.length)   (hg0 : jCN l D vwCl (tyR cy) cy ad ftR ksR (XtR ad) yX12_readE (.code yX12_readE cX12_readE 3 (some .int) :: Om) (rm_gr_ dp) 1 (W_X12_readE dp ad)) (hg1 : jCN l D vwCl (tyR cy) cy ad ftR ksR (XtR ad) yX12_readAnd (.code yX12_readAnd cX12_readAnd 3 (some .int) :: Om) (rm_gr_ dp) 1 (W_X12_readAnd dp ad)) (hg2 : jCN l D vwCl (tyR cy) cy ad ftR ksR (XtR ad) yX12_readNot (.code yX12_readNot cX12_readNot 2 (some .int) :: Om) (rm_gr_ dp) 1 (W_X12_readNot dp ad)) (hg3 : jCN l D vwCl (tyR cy) cy ad ftR ksR (XtR ad) yX12_readCompared (.code yX12_readCompared cX12_readCompared 4 (some .int) :: Om) (rm_gr_ dp) 1 (W_X12_readCompared dp ad)) (hg4 : jCN l D vwCl (tyR cy) cy ad ftR ksR (XtR ad) yX12_readSum (.code yX12_readSum cX12_readSum 3 (some .int) :: Om) (rm_gr_ dp) 1 (W_X12_readSum dp ad)) (hg5 : jCN l D vwCl (tyR cy) cy ad ftR ksR (XtR ad) yX12_readProduct (.code yX12_readProduct cX12_readProduct 3 (some .int) :: Om) (rm_gr_ dp) 1 (W_X12_readProduct dp ad)) (hg6 : jCN l D vwCl (tyR cy) cy ad ftR ksR (XtR ad) yX12_readTurned (.code yX12_readTurned cX12_readTurned 2 (some .int) :: Om) (rm_gr_ dp) 1 (W_X12_readTurned dp ad)) (hg7 : jCN l D vwCl (tyR cy) cy ad ftR ksR (XtR ad) yX12_readP (.code yX12_readP cX12_readP 4 (some .int) :: Om) (rm_gr_ dp) 1 (W_X12_readP dp ad)) (hg8 : jCN l D vwCl (tyR cy) cy ad ftR ksR (XtR ad) yX12_readAtom (.code yX12_readAtom cX12_readAtom 5 (some .int) :: Om) (rm_gr_ dp) 1 (W_X12_readAtom dp ad)) (hg9 : jCN l D vwCl (tyR cy) cy ad ftR ksR (XtR ad) yX12_readFold (.code yX12_readFold cX12_readFold 5 (some .int) :: Om) (rm_gr_ dp) 1 (W_X12_readFold dp ad)) (hg10 : jCN l D vwCl (tyR cy) cy ad ftR ksR (XtR ad) yX12_readSet (.code yX12_readSet cX12_readSet 4 (some .int) :: Om) (rm_gr_ dp) 1 (W_X12_readSet dp ad)) (hJ : jOk l D vwCl (tyR cy) cy ad ftR ksR (XtR ad) Om RX12 cX12_readSum 3 1 (rm_gr_ (dp + 1)) Q J)  : ∀ (x1 : Int) (M : MM), ri_ x1 → w_X12_readSum_b5  (gr_  dp) Q  x1 M → J 5 [(0, .ref (ad 0)), (1, .int (Ii x1))] [] M := by
  have H9 : ∀ (n : Nat) (x1 : Int) (M : MM), ri_ x1 → jit (fun _ _ => False) (wb_X12_readSum_b5  (gr_  dp) Q ) n x1 M → J 5 [(0, .ref (ad 0)), (1, .int (Ii x1))] [] M := by
    intro n
    induction n with
    | zero => intro x1 M gx1 hF; exact False.elim hF
    | succ n ih =>
    intro x1 M gx1 hF
    have hF : wb_X12_readSum_b5  (gr_  dp) Q  (jit (fun _ _ => False) (wb_X12_readSum_b5  (gr_  dp) Q ) n) x1 M := hF
    unfold wb_X12_readSum_b5 at hF
    refine j_aload_n hJ dX12_readSum_5 rfl 0 rfl ?_
    refine j_gi hJ kR_0 fR_15_83 rfl fl_X12_625 dX12_readSum_6 (fun v1 ev1 gv1 => ?_)
    have hF := hF v1 ev1 gv1
    refine j_if_ne hJ 80 gv1 dX12_readSum_9 (by decide) (fun z2 => ?_) (fun z2 => ?_)
    · have hF := hF.1 z2
      refine j_iload_n hJ dX12_readSum_80 rfl 1 rfl ?_
      exact j_iret hJ rfl gx1 dX12_readSum_81 hF
    · have hF := hF.2 z2
      refine j_aload_n hJ dX12_readSum_12 rfl 0 rfl ?_
      refine j_ldc2 hJ 43 om_1409 (by decide) dX12_readSum_13 ?_
      refine j_callVz hJ (c_X12_isSign (l := l) (D := D) (cy := cy) (ad := ad) hin) rfl om_1359 ⟨rfl, rfl, by show _ ≤ _; simp only [rm_gr_]; omega, by show _ ≤ _; simp only [rm_gr_]; omega⟩ [.long (Ll 43)] mv_X12_657 hd_X12_isSignv kR_0 rfl rfl rfl (Nat.le_of_ble_eq_true rfl) dX12_readSum_16 ⟨43, rfl, lk_43, hF⟩ (fun r3 M4 gr3 qM4 => ?_)
      have hF := qM4 gr3
      refine j_if_ne hJ 32 (jz_ri gr3) dX12_readSum_19 (by decide) (fun z5 => ?_) (fun z5 => ?_)
      · have hF := hF.1 z5
        exact j_sub hJ [0, 1] rfl (k_X12_readSum_b32 hin  hg0 hg1 hg2 hg3 hg4 hg5 hg6 hg7 hg8 hg9 hg10 hJ ih x1 _ gx1 hF)
      · have hF := hF.2 z5
        refine j_aload_n hJ dX12_readSum_22 rfl 0 rfl ?_
        refine j_ldc2 hJ 45 om_1410 (by decide) dX12_readSum_23 ?_
        refine j_callVz hJ (c_X12_isSign (l := l) (D := D) (cy := cy) (ad := ad) hin) rfl om_1359 ⟨rfl, rfl, by show _ ≤ _; simp only [rm_gr_]; omega, by show _ ≤ _; simp only [rm_gr_]; omega⟩ [.long (Ll 45)] mv_X12_657 hd_X12_isSignv kR_0 rfl rfl rfl (Nat.le_of_ble_eq_true rfl) dX12_readSum_26 ⟨45, rfl, lk_45, hF⟩ (fun r6 M7 gr6 qM7 => ?_)
        have hF := qM7 gr6
        refine j_if_eq hJ 80 (jz_ri gr6) dX12_readSum_29 (by decide) (fun z8 => ?_) (fun z8 => ?_)
        · have hF := hF.1 z8
          refine j_iload_n hJ dX12_readSum_80 rfl 1 rfl ?_
          exact j_iret hJ rfl gx1 dX12_readSum_81 hF
        · have hF := hF.2 z8
          exact j_sub hJ [0, 1] rfl (k_X12_readSum_b32 hin  hg0 hg1 hg2 hg3 hg4 hg5 hg6 hg7 hg8 hg9 hg10 hJ ih x1 _ gx1 hF)
  intro x1 M gx1 hF
  obtain ⟨n, hF⟩ := hF
  exact H9 n x1 M gx1 hF
set_option maxHeartbeats 4000000 in
set_option maxRecDepth 100000 in
theorem s_X12_readSum {l : Launch} {D : va_G} {cy : Nat → ClassId} {ad : Nat → Nat} {dp : Nat} (hin : jIn ad ksR.length) (hg0 : jCN l D vwCl (tyR cy) cy ad ftR ksR (XtR ad) yX12_readE (.code yX12_readE cX12_readE 3 (some .int) :: Om) (rm_gr_ dp) 1 (W_X12_readE dp ad)) (hg1 : jCN l D vwCl (tyR cy) cy ad ftR ksR (XtR ad) yX12_readAnd (.code yX12_readAnd cX12_readAnd 3 (some .int) :: Om) (rm_gr_ dp) 1 (W_X12_readAnd dp ad)) (hg2 : jCN l D vwCl (tyR cy) cy ad ftR ksR (XtR ad) yX12_readNot (.code yX12_readNot cX12_readNot 2 (some .int) :: Om) (rm_gr_ dp) 1 (W_X12_readNot dp ad)) (hg3 : jCN l D vwCl (tyR cy) cy ad ftR ksR (XtR ad) yX12_readCompared (.code yX12_readCompared cX12_readCompared 4 (some .int) :: Om) (rm_gr_ dp) 1 (W_X12_readCompared dp ad)) (hg4 : jCN l D vwCl (tyR cy) cy ad ftR ksR (XtR ad) yX12_readSum (.code yX12_readSum cX12_readSum 3 (some .int) :: Om) (rm_gr_ dp) 1 (W_X12_readSum dp ad)) (hg5 : jCN l D vwCl (tyR cy) cy ad ftR ksR (XtR ad) yX12_readProduct (.code yX12_readProduct cX12_readProduct 3 (some .int) :: Om) (rm_gr_ dp) 1 (W_X12_readProduct dp ad)) (hg6 : jCN l D vwCl (tyR cy) cy ad ftR ksR (XtR ad) yX12_readTurned (.code yX12_readTurned cX12_readTurned 2 (some .int) :: Om) (rm_gr_ dp) 1 (W_X12_readTurned dp ad)) (hg7 : jCN l D vwCl (tyR cy) cy ad ftR ksR (XtR ad) yX12_readP (.code yX12_readP cX12_readP 4 (some .int) :: Om) (rm_gr_ dp) 1 (W_X12_readP dp ad)) (hg8 : jCN l D vwCl (tyR cy) cy ad ftR ksR (XtR ad) yX12_readAtom (.code yX12_readAtom cX12_readAtom 5 (some .int) :: Om) (rm_gr_ dp) 1 (W_X12_readAtom dp ad)) (hg9 : jCN l D vwCl (tyR cy) cy ad ftR ksR (XtR ad) yX12_readFold (.code yX12_readFold cX12_readFold 5 (some .int) :: Om) (rm_gr_ dp) 1 (W_X12_readFold dp ad)) (hg10 : jCN l D vwCl (tyR cy) cy ad ftR ksR (XtR ad) yX12_readSet (.code yX12_readSet cX12_readSet 4 (some .int) :: Om) (rm_gr_ dp) 1 (W_X12_readSet dp ad)) : jCN l D vwCl (tyR cy) cy ad ftR ksR (XtR ad) yX12_readSum (.code yX12_readSum cX12_readSum 3 (some .int) :: Om) (rm_gr_ (dp + 1)) 1 (W_X12_readSum (dp + 1) ad) := by
  refine jCN_of (y := yX12_readSum) (cc := cX12_readSum) (nL := 3) (rk := 1) (rm := (rm_gr_ (dp + 1))) (own := RX12) (tyR_ok cy) hin (XtR_ok ad) Om_good (by decide) rfl ?_
  intro Q av M hF
  obtain ⟨rfl, hF⟩ := hF
  refine ⟨Nat.le_of_ble_eq_true rfl, fun J hJ => ?_⟩
  show J 0 [(0, .ref (ad 0))] [] M
  have hF : b_X12_readSum  (gr_  dp) Q  M := hF
  unfold b_X12_readSum at hF
  refine j_aload_n hJ dX12_readSum_0 rfl 0 rfl ?_
  refine j_callVi hJ hg5 rfl om_1405 ⟨rfl, rfl, by show _ ≤ _; simp only [rm_gr_]; omega, by show _ ≤ _; simp only [rm_gr_]; omega⟩ [] mv_X12_714 hd_X12_readProductv kR_0 rfl rfl rfl (Nat.le_of_ble_eq_true rfl) dX12_readSum_1 ⟨rfl, hF⟩ (fun r1 M2 gr1 qM2 => ?_)
  have hF := qM2 gr1
  refine j_istore_n (lv' := [(1, .int (Ii r1)), (0, .ref (ad 0))]) hJ dX12_readSum_4 rfl (by decide) rfl ?_
  exact j_sub hJ [1, 0] rfl (k_X12_readSum_b5 hin  hg0 hg1 hg2 hg3 hg4 hg5 hg6 hg7 hg8 hg9 hg10 hJ  r1 _ gr1 hF)
set_option maxHeartbeats 4000000 in
set_option maxRecDepth 100000 in
theorem k_X12_readProduct_b75 {l : Launch} {D : va_G} {cy : Nat → ClassId} {ad : Nat → Nat} {dp : Nat} {Q : Int → MM → Prop} {J : Nat → List (Nat × Value) → List Value → MM → Prop} (hin : jIn ad ksR.length)   (hg0 : jCN l D vwCl (tyR cy) cy ad ftR ksR (XtR ad) yX12_readE (.code yX12_readE cX12_readE 3 (some .int) :: Om) (rm_gr_ dp) 1 (W_X12_readE dp ad)) (hg1 : jCN l D vwCl (tyR cy) cy ad ftR ksR (XtR ad) yX12_readAnd (.code yX12_readAnd cX12_readAnd 3 (some .int) :: Om) (rm_gr_ dp) 1 (W_X12_readAnd dp ad)) (hg2 : jCN l D vwCl (tyR cy) cy ad ftR ksR (XtR ad) yX12_readNot (.code yX12_readNot cX12_readNot 2 (some .int) :: Om) (rm_gr_ dp) 1 (W_X12_readNot dp ad)) (hg3 : jCN l D vwCl (tyR cy) cy ad ftR ksR (XtR ad) yX12_readCompared (.code yX12_readCompared cX12_readCompared 4 (some .int) :: Om) (rm_gr_ dp) 1 (W_X12_readCompared dp ad)) (hg4 : jCN l D vwCl (tyR cy) cy ad ftR ksR (XtR ad) yX12_readSum (.code yX12_readSum cX12_readSum 3 (some .int) :: Om) (rm_gr_ dp) 1 (W_X12_readSum dp ad)) (hg5 : jCN l D vwCl (tyR cy) cy ad ftR ksR (XtR ad) yX12_readProduct (.code yX12_readProduct cX12_readProduct 3 (some .int) :: Om) (rm_gr_ dp) 1 (W_X12_readProduct dp ad)) (hg6 : jCN l D vwCl (tyR cy) cy ad ftR ksR (XtR ad) yX12_readTurned (.code yX12_readTurned cX12_readTurned 2 (some .int) :: Om) (rm_gr_ dp) 1 (W_X12_readTurned dp ad)) (hg7 : jCN l D vwCl (tyR cy) cy ad ftR ksR (XtR ad) yX12_readP (.code yX12_readP cX12_readP 4 (some .int) :: Om) (rm_gr_ dp) 1 (W_X12_readP dp ad)) (hg8 : jCN l D vwCl (tyR cy) cy ad ftR ksR (XtR ad) yX12_readAtom (.code yX12_readAtom cX12_readAtom 5 (some .int) :: Om) (rm_gr_ dp) 1 (W_X12_readAtom dp ad)) (hg9 : jCN l D vwCl (tyR cy) cy ad ftR ksR (XtR ad) yX12_readFold (.code yX12_readFold cX12_readFold 5 (some .int) :: Om) (rm_gr_ dp) 1 (W_X12_readFold dp ad)) (hg10 : jCN l D vwCl (tyR cy) cy ad ftR ksR (XtR ad) yX12_readSet (.code yX12_readSet cX12_readSet 4 (some .int) :: Om) (rm_gr_ dp) 1 (W_X12_readSet dp ad)) (hJ : jOk l D vwCl (tyR cy) cy ad ftR ksR (XtR ad) Om RX12 cX12_readProduct 3 1 (rm_gr_ (dp + 1)) Q J) {K5 : Int → MM → Prop} (hK5 : ∀ (x1 : Int) (M : MM), ri_ x1 → K5 x1 M → J 5 [(0, .ref (ad 0)), (1, .int (Ii x1))] [] M) : ∀ (x1 s0 : Int) (M : MM), ri_ x1 → ri_ s0 → w_X12_readProduct_b75  (gr_  dp) Q K5 x1 s0 M → J 75 [(0, .ref (ad 0)), (1, .int (Ii x1))] [.int (Ii s0), .ref (ad 0)] M := by
  intro x1 s0 M gx1 gs0 hF
  unfold w_X12_readProduct_b75 at hF
  refine j_callVi hJ (c_X12_node (l := l) (D := D) (cy := cy) (ad := ad) hin) rfl om_1375 ⟨rfl, rfl, by show _ ≤ _; simp only [rm_gr_]; omega, by show _ ≤ _; simp only [rm_gr_]; omega⟩ [.int (Ii s0)] mv_X12_683 hd_X12_nodev kR_0 rfl rfl rfl (Nat.le_of_ble_eq_true rfl) dX12_readProduct_75 ⟨s0, rfl, gs0, hF⟩ (fun r1 M2 gr1 qM2 => ?_)
  have hF := qM2 gr1
  refine j_istore_n (lv' := [(2, .int (Ii r1)), (0, .ref (ad 0)), (1, .int (Ii x1))]) hJ dX12_readProduct_78 rfl (by decide) rfl ?_
  refine j_aload_n hJ dX12_readProduct_79 rfl 1 rfl ?_
  refine j_callVv hJ (c_X12_advance (l := l) (D := D) (cy := cy) (ad := ad) hin) rfl om_1355 ⟨rfl, rfl, by show _ ≤ _; simp only [rm_gr_]; omega, by show _ ≤ _; simp only [rm_gr_]; omega⟩ [] mv_X12_661 hd_X12_advancev kR_0 rfl rfl rfl (Nat.le_of_ble_eq_true rfl) dX12_readProduct_80 ⟨rfl, hF⟩ (fun M4 qM4 => ?_)
  have hF := qM4
  refine j_aload_n hJ dX12_readProduct_83 rfl 1 rfl ?_
  refine j_gr (e := 67) hJ kR_0 fR_15_87 fl_X12_275 dX12_readProduct_84 rfl ?_
  refine j_iload_n hJ dX12_readProduct_87 rfl 0 rfl ?_
  refine j_iload_n hJ dX12_readProduct_88 rfl 2 rfl ?_
  refine j_iast hJ gr1 gx1 kR_67 hF.1 hF.2.1 dX12_readProduct_89 (fun M5 eM5 => ?_)
  have hF := hF.2.2 M5 eM5
  refine j_aload_n hJ dX12_readProduct_90 rfl 1 rfl ?_
  refine j_gr (e := 68) hJ kR_0 fR_15_88 fl_X12_278 dX12_readProduct_91 rfl ?_
  refine j_iload_n hJ dX12_readProduct_94 rfl 0 rfl ?_
  refine j_aload_n hJ dX12_readProduct_95 rfl 1 rfl ?_
  refine j_callVi hJ hg6 rfl om_1411 ⟨rfl, rfl, by show _ ≤ _; simp only [rm_gr_]; omega, by show _ ≤ _; simp only [rm_gr_]; omega⟩ [] mv_X12_721 hd_X12_readTurnedv kR_0 rfl rfl rfl (Nat.le_of_ble_eq_true rfl) dX12_readProduct_96 ⟨rfl, hF⟩ (fun r6 M7 gr6 qM7 => ?_)
  have hF := qM7 gr6
  refine j_iast hJ gr1 gr6 kR_68 hF.1 hF.2.1 dX12_readProduct_99 (fun M8 eM8 => ?_)
  have hF := hF.2.2 M8 eM8
  refine j_iload_n hJ dX12_readProduct_100 rfl 0 rfl ?_
  refine j_istore_n (lv' := [(1, .int (Ii r1)), (2, .int (Ii r1)), (0, .ref (ad 0))]) hJ dX12_readProduct_101 rfl (by decide) rfl ?_
  refine j_goto hJ 5 dX12_readProduct_102 (by decide) ?_
  exact j_sub hJ [2, 0] rfl (hK5 r1 _ gr1 hF)
set_option maxHeartbeats 4000000 in
set_option maxRecDepth 100000 in
theorem k_X12_readProduct_b42 {l : Launch} {D : va_G} {cy : Nat → ClassId} {ad : Nat → Nat} {dp : Nat} {Q : Int → MM → Prop} {J : Nat → List (Nat × Value) → List Value → MM → Prop} (hin : jIn ad ksR.length)   (hg0 : jCN l D vwCl (tyR cy) cy ad ftR ksR (XtR ad) yX12_readE (.code yX12_readE cX12_readE 3 (some .int) :: Om) (rm_gr_ dp) 1 (W_X12_readE dp ad)) (hg1 : jCN l D vwCl (tyR cy) cy ad ftR ksR (XtR ad) yX12_readAnd (.code yX12_readAnd cX12_readAnd 3 (some .int) :: Om) (rm_gr_ dp) 1 (W_X12_readAnd dp ad)) (hg2 : jCN l D vwCl (tyR cy) cy ad ftR ksR (XtR ad) yX12_readNot (.code yX12_readNot cX12_readNot 2 (some .int) :: Om) (rm_gr_ dp) 1 (W_X12_readNot dp ad)) (hg3 : jCN l D vwCl (tyR cy) cy ad ftR ksR (XtR ad) yX12_readCompared (.code yX12_readCompared cX12_readCompared 4 (some .int) :: Om) (rm_gr_ dp) 1 (W_X12_readCompared dp ad)) (hg4 : jCN l D vwCl (tyR cy) cy ad ftR ksR (XtR ad) yX12_readSum (.code yX12_readSum cX12_readSum 3 (some .int) :: Om) (rm_gr_ dp) 1 (W_X12_readSum dp ad)) (hg5 : jCN l D vwCl (tyR cy) cy ad ftR ksR (XtR ad) yX12_readProduct (.code yX12_readProduct cX12_readProduct 3 (some .int) :: Om) (rm_gr_ dp) 1 (W_X12_readProduct dp ad)) (hg6 : jCN l D vwCl (tyR cy) cy ad ftR ksR (XtR ad) yX12_readTurned (.code yX12_readTurned cX12_readTurned 2 (some .int) :: Om) (rm_gr_ dp) 1 (W_X12_readTurned dp ad)) (hg7 : jCN l D vwCl (tyR cy) cy ad ftR ksR (XtR ad) yX12_readP (.code yX12_readP cX12_readP 4 (some .int) :: Om) (rm_gr_ dp) 1 (W_X12_readP dp ad)) (hg8 : jCN l D vwCl (tyR cy) cy ad ftR ksR (XtR ad) yX12_readAtom (.code yX12_readAtom cX12_readAtom 5 (some .int) :: Om) (rm_gr_ dp) 1 (W_X12_readAtom dp ad)) (hg9 : jCN l D vwCl (tyR cy) cy ad ftR ksR (XtR ad) yX12_readFold (.code yX12_readFold cX12_readFold 5 (some .int) :: Om) (rm_gr_ dp) 1 (W_X12_readFold dp ad)) (hg10 : jCN l D vwCl (tyR cy) cy ad ftR ksR (XtR ad) yX12_readSet (.code yX12_readSet cX12_readSet 4 (some .int) :: Om) (rm_gr_ dp) 1 (W_X12_readSet dp ad)) (hJ : jOk l D vwCl (tyR cy) cy ad ftR ksR (XtR ad) Om RX12 cX12_readProduct 3 1 (rm_gr_ (dp + 1)) Q J) {K5 : Int → MM → Prop} (hK5 : ∀ (x1 : Int) (M : MM), ri_ x1 → K5 x1 M → J 5 [(0, .ref (ad 0)), (1, .int (Ii x1))] [] M) : ∀ (x1 : Int) (M : MM), ri_ x1 → w_X12_readProduct_b42  (gr_  dp) Q K5 x1 M → J 42 [(0, .ref (ad 0)), (1, .int (Ii x1))] [] M := by
  intro x1 M gx1 hF
  unfold w_X12_readProduct_b42 at hF
  refine j_aload_n hJ dX12_readProduct_42 rfl 0 rfl ?_
  refine j_aload_n hJ dX12_readProduct_43 rfl 0 rfl ?_
  refine j_ldc2 hJ 42 om_1415 (by decide) dX12_readProduct_44 ?_
  refine j_callVz hJ (c_X12_isSign (l := l) (D := D) (cy := cy) (ad := ad) hin) rfl om_1359 ⟨rfl, rfl, by show _ ≤ _; simp only [rm_gr_]; omega, by show _ ≤ _; simp only [rm_gr_]; omega⟩ [.long (Ll 42)] mv_X12_657 hd_X12_isSignv kR_0 rfl rfl rfl (Nat.le_of_ble_eq_true rfl) dX12_readProduct_47 ⟨42, rfl, lk_42, hF⟩ (fun r1 M2 gr1 qM2 => ?_)
  have hF := qM2 gr1
  refine j_if_eq hJ 58 (jz_ri gr1) dX12_readProduct_50 (by decide) (fun z3 => ?_) (fun z3 => ?_)
  · have hF := hF.1 z3
    refine j_aload_n hJ dX12_readProduct_58 rfl 0 rfl ?_
    refine j_ldc2 hJ 47 om_1416 (by decide) dX12_readProduct_59 ?_
    refine j_callVz hJ (c_X12_isSign (l := l) (D := D) (cy := cy) (ad := ad) hin) rfl om_1359 ⟨rfl, rfl, by show _ ≤ _; simp only [rm_gr_]; omega, by show _ ≤ _; simp only [rm_gr_]; omega⟩ [.long (Ll 47)] mv_X12_657 hd_X12_isSignv kR_0 rfl rfl rfl (Nat.le_of_ble_eq_true rfl) dX12_readProduct_62 ⟨47, rfl, lk_47, hF⟩ (fun r4 M5 gr4 qM5 => ?_)
    have hF := qM5 gr4
    refine j_if_eq hJ 73 (jz_ri gr4) dX12_readProduct_65 (by decide) (fun z6 => ?_) (fun z6 => ?_)
    · have hF := hF.1 z6
      refine j_bipush hJ dX12_readProduct_73 (by decide) ?_
      exact j_sub hJ [0, 1] rfl (k_X12_readProduct_b75 hin  hg0 hg1 hg2 hg3 hg4 hg5 hg6 hg7 hg8 hg9 hg10 hJ hK5 x1 112 _ gx1 rk_112 hF)
    · have hF := hF.2 z6
      refine j_bipush hJ dX12_readProduct_68 (by decide) ?_
      refine j_goto hJ 75 dX12_readProduct_70 (by decide) ?_
      exact j_sub hJ [0, 1] rfl (k_X12_readProduct_b75 hin  hg0 hg1 hg2 hg3 hg4 hg5 hg6 hg7 hg8 hg9 hg10 hJ hK5 x1 111 _ gx1 rk_111 hF)
  · have hF := hF.2 z3
    refine j_bipush hJ dX12_readProduct_53 (by decide) ?_
    refine j_goto hJ 75 dX12_readProduct_55 (by decide) ?_
    exact j_sub hJ [0, 1] rfl (k_X12_readProduct_b75 hin  hg0 hg1 hg2 hg3 hg4 hg5 hg6 hg7 hg8 hg9 hg10 hJ hK5 x1 110 _ gx1 rk_110 hF)
set_option maxHeartbeats 4000000 in
set_option maxRecDepth 100000 in
theorem k_X12_readProduct_b5 {l : Launch} {D : va_G} {cy : Nat → ClassId} {ad : Nat → Nat} {dp : Nat} {Q : Int → MM → Prop} {J : Nat → List (Nat × Value) → List Value → MM → Prop} (hin : jIn ad ksR.length)   (hg0 : jCN l D vwCl (tyR cy) cy ad ftR ksR (XtR ad) yX12_readE (.code yX12_readE cX12_readE 3 (some .int) :: Om) (rm_gr_ dp) 1 (W_X12_readE dp ad)) (hg1 : jCN l D vwCl (tyR cy) cy ad ftR ksR (XtR ad) yX12_readAnd (.code yX12_readAnd cX12_readAnd 3 (some .int) :: Om) (rm_gr_ dp) 1 (W_X12_readAnd dp ad)) (hg2 : jCN l D vwCl (tyR cy) cy ad ftR ksR (XtR ad) yX12_readNot (.code yX12_readNot cX12_readNot 2 (some .int) :: Om) (rm_gr_ dp) 1 (W_X12_readNot dp ad)) (hg3 : jCN l D vwCl (tyR cy) cy ad ftR ksR (XtR ad) yX12_readCompared (.code yX12_readCompared cX12_readCompared 4 (some .int) :: Om) (rm_gr_ dp) 1 (W_X12_readCompared dp ad)) (hg4 : jCN l D vwCl (tyR cy) cy ad ftR ksR (XtR ad) yX12_readSum (.code yX12_readSum cX12_readSum 3 (some .int) :: Om) (rm_gr_ dp) 1 (W_X12_readSum dp ad)) (hg5 : jCN l D vwCl (tyR cy) cy ad ftR ksR (XtR ad) yX12_readProduct (.code yX12_readProduct cX12_readProduct 3 (some .int) :: Om) (rm_gr_ dp) 1 (W_X12_readProduct dp ad)) (hg6 : jCN l D vwCl (tyR cy) cy ad ftR ksR (XtR ad) yX12_readTurned (.code yX12_readTurned cX12_readTurned 2 (some .int) :: Om) (rm_gr_ dp) 1 (W_X12_readTurned dp ad)) (hg7 : jCN l D vwCl (tyR cy) cy ad ftR ksR (XtR ad) yX12_readP (.code yX12_readP cX12_readP 4 (some .int) :: Om) (rm_gr_ dp) 1 (W_X12_readP dp ad)) (hg8 : jCN l D vwCl (tyR cy) cy ad ftR ksR (XtR ad) yX12_readAtom (.code yX12_readAtom cX12_readAtom 5 (some .int) :: Om) (rm_gr_ dp) 1 (W_X12_readAtom dp ad)) (hg9 : jCN l D vwCl (tyR cy) cy ad ftR ksR (XtR ad) yX12_readFold (.code yX12_readFold cX12_readFold 5 (some .int) :: Om) (rm_gr_ dp) 1 (W_X12_readFold dp ad)) (hg10 : jCN l D vwCl (tyR cy) cy ad ftR ksR (XtR ad) yX12_readSet (.code yX12_readSet cX12_readSet 4 (some .int) :: Om) (rm_gr_ dp) 1 (W_X12_readSet dp ad)) (hJ : jOk l D vwCl (tyR cy) cy ad ftR ksR (XtR ad) Om RX12 cX12_readProduct 3 1 (rm_gr_ (dp + 1)) Q J)  : ∀ (x1 : Int) (M : MM), ri_ x1 → w_X12_readProduct_b5  (gr_  dp) Q  x1 M → J 5 [(0, .ref (ad 0)), (1, .int (Ii x1))] [] M := by
  have H9 : ∀ (n : Nat) (x1 : Int) (M : MM), ri_ x1 → jit (fun _ _ => False) (wb_X12_readProduct_b5  (gr_  dp) Q ) n x1 M → J 5 [(0, .ref (ad 0)), (1, .int (Ii x1))] [] M := by
    intro n
    induction n with
    | zero => intro x1 M gx1 hF; exact False.elim hF
    | succ n ih =>
    intro x1 M gx1 hF
    have hF : wb_X12_readProduct_b5  (gr_  dp) Q  (jit (fun _ _ => False) (wb_X12_readProduct_b5  (gr_  dp) Q ) n) x1 M := hF
    unfold wb_X12_readProduct_b5 at hF
    refine j_aload_n hJ dX12_readProduct_5 rfl 0 rfl ?_
    refine j_gi hJ kR_0 fR_15_83 rfl fl_X12_625 dX12_readProduct_6 (fun v1 ev1 gv1 => ?_)
    have hF := hF v1 ev1 gv1
    refine j_if_ne hJ 105 gv1 dX12_readProduct_9 (by decide) (fun z2 => ?_) (fun z2 => ?_)
    · have hF := hF.1 z2
      refine j_iload_n hJ dX12_readProduct_105 rfl 1 rfl ?_
      exact j_iret hJ rfl gx1 dX12_readProduct_106 hF
    · have hF := hF.2 z2
      refine j_aload_n hJ dX12_readProduct_12 rfl 0 rfl ?_
      refine j_ldc2 hJ 42 om_1415 (by decide) dX12_readProduct_13 ?_
      refine j_callVz hJ (c_X12_isSign (l := l) (D := D) (cy := cy) (ad := ad) hin) rfl om_1359 ⟨rfl, rfl, by show _ ≤ _; simp only [rm_gr_]; omega, by show _ ≤ _; simp only [rm_gr_]; omega⟩ [.long (Ll 42)] mv_X12_657 hd_X12_isSignv kR_0 rfl rfl rfl (Nat.le_of_ble_eq_true rfl) dX12_readProduct_16 ⟨42, rfl, lk_42, hF⟩ (fun r3 M4 gr3 qM4 => ?_)
      have hF := qM4 gr3
      refine j_if_ne hJ 42 (jz_ri gr3) dX12_readProduct_19 (by decide) (fun z5 => ?_) (fun z5 => ?_)
      · have hF := hF.1 z5
        exact j_sub hJ [0, 1] rfl (k_X12_readProduct_b42 hin  hg0 hg1 hg2 hg3 hg4 hg5 hg6 hg7 hg8 hg9 hg10 hJ ih x1 _ gx1 hF)
      · have hF := hF.2 z5
        refine j_aload_n hJ dX12_readProduct_22 rfl 0 rfl ?_
        refine j_ldc2 hJ 47 om_1416 (by decide) dX12_readProduct_23 ?_
        refine j_callVz hJ (c_X12_isSign (l := l) (D := D) (cy := cy) (ad := ad) hin) rfl om_1359 ⟨rfl, rfl, by show _ ≤ _; simp only [rm_gr_]; omega, by show _ ≤ _; simp only [rm_gr_]; omega⟩ [.long (Ll 47)] mv_X12_657 hd_X12_isSignv kR_0 rfl rfl rfl (Nat.le_of_ble_eq_true rfl) dX12_readProduct_26 ⟨47, rfl, lk_47, hF⟩ (fun r6 M7 gr6 qM7 => ?_)
        have hF := qM7 gr6
        refine j_if_ne hJ 42 (jz_ri gr6) dX12_readProduct_29 (by decide) (fun z8 => ?_) (fun z8 => ?_)
        · have hF := hF.1 z8
          exact j_sub hJ [0, 1] rfl (k_X12_readProduct_b42 hin  hg0 hg1 hg2 hg3 hg4 hg5 hg6 hg7 hg8 hg9 hg10 hJ ih x1 _ gx1 hF)
        · have hF := hF.2 z8
          refine j_aload_n hJ dX12_readProduct_32 rfl 0 rfl ?_
          refine j_ldc2 hJ 37 om_1417 (by decide) dX12_readProduct_33 ?_
          refine j_callVz hJ (c_X12_isSign (l := l) (D := D) (cy := cy) (ad := ad) hin) rfl om_1359 ⟨rfl, rfl, by show _ ≤ _; simp only [rm_gr_]; omega, by show _ ≤ _; simp only [rm_gr_]; omega⟩ [.long (Ll 37)] mv_X12_657 hd_X12_isSignv kR_0 rfl rfl rfl (Nat.le_of_ble_eq_true rfl) dX12_readProduct_36 ⟨37, rfl, lk_37, hF⟩ (fun r9 M10 gr9 qM10 => ?_)
          have hF := qM10 gr9
          refine j_if_eq hJ 105 (jz_ri gr9) dX12_readProduct_39 (by decide) (fun z11 => ?_) (fun z11 => ?_)
          · have hF := hF.1 z11
            refine j_iload_n hJ dX12_readProduct_105 rfl 1 rfl ?_
            exact j_iret hJ rfl gx1 dX12_readProduct_106 hF
          · have hF := hF.2 z11
            exact j_sub hJ [0, 1] rfl (k_X12_readProduct_b42 hin  hg0 hg1 hg2 hg3 hg4 hg5 hg6 hg7 hg8 hg9 hg10 hJ ih x1 _ gx1 hF)
  intro x1 M gx1 hF
  obtain ⟨n, hF⟩ := hF
  exact H9 n x1 M gx1 hF
set_option maxHeartbeats 4000000 in
set_option maxRecDepth 100000 in
theorem s_X12_readProduct {l : Launch} {D : va_G} {cy : Nat → ClassId} {ad : Nat → Nat} {dp : Nat} (hin : jIn ad ksR.length) (hg0 : jCN l D vwCl (tyR cy) cy ad ftR ksR (XtR ad) yX12_readE (.code yX12_readE cX12_readE 3 (some .int) :: Om) (rm_gr_ dp) 1 (W_X12_readE dp ad)) (hg1 : jCN l D vwCl (tyR cy) cy ad ftR ksR (XtR ad) yX12_readAnd (.code yX12_readAnd cX12_readAnd 3 (some .int) :: Om) (rm_gr_ dp) 1 (W_X12_readAnd dp ad)) (hg2 : jCN l D vwCl (tyR cy) cy ad ftR ksR (XtR ad) yX12_readNot (.code yX12_readNot cX12_readNot 2 (some .int) :: Om) (rm_gr_ dp) 1 (W_X12_readNot dp ad)) (hg3 : jCN l D vwCl (tyR cy) cy ad ftR ksR (XtR ad) yX12_readCompared (.code yX12_readCompared cX12_readCompared 4 (some .int) :: Om) (rm_gr_ dp) 1 (W_X12_readCompared dp ad)) (hg4 : jCN l D vwCl (tyR cy) cy ad ftR ksR (XtR ad) yX12_readSum (.code yX12_readSum cX12_readSum 3 (some .int) :: Om) (rm_gr_ dp) 1 (W_X12_readSum dp ad)) (hg5 : jCN l D vwCl (tyR cy) cy ad ftR ksR (XtR ad) yX12_readProduct (.code yX12_readProduct cX12_readProduct 3 (some .int) :: Om) (rm_gr_ dp) 1 (W_X12_readProduct dp ad)) (hg6 : jCN l D vwCl (tyR cy) cy ad ftR ksR (XtR ad) yX12_readTurned (.code yX12_readTurned cX12_readTurned 2 (some .int) :: Om) (rm_gr_ dp) 1 (W_X12_readTurned dp ad)) (hg7 : jCN l D vwCl (tyR cy) cy ad ftR ksR (XtR ad) yX12_readP (.code yX12_readP cX12_readP 4 (some .int) :: Om) (rm_gr_ dp) 1 (W_X12_readP dp ad)) (hg8 : jCN l D vwCl (tyR cy) cy ad ftR ksR (XtR ad) yX12_readAtom (.code yX12_readAtom cX12_readAtom 5 (some .int) :: Om) (rm_gr_ dp) 1 (W_X12_readAtom dp ad)) (hg9 : jCN l D vwCl (tyR cy) cy ad ftR ksR (XtR ad) yX12_readFold (.code yX12_readFold cX12_readFold 5 (some .int) :: Om) (rm_gr_ dp) 1 (W_X12_readFold dp ad)) (hg10 : jCN l D vwCl (tyR cy) cy ad ftR ksR (XtR ad) yX12_readSet (.code yX12_readSet cX12_readSet 4 (some .int) :: Om) (rm_gr_ dp) 1 (W_X12_readSet dp ad)) : jCN l D vwCl (tyR cy) cy ad ftR ksR (XtR ad) yX12_readProduct (.code yX12_readProduct cX12_readProduct 3 (some .int) :: Om) (rm_gr_ (dp + 1)) 1 (W_X12_readProduct (dp + 1) ad) := by
  refine jCN_of (y := yX12_readProduct) (cc := cX12_readProduct) (nL := 3) (rk := 1) (rm := (rm_gr_ (dp + 1))) (own := RX12) (tyR_ok cy) hin (XtR_ok ad) Om_good (by decide) rfl ?_
  intro Q av M hF
  obtain ⟨rfl, hF⟩ := hF
  refine ⟨Nat.le_of_ble_eq_true rfl, fun J hJ => ?_⟩
  show J 0 [(0, .ref (ad 0))] [] M
  have hF : b_X12_readProduct  (gr_  dp) Q  M := hF
  unfold b_X12_readProduct at hF
  refine j_aload_n hJ dX12_readProduct_0 rfl 0 rfl ?_
  refine j_callVi hJ hg6 rfl om_1411 ⟨rfl, rfl, by show _ ≤ _; simp only [rm_gr_]; omega, by show _ ≤ _; simp only [rm_gr_]; omega⟩ [] mv_X12_721 hd_X12_readTurnedv kR_0 rfl rfl rfl (Nat.le_of_ble_eq_true rfl) dX12_readProduct_1 ⟨rfl, hF⟩ (fun r1 M2 gr1 qM2 => ?_)
  have hF := qM2 gr1
  refine j_istore_n (lv' := [(1, .int (Ii r1)), (0, .ref (ad 0))]) hJ dX12_readProduct_4 rfl (by decide) rfl ?_
  exact j_sub hJ [1, 0] rfl (k_X12_readProduct_b5 hin  hg0 hg1 hg2 hg3 hg4 hg5 hg6 hg7 hg8 hg9 hg10 hJ  r1 _ gr1 hF)
set_option maxHeartbeats 4000000 in
set_option maxRecDepth 100000 in
theorem k_X12_readTurned_b17 {l : Launch} {D : va_G} {cy : Nat → ClassId} {ad : Nat → Nat} {dp : Nat} {Q : Int → MM → Prop} {J : Nat → List (Nat × Value) → List Value → MM → Prop} (hin : jIn ad ksR.length)   (hg0 : jCN l D vwCl (tyR cy) cy ad ftR ksR (XtR ad) yX12_readE (.code yX12_readE cX12_readE 3 (some .int) :: Om) (rm_gr_ dp) 1 (W_X12_readE dp ad)) (hg1 : jCN l D vwCl (tyR cy) cy ad ftR ksR (XtR ad) yX12_readAnd (.code yX12_readAnd cX12_readAnd 3 (some .int) :: Om) (rm_gr_ dp) 1 (W_X12_readAnd dp ad)) (hg2 : jCN l D vwCl (tyR cy) cy ad ftR ksR (XtR ad) yX12_readNot (.code yX12_readNot cX12_readNot 2 (some .int) :: Om) (rm_gr_ dp) 1 (W_X12_readNot dp ad)) (hg3 : jCN l D vwCl (tyR cy) cy ad ftR ksR (XtR ad) yX12_readCompared (.code yX12_readCompared cX12_readCompared 4 (some .int) :: Om) (rm_gr_ dp) 1 (W_X12_readCompared dp ad)) (hg4 : jCN l D vwCl (tyR cy) cy ad ftR ksR (XtR ad) yX12_readSum (.code yX12_readSum cX12_readSum 3 (some .int) :: Om) (rm_gr_ dp) 1 (W_X12_readSum dp ad)) (hg5 : jCN l D vwCl (tyR cy) cy ad ftR ksR (XtR ad) yX12_readProduct (.code yX12_readProduct cX12_readProduct 3 (some .int) :: Om) (rm_gr_ dp) 1 (W_X12_readProduct dp ad)) (hg6 : jCN l D vwCl (tyR cy) cy ad ftR ksR (XtR ad) yX12_readTurned (.code yX12_readTurned cX12_readTurned 2 (some .int) :: Om) (rm_gr_ dp) 1 (W_X12_readTurned dp ad)) (hg7 : jCN l D vwCl (tyR cy) cy ad ftR ksR (XtR ad) yX12_readP (.code yX12_readP cX12_readP 4 (some .int) :: Om) (rm_gr_ dp) 1 (W_X12_readP dp ad)) (hg8 : jCN l D vwCl (tyR cy) cy ad ftR ksR (XtR ad) yX12_readAtom (.code yX12_readAtom cX12_readAtom 5 (some .int) :: Om) (rm_gr_ dp) 1 (W_X12_readAtom dp ad)) (hg9 : jCN l D vwCl (tyR cy) cy ad ftR ksR (XtR ad) yX12_readFold (.code yX12_readFold cX12_readFold 5 (some .int) :: Om) (rm_gr_ dp) 1 (W_X12_readFold dp ad)) (hg10 : jCN l D vwCl (tyR cy) cy ad ftR ksR (XtR ad) yX12_readSet (.code yX12_readSet cX12_readSet 4 (some .int) :: Om) (rm_gr_ dp) 1 (W_X12_readSet dp ad)) (hJ : jOk l D vwCl (tyR cy) cy ad ftR ksR (XtR ad) Om RX12 cX12_readTurned 2 1 (rm_gr_ (dp + 1)) Q J)  : ∀ (M : MM), w_X12_readTurned_b17  (gr_  dp) Q   M → J 17 [(0, .ref (ad 0))] [] M := by
  intro  M  hF
  unfold w_X12_readTurned_b17 at hF
  refine j_aload_n hJ dX12_readTurned_17 rfl 0 rfl ?_
  refine j_callVi hJ hg7 rfl om_1418 ⟨rfl, rfl, by show _ ≤ _; simp only [rm_gr_]; omega, by show _ ≤ _; simp only [rm_gr_]; omega⟩ [] mv_X12_730 hd_X12_readPv kR_0 rfl rfl rfl (Nat.le_of_ble_eq_true rfl) dX12_readTurned_18 ⟨rfl, hF⟩ (fun r1 M2 gr1 qM2 => ?_)
  have hF := qM2 gr1
  exact j_iret hJ rfl gr1 dX12_readTurned_21 hF
set_option maxHeartbeats 4000000 in
set_option maxRecDepth 100000 in
theorem s_X12_readTurned {l : Launch} {D : va_G} {cy : Nat → ClassId} {ad : Nat → Nat} {dp : Nat} (hin : jIn ad ksR.length) (hg0 : jCN l D vwCl (tyR cy) cy ad ftR ksR (XtR ad) yX12_readE (.code yX12_readE cX12_readE 3 (some .int) :: Om) (rm_gr_ dp) 1 (W_X12_readE dp ad)) (hg1 : jCN l D vwCl (tyR cy) cy ad ftR ksR (XtR ad) yX12_readAnd (.code yX12_readAnd cX12_readAnd 3 (some .int) :: Om) (rm_gr_ dp) 1 (W_X12_readAnd dp ad)) (hg2 : jCN l D vwCl (tyR cy) cy ad ftR ksR (XtR ad) yX12_readNot (.code yX12_readNot cX12_readNot 2 (some .int) :: Om) (rm_gr_ dp) 1 (W_X12_readNot dp ad)) (hg3 : jCN l D vwCl (tyR cy) cy ad ftR ksR (XtR ad) yX12_readCompared (.code yX12_readCompared cX12_readCompared 4 (some .int) :: Om) (rm_gr_ dp) 1 (W_X12_readCompared dp ad)) (hg4 : jCN l D vwCl (tyR cy) cy ad ftR ksR (XtR ad) yX12_readSum (.code yX12_readSum cX12_readSum 3 (some .int) :: Om) (rm_gr_ dp) 1 (W_X12_readSum dp ad)) (hg5 : jCN l D vwCl (tyR cy) cy ad ftR ksR (XtR ad) yX12_readProduct (.code yX12_readProduct cX12_readProduct 3 (some .int) :: Om) (rm_gr_ dp) 1 (W_X12_readProduct dp ad)) (hg6 : jCN l D vwCl (tyR cy) cy ad ftR ksR (XtR ad) yX12_readTurned (.code yX12_readTurned cX12_readTurned 2 (some .int) :: Om) (rm_gr_ dp) 1 (W_X12_readTurned dp ad)) (hg7 : jCN l D vwCl (tyR cy) cy ad ftR ksR (XtR ad) yX12_readP (.code yX12_readP cX12_readP 4 (some .int) :: Om) (rm_gr_ dp) 1 (W_X12_readP dp ad)) (hg8 : jCN l D vwCl (tyR cy) cy ad ftR ksR (XtR ad) yX12_readAtom (.code yX12_readAtom cX12_readAtom 5 (some .int) :: Om) (rm_gr_ dp) 1 (W_X12_readAtom dp ad)) (hg9 : jCN l D vwCl (tyR cy) cy ad ftR ksR (XtR ad) yX12_readFold (.code yX12_readFold cX12_readFold 5 (some .int) :: Om) (rm_gr_ dp) 1 (W_X12_readFold dp ad)) (hg10 : jCN l D vwCl (tyR cy) cy ad ftR ksR (XtR ad) yX12_readSet (.code yX12_readSet cX12_readSet 4 (some .int) :: Om) (rm_gr_ dp) 1 (W_X12_readSet dp ad)) : jCN l D vwCl (tyR cy) cy ad ftR ksR (XtR ad) yX12_readTurned (.code yX12_readTurned cX12_readTurned 2 (some .int) :: Om) (rm_gr_ (dp + 1)) 1 (W_X12_readTurned (dp + 1) ad) := by
  refine jCN_of (y := yX12_readTurned) (cc := cX12_readTurned) (nL := 2) (rk := 1) (rm := (rm_gr_ (dp + 1))) (own := RX12) (tyR_ok cy) hin (XtR_ok ad) Om_good (by decide) rfl ?_
  intro Q av M hF
  obtain ⟨rfl, hF⟩ := hF
  refine ⟨Nat.le_of_ble_eq_true rfl, fun J hJ => ?_⟩
  show J 0 [(0, .ref (ad 0))] [] M
  have hF : b_X12_readTurned  (gr_  dp) Q  M := hF
  unfold b_X12_readTurned at hF
  refine j_aload_n hJ dX12_readTurned_0 rfl 0 rfl ?_
  refine j_gi hJ kR_0 fR_15_83 rfl fl_X12_625 dX12_readTurned_1 (fun v1 ev1 gv1 => ?_)
  have hF := hF v1 ev1 gv1
  refine j_if_gt hJ 17 gv1 dX12_readTurned_4 (by decide) (fun z2 => ?_) (fun z2 => ?_)
  · have hF := hF.1 z2
    exact j_sub hJ [0] rfl (k_X12_readTurned_b17 hin  hg0 hg1 hg2 hg3 hg4 hg5 hg6 hg7 hg8 hg9 hg10 hJ   _  hF)
  · have hF := hF.2 z2
    refine j_aload_n hJ dX12_readTurned_7 rfl 0 rfl ?_
    refine j_ldc2 hJ 45 om_1410 (by decide) dX12_readTurned_8 ?_
    refine j_callVz hJ (c_X12_isSign (l := l) (D := D) (cy := cy) (ad := ad) hin) rfl om_1359 ⟨rfl, rfl, by show _ ≤ _; simp only [rm_gr_]; omega, by show _ ≤ _; simp only [rm_gr_]; omega⟩ [.long (Ll 45)] mv_X12_657 hd_X12_isSignv kR_0 rfl rfl rfl (Nat.le_of_ble_eq_true rfl) dX12_readTurned_11 ⟨45, rfl, lk_45, hF⟩ (fun r3 M4 gr3 qM4 => ?_)
    have hF := qM4 gr3
    refine j_if_ne hJ 22 (jz_ri gr3) dX12_readTurned_14 (by decide) (fun z5 => ?_) (fun z5 => ?_)
    · have hF := hF.1 z5
      refine j_aload_n hJ dX12_readTurned_22 rfl 0 rfl ?_
      refine j_bipush hJ dX12_readTurned_23 (by decide) ?_
      refine j_callVi hJ (c_X12_node (l := l) (D := D) (cy := cy) (ad := ad) hin) rfl om_1375 ⟨rfl, rfl, by show _ ≤ _; simp only [rm_gr_]; omega, by show _ ≤ _; simp only [rm_gr_]; omega⟩ [.int (Ii 113)] mv_X12_683 hd_X12_nodev kR_0 rfl rfl rfl (Nat.le_of_ble_eq_true rfl) dX12_readTurned_25 ⟨113, rfl, rk_113, hF⟩ (fun r6 M7 gr6 qM7 => ?_)
      have hF := qM7 gr6
      refine j_istore_n (lv' := [(1, .int (Ii r6)), (0, .ref (ad 0))]) hJ dX12_readTurned_28 rfl (by decide) rfl ?_
      refine j_aload_n hJ dX12_readTurned_29 rfl 1 rfl ?_
      refine j_callVv hJ (c_X12_advance (l := l) (D := D) (cy := cy) (ad := ad) hin) rfl om_1355 ⟨rfl, rfl, by show _ ≤ _; simp only [rm_gr_]; omega, by show _ ≤ _; simp only [rm_gr_]; omega⟩ [] mv_X12_661 hd_X12_advancev kR_0 rfl rfl rfl (Nat.le_of_ble_eq_true rfl) dX12_readTurned_30 ⟨rfl, hF⟩ (fun M9 qM9 => ?_)
      have hF := qM9
      refine j_aload_n hJ dX12_readTurned_33 rfl 1 rfl ?_
      refine j_gr (e := 67) hJ kR_0 fR_15_87 fl_X12_275 dX12_readTurned_34 rfl ?_
      refine j_iload_n hJ dX12_readTurned_37 rfl 0 rfl ?_
      refine j_aload_n hJ dX12_readTurned_38 rfl 1 rfl ?_
      refine j_callVi hJ hg6 rfl om_1411 ⟨rfl, rfl, by show _ ≤ _; simp only [rm_gr_]; omega, by show _ ≤ _; simp only [rm_gr_]; omega⟩ [] mv_X12_721 hd_X12_readTurnedv kR_0 rfl rfl rfl (Nat.le_of_ble_eq_true rfl) dX12_readTurned_39 ⟨rfl, hF⟩ (fun r10 M11 gr10 qM11 => ?_)
      have hF := qM11 gr10
      refine j_iast hJ gr6 gr10 kR_67 hF.1 hF.2.1 dX12_readTurned_42 (fun M12 eM12 => ?_)
      have hF := hF.2.2 M12 eM12
      refine j_iload_n hJ dX12_readTurned_43 rfl 0 rfl ?_
      exact j_iret hJ rfl gr6 dX12_readTurned_44 hF
    · have hF := hF.2 z5
      exact j_sub hJ [0] rfl (k_X12_readTurned_b17 hin  hg0 hg1 hg2 hg3 hg4 hg5 hg6 hg7 hg8 hg9 hg10 hJ   _  hF)
set_option maxHeartbeats 4000000 in
set_option maxRecDepth 100000 in
theorem k_X12_readP_b166 {l : Launch} {D : va_G} {cy : Nat → ClassId} {ad : Nat → Nat} {dp : Nat} {Q : Int → MM → Prop} {J : Nat → List (Nat × Value) → List Value → MM → Prop} (hin : jIn ad ksR.length)   (hg0 : jCN l D vwCl (tyR cy) cy ad ftR ksR (XtR ad) yX12_readE (.code yX12_readE cX12_readE 3 (some .int) :: Om) (rm_gr_ dp) 1 (W_X12_readE dp ad)) (hg1 : jCN l D vwCl (tyR cy) cy ad ftR ksR (XtR ad) yX12_readAnd (.code yX12_readAnd cX12_readAnd 3 (some .int) :: Om) (rm_gr_ dp) 1 (W_X12_readAnd dp ad)) (hg2 : jCN l D vwCl (tyR cy) cy ad ftR ksR (XtR ad) yX12_readNot (.code yX12_readNot cX12_readNot 2 (some .int) :: Om) (rm_gr_ dp) 1 (W_X12_readNot dp ad)) (hg3 : jCN l D vwCl (tyR cy) cy ad ftR ksR (XtR ad) yX12_readCompared (.code yX12_readCompared cX12_readCompared 4 (some .int) :: Om) (rm_gr_ dp) 1 (W_X12_readCompared dp ad)) (hg4 : jCN l D vwCl (tyR cy) cy ad ftR ksR (XtR ad) yX12_readSum (.code yX12_readSum cX12_readSum 3 (some .int) :: Om) (rm_gr_ dp) 1 (W_X12_readSum dp ad)) (hg5 : jCN l D vwCl (tyR cy) cy ad ftR ksR (XtR ad) yX12_readProduct (.code yX12_readProduct cX12_readProduct 3 (some .int) :: Om) (rm_gr_ dp) 1 (W_X12_readProduct dp ad)) (hg6 : jCN l D vwCl (tyR cy) cy ad ftR ksR (XtR ad) yX12_readTurned (.code yX12_readTurned cX12_readTurned 2 (some .int) :: Om) (rm_gr_ dp) 1 (W_X12_readTurned dp ad)) (hg7 : jCN l D vwCl (tyR cy) cy ad ftR ksR (XtR ad) yX12_readP (.code yX12_readP cX12_readP 4 (some .int) :: Om) (rm_gr_ dp) 1 (W_X12_readP dp ad)) (hg8 : jCN l D vwCl (tyR cy) cy ad ftR ksR (XtR ad) yX12_readAtom (.code yX12_readAtom cX12_readAtom 5 (some .int) :: Om) (rm_gr_ dp) 1 (W_X12_readAtom dp ad)) (hg9 : jCN l D vwCl (tyR cy) cy ad ftR ksR (XtR ad) yX12_readFold (.code yX12_readFold cX12_readFold 5 (some .int) :: Om) (rm_gr_ dp) 1 (W_X12_readFold dp ad)) (hg10 : jCN l D vwCl (tyR cy) cy ad ftR ksR (XtR ad) yX12_readSet (.code yX12_readSet cX12_readSet 4 (some .int) :: Om) (rm_gr_ dp) 1 (W_X12_readSet dp ad)) (hJ : jOk l D vwCl (tyR cy) cy ad ftR ksR (XtR ad) Om RX12 cX12_readP 4 1 (rm_gr_ (dp + 1)) Q J) {K5 : Int → MM → Prop} (hK5 : ∀ (x1 : Int) (M : MM), ri_ x1 → K5 x1 M → J 5 [(0, .ref (ad 0)), (1, .int (Ii x1))] [] M) : ∀ (x3 : Int) (M : MM), ri_ x3 → w_X12_readP_b166  (gr_  dp) Q K5 x3 M → J 166 [(0, .ref (ad 0)), (3, .int (Ii x3))] [] M := by
  intro x3 M gx3 hF
  unfold w_X12_readP_b166 at hF
  refine j_iload_n hJ dX12_readP_166 rfl 1 rfl ?_
  refine j_istore_n (lv' := [(1, .int (Ii x3)), (0, .ref (ad 0)), (3, .int (Ii x3))]) hJ dX12_readP_167 rfl (by decide) rfl ?_
  refine j_goto hJ 5 dX12_readP_168 (by decide) ?_
  exact j_sub hJ [1, 0] rfl (hK5 x3 _ gx3 hF)
set_option maxHeartbeats 4000000 in
set_option maxRecDepth 100000 in
theorem k_X12_readP_b148 {l : Launch} {D : va_G} {cy : Nat → ClassId} {ad : Nat → Nat} {dp : Nat} {Q : Int → MM → Prop} {J : Nat → List (Nat × Value) → List Value → MM → Prop} (hin : jIn ad ksR.length)   (hg0 : jCN l D vwCl (tyR cy) cy ad ftR ksR (XtR ad) yX12_readE (.code yX12_readE cX12_readE 3 (some .int) :: Om) (rm_gr_ dp) 1 (W_X12_readE dp ad)) (hg1 : jCN l D vwCl (tyR cy) cy ad ftR ksR (XtR ad) yX12_readAnd (.code yX12_readAnd cX12_readAnd 3 (some .int) :: Om) (rm_gr_ dp) 1 (W_X12_readAnd dp ad)) (hg2 : jCN l D vwCl (tyR cy) cy ad ftR ksR (XtR ad) yX12_readNot (.code yX12_readNot cX12_readNot 2 (some .int) :: Om) (rm_gr_ dp) 1 (W_X12_readNot dp ad)) (hg3 : jCN l D vwCl (tyR cy) cy ad ftR ksR (XtR ad) yX12_readCompared (.code yX12_readCompared cX12_readCompared 4 (some .int) :: Om) (rm_gr_ dp) 1 (W_X12_readCompared dp ad)) (hg4 : jCN l D vwCl (tyR cy) cy ad ftR ksR (XtR ad) yX12_readSum (.code yX12_readSum cX12_readSum 3 (some .int) :: Om) (rm_gr_ dp) 1 (W_X12_readSum dp ad)) (hg5 : jCN l D vwCl (tyR cy) cy ad ftR ksR (XtR ad) yX12_readProduct (.code yX12_readProduct cX12_readProduct 3 (some .int) :: Om) (rm_gr_ dp) 1 (W_X12_readProduct dp ad)) (hg6 : jCN l D vwCl (tyR cy) cy ad ftR ksR (XtR ad) yX12_readTurned (.code yX12_readTurned cX12_readTurned 2 (some .int) :: Om) (rm_gr_ dp) 1 (W_X12_readTurned dp ad)) (hg7 : jCN l D vwCl (tyR cy) cy ad ftR ksR (XtR ad) yX12_readP (.code yX12_readP cX12_readP 4 (some .int) :: Om) (rm_gr_ dp) 1 (W_X12_readP dp ad)) (hg8 : jCN l D vwCl (tyR cy) cy ad ftR ksR (XtR ad) yX12_readAtom (.code yX12_readAtom cX12_readAtom 5 (some .int) :: Om) (rm_gr_ dp) 1 (W_X12_readAtom dp ad)) (hg9 : jCN l D vwCl (tyR cy) cy ad ftR ksR (XtR ad) yX12_readFold (.code yX12_readFold cX12_readFold 5 (some .int) :: Om) (rm_gr_ dp) 1 (W_X12_readFold dp ad)) (hg10 : jCN l D vwCl (tyR cy) cy ad ftR ksR (XtR ad) yX12_readSet (.code yX12_readSet cX12_readSet 4 (some .int) :: Om) (rm_gr_ dp) 1 (W_X12_readSet dp ad)) (hJ : jOk l D vwCl (tyR cy) cy ad ftR ksR (XtR ad) Om RX12 cX12_readP 4 1 (rm_gr_ (dp + 1)) Q J) {K5 : Int → MM → Prop} (hK5 : ∀ (x1 : Int) (M : MM), ri_ x1 → K5 x1 M → J 5 [(0, .ref (ad 0)), (1, .int (Ii x1))] [] M) : ∀ (x3 s0 s1 : Int) (M : MM), ri_ x3 → ri_ s0 → ri_ s1 → w_X12_readP_b148  (gr_  dp) Q K5 x3 s0 s1 M → J 148 [(0, .ref (ad 0)), (3, .int (Ii x3))] [.int (Ii s0), .int (Ii s1), .ref (ad 68)] M := by
  intro x3 s0 s1 M gx3 gs0 gs1 hF
  unfold w_X12_readP_b148 at hF
  refine j_iast hJ gs1 gs0 kR_68 hF.1 hF.2.1 dX12_readP_148 (fun M1 eM1 => ?_)
  have hF := hF.2.2 M1 eM1
  refine j_aload_n hJ dX12_readP_149 rfl 0 rfl ?_
  refine j_ldc2 hJ 93 om_1427 (by decide) dX12_readP_150 ?_
  refine j_callVv hJ (c_X12_needSign (l := l) (D := D) (cy := cy) (ad := ad) hin) rfl om_1428 ⟨rfl, rfl, by show _ ≤ _; simp only [rm_gr_]; omega, by show _ ≤ _; simp only [rm_gr_]; omega⟩ [.long (Ll 93)] mv_X12_748 hd_X12_needSignv kR_0 rfl rfl rfl (Nat.le_of_ble_eq_true rfl) dX12_readP_153 ⟨93, rfl, lk_93, hF⟩ (fun M3 qM3 => ?_)
  have hF := qM3
  refine j_aload_n hJ dX12_readP_156 rfl 0 rfl ?_
  refine j_dup hJ dX12_readP_157 rfl ?_
  refine j_gi hJ kR_0 fR_15_93 rfl fl_X12_676 dX12_readP_158 (fun v4 ev4 gv4 => ?_)
  have hF := hF v4 ev4 gv4
  refine j_iconst hJ dX12_readP_161 ?_
  refine j_isub hJ dX12_readP_162 ?_
  have g5 := hF.1; have hF := hF.2
  refine j_pi hJ g5 kR_0 fR_15_93 rfl fp_X12_676 dX12_readP_163 (fun M6 eM6 => ?_)
  have hF := hF M6 eM6
  exact j_sub hJ [0, 1] rfl (k_X12_readP_b166 hin  hg0 hg1 hg2 hg3 hg4 hg5 hg6 hg7 hg8 hg9 hg10 hJ hK5 x3 _ gx3 hF)
set_option maxHeartbeats 4000000 in
set_option maxRecDepth 100000 in
theorem k_X12_readP_b104 {l : Launch} {D : va_G} {cy : Nat → ClassId} {ad : Nat → Nat} {dp : Nat} {Q : Int → MM → Prop} {J : Nat → List (Nat × Value) → List Value → MM → Prop} (hin : jIn ad ksR.length)   (hg0 : jCN l D vwCl (tyR cy) cy ad ftR ksR (XtR ad) yX12_readE (.code yX12_readE cX12_readE 3 (some .int) :: Om) (rm_gr_ dp) 1 (W_X12_readE dp ad)) (hg1 : jCN l D vwCl (tyR cy) cy ad ftR ksR (XtR ad) yX12_readAnd (.code yX12_readAnd cX12_readAnd 3 (some .int) :: Om) (rm_gr_ dp) 1 (W_X12_readAnd dp ad)) (hg2 : jCN l D vwCl (tyR cy) cy ad ftR ksR (XtR ad) yX12_readNot (.code yX12_readNot cX12_readNot 2 (some .int) :: Om) (rm_gr_ dp) 1 (W_X12_readNot dp ad)) (hg3 : jCN l D vwCl (tyR cy) cy ad ftR ksR (XtR ad) yX12_readCompared (.code yX12_readCompared cX12_readCompared 4 (some .int) :: Om) (rm_gr_ dp) 1 (W_X12_readCompared dp ad)) (hg4 : jCN l D vwCl (tyR cy) cy ad ftR ksR (XtR ad) yX12_readSum (.code yX12_readSum cX12_readSum 3 (some .int) :: Om) (rm_gr_ dp) 1 (W_X12_readSum dp ad)) (hg5 : jCN l D vwCl (tyR cy) cy ad ftR ksR (XtR ad) yX12_readProduct (.code yX12_readProduct cX12_readProduct 3 (some .int) :: Om) (rm_gr_ dp) 1 (W_X12_readProduct dp ad)) (hg6 : jCN l D vwCl (tyR cy) cy ad ftR ksR (XtR ad) yX12_readTurned (.code yX12_readTurned cX12_readTurned 2 (some .int) :: Om) (rm_gr_ dp) 1 (W_X12_readTurned dp ad)) (hg7 : jCN l D vwCl (tyR cy) cy ad ftR ksR (XtR ad) yX12_readP (.code yX12_readP cX12_readP 4 (some .int) :: Om) (rm_gr_ dp) 1 (W_X12_readP dp ad)) (hg8 : jCN l D vwCl (tyR cy) cy ad ftR ksR (XtR ad) yX12_readAtom (.code yX12_readAtom cX12_readAtom 5 (some .int) :: Om) (rm_gr_ dp) 1 (W_X12_readAtom dp ad)) (hg9 : jCN l D vwCl (tyR cy) cy ad ftR ksR (XtR ad) yX12_readFold (.code yX12_readFold cX12_readFold 5 (some .int) :: Om) (rm_gr_ dp) 1 (W_X12_readFold dp ad)) (hg10 : jCN l D vwCl (tyR cy) cy ad ftR ksR (XtR ad) yX12_readSet (.code yX12_readSet cX12_readSet 4 (some .int) :: Om) (rm_gr_ dp) 1 (W_X12_readSet dp ad)) (hJ : jOk l D vwCl (tyR cy) cy ad ftR ksR (XtR ad) Om RX12 cX12_readP 4 1 (rm_gr_ (dp + 1)) Q J) {K5 : Int → MM → Prop} (hK5 : ∀ (x1 : Int) (M : MM), ri_ x1 → K5 x1 M → J 5 [(0, .ref (ad 0)), (1, .int (Ii x1))] [] M) : ∀ (x3 : Int) (M : MM), ri_ x3 → w_X12_readP_b104  (gr_  dp) Q K5 x3 M → J 104 [(0, .ref (ad 0)), (3, .int (Ii x3))] [] M := by
  intro x3 M gx3 hF
  unfold w_X12_readP_b104 at hF
  refine j_aload_n hJ dX12_readP_104 rfl 0 rfl ?_
  refine j_gr (e := 70) hJ kR_0 fR_15_90 fl_X12_284 dX12_readP_105 rfl ?_
  refine j_iload_n hJ dX12_readP_108 rfl 1 rfl ?_
  refine j_aload_n hJ dX12_readP_109 rfl 0 rfl ?_
  refine j_gl hJ kR_0 fR_15_85 rfl fl_X12_640 dX12_readP_110 (fun v1 ev1 gv1 => ?_)
  have hF := hF v1 ev1 gv1
  refine j_last hJ gx3 gv1 kR_70 hF.1 hF.2.1 dX12_readP_113 (fun M2 eM2 => ?_)
  have hF := hF.2.2 M2 eM2
  refine j_aload_n hJ dX12_readP_114 rfl 0 rfl ?_
  refine j_gi hJ kR_0 fR_15_83 rfl fl_X12_625 dX12_readP_115 (fun v3 ev3 gv3 => ?_)
  have hF := hF v3 ev3 gv3
  refine j_if_ne hJ 166 gv3 dX12_readP_118 (by decide) (fun z4 => ?_) (fun z4 => ?_)
  · have hF := hF.1 z4
    exact j_sub hJ [0, 1] rfl (k_X12_readP_b166 hin  hg0 hg1 hg2 hg3 hg4 hg5 hg6 hg7 hg8 hg9 hg10 hJ hK5 x3 _ gx3 hF)
  · have hF := hF.2 z4
    refine j_aload_n hJ dX12_readP_121 rfl 0 rfl ?_
    refine j_callVv hJ (c_X12_advance (l := l) (D := D) (cy := cy) (ad := ad) hin) rfl om_1355 ⟨rfl, rfl, by show _ ≤ _; simp only [rm_gr_]; omega, by show _ ≤ _; simp only [rm_gr_]; omega⟩ [] mv_X12_661 hd_X12_advancev kR_0 rfl rfl rfl (Nat.le_of_ble_eq_true rfl) dX12_readP_122 ⟨rfl, hF⟩ (fun M6 qM6 => ?_)
    have hF := qM6
    refine j_goto hJ 166 dX12_readP_125 (by decide) ?_
    exact j_sub hJ [0, 1] rfl (k_X12_readP_b166 hin  hg0 hg1 hg2 hg3 hg4 hg5 hg6 hg7 hg8 hg9 hg10 hJ hK5 x3 _ gx3 hF)
set_option maxHeartbeats 4000000 in
set_option maxRecDepth 100000 in
theorem k_X12_readP_b75 {l : Launch} {D : va_G} {cy : Nat → ClassId} {ad : Nat → Nat} {dp : Nat} {Q : Int → MM → Prop} {J : Nat → List (Nat × Value) → List Value → MM → Prop} (hin : jIn ad ksR.length)   (hg0 : jCN l D vwCl (tyR cy) cy ad ftR ksR (XtR ad) yX12_readE (.code yX12_readE cX12_readE 3 (some .int) :: Om) (rm_gr_ dp) 1 (W_X12_readE dp ad)) (hg1 : jCN l D vwCl (tyR cy) cy ad ftR ksR (XtR ad) yX12_readAnd (.code yX12_readAnd cX12_readAnd 3 (some .int) :: Om) (rm_gr_ dp) 1 (W_X12_readAnd dp ad)) (hg2 : jCN l D vwCl (tyR cy) cy ad ftR ksR (XtR ad) yX12_readNot (.code yX12_readNot cX12_readNot 2 (some .int) :: Om) (rm_gr_ dp) 1 (W_X12_readNot dp ad)) (hg3 : jCN l D vwCl (tyR cy) cy ad ftR ksR (XtR ad) yX12_readCompared (.code yX12_readCompared cX12_readCompared 4 (some .int) :: Om) (rm_gr_ dp) 1 (W_X12_readCompared dp ad)) (hg4 : jCN l D vwCl (tyR cy) cy ad ftR ksR (XtR ad) yX12_readSum (.code yX12_readSum cX12_readSum 3 (some .int) :: Om) (rm_gr_ dp) 1 (W_X12_readSum dp ad)) (hg5 : jCN l D vwCl (tyR cy) cy ad ftR ksR (XtR ad) yX12_readProduct (.code yX12_readProduct cX12_readProduct 3 (some .int) :: Om) (rm_gr_ dp) 1 (W_X12_readProduct dp ad)) (hg6 : jCN l D vwCl (tyR cy) cy ad ftR ksR (XtR ad) yX12_readTurned (.code yX12_readTurned cX12_readTurned 2 (some .int) :: Om) (rm_gr_ dp) 1 (W_X12_readTurned dp ad)) (hg7 : jCN l D vwCl (tyR cy) cy ad ftR ksR (XtR ad) yX12_readP (.code yX12_readP cX12_readP 4 (some .int) :: Om) (rm_gr_ dp) 1 (W_X12_readP dp ad)) (hg8 : jCN l D vwCl (tyR cy) cy ad ftR ksR (XtR ad) yX12_readAtom (.code yX12_readAtom cX12_readAtom 5 (some .int) :: Om) (rm_gr_ dp) 1 (W_X12_readAtom dp ad)) (hg9 : jCN l D vwCl (tyR cy) cy ad ftR ksR (XtR ad) yX12_readFold (.code yX12_readFold cX12_readFold 5 (some .int) :: Om) (rm_gr_ dp) 1 (W_X12_readFold dp ad)) (hg10 : jCN l D vwCl (tyR cy) cy ad ftR ksR (XtR ad) yX12_readSet (.code yX12_readSet cX12_readSet 4 (some .int) :: Om) (rm_gr_ dp) 1 (W_X12_readSet dp ad)) (hJ : jOk l D vwCl (tyR cy) cy ad ftR ksR (XtR ad) Om RX12 cX12_readP 4 1 (rm_gr_ (dp + 1)) Q J) {K5 : Int → MM → Prop} (hK5 : ∀ (x1 : Int) (M : MM), ri_ x1 → K5 x1 M → J 5 [(0, .ref (ad 0)), (1, .int (Ii x1))] [] M) : ∀ (x1 x2 x3 : Int) (M : MM), ri_ x1 → ri_ x2 → ri_ x3 → w_X12_readP_b75  (gr_  dp) Q K5 x1 x2 x3 M → J 75 [(0, .ref (ad 0)), (1, .int (Ii x1)), (2, .int (Ii x2)), (3, .int (Ii x3))] [] M := by
  intro x1 x2 x3 M gx1 gx2 gx3 hF
  unfold w_X12_readP_b75 at hF
  refine j_aload_n hJ dX12_readP_75 rfl 0 rfl ?_
  refine j_gr (e := 67) hJ kR_0 fR_15_87 fl_X12_275 dX12_readP_76 rfl ?_
  refine j_iload_n hJ dX12_readP_79 rfl 3 rfl ?_
  refine j_iload_n hJ dX12_readP_80 rfl 1 rfl ?_
  refine j_iast hJ gx3 gx1 kR_67 hF.1 hF.2.1 dX12_readP_81 (fun M1 eM1 => ?_)
  have hF := hF.2.2 M1 eM1
  refine j_iload_n hJ dX12_readP_82 rfl 2 rfl ?_
  refine j_if_eq hJ 128 gx2 dX12_readP_83 (by decide) (fun z2 => ?_) (fun z2 => ?_)
  · have hF := hF.1 z2
    refine j_aload_n hJ dX12_readP_128 rfl 0 rfl ?_
    refine j_gr (e := 68) hJ kR_0 fR_15_88 fl_X12_278 dX12_readP_129 rfl ?_
    refine j_iload_n hJ dX12_readP_132 rfl 3 rfl ?_
    refine j_aload_n hJ dX12_readP_133 rfl 0 rfl ?_
    refine j_gi hJ kR_0 fR_15_83 rfl fl_X12_625 dX12_readP_134 (fun v3 ev3 gv3 => ?_)
    have hF := hF v3 ev3 gv3
    refine j_if_ne hJ 147 gv3 dX12_readP_137 (by decide) (fun z4 => ?_) (fun z4 => ?_)
    · have hF := hF.1 z4
      refine j_iconst hJ dX12_readP_147 ?_
      exact j_sub hJ [0, 3] rfl (k_X12_readP_b148 hin  hg0 hg1 hg2 hg3 hg4 hg5 hg6 hg7 hg8 hg9 hg10 hJ hK5 x3 (-1) x3 _ gx3 rk_m1 gx3 hF)
    · have hF := hF.2 z4
      refine j_aload_n hJ dX12_readP_140 rfl 0 rfl ?_
      refine j_callVi hJ hg0 rfl om_1432 ⟨rfl, rfl, by show _ ≤ _; simp only [rm_gr_]; omega, by show _ ≤ _; simp only [rm_gr_]; omega⟩ [] mv_X12_743 hd_X12_readEv kR_0 rfl rfl rfl (Nat.le_of_ble_eq_true rfl) dX12_readP_141 ⟨rfl, hF⟩ (fun r5 M6 gr5 qM6 => ?_)
      have hF := qM6 gr5
      refine j_goto hJ 148 dX12_readP_144 (by decide) ?_
      exact j_sub hJ [0, 3] rfl (k_X12_readP_b148 hin  hg0 hg1 hg2 hg3 hg4 hg5 hg6 hg7 hg8 hg9 hg10 hJ hK5 x3 r5 x3 _ gx3 gr5 gx3 hF)
  · have hF := hF.2 z2
    refine j_aload_n hJ dX12_readP_86 rfl 0 rfl ?_
    refine j_gi hJ kR_0 fR_15_83 rfl fl_X12_625 dX12_readP_87 (fun v7 ev7 gv7 => ?_)
    have hF := hF v7 ev7 gv7
    refine j_if_ne hJ 104 gv7 dX12_readP_90 (by decide) (fun z8 => ?_) (fun z8 => ?_)
    · have hF := hF.1 z8
      exact j_sub hJ [0, 3] rfl (k_X12_readP_b104 hin  hg0 hg1 hg2 hg3 hg4 hg5 hg6 hg7 hg8 hg9 hg10 hJ hK5 x3 _ gx3 hF)
    · have hF := hF.2 z8
      refine j_aload_n hJ dX12_readP_93 rfl 0 rfl ?_
      refine j_callVz hJ (c_X12_isName (l := l) (D := D) (cy := cy) (ad := ad) hin) rfl om_1401 ⟨rfl, rfl, by show _ ≤ _; simp only [rm_gr_]; omega, by show _ ≤ _; simp only [rm_gr_]; omega⟩ [] mv_X12_710 hd_X12_isNamev kR_0 rfl rfl rfl (Nat.le_of_ble_eq_true rfl) dX12_readP_94 ⟨rfl, hF⟩ (fun r9 M10 gr9 qM10 => ?_)
      have hF := qM10 gr9
      refine j_if_ne hJ 104 (jz_ri gr9) dX12_readP_97 (by decide) (fun z11 => ?_) (fun z11 => ?_)
      · have hF := hF.1 z11
        exact j_sub hJ [0, 3] rfl (k_X12_readP_b104 hin  hg0 hg1 hg2 hg3 hg4 hg5 hg6 hg7 hg8 hg9 hg10 hJ hK5 x3 _ gx3 hF)
      · have hF := hF.2 z11
        refine j_aload_n hJ dX12_readP_100 rfl 0 rfl ?_
        refine j_callVv hJ (c_X12_wrong (l := l) (D := D) (cy := cy) (ad := ad) hin) rfl om_1363 ⟨rfl, rfl, by show _ ≤ _; simp only [rm_gr_]; omega, by show _ ≤ _; simp only [rm_gr_]; omega⟩ [] mv_X12_664 hd_X12_wrongv kR_0 rfl rfl rfl (Nat.le_of_ble_eq_true rfl) dX12_readP_101 ⟨rfl, hF⟩ (fun M13 qM13 => ?_)
        have hF := qM13
        exact j_sub hJ [0, 3] rfl (k_X12_readP_b104 hin  hg0 hg1 hg2 hg3 hg4 hg5 hg6 hg7 hg8 hg9 hg10 hJ hK5 x3 _ gx3 hF)
set_option maxHeartbeats 4000000 in
set_option maxRecDepth 100000 in
theorem k_X12_readP_b64 {l : Launch} {D : va_G} {cy : Nat → ClassId} {ad : Nat → Nat} {dp : Nat} {Q : Int → MM → Prop} {J : Nat → List (Nat × Value) → List Value → MM → Prop} (hin : jIn ad ksR.length)   (hg0 : jCN l D vwCl (tyR cy) cy ad ftR ksR (XtR ad) yX12_readE (.code yX12_readE cX12_readE 3 (some .int) :: Om) (rm_gr_ dp) 1 (W_X12_readE dp ad)) (hg1 : jCN l D vwCl (tyR cy) cy ad ftR ksR (XtR ad) yX12_readAnd (.code yX12_readAnd cX12_readAnd 3 (some .int) :: Om) (rm_gr_ dp) 1 (W_X12_readAnd dp ad)) (hg2 : jCN l D vwCl (tyR cy) cy ad ftR ksR (XtR ad) yX12_readNot (.code yX12_readNot cX12_readNot 2 (some .int) :: Om) (rm_gr_ dp) 1 (W_X12_readNot dp ad)) (hg3 : jCN l D vwCl (tyR cy) cy ad ftR ksR (XtR ad) yX12_readCompared (.code yX12_readCompared cX12_readCompared 4 (some .int) :: Om) (rm_gr_ dp) 1 (W_X12_readCompared dp ad)) (hg4 : jCN l D vwCl (tyR cy) cy ad ftR ksR (XtR ad) yX12_readSum (.code yX12_readSum cX12_readSum 3 (some .int) :: Om) (rm_gr_ dp) 1 (W_X12_readSum dp ad)) (hg5 : jCN l D vwCl (tyR cy) cy ad ftR ksR (XtR ad) yX12_readProduct (.code yX12_readProduct cX12_readProduct 3 (some .int) :: Om) (rm_gr_ dp) 1 (W_X12_readProduct dp ad)) (hg6 : jCN l D vwCl (tyR cy) cy ad ftR ksR (XtR ad) yX12_readTurned (.code yX12_readTurned cX12_readTurned 2 (some .int) :: Om) (rm_gr_ dp) 1 (W_X12_readTurned dp ad)) (hg7 : jCN l D vwCl (tyR cy) cy ad ftR ksR (XtR ad) yX12_readP (.code yX12_readP cX12_readP 4 (some .int) :: Om) (rm_gr_ dp) 1 (W_X12_readP dp ad)) (hg8 : jCN l D vwCl (tyR cy) cy ad ftR ksR (XtR ad) yX12_readAtom (.code yX12_readAtom cX12_readAtom 5 (some .int) :: Om) (rm_gr_ dp) 1 (W_X12_readAtom dp ad)) (hg9 : jCN l D vwCl (tyR cy) cy ad ftR ksR (XtR ad) yX12_readFold (.code yX12_readFold cX12_readFold 5 (some .int) :: Om) (rm_gr_ dp) 1 (W_X12_readFold dp ad)) (hg10 : jCN l D vwCl (tyR cy) cy ad ftR ksR (XtR ad) yX12_readSet (.code yX12_readSet cX12_readSet 4 (some .int) :: Om) (rm_gr_ dp) 1 (W_X12_readSet dp ad)) (hJ : jOk l D vwCl (tyR cy) cy ad ftR ksR (XtR ad) Om RX12 cX12_readP 4 1 (rm_gr_ (dp + 1)) Q J) {K5 : Int → MM → Prop} (hK5 : ∀ (x1 : Int) (M : MM), ri_ x1 → K5 x1 M → J 5 [(0, .ref (ad 0)), (1, .int (Ii x1))] [] M) : ∀ (x1 x2 x3 : Int) (M : MM), ri_ x1 → ri_ x2 → ri_ x3 → w_X12_readP_b64  (gr_  dp) Q K5 x1 x2 x3 M → J 64 [(0, .ref (ad 0)), (1, .int (Ii x1)), (2, .int (Ii x2)), (3, .int (Ii x3))] [] M := by
  intro x1 x2 x3 M gx1 gx2 gx3 hF
  unfold w_X12_readP_b64 at hF
  refine j_aload_n hJ dX12_readP_64 rfl 0 rfl ?_
  refine j_gi hJ kR_0 fR_15_83 rfl fl_X12_625 dX12_readP_65 (fun v1 ev1 gv1 => ?_)
  have hF := hF v1 ev1 gv1
  refine j_if_ne hJ 75 gv1 dX12_readP_68 (by decide) (fun z2 => ?_) (fun z2 => ?_)
  · have hF := hF.1 z2
    exact j_sub hJ [0, 1, 2, 3] rfl (k_X12_readP_b75 hin  hg0 hg1 hg2 hg3 hg4 hg5 hg6 hg7 hg8 hg9 hg10 hJ hK5 x1 x2 x3 _ gx1 gx2 gx3 hF)
  · have hF := hF.2 z2
    refine j_aload_n hJ dX12_readP_71 rfl 0 rfl ?_
    refine j_callVv hJ (c_X12_advance (l := l) (D := D) (cy := cy) (ad := ad) hin) rfl om_1355 ⟨rfl, rfl, by show _ ≤ _; simp only [rm_gr_]; omega, by show _ ≤ _; simp only [rm_gr_]; omega⟩ [] mv_X12_661 hd_X12_advancev kR_0 rfl rfl rfl (Nat.le_of_ble_eq_true rfl) dX12_readP_72 ⟨rfl, hF⟩ (fun M4 qM4 => ?_)
    have hF := qM4
    exact j_sub hJ [0, 1, 2, 3] rfl (k_X12_readP_b75 hin  hg0 hg1 hg2 hg3 hg4 hg5 hg6 hg7 hg8 hg9 hg10 hJ hK5 x1 x2 x3 _ gx1 gx2 gx3 hF)
set_option maxHeartbeats 4000000 in
set_option maxRecDepth 100000 in
theorem k_X12_readP_b52 {l : Launch} {D : va_G} {cy : Nat → ClassId} {ad : Nat → Nat} {dp : Nat} {Q : Int → MM → Prop} {J : Nat → List (Nat × Value) → List Value → MM → Prop} (hin : jIn ad ksR.length)   (hg0 : jCN l D vwCl (tyR cy) cy ad ftR ksR (XtR ad) yX12_readE (.code yX12_readE cX12_readE 3 (some .int) :: Om) (rm_gr_ dp) 1 (W_X12_readE dp ad)) (hg1 : jCN l D vwCl (tyR cy) cy ad ftR ksR (XtR ad) yX12_readAnd (.code yX12_readAnd cX12_readAnd 3 (some .int) :: Om) (rm_gr_ dp) 1 (W_X12_readAnd dp ad)) (hg2 : jCN l D vwCl (tyR cy) cy ad ftR ksR (XtR ad) yX12_readNot (.code yX12_readNot cX12_readNot 2 (some .int) :: Om) (rm_gr_ dp) 1 (W_X12_readNot dp ad)) (hg3 : jCN l D vwCl (tyR cy) cy ad ftR ksR (XtR ad) yX12_readCompared (.code yX12_readCompared cX12_readCompared 4 (some .int) :: Om) (rm_gr_ dp) 1 (W_X12_readCompared dp ad)) (hg4 : jCN l D vwCl (tyR cy) cy ad ftR ksR (XtR ad) yX12_readSum (.code yX12_readSum cX12_readSum 3 (some .int) :: Om) (rm_gr_ dp) 1 (W_X12_readSum dp ad)) (hg5 : jCN l D vwCl (tyR cy) cy ad ftR ksR (XtR ad) yX12_readProduct (.code yX12_readProduct cX12_readProduct 3 (some .int) :: Om) (rm_gr_ dp) 1 (W_X12_readProduct dp ad)) (hg6 : jCN l D vwCl (tyR cy) cy ad ftR ksR (XtR ad) yX12_readTurned (.code yX12_readTurned cX12_readTurned 2 (some .int) :: Om) (rm_gr_ dp) 1 (W_X12_readTurned dp ad)) (hg7 : jCN l D vwCl (tyR cy) cy ad ftR ksR (XtR ad) yX12_readP (.code yX12_readP cX12_readP 4 (some .int) :: Om) (rm_gr_ dp) 1 (W_X12_readP dp ad)) (hg8 : jCN l D vwCl (tyR cy) cy ad ftR ksR (XtR ad) yX12_readAtom (.code yX12_readAtom cX12_readAtom 5 (some .int) :: Om) (rm_gr_ dp) 1 (W_X12_readAtom dp ad)) (hg9 : jCN l D vwCl (tyR cy) cy ad ftR ksR (XtR ad) yX12_readFold (.code yX12_readFold cX12_readFold 5 (some .int) :: Om) (rm_gr_ dp) 1 (W_X12_readFold dp ad)) (hg10 : jCN l D vwCl (tyR cy) cy ad ftR ksR (XtR ad) yX12_readSet (.code yX12_readSet cX12_readSet 4 (some .int) :: Om) (rm_gr_ dp) 1 (W_X12_readSet dp ad)) (hJ : jOk l D vwCl (tyR cy) cy ad ftR ksR (XtR ad) Om RX12 cX12_readP 4 1 (rm_gr_ (dp + 1)) Q J) {K5 : Int → MM → Prop} (hK5 : ∀ (x1 : Int) (M : MM), ri_ x1 → K5 x1 M → J 5 [(0, .ref (ad 0)), (1, .int (Ii x1))] [] M) : ∀ (x1 x2 s0 : Int) (M : MM), ri_ x1 → ri_ x2 → ri_ s0 → w_X12_readP_b52  (gr_  dp) Q K5 x1 x2 s0 M → J 52 [(0, .ref (ad 0)), (1, .int (Ii x1)), (2, .int (Ii x2))] [.int (Ii s0), .ref (ad 0)] M := by
  intro x1 x2 s0 M gx1 gx2 gs0 hF
  unfold w_X12_readP_b52 at hF
  refine j_callVi hJ (c_X12_node (l := l) (D := D) (cy := cy) (ad := ad) hin) rfl om_1375 ⟨rfl, rfl, by show _ ≤ _; simp only [rm_gr_]; omega, by show _ ≤ _; simp only [rm_gr_]; omega⟩ [.int (Ii s0)] mv_X12_683 hd_X12_nodev kR_0 rfl rfl rfl (Nat.le_of_ble_eq_true rfl) dX12_readP_52 ⟨s0, rfl, gs0, hF⟩ (fun r1 M2 gr1 qM2 => ?_)
  have hF := qM2 gr1
  refine j_istore_n (lv' := [(3, .int (Ii r1)), (0, .ref (ad 0)), (1, .int (Ii x1)), (2, .int (Ii x2))]) hJ dX12_readP_55 rfl (by decide) rfl ?_
  refine j_iload_n hJ dX12_readP_56 rfl 3 rfl ?_
  refine j_if_ne hJ 64 gx2 dX12_readP_57 (by decide) (fun z3 => ?_) (fun z3 => ?_)
  · have hF := hF.1 z3
    exact j_sub hJ [1, 2, 3, 0] rfl (k_X12_readP_b64 hin  hg0 hg1 hg2 hg3 hg4 hg5 hg6 hg7 hg8 hg9 hg10 hJ hK5 x1 x2 r1 _ gx1 gx2 gr1 hF)
  · have hF := hF.2 z3
    refine j_aload_n hJ dX12_readP_60 rfl 1 rfl ?_
    refine j_callVv hJ (c_X12_nest (l := l) (D := D) (cy := cy) (ad := ad) hin) rfl om_1436 ⟨rfl, rfl, by show _ ≤ _; simp only [rm_gr_]; omega, by show _ ≤ _; simp only [rm_gr_]; omega⟩ [] mv_X12_740 hd_X12_nestv kR_0 rfl rfl rfl (Nat.le_of_ble_eq_true rfl) dX12_readP_61 ⟨rfl, hF⟩ (fun M5 qM5 => ?_)
    have hF := qM5
    exact j_sub hJ [1, 2, 3, 0] rfl (k_X12_readP_b64 hin  hg0 hg1 hg2 hg3 hg4 hg5 hg6 hg7 hg8 hg9 hg10 hJ hK5 x1 x2 r1 _ gx1 gx2 gr1 hF)
set_option maxHeartbeats 4000000 in
set_option maxRecDepth 100000 in
theorem k_X12_readP_b32 {l : Launch} {D : va_G} {cy : Nat → ClassId} {ad : Nat → Nat} {dp : Nat} {Q : Int → MM → Prop} {J : Nat → List (Nat × Value) → List Value → MM → Prop} (hin : jIn ad ksR.length)   (hg0 : jCN l D vwCl (tyR cy) cy ad ftR ksR (XtR ad) yX12_readE (.code yX12_readE cX12_readE 3 (some .int) :: Om) (rm_gr_ dp) 1 (W_X12_readE dp ad)) (hg1 : jCN l D vwCl (tyR cy) cy ad ftR ksR (XtR ad) yX12_readAnd (.code yX12_readAnd cX12_readAnd 3 (some .int) :: Om) (rm_gr_ dp) 1 (W_X12_readAnd dp ad)) (hg2 : jCN l D vwCl (tyR cy) cy ad ftR ksR (XtR ad) yX12_readNot (.code yX12_readNot cX12_readNot 2 (some .int) :: Om) (rm_gr_ dp) 1 (W_X12_readNot dp ad)) (hg3 : jCN l D vwCl (tyR cy) cy ad ftR ksR (XtR ad) yX12_readCompared (.code yX12_readCompared cX12_readCompared 4 (some .int) :: Om) (rm_gr_ dp) 1 (W_X12_readCompared dp ad)) (hg4 : jCN l D vwCl (tyR cy) cy ad ftR ksR (XtR ad) yX12_readSum (.code yX12_readSum cX12_readSum 3 (some .int) :: Om) (rm_gr_ dp) 1 (W_X12_readSum dp ad)) (hg5 : jCN l D vwCl (tyR cy) cy ad ftR ksR (XtR ad) yX12_readProduct (.code yX12_readProduct cX12_readProduct 3 (some .int) :: Om) (rm_gr_ dp) 1 (W_X12_readProduct dp ad)) (hg6 : jCN l D vwCl (tyR cy) cy ad ftR ksR (XtR ad) yX12_readTurned (.code yX12_readTurned cX12_readTurned 2 (some .int) :: Om) (rm_gr_ dp) 1 (W_X12_readTurned dp ad)) (hg7 : jCN l D vwCl (tyR cy) cy ad ftR ksR (XtR ad) yX12_readP (.code yX12_readP cX12_readP 4 (some .int) :: Om) (rm_gr_ dp) 1 (W_X12_readP dp ad)) (hg8 : jCN l D vwCl (tyR cy) cy ad ftR ksR (XtR ad) yX12_readAtom (.code yX12_readAtom cX12_readAtom 5 (some .int) :: Om) (rm_gr_ dp) 1 (W_X12_readAtom dp ad)) (hg9 : jCN l D vwCl (tyR cy) cy ad ftR ksR (XtR ad) yX12_readFold (.code yX12_readFold cX12_readFold 5 (some .int) :: Om) (rm_gr_ dp) 1 (W_X12_readFold dp ad)) (hg10 : jCN l D vwCl (tyR cy) cy ad ftR ksR (XtR ad) yX12_readSet (.code yX12_readSet cX12_readSet 4 (some .int) :: Om) (rm_gr_ dp) 1 (W_X12_readSet dp ad)) (hJ : jOk l D vwCl (tyR cy) cy ad ftR ksR (XtR ad) Om RX12 cX12_readP 4 1 (rm_gr_ (dp + 1)) Q J) {K5 : Int → MM → Prop} (hK5 : ∀ (x1 : Int) (M : MM), ri_ x1 → K5 x1 M → J 5 [(0, .ref (ad 0)), (1, .int (Ii x1))] [] M) : ∀ (x1 : Int) (M : MM), ri_ x1 → w_X12_readP_b32  (gr_  dp) Q K5 x1 M → J 32 [(0, .ref (ad 0)), (1, .int (Ii x1))] [] M := by
  intro x1 M gx1 hF
  unfold w_X12_readP_b32 at hF
  refine j_aload_n hJ dX12_readP_32 rfl 0 rfl ?_
  refine j_ldc2 hJ 46 om_1426 (by decide) dX12_readP_33 ?_
  refine j_callVz hJ (c_X12_isSign (l := l) (D := D) (cy := cy) (ad := ad) hin) rfl om_1359 ⟨rfl, rfl, by show _ ≤ _; simp only [rm_gr_]; omega, by show _ ≤ _; simp only [rm_gr_]; omega⟩ [.long (Ll 46)] mv_X12_657 hd_X12_isSignv kR_0 rfl rfl rfl (Nat.le_of_ble_eq_true rfl) dX12_readP_36 ⟨46, rfl, lk_46, hF⟩ (fun r1 M2 gr1 qM2 => ?_)
  have hF := qM2 gr1
  refine j_istore_n (lv' := [(2, .int (Ii r1)), (0, .ref (ad 0)), (1, .int (Ii x1))]) hJ dX12_readP_39 rfl (by decide) rfl ?_
  refine j_aload_n hJ dX12_readP_40 rfl 1 rfl ?_
  refine j_iload_n hJ dX12_readP_41 rfl 0 rfl ?_
  refine j_if_eq hJ 50 (jz_ri gr1) dX12_readP_42 (by decide) (fun z3 => ?_) (fun z3 => ?_)
  · have hF := hF.1 z3
    refine j_bipush hJ dX12_readP_50 (by decide) ?_
    exact j_sub hJ [1, 2, 0] rfl (k_X12_readP_b52 hin  hg0 hg1 hg2 hg3 hg4 hg5 hg6 hg7 hg8 hg9 hg10 hJ hK5 x1 r1 115 _ gx1 (jz_ri gr1) rk_115 hF)
  · have hF := hF.2 z3
    refine j_bipush hJ dX12_readP_45 (by decide) ?_
    refine j_goto hJ 52 dX12_readP_47 (by decide) ?_
    exact j_sub hJ [1, 2, 0] rfl (k_X12_readP_b52 hin  hg0 hg1 hg2 hg3 hg4 hg5 hg6 hg7 hg8 hg9 hg10 hJ hK5 x1 r1 114 _ gx1 (jz_ri gr1) rk_114 hF)
set_option maxHeartbeats 4000000 in
set_option maxRecDepth 100000 in
theorem k_X12_readP_b5 {l : Launch} {D : va_G} {cy : Nat → ClassId} {ad : Nat → Nat} {dp : Nat} {Q : Int → MM → Prop} {J : Nat → List (Nat × Value) → List Value → MM → Prop} (hin : jIn ad ksR.length)   (hg0 : jCN l D vwCl (tyR cy) cy ad ftR ksR (XtR ad) yX12_readE (.code yX12_readE cX12_readE 3 (some .int) :: Om) (rm_gr_ dp) 1 (W_X12_readE dp ad)) (hg1 : jCN l D vwCl (tyR cy) cy ad ftR ksR (XtR ad) yX12_readAnd (.code yX12_readAnd cX12_readAnd 3 (some .int) :: Om) (rm_gr_ dp) 1 (W_X12_readAnd dp ad)) (hg2 : jCN l D vwCl (tyR cy) cy ad ftR ksR (XtR ad) yX12_readNot (.code yX12_readNot cX12_readNot 2 (some .int) :: Om) (rm_gr_ dp) 1 (W_X12_readNot dp ad)) (hg3 : jCN l D vwCl (tyR cy) cy ad ftR ksR (XtR ad) yX12_readCompared (.code yX12_readCompared cX12_readCompared 4 (some .int) :: Om) (rm_gr_ dp) 1 (W_X12_readCompared dp ad)) (hg4 : jCN l D vwCl (tyR cy) cy ad ftR ksR (XtR ad) yX12_readSum (.code yX12_readSum cX12_readSum 3 (some .int) :: Om) (rm_gr_ dp) 1 (W_X12_readSum dp ad)) (hg5 : jCN l D vwCl (tyR cy) cy ad ftR ksR (XtR ad) yX12_readProduct (.code yX12_readProduct cX12_readProduct 3 (some .int) :: Om) (rm_gr_ dp) 1 (W_X12_readProduct dp ad)) (hg6 : jCN l D vwCl (tyR cy) cy ad ftR ksR (XtR ad) yX12_readTurned (.code yX12_readTurned cX12_readTurned 2 (some .int) :: Om) (rm_gr_ dp) 1 (W_X12_readTurned dp ad)) (hg7 : jCN l D vwCl (tyR cy) cy ad ftR ksR (XtR ad) yX12_readP (.code yX12_readP cX12_readP 4 (some .int) :: Om) (rm_gr_ dp) 1 (W_X12_readP dp ad)) (hg8 : jCN l D vwCl (tyR cy) cy ad ftR ksR (XtR ad) yX12_readAtom (.code yX12_readAtom cX12_readAtom 5 (some .int) :: Om) (rm_gr_ dp) 1 (W_X12_readAtom dp ad)) (hg9 : jCN l D vwCl (tyR cy) cy ad ftR ksR (XtR ad) yX12_readFold (.code yX12_readFold cX12_readFold 5 (some .int) :: Om) (rm_gr_ dp) 1 (W_X12_readFold dp ad)) (hg10 : jCN l D vwCl (tyR cy) cy ad ftR ksR (XtR ad) yX12_readSet (.code yX12_readSet cX12_readSet 4 (some .int) :: Om) (rm_gr_ dp) 1 (W_X12_readSet dp ad)) (hJ : jOk l D vwCl (tyR cy) cy ad ftR ksR (XtR ad) Om RX12 cX12_readP 4 1 (rm_gr_ (dp + 1)) Q J)  : ∀ (x1 : Int) (M : MM), ri_ x1 → w_X12_readP_b5  (gr_  dp) Q  x1 M → J 5 [(0, .ref (ad 0)), (1, .int (Ii x1))] [] M := by
  have H9 : ∀ (n : Nat) (x1 : Int) (M : MM), ri_ x1 → jit (fun _ _ => False) (wb_X12_readP_b5  (gr_  dp) Q ) n x1 M → J 5 [(0, .ref (ad 0)), (1, .int (Ii x1))] [] M := by
    intro n
    induction n with
    | zero => intro x1 M gx1 hF; exact False.elim hF
    | succ n ih =>
    intro x1 M gx1 hF
    have hF : wb_X12_readP_b5  (gr_  dp) Q  (jit (fun _ _ => False) (wb_X12_readP_b5  (gr_  dp) Q ) n) x1 M := hF
    unfold wb_X12_readP_b5 at hF
    refine j_aload_n hJ dX12_readP_5 rfl 0 rfl ?_
    refine j_gi hJ kR_0 fR_15_83 rfl fl_X12_625 dX12_readP_6 (fun v1 ev1 gv1 => ?_)
    have hF := hF v1 ev1 gv1
    refine j_if_ne hJ 171 gv1 dX12_readP_9 (by decide) (fun z2 => ?_) (fun z2 => ?_)
    · have hF := hF.1 z2
      refine j_iload_n hJ dX12_readP_171 rfl 1 rfl ?_
      exact j_iret hJ rfl gx1 dX12_readP_172 hF
    · have hF := hF.2 z2
      refine j_aload_n hJ dX12_readP_12 rfl 0 rfl ?_
      refine j_ldc2 hJ 46 om_1426 (by decide) dX12_readP_13 ?_
      refine j_callVz hJ (c_X12_isSign (l := l) (D := D) (cy := cy) (ad := ad) hin) rfl om_1359 ⟨rfl, rfl, by show _ ≤ _; simp only [rm_gr_]; omega, by show _ ≤ _; simp only [rm_gr_]; omega⟩ [.long (Ll 46)] mv_X12_657 hd_X12_isSignv kR_0 rfl rfl rfl (Nat.le_of_ble_eq_true rfl) dX12_readP_16 ⟨46, rfl, lk_46, hF⟩ (fun r3 M4 gr3 qM4 => ?_)
      have hF := qM4 gr3
      refine j_if_ne hJ 32 (jz_ri gr3) dX12_readP_19 (by decide) (fun z5 => ?_) (fun z5 => ?_)
      · have hF := hF.1 z5
        exact j_sub hJ [0, 1] rfl (k_X12_readP_b32 hin  hg0 hg1 hg2 hg3 hg4 hg5 hg6 hg7 hg8 hg9 hg10 hJ ih x1 _ gx1 hF)
      · have hF := hF.2 z5
        refine j_aload_n hJ dX12_readP_22 rfl 0 rfl ?_
        refine j_ldc2 hJ 91 om_1440 (by decide) dX12_readP_23 ?_
        refine j_callVz hJ (c_X12_isSign (l := l) (D := D) (cy := cy) (ad := ad) hin) rfl om_1359 ⟨rfl, rfl, by show _ ≤ _; simp only [rm_gr_]; omega, by show _ ≤ _; simp only [rm_gr_]; omega⟩ [.long (Ll 91)] mv_X12_657 hd_X12_isSignv kR_0 rfl rfl rfl (Nat.le_of_ble_eq_true rfl) dX12_readP_26 ⟨91, rfl, lk_91, hF⟩ (fun r6 M7 gr6 qM7 => ?_)
        have hF := qM7 gr6
        refine j_if_eq hJ 171 (jz_ri gr6) dX12_readP_29 (by decide) (fun z8 => ?_) (fun z8 => ?_)
        · have hF := hF.1 z8
          refine j_iload_n hJ dX12_readP_171 rfl 1 rfl ?_
          exact j_iret hJ rfl gx1 dX12_readP_172 hF
        · have hF := hF.2 z8
          exact j_sub hJ [0, 1] rfl (k_X12_readP_b32 hin  hg0 hg1 hg2 hg3 hg4 hg5 hg6 hg7 hg8 hg9 hg10 hJ ih x1 _ gx1 hF)
  intro x1 M gx1 hF
  obtain ⟨n, hF⟩ := hF
  exact H9 n x1 M gx1 hF
set_option maxHeartbeats 4000000 in
set_option maxRecDepth 100000 in
theorem s_X12_readP {l : Launch} {D : va_G} {cy : Nat → ClassId} {ad : Nat → Nat} {dp : Nat} (hin : jIn ad ksR.length) (hg0 : jCN l D vwCl (tyR cy) cy ad ftR ksR (XtR ad) yX12_readE (.code yX12_readE cX12_readE 3 (some .int) :: Om) (rm_gr_ dp) 1 (W_X12_readE dp ad)) (hg1 : jCN l D vwCl (tyR cy) cy ad ftR ksR (XtR ad) yX12_readAnd (.code yX12_readAnd cX12_readAnd 3 (some .int) :: Om) (rm_gr_ dp) 1 (W_X12_readAnd dp ad)) (hg2 : jCN l D vwCl (tyR cy) cy ad ftR ksR (XtR ad) yX12_readNot (.code yX12_readNot cX12_readNot 2 (some .int) :: Om) (rm_gr_ dp) 1 (W_X12_readNot dp ad)) (hg3 : jCN l D vwCl (tyR cy) cy ad ftR ksR (XtR ad) yX12_readCompared (.code yX12_readCompared cX12_readCompared 4 (some .int) :: Om) (rm_gr_ dp) 1 (W_X12_readCompared dp ad)) (hg4 : jCN l D vwCl (tyR cy) cy ad ftR ksR (XtR ad) yX12_readSum (.code yX12_readSum cX12_readSum 3 (some .int) :: Om) (rm_gr_ dp) 1 (W_X12_readSum dp ad)) (hg5 : jCN l D vwCl (tyR cy) cy ad ftR ksR (XtR ad) yX12_readProduct (.code yX12_readProduct cX12_readProduct 3 (some .int) :: Om) (rm_gr_ dp) 1 (W_X12_readProduct dp ad)) (hg6 : jCN l D vwCl (tyR cy) cy ad ftR ksR (XtR ad) yX12_readTurned (.code yX12_readTurned cX12_readTurned 2 (some .int) :: Om) (rm_gr_ dp) 1 (W_X12_readTurned dp ad)) (hg7 : jCN l D vwCl (tyR cy) cy ad ftR ksR (XtR ad) yX12_readP (.code yX12_readP cX12_readP 4 (some .int) :: Om) (rm_gr_ dp) 1 (W_X12_readP dp ad)) (hg8 : jCN l D vwCl (tyR cy) cy ad ftR ksR (XtR ad) yX12_readAtom (.code yX12_readAtom cX12_readAtom 5 (some .int) :: Om) (rm_gr_ dp) 1 (W_X12_readAtom dp ad)) (hg9 : jCN l D vwCl (tyR cy) cy ad ftR ksR (XtR ad) yX12_readFold (.code yX12_readFold cX12_readFold 5 (some .int) :: Om) (rm_gr_ dp) 1 (W_X12_readFold dp ad)) (hg10 : jCN l D vwCl (tyR cy) cy ad ftR ksR (XtR ad) yX12_readSet (.code yX12_readSet cX12_readSet 4 (some .int) :: Om) (rm_gr_ dp) 1 (W_X12_readSet dp ad)) : jCN l D vwCl (tyR cy) cy ad ftR ksR (XtR ad) yX12_readP (.code yX12_readP cX12_readP 4 (some .int) :: Om) (rm_gr_ (dp + 1)) 1 (W_X12_readP (dp + 1) ad) := by
  refine jCN_of (y := yX12_readP) (cc := cX12_readP) (nL := 4) (rk := 1) (rm := (rm_gr_ (dp + 1))) (own := RX12) (tyR_ok cy) hin (XtR_ok ad) Om_good (by decide) rfl ?_
  intro Q av M hF
  obtain ⟨rfl, hF⟩ := hF
  refine ⟨Nat.le_of_ble_eq_true rfl, fun J hJ => ?_⟩
  show J 0 [(0, .ref (ad 0))] [] M
  have hF : b_X12_readP  (gr_  dp) Q  M := hF
  unfold b_X12_readP at hF
  refine j_aload_n hJ dX12_readP_0 rfl 0 rfl ?_
  refine j_callVi hJ hg8 rfl om_1422 ⟨rfl, rfl, by show _ ≤ _; simp only [rm_gr_]; omega, by show _ ≤ _; simp only [rm_gr_]; omega⟩ [] mv_X12_733 hd_X12_readAtomv kR_0 rfl rfl rfl (Nat.le_of_ble_eq_true rfl) dX12_readP_1 ⟨rfl, hF⟩ (fun r1 M2 gr1 qM2 => ?_)
  have hF := qM2 gr1
  refine j_istore_n (lv' := [(1, .int (Ii r1)), (0, .ref (ad 0))]) hJ dX12_readP_4 rfl (by decide) rfl ?_
  exact j_sub hJ [1, 0] rfl (k_X12_readP_b5 hin  hg0 hg1 hg2 hg3 hg4 hg5 hg6 hg7 hg8 hg9 hg10 hJ  r1 _ gr1 hF)
set_option maxHeartbeats 4000000 in
set_option maxRecDepth 100000 in
theorem k_X12_readAtom_b364 {l : Launch} {D : va_G} {cy : Nat → ClassId} {ad : Nat → Nat} {dp : Nat} {Q : Int → MM → Prop} {J : Nat → List (Nat × Value) → List Value → MM → Prop} (hin : jIn ad ksR.length)   (hg0 : jCN l D vwCl (tyR cy) cy ad ftR ksR (XtR ad) yX12_readE (.code yX12_readE cX12_readE 3 (some .int) :: Om) (rm_gr_ dp) 1 (W_X12_readE dp ad)) (hg1 : jCN l D vwCl (tyR cy) cy ad ftR ksR (XtR ad) yX12_readAnd (.code yX12_readAnd cX12_readAnd 3 (some .int) :: Om) (rm_gr_ dp) 1 (W_X12_readAnd dp ad)) (hg2 : jCN l D vwCl (tyR cy) cy ad ftR ksR (XtR ad) yX12_readNot (.code yX12_readNot cX12_readNot 2 (some .int) :: Om) (rm_gr_ dp) 1 (W_X12_readNot dp ad)) (hg3 : jCN l D vwCl (tyR cy) cy ad ftR ksR (XtR ad) yX12_readCompared (.code yX12_readCompared cX12_readCompared 4 (some .int) :: Om) (rm_gr_ dp) 1 (W_X12_readCompared dp ad)) (hg4 : jCN l D vwCl (tyR cy) cy ad ftR ksR (XtR ad) yX12_readSum (.code yX12_readSum cX12_readSum 3 (some .int) :: Om) (rm_gr_ dp) 1 (W_X12_readSum dp ad)) (hg5 : jCN l D vwCl (tyR cy) cy ad ftR ksR (XtR ad) yX12_readProduct (.code yX12_readProduct cX12_readProduct 3 (some .int) :: Om) (rm_gr_ dp) 1 (W_X12_readProduct dp ad)) (hg6 : jCN l D vwCl (tyR cy) cy ad ftR ksR (XtR ad) yX12_readTurned (.code yX12_readTurned cX12_readTurned 2 (some .int) :: Om) (rm_gr_ dp) 1 (W_X12_readTurned dp ad)) (hg7 : jCN l D vwCl (tyR cy) cy ad ftR ksR (XtR ad) yX12_readP (.code yX12_readP cX12_readP 4 (some .int) :: Om) (rm_gr_ dp) 1 (W_X12_readP dp ad)) (hg8 : jCN l D vwCl (tyR cy) cy ad ftR ksR (XtR ad) yX12_readAtom (.code yX12_readAtom cX12_readAtom 5 (some .int) :: Om) (rm_gr_ dp) 1 (W_X12_readAtom dp ad)) (hg9 : jCN l D vwCl (tyR cy) cy ad ftR ksR (XtR ad) yX12_readFold (.code yX12_readFold cX12_readFold 5 (some .int) :: Om) (rm_gr_ dp) 1 (W_X12_readFold dp ad)) (hg10 : jCN l D vwCl (tyR cy) cy ad ftR ksR (XtR ad) yX12_readSet (.code yX12_readSet cX12_readSet 4 (some .int) :: Om) (rm_gr_ dp) 1 (W_X12_readSet dp ad)) (hJ : jOk l D vwCl (tyR cy) cy ad ftR ksR (XtR ad) Om RX12 cX12_readAtom 5 1 (rm_gr_ (dp + 1)) Q J)  : ∀ (x3 s0 : Int) (M : MM), ri_ x3 → ri_ s0 → w_X12_readAtom_b364  (gr_  dp) Q  x3 s0 M → J 364 [(0, .ref (ad 0)), (3, .int (Ii x3))] [.int (Ii s0), .ref (ad 0)] M := by
  intro x3 s0 M gx3 gs0 hF
  unfold w_X12_readAtom_b364 at hF
  refine j_callVi hJ (c_X12_node (l := l) (D := D) (cy := cy) (ad := ad) hin) rfl om_1375 ⟨rfl, rfl, by show _ ≤ _; simp only [rm_gr_]; omega, by show _ ≤ _; simp only [rm_gr_]; omega⟩ [.int (Ii s0)] mv_X12_683 hd_X12_nodev kR_0 rfl rfl rfl (Nat.le_of_ble_eq_true rfl) dX12_readAtom_364 ⟨s0, rfl, gs0, hF⟩ (fun r1 M2 gr1 qM2 => ?_)
  have hF := qM2 gr1
  refine j_istore (lv' := [(4, .int (Ii r1)), (0, .ref (ad 0)), (3, .int (Ii x3))]) hJ dX12_readAtom_367 (by decide) rfl ?_
  refine j_aload_n hJ dX12_readAtom_369 rfl 1 rfl ?_
  refine j_gi hJ kR_0 fR_15_83 rfl fl_X12_625 dX12_readAtom_370 (fun v3 ev3 gv3 => ?_)
  have hF := hF v3 ev3 gv3
  refine j_if_le hJ 379 gv3 dX12_readAtom_373 (by decide) (fun z4 => ?_) (fun z4 => ?_)
  · have hF := hF.1 z4
    refine j_aload_n hJ dX12_readAtom_379 rfl 1 rfl ?_
    refine j_gr (e := 67) hJ kR_0 fR_15_87 fl_X12_275 dX12_readAtom_380 rfl ?_
    refine j_iload hJ dX12_readAtom_383 0 rfl ?_
    refine j_iload_n hJ dX12_readAtom_385 rfl 2 rfl ?_
    refine j_iast hJ gr1 gx3 kR_67 hF.1 hF.2.1 dX12_readAtom_386 (fun M5 eM5 => ?_)
    have hF := hF.2.2 M5 eM5
    refine j_aload_n hJ dX12_readAtom_387 rfl 1 rfl ?_
    refine j_callVv hJ (c_X12_advance (l := l) (D := D) (cy := cy) (ad := ad) hin) rfl om_1355 ⟨rfl, rfl, by show _ ≤ _; simp only [rm_gr_]; omega, by show _ ≤ _; simp only [rm_gr_]; omega⟩ [] mv_X12_661 hd_X12_advancev kR_0 rfl rfl rfl (Nat.le_of_ble_eq_true rfl) dX12_readAtom_388 ⟨rfl, hF⟩ (fun M7 qM7 => ?_)
    have hF := qM7
    refine j_iload hJ dX12_readAtom_391 0 rfl ?_
    exact j_iret hJ rfl gr1 dX12_readAtom_393 hF
  · have hF := hF.2 z4
    refine j_iload hJ dX12_readAtom_376 0 rfl ?_
    exact j_iret hJ rfl gr1 dX12_readAtom_378 hF
set_option maxHeartbeats 4000000 in
set_option maxRecDepth 100000 in
theorem k_X12_readAtom_b340 {l : Launch} {D : va_G} {cy : Nat → ClassId} {ad : Nat → Nat} {dp : Nat} {Q : Int → MM → Prop} {J : Nat → List (Nat × Value) → List Value → MM → Prop} (hin : jIn ad ksR.length)   (hg0 : jCN l D vwCl (tyR cy) cy ad ftR ksR (XtR ad) yX12_readE (.code yX12_readE cX12_readE 3 (some .int) :: Om) (rm_gr_ dp) 1 (W_X12_readE dp ad)) (hg1 : jCN l D vwCl (tyR cy) cy ad ftR ksR (XtR ad) yX12_readAnd (.code yX12_readAnd cX12_readAnd 3 (some .int) :: Om) (rm_gr_ dp) 1 (W_X12_readAnd dp ad)) (hg2 : jCN l D vwCl (tyR cy) cy ad ftR ksR (XtR ad) yX12_readNot (.code yX12_readNot cX12_readNot 2 (some .int) :: Om) (rm_gr_ dp) 1 (W_X12_readNot dp ad)) (hg3 : jCN l D vwCl (tyR cy) cy ad ftR ksR (XtR ad) yX12_readCompared (.code yX12_readCompared cX12_readCompared 4 (some .int) :: Om) (rm_gr_ dp) 1 (W_X12_readCompared dp ad)) (hg4 : jCN l D vwCl (tyR cy) cy ad ftR ksR (XtR ad) yX12_readSum (.code yX12_readSum cX12_readSum 3 (some .int) :: Om) (rm_gr_ dp) 1 (W_X12_readSum dp ad)) (hg5 : jCN l D vwCl (tyR cy) cy ad ftR ksR (XtR ad) yX12_readProduct (.code yX12_readProduct cX12_readProduct 3 (some .int) :: Om) (rm_gr_ dp) 1 (W_X12_readProduct dp ad)) (hg6 : jCN l D vwCl (tyR cy) cy ad ftR ksR (XtR ad) yX12_readTurned (.code yX12_readTurned cX12_readTurned 2 (some .int) :: Om) (rm_gr_ dp) 1 (W_X12_readTurned dp ad)) (hg7 : jCN l D vwCl (tyR cy) cy ad ftR ksR (XtR ad) yX12_readP (.code yX12_readP cX12_readP 4 (some .int) :: Om) (rm_gr_ dp) 1 (W_X12_readP dp ad)) (hg8 : jCN l D vwCl (tyR cy) cy ad ftR ksR (XtR ad) yX12_readAtom (.code yX12_readAtom cX12_readAtom 5 (some .int) :: Om) (rm_gr_ dp) 1 (W_X12_readAtom dp ad)) (hg9 : jCN l D vwCl (tyR cy) cy ad ftR ksR (XtR ad) yX12_readFold (.code yX12_readFold cX12_readFold 5 (some .int) :: Om) (rm_gr_ dp) 1 (W_X12_readFold dp ad)) (hg10 : jCN l D vwCl (tyR cy) cy ad ftR ksR (XtR ad) yX12_readSet (.code yX12_readSet cX12_readSet 4 (some .int) :: Om) (rm_gr_ dp) 1 (W_X12_readSet dp ad)) (hJ : jOk l D vwCl (tyR cy) cy ad ftR ksR (XtR ad) Om RX12 cX12_readAtom 5 1 (rm_gr_ (dp + 1)) Q J)  : ∀ (x1 x2 x3 : Int) (M : MM), ri_ x1 → ri_ x2 → ri_ x3 → w_X12_readAtom_b340  (gr_  dp) Q  x1 x2 x3 M → J 340 [(0, .ref (ad 0)), (1, .int (Ii x1)), (2, .int (Ii x2)), (3, .int (Ii x3))] [] M := by
  intro x1 x2 x3 M gx1 gx2 gx3 hF
  unfold w_X12_readAtom_b340 at hF
  refine j_aload_n hJ dX12_readAtom_340 rfl 0 rfl ?_
  refine j_aload_n hJ dX12_readAtom_341 rfl 0 rfl ?_
  refine j_gi hJ kR_0 fR_15_80 rfl fl_X12_644 dX12_readAtom_342 (fun v1 ev1 gv1 => ?_)
  have hF := hF v1 ev1 gv1
  refine j_iconst hJ dX12_readAtom_345 ?_
  refine j_icmp_ne hJ 354 gv1 rk_2 dX12_readAtom_346 (by decide) (fun z2 => ?_) (fun z2 => ?_)
  · have hF := hF.1 z2
    refine j_iload_n hJ dX12_readAtom_354 rfl 2 rfl ?_
    refine j_if_eq hJ 362 gx2 dX12_readAtom_355 (by decide) (fun z3 => ?_) (fun z3 => ?_)
    · have hF := hF.1 z3
      refine j_bipush hJ dX12_readAtom_362 (by decide) ?_
      exact j_sub hJ [0, 3] rfl (k_X12_readAtom_b364 hin  hg0 hg1 hg2 hg3 hg4 hg5 hg6 hg7 hg8 hg9 hg10 hJ  x3 101 _ gx3 rk_101 hF)
    · have hF := hF.2 z3
      refine j_iload_n hJ dX12_readAtom_358 rfl 1 rfl ?_
      refine j_goto hJ 364 dX12_readAtom_359 (by decide) ?_
      exact j_sub hJ [0, 3] rfl (k_X12_readAtom_b364 hin  hg0 hg1 hg2 hg3 hg4 hg5 hg6 hg7 hg8 hg9 hg10 hJ  x3 x1 _ gx3 gx1 hF)
  · have hF := hF.2 z2
    refine j_bipush hJ dX12_readAtom_349 (by decide) ?_
    refine j_goto hJ 364 dX12_readAtom_351 (by decide) ?_
    exact j_sub hJ [0, 3] rfl (k_X12_readAtom_b364 hin  hg0 hg1 hg2 hg3 hg4 hg5 hg6 hg7 hg8 hg9 hg10 hJ  x3 100 _ gx3 rk_100 hF)
set_option maxHeartbeats 4000000 in
set_option maxRecDepth 100000 in
theorem k_X12_readAtom_b331 {l : Launch} {D : va_G} {cy : Nat → ClassId} {ad : Nat → Nat} {dp : Nat} {Q : Int → MM → Prop} {J : Nat → List (Nat × Value) → List Value → MM → Prop} (hin : jIn ad ksR.length)   (hg0 : jCN l D vwCl (tyR cy) cy ad ftR ksR (XtR ad) yX12_readE (.code yX12_readE cX12_readE 3 (some .int) :: Om) (rm_gr_ dp) 1 (W_X12_readE dp ad)) (hg1 : jCN l D vwCl (tyR cy) cy ad ftR ksR (XtR ad) yX12_readAnd (.code yX12_readAnd cX12_readAnd 3 (some .int) :: Om) (rm_gr_ dp) 1 (W_X12_readAnd dp ad)) (hg2 : jCN l D vwCl (tyR cy) cy ad ftR ksR (XtR ad) yX12_readNot (.code yX12_readNot cX12_readNot 2 (some .int) :: Om) (rm_gr_ dp) 1 (W_X12_readNot dp ad)) (hg3 : jCN l D vwCl (tyR cy) cy ad ftR ksR (XtR ad) yX12_readCompared (.code yX12_readCompared cX12_readCompared 4 (some .int) :: Om) (rm_gr_ dp) 1 (W_X12_readCompared dp ad)) (hg4 : jCN l D vwCl (tyR cy) cy ad ftR ksR (XtR ad) yX12_readSum (.code yX12_readSum cX12_readSum 3 (some .int) :: Om) (rm_gr_ dp) 1 (W_X12_readSum dp ad)) (hg5 : jCN l D vwCl (tyR cy) cy ad ftR ksR (XtR ad) yX12_readProduct (.code yX12_readProduct cX12_readProduct 3 (some .int) :: Om) (rm_gr_ dp) 1 (W_X12_readProduct dp ad)) (hg6 : jCN l D vwCl (tyR cy) cy ad ftR ksR (XtR ad) yX12_readTurned (.code yX12_readTurned cX12_readTurned 2 (some .int) :: Om) (rm_gr_ dp) 1 (W_X12_readTurned dp ad)) (hg7 : jCN l D vwCl (tyR cy) cy ad ftR ksR (XtR ad) yX12_readP (.code yX12_readP cX12_readP 4 (some .int) :: Om) (rm_gr_ dp) 1 (W_X12_readP dp ad)) (hg8 : jCN l D vwCl (tyR cy) cy ad ftR ksR (XtR ad) yX12_readAtom (.code yX12_readAtom cX12_readAtom 5 (some .int) :: Om) (rm_gr_ dp) 1 (W_X12_readAtom dp ad)) (hg9 : jCN l D vwCl (tyR cy) cy ad ftR ksR (XtR ad) yX12_readFold (.code yX12_readFold cX12_readFold 5 (some .int) :: Om) (rm_gr_ dp) 1 (W_X12_readFold dp ad)) (hg10 : jCN l D vwCl (tyR cy) cy ad ftR ksR (XtR ad) yX12_readSet (.code yX12_readSet cX12_readSet 4 (some .int) :: Om) (rm_gr_ dp) 1 (W_X12_readSet dp ad)) (hJ : jOk l D vwCl (tyR cy) cy ad ftR ksR (XtR ad) Om RX12 cX12_readAtom 5 1 (rm_gr_ (dp + 1)) Q J)  : ∀ (x1 x2 x3 : Int) (M : MM), ri_ x1 → ri_ x2 → ri_ x3 → w_X12_readAtom_b331  (gr_  dp) Q  x1 x2 x3 M → J 331 [(0, .ref (ad 0)), (1, .int (Ii x1)), (2, .int (Ii x2)), (3, .int (Ii x3))] [] M := by
  intro x1 x2 x3 M gx1 gx2 gx3 hF
  unfold w_X12_readAtom_b331 at hF
  refine j_aload_n hJ dX12_readAtom_331 rfl 0 rfl ?_
  refine j_iconst hJ dX12_readAtom_332 ?_
  refine j_aload_n hJ dX12_readAtom_333 rfl 0 rfl ?_
  refine j_gi hJ kR_0 fR_15_79 rfl fl_X12_637 dX12_readAtom_334 (fun v1 ev1 gv1 => ?_)
  have hF := hF v1 ev1 gv1
  refine j_callVv hJ (c_X12_fail (l := l) (D := D) (cy := cy) (ad := ad) hin) rfl om_1351 ⟨rfl, rfl, by show _ ≤ _; simp only [rm_gr_]; omega, by show _ ≤ _; simp only [rm_gr_]; omega⟩ [.int (Ii 3), .int (Ii v1)] mv_X12_653 hd_X12_failv kR_0 rfl rfl rfl (Nat.le_of_ble_eq_true rfl) dX12_readAtom_337 ⟨3, v1, rfl, rk_3, gv1, hF⟩ (fun M3 qM3 => ?_)
  have hF := qM3
  exact j_sub hJ [0, 1, 2, 3] rfl (k_X12_readAtom_b340 hin  hg0 hg1 hg2 hg3 hg4 hg5 hg6 hg7 hg8 hg9 hg10 hJ  x1 x2 x3 _ gx1 gx2 gx3 hF)
set_option maxHeartbeats 4000000 in
set_option maxRecDepth 100000 in
theorem k_X12_readAtom_b322 {l : Launch} {D : va_G} {cy : Nat → ClassId} {ad : Nat → Nat} {dp : Nat} {Q : Int → MM → Prop} {J : Nat → List (Nat × Value) → List Value → MM → Prop} (hin : jIn ad ksR.length)   (hg0 : jCN l D vwCl (tyR cy) cy ad ftR ksR (XtR ad) yX12_readE (.code yX12_readE cX12_readE 3 (some .int) :: Om) (rm_gr_ dp) 1 (W_X12_readE dp ad)) (hg1 : jCN l D vwCl (tyR cy) cy ad ftR ksR (XtR ad) yX12_readAnd (.code yX12_readAnd cX12_readAnd 3 (some .int) :: Om) (rm_gr_ dp) 1 (W_X12_readAnd dp ad)) (hg2 : jCN l D vwCl (tyR cy) cy ad ftR ksR (XtR ad) yX12_readNot (.code yX12_readNot cX12_readNot 2 (some .int) :: Om) (rm_gr_ dp) 1 (W_X12_readNot dp ad)) (hg3 : jCN l D vwCl (tyR cy) cy ad ftR ksR (XtR ad) yX12_readCompared (.code yX12_readCompared cX12_readCompared 4 (some .int) :: Om) (rm_gr_ dp) 1 (W_X12_readCompared dp ad)) (hg4 : jCN l D vwCl (tyR cy) cy ad ftR ksR (XtR ad) yX12_readSum (.code yX12_readSum cX12_readSum 3 (some .int) :: Om) (rm_gr_ dp) 1 (W_X12_readSum dp ad)) (hg5 : jCN l D vwCl (tyR cy) cy ad ftR ksR (XtR ad) yX12_readProduct (.code yX12_readProduct cX12_readProduct 3 (some .int) :: Om) (rm_gr_ dp) 1 (W_X12_readProduct dp ad)) (hg6 : jCN l D vwCl (tyR cy) cy ad ftR ksR (XtR ad) yX12_readTurned (.code yX12_readTurned cX12_readTurned 2 (some .int) :: Om) (rm_gr_ dp) 1 (W_X12_readTurned dp ad)) (hg7 : jCN l D vwCl (tyR cy) cy ad ftR ksR (XtR ad) yX12_readP (.code yX12_readP cX12_readP 4 (some .int) :: Om) (rm_gr_ dp) 1 (W_X12_readP dp ad)) (hg8 : jCN l D vwCl (tyR cy) cy ad ftR ksR (XtR ad) yX12_readAtom (.code yX12_readAtom cX12_readAtom 5 (some .int) :: Om) (rm_gr_ dp) 1 (W_X12_readAtom dp ad)) (hg9 : jCN l D vwCl (tyR cy) cy ad ftR ksR (XtR ad) yX12_readFold (.code yX12_readFold cX12_readFold 5 (some .int) :: Om) (rm_gr_ dp) 1 (W_X12_readFold dp ad)) (hg10 : jCN l D vwCl (tyR cy) cy ad ftR ksR (XtR ad) yX12_readSet (.code yX12_readSet cX12_readSet 4 (some .int) :: Om) (rm_gr_ dp) 1 (W_X12_readSet dp ad)) (hJ : jOk l D vwCl (tyR cy) cy ad ftR ksR (XtR ad) Om RX12 cX12_readAtom 5 1 (rm_gr_ (dp + 1)) Q J)  : ∀ (x1 x2 x3 : Int) (M : MM), ri_ x1 → ri_ x2 → ri_ x3 → w_X12_readAtom_b322  (gr_  dp) Q  x1 x2 x3 M → J 322 [(0, .ref (ad 0)), (1, .int (Ii x1)), (2, .int (Ii x2)), (3, .int (Ii x3))] [] M := by
  intro x1 x2 x3 M gx1 gx2 gx3 hF
  unfold w_X12_readAtom_b322 at hF
  refine j_iload_n hJ dX12_readAtom_322 rfl 2 rfl ?_
  refine j_if_ne hJ 340 gx2 dX12_readAtom_323 (by decide) (fun z1 => ?_) (fun z1 => ?_)
  · have hF := hF.1 z1
    exact j_sub hJ [0, 1, 2, 3] rfl (k_X12_readAtom_b340 hin  hg0 hg1 hg2 hg3 hg4 hg5 hg6 hg7 hg8 hg9 hg10 hJ  x1 x2 x3 _ gx1 gx2 gx3 hF)
  · have hF := hF.2 z1
    refine j_iload_n hJ dX12_readAtom_326 rfl 3 rfl ?_
    refine j_iconst hJ dX12_readAtom_327 ?_
    refine j_icmp_ne hJ 340 gx3 rk_m1 dX12_readAtom_328 (by decide) (fun z2 => ?_) (fun z2 => ?_)
    · have hF := hF.1 z2
      exact j_sub hJ [0, 1, 2, 3] rfl (k_X12_readAtom_b340 hin  hg0 hg1 hg2 hg3 hg4 hg5 hg6 hg7 hg8 hg9 hg10 hJ  x1 x2 x3 _ gx1 gx2 gx3 hF)
    · have hF := hF.2 z2
      exact j_sub hJ [0, 1, 2, 3] rfl (k_X12_readAtom_b331 hin  hg0 hg1 hg2 hg3 hg4 hg5 hg6 hg7 hg8 hg9 hg10 hJ  x1 x2 x3 _ gx1 gx2 gx3 hF)
set_option maxHeartbeats 4000000 in
set_option maxRecDepth 100000 in
theorem k_X12_readAtom_b309 {l : Launch} {D : va_G} {cy : Nat → ClassId} {ad : Nat → Nat} {dp : Nat} {Q : Int → MM → Prop} {J : Nat → List (Nat × Value) → List Value → MM → Prop} (hin : jIn ad ksR.length)   (hg0 : jCN l D vwCl (tyR cy) cy ad ftR ksR (XtR ad) yX12_readE (.code yX12_readE cX12_readE 3 (some .int) :: Om) (rm_gr_ dp) 1 (W_X12_readE dp ad)) (hg1 : jCN l D vwCl (tyR cy) cy ad ftR ksR (XtR ad) yX12_readAnd (.code yX12_readAnd cX12_readAnd 3 (some .int) :: Om) (rm_gr_ dp) 1 (W_X12_readAnd dp ad)) (hg2 : jCN l D vwCl (tyR cy) cy ad ftR ksR (XtR ad) yX12_readNot (.code yX12_readNot cX12_readNot 2 (some .int) :: Om) (rm_gr_ dp) 1 (W_X12_readNot dp ad)) (hg3 : jCN l D vwCl (tyR cy) cy ad ftR ksR (XtR ad) yX12_readCompared (.code yX12_readCompared cX12_readCompared 4 (some .int) :: Om) (rm_gr_ dp) 1 (W_X12_readCompared dp ad)) (hg4 : jCN l D vwCl (tyR cy) cy ad ftR ksR (XtR ad) yX12_readSum (.code yX12_readSum cX12_readSum 3 (some .int) :: Om) (rm_gr_ dp) 1 (W_X12_readSum dp ad)) (hg5 : jCN l D vwCl (tyR cy) cy ad ftR ksR (XtR ad) yX12_readProduct (.code yX12_readProduct cX12_readProduct 3 (some .int) :: Om) (rm_gr_ dp) 1 (W_X12_readProduct dp ad)) (hg6 : jCN l D vwCl (tyR cy) cy ad ftR ksR (XtR ad) yX12_readTurned (.code yX12_readTurned cX12_readTurned 2 (some .int) :: Om) (rm_gr_ dp) 1 (W_X12_readTurned dp ad)) (hg7 : jCN l D vwCl (tyR cy) cy ad ftR ksR (XtR ad) yX12_readP (.code yX12_readP cX12_readP 4 (some .int) :: Om) (rm_gr_ dp) 1 (W_X12_readP dp ad)) (hg8 : jCN l D vwCl (tyR cy) cy ad ftR ksR (XtR ad) yX12_readAtom (.code yX12_readAtom cX12_readAtom 5 (some .int) :: Om) (rm_gr_ dp) 1 (W_X12_readAtom dp ad)) (hg9 : jCN l D vwCl (tyR cy) cy ad ftR ksR (XtR ad) yX12_readFold (.code yX12_readFold cX12_readFold 5 (some .int) :: Om) (rm_gr_ dp) 1 (W_X12_readFold dp ad)) (hg10 : jCN l D vwCl (tyR cy) cy ad ftR ksR (XtR ad) yX12_readSet (.code yX12_readSet cX12_readSet 4 (some .int) :: Om) (rm_gr_ dp) 1 (W_X12_readSet dp ad)) (hJ : jOk l D vwCl (tyR cy) cy ad ftR ksR (XtR ad) Om RX12 cX12_readAtom 5 1 (rm_gr_ (dp + 1)) Q J)  : ∀ (x1 x2 x3 : Int) (M : MM), ri_ x1 → ri_ x2 → ri_ x3 → w_X12_readAtom_b309  (gr_  dp) Q  x1 x2 x3 M → J 309 [(0, .ref (ad 0)), (1, .int (Ii x1)), (2, .int (Ii x2)), (3, .int (Ii x3))] [] M := by
  intro x1 x2 x3 M gx1 gx2 gx3 hF
  unfold w_X12_readAtom_b309 at hF
  refine j_iload_n hJ dX12_readAtom_309 rfl 1 rfl ?_
  refine j_bipush hJ dX12_readAtom_310 (by decide) ?_
  refine j_icmp_ne hJ 322 gx1 rk_27 dX12_readAtom_312 (by decide) (fun z1 => ?_) (fun z1 => ?_)
  · have hF := hF.1 z1
    exact j_sub hJ [0, 1, 2, 3] rfl (k_X12_readAtom_b322 hin  hg0 hg1 hg2 hg3 hg4 hg5 hg6 hg7 hg8 hg9 hg10 hJ  x1 x2 x3 _ gx1 gx2 gx3 hF)
  · have hF := hF.2 z1
    refine j_aload_n hJ dX12_readAtom_315 rfl 0 rfl ?_
    refine j_gz hJ kR_0 fR_15_95 rfl fl_X12_764 dX12_readAtom_316 (fun v2 ev2 gv2 => ?_)
    have hF := hF v2 ev2 gv2
    refine j_if_eq hJ 331 (jz_ri gv2) dX12_readAtom_319 (by decide) (fun z3 => ?_) (fun z3 => ?_)
    · have hF := hF.1 z3
      exact j_sub hJ [0, 1, 2, 3] rfl (k_X12_readAtom_b331 hin  hg0 hg1 hg2 hg3 hg4 hg5 hg6 hg7 hg8 hg9 hg10 hJ  x1 x2 x3 _ gx1 gx2 gx3 hF)
    · have hF := hF.2 z3
      exact j_sub hJ [0, 1, 2, 3] rfl (k_X12_readAtom_b322 hin  hg0 hg1 hg2 hg3 hg4 hg5 hg6 hg7 hg8 hg9 hg10 hJ  x1 x2 x3 _ gx1 gx2 gx3 hF)
set_option maxHeartbeats 4000000 in
set_option maxRecDepth 100000 in
theorem k_X12_readAtom_b302 {l : Launch} {D : va_G} {cy : Nat → ClassId} {ad : Nat → Nat} {dp : Nat} {Q : Int → MM → Prop} {J : Nat → List (Nat × Value) → List Value → MM → Prop} (hin : jIn ad ksR.length)   (hg0 : jCN l D vwCl (tyR cy) cy ad ftR ksR (XtR ad) yX12_readE (.code yX12_readE cX12_readE 3 (some .int) :: Om) (rm_gr_ dp) 1 (W_X12_readE dp ad)) (hg1 : jCN l D vwCl (tyR cy) cy ad ftR ksR (XtR ad) yX12_readAnd (.code yX12_readAnd cX12_readAnd 3 (some .int) :: Om) (rm_gr_ dp) 1 (W_X12_readAnd dp ad)) (hg2 : jCN l D vwCl (tyR cy) cy ad ftR ksR (XtR ad) yX12_readNot (.code yX12_readNot cX12_readNot 2 (some .int) :: Om) (rm_gr_ dp) 1 (W_X12_readNot dp ad)) (hg3 : jCN l D vwCl (tyR cy) cy ad ftR ksR (XtR ad) yX12_readCompared (.code yX12_readCompared cX12_readCompared 4 (some .int) :: Om) (rm_gr_ dp) 1 (W_X12_readCompared dp ad)) (hg4 : jCN l D vwCl (tyR cy) cy ad ftR ksR (XtR ad) yX12_readSum (.code yX12_readSum cX12_readSum 3 (some .int) :: Om) (rm_gr_ dp) 1 (W_X12_readSum dp ad)) (hg5 : jCN l D vwCl (tyR cy) cy ad ftR ksR (XtR ad) yX12_readProduct (.code yX12_readProduct cX12_readProduct 3 (some .int) :: Om) (rm_gr_ dp) 1 (W_X12_readProduct dp ad)) (hg6 : jCN l D vwCl (tyR cy) cy ad ftR ksR (XtR ad) yX12_readTurned (.code yX12_readTurned cX12_readTurned 2 (some .int) :: Om) (rm_gr_ dp) 1 (W_X12_readTurned dp ad)) (hg7 : jCN l D vwCl (tyR cy) cy ad ftR ksR (XtR ad) yX12_readP (.code yX12_readP cX12_readP 4 (some .int) :: Om) (rm_gr_ dp) 1 (W_X12_readP dp ad)) (hg8 : jCN l D vwCl (tyR cy) cy ad ftR ksR (XtR ad) yX12_readAtom (.code yX12_readAtom cX12_readAtom 5 (some .int) :: Om) (rm_gr_ dp) 1 (W_X12_readAtom dp ad)) (hg9 : jCN l D vwCl (tyR cy) cy ad ftR ksR (XtR ad) yX12_readFold (.code yX12_readFold cX12_readFold 5 (some .int) :: Om) (rm_gr_ dp) 1 (W_X12_readFold dp ad)) (hg10 : jCN l D vwCl (tyR cy) cy ad ftR ksR (XtR ad) yX12_readSet (.code yX12_readSet cX12_readSet 4 (some .int) :: Om) (rm_gr_ dp) 1 (W_X12_readSet dp ad)) (hJ : jOk l D vwCl (tyR cy) cy ad ftR ksR (XtR ad) Om RX12 cX12_readAtom 5 1 (rm_gr_ (dp + 1)) Q J) {K268 : Int → Int → Int → Int → MM → Prop} (hK268 : ∀ (x1 x2 x3 x4 : Int) (M : MM), ri_ x1 → ri_ x2 → ri_ x3 → ri_ x4 → K268 x1 x2 x3 x4 M → J 268 [(0, .ref (ad 0)), (1, .int (Ii x1)), (2, .int (Ii x2)), (3, .int (Ii x3)), (4, .int (Ii x4))] [] M) : ∀ (x1 x2 x4 s0 : Int) (M : MM), ri_ x1 → ri_ x2 → ri_ x4 → ri_ s0 → w_X12_readAtom_b302  (gr_  dp) Q K268 x1 x2 x4 s0 M → J 302 [(0, .ref (ad 0)), (1, .int (Ii x1)), (2, .int (Ii x2)), (4, .int (Ii x4))] [.int (Ii s0)] M := by
  intro x1 x2 x4 s0 M gx1 gx2 gx4 gs0 hF
  unfold w_X12_readAtom_b302 at hF
  refine j_istore_n (lv' := [(3, .int (Ii s0)), (0, .ref (ad 0)), (1, .int (Ii x1)), (2, .int (Ii x2)), (4, .int (Ii x4))]) hJ dX12_readAtom_302 rfl (by decide) rfl ?_
  refine j_iinc (lv' := [(4, .int (Ii (x4 + 1))), (3, .int (Ii s0)), (0, .ref (ad 0)), (1, .int (Ii x1)), (2, .int (Ii x2))]) (k := 4) hJ dX12_readAtom_303 rfl (by decide) rfl ?_
  have g1 := hF.1; have hF := hF.2
  refine j_goto hJ 268 dX12_readAtom_306 (by decide) ?_
  exact j_sub hJ [2, 3, 4, 1, 0] rfl (hK268 x1 x2 s0 (x4 + 1) _ gx1 gx2 gs0 g1 hF)
set_option maxHeartbeats 4000000 in
set_option maxRecDepth 100000 in
theorem k_X12_readAtom_b268 {l : Launch} {D : va_G} {cy : Nat → ClassId} {ad : Nat → Nat} {dp : Nat} {Q : Int → MM → Prop} {J : Nat → List (Nat × Value) → List Value → MM → Prop} (hin : jIn ad ksR.length)   (hg0 : jCN l D vwCl (tyR cy) cy ad ftR ksR (XtR ad) yX12_readE (.code yX12_readE cX12_readE 3 (some .int) :: Om) (rm_gr_ dp) 1 (W_X12_readE dp ad)) (hg1 : jCN l D vwCl (tyR cy) cy ad ftR ksR (XtR ad) yX12_readAnd (.code yX12_readAnd cX12_readAnd 3 (some .int) :: Om) (rm_gr_ dp) 1 (W_X12_readAnd dp ad)) (hg2 : jCN l D vwCl (tyR cy) cy ad ftR ksR (XtR ad) yX12_readNot (.code yX12_readNot cX12_readNot 2 (some .int) :: Om) (rm_gr_ dp) 1 (W_X12_readNot dp ad)) (hg3 : jCN l D vwCl (tyR cy) cy ad ftR ksR (XtR ad) yX12_readCompared (.code yX12_readCompared cX12_readCompared 4 (some .int) :: Om) (rm_gr_ dp) 1 (W_X12_readCompared dp ad)) (hg4 : jCN l D vwCl (tyR cy) cy ad ftR ksR (XtR ad) yX12_readSum (.code yX12_readSum cX12_readSum 3 (some .int) :: Om) (rm_gr_ dp) 1 (W_X12_readSum dp ad)) (hg5 : jCN l D vwCl (tyR cy) cy ad ftR ksR (XtR ad) yX12_readProduct (.code yX12_readProduct cX12_readProduct 3 (some .int) :: Om) (rm_gr_ dp) 1 (W_X12_readProduct dp ad)) (hg6 : jCN l D vwCl (tyR cy) cy ad ftR ksR (XtR ad) yX12_readTurned (.code yX12_readTurned cX12_readTurned 2 (some .int) :: Om) (rm_gr_ dp) 1 (W_X12_readTurned dp ad)) (hg7 : jCN l D vwCl (tyR cy) cy ad ftR ksR (XtR ad) yX12_readP (.code yX12_readP cX12_readP 4 (some .int) :: Om) (rm_gr_ dp) 1 (W_X12_readP dp ad)) (hg8 : jCN l D vwCl (tyR cy) cy ad ftR ksR (XtR ad) yX12_readAtom (.code yX12_readAtom cX12_readAtom 5 (some .int) :: Om) (rm_gr_ dp) 1 (W_X12_readAtom dp ad)) (hg9 : jCN l D vwCl (tyR cy) cy ad ftR ksR (XtR ad) yX12_readFold (.code yX12_readFold cX12_readFold 5 (some .int) :: Om) (rm_gr_ dp) 1 (W_X12_readFold dp ad)) (hg10 : jCN l D vwCl (tyR cy) cy ad ftR ksR (XtR ad) yX12_readSet (.code yX12_readSet cX12_readSet 4 (some .int) :: Om) (rm_gr_ dp) 1 (W_X12_readSet dp ad)) (hJ : jOk l D vwCl (tyR cy) cy ad ftR ksR (XtR ad) Om RX12 cX12_readAtom 5 1 (rm_gr_ (dp + 1)) Q J)  : ∀ (x1 x2 x3 x4 : Int) (M : MM), ri_ x1 → ri_ x2 → ri_ x3 → ri_ x4 → w_X12_readAtom_b268  (gr_  dp) Q  x1 x2 x3 x4 M → J 268 [(0, .ref (ad 0)), (1, .int (Ii x1)), (2, .int (Ii x2)), (3, .int (Ii x3)), (4, .int (Ii x4))] [] M := by
  have H9 : ∀ (n : Nat) (x1 x2 x3 x4 : Int) (M : MM), ri_ x1 → ri_ x2 → ri_ x3 → ri_ x4 → jit (fun _ _ _ _ _ => False) (wb_X12_readAtom_b268  (gr_  dp) Q ) n x1 x2 x3 x4 M → J 268 [(0, .ref (ad 0)), (1, .int (Ii x1)), (2, .int (Ii x2)), (3, .int (Ii x3)), (4, .int (Ii x4))] [] M := by
    intro n
    induction n with
    | zero => intro x1 x2 x3 x4 M gx1 gx2 gx3 gx4 hF; exact False.elim hF
    | succ n ih =>
    intro x1 x2 x3 x4 M gx1 gx2 gx3 gx4 hF
    have hF : wb_X12_readAtom_b268  (gr_  dp) Q  (jit (fun _ _ _ _ _ => False) (wb_X12_readAtom_b268  (gr_  dp) Q ) n) x1 x2 x3 x4 M := hF
    unfold wb_X12_readAtom_b268 at hF
    refine j_iload hJ dX12_readAtom_268 4 rfl ?_
    refine j_aload_n hJ dX12_readAtom_270 rfl 0 rfl ?_
    refine j_gi hJ kR_0 fR_15_94 rfl fl_X12_761 dX12_readAtom_271 (fun v1 ev1 gv1 => ?_)
    have hF := hF v1 ev1 gv1
    refine j_icmp_ge hJ 309 gx4 gv1 dX12_readAtom_274 (by decide) (fun z2 => ?_) (fun z2 => ?_)
    · have hF := hF.1 z2
      exact j_sub hJ [0, 1, 2, 3] rfl (k_X12_readAtom_b309 hin  hg0 hg1 hg2 hg3 hg4 hg5 hg6 hg7 hg8 hg9 hg10 hJ  x1 x2 x3 _ gx1 gx2 gx3 hF)
    · have hF := hF.2 z2
      refine j_iload_n hJ dX12_readAtom_277 rfl 2 rfl ?_
      refine j_if_ne hJ 309 gx2 dX12_readAtom_278 (by decide) (fun z3 => ?_) (fun z3 => ?_)
      · have hF := hF.1 z3
        exact j_sub hJ [0, 1, 2, 3] rfl (k_X12_readAtom_b309 hin  hg0 hg1 hg2 hg3 hg4 hg5 hg6 hg7 hg8 hg9 hg10 hJ  x1 x2 x3 _ gx1 gx2 gx3 hF)
      · have hF := hF.2 z3
        refine j_aload_n hJ dX12_readAtom_281 rfl 0 rfl ?_
        refine j_gr (e := 71) hJ kR_0 fR_15_96 fl_X12_287 dX12_readAtom_282 rfl ?_
        refine j_iload hJ dX12_readAtom_285 4 rfl ?_
        refine j_lald hJ gx4 kR_71 hF.1 hF.2.1 dX12_readAtom_287 (fun v4 ev4 gv4 => ?_)
        have hF := hF.2.2 v4 ev4 gv4
        refine j_aload_n hJ dX12_readAtom_288 rfl 0 rfl ?_
        refine j_gl hJ kR_0 fR_15_85 rfl fl_X12_640 dX12_readAtom_289 (fun v5 ev5 gv5 => ?_)
        have hF := hF v5 ev5 gv5
        refine j_lcmp_ne hJ 301 gv4 gv5 dX12_readAtom_292 dX12_readAtom_293 (by decide) (fun z6 => ?_) (fun z6 => ?_)
        · have hF := hF.1 z6
          refine j_iload_n hJ dX12_readAtom_301 rfl 3 rfl ?_
          exact j_sub hJ [0, 1, 2, 4] rfl (k_X12_readAtom_b302 hin  hg0 hg1 hg2 hg3 hg4 hg5 hg6 hg7 hg8 hg9 hg10 hJ ih x1 x2 x4 x3 _ gx1 gx2 gx4 gx3 hF)
        · have hF := hF.2 z6
          refine j_iload hJ dX12_readAtom_296 4 rfl ?_
          refine j_goto hJ 302 dX12_readAtom_298 (by decide) ?_
          exact j_sub hJ [0, 1, 2, 4] rfl (k_X12_readAtom_b302 hin  hg0 hg1 hg2 hg3 hg4 hg5 hg6 hg7 hg8 hg9 hg10 hJ ih x1 x2 x4 x4 _ gx1 gx2 gx4 gx4 hF)
  intro x1 x2 x3 x4 M gx1 gx2 gx3 gx4 hF
  obtain ⟨n, hF⟩ := hF
  exact H9 n x1 x2 x3 x4 M gx1 gx2 gx3 gx4 hF
set_option maxHeartbeats 4000000 in
set_option maxRecDepth 100000 in
theorem k_X12_readAtom_b263 {l : Launch} {D : va_G} {cy : Nat → ClassId} {ad : Nat → Nat} {dp : Nat} {Q : Int → MM → Prop} {J : Nat → List (Nat × Value) → List Value → MM → Prop} (hin : jIn ad ksR.length)   (hg0 : jCN l D vwCl (tyR cy) cy ad ftR ksR (XtR ad) yX12_readE (.code yX12_readE cX12_readE 3 (some .int) :: Om) (rm_gr_ dp) 1 (W_X12_readE dp ad)) (hg1 : jCN l D vwCl (tyR cy) cy ad ftR ksR (XtR ad) yX12_readAnd (.code yX12_readAnd cX12_readAnd 3 (some .int) :: Om) (rm_gr_ dp) 1 (W_X12_readAnd dp ad)) (hg2 : jCN l D vwCl (tyR cy) cy ad ftR ksR (XtR ad) yX12_readNot (.code yX12_readNot cX12_readNot 2 (some .int) :: Om) (rm_gr_ dp) 1 (W_X12_readNot dp ad)) (hg3 : jCN l D vwCl (tyR cy) cy ad ftR ksR (XtR ad) yX12_readCompared (.code yX12_readCompared cX12_readCompared 4 (some .int) :: Om) (rm_gr_ dp) 1 (W_X12_readCompared dp ad)) (hg4 : jCN l D vwCl (tyR cy) cy ad ftR ksR (XtR ad) yX12_readSum (.code yX12_readSum cX12_readSum 3 (some .int) :: Om) (rm_gr_ dp) 1 (W_X12_readSum dp ad)) (hg5 : jCN l D vwCl (tyR cy) cy ad ftR ksR (XtR ad) yX12_readProduct (.code yX12_readProduct cX12_readProduct 3 (some .int) :: Om) (rm_gr_ dp) 1 (W_X12_readProduct dp ad)) (hg6 : jCN l D vwCl (tyR cy) cy ad ftR ksR (XtR ad) yX12_readTurned (.code yX12_readTurned cX12_readTurned 2 (some .int) :: Om) (rm_gr_ dp) 1 (W_X12_readTurned dp ad)) (hg7 : jCN l D vwCl (tyR cy) cy ad ftR ksR (XtR ad) yX12_readP (.code yX12_readP cX12_readP 4 (some .int) :: Om) (rm_gr_ dp) 1 (W_X12_readP dp ad)) (hg8 : jCN l D vwCl (tyR cy) cy ad ftR ksR (XtR ad) yX12_readAtom (.code yX12_readAtom cX12_readAtom 5 (some .int) :: Om) (rm_gr_ dp) 1 (W_X12_readAtom dp ad)) (hg9 : jCN l D vwCl (tyR cy) cy ad ftR ksR (XtR ad) yX12_readFold (.code yX12_readFold cX12_readFold 5 (some .int) :: Om) (rm_gr_ dp) 1 (W_X12_readFold dp ad)) (hg10 : jCN l D vwCl (tyR cy) cy ad ftR ksR (XtR ad) yX12_readSet (.code yX12_readSet cX12_readSet 4 (some .int) :: Om) (rm_gr_ dp) 1 (W_X12_readSet dp ad)) (hJ : jOk l D vwCl (tyR cy) cy ad ftR ksR (XtR ad) Om RX12 cX12_readAtom 5 1 (rm_gr_ (dp + 1)) Q J)  : ∀ (x1 x2 : Int) (M : MM), ri_ x1 → ri_ x2 → w_X12_readAtom_b263  (gr_  dp) Q  x1 x2 M → J 263 [(0, .ref (ad 0)), (1, .int (Ii x1)), (2, .int (Ii x2))] [] M := by
  intro x1 x2 M gx1 gx2 hF
  unfold w_X12_readAtom_b263 at hF
  refine j_iconst hJ dX12_readAtom_263 ?_
  refine j_istore_n (lv' := [(3, .int (Ii (-1))), (0, .ref (ad 0)), (1, .int (Ii x1)), (2, .int (Ii x2))]) hJ dX12_readAtom_264 rfl (by decide) rfl ?_
  refine j_iconst hJ dX12_readAtom_265 ?_
  refine j_istore (lv' := [(4, .int (Ii 0)), (3, .int (Ii (-1))), (0, .ref (ad 0)), (1, .int (Ii x1)), (2, .int (Ii x2))]) hJ dX12_readAtom_266 (by decide) rfl ?_
  exact j_sub hJ [2, 3, 4, 1, 0] rfl (k_X12_readAtom_b268 hin  hg0 hg1 hg2 hg3 hg4 hg5 hg6 hg7 hg8 hg9 hg10 hJ  x1 x2 (-1) 0 _ gx1 gx2 rk_m1 rk_0 hF)
set_option maxHeartbeats 4000000 in
set_option maxRecDepth 100000 in
theorem k_X12_readAtom_b242 {l : Launch} {D : va_G} {cy : Nat → ClassId} {ad : Nat → Nat} {dp : Nat} {Q : Int → MM → Prop} {J : Nat → List (Nat × Value) → List Value → MM → Prop} (hin : jIn ad ksR.length)   (hg0 : jCN l D vwCl (tyR cy) cy ad ftR ksR (XtR ad) yX12_readE (.code yX12_readE cX12_readE 3 (some .int) :: Om) (rm_gr_ dp) 1 (W_X12_readE dp ad)) (hg1 : jCN l D vwCl (tyR cy) cy ad ftR ksR (XtR ad) yX12_readAnd (.code yX12_readAnd cX12_readAnd 3 (some .int) :: Om) (rm_gr_ dp) 1 (W_X12_readAnd dp ad)) (hg2 : jCN l D vwCl (tyR cy) cy ad ftR ksR (XtR ad) yX12_readNot (.code yX12_readNot cX12_readNot 2 (some .int) :: Om) (rm_gr_ dp) 1 (W_X12_readNot dp ad)) (hg3 : jCN l D vwCl (tyR cy) cy ad ftR ksR (XtR ad) yX12_readCompared (.code yX12_readCompared cX12_readCompared 4 (some .int) :: Om) (rm_gr_ dp) 1 (W_X12_readCompared dp ad)) (hg4 : jCN l D vwCl (tyR cy) cy ad ftR ksR (XtR ad) yX12_readSum (.code yX12_readSum cX12_readSum 3 (some .int) :: Om) (rm_gr_ dp) 1 (W_X12_readSum dp ad)) (hg5 : jCN l D vwCl (tyR cy) cy ad ftR ksR (XtR ad) yX12_readProduct (.code yX12_readProduct cX12_readProduct 3 (some .int) :: Om) (rm_gr_ dp) 1 (W_X12_readProduct dp ad)) (hg6 : jCN l D vwCl (tyR cy) cy ad ftR ksR (XtR ad) yX12_readTurned (.code yX12_readTurned cX12_readTurned 2 (some .int) :: Om) (rm_gr_ dp) 1 (W_X12_readTurned dp ad)) (hg7 : jCN l D vwCl (tyR cy) cy ad ftR ksR (XtR ad) yX12_readP (.code yX12_readP cX12_readP 4 (some .int) :: Om) (rm_gr_ dp) 1 (W_X12_readP dp ad)) (hg8 : jCN l D vwCl (tyR cy) cy ad ftR ksR (XtR ad) yX12_readAtom (.code yX12_readAtom cX12_readAtom 5 (some .int) :: Om) (rm_gr_ dp) 1 (W_X12_readAtom dp ad)) (hg9 : jCN l D vwCl (tyR cy) cy ad ftR ksR (XtR ad) yX12_readFold (.code yX12_readFold cX12_readFold 5 (some .int) :: Om) (rm_gr_ dp) 1 (W_X12_readFold dp ad)) (hg10 : jCN l D vwCl (tyR cy) cy ad ftR ksR (XtR ad) yX12_readSet (.code yX12_readSet cX12_readSet 4 (some .int) :: Om) (rm_gr_ dp) 1 (W_X12_readSet dp ad)) (hJ : jOk l D vwCl (tyR cy) cy ad ftR ksR (XtR ad) Om RX12 cX12_readAtom 5 1 (rm_gr_ (dp + 1)) Q J)  : ∀ (x1 s0 : Int) (M : MM), ri_ x1 → ri_ s0 → w_X12_readAtom_b242  (gr_  dp) Q  x1 s0 M → J 242 [(0, .ref (ad 0)), (1, .int (Ii x1))] [.int (Ii s0)] M := by
  intro x1 s0 M gx1 gs0 hF
  unfold w_X12_readAtom_b242 at hF
  refine j_istore_n (lv' := [(2, .int (Ii s0)), (0, .ref (ad 0)), (1, .int (Ii x1))]) hJ dX12_readAtom_242 rfl (by decide) rfl ?_
  refine j_iload_n hJ dX12_readAtom_243 rfl 0 rfl ?_
  refine j_if_ne hJ 263 gs0 dX12_readAtom_244 (by decide) (fun z1 => ?_) (fun z1 => ?_)
  · have hF := hF.1 z1
    exact j_sub hJ [1, 2, 0] rfl (k_X12_readAtom_b263 hin  hg0 hg1 hg2 hg3 hg4 hg5 hg6 hg7 hg8 hg9 hg10 hJ  x1 s0 _ gx1 gs0 hF)
  · have hF := hF.2 z1
    refine j_aload_n hJ dX12_readAtom_247 rfl 1 rfl ?_
    refine j_callVz hJ (c_X12_isName (l := l) (D := D) (cy := cy) (ad := ad) hin) rfl om_1401 ⟨rfl, rfl, by show _ ≤ _; simp only [rm_gr_]; omega, by show _ ≤ _; simp only [rm_gr_]; omega⟩ [] mv_X12_710 hd_X12_isNamev kR_0 rfl rfl rfl (Nat.le_of_ble_eq_true rfl) dX12_readAtom_248 ⟨rfl, hF⟩ (fun r2 M3 gr2 qM3 => ?_)
    have hF := qM3 gr2
    refine j_if_ne hJ 263 (jz_ri gr2) dX12_readAtom_251 (by decide) (fun z4 => ?_) (fun z4 => ?_)
    · have hF := hF.1 z4
      exact j_sub hJ [1, 2, 0] rfl (k_X12_readAtom_b263 hin  hg0 hg1 hg2 hg3 hg4 hg5 hg6 hg7 hg8 hg9 hg10 hJ  x1 s0 _ gx1 gs0 hF)
    · have hF := hF.2 z4
      refine j_aload_n hJ dX12_readAtom_254 rfl 1 rfl ?_
      refine j_callVv hJ (c_X12_wrong (l := l) (D := D) (cy := cy) (ad := ad) hin) rfl om_1363 ⟨rfl, rfl, by show _ ≤ _; simp only [rm_gr_]; omega, by show _ ≤ _; simp only [rm_gr_]; omega⟩ [] mv_X12_664 hd_X12_wrongv kR_0 rfl rfl rfl (Nat.le_of_ble_eq_true rfl) dX12_readAtom_255 ⟨rfl, hF⟩ (fun M6 qM6 => ?_)
      have hF := qM6
      refine j_aload_n hJ dX12_readAtom_258 rfl 1 rfl ?_
      refine j_gi hJ kR_0 fR_15_91 rfl fl_X12_673 dX12_readAtom_259 (fun v7 ev7 gv7 => ?_)
      have hF := hF v7 ev7 gv7
      exact j_iret hJ rfl gv7 dX12_readAtom_262 hF
set_option maxHeartbeats 4000000 in
set_option maxRecDepth 100000 in
theorem k_X12_readAtom_b237 {l : Launch} {D : va_G} {cy : Nat → ClassId} {ad : Nat → Nat} {dp : Nat} {Q : Int → MM → Prop} {J : Nat → List (Nat × Value) → List Value → MM → Prop} (hin : jIn ad ksR.length)   (hg0 : jCN l D vwCl (tyR cy) cy ad ftR ksR (XtR ad) yX12_readE (.code yX12_readE cX12_readE 3 (some .int) :: Om) (rm_gr_ dp) 1 (W_X12_readE dp ad)) (hg1 : jCN l D vwCl (tyR cy) cy ad ftR ksR (XtR ad) yX12_readAnd (.code yX12_readAnd cX12_readAnd 3 (some .int) :: Om) (rm_gr_ dp) 1 (W_X12_readAnd dp ad)) (hg2 : jCN l D vwCl (tyR cy) cy ad ftR ksR (XtR ad) yX12_readNot (.code yX12_readNot cX12_readNot 2 (some .int) :: Om) (rm_gr_ dp) 1 (W_X12_readNot dp ad)) (hg3 : jCN l D vwCl (tyR cy) cy ad ftR ksR (XtR ad) yX12_readCompared (.code yX12_readCompared cX12_readCompared 4 (some .int) :: Om) (rm_gr_ dp) 1 (W_X12_readCompared dp ad)) (hg4 : jCN l D vwCl (tyR cy) cy ad ftR ksR (XtR ad) yX12_readSum (.code yX12_readSum cX12_readSum 3 (some .int) :: Om) (rm_gr_ dp) 1 (W_X12_readSum dp ad)) (hg5 : jCN l D vwCl (tyR cy) cy ad ftR ksR (XtR ad) yX12_readProduct (.code yX12_readProduct cX12_readProduct 3 (some .int) :: Om) (rm_gr_ dp) 1 (W_X12_readProduct dp ad)) (hg6 : jCN l D vwCl (tyR cy) cy ad ftR ksR (XtR ad) yX12_readTurned (.code yX12_readTurned cX12_readTurned 2 (some .int) :: Om) (rm_gr_ dp) 1 (W_X12_readTurned dp ad)) (hg7 : jCN l D vwCl (tyR cy) cy ad ftR ksR (XtR ad) yX12_readP (.code yX12_readP cX12_readP 4 (some .int) :: Om) (rm_gr_ dp) 1 (W_X12_readP dp ad)) (hg8 : jCN l D vwCl (tyR cy) cy ad ftR ksR (XtR ad) yX12_readAtom (.code yX12_readAtom cX12_readAtom 5 (some .int) :: Om) (rm_gr_ dp) 1 (W_X12_readAtom dp ad)) (hg9 : jCN l D vwCl (tyR cy) cy ad ftR ksR (XtR ad) yX12_readFold (.code yX12_readFold cX12_readFold 5 (some .int) :: Om) (rm_gr_ dp) 1 (W_X12_readFold dp ad)) (hg10 : jCN l D vwCl (tyR cy) cy ad ftR ksR (XtR ad) yX12_readSet (.code yX12_readSet cX12_readSet 4 (some .int) :: Om) (rm_gr_ dp) 1 (W_X12_readSet dp ad)) (hJ : jOk l D vwCl (tyR cy) cy ad ftR ksR (XtR ad) Om RX12 cX12_readAtom 5 1 (rm_gr_ (dp + 1)) Q J)  : ∀ (x1 : Int) (M : MM), ri_ x1 → w_X12_readAtom_b237  (gr_  dp) Q  x1 M → J 237 [(0, .ref (ad 0)), (1, .int (Ii x1))] [] M := by
  intro x1 M gx1 hF
  unfold w_X12_readAtom_b237 at hF
  refine j_iconst hJ dX12_readAtom_237 ?_
  refine j_goto hJ 242 dX12_readAtom_238 (by decide) ?_
  exact j_sub hJ [0, 1] rfl (k_X12_readAtom_b242 hin  hg0 hg1 hg2 hg3 hg4 hg5 hg6 hg7 hg8 hg9 hg10 hJ  x1 1 _ gx1 rk_1 hF)
set_option maxHeartbeats 4000000 in
set_option maxRecDepth 100000 in
theorem k_X12_readAtom_b182 {l : Launch} {D : va_G} {cy : Nat → ClassId} {ad : Nat → Nat} {dp : Nat} {Q : Int → MM → Prop} {J : Nat → List (Nat × Value) → List Value → MM → Prop} (hin : jIn ad ksR.length)   (hg0 : jCN l D vwCl (tyR cy) cy ad ftR ksR (XtR ad) yX12_readE (.code yX12_readE cX12_readE 3 (some .int) :: Om) (rm_gr_ dp) 1 (W_X12_readE dp ad)) (hg1 : jCN l D vwCl (tyR cy) cy ad ftR ksR (XtR ad) yX12_readAnd (.code yX12_readAnd cX12_readAnd 3 (some .int) :: Om) (rm_gr_ dp) 1 (W_X12_readAnd dp ad)) (hg2 : jCN l D vwCl (tyR cy) cy ad ftR ksR (XtR ad) yX12_readNot (.code yX12_readNot cX12_readNot 2 (some .int) :: Om) (rm_gr_ dp) 1 (W_X12_readNot dp ad)) (hg3 : jCN l D vwCl (tyR cy) cy ad ftR ksR (XtR ad) yX12_readCompared (.code yX12_readCompared cX12_readCompared 4 (some .int) :: Om) (rm_gr_ dp) 1 (W_X12_readCompared dp ad)) (hg4 : jCN l D vwCl (tyR cy) cy ad ftR ksR (XtR ad) yX12_readSum (.code yX12_readSum cX12_readSum 3 (some .int) :: Om) (rm_gr_ dp) 1 (W_X12_readSum dp ad)) (hg5 : jCN l D vwCl (tyR cy) cy ad ftR ksR (XtR ad) yX12_readProduct (.code yX12_readProduct cX12_readProduct 3 (some .int) :: Om) (rm_gr_ dp) 1 (W_X12_readProduct dp ad)) (hg6 : jCN l D vwCl (tyR cy) cy ad ftR ksR (XtR ad) yX12_readTurned (.code yX12_readTurned cX12_readTurned 2 (some .int) :: Om) (rm_gr_ dp) 1 (W_X12_readTurned dp ad)) (hg7 : jCN l D vwCl (tyR cy) cy ad ftR ksR (XtR ad) yX12_readP (.code yX12_readP cX12_readP 4 (some .int) :: Om) (rm_gr_ dp) 1 (W_X12_readP dp ad)) (hg8 : jCN l D vwCl (tyR cy) cy ad ftR ksR (XtR ad) yX12_readAtom (.code yX12_readAtom cX12_readAtom 5 (some .int) :: Om) (rm_gr_ dp) 1 (W_X12_readAtom dp ad)) (hg9 : jCN l D vwCl (tyR cy) cy ad ftR ksR (XtR ad) yX12_readFold (.code yX12_readFold cX12_readFold 5 (some .int) :: Om) (rm_gr_ dp) 1 (W_X12_readFold dp ad)) (hg10 : jCN l D vwCl (tyR cy) cy ad ftR ksR (XtR ad) yX12_readSet (.code yX12_readSet cX12_readSet 4 (some .int) :: Om) (rm_gr_ dp) 1 (W_X12_readSet dp ad)) (hJ : jOk l D vwCl (tyR cy) cy ad ftR ksR (XtR ad) Om RX12 cX12_readAtom 5 1 (rm_gr_ (dp + 1)) Q J)  : ∀ (x2 : Int) (M : MM), ri_ x2 → w_X12_readAtom_b182  (gr_  dp) Q  x2 M → J 182 [(0, .ref (ad 0)), (2, .int (Ii x2))] [] M := by
  intro x2 M gx2 hF
  unfold w_X12_readAtom_b182 at hF
  refine j_aload_n hJ dX12_readAtom_182 rfl 0 rfl ?_
  refine j_gr (e := 70) hJ kR_0 fR_15_90 fl_X12_284 dX12_readAtom_183 rfl ?_
  refine j_iload_n hJ dX12_readAtom_186 rfl 1 rfl ?_
  refine j_aload_n hJ dX12_readAtom_187 rfl 0 rfl ?_
  refine j_gl hJ kR_0 fR_15_85 rfl fl_X12_640 dX12_readAtom_188 (fun v1 ev1 gv1 => ?_)
  have hF := hF v1 ev1 gv1
  refine j_last hJ gx2 gv1 kR_70 hF.1 hF.2.1 dX12_readAtom_191 (fun M2 eM2 => ?_)
  have hF := hF.2.2 M2 eM2
  refine j_aload_n hJ dX12_readAtom_192 rfl 0 rfl ?_
  refine j_gi hJ kR_0 fR_15_83 rfl fl_X12_625 dX12_readAtom_193 (fun v3 ev3 gv3 => ?_)
  have hF := hF v3 ev3 gv3
  refine j_if_ne hJ 203 gv3 dX12_readAtom_196 (by decide) (fun z4 => ?_) (fun z4 => ?_)
  · have hF := hF.1 z4
    refine j_iload_n hJ dX12_readAtom_203 rfl 1 rfl ?_
    exact j_iret hJ rfl gx2 dX12_readAtom_204 hF
  · have hF := hF.2 z4
    refine j_aload_n hJ dX12_readAtom_199 rfl 0 rfl ?_
    refine j_callVv hJ (c_X12_advance (l := l) (D := D) (cy := cy) (ad := ad) hin) rfl om_1355 ⟨rfl, rfl, by show _ ≤ _; simp only [rm_gr_]; omega, by show _ ≤ _; simp only [rm_gr_]; omega⟩ [] mv_X12_661 hd_X12_advancev kR_0 rfl rfl rfl (Nat.le_of_ble_eq_true rfl) dX12_readAtom_200 ⟨rfl, hF⟩ (fun M6 qM6 => ?_)
    have hF := qM6
    refine j_iload_n hJ dX12_readAtom_203 rfl 1 rfl ?_
    exact j_iret hJ rfl gx2 dX12_readAtom_204 hF
set_option maxHeartbeats 4000000 in
set_option maxRecDepth 100000 in
theorem k_X12_readAtom_b163 {l : Launch} {D : va_G} {cy : Nat → ClassId} {ad : Nat → Nat} {dp : Nat} {Q : Int → MM → Prop} {J : Nat → List (Nat × Value) → List Value → MM → Prop} (hin : jIn ad ksR.length)   (hg0 : jCN l D vwCl (tyR cy) cy ad ftR ksR (XtR ad) yX12_readE (.code yX12_readE cX12_readE 3 (some .int) :: Om) (rm_gr_ dp) 1 (W_X12_readE dp ad)) (hg1 : jCN l D vwCl (tyR cy) cy ad ftR ksR (XtR ad) yX12_readAnd (.code yX12_readAnd cX12_readAnd 3 (some .int) :: Om) (rm_gr_ dp) 1 (W_X12_readAnd dp ad)) (hg2 : jCN l D vwCl (tyR cy) cy ad ftR ksR (XtR ad) yX12_readNot (.code yX12_readNot cX12_readNot 2 (some .int) :: Om) (rm_gr_ dp) 1 (W_X12_readNot dp ad)) (hg3 : jCN l D vwCl (tyR cy) cy ad ftR ksR (XtR ad) yX12_readCompared (.code yX12_readCompared cX12_readCompared 4 (some .int) :: Om) (rm_gr_ dp) 1 (W_X12_readCompared dp ad)) (hg4 : jCN l D vwCl (tyR cy) cy ad ftR ksR (XtR ad) yX12_readSum (.code yX12_readSum cX12_readSum 3 (some .int) :: Om) (rm_gr_ dp) 1 (W_X12_readSum dp ad)) (hg5 : jCN l D vwCl (tyR cy) cy ad ftR ksR (XtR ad) yX12_readProduct (.code yX12_readProduct cX12_readProduct 3 (some .int) :: Om) (rm_gr_ dp) 1 (W_X12_readProduct dp ad)) (hg6 : jCN l D vwCl (tyR cy) cy ad ftR ksR (XtR ad) yX12_readTurned (.code yX12_readTurned cX12_readTurned 2 (some .int) :: Om) (rm_gr_ dp) 1 (W_X12_readTurned dp ad)) (hg7 : jCN l D vwCl (tyR cy) cy ad ftR ksR (XtR ad) yX12_readP (.code yX12_readP cX12_readP 4 (some .int) :: Om) (rm_gr_ dp) 1 (W_X12_readP dp ad)) (hg8 : jCN l D vwCl (tyR cy) cy ad ftR ksR (XtR ad) yX12_readAtom (.code yX12_readAtom cX12_readAtom 5 (some .int) :: Om) (rm_gr_ dp) 1 (W_X12_readAtom dp ad)) (hg9 : jCN l D vwCl (tyR cy) cy ad ftR ksR (XtR ad) yX12_readFold (.code yX12_readFold cX12_readFold 5 (some .int) :: Om) (rm_gr_ dp) 1 (W_X12_readFold dp ad)) (hg10 : jCN l D vwCl (tyR cy) cy ad ftR ksR (XtR ad) yX12_readSet (.code yX12_readSet cX12_readSet 4 (some .int) :: Om) (rm_gr_ dp) 1 (W_X12_readSet dp ad)) (hJ : jOk l D vwCl (tyR cy) cy ad ftR ksR (XtR ad) Om RX12 cX12_readAtom 5 1 (rm_gr_ (dp + 1)) Q J)  : ∀ (x2 : Int) (M : MM), ri_ x2 → w_X12_readAtom_b163  (gr_  dp) Q  x2 M → J 163 [(0, .ref (ad 0)), (2, .int (Ii x2))] [] M := by
  intro x2 M gx2 hF
  unfold w_X12_readAtom_b163 at hF
  refine j_aload_n hJ dX12_readAtom_163 rfl 0 rfl ?_
  refine j_gi hJ kR_0 fR_15_83 rfl fl_X12_625 dX12_readAtom_164 (fun v1 ev1 gv1 => ?_)
  have hF := hF v1 ev1 gv1
  refine j_if_ne hJ 182 gv1 dX12_readAtom_167 (by decide) (fun z2 => ?_) (fun z2 => ?_)
  · have hF := hF.1 z2
    exact j_sub hJ [0, 1] rfl (k_X12_readAtom_b182 hin  hg0 hg1 hg2 hg3 hg4 hg5 hg6 hg7 hg8 hg9 hg10 hJ  x2 _ gx2 hF)
  · have hF := hF.2 z2
    refine j_aload_n hJ dX12_readAtom_170 rfl 0 rfl ?_
    refine j_gi hJ kR_0 fR_15_80 rfl fl_X12_644 dX12_readAtom_171 (fun v3 ev3 gv3 => ?_)
    have hF := hF v3 ev3 gv3
    refine j_iconst hJ dX12_readAtom_174 ?_
    refine j_icmp_eq hJ 182 gv3 rk_2 dX12_readAtom_175 (by decide) (fun z4 => ?_) (fun z4 => ?_)
    · have hF := hF.1 z4
      exact j_sub hJ [0, 1] rfl (k_X12_readAtom_b182 hin  hg0 hg1 hg2 hg3 hg4 hg5 hg6 hg7 hg8 hg9 hg10 hJ  x2 _ gx2 hF)
    · have hF := hF.2 z4
      refine j_aload_n hJ dX12_readAtom_178 rfl 0 rfl ?_
      refine j_callVv hJ (c_X12_wrong (l := l) (D := D) (cy := cy) (ad := ad) hin) rfl om_1363 ⟨rfl, rfl, by show _ ≤ _; simp only [rm_gr_]; omega, by show _ ≤ _; simp only [rm_gr_]; omega⟩ [] mv_X12_664 hd_X12_wrongv kR_0 rfl rfl rfl (Nat.le_of_ble_eq_true rfl) dX12_readAtom_179 ⟨rfl, hF⟩ (fun M6 qM6 => ?_)
      have hF := qM6
      exact j_sub hJ [0, 1] rfl (k_X12_readAtom_b182 hin  hg0 hg1 hg2 hg3 hg4 hg5 hg6 hg7 hg8 hg9 hg10 hJ  x2 _ gx2 hF)
set_option maxHeartbeats 4000000 in
set_option maxRecDepth 100000 in
theorem k_X12_readAtom_b139 {l : Launch} {D : va_G} {cy : Nat → ClassId} {ad : Nat → Nat} {dp : Nat} {Q : Int → MM → Prop} {J : Nat → List (Nat × Value) → List Value → MM → Prop} (hin : jIn ad ksR.length)   (hg0 : jCN l D vwCl (tyR cy) cy ad ftR ksR (XtR ad) yX12_readE (.code yX12_readE cX12_readE 3 (some .int) :: Om) (rm_gr_ dp) 1 (W_X12_readE dp ad)) (hg1 : jCN l D vwCl (tyR cy) cy ad ftR ksR (XtR ad) yX12_readAnd (.code yX12_readAnd cX12_readAnd 3 (some .int) :: Om) (rm_gr_ dp) 1 (W_X12_readAnd dp ad)) (hg2 : jCN l D vwCl (tyR cy) cy ad ftR ksR (XtR ad) yX12_readNot (.code yX12_readNot cX12_readNot 2 (some .int) :: Om) (rm_gr_ dp) 1 (W_X12_readNot dp ad)) (hg3 : jCN l D vwCl (tyR cy) cy ad ftR ksR (XtR ad) yX12_readCompared (.code yX12_readCompared cX12_readCompared 4 (some .int) :: Om) (rm_gr_ dp) 1 (W_X12_readCompared dp ad)) (hg4 : jCN l D vwCl (tyR cy) cy ad ftR ksR (XtR ad) yX12_readSum (.code yX12_readSum cX12_readSum 3 (some .int) :: Om) (rm_gr_ dp) 1 (W_X12_readSum dp ad)) (hg5 : jCN l D vwCl (tyR cy) cy ad ftR ksR (XtR ad) yX12_readProduct (.code yX12_readProduct cX12_readProduct 3 (some .int) :: Om) (rm_gr_ dp) 1 (W_X12_readProduct dp ad)) (hg6 : jCN l D vwCl (tyR cy) cy ad ftR ksR (XtR ad) yX12_readTurned (.code yX12_readTurned cX12_readTurned 2 (some .int) :: Om) (rm_gr_ dp) 1 (W_X12_readTurned dp ad)) (hg7 : jCN l D vwCl (tyR cy) cy ad ftR ksR (XtR ad) yX12_readP (.code yX12_readP cX12_readP 4 (some .int) :: Om) (rm_gr_ dp) 1 (W_X12_readP dp ad)) (hg8 : jCN l D vwCl (tyR cy) cy ad ftR ksR (XtR ad) yX12_readAtom (.code yX12_readAtom cX12_readAtom 5 (some .int) :: Om) (rm_gr_ dp) 1 (W_X12_readAtom dp ad)) (hg9 : jCN l D vwCl (tyR cy) cy ad ftR ksR (XtR ad) yX12_readFold (.code yX12_readFold cX12_readFold 5 (some .int) :: Om) (rm_gr_ dp) 1 (W_X12_readFold dp ad)) (hg10 : jCN l D vwCl (tyR cy) cy ad ftR ksR (XtR ad) yX12_readSet (.code yX12_readSet cX12_readSet 4 (some .int) :: Om) (rm_gr_ dp) 1 (W_X12_readSet dp ad)) (hJ : jOk l D vwCl (tyR cy) cy ad ftR ksR (XtR ad) Om RX12 cX12_readAtom 5 1 (rm_gr_ (dp + 1)) Q J)  : ∀ (x1 : Int) (M : MM), ri_ x1 → w_X12_readAtom_b139  (gr_  dp) Q  x1 M → J 139 [(0, .ref (ad 0)), (1, .int (Ii x1))] [] M := by
  intro x1 M gx1 hF
  unfold w_X12_readAtom_b139 at hF
  refine j_iload_n hJ dX12_readAtom_139 rfl 1 rfl ?_
  refine j_bipush hJ dX12_readAtom_140 (by decide) ?_
  refine j_icmp_ne hJ 205 gx1 rk_28 dX12_readAtom_142 (by decide) (fun z1 => ?_) (fun z1 => ?_)
  · have hF := hF.1 z1
    refine j_aload_n hJ dX12_readAtom_205 rfl 0 rfl ?_
    refine j_gi hJ kR_0 fR_15_80 rfl fl_X12_644 dX12_readAtom_206 (fun v2 ev2 gv2 => ?_)
    have hF := hF v2 ev2 gv2
    refine j_iconst hJ dX12_readAtom_209 ?_
    refine j_icmp_eq hJ 237 gv2 rk_2 dX12_readAtom_210 (by decide) (fun z3 => ?_) (fun z3 => ?_)
    · have hF := hF.1 z3
      exact j_sub hJ [0, 1] rfl (k_X12_readAtom_b237 hin  hg0 hg1 hg2 hg3 hg4 hg5 hg6 hg7 hg8 hg9 hg10 hJ  x1 _ gx1 hF)
    · have hF := hF.2 z3
      refine j_iload_n hJ dX12_readAtom_213 rfl 1 rfl ?_
      refine j_bipush hJ dX12_readAtom_214 (by decide) ?_
      refine j_icmp_eq hJ 237 gx1 rk_8 dX12_readAtom_216 (by decide) (fun z4 => ?_) (fun z4 => ?_)
      · have hF := hF.1 z4
        exact j_sub hJ [0, 1] rfl (k_X12_readAtom_b237 hin  hg0 hg1 hg2 hg3 hg4 hg5 hg6 hg7 hg8 hg9 hg10 hJ  x1 _ gx1 hF)
      · have hF := hF.2 z4
        refine j_iload_n hJ dX12_readAtom_219 rfl 1 rfl ?_
        refine j_bipush hJ dX12_readAtom_220 (by decide) ?_
        refine j_icmp_eq hJ 237 gx1 rk_9 dX12_readAtom_222 (by decide) (fun z5 => ?_) (fun z5 => ?_)
        · have hF := hF.1 z5
          exact j_sub hJ [0, 1] rfl (k_X12_readAtom_b237 hin  hg0 hg1 hg2 hg3 hg4 hg5 hg6 hg7 hg8 hg9 hg10 hJ  x1 _ gx1 hF)
        · have hF := hF.2 z5
          refine j_iload_n hJ dX12_readAtom_225 rfl 1 rfl ?_
          refine j_bipush hJ dX12_readAtom_226 (by decide) ?_
          refine j_icmp_eq hJ 237 gx1 rk_10 dX12_readAtom_228 (by decide) (fun z6 => ?_) (fun z6 => ?_)
          · have hF := hF.1 z6
            exact j_sub hJ [0, 1] rfl (k_X12_readAtom_b237 hin  hg0 hg1 hg2 hg3 hg4 hg5 hg6 hg7 hg8 hg9 hg10 hJ  x1 _ gx1 hF)
          · have hF := hF.2 z6
            refine j_iload_n hJ dX12_readAtom_231 rfl 1 rfl ?_
            refine j_bipush hJ dX12_readAtom_232 (by decide) ?_
            refine j_icmp_ne hJ 241 gx1 rk_27 dX12_readAtom_234 (by decide) (fun z7 => ?_) (fun z7 => ?_)
            · have hF := hF.1 z7
              refine j_iconst hJ dX12_readAtom_241 ?_
              exact j_sub hJ [0, 1] rfl (k_X12_readAtom_b242 hin  hg0 hg1 hg2 hg3 hg4 hg5 hg6 hg7 hg8 hg9 hg10 hJ  x1 0 _ gx1 rk_0 hF)
            · have hF := hF.2 z7
              exact j_sub hJ [0, 1] rfl (k_X12_readAtom_b237 hin  hg0 hg1 hg2 hg3 hg4 hg5 hg6 hg7 hg8 hg9 hg10 hJ  x1 _ gx1 hF)
  · have hF := hF.2 z1
    refine j_aload_n hJ dX12_readAtom_145 rfl 0 rfl ?_
    refine j_bipush hJ dX12_readAtom_146 (by decide) ?_
    refine j_callVi hJ (c_X12_node (l := l) (D := D) (cy := cy) (ad := ad) hin) rfl om_1375 ⟨rfl, rfl, by show _ ≤ _; simp only [rm_gr_]; omega, by show _ ≤ _; simp only [rm_gr_]; omega⟩ [.int (Ii 28)] mv_X12_683 hd_X12_nodev kR_0 rfl rfl rfl (Nat.le_of_ble_eq_true rfl) dX12_readAtom_148 ⟨28, rfl, rk_28, hF⟩ (fun r8 M9 gr8 qM9 => ?_)
    have hF := qM9 gr8
    refine j_istore_n (lv' := [(2, .int (Ii r8)), (0, .ref (ad 0)), (1, .int (Ii x1))]) hJ dX12_readAtom_151 rfl (by decide) rfl ?_
    refine j_aload_n hJ dX12_readAtom_152 rfl 1 rfl ?_
    refine j_gi hJ kR_0 fR_15_83 rfl fl_X12_625 dX12_readAtom_153 (fun v10 ev10 gv10 => ?_)
    have hF := hF v10 ev10 gv10
    refine j_if_ne hJ 163 gv10 dX12_readAtom_156 (by decide) (fun z11 => ?_) (fun z11 => ?_)
    · have hF := hF.1 z11
      exact j_sub hJ [1, 0] rfl (k_X12_readAtom_b163 hin  hg0 hg1 hg2 hg3 hg4 hg5 hg6 hg7 hg8 hg9 hg10 hJ  r8 _ gr8 hF)
    · have hF := hF.2 z11
      refine j_aload_n hJ dX12_readAtom_159 rfl 1 rfl ?_
      refine j_callVv hJ (c_X12_advance (l := l) (D := D) (cy := cy) (ad := ad) hin) rfl om_1355 ⟨rfl, rfl, by show _ ≤ _; simp only [rm_gr_]; omega, by show _ ≤ _; simp only [rm_gr_]; omega⟩ [] mv_X12_661 hd_X12_advancev kR_0 rfl rfl rfl (Nat.le_of_ble_eq_true rfl) dX12_readAtom_160 ⟨rfl, hF⟩ (fun M13 qM13 => ?_)
      have hF := qM13
      exact j_sub hJ [1, 0] rfl (k_X12_readAtom_b163 hin  hg0 hg1 hg2 hg3 hg4 hg5 hg6 hg7 hg8 hg9 hg10 hJ  r8 _ gr8 hF)
set_option maxHeartbeats 4000000 in
set_option maxRecDepth 100000 in
theorem k_X12_readAtom_b127 {l : Launch} {D : va_G} {cy : Nat → ClassId} {ad : Nat → Nat} {dp : Nat} {Q : Int → MM → Prop} {J : Nat → List (Nat × Value) → List Value → MM → Prop} (hin : jIn ad ksR.length)   (hg0 : jCN l D vwCl (tyR cy) cy ad ftR ksR (XtR ad) yX12_readE (.code yX12_readE cX12_readE 3 (some .int) :: Om) (rm_gr_ dp) 1 (W_X12_readE dp ad)) (hg1 : jCN l D vwCl (tyR cy) cy ad ftR ksR (XtR ad) yX12_readAnd (.code yX12_readAnd cX12_readAnd 3 (some .int) :: Om) (rm_gr_ dp) 1 (W_X12_readAnd dp ad)) (hg2 : jCN l D vwCl (tyR cy) cy ad ftR ksR (XtR ad) yX12_readNot (.code yX12_readNot cX12_readNot 2 (some .int) :: Om) (rm_gr_ dp) 1 (W_X12_readNot dp ad)) (hg3 : jCN l D vwCl (tyR cy) cy ad ftR ksR (XtR ad) yX12_readCompared (.code yX12_readCompared cX12_readCompared 4 (some .int) :: Om) (rm_gr_ dp) 1 (W_X12_readCompared dp ad)) (hg4 : jCN l D vwCl (tyR cy) cy ad ftR ksR (XtR ad) yX12_readSum (.code yX12_readSum cX12_readSum 3 (some .int) :: Om) (rm_gr_ dp) 1 (W_X12_readSum dp ad)) (hg5 : jCN l D vwCl (tyR cy) cy ad ftR ksR (XtR ad) yX12_readProduct (.code yX12_readProduct cX12_readProduct 3 (some .int) :: Om) (rm_gr_ dp) 1 (W_X12_readProduct dp ad)) (hg6 : jCN l D vwCl (tyR cy) cy ad ftR ksR (XtR ad) yX12_readTurned (.code yX12_readTurned cX12_readTurned 2 (some .int) :: Om) (rm_gr_ dp) 1 (W_X12_readTurned dp ad)) (hg7 : jCN l D vwCl (tyR cy) cy ad ftR ksR (XtR ad) yX12_readP (.code yX12_readP cX12_readP 4 (some .int) :: Om) (rm_gr_ dp) 1 (W_X12_readP dp ad)) (hg8 : jCN l D vwCl (tyR cy) cy ad ftR ksR (XtR ad) yX12_readAtom (.code yX12_readAtom cX12_readAtom 5 (some .int) :: Om) (rm_gr_ dp) 1 (W_X12_readAtom dp ad)) (hg9 : jCN l D vwCl (tyR cy) cy ad ftR ksR (XtR ad) yX12_readFold (.code yX12_readFold cX12_readFold 5 (some .int) :: Om) (rm_gr_ dp) 1 (W_X12_readFold dp ad)) (hg10 : jCN l D vwCl (tyR cy) cy ad ftR ksR (XtR ad) yX12_readSet (.code yX12_readSet cX12_readSet 4 (some .int) :: Om) (rm_gr_ dp) 1 (W_X12_readSet dp ad)) (hJ : jOk l D vwCl (tyR cy) cy ad ftR ksR (XtR ad) Om RX12 cX12_readAtom 5 1 (rm_gr_ (dp + 1)) Q J)  : ∀ (x2 : Int) (M : MM), ri_ x2 → w_X12_readAtom_b127  (gr_  dp) Q  x2 M → J 127 [(0, .ref (ad 0)), (2, .int (Ii x2))] [] M := by
  intro x2 M gx2 hF
  unfold w_X12_readAtom_b127 at hF
  refine j_aload_n hJ dX12_readAtom_127 rfl 0 rfl ?_
  refine j_gr (e := 67) hJ kR_0 fR_15_87 fl_X12_275 dX12_readAtom_128 rfl ?_
  refine j_iload_n hJ dX12_readAtom_131 rfl 1 rfl ?_
  refine j_aload_n hJ dX12_readAtom_132 rfl 0 rfl ?_
  refine j_callVi hJ hg7 rfl om_1418 ⟨rfl, rfl, by show _ ≤ _; simp only [rm_gr_]; omega, by show _ ≤ _; simp only [rm_gr_]; omega⟩ [] mv_X12_730 hd_X12_readPv kR_0 rfl rfl rfl (Nat.le_of_ble_eq_true rfl) dX12_readAtom_133 ⟨rfl, hF⟩ (fun r1 M2 gr1 qM2 => ?_)
  have hF := qM2 gr1
  refine j_iast hJ gx2 gr1 kR_67 hF.1 hF.2.1 dX12_readAtom_136 (fun M3 eM3 => ?_)
  have hF := hF.2.2 M3 eM3
  refine j_iload_n hJ dX12_readAtom_137 rfl 1 rfl ?_
  exact j_iret hJ rfl gx2 dX12_readAtom_138 hF
set_option maxHeartbeats 4000000 in
set_option maxRecDepth 100000 in
theorem k_X12_readAtom_b98 {l : Launch} {D : va_G} {cy : Nat → ClassId} {ad : Nat → Nat} {dp : Nat} {Q : Int → MM → Prop} {J : Nat → List (Nat × Value) → List Value → MM → Prop} (hin : jIn ad ksR.length)   (hg0 : jCN l D vwCl (tyR cy) cy ad ftR ksR (XtR ad) yX12_readE (.code yX12_readE cX12_readE 3 (some .int) :: Om) (rm_gr_ dp) 1 (W_X12_readE dp ad)) (hg1 : jCN l D vwCl (tyR cy) cy ad ftR ksR (XtR ad) yX12_readAnd (.code yX12_readAnd cX12_readAnd 3 (some .int) :: Om) (rm_gr_ dp) 1 (W_X12_readAnd dp ad)) (hg2 : jCN l D vwCl (tyR cy) cy ad ftR ksR (XtR ad) yX12_readNot (.code yX12_readNot cX12_readNot 2 (some .int) :: Om) (rm_gr_ dp) 1 (W_X12_readNot dp ad)) (hg3 : jCN l D vwCl (tyR cy) cy ad ftR ksR (XtR ad) yX12_readCompared (.code yX12_readCompared cX12_readCompared 4 (some .int) :: Om) (rm_gr_ dp) 1 (W_X12_readCompared dp ad)) (hg4 : jCN l D vwCl (tyR cy) cy ad ftR ksR (XtR ad) yX12_readSum (.code yX12_readSum cX12_readSum 3 (some .int) :: Om) (rm_gr_ dp) 1 (W_X12_readSum dp ad)) (hg5 : jCN l D vwCl (tyR cy) cy ad ftR ksR (XtR ad) yX12_readProduct (.code yX12_readProduct cX12_readProduct 3 (some .int) :: Om) (rm_gr_ dp) 1 (W_X12_readProduct dp ad)) (hg6 : jCN l D vwCl (tyR cy) cy ad ftR ksR (XtR ad) yX12_readTurned (.code yX12_readTurned cX12_readTurned 2 (some .int) :: Om) (rm_gr_ dp) 1 (W_X12_readTurned dp ad)) (hg7 : jCN l D vwCl (tyR cy) cy ad ftR ksR (XtR ad) yX12_readP (.code yX12_readP cX12_readP 4 (some .int) :: Om) (rm_gr_ dp) 1 (W_X12_readP dp ad)) (hg8 : jCN l D vwCl (tyR cy) cy ad ftR ksR (XtR ad) yX12_readAtom (.code yX12_readAtom cX12_readAtom 5 (some .int) :: Om) (rm_gr_ dp) 1 (W_X12_readAtom dp ad)) (hg9 : jCN l D vwCl (tyR cy) cy ad ftR ksR (XtR ad) yX12_readFold (.code yX12_readFold cX12_readFold 5 (some .int) :: Om) (rm_gr_ dp) 1 (W_X12_readFold dp ad)) (hg10 : jCN l D vwCl (tyR cy) cy ad ftR ksR (XtR ad) yX12_readSet (.code yX12_readSet cX12_readSet 4 (some .int) :: Om) (rm_gr_ dp) 1 (W_X12_readSet dp ad)) (hJ : jOk l D vwCl (tyR cy) cy ad ftR ksR (XtR ad) Om RX12 cX12_readAtom 5 1 (rm_gr_ (dp + 1)) Q J)  : ∀ (x1 : Int) (M : MM), ri_ x1 → w_X12_readAtom_b98  (gr_  dp) Q  x1 M → J 98 [(0, .ref (ad 0)), (1, .int (Ii x1))] [] M := by
  intro x1 M gx1 hF
  unfold w_X12_readAtom_b98 at hF
  refine j_iload_n hJ dX12_readAtom_98 rfl 1 rfl ?_
  refine j_bipush hJ dX12_readAtom_99 (by decide) ?_
  refine j_icmp_lt hJ 139 gx1 rk_19 dX12_readAtom_101 (by decide) (fun z1 => ?_) (fun z1 => ?_)
  · have hF := hF.1 z1
    exact j_sub hJ [0, 1] rfl (k_X12_readAtom_b139 hin  hg0 hg1 hg2 hg3 hg4 hg5 hg6 hg7 hg8 hg9 hg10 hJ  x1 _ gx1 hF)
  · have hF := hF.2 z1
    refine j_iload_n hJ dX12_readAtom_104 rfl 1 rfl ?_
    refine j_bipush hJ dX12_readAtom_105 (by decide) ?_
    refine j_icmp_gt hJ 139 gx1 rk_22 dX12_readAtom_107 (by decide) (fun z2 => ?_) (fun z2 => ?_)
    · have hF := hF.1 z2
      exact j_sub hJ [0, 1] rfl (k_X12_readAtom_b139 hin  hg0 hg1 hg2 hg3 hg4 hg5 hg6 hg7 hg8 hg9 hg10 hJ  x1 _ gx1 hF)
    · have hF := hF.2 z2
      refine j_aload_n hJ dX12_readAtom_110 rfl 0 rfl ?_
      refine j_iload_n hJ dX12_readAtom_111 rfl 1 rfl ?_
      refine j_callVi hJ (c_X12_node (l := l) (D := D) (cy := cy) (ad := ad) hin) rfl om_1375 ⟨rfl, rfl, by show _ ≤ _; simp only [rm_gr_]; omega, by show _ ≤ _; simp only [rm_gr_]; omega⟩ [.int (Ii x1)] mv_X12_683 hd_X12_nodev kR_0 rfl rfl rfl (Nat.le_of_ble_eq_true rfl) dX12_readAtom_112 ⟨x1, rfl, gx1, hF⟩ (fun r3 M4 gr3 qM4 => ?_)
      have hF := qM4 gr3
      refine j_istore_n (lv' := [(2, .int (Ii r3)), (0, .ref (ad 0)), (1, .int (Ii x1))]) hJ dX12_readAtom_115 rfl (by decide) rfl ?_
      refine j_aload_n hJ dX12_readAtom_116 rfl 1 rfl ?_
      refine j_gi hJ kR_0 fR_15_83 rfl fl_X12_625 dX12_readAtom_117 (fun v5 ev5 gv5 => ?_)
      have hF := hF v5 ev5 gv5
      refine j_if_ne hJ 127 gv5 dX12_readAtom_120 (by decide) (fun z6 => ?_) (fun z6 => ?_)
      · have hF := hF.1 z6
        exact j_sub hJ [1, 0] rfl (k_X12_readAtom_b127 hin  hg0 hg1 hg2 hg3 hg4 hg5 hg6 hg7 hg8 hg9 hg10 hJ  r3 _ gr3 hF)
      · have hF := hF.2 z6
        refine j_aload_n hJ dX12_readAtom_123 rfl 1 rfl ?_
        refine j_callVv hJ (c_X12_advance (l := l) (D := D) (cy := cy) (ad := ad) hin) rfl om_1355 ⟨rfl, rfl, by show _ ≤ _; simp only [rm_gr_]; omega, by show _ ≤ _; simp only [rm_gr_]; omega⟩ [] mv_X12_661 hd_X12_advancev kR_0 rfl rfl rfl (Nat.le_of_ble_eq_true rfl) dX12_readAtom_124 ⟨rfl, hF⟩ (fun M8 qM8 => ?_)
        have hF := qM8
        exact j_sub hJ [1, 0] rfl (k_X12_readAtom_b127 hin  hg0 hg1 hg2 hg3 hg4 hg5 hg6 hg7 hg8 hg9 hg10 hJ  r3 _ gr3 hF)
set_option maxHeartbeats 4000000 in
set_option maxRecDepth 100000 in
theorem k_X12_readAtom_b60 {l : Launch} {D : va_G} {cy : Nat → ClassId} {ad : Nat → Nat} {dp : Nat} {Q : Int → MM → Prop} {J : Nat → List (Nat × Value) → List Value → MM → Prop} (hin : jIn ad ksR.length)   (hg0 : jCN l D vwCl (tyR cy) cy ad ftR ksR (XtR ad) yX12_readE (.code yX12_readE cX12_readE 3 (some .int) :: Om) (rm_gr_ dp) 1 (W_X12_readE dp ad)) (hg1 : jCN l D vwCl (tyR cy) cy ad ftR ksR (XtR ad) yX12_readAnd (.code yX12_readAnd cX12_readAnd 3 (some .int) :: Om) (rm_gr_ dp) 1 (W_X12_readAnd dp ad)) (hg2 : jCN l D vwCl (tyR cy) cy ad ftR ksR (XtR ad) yX12_readNot (.code yX12_readNot cX12_readNot 2 (some .int) :: Om) (rm_gr_ dp) 1 (W_X12_readNot dp ad)) (hg3 : jCN l D vwCl (tyR cy) cy ad ftR ksR (XtR ad) yX12_readCompared (.code yX12_readCompared cX12_readCompared 4 (some .int) :: Om) (rm_gr_ dp) 1 (W_X12_readCompared dp ad)) (hg4 : jCN l D vwCl (tyR cy) cy ad ftR ksR (XtR ad) yX12_readSum (.code yX12_readSum cX12_readSum 3 (some .int) :: Om) (rm_gr_ dp) 1 (W_X12_readSum dp ad)) (hg5 : jCN l D vwCl (tyR cy) cy ad ftR ksR (XtR ad) yX12_readProduct (.code yX12_readProduct cX12_readProduct 3 (some .int) :: Om) (rm_gr_ dp) 1 (W_X12_readProduct dp ad)) (hg6 : jCN l D vwCl (tyR cy) cy ad ftR ksR (XtR ad) yX12_readTurned (.code yX12_readTurned cX12_readTurned 2 (some .int) :: Om) (rm_gr_ dp) 1 (W_X12_readTurned dp ad)) (hg7 : jCN l D vwCl (tyR cy) cy ad ftR ksR (XtR ad) yX12_readP (.code yX12_readP cX12_readP 4 (some .int) :: Om) (rm_gr_ dp) 1 (W_X12_readP dp ad)) (hg8 : jCN l D vwCl (tyR cy) cy ad ftR ksR (XtR ad) yX12_readAtom (.code yX12_readAtom cX12_readAtom 5 (some .int) :: Om) (rm_gr_ dp) 1 (W_X12_readAtom dp ad)) (hg9 : jCN l D vwCl (tyR cy) cy ad ftR ksR (XtR ad) yX12_readFold (.code yX12_readFold cX12_readFold 5 (some .int) :: Om) (rm_gr_ dp) 1 (W_X12_readFold dp ad)) (hg10 : jCN l D vwCl (tyR cy) cy ad ftR ksR (XtR ad) yX12_readSet (.code yX12_readSet cX12_readSet 4 (some .int) :: Om) (rm_gr_ dp) 1 (W_X12_readSet dp ad)) (hJ : jOk l D vwCl (tyR cy) cy ad ftR ksR (XtR ad) Om RX12 cX12_readAtom 5 1 (rm_gr_ (dp + 1)) Q J)  : ∀ (s0 : Int) (M : MM), ri_ s0 → w_X12_readAtom_b60  (gr_  dp) Q  s0 M → J 60 [(0, .ref (ad 0))] [.int (Ii s0)] M := by
  intro s0 M gs0 hF
  unfold w_X12_readAtom_b60 at hF
  refine j_istore_n (lv' := [(2, .int (Ii s0)), (0, .ref (ad 0))]) hJ dX12_readAtom_60 rfl (by decide) rfl ?_
  refine j_aload_n hJ dX12_readAtom_61 rfl 1 rfl ?_
  refine j_ldc2 hJ 41 om_1450 (by decide) dX12_readAtom_62 ?_
  refine j_callVv hJ (c_X12_needSign (l := l) (D := D) (cy := cy) (ad := ad) hin) rfl om_1428 ⟨rfl, rfl, by show _ ≤ _; simp only [rm_gr_]; omega, by show _ ≤ _; simp only [rm_gr_]; omega⟩ [.long (Ll 41)] mv_X12_748 hd_X12_needSignv kR_0 rfl rfl rfl (Nat.le_of_ble_eq_true rfl) dX12_readAtom_65 ⟨41, rfl, lk_41, hF⟩ (fun M2 qM2 => ?_)
  have hF := qM2
  refine j_aload_n hJ dX12_readAtom_68 rfl 1 rfl ?_
  refine j_dup hJ dX12_readAtom_69 rfl ?_
  refine j_gi hJ kR_0 fR_15_93 rfl fl_X12_676 dX12_readAtom_70 (fun v3 ev3 gv3 => ?_)
  have hF := hF v3 ev3 gv3
  refine j_iconst hJ dX12_readAtom_73 ?_
  refine j_isub hJ dX12_readAtom_74 ?_
  have g4 := hF.1; have hF := hF.2
  refine j_pi hJ g4 kR_0 fR_15_93 rfl fp_X12_676 dX12_readAtom_75 (fun M5 eM5 => ?_)
  have hF := hF M5 eM5
  refine j_iload_n hJ dX12_readAtom_78 rfl 0 rfl ?_
  exact j_iret hJ rfl gs0 dX12_readAtom_79 hF
set_option maxHeartbeats 4000000 in
set_option maxRecDepth 100000 in
theorem k_X12_readAtom_b42 {l : Launch} {D : va_G} {cy : Nat → ClassId} {ad : Nat → Nat} {dp : Nat} {Q : Int → MM → Prop} {J : Nat → List (Nat × Value) → List Value → MM → Prop} (hin : jIn ad ksR.length)   (hg0 : jCN l D vwCl (tyR cy) cy ad ftR ksR (XtR ad) yX12_readE (.code yX12_readE cX12_readE 3 (some .int) :: Om) (rm_gr_ dp) 1 (W_X12_readE dp ad)) (hg1 : jCN l D vwCl (tyR cy) cy ad ftR ksR (XtR ad) yX12_readAnd (.code yX12_readAnd cX12_readAnd 3 (some .int) :: Om) (rm_gr_ dp) 1 (W_X12_readAnd dp ad)) (hg2 : jCN l D vwCl (tyR cy) cy ad ftR ksR (XtR ad) yX12_readNot (.code yX12_readNot cX12_readNot 2 (some .int) :: Om) (rm_gr_ dp) 1 (W_X12_readNot dp ad)) (hg3 : jCN l D vwCl (tyR cy) cy ad ftR ksR (XtR ad) yX12_readCompared (.code yX12_readCompared cX12_readCompared 4 (some .int) :: Om) (rm_gr_ dp) 1 (W_X12_readCompared dp ad)) (hg4 : jCN l D vwCl (tyR cy) cy ad ftR ksR (XtR ad) yX12_readSum (.code yX12_readSum cX12_readSum 3 (some .int) :: Om) (rm_gr_ dp) 1 (W_X12_readSum dp ad)) (hg5 : jCN l D vwCl (tyR cy) cy ad ftR ksR (XtR ad) yX12_readProduct (.code yX12_readProduct cX12_readProduct 3 (some .int) :: Om) (rm_gr_ dp) 1 (W_X12_readProduct dp ad)) (hg6 : jCN l D vwCl (tyR cy) cy ad ftR ksR (XtR ad) yX12_readTurned (.code yX12_readTurned cX12_readTurned 2 (some .int) :: Om) (rm_gr_ dp) 1 (W_X12_readTurned dp ad)) (hg7 : jCN l D vwCl (tyR cy) cy ad ftR ksR (XtR ad) yX12_readP (.code yX12_readP cX12_readP 4 (some .int) :: Om) (rm_gr_ dp) 1 (W_X12_readP dp ad)) (hg8 : jCN l D vwCl (tyR cy) cy ad ftR ksR (XtR ad) yX12_readAtom (.code yX12_readAtom cX12_readAtom 5 (some .int) :: Om) (rm_gr_ dp) 1 (W_X12_readAtom dp ad)) (hg9 : jCN l D vwCl (tyR cy) cy ad ftR ksR (XtR ad) yX12_readFold (.code yX12_readFold cX12_readFold 5 (some .int) :: Om) (rm_gr_ dp) 1 (W_X12_readFold dp ad)) (hg10 : jCN l D vwCl (tyR cy) cy ad ftR ksR (XtR ad) yX12_readSet (.code yX12_readSet cX12_readSet 4 (some .int) :: Om) (rm_gr_ dp) 1 (W_X12_readSet dp ad)) (hJ : jOk l D vwCl (tyR cy) cy ad ftR ksR (XtR ad) Om RX12 cX12_readAtom 5 1 (rm_gr_ (dp + 1)) Q J)  : ∀ (M : MM), w_X12_readAtom_b42  (gr_  dp) Q   M → J 42 [(0, .ref (ad 0))] [] M := by
  intro  M  hF
  unfold w_X12_readAtom_b42 at hF
  refine j_aload_n hJ dX12_readAtom_42 rfl 0 rfl ?_
  refine j_gi hJ kR_0 fR_15_83 rfl fl_X12_625 dX12_readAtom_43 (fun v1 ev1 gv1 => ?_)
  have hF := hF v1 ev1 gv1
  refine j_if_ne hJ 56 gv1 dX12_readAtom_46 (by decide) (fun z2 => ?_) (fun z2 => ?_)
  · have hF := hF.1 z2
    refine j_aload_n hJ dX12_readAtom_56 rfl 0 rfl ?_
    refine j_gi hJ kR_0 fR_15_91 rfl fl_X12_673 dX12_readAtom_57 (fun v3 ev3 gv3 => ?_)
    have hF := hF v3 ev3 gv3
    exact j_sub hJ [0] rfl (k_X12_readAtom_b60 hin  hg0 hg1 hg2 hg3 hg4 hg5 hg6 hg7 hg8 hg9 hg10 hJ  v3 _ gv3 hF)
  · have hF := hF.2 z2
    refine j_aload_n hJ dX12_readAtom_49 rfl 0 rfl ?_
    refine j_callVi hJ hg0 rfl om_1432 ⟨rfl, rfl, by show _ ≤ _; simp only [rm_gr_]; omega, by show _ ≤ _; simp only [rm_gr_]; omega⟩ [] mv_X12_743 hd_X12_readEv kR_0 rfl rfl rfl (Nat.le_of_ble_eq_true rfl) dX12_readAtom_50 ⟨rfl, hF⟩ (fun r4 M5 gr4 qM5 => ?_)
    have hF := qM5 gr4
    refine j_goto hJ 60 dX12_readAtom_53 (by decide) ?_
    exact j_sub hJ [0] rfl (k_X12_readAtom_b60 hin  hg0 hg1 hg2 hg3 hg4 hg5 hg6 hg7 hg8 hg9 hg10 hJ  r4 _ gr4 hF)
set_option maxHeartbeats 4000000 in
set_option maxRecDepth 100000 in
theorem s_X12_readAtom {l : Launch} {D : va_G} {cy : Nat → ClassId} {ad : Nat → Nat} {dp : Nat} (hin : jIn ad ksR.length) (hg0 : jCN l D vwCl (tyR cy) cy ad ftR ksR (XtR ad) yX12_readE (.code yX12_readE cX12_readE 3 (some .int) :: Om) (rm_gr_ dp) 1 (W_X12_readE dp ad)) (hg1 : jCN l D vwCl (tyR cy) cy ad ftR ksR (XtR ad) yX12_readAnd (.code yX12_readAnd cX12_readAnd 3 (some .int) :: Om) (rm_gr_ dp) 1 (W_X12_readAnd dp ad)) (hg2 : jCN l D vwCl (tyR cy) cy ad ftR ksR (XtR ad) yX12_readNot (.code yX12_readNot cX12_readNot 2 (some .int) :: Om) (rm_gr_ dp) 1 (W_X12_readNot dp ad)) (hg3 : jCN l D vwCl (tyR cy) cy ad ftR ksR (XtR ad) yX12_readCompared (.code yX12_readCompared cX12_readCompared 4 (some .int) :: Om) (rm_gr_ dp) 1 (W_X12_readCompared dp ad)) (hg4 : jCN l D vwCl (tyR cy) cy ad ftR ksR (XtR ad) yX12_readSum (.code yX12_readSum cX12_readSum 3 (some .int) :: Om) (rm_gr_ dp) 1 (W_X12_readSum dp ad)) (hg5 : jCN l D vwCl (tyR cy) cy ad ftR ksR (XtR ad) yX12_readProduct (.code yX12_readProduct cX12_readProduct 3 (some .int) :: Om) (rm_gr_ dp) 1 (W_X12_readProduct dp ad)) (hg6 : jCN l D vwCl (tyR cy) cy ad ftR ksR (XtR ad) yX12_readTurned (.code yX12_readTurned cX12_readTurned 2 (some .int) :: Om) (rm_gr_ dp) 1 (W_X12_readTurned dp ad)) (hg7 : jCN l D vwCl (tyR cy) cy ad ftR ksR (XtR ad) yX12_readP (.code yX12_readP cX12_readP 4 (some .int) :: Om) (rm_gr_ dp) 1 (W_X12_readP dp ad)) (hg8 : jCN l D vwCl (tyR cy) cy ad ftR ksR (XtR ad) yX12_readAtom (.code yX12_readAtom cX12_readAtom 5 (some .int) :: Om) (rm_gr_ dp) 1 (W_X12_readAtom dp ad)) (hg9 : jCN l D vwCl (tyR cy) cy ad ftR ksR (XtR ad) yX12_readFold (.code yX12_readFold cX12_readFold 5 (some .int) :: Om) (rm_gr_ dp) 1 (W_X12_readFold dp ad)) (hg10 : jCN l D vwCl (tyR cy) cy ad ftR ksR (XtR ad) yX12_readSet (.code yX12_readSet cX12_readSet 4 (some .int) :: Om) (rm_gr_ dp) 1 (W_X12_readSet dp ad)) : jCN l D vwCl (tyR cy) cy ad ftR ksR (XtR ad) yX12_readAtom (.code yX12_readAtom cX12_readAtom 5 (some .int) :: Om) (rm_gr_ (dp + 1)) 1 (W_X12_readAtom (dp + 1) ad) := by
  refine jCN_of (y := yX12_readAtom) (cc := cX12_readAtom) (nL := 5) (rk := 1) (rm := (rm_gr_ (dp + 1))) (own := RX12) (tyR_ok cy) hin (XtR_ok ad) Om_good (by decide) rfl ?_
  intro Q av M hF
  obtain ⟨rfl, hF⟩ := hF
  refine ⟨Nat.le_of_ble_eq_true rfl, fun J hJ => ?_⟩
  show J 0 [(0, .ref (ad 0))] [] M
  have hF : b_X12_readAtom  (gr_  dp) Q  M := hF
  unfold b_X12_readAtom at hF
  refine j_aload_n hJ dX12_readAtom_0 rfl 0 rfl ?_
  refine j_gi hJ kR_0 fR_15_83 rfl fl_X12_625 dX12_readAtom_1 (fun v1 ev1 gv1 => ?_)
  have hF := hF v1 ev1 gv1
  refine j_if_le hJ 12 gv1 dX12_readAtom_4 (by decide) (fun z2 => ?_) (fun z2 => ?_)
  · have hF := hF.1 z2
    refine j_aload_n hJ dX12_readAtom_12 rfl 0 rfl ?_
    refine j_callVi hJ (c_X12_keyAtHand (l := l) (D := D) (cy := cy) (ad := ad) hin) rfl om_1441 ⟨rfl, rfl, by show _ ≤ _; simp only [rm_gr_]; omega, by show _ ≤ _; simp only [rm_gr_]; omega⟩ [] mv_X12_751 hd_X12_keyAtHandv kR_0 rfl rfl rfl (Nat.le_of_ble_eq_true rfl) dX12_readAtom_13 ⟨rfl, hF⟩ (fun r3 M4 gr3 qM4 => ?_)
    have hF := qM4 gr3
    refine j_istore_n (lv' := [(1, .int (Ii r3)), (0, .ref (ad 0))]) hJ dX12_readAtom_16 rfl (by decide) rfl ?_
    refine j_aload_n hJ dX12_readAtom_17 rfl 1 rfl ?_
    refine j_ldc2 hJ 40 om_1445 (by decide) dX12_readAtom_18 ?_
    refine j_callVz hJ (c_X12_isSign (l := l) (D := D) (cy := cy) (ad := ad) hin) rfl om_1359 ⟨rfl, rfl, by show _ ≤ _; simp only [rm_gr_]; omega, by show _ ≤ _; simp only [rm_gr_]; omega⟩ [.long (Ll 40)] mv_X12_657 hd_X12_isSignv kR_0 rfl rfl rfl (Nat.le_of_ble_eq_true rfl) dX12_readAtom_21 ⟨40, rfl, lk_40, hF⟩ (fun r5 M6 gr5 qM6 => ?_)
    have hF := qM6 gr5
    refine j_if_eq hJ 80 (jz_ri gr5) dX12_readAtom_24 (by decide) (fun z7 => ?_) (fun z7 => ?_)
    · have hF := hF.1 z7
      refine j_iload_n hJ dX12_readAtom_80 rfl 0 rfl ?_
      refine j_bipush hJ dX12_readAtom_81 (by decide) ?_
      refine j_icmp_lt hJ 98 gr3 rk_13 dX12_readAtom_83 (by decide) (fun z8 => ?_) (fun z8 => ?_)
      · have hF := hF.1 z8
        exact j_sub hJ [1, 0] rfl (k_X12_readAtom_b98 hin  hg0 hg1 hg2 hg3 hg4 hg5 hg6 hg7 hg8 hg9 hg10 hJ  r3 _ gr3 hF)
      · have hF := hF.2 z8
        refine j_iload_n hJ dX12_readAtom_86 rfl 0 rfl ?_
        refine j_bipush hJ dX12_readAtom_87 (by decide) ?_
        refine j_icmp_gt hJ 98 gr3 rk_18 dX12_readAtom_89 (by decide) (fun z9 => ?_) (fun z9 => ?_)
        · have hF := hF.1 z9
          exact j_sub hJ [1, 0] rfl (k_X12_readAtom_b98 hin  hg0 hg1 hg2 hg3 hg4 hg5 hg6 hg7 hg8 hg9 hg10 hJ  r3 _ gr3 hF)
        · have hF := hF.2 z9
          refine j_aload_n hJ dX12_readAtom_92 rfl 1 rfl ?_
          refine j_iload_n hJ dX12_readAtom_93 rfl 0 rfl ?_
          refine j_callVi hJ hg9 rfl om_1446 ⟨rfl, rfl, by show _ ≤ _; simp only [rm_gr_]; omega, by show _ ≤ _; simp only [rm_gr_]; omega⟩ [.int (Ii r3)] mv_X12_758 hd_X12_readFoldv kR_0 rfl rfl rfl (Nat.le_of_ble_eq_true rfl) dX12_readAtom_94 ⟨r3, rfl, gr3, hF⟩ (fun r10 M11 gr10 qM11 => ?_)
          have hF := qM11 gr10
          exact j_iret hJ rfl gr10 dX12_readAtom_97 hF
    · have hF := hF.2 z7
      refine j_aload_n hJ dX12_readAtom_27 rfl 1 rfl ?_
      refine j_callVv hJ (c_X12_nest (l := l) (D := D) (cy := cy) (ad := ad) hin) rfl om_1436 ⟨rfl, rfl, by show _ ≤ _; simp only [rm_gr_]; omega, by show _ ≤ _; simp only [rm_gr_]; omega⟩ [] mv_X12_740 hd_X12_nestv kR_0 rfl rfl rfl (Nat.le_of_ble_eq_true rfl) dX12_readAtom_28 ⟨rfl, hF⟩ (fun M13 qM13 => ?_)
      have hF := qM13
      refine j_aload_n hJ dX12_readAtom_31 rfl 1 rfl ?_
      refine j_gi hJ kR_0 fR_15_83 rfl fl_X12_625 dX12_readAtom_32 (fun v14 ev14 gv14 => ?_)
      have hF := hF v14 ev14 gv14
      refine j_if_ne hJ 42 gv14 dX12_readAtom_35 (by decide) (fun z15 => ?_) (fun z15 => ?_)
      · have hF := hF.1 z15
        exact j_sub hJ [1] rfl (k_X12_readAtom_b42 hin  hg0 hg1 hg2 hg3 hg4 hg5 hg6 hg7 hg8 hg9 hg10 hJ   _  hF)
      · have hF := hF.2 z15
        refine j_aload_n hJ dX12_readAtom_38 rfl 1 rfl ?_
        refine j_callVv hJ (c_X12_advance (l := l) (D := D) (cy := cy) (ad := ad) hin) rfl om_1355 ⟨rfl, rfl, by show _ ≤ _; simp only [rm_gr_]; omega, by show _ ≤ _; simp only [rm_gr_]; omega⟩ [] mv_X12_661 hd_X12_advancev kR_0 rfl rfl rfl (Nat.le_of_ble_eq_true rfl) dX12_readAtom_39 ⟨rfl, hF⟩ (fun M17 qM17 => ?_)
        have hF := qM17
        exact j_sub hJ [1] rfl (k_X12_readAtom_b42 hin  hg0 hg1 hg2 hg3 hg4 hg5 hg6 hg7 hg8 hg9 hg10 hJ   _  hF)
  · have hF := hF.2 z2
    refine j_aload_n hJ dX12_readAtom_7 rfl 0 rfl ?_
    refine j_gi hJ kR_0 fR_15_91 rfl fl_X12_673 dX12_readAtom_8 (fun v18 ev18 gv18 => ?_)
    have hF := hF v18 ev18 gv18
    exact j_iret hJ rfl gv18 dX12_readAtom_11 hF
set_option maxHeartbeats 4000000 in
set_option maxRecDepth 100000 in
theorem k_X12_readFold_b164 {l : Launch} {D : va_G} {cy : Nat → ClassId} {ad : Nat → Nat} {dp : Nat} {Q : Int → MM → Prop} {J : Nat → List (Nat × Value) → List Value → MM → Prop} (hin : jIn ad ksR.length)   (hg0 : jCN l D vwCl (tyR cy) cy ad ftR ksR (XtR ad) yX12_readE (.code yX12_readE cX12_readE 3 (some .int) :: Om) (rm_gr_ dp) 1 (W_X12_readE dp ad)) (hg1 : jCN l D vwCl (tyR cy) cy ad ftR ksR (XtR ad) yX12_readAnd (.code yX12_readAnd cX12_readAnd 3 (some .int) :: Om) (rm_gr_ dp) 1 (W_X12_readAnd dp ad)) (hg2 : jCN l D vwCl (tyR cy) cy ad ftR ksR (XtR ad) yX12_readNot (.code yX12_readNot cX12_readNot 2 (some .int) :: Om) (rm_gr_ dp) 1 (W_X12_readNot dp ad)) (hg3 : jCN l D vwCl (tyR cy) cy ad ftR ksR (XtR ad) yX12_readCompared (.code yX12_readCompared cX12_readCompared 4 (some .int) :: Om) (rm_gr_ dp) 1 (W_X12_readCompared dp ad)) (hg4 : jCN l D vwCl (tyR cy) cy ad ftR ksR (XtR ad) yX12_readSum (.code yX12_readSum cX12_readSum 3 (some .int) :: Om) (rm_gr_ dp) 1 (W_X12_readSum dp ad)) (hg5 : jCN l D vwCl (tyR cy) cy ad ftR ksR (XtR ad) yX12_readProduct (.code yX12_readProduct cX12_readProduct 3 (some .int) :: Om) (rm_gr_ dp) 1 (W_X12_readProduct dp ad)) (hg6 : jCN l D vwCl (tyR cy) cy ad ftR ksR (XtR ad) yX12_readTurned (.code yX12_readTurned cX12_readTurned 2 (some .int) :: Om) (rm_gr_ dp) 1 (W_X12_readTurned dp ad)) (hg7 : jCN l D vwCl (tyR cy) cy ad ftR ksR (XtR ad) yX12_readP (.code yX12_readP cX12_readP 4 (some .int) :: Om) (rm_gr_ dp) 1 (W_X12_readP dp ad)) (hg8 : jCN l D vwCl (tyR cy) cy ad ftR ksR (XtR ad) yX12_readAtom (.code yX12_readAtom cX12_readAtom 5 (some .int) :: Om) (rm_gr_ dp) 1 (W_X12_readAtom dp ad)) (hg9 : jCN l D vwCl (tyR cy) cy ad ftR ksR (XtR ad) yX12_readFold (.code yX12_readFold cX12_readFold 5 (some .int) :: Om) (rm_gr_ dp) 1 (W_X12_readFold dp ad)) (hg10 : jCN l D vwCl (tyR cy) cy ad ftR ksR (XtR ad) yX12_readSet (.code yX12_readSet cX12_readSet 4 (some .int) :: Om) (rm_gr_ dp) 1 (W_X12_readSet dp ad)) (hJ : jOk l D vwCl (tyR cy) cy ad ftR ksR (XtR ad) Om RX12 cX12_readFold 5 1 (rm_gr_ (dp + 1)) Q J)  : ∀ (x2 : Int) (M : MM), ri_ x2 → w_X12_readFold_b164  (gr_  dp) Q  x2 M → J 164 [(0, .ref (ad 0)), (2, .int (Ii x2))] [] M := by
  intro x2 M gx2 hF
  unfold w_X12_readFold_b164 at hF
  refine j_aload_n hJ dX12_readFold_164 rfl 0 rfl ?_
  refine j_ldc2 hJ 41 om_1450 (by decide) dX12_readFold_165 ?_
  refine j_callVv hJ (c_X12_needSign (l := l) (D := D) (cy := cy) (ad := ad) hin) rfl om_1428 ⟨rfl, rfl, by show _ ≤ _; simp only [rm_gr_]; omega, by show _ ≤ _; simp only [rm_gr_]; omega⟩ [.long (Ll 41)] mv_X12_748 hd_X12_needSignv kR_0 rfl rfl rfl (Nat.le_of_ble_eq_true rfl) dX12_readFold_168 ⟨41, rfl, lk_41, hF⟩ (fun M2 qM2 => ?_)
  have hF := qM2
  refine j_aload_n hJ dX12_readFold_171 rfl 0 rfl ?_
  refine j_dup hJ dX12_readFold_172 rfl ?_
  refine j_gi hJ kR_0 fR_15_94 rfl fl_X12_761 dX12_readFold_173 (fun v3 ev3 gv3 => ?_)
  have hF := hF v3 ev3 gv3
  refine j_iconst hJ dX12_readFold_176 ?_
  refine j_isub hJ dX12_readFold_177 ?_
  have g4 := hF.1; have hF := hF.2
  refine j_pi hJ g4 kR_0 fR_15_94 rfl fp_X12_761 dX12_readFold_178 (fun M5 eM5 => ?_)
  have hF := hF M5 eM5
  refine j_aload_n hJ dX12_readFold_181 rfl 0 rfl ?_
  refine j_dup hJ dX12_readFold_182 rfl ?_
  refine j_gi hJ kR_0 fR_15_93 rfl fl_X12_676 dX12_readFold_183 (fun v6 ev6 gv6 => ?_)
  have hF := hF v6 ev6 gv6
  refine j_iconst hJ dX12_readFold_186 ?_
  refine j_isub hJ dX12_readFold_187 ?_
  have g7 := hF.1; have hF := hF.2
  refine j_pi hJ g7 kR_0 fR_15_93 rfl fp_X12_676 dX12_readFold_188 (fun M8 eM8 => ?_)
  have hF := hF M8 eM8
  refine j_iload_n hJ dX12_readFold_191 rfl 1 rfl ?_
  exact j_iret hJ rfl gx2 dX12_readFold_192 hF
set_option maxHeartbeats 4000000 in
set_option maxRecDepth 100000 in
theorem k_X12_readFold_b163 {l : Launch} {D : va_G} {cy : Nat → ClassId} {ad : Nat → Nat} {dp : Nat} {Q : Int → MM → Prop} {J : Nat → List (Nat × Value) → List Value → MM → Prop} (hin : jIn ad ksR.length)   (hg0 : jCN l D vwCl (tyR cy) cy ad ftR ksR (XtR ad) yX12_readE (.code yX12_readE cX12_readE 3 (some .int) :: Om) (rm_gr_ dp) 1 (W_X12_readE dp ad)) (hg1 : jCN l D vwCl (tyR cy) cy ad ftR ksR (XtR ad) yX12_readAnd (.code yX12_readAnd cX12_readAnd 3 (some .int) :: Om) (rm_gr_ dp) 1 (W_X12_readAnd dp ad)) (hg2 : jCN l D vwCl (tyR cy) cy ad ftR ksR (XtR ad) yX12_readNot (.code yX12_readNot cX12_readNot 2 (some .int) :: Om) (rm_gr_ dp) 1 (W_X12_readNot dp ad)) (hg3 : jCN l D vwCl (tyR cy) cy ad ftR ksR (XtR ad) yX12_readCompared (.code yX12_readCompared cX12_readCompared 4 (some .int) :: Om) (rm_gr_ dp) 1 (W_X12_readCompared dp ad)) (hg4 : jCN l D vwCl (tyR cy) cy ad ftR ksR (XtR ad) yX12_readSum (.code yX12_readSum cX12_readSum 3 (some .int) :: Om) (rm_gr_ dp) 1 (W_X12_readSum dp ad)) (hg5 : jCN l D vwCl (tyR cy) cy ad ftR ksR (XtR ad) yX12_readProduct (.code yX12_readProduct cX12_readProduct 3 (some .int) :: Om) (rm_gr_ dp) 1 (W_X12_readProduct dp ad)) (hg6 : jCN l D vwCl (tyR cy) cy ad ftR ksR (XtR ad) yX12_readTurned (.code yX12_readTurned cX12_readTurned 2 (some .int) :: Om) (rm_gr_ dp) 1 (W_X12_readTurned dp ad)) (hg7 : jCN l D vwCl (tyR cy) cy ad ftR ksR (XtR ad) yX12_readP (.code yX12_readP cX12_readP 4 (some .int) :: Om) (rm_gr_ dp) 1 (W_X12_readP dp ad)) (hg8 : jCN l D vwCl (tyR cy) cy ad ftR ksR (XtR ad) yX12_readAtom (.code yX12_readAtom cX12_readAtom 5 (some .int) :: Om) (rm_gr_ dp) 1 (W_X12_readAtom dp ad)) (hg9 : jCN l D vwCl (tyR cy) cy ad ftR ksR (XtR ad) yX12_readFold (.code yX12_readFold cX12_readFold 5 (some .int) :: Om) (rm_gr_ dp) 1 (W_X12_readFold dp ad)) (hg10 : jCN l D vwCl (tyR cy) cy ad ftR ksR (XtR ad) yX12_readSet (.code yX12_readSet cX12_readSet 4 (some .int) :: Om) (rm_gr_ dp) 1 (W_X12_readSet dp ad)) (hJ : jOk l D vwCl (tyR cy) cy ad ftR ksR (XtR ad) Om RX12 cX12_readFold 5 1 (rm_gr_ (dp + 1)) Q J)  : ∀ (x2 s0 s1 : Int) (M : MM), ri_ x2 → ri_ s0 → ri_ s1 → w_X12_readFold_b163  (gr_  dp) Q  x2 s0 s1 M → J 163 [(0, .ref (ad 0)), (2, .int (Ii x2))] [.int (Ii s0), .int (Ii s1), .ref (ad 69)] M := by
  intro x2 s0 s1 M gx2 gs0 gs1 hF
  unfold w_X12_readFold_b163 at hF
  refine j_iast hJ gs1 gs0 kR_69 hF.1 hF.2.1 dX12_readFold_163 (fun M1 eM1 => ?_)
  have hF := hF.2.2 M1 eM1
  exact j_sub hJ [0, 1] rfl (k_X12_readFold_b164 hin  hg0 hg1 hg2 hg3 hg4 hg5 hg6 hg7 hg8 hg9 hg10 hJ  x2 _ gx2 hF)
set_option maxHeartbeats 4000000 in
set_option maxRecDepth 100000 in
theorem k_X12_readFold_b130 {l : Launch} {D : va_G} {cy : Nat → ClassId} {ad : Nat → Nat} {dp : Nat} {Q : Int → MM → Prop} {J : Nat → List (Nat × Value) → List Value → MM → Prop} (hin : jIn ad ksR.length)   (hg0 : jCN l D vwCl (tyR cy) cy ad ftR ksR (XtR ad) yX12_readE (.code yX12_readE cX12_readE 3 (some .int) :: Om) (rm_gr_ dp) 1 (W_X12_readE dp ad)) (hg1 : jCN l D vwCl (tyR cy) cy ad ftR ksR (XtR ad) yX12_readAnd (.code yX12_readAnd cX12_readAnd 3 (some .int) :: Om) (rm_gr_ dp) 1 (W_X12_readAnd dp ad)) (hg2 : jCN l D vwCl (tyR cy) cy ad ftR ksR (XtR ad) yX12_readNot (.code yX12_readNot cX12_readNot 2 (some .int) :: Om) (rm_gr_ dp) 1 (W_X12_readNot dp ad)) (hg3 : jCN l D vwCl (tyR cy) cy ad ftR ksR (XtR ad) yX12_readCompared (.code yX12_readCompared cX12_readCompared 4 (some .int) :: Om) (rm_gr_ dp) 1 (W_X12_readCompared dp ad)) (hg4 : jCN l D vwCl (tyR cy) cy ad ftR ksR (XtR ad) yX12_readSum (.code yX12_readSum cX12_readSum 3 (some .int) :: Om) (rm_gr_ dp) 1 (W_X12_readSum dp ad)) (hg5 : jCN l D vwCl (tyR cy) cy ad ftR ksR (XtR ad) yX12_readProduct (.code yX12_readProduct cX12_readProduct 3 (some .int) :: Om) (rm_gr_ dp) 1 (W_X12_readProduct dp ad)) (hg6 : jCN l D vwCl (tyR cy) cy ad ftR ksR (XtR ad) yX12_readTurned (.code yX12_readTurned cX12_readTurned 2 (some .int) :: Om) (rm_gr_ dp) 1 (W_X12_readTurned dp ad)) (hg7 : jCN l D vwCl (tyR cy) cy ad ftR ksR (XtR ad) yX12_readP (.code yX12_readP cX12_readP 4 (some .int) :: Om) (rm_gr_ dp) 1 (W_X12_readP dp ad)) (hg8 : jCN l D vwCl (tyR cy) cy ad ftR ksR (XtR ad) yX12_readAtom (.code yX12_readAtom cX12_readAtom 5 (some .int) :: Om) (rm_gr_ dp) 1 (W_X12_readAtom dp ad)) (hg9 : jCN l D vwCl (tyR cy) cy ad ftR ksR (XtR ad) yX12_readFold (.code yX12_readFold cX12_readFold 5 (some .int) :: Om) (rm_gr_ dp) 1 (W_X12_readFold dp ad)) (hg10 : jCN l D vwCl (tyR cy) cy ad ftR ksR (XtR ad) yX12_readSet (.code yX12_readSet cX12_readSet 4 (some .int) :: Om) (rm_gr_ dp) 1 (W_X12_readSet dp ad)) (hJ : jOk l D vwCl (tyR cy) cy ad ftR ksR (XtR ad) Om RX12 cX12_readFold 5 1 (rm_gr_ (dp + 1)) Q J)  : ∀ (x1 x2 : Int) (M : MM), ri_ x1 → ri_ x2 → w_X12_readFold_b130  (gr_  dp) Q  x1 x2 M → J 130 [(0, .ref (ad 0)), (1, .int (Ii x1)), (2, .int (Ii x2))] [] M := by
  intro x1 x2 M gx1 gx2 hF
  unfold w_X12_readFold_b130 at hF
  refine j_iload_n hJ dX12_readFold_130 rfl 1 rfl ?_
  refine j_bipush hJ dX12_readFold_131 (by decide) ?_
  refine j_icmp_eq hJ 164 gx1 rk_13 dX12_readFold_133 (by decide) (fun z1 => ?_) (fun z1 => ?_)
  · have hF := hF.1 z1
    exact j_sub hJ [0, 2] rfl (k_X12_readFold_b164 hin  hg0 hg1 hg2 hg3 hg4 hg5 hg6 hg7 hg8 hg9 hg10 hJ  x2 _ gx2 hF)
  · have hF := hF.2 z1
    refine j_aload_n hJ dX12_readFold_136 rfl 0 rfl ?_
    refine j_ldc2 hJ 58 om_1459 (by decide) dX12_readFold_137 ?_
    refine j_callVv hJ (c_X12_needSign (l := l) (D := D) (cy := cy) (ad := ad) hin) rfl om_1428 ⟨rfl, rfl, by show _ ≤ _; simp only [rm_gr_]; omega, by show _ ≤ _; simp only [rm_gr_]; omega⟩ [.long (Ll 58)] mv_X12_748 hd_X12_needSignv kR_0 rfl rfl rfl (Nat.le_of_ble_eq_true rfl) dX12_readFold_140 ⟨58, rfl, lk_58, hF⟩ (fun M3 qM3 => ?_)
    have hF := qM3
    refine j_aload_n hJ dX12_readFold_143 rfl 0 rfl ?_
    refine j_gr (e := 69) hJ kR_0 fR_15_89 fl_X12_281 dX12_readFold_144 rfl ?_
    refine j_iload_n hJ dX12_readFold_147 rfl 2 rfl ?_
    refine j_aload_n hJ dX12_readFold_148 rfl 0 rfl ?_
    refine j_gi hJ kR_0 fR_15_83 rfl fl_X12_625 dX12_readFold_149 (fun v4 ev4 gv4 => ?_)
    have hF := hF v4 ev4 gv4
    refine j_if_ne hJ 162 gv4 dX12_readFold_152 (by decide) (fun z5 => ?_) (fun z5 => ?_)
    · have hF := hF.1 z5
      refine j_iconst hJ dX12_readFold_162 ?_
      exact j_sub hJ [0, 2] rfl (k_X12_readFold_b163 hin  hg0 hg1 hg2 hg3 hg4 hg5 hg6 hg7 hg8 hg9 hg10 hJ  x2 (-1) x2 _ gx2 rk_m1 gx2 hF)
    · have hF := hF.2 z5
      refine j_aload_n hJ dX12_readFold_155 rfl 0 rfl ?_
      refine j_callVi hJ hg0 rfl om_1432 ⟨rfl, rfl, by show _ ≤ _; simp only [rm_gr_]; omega, by show _ ≤ _; simp only [rm_gr_]; omega⟩ [] mv_X12_743 hd_X12_readEv kR_0 rfl rfl rfl (Nat.le_of_ble_eq_true rfl) dX12_readFold_156 ⟨rfl, hF⟩ (fun r6 M7 gr6 qM7 => ?_)
      have hF := qM7 gr6
      refine j_goto hJ 163 dX12_readFold_159 (by decide) ?_
      exact j_sub hJ [0, 2] rfl (k_X12_readFold_b163 hin  hg0 hg1 hg2 hg3 hg4 hg5 hg6 hg7 hg8 hg9 hg10 hJ  x2 r6 x2 _ gx2 gr6 gx2 hF)
set_option maxHeartbeats 4000000 in
set_option maxRecDepth 100000 in
theorem k_X12_readFold_b82 {l : Launch} {D : va_G} {cy : Nat → ClassId} {ad : Nat → Nat} {dp : Nat} {Q : Int → MM → Prop} {J : Nat → List (Nat × Value) → List Value → MM → Prop} (hin : jIn ad ksR.length)   (hg0 : jCN l D vwCl (tyR cy) cy ad ftR ksR (XtR ad) yX12_readE (.code yX12_readE cX12_readE 3 (some .int) :: Om) (rm_gr_ dp) 1 (W_X12_readE dp ad)) (hg1 : jCN l D vwCl (tyR cy) cy ad ftR ksR (XtR ad) yX12_readAnd (.code yX12_readAnd cX12_readAnd 3 (some .int) :: Om) (rm_gr_ dp) 1 (W_X12_readAnd dp ad)) (hg2 : jCN l D vwCl (tyR cy) cy ad ftR ksR (XtR ad) yX12_readNot (.code yX12_readNot cX12_readNot 2 (some .int) :: Om) (rm_gr_ dp) 1 (W_X12_readNot dp ad)) (hg3 : jCN l D vwCl (tyR cy) cy ad ftR ksR (XtR ad) yX12_readCompared (.code yX12_readCompared cX12_readCompared 4 (some .int) :: Om) (rm_gr_ dp) 1 (W_X12_readCompared dp ad)) (hg4 : jCN l D vwCl (tyR cy) cy ad ftR ksR (XtR ad) yX12_readSum (.code yX12_readSum cX12_readSum 3 (some .int) :: Om) (rm_gr_ dp) 1 (W_X12_readSum dp ad)) (hg5 : jCN l D vwCl (tyR cy) cy ad ftR ksR (XtR ad) yX12_readProduct (.code yX12_readProduct cX12_readProduct 3 (some .int) :: Om) (rm_gr_ dp) 1 (W_X12_readProduct dp ad)) (hg6 : jCN l D vwCl (tyR cy) cy ad ftR ksR (XtR ad) yX12_readTurned (.code yX12_readTurned cX12_readTurned 2 (some .int) :: Om) (rm_gr_ dp) 1 (W_X12_readTurned dp ad)) (hg7 : jCN l D vwCl (tyR cy) cy ad ftR ksR (XtR ad) yX12_readP (.code yX12_readP cX12_readP 4 (some .int) :: Om) (rm_gr_ dp) 1 (W_X12_readP dp ad)) (hg8 : jCN l D vwCl (tyR cy) cy ad ftR ksR (XtR ad) yX12_readAtom (.code yX12_readAtom cX12_readAtom 5 (some .int) :: Om) (rm_gr_ dp) 1 (W_X12_readAtom dp ad)) (hg9 : jCN l D vwCl (tyR cy) cy ad ftR ksR (XtR ad) yX12_readFold (.code yX12_readFold cX12_readFold 5 (some .int) :: Om) (rm_gr_ dp) 1 (W_X12_readFold dp ad)) (hg10 : jCN l D vwCl (tyR cy) cy ad ftR ksR (XtR ad) yX12_readSet (.code yX12_readSet cX12_readSet 4 (some .int) :: Om) (rm_gr_ dp) 1 (W_X12_readSet dp ad)) (hJ : jOk l D vwCl (tyR cy) cy ad ftR ksR (XtR ad) Om RX12 cX12_readFold 5 1 (rm_gr_ (dp + 1)) Q J)  : ∀ (x1 x2 x3 : Int) (M : MM), ri_ x1 → ri_ x2 → rl_ x3 → w_X12_readFold_b82  (gr_  dp) Q  x1 x2 x3 M → J 82 [(0, .ref (ad 0)), (1, .int (Ii x1)), (2, .int (Ii x2)), (3, .long (Ll x3))] [] M := by
  intro x1 x2 x3 M gx1 gx2 gx3 hF
  unfold w_X12_readFold_b82 at hF
  refine j_aload_n hJ dX12_readFold_82 rfl 0 rfl ?_
  refine j_gr (e := 67) hJ kR_0 fR_15_87 fl_X12_275 dX12_readFold_83 rfl ?_
  refine j_iload_n hJ dX12_readFold_86 rfl 2 rfl ?_
  refine j_aload_n hJ dX12_readFold_87 rfl 0 rfl ?_
  refine j_callVi hJ hg10 rfl om_1451 ⟨rfl, rfl, by show _ ≤ _; simp only [rm_gr_]; omega, by show _ ≤ _; simp only [rm_gr_]; omega⟩ [] mv_X12_771 hd_X12_readSetv kR_0 rfl rfl rfl (Nat.le_of_ble_eq_true rfl) dX12_readFold_88 ⟨rfl, hF⟩ (fun r1 M2 gr1 qM2 => ?_)
  have hF := qM2 gr1
  refine j_iast hJ gx2 gr1 kR_67 hF.1 hF.2.1 dX12_readFold_91 (fun M3 eM3 => ?_)
  have hF := hF.2.2 M3 eM3
  refine j_aload_n hJ dX12_readFold_92 rfl 0 rfl ?_
  refine j_gr (e := 71) hJ kR_0 fR_15_96 fl_X12_287 dX12_readFold_93 rfl ?_
  refine j_aload_n hJ dX12_readFold_96 rfl 0 rfl ?_
  refine j_gi hJ kR_0 fR_15_94 rfl fl_X12_761 dX12_readFold_97 (fun v4 ev4 gv4 => ?_)
  have hF := hF v4 ev4 gv4
  refine j_lload_n hJ dX12_readFold_100 rfl 3 rfl ?_
  refine j_last hJ gv4 gx3 kR_71 hF.1 hF.2.1 dX12_readFold_101 (fun M5 eM5 => ?_)
  have hF := hF.2.2 M5 eM5
  refine j_aload_n hJ dX12_readFold_102 rfl 0 rfl ?_
  refine j_dup hJ dX12_readFold_103 rfl ?_
  refine j_gi hJ kR_0 fR_15_94 rfl fl_X12_761 dX12_readFold_104 (fun v6 ev6 gv6 => ?_)
  have hF := hF v6 ev6 gv6
  refine j_iconst hJ dX12_readFold_107 ?_
  refine j_iadd hJ dX12_readFold_108 ?_
  have g7 := hF.1; have hF := hF.2
  refine j_pi hJ g7 kR_0 fR_15_94 rfl fp_X12_761 dX12_readFold_109 (fun M8 eM8 => ?_)
  have hF := hF M8 eM8
  refine j_aload_n hJ dX12_readFold_112 rfl 0 rfl ?_
  refine j_iconst hJ dX12_readFold_113 ?_
  refine j_callVz hJ (c_X12_takesKey (l := l) (D := D) (cy := cy) (ad := ad) hin) rfl om_1455 ⟨rfl, rfl, by show _ ≤ _; simp only [rm_gr_]; omega, by show _ ≤ _; simp only [rm_gr_]; omega⟩ [.int (Ii 3)] mv_X12_768 hd_X12_takesKeyv kR_0 rfl rfl rfl (Nat.le_of_ble_eq_true rfl) dX12_readFold_114 ⟨3, rfl, rk_3, hF⟩ (fun r9 M10 gr9 qM10 => ?_)
  have hF := qM10 gr9
  refine j_if_eq hJ 130 (jz_ri gr9) dX12_readFold_117 (by decide) (fun z11 => ?_) (fun z11 => ?_)
  · have hF := hF.1 z11
    exact j_sub hJ [0, 1, 2] rfl (k_X12_readFold_b130 hin  hg0 hg1 hg2 hg3 hg4 hg5 hg6 hg7 hg8 hg9 hg10 hJ  x1 x2 _ gx1 gx2 hF)
  · have hF := hF.2 z11
    refine j_aload_n hJ dX12_readFold_120 rfl 0 rfl ?_
    refine j_gr (e := 68) hJ kR_0 fR_15_88 fl_X12_278 dX12_readFold_121 rfl ?_
    refine j_iload_n hJ dX12_readFold_124 rfl 2 rfl ?_
    refine j_aload_n hJ dX12_readFold_125 rfl 0 rfl ?_
    refine j_callVi hJ hg0 rfl om_1432 ⟨rfl, rfl, by show _ ≤ _; simp only [rm_gr_]; omega, by show _ ≤ _; simp only [rm_gr_]; omega⟩ [] mv_X12_743 hd_X12_readEv kR_0 rfl rfl rfl (Nat.le_of_ble_eq_true rfl) dX12_readFold_126 ⟨rfl, hF⟩ (fun r12 M13 gr12 qM13 => ?_)
    have hF := qM13 gr12
    refine j_iast hJ gx2 gr12 kR_68 hF.1 hF.2.1 dX12_readFold_129 (fun M14 eM14 => ?_)
    have hF := hF.2.2 M14 eM14
    exact j_sub hJ [0, 1, 2] rfl (k_X12_readFold_b130 hin  hg0 hg1 hg2 hg3 hg4 hg5 hg6 hg7 hg8 hg9 hg10 hJ  x1 x2 _ gx1 gx2 hF)
set_option maxHeartbeats 4000000 in
set_option maxRecDepth 100000 in
theorem k_X12_readFold_b62 {l : Launch} {D : va_G} {cy : Nat → ClassId} {ad : Nat → Nat} {dp : Nat} {Q : Int → MM → Prop} {J : Nat → List (Nat × Value) → List Value → MM → Prop} (hin : jIn ad ksR.length)   (hg0 : jCN l D vwCl (tyR cy) cy ad ftR ksR (XtR ad) yX12_readE (.code yX12_readE cX12_readE 3 (some .int) :: Om) (rm_gr_ dp) 1 (W_X12_readE dp ad)) (hg1 : jCN l D vwCl (tyR cy) cy ad ftR ksR (XtR ad) yX12_readAnd (.code yX12_readAnd cX12_readAnd 3 (some .int) :: Om) (rm_gr_ dp) 1 (W_X12_readAnd dp ad)) (hg2 : jCN l D vwCl (tyR cy) cy ad ftR ksR (XtR ad) yX12_readNot (.code yX12_readNot cX12_readNot 2 (some .int) :: Om) (rm_gr_ dp) 1 (W_X12_readNot dp ad)) (hg3 : jCN l D vwCl (tyR cy) cy ad ftR ksR (XtR ad) yX12_readCompared (.code yX12_readCompared cX12_readCompared 4 (some .int) :: Om) (rm_gr_ dp) 1 (W_X12_readCompared dp ad)) (hg4 : jCN l D vwCl (tyR cy) cy ad ftR ksR (XtR ad) yX12_readSum (.code yX12_readSum cX12_readSum 3 (some .int) :: Om) (rm_gr_ dp) 1 (W_X12_readSum dp ad)) (hg5 : jCN l D vwCl (tyR cy) cy ad ftR ksR (XtR ad) yX12_readProduct (.code yX12_readProduct cX12_readProduct 3 (some .int) :: Om) (rm_gr_ dp) 1 (W_X12_readProduct dp ad)) (hg6 : jCN l D vwCl (tyR cy) cy ad ftR ksR (XtR ad) yX12_readTurned (.code yX12_readTurned cX12_readTurned 2 (some .int) :: Om) (rm_gr_ dp) 1 (W_X12_readTurned dp ad)) (hg7 : jCN l D vwCl (tyR cy) cy ad ftR ksR (XtR ad) yX12_readP (.code yX12_readP cX12_readP 4 (some .int) :: Om) (rm_gr_ dp) 1 (W_X12_readP dp ad)) (hg8 : jCN l D vwCl (tyR cy) cy ad ftR ksR (XtR ad) yX12_readAtom (.code yX12_readAtom cX12_readAtom 5 (some .int) :: Om) (rm_gr_ dp) 1 (W_X12_readAtom dp ad)) (hg9 : jCN l D vwCl (tyR cy) cy ad ftR ksR (XtR ad) yX12_readFold (.code yX12_readFold cX12_readFold 5 (some .int) :: Om) (rm_gr_ dp) 1 (W_X12_readFold dp ad)) (hg10 : jCN l D vwCl (tyR cy) cy ad ftR ksR (XtR ad) yX12_readSet (.code yX12_readSet cX12_readSet 4 (some .int) :: Om) (rm_gr_ dp) 1 (W_X12_readSet dp ad)) (hJ : jOk l D vwCl (tyR cy) cy ad ftR ksR (XtR ad) Om RX12 cX12_readFold 5 1 (rm_gr_ (dp + 1)) Q J)  : ∀ (x1 x2 x3 : Int) (M : MM), ri_ x1 → ri_ x2 → rl_ x3 → w_X12_readFold_b62  (gr_  dp) Q  x1 x2 x3 M → J 62 [(0, .ref (ad 0)), (1, .int (Ii x1)), (2, .int (Ii x2)), (3, .long (Ll x3))] [] M := by
  intro x1 x2 x3 M gx1 gx2 gx3 hF
  unfold w_X12_readFold_b62 at hF
  refine j_aload_n hJ dX12_readFold_62 rfl 0 rfl ?_
  refine j_gi hJ kR_0 fR_15_83 rfl fl_X12_625 dX12_readFold_63 (fun v1 ev1 gv1 => ?_)
  have hF := hF v1 ev1 gv1
  refine j_if_ne hJ 82 gv1 dX12_readFold_66 (by decide) (fun z2 => ?_) (fun z2 => ?_)
  · have hF := hF.1 z2
    exact j_sub hJ [0, 1, 2, 3] rfl (k_X12_readFold_b82 hin  hg0 hg1 hg2 hg3 hg4 hg5 hg6 hg7 hg8 hg9 hg10 hJ  x1 x2 x3 _ gx1 gx2 gx3 hF)
  · have hF := hF.2 z2
    refine j_aload_n hJ dX12_readFold_69 rfl 0 rfl ?_
    refine j_bipush hJ dX12_readFold_70 (by decide) ?_
    refine j_callVz hJ (c_X12_takesKey (l := l) (D := D) (cy := cy) (ad := ad) hin) rfl om_1455 ⟨rfl, rfl, by show _ ≤ _; simp only [rm_gr_]; omega, by show _ ≤ _; simp only [rm_gr_]; omega⟩ [.int (Ii 12)] mv_X12_768 hd_X12_takesKeyv kR_0 rfl rfl rfl (Nat.le_of_ble_eq_true rfl) dX12_readFold_72 ⟨12, rfl, rk_12, hF⟩ (fun r3 M4 gr3 qM4 => ?_)
    have hF := qM4 gr3
    refine j_if_ne hJ 82 (jz_ri gr3) dX12_readFold_75 (by decide) (fun z5 => ?_) (fun z5 => ?_)
    · have hF := hF.1 z5
      exact j_sub hJ [0, 1, 2, 3] rfl (k_X12_readFold_b82 hin  hg0 hg1 hg2 hg3 hg4 hg5 hg6 hg7 hg8 hg9 hg10 hJ  x1 x2 x3 _ gx1 gx2 gx3 hF)
    · have hF := hF.2 z5
      refine j_aload_n hJ dX12_readFold_78 rfl 0 rfl ?_
      refine j_callVv hJ (c_X12_wrong (l := l) (D := D) (cy := cy) (ad := ad) hin) rfl om_1363 ⟨rfl, rfl, by show _ ≤ _; simp only [rm_gr_]; omega, by show _ ≤ _; simp only [rm_gr_]; omega⟩ [] mv_X12_664 hd_X12_wrongv kR_0 rfl rfl rfl (Nat.le_of_ble_eq_true rfl) dX12_readFold_79 ⟨rfl, hF⟩ (fun M7 qM7 => ?_)
      have hF := qM7
      exact j_sub hJ [0, 1, 2, 3] rfl (k_X12_readFold_b82 hin  hg0 hg1 hg2 hg3 hg4 hg5 hg6 hg7 hg8 hg9 hg10 hJ  x1 x2 x3 _ gx1 gx2 gx3 hF)
set_option maxHeartbeats 4000000 in
set_option maxRecDepth 100000 in
theorem k_X12_readFold_b46 {l : Launch} {D : va_G} {cy : Nat → ClassId} {ad : Nat → Nat} {dp : Nat} {Q : Int → MM → Prop} {J : Nat → List (Nat × Value) → List Value → MM → Prop} (hin : jIn ad ksR.length)   (hg0 : jCN l D vwCl (tyR cy) cy ad ftR ksR (XtR ad) yX12_readE (.code yX12_readE cX12_readE 3 (some .int) :: Om) (rm_gr_ dp) 1 (W_X12_readE dp ad)) (hg1 : jCN l D vwCl (tyR cy) cy ad ftR ksR (XtR ad) yX12_readAnd (.code yX12_readAnd cX12_readAnd 3 (some .int) :: Om) (rm_gr_ dp) 1 (W_X12_readAnd dp ad)) (hg2 : jCN l D vwCl (tyR cy) cy ad ftR ksR (XtR ad) yX12_readNot (.code yX12_readNot cX12_readNot 2 (some .int) :: Om) (rm_gr_ dp) 1 (W_X12_readNot dp ad)) (hg3 : jCN l D vwCl (tyR cy) cy ad ftR ksR (XtR ad) yX12_readCompared (.code yX12_readCompared cX12_readCompared 4 (some .int) :: Om) (rm_gr_ dp) 1 (W_X12_readCompared dp ad)) (hg4 : jCN l D vwCl (tyR cy) cy ad ftR ksR (XtR ad) yX12_readSum (.code yX12_readSum cX12_readSum 3 (some .int) :: Om) (rm_gr_ dp) 1 (W_X12_readSum dp ad)) (hg5 : jCN l D vwCl (tyR cy) cy ad ftR ksR (XtR ad) yX12_readProduct (.code yX12_readProduct cX12_readProduct 3 (some .int) :: Om) (rm_gr_ dp) 1 (W_X12_readProduct dp ad)) (hg6 : jCN l D vwCl (tyR cy) cy ad ftR ksR (XtR ad) yX12_readTurned (.code yX12_readTurned cX12_readTurned 2 (some .int) :: Om) (rm_gr_ dp) 1 (W_X12_readTurned dp ad)) (hg7 : jCN l D vwCl (tyR cy) cy ad ftR ksR (XtR ad) yX12_readP (.code yX12_readP cX12_readP 4 (some .int) :: Om) (rm_gr_ dp) 1 (W_X12_readP dp ad)) (hg8 : jCN l D vwCl (tyR cy) cy ad ftR ksR (XtR ad) yX12_readAtom (.code yX12_readAtom cX12_readAtom 5 (some .int) :: Om) (rm_gr_ dp) 1 (W_X12_readAtom dp ad)) (hg9 : jCN l D vwCl (tyR cy) cy ad ftR ksR (XtR ad) yX12_readFold (.code yX12_readFold cX12_readFold 5 (some .int) :: Om) (rm_gr_ dp) 1 (W_X12_readFold dp ad)) (hg10 : jCN l D vwCl (tyR cy) cy ad ftR ksR (XtR ad) yX12_readSet (.code yX12_readSet cX12_readSet 4 (some .int) :: Om) (rm_gr_ dp) 1 (W_X12_readSet dp ad)) (hJ : jOk l D vwCl (tyR cy) cy ad ftR ksR (XtR ad) Om RX12 cX12_readFold 5 1 (rm_gr_ (dp + 1)) Q J)  : ∀ (x1 x2 : Int) (M : MM), ri_ x1 → ri_ x2 → w_X12_readFold_b46  (gr_  dp) Q  x1 x2 M → J 46 [(0, .ref (ad 0)), (1, .int (Ii x1)), (2, .int (Ii x2))] [] M := by
  intro x1 x2 M gx1 gx2 hF
  unfold w_X12_readFold_b46 at hF
  refine j_aload_n hJ dX12_readFold_46 rfl 0 rfl ?_
  refine j_gl hJ kR_0 fR_15_85 rfl fl_X12_640 dX12_readFold_47 (fun v1 ev1 gv1 => ?_)
  have hF := hF v1 ev1 gv1
  refine j_lstore_n (lv' := [(3, .long (Ll v1)), (0, .ref (ad 0)), (1, .int (Ii x1)), (2, .int (Ii x2))]) hJ dX12_readFold_50 rfl (by decide) rfl ?_
  refine j_aload_n hJ dX12_readFold_51 rfl 1 rfl ?_
  refine j_gi hJ kR_0 fR_15_83 rfl fl_X12_625 dX12_readFold_52 (fun v2 ev2 gv2 => ?_)
  have hF := hF v2 ev2 gv2
  refine j_if_ne hJ 62 gv2 dX12_readFold_55 (by decide) (fun z3 => ?_) (fun z3 => ?_)
  · have hF := hF.1 z3
    exact j_sub hJ [1, 2, 3, 0] rfl (k_X12_readFold_b62 hin  hg0 hg1 hg2 hg3 hg4 hg5 hg6 hg7 hg8 hg9 hg10 hJ  x1 x2 v1 _ gx1 gx2 gv1 hF)
  · have hF := hF.2 z3
    refine j_aload_n hJ dX12_readFold_58 rfl 1 rfl ?_
    refine j_callVv hJ (c_X12_advance (l := l) (D := D) (cy := cy) (ad := ad) hin) rfl om_1355 ⟨rfl, rfl, by show _ ≤ _; simp only [rm_gr_]; omega, by show _ ≤ _; simp only [rm_gr_]; omega⟩ [] mv_X12_661 hd_X12_advancev kR_0 rfl rfl rfl (Nat.le_of_ble_eq_true rfl) dX12_readFold_59 ⟨rfl, hF⟩ (fun M5 qM5 => ?_)
    have hF := qM5
    exact j_sub hJ [1, 2, 3, 0] rfl (k_X12_readFold_b62 hin  hg0 hg1 hg2 hg3 hg4 hg5 hg6 hg7 hg8 hg9 hg10 hJ  x1 x2 v1 _ gx1 gx2 gv1 hF)
set_option maxHeartbeats 4000000 in
set_option maxRecDepth 100000 in
theorem k_X12_readFold_b21 {l : Launch} {D : va_G} {cy : Nat → ClassId} {ad : Nat → Nat} {dp : Nat} {Q : Int → MM → Prop} {J : Nat → List (Nat × Value) → List Value → MM → Prop} (hin : jIn ad ksR.length)   (hg0 : jCN l D vwCl (tyR cy) cy ad ftR ksR (XtR ad) yX12_readE (.code yX12_readE cX12_readE 3 (some .int) :: Om) (rm_gr_ dp) 1 (W_X12_readE dp ad)) (hg1 : jCN l D vwCl (tyR cy) cy ad ftR ksR (XtR ad) yX12_readAnd (.code yX12_readAnd cX12_readAnd 3 (some .int) :: Om) (rm_gr_ dp) 1 (W_X12_readAnd dp ad)) (hg2 : jCN l D vwCl (tyR cy) cy ad ftR ksR (XtR ad) yX12_readNot (.code yX12_readNot cX12_readNot 2 (some .int) :: Om) (rm_gr_ dp) 1 (W_X12_readNot dp ad)) (hg3 : jCN l D vwCl (tyR cy) cy ad ftR ksR (XtR ad) yX12_readCompared (.code yX12_readCompared cX12_readCompared 4 (some .int) :: Om) (rm_gr_ dp) 1 (W_X12_readCompared dp ad)) (hg4 : jCN l D vwCl (tyR cy) cy ad ftR ksR (XtR ad) yX12_readSum (.code yX12_readSum cX12_readSum 3 (some .int) :: Om) (rm_gr_ dp) 1 (W_X12_readSum dp ad)) (hg5 : jCN l D vwCl (tyR cy) cy ad ftR ksR (XtR ad) yX12_readProduct (.code yX12_readProduct cX12_readProduct 3 (some .int) :: Om) (rm_gr_ dp) 1 (W_X12_readProduct dp ad)) (hg6 : jCN l D vwCl (tyR cy) cy ad ftR ksR (XtR ad) yX12_readTurned (.code yX12_readTurned cX12_readTurned 2 (some .int) :: Om) (rm_gr_ dp) 1 (W_X12_readTurned dp ad)) (hg7 : jCN l D vwCl (tyR cy) cy ad ftR ksR (XtR ad) yX12_readP (.code yX12_readP cX12_readP 4 (some .int) :: Om) (rm_gr_ dp) 1 (W_X12_readP dp ad)) (hg8 : jCN l D vwCl (tyR cy) cy ad ftR ksR (XtR ad) yX12_readAtom (.code yX12_readAtom cX12_readAtom 5 (some .int) :: Om) (rm_gr_ dp) 1 (W_X12_readAtom dp ad)) (hg9 : jCN l D vwCl (tyR cy) cy ad ftR ksR (XtR ad) yX12_readFold (.code yX12_readFold cX12_readFold 5 (some .int) :: Om) (rm_gr_ dp) 1 (W_X12_readFold dp ad)) (hg10 : jCN l D vwCl (tyR cy) cy ad ftR ksR (XtR ad) yX12_readSet (.code yX12_readSet cX12_readSet 4 (some .int) :: Om) (rm_gr_ dp) 1 (W_X12_readSet dp ad)) (hJ : jOk l D vwCl (tyR cy) cy ad ftR ksR (XtR ad) Om RX12 cX12_readFold 5 1 (rm_gr_ (dp + 1)) Q J)  : ∀ (x1 x2 : Int) (M : MM), ri_ x1 → ri_ x2 → w_X12_readFold_b21  (gr_  dp) Q  x1 x2 M → J 21 [(0, .ref (ad 0)), (1, .int (Ii x1)), (2, .int (Ii x2))] [] M := by
  intro x1 x2 M gx1 gx2 hF
  unfold w_X12_readFold_b21 at hF
  refine j_aload_n hJ dX12_readFold_21 rfl 0 rfl ?_
  refine j_ldc2 hJ 40 om_1445 (by decide) dX12_readFold_22 ?_
  refine j_callVv hJ (c_X12_needSign (l := l) (D := D) (cy := cy) (ad := ad) hin) rfl om_1428 ⟨rfl, rfl, by show _ ≤ _; simp only [rm_gr_]; omega, by show _ ≤ _; simp only [rm_gr_]; omega⟩ [.long (Ll 40)] mv_X12_748 hd_X12_needSignv kR_0 rfl rfl rfl (Nat.le_of_ble_eq_true rfl) dX12_readFold_25 ⟨40, rfl, lk_40, hF⟩ (fun M2 qM2 => ?_)
  have hF := qM2
  refine j_aload_n hJ dX12_readFold_28 rfl 0 rfl ?_
  refine j_gi hJ kR_0 fR_15_83 rfl fl_X12_625 dX12_readFold_29 (fun v3 ev3 gv3 => ?_)
  have hF := hF v3 ev3 gv3
  refine j_if_ne hJ 46 gv3 dX12_readFold_32 (by decide) (fun z4 => ?_) (fun z4 => ?_)
  · have hF := hF.1 z4
    exact j_sub hJ [0, 1, 2] rfl (k_X12_readFold_b46 hin  hg0 hg1 hg2 hg3 hg4 hg5 hg6 hg7 hg8 hg9 hg10 hJ  x1 x2 _ gx1 gx2 hF)
  · have hF := hF.2 z4
    refine j_aload_n hJ dX12_readFold_35 rfl 0 rfl ?_
    refine j_callVz hJ (c_X12_isName (l := l) (D := D) (cy := cy) (ad := ad) hin) rfl om_1401 ⟨rfl, rfl, by show _ ≤ _; simp only [rm_gr_]; omega, by show _ ≤ _; simp only [rm_gr_]; omega⟩ [] mv_X12_710 hd_X12_isNamev kR_0 rfl rfl rfl (Nat.le_of_ble_eq_true rfl) dX12_readFold_36 ⟨rfl, hF⟩ (fun r5 M6 gr5 qM6 => ?_)
    have hF := qM6 gr5
    refine j_if_ne hJ 46 (jz_ri gr5) dX12_readFold_39 (by decide) (fun z7 => ?_) (fun z7 => ?_)
    · have hF := hF.1 z7
      exact j_sub hJ [0, 1, 2] rfl (k_X12_readFold_b46 hin  hg0 hg1 hg2 hg3 hg4 hg5 hg6 hg7 hg8 hg9 hg10 hJ  x1 x2 _ gx1 gx2 hF)
    · have hF := hF.2 z7
      refine j_aload_n hJ dX12_readFold_42 rfl 0 rfl ?_
      refine j_callVv hJ (c_X12_wrong (l := l) (D := D) (cy := cy) (ad := ad) hin) rfl om_1363 ⟨rfl, rfl, by show _ ≤ _; simp only [rm_gr_]; omega, by show _ ≤ _; simp only [rm_gr_]; omega⟩ [] mv_X12_664 hd_X12_wrongv kR_0 rfl rfl rfl (Nat.le_of_ble_eq_true rfl) dX12_readFold_43 ⟨rfl, hF⟩ (fun M9 qM9 => ?_)
      have hF := qM9
      exact j_sub hJ [0, 1, 2] rfl (k_X12_readFold_b46 hin  hg0 hg1 hg2 hg3 hg4 hg5 hg6 hg7 hg8 hg9 hg10 hJ  x1 x2 _ gx1 gx2 hF)
set_option maxHeartbeats 4000000 in
set_option maxRecDepth 100000 in
theorem s_X12_readFold {l : Launch} {D : va_G} {cy : Nat → ClassId} {ad : Nat → Nat} {dp : Nat} (hin : jIn ad ksR.length) (hg0 : jCN l D vwCl (tyR cy) cy ad ftR ksR (XtR ad) yX12_readE (.code yX12_readE cX12_readE 3 (some .int) :: Om) (rm_gr_ dp) 1 (W_X12_readE dp ad)) (hg1 : jCN l D vwCl (tyR cy) cy ad ftR ksR (XtR ad) yX12_readAnd (.code yX12_readAnd cX12_readAnd 3 (some .int) :: Om) (rm_gr_ dp) 1 (W_X12_readAnd dp ad)) (hg2 : jCN l D vwCl (tyR cy) cy ad ftR ksR (XtR ad) yX12_readNot (.code yX12_readNot cX12_readNot 2 (some .int) :: Om) (rm_gr_ dp) 1 (W_X12_readNot dp ad)) (hg3 : jCN l D vwCl (tyR cy) cy ad ftR ksR (XtR ad) yX12_readCompared (.code yX12_readCompared cX12_readCompared 4 (some .int) :: Om) (rm_gr_ dp) 1 (W_X12_readCompared dp ad)) (hg4 : jCN l D vwCl (tyR cy) cy ad ftR ksR (XtR ad) yX12_readSum (.code yX12_readSum cX12_readSum 3 (some .int) :: Om) (rm_gr_ dp) 1 (W_X12_readSum dp ad)) (hg5 : jCN l D vwCl (tyR cy) cy ad ftR ksR (XtR ad) yX12_readProduct (.code yX12_readProduct cX12_readProduct 3 (some .int) :: Om) (rm_gr_ dp) 1 (W_X12_readProduct dp ad)) (hg6 : jCN l D vwCl (tyR cy) cy ad ftR ksR (XtR ad) yX12_readTurned (.code yX12_readTurned cX12_readTurned 2 (some .int) :: Om) (rm_gr_ dp) 1 (W_X12_readTurned dp ad)) (hg7 : jCN l D vwCl (tyR cy) cy ad ftR ksR (XtR ad) yX12_readP (.code yX12_readP cX12_readP 4 (some .int) :: Om) (rm_gr_ dp) 1 (W_X12_readP dp ad)) (hg8 : jCN l D vwCl (tyR cy) cy ad ftR ksR (XtR ad) yX12_readAtom (.code yX12_readAtom cX12_readAtom 5 (some .int) :: Om) (rm_gr_ dp) 1 (W_X12_readAtom dp ad)) (hg9 : jCN l D vwCl (tyR cy) cy ad ftR ksR (XtR ad) yX12_readFold (.code yX12_readFold cX12_readFold 5 (some .int) :: Om) (rm_gr_ dp) 1 (W_X12_readFold dp ad)) (hg10 : jCN l D vwCl (tyR cy) cy ad ftR ksR (XtR ad) yX12_readSet (.code yX12_readSet cX12_readSet 4 (some .int) :: Om) (rm_gr_ dp) 1 (W_X12_readSet dp ad)) : jCN l D vwCl (tyR cy) cy ad ftR ksR (XtR ad) yX12_readFold (.code yX12_readFold cX12_readFold 5 (some .int) :: Om) (rm_gr_ (dp + 1)) 1 (W_X12_readFold (dp + 1) ad) := by
  refine jCN_of (y := yX12_readFold) (cc := cX12_readFold) (nL := 5) (rk := 1) (rm := (rm_gr_ (dp + 1))) (own := RX12) (tyR_ok cy) hin (XtR_ok ad) Om_good (by decide) rfl ?_
  intro Q av M hF
  obtain ⟨p1, rfl, gp1, hF⟩ := hF
  refine ⟨Nat.le_of_ble_eq_true rfl, fun J hJ => ?_⟩
  show J 0 [(0, .ref (ad 0)), (1, .int (Ii p1))] [] M
  have hF : b_X12_readFold  (gr_  dp) Q p1 M := hF
  unfold b_X12_readFold at hF
  refine j_aload_n hJ dX12_readFold_0 rfl 0 rfl ?_
  refine j_iload_n hJ dX12_readFold_1 rfl 1 rfl ?_
  refine j_callVi hJ (c_X12_node (l := l) (D := D) (cy := cy) (ad := ad) hin) rfl om_1375 ⟨rfl, rfl, by show _ ≤ _; simp only [rm_gr_]; omega, by show _ ≤ _; simp only [rm_gr_]; omega⟩ [.int (Ii p1)] mv_X12_683 hd_X12_nodev kR_0 rfl rfl rfl (Nat.le_of_ble_eq_true rfl) dX12_readFold_2 ⟨p1, rfl, gp1, hF⟩ (fun r1 M2 gr1 qM2 => ?_)
  have hF := qM2 gr1
  refine j_istore_n (lv' := [(2, .int (Ii r1)), (0, .ref (ad 0)), (1, .int (Ii p1))]) hJ dX12_readFold_5 rfl (by decide) rfl ?_
  refine j_aload_n hJ dX12_readFold_6 rfl 1 rfl ?_
  refine j_callVv hJ (c_X12_nest (l := l) (D := D) (cy := cy) (ad := ad) hin) rfl om_1436 ⟨rfl, rfl, by show _ ≤ _; simp only [rm_gr_]; omega, by show _ ≤ _; simp only [rm_gr_]; omega⟩ [] mv_X12_740 hd_X12_nestv kR_0 rfl rfl rfl (Nat.le_of_ble_eq_true rfl) dX12_readFold_7 ⟨rfl, hF⟩ (fun M4 qM4 => ?_)
  have hF := qM4
  refine j_aload_n hJ dX12_readFold_10 rfl 1 rfl ?_
  refine j_gi hJ kR_0 fR_15_83 rfl fl_X12_625 dX12_readFold_11 (fun v5 ev5 gv5 => ?_)
  have hF := hF v5 ev5 gv5
  refine j_if_ne hJ 21 gv5 dX12_readFold_14 (by decide) (fun z6 => ?_) (fun z6 => ?_)
  · have hF := hF.1 z6
    exact j_sub hJ [1, 2, 0] rfl (k_X12_readFold_b21 hin  hg0 hg1 hg2 hg3 hg4 hg5 hg6 hg7 hg8 hg9 hg10 hJ  p1 r1 _ gp1 gr1 hF)
  · have hF := hF.2 z6
    refine j_aload_n hJ dX12_readFold_17 rfl 1 rfl ?_
    refine j_callVv hJ (c_X12_advance (l := l) (D := D) (cy := cy) (ad := ad) hin) rfl om_1355 ⟨rfl, rfl, by show _ ≤ _; simp only [rm_gr_]; omega, by show _ ≤ _; simp only [rm_gr_]; omega⟩ [] mv_X12_661 hd_X12_advancev kR_0 rfl rfl rfl (Nat.le_of_ble_eq_true rfl) dX12_readFold_18 ⟨rfl, hF⟩ (fun M8 qM8 => ?_)
    have hF := qM8
    exact j_sub hJ [1, 2, 0] rfl (k_X12_readFold_b21 hin  hg0 hg1 hg2 hg3 hg4 hg5 hg6 hg7 hg8 hg9 hg10 hJ  p1 r1 _ gp1 gr1 hF)
set_option maxHeartbeats 4000000 in
set_option maxRecDepth 100000 in
theorem k_X12_readSet_b112 {l : Launch} {D : va_G} {cy : Nat → ClassId} {ad : Nat → Nat} {dp : Nat} {Q : Int → MM → Prop} {J : Nat → List (Nat × Value) → List Value → MM → Prop} (hin : jIn ad ksR.length)   (hg0 : jCN l D vwCl (tyR cy) cy ad ftR ksR (XtR ad) yX12_readE (.code yX12_readE cX12_readE 3 (some .int) :: Om) (rm_gr_ dp) 1 (W_X12_readE dp ad)) (hg1 : jCN l D vwCl (tyR cy) cy ad ftR ksR (XtR ad) yX12_readAnd (.code yX12_readAnd cX12_readAnd 3 (some .int) :: Om) (rm_gr_ dp) 1 (W_X12_readAnd dp ad)) (hg2 : jCN l D vwCl (tyR cy) cy ad ftR ksR (XtR ad) yX12_readNot (.code yX12_readNot cX12_readNot 2 (some .int) :: Om) (rm_gr_ dp) 1 (W_X12_readNot dp ad)) (hg3 : jCN l D vwCl (tyR cy) cy ad ftR ksR (XtR ad) yX12_readCompared (.code yX12_readCompared cX12_readCompared 4 (some .int) :: Om) (rm_gr_ dp) 1 (W_X12_readCompared dp ad)) (hg4 : jCN l D vwCl (tyR cy) cy ad ftR ksR (XtR ad) yX12_readSum (.code yX12_readSum cX12_readSum 3 (some .int) :: Om) (rm_gr_ dp) 1 (W_X12_readSum dp ad)) (hg5 : jCN l D vwCl (tyR cy) cy ad ftR ksR (XtR ad) yX12_readProduct (.code yX12_readProduct cX12_readProduct 3 (some .int) :: Om) (rm_gr_ dp) 1 (W_X12_readProduct dp ad)) (hg6 : jCN l D vwCl (tyR cy) cy ad ftR ksR (XtR ad) yX12_readTurned (.code yX12_readTurned cX12_readTurned 2 (some .int) :: Om) (rm_gr_ dp) 1 (W_X12_readTurned dp ad)) (hg7 : jCN l D vwCl (tyR cy) cy ad ftR ksR (XtR ad) yX12_readP (.code yX12_readP cX12_readP 4 (some .int) :: Om) (rm_gr_ dp) 1 (W_X12_readP dp ad)) (hg8 : jCN l D vwCl (tyR cy) cy ad ftR ksR (XtR ad) yX12_readAtom (.code yX12_readAtom cX12_readAtom 5 (some .int) :: Om) (rm_gr_ dp) 1 (W_X12_readAtom dp ad)) (hg9 : jCN l D vwCl (tyR cy) cy ad ftR ksR (XtR ad) yX12_readFold (.code yX12_readFold cX12_readFold 5 (some .int) :: Om) (rm_gr_ dp) 1 (W_X12_readFold dp ad)) (hg10 : jCN l D vwCl (tyR cy) cy ad ftR ksR (XtR ad) yX12_readSet (.code yX12_readSet cX12_readSet 4 (some .int) :: Om) (rm_gr_ dp) 1 (W_X12_readSet dp ad)) (hJ : jOk l D vwCl (tyR cy) cy ad ftR ksR (XtR ad) Om RX12 cX12_readSet 4 1 (rm_gr_ (dp + 1)) Q J)  : ∀ (x3 : Int) (M : MM), ri_ x3 → w_X12_readSet_b112  (gr_  dp) Q  x3 M → J 112 [(0, .ref (ad 0)), (3, .int (Ii x3))] [] M := by
  intro x3 M gx3 hF
  unfold w_X12_readSet_b112 at hF
  refine j_aload_n hJ dX12_readSet_112 rfl 0 rfl ?_
  refine j_gr (e := 70) hJ kR_0 fR_15_90 fl_X12_284 dX12_readSet_113 rfl ?_
  refine j_iload_n hJ dX12_readSet_116 rfl 1 rfl ?_
  refine j_aload_n hJ dX12_readSet_117 rfl 0 rfl ?_
  refine j_gl hJ kR_0 fR_15_85 rfl fl_X12_640 dX12_readSet_118 (fun v1 ev1 gv1 => ?_)
  have hF := hF v1 ev1 gv1
  refine j_last hJ gx3 gv1 kR_70 hF.1 hF.2.1 dX12_readSet_121 (fun M2 eM2 => ?_)
  have hF := hF.2.2 M2 eM2
  refine j_aload_n hJ dX12_readSet_122 rfl 0 rfl ?_
  refine j_gi hJ kR_0 fR_15_83 rfl fl_X12_625 dX12_readSet_123 (fun v3 ev3 gv3 => ?_)
  have hF := hF v3 ev3 gv3
  refine j_if_ne hJ 151 gv3 dX12_readSet_126 (by decide) (fun z4 => ?_) (fun z4 => ?_)
  · have hF := hF.1 z4
    refine j_iload_n hJ dX12_readSet_151 rfl 1 rfl ?_
    exact j_iret hJ rfl gx3 dX12_readSet_152 hF
  · have hF := hF.2 z4
    refine j_aload_n hJ dX12_readSet_129 rfl 0 rfl ?_
    refine j_callVv hJ (c_X12_advance (l := l) (D := D) (cy := cy) (ad := ad) hin) rfl om_1355 ⟨rfl, rfl, by show _ ≤ _; simp only [rm_gr_]; omega, by show _ ≤ _; simp only [rm_gr_]; omega⟩ [] mv_X12_661 hd_X12_advancev kR_0 rfl rfl rfl (Nat.le_of_ble_eq_true rfl) dX12_readSet_130 ⟨rfl, hF⟩ (fun M6 qM6 => ?_)
    have hF := qM6
    refine j_goto hJ 151 dX12_readSet_133 (by decide) ?_
    refine j_iload_n hJ dX12_readSet_151 rfl 1 rfl ?_
    exact j_iret hJ rfl gx3 dX12_readSet_152 hF
set_option maxHeartbeats 4000000 in
set_option maxRecDepth 100000 in
theorem k_X12_readSet_b94 {l : Launch} {D : va_G} {cy : Nat → ClassId} {ad : Nat → Nat} {dp : Nat} {Q : Int → MM → Prop} {J : Nat → List (Nat × Value) → List Value → MM → Prop} (hin : jIn ad ksR.length)   (hg0 : jCN l D vwCl (tyR cy) cy ad ftR ksR (XtR ad) yX12_readE (.code yX12_readE cX12_readE 3 (some .int) :: Om) (rm_gr_ dp) 1 (W_X12_readE dp ad)) (hg1 : jCN l D vwCl (tyR cy) cy ad ftR ksR (XtR ad) yX12_readAnd (.code yX12_readAnd cX12_readAnd 3 (some .int) :: Om) (rm_gr_ dp) 1 (W_X12_readAnd dp ad)) (hg2 : jCN l D vwCl (tyR cy) cy ad ftR ksR (XtR ad) yX12_readNot (.code yX12_readNot cX12_readNot 2 (some .int) :: Om) (rm_gr_ dp) 1 (W_X12_readNot dp ad)) (hg3 : jCN l D vwCl (tyR cy) cy ad ftR ksR (XtR ad) yX12_readCompared (.code yX12_readCompared cX12_readCompared 4 (some .int) :: Om) (rm_gr_ dp) 1 (W_X12_readCompared dp ad)) (hg4 : jCN l D vwCl (tyR cy) cy ad ftR ksR (XtR ad) yX12_readSum (.code yX12_readSum cX12_readSum 3 (some .int) :: Om) (rm_gr_ dp) 1 (W_X12_readSum dp ad)) (hg5 : jCN l D vwCl (tyR cy) cy ad ftR ksR (XtR ad) yX12_readProduct (.code yX12_readProduct cX12_readProduct 3 (some .int) :: Om) (rm_gr_ dp) 1 (W_X12_readProduct dp ad)) (hg6 : jCN l D vwCl (tyR cy) cy ad ftR ksR (XtR ad) yX12_readTurned (.code yX12_readTurned cX12_readTurned 2 (some .int) :: Om) (rm_gr_ dp) 1 (W_X12_readTurned dp ad)) (hg7 : jCN l D vwCl (tyR cy) cy ad ftR ksR (XtR ad) yX12_readP (.code yX12_readP cX12_readP 4 (some .int) :: Om) (rm_gr_ dp) 1 (W_X12_readP dp ad)) (hg8 : jCN l D vwCl (tyR cy) cy ad ftR ksR (XtR ad) yX12_readAtom (.code yX12_readAtom cX12_readAtom 5 (some .int) :: Om) (rm_gr_ dp) 1 (W_X12_readAtom dp ad)) (hg9 : jCN l D vwCl (tyR cy) cy ad ftR ksR (XtR ad) yX12_readFold (.code yX12_readFold cX12_readFold 5 (some .int) :: Om) (rm_gr_ dp) 1 (W_X12_readFold dp ad)) (hg10 : jCN l D vwCl (tyR cy) cy ad ftR ksR (XtR ad) yX12_readSet (.code yX12_readSet cX12_readSet 4 (some .int) :: Om) (rm_gr_ dp) 1 (W_X12_readSet dp ad)) (hJ : jOk l D vwCl (tyR cy) cy ad ftR ksR (XtR ad) Om RX12 cX12_readSet 4 1 (rm_gr_ (dp + 1)) Q J)  : ∀ (x3 : Int) (M : MM), ri_ x3 → w_X12_readSet_b94  (gr_  dp) Q  x3 M → J 94 [(0, .ref (ad 0)), (3, .int (Ii x3))] [] M := by
  intro x3 M gx3 hF
  unfold w_X12_readSet_b94 at hF
  refine j_aload_n hJ dX12_readSet_94 rfl 0 rfl ?_
  refine j_gi hJ kR_0 fR_15_83 rfl fl_X12_625 dX12_readSet_95 (fun v1 ev1 gv1 => ?_)
  have hF := hF v1 ev1 gv1
  refine j_if_ne hJ 112 gv1 dX12_readSet_98 (by decide) (fun z2 => ?_) (fun z2 => ?_)
  · have hF := hF.1 z2
    exact j_sub hJ [0, 1] rfl (k_X12_readSet_b112 hin  hg0 hg1 hg2 hg3 hg4 hg5 hg6 hg7 hg8 hg9 hg10 hJ  x3 _ gx3 hF)
  · have hF := hF.2 z2
    refine j_aload_n hJ dX12_readSet_101 rfl 0 rfl ?_
    refine j_callVz hJ (c_X12_isName (l := l) (D := D) (cy := cy) (ad := ad) hin) rfl om_1401 ⟨rfl, rfl, by show _ ≤ _; simp only [rm_gr_]; omega, by show _ ≤ _; simp only [rm_gr_]; omega⟩ [] mv_X12_710 hd_X12_isNamev kR_0 rfl rfl rfl (Nat.le_of_ble_eq_true rfl) dX12_readSet_102 ⟨rfl, hF⟩ (fun r3 M4 gr3 qM4 => ?_)
    have hF := qM4 gr3
    refine j_if_ne hJ 112 (jz_ri gr3) dX12_readSet_105 (by decide) (fun z5 => ?_) (fun z5 => ?_)
    · have hF := hF.1 z5
      exact j_sub hJ [0, 1] rfl (k_X12_readSet_b112 hin  hg0 hg1 hg2 hg3 hg4 hg5 hg6 hg7 hg8 hg9 hg10 hJ  x3 _ gx3 hF)
    · have hF := hF.2 z5
      refine j_aload_n hJ dX12_readSet_108 rfl 0 rfl ?_
      refine j_callVv hJ (c_X12_wrong (l := l) (D := D) (cy := cy) (ad := ad) hin) rfl om_1363 ⟨rfl, rfl, by show _ ≤ _; simp only [rm_gr_]; omega, by show _ ≤ _; simp only [rm_gr_]; omega⟩ [] mv_X12_664 hd_X12_wrongv kR_0 rfl rfl rfl (Nat.le_of_ble_eq_true rfl) dX12_readSet_109 ⟨rfl, hF⟩ (fun M7 qM7 => ?_)
      have hF := qM7
      exact j_sub hJ [0, 1] rfl (k_X12_readSet_b112 hin  hg0 hg1 hg2 hg3 hg4 hg5 hg6 hg7 hg8 hg9 hg10 hJ  x3 _ gx3 hF)
set_option maxHeartbeats 4000000 in
set_option maxRecDepth 100000 in
theorem k_X12_readSet_b85 {l : Launch} {D : va_G} {cy : Nat → ClassId} {ad : Nat → Nat} {dp : Nat} {Q : Int → MM → Prop} {J : Nat → List (Nat × Value) → List Value → MM → Prop} (hin : jIn ad ksR.length)   (hg0 : jCN l D vwCl (tyR cy) cy ad ftR ksR (XtR ad) yX12_readE (.code yX12_readE cX12_readE 3 (some .int) :: Om) (rm_gr_ dp) 1 (W_X12_readE dp ad)) (hg1 : jCN l D vwCl (tyR cy) cy ad ftR ksR (XtR ad) yX12_readAnd (.code yX12_readAnd cX12_readAnd 3 (some .int) :: Om) (rm_gr_ dp) 1 (W_X12_readAnd dp ad)) (hg2 : jCN l D vwCl (tyR cy) cy ad ftR ksR (XtR ad) yX12_readNot (.code yX12_readNot cX12_readNot 2 (some .int) :: Om) (rm_gr_ dp) 1 (W_X12_readNot dp ad)) (hg3 : jCN l D vwCl (tyR cy) cy ad ftR ksR (XtR ad) yX12_readCompared (.code yX12_readCompared cX12_readCompared 4 (some .int) :: Om) (rm_gr_ dp) 1 (W_X12_readCompared dp ad)) (hg4 : jCN l D vwCl (tyR cy) cy ad ftR ksR (XtR ad) yX12_readSum (.code yX12_readSum cX12_readSum 3 (some .int) :: Om) (rm_gr_ dp) 1 (W_X12_readSum dp ad)) (hg5 : jCN l D vwCl (tyR cy) cy ad ftR ksR (XtR ad) yX12_readProduct (.code yX12_readProduct cX12_readProduct 3 (some .int) :: Om) (rm_gr_ dp) 1 (W_X12_readProduct dp ad)) (hg6 : jCN l D vwCl (tyR cy) cy ad ftR ksR (XtR ad) yX12_readTurned (.code yX12_readTurned cX12_readTurned 2 (some .int) :: Om) (rm_gr_ dp) 1 (W_X12_readTurned dp ad)) (hg7 : jCN l D vwCl (tyR cy) cy ad ftR ksR (XtR ad) yX12_readP (.code yX12_readP cX12_readP 4 (some .int) :: Om) (rm_gr_ dp) 1 (W_X12_readP dp ad)) (hg8 : jCN l D vwCl (tyR cy) cy ad ftR ksR (XtR ad) yX12_readAtom (.code yX12_readAtom cX12_readAtom 5 (some .int) :: Om) (rm_gr_ dp) 1 (W_X12_readAtom dp ad)) (hg9 : jCN l D vwCl (tyR cy) cy ad ftR ksR (XtR ad) yX12_readFold (.code yX12_readFold cX12_readFold 5 (some .int) :: Om) (rm_gr_ dp) 1 (W_X12_readFold dp ad)) (hg10 : jCN l D vwCl (tyR cy) cy ad ftR ksR (XtR ad) yX12_readSet (.code yX12_readSet cX12_readSet 4 (some .int) :: Om) (rm_gr_ dp) 1 (W_X12_readSet dp ad)) (hJ : jOk l D vwCl (tyR cy) cy ad ftR ksR (XtR ad) Om RX12 cX12_readSet 4 1 (rm_gr_ (dp + 1)) Q J)  : ∀ (x1 x3 : Int) (M : MM), ri_ x1 → ri_ x3 → w_X12_readSet_b85  (gr_  dp) Q  x1 x3 M → J 85 [(0, .ref (ad 0)), (1, .int (Ii x1)), (3, .int (Ii x3))] [] M := by
  intro x1 x3 M gx1 gx3 hF
  unfold w_X12_readSet_b85 at hF
  refine j_iload_n hJ dX12_readSet_85 rfl 1 rfl ?_
  refine j_if_eq hJ 94 gx1 dX12_readSet_86 (by decide) (fun z1 => ?_) (fun z1 => ?_)
  · have hF := hF.1 z1
    exact j_sub hJ [0, 2] rfl (k_X12_readSet_b94 hin  hg0 hg1 hg2 hg3 hg4 hg5 hg6 hg7 hg8 hg9 hg10 hJ  x3 _ gx3 hF)
  · have hF := hF.2 z1
    refine j_iload_n hJ dX12_readSet_89 rfl 1 rfl ?_
    refine j_iconst hJ dX12_readSet_90 ?_
    refine j_icmp_ne hJ 136 gx1 rk_1 dX12_readSet_91 (by decide) (fun z2 => ?_) (fun z2 => ?_)
    · have hF := hF.1 z2
      refine j_iload_n hJ dX12_readSet_136 rfl 1 rfl ?_
      refine j_iconst hJ dX12_readSet_137 ?_
      refine j_icmp_eq hJ 151 gx1 rk_2 dX12_readSet_138 (by decide) (fun z3 => ?_) (fun z3 => ?_)
      · have hF := hF.1 z3
        refine j_iload_n hJ dX12_readSet_151 rfl 2 rfl ?_
        exact j_iret hJ rfl gx3 dX12_readSet_152 hF
      · have hF := hF.2 z3
        refine j_aload_n hJ dX12_readSet_141 rfl 0 rfl ?_
        refine j_gr (e := 67) hJ kR_0 fR_15_87 fl_X12_275 dX12_readSet_142 rfl ?_
        refine j_iload_n hJ dX12_readSet_145 rfl 2 rfl ?_
        refine j_aload_n hJ dX12_readSet_146 rfl 0 rfl ?_
        refine j_callVi hJ hg7 rfl om_1418 ⟨rfl, rfl, by show _ ≤ _; simp only [rm_gr_]; omega, by show _ ≤ _; simp only [rm_gr_]; omega⟩ [] mv_X12_730 hd_X12_readPv kR_0 rfl rfl rfl (Nat.le_of_ble_eq_true rfl) dX12_readSet_147 ⟨rfl, hF⟩ (fun r4 M5 gr4 qM5 => ?_)
        have hF := qM5 gr4
        refine j_iast hJ gx3 gr4 kR_67 hF.1 hF.2.1 dX12_readSet_150 (fun M6 eM6 => ?_)
        have hF := hF.2.2 M6 eM6
        refine j_iload_n hJ dX12_readSet_151 rfl 2 rfl ?_
        exact j_iret hJ rfl gx3 dX12_readSet_152 hF
    · have hF := hF.2 z2
      exact j_sub hJ [0, 2] rfl (k_X12_readSet_b94 hin  hg0 hg1 hg2 hg3 hg4 hg5 hg6 hg7 hg8 hg9 hg10 hJ  x3 _ gx3 hF)
set_option maxHeartbeats 4000000 in
set_option maxRecDepth 100000 in
theorem k_X12_readSet_b54 {l : Launch} {D : va_G} {cy : Nat → ClassId} {ad : Nat → Nat} {dp : Nat} {Q : Int → MM → Prop} {J : Nat → List (Nat × Value) → List Value → MM → Prop} (hin : jIn ad ksR.length)   (hg0 : jCN l D vwCl (tyR cy) cy ad ftR ksR (XtR ad) yX12_readE (.code yX12_readE cX12_readE 3 (some .int) :: Om) (rm_gr_ dp) 1 (W_X12_readE dp ad)) (hg1 : jCN l D vwCl (tyR cy) cy ad ftR ksR (XtR ad) yX12_readAnd (.code yX12_readAnd cX12_readAnd 3 (some .int) :: Om) (rm_gr_ dp) 1 (W_X12_readAnd dp ad)) (hg2 : jCN l D vwCl (tyR cy) cy ad ftR ksR (XtR ad) yX12_readNot (.code yX12_readNot cX12_readNot 2 (some .int) :: Om) (rm_gr_ dp) 1 (W_X12_readNot dp ad)) (hg3 : jCN l D vwCl (tyR cy) cy ad ftR ksR (XtR ad) yX12_readCompared (.code yX12_readCompared cX12_readCompared 4 (some .int) :: Om) (rm_gr_ dp) 1 (W_X12_readCompared dp ad)) (hg4 : jCN l D vwCl (tyR cy) cy ad ftR ksR (XtR ad) yX12_readSum (.code yX12_readSum cX12_readSum 3 (some .int) :: Om) (rm_gr_ dp) 1 (W_X12_readSum dp ad)) (hg5 : jCN l D vwCl (tyR cy) cy ad ftR ksR (XtR ad) yX12_readProduct (.code yX12_readProduct cX12_readProduct 3 (some .int) :: Om) (rm_gr_ dp) 1 (W_X12_readProduct dp ad)) (hg6 : jCN l D vwCl (tyR cy) cy ad ftR ksR (XtR ad) yX12_readTurned (.code yX12_readTurned cX12_readTurned 2 (some .int) :: Om) (rm_gr_ dp) 1 (W_X12_readTurned dp ad)) (hg7 : jCN l D vwCl (tyR cy) cy ad ftR ksR (XtR ad) yX12_readP (.code yX12_readP cX12_readP 4 (some .int) :: Om) (rm_gr_ dp) 1 (W_X12_readP dp ad)) (hg8 : jCN l D vwCl (tyR cy) cy ad ftR ksR (XtR ad) yX12_readAtom (.code yX12_readAtom cX12_readAtom 5 (some .int) :: Om) (rm_gr_ dp) 1 (W_X12_readAtom dp ad)) (hg9 : jCN l D vwCl (tyR cy) cy ad ftR ksR (XtR ad) yX12_readFold (.code yX12_readFold cX12_readFold 5 (some .int) :: Om) (rm_gr_ dp) 1 (W_X12_readFold dp ad)) (hg10 : jCN l D vwCl (tyR cy) cy ad ftR ksR (XtR ad) yX12_readSet (.code yX12_readSet cX12_readSet 4 (some .int) :: Om) (rm_gr_ dp) 1 (W_X12_readSet dp ad)) (hJ : jOk l D vwCl (tyR cy) cy ad ftR ksR (XtR ad) Om RX12 cX12_readSet 4 1 (rm_gr_ (dp + 1)) Q J)  : ∀ (x1 s0 : Int) (M : MM), ri_ x1 → ri_ s0 → w_X12_readSet_b54  (gr_  dp) Q  x1 s0 M → J 54 [(0, .ref (ad 0)), (1, .int (Ii x1))] [.int (Ii s0)] M := by
  intro x1 s0 M gx1 gs0 hF
  unfold w_X12_readSet_b54 at hF
  refine j_istore_n (lv' := [(2, .int (Ii s0)), (0, .ref (ad 0)), (1, .int (Ii x1))]) hJ dX12_readSet_54 rfl (by decide) rfl ?_
  refine j_iload_n hJ dX12_readSet_55 rfl 0 rfl ?_
  refine j_if_ne hJ 68 gs0 dX12_readSet_56 (by decide) (fun z1 => ?_) (fun z1 => ?_)
  · have hF := hF.1 z1
    refine j_aload_n hJ dX12_readSet_68 rfl 1 rfl ?_
    refine j_iload_n hJ dX12_readSet_69 rfl 2 rfl ?_
    refine j_callVi hJ (c_X12_node (l := l) (D := D) (cy := cy) (ad := ad) hin) rfl om_1375 ⟨rfl, rfl, by show _ ≤ _; simp only [rm_gr_]; omega, by show _ ≤ _; simp only [rm_gr_]; omega⟩ [.int (Ii x1)] mv_X12_683 hd_X12_nodev kR_0 rfl rfl rfl (Nat.le_of_ble_eq_true rfl) dX12_readSet_70 ⟨x1, rfl, gx1, hF⟩ (fun r2 M3 gr2 qM3 => ?_)
    have hF := qM3 gr2
    refine j_istore_n (lv' := [(3, .int (Ii r2)), (2, .int (Ii s0)), (0, .ref (ad 0)), (1, .int (Ii x1))]) hJ dX12_readSet_73 rfl (by decide) rfl ?_
    refine j_aload_n hJ dX12_readSet_74 rfl 2 rfl ?_
    refine j_gi hJ kR_0 fR_15_83 rfl fl_X12_625 dX12_readSet_75 (fun v4 ev4 gv4 => ?_)
    have hF := hF v4 ev4 gv4
    refine j_if_ne hJ 85 gv4 dX12_readSet_78 (by decide) (fun z5 => ?_) (fun z5 => ?_)
    · have hF := hF.1 z5
      exact j_sub hJ [2, 3, 0] rfl (k_X12_readSet_b85 hin  hg0 hg1 hg2 hg3 hg4 hg5 hg6 hg7 hg8 hg9 hg10 hJ  x1 r2 _ gx1 gr2 hF)
    · have hF := hF.2 z5
      refine j_aload_n hJ dX12_readSet_81 rfl 2 rfl ?_
      refine j_callVv hJ (c_X12_advance (l := l) (D := D) (cy := cy) (ad := ad) hin) rfl om_1355 ⟨rfl, rfl, by show _ ≤ _; simp only [rm_gr_]; omega, by show _ ≤ _; simp only [rm_gr_]; omega⟩ [] mv_X12_661 hd_X12_advancev kR_0 rfl rfl rfl (Nat.le_of_ble_eq_true rfl) dX12_readSet_82 ⟨rfl, hF⟩ (fun M7 qM7 => ?_)
      have hF := qM7
      exact j_sub hJ [2, 3, 0] rfl (k_X12_readSet_b85 hin  hg0 hg1 hg2 hg3 hg4 hg5 hg6 hg7 hg8 hg9 hg10 hJ  x1 r2 _ gx1 gr2 hF)
  · have hF := hF.2 z1
    refine j_aload_n hJ dX12_readSet_59 rfl 1 rfl ?_
    refine j_callVv hJ (c_X12_wrong (l := l) (D := D) (cy := cy) (ad := ad) hin) rfl om_1363 ⟨rfl, rfl, by show _ ≤ _; simp only [rm_gr_]; omega, by show _ ≤ _; simp only [rm_gr_]; omega⟩ [] mv_X12_664 hd_X12_wrongv kR_0 rfl rfl rfl (Nat.le_of_ble_eq_true rfl) dX12_readSet_60 ⟨rfl, hF⟩ (fun M9 qM9 => ?_)
    have hF := qM9
    refine j_aload_n hJ dX12_readSet_63 rfl 1 rfl ?_
    refine j_gi hJ kR_0 fR_15_91 rfl fl_X12_673 dX12_readSet_64 (fun v10 ev10 gv10 => ?_)
    have hF := hF v10 ev10 gv10
    exact j_iret hJ rfl gv10 dX12_readSet_67 hF
set_option maxHeartbeats 4000000 in
set_option maxRecDepth 100000 in
theorem k_X12_readSet_b49 {l : Launch} {D : va_G} {cy : Nat → ClassId} {ad : Nat → Nat} {dp : Nat} {Q : Int → MM → Prop} {J : Nat → List (Nat × Value) → List Value → MM → Prop} (hin : jIn ad ksR.length)   (hg0 : jCN l D vwCl (tyR cy) cy ad ftR ksR (XtR ad) yX12_readE (.code yX12_readE cX12_readE 3 (some .int) :: Om) (rm_gr_ dp) 1 (W_X12_readE dp ad)) (hg1 : jCN l D vwCl (tyR cy) cy ad ftR ksR (XtR ad) yX12_readAnd (.code yX12_readAnd cX12_readAnd 3 (some .int) :: Om) (rm_gr_ dp) 1 (W_X12_readAnd dp ad)) (hg2 : jCN l D vwCl (tyR cy) cy ad ftR ksR (XtR ad) yX12_readNot (.code yX12_readNot cX12_readNot 2 (some .int) :: Om) (rm_gr_ dp) 1 (W_X12_readNot dp ad)) (hg3 : jCN l D vwCl (tyR cy) cy ad ftR ksR (XtR ad) yX12_readCompared (.code yX12_readCompared cX12_readCompared 4 (some .int) :: Om) (rm_gr_ dp) 1 (W_X12_readCompared dp ad)) (hg4 : jCN l D vwCl (tyR cy) cy ad ftR ksR (XtR ad) yX12_readSum (.code yX12_readSum cX12_readSum 3 (some .int) :: Om) (rm_gr_ dp) 1 (W_X12_readSum dp ad)) (hg5 : jCN l D vwCl (tyR cy) cy ad ftR ksR (XtR ad) yX12_readProduct (.code yX12_readProduct cX12_readProduct 3 (some .int) :: Om) (rm_gr_ dp) 1 (W_X12_readProduct dp ad)) (hg6 : jCN l D vwCl (tyR cy) cy ad ftR ksR (XtR ad) yX12_readTurned (.code yX12_readTurned cX12_readTurned 2 (some .int) :: Om) (rm_gr_ dp) 1 (W_X12_readTurned dp ad)) (hg7 : jCN l D vwCl (tyR cy) cy ad ftR ksR (XtR ad) yX12_readP (.code yX12_readP cX12_readP 4 (some .int) :: Om) (rm_gr_ dp) 1 (W_X12_readP dp ad)) (hg8 : jCN l D vwCl (tyR cy) cy ad ftR ksR (XtR ad) yX12_readAtom (.code yX12_readAtom cX12_readAtom 5 (some .int) :: Om) (rm_gr_ dp) 1 (W_X12_readAtom dp ad)) (hg9 : jCN l D vwCl (tyR cy) cy ad ftR ksR (XtR ad) yX12_readFold (.code yX12_readFold cX12_readFold 5 (some .int) :: Om) (rm_gr_ dp) 1 (W_X12_readFold dp ad)) (hg10 : jCN l D vwCl (tyR cy) cy ad ftR ksR (XtR ad) yX12_readSet (.code yX12_readSet cX12_readSet 4 (some .int) :: Om) (rm_gr_ dp) 1 (W_X12_readSet dp ad)) (hJ : jOk l D vwCl (tyR cy) cy ad ftR ksR (XtR ad) Om RX12 cX12_readSet 4 1 (rm_gr_ (dp + 1)) Q J)  : ∀ (x1 : Int) (M : MM), ri_ x1 → w_X12_readSet_b49  (gr_  dp) Q  x1 M → J 49 [(0, .ref (ad 0)), (1, .int (Ii x1))] [] M := by
  intro x1 M gx1 hF
  unfold w_X12_readSet_b49 at hF
  refine j_iconst hJ dX12_readSet_49 ?_
  refine j_goto hJ 54 dX12_readSet_50 (by decide) ?_
  exact j_sub hJ [0, 1] rfl (k_X12_readSet_b54 hin  hg0 hg1 hg2 hg3 hg4 hg5 hg6 hg7 hg8 hg9 hg10 hJ  x1 1 _ gx1 rk_1 hF)
set_option maxHeartbeats 4000000 in
set_option maxRecDepth 100000 in
theorem s_X12_readSet {l : Launch} {D : va_G} {cy : Nat → ClassId} {ad : Nat → Nat} {dp : Nat} (hin : jIn ad ksR.length) (hg0 : jCN l D vwCl (tyR cy) cy ad ftR ksR (XtR ad) yX12_readE (.code yX12_readE cX12_readE 3 (some .int) :: Om) (rm_gr_ dp) 1 (W_X12_readE dp ad)) (hg1 : jCN l D vwCl (tyR cy) cy ad ftR ksR (XtR ad) yX12_readAnd (.code yX12_readAnd cX12_readAnd 3 (some .int) :: Om) (rm_gr_ dp) 1 (W_X12_readAnd dp ad)) (hg2 : jCN l D vwCl (tyR cy) cy ad ftR ksR (XtR ad) yX12_readNot (.code yX12_readNot cX12_readNot 2 (some .int) :: Om) (rm_gr_ dp) 1 (W_X12_readNot dp ad)) (hg3 : jCN l D vwCl (tyR cy) cy ad ftR ksR (XtR ad) yX12_readCompared (.code yX12_readCompared cX12_readCompared 4 (some .int) :: Om) (rm_gr_ dp) 1 (W_X12_readCompared dp ad)) (hg4 : jCN l D vwCl (tyR cy) cy ad ftR ksR (XtR ad) yX12_readSum (.code yX12_readSum cX12_readSum 3 (some .int) :: Om) (rm_gr_ dp) 1 (W_X12_readSum dp ad)) (hg5 : jCN l D vwCl (tyR cy) cy ad ftR ksR (XtR ad) yX12_readProduct (.code yX12_readProduct cX12_readProduct 3 (some .int) :: Om) (rm_gr_ dp) 1 (W_X12_readProduct dp ad)) (hg6 : jCN l D vwCl (tyR cy) cy ad ftR ksR (XtR ad) yX12_readTurned (.code yX12_readTurned cX12_readTurned 2 (some .int) :: Om) (rm_gr_ dp) 1 (W_X12_readTurned dp ad)) (hg7 : jCN l D vwCl (tyR cy) cy ad ftR ksR (XtR ad) yX12_readP (.code yX12_readP cX12_readP 4 (some .int) :: Om) (rm_gr_ dp) 1 (W_X12_readP dp ad)) (hg8 : jCN l D vwCl (tyR cy) cy ad ftR ksR (XtR ad) yX12_readAtom (.code yX12_readAtom cX12_readAtom 5 (some .int) :: Om) (rm_gr_ dp) 1 (W_X12_readAtom dp ad)) (hg9 : jCN l D vwCl (tyR cy) cy ad ftR ksR (XtR ad) yX12_readFold (.code yX12_readFold cX12_readFold 5 (some .int) :: Om) (rm_gr_ dp) 1 (W_X12_readFold dp ad)) (hg10 : jCN l D vwCl (tyR cy) cy ad ftR ksR (XtR ad) yX12_readSet (.code yX12_readSet cX12_readSet 4 (some .int) :: Om) (rm_gr_ dp) 1 (W_X12_readSet dp ad)) : jCN l D vwCl (tyR cy) cy ad ftR ksR (XtR ad) yX12_readSet (.code yX12_readSet cX12_readSet 4 (some .int) :: Om) (rm_gr_ (dp + 1)) 1 (W_X12_readSet (dp + 1) ad) := by
  refine jCN_of (y := yX12_readSet) (cc := cX12_readSet) (nL := 4) (rk := 1) (rm := (rm_gr_ (dp + 1))) (own := RX12) (tyR_ok cy) hin (XtR_ok ad) Om_good (by decide) rfl ?_
  intro Q av M hF
  obtain ⟨rfl, hF⟩ := hF
  refine ⟨Nat.le_of_ble_eq_true rfl, fun J hJ => ?_⟩
  show J 0 [(0, .ref (ad 0))] [] M
  have hF : b_X12_readSet  (gr_  dp) Q  M := hF
  unfold b_X12_readSet at hF
  refine j_aload_n hJ dX12_readSet_0 rfl 0 rfl ?_
  refine j_gi hJ kR_0 fR_15_83 rfl fl_X12_625 dX12_readSet_1 (fun v1 ev1 gv1 => ?_)
  have hF := hF v1 ev1 gv1
  refine j_if_le hJ 12 gv1 dX12_readSet_4 (by decide) (fun z2 => ?_) (fun z2 => ?_)
  · have hF := hF.1 z2
    refine j_aload_n hJ dX12_readSet_12 rfl 0 rfl ?_
    refine j_callVi hJ (c_X12_keyAtHand (l := l) (D := D) (cy := cy) (ad := ad) hin) rfl om_1441 ⟨rfl, rfl, by show _ ≤ _; simp only [rm_gr_]; omega, by show _ ≤ _; simp only [rm_gr_]; omega⟩ [] mv_X12_751 hd_X12_keyAtHandv kR_0 rfl rfl rfl (Nat.le_of_ble_eq_true rfl) dX12_readSet_13 ⟨rfl, hF⟩ (fun r3 M4 gr3 qM4 => ?_)
    have hF := qM4 gr3
    refine j_istore_n (lv' := [(1, .int (Ii r3)), (0, .ref (ad 0))]) hJ dX12_readSet_16 rfl (by decide) rfl ?_
    refine j_iload_n hJ dX12_readSet_17 rfl 0 rfl ?_
    refine j_if_eq hJ 49 gr3 dX12_readSet_18 (by decide) (fun z5 => ?_) (fun z5 => ?_)
    · have hF := hF.1 z5
      exact j_sub hJ [1, 0] rfl (k_X12_readSet_b49 hin  hg0 hg1 hg2 hg3 hg4 hg5 hg6 hg7 hg8 hg9 hg10 hJ  r3 _ gr3 hF)
    · have hF := hF.2 z5
      refine j_iload_n hJ dX12_readSet_21 rfl 0 rfl ?_
      refine j_iconst hJ dX12_readSet_22 ?_
      refine j_icmp_eq hJ 49 gr3 rk_1 dX12_readSet_23 (by decide) (fun z6 => ?_) (fun z6 => ?_)
      · have hF := hF.1 z6
        exact j_sub hJ [1, 0] rfl (k_X12_readSet_b49 hin  hg0 hg1 hg2 hg3 hg4 hg5 hg6 hg7 hg8 hg9 hg10 hJ  r3 _ gr3 hF)
      · have hF := hF.2 z6
        refine j_iload_n hJ dX12_readSet_26 rfl 0 rfl ?_
        refine j_iconst hJ dX12_readSet_27 ?_
        refine j_icmp_eq hJ 49 gr3 rk_2 dX12_readSet_28 (by decide) (fun z7 => ?_) (fun z7 => ?_)
        · have hF := hF.1 z7
          exact j_sub hJ [1, 0] rfl (k_X12_readSet_b49 hin  hg0 hg1 hg2 hg3 hg4 hg5 hg6 hg7 hg8 hg9 hg10 hJ  r3 _ gr3 hF)
        · have hF := hF.2 z7
          refine j_iload_n hJ dX12_readSet_31 rfl 0 rfl ?_
          refine j_bipush hJ dX12_readSet_32 (by decide) ?_
          refine j_icmp_eq hJ 49 gr3 rk_24 dX12_readSet_34 (by decide) (fun z8 => ?_) (fun z8 => ?_)
          · have hF := hF.1 z8
            exact j_sub hJ [1, 0] rfl (k_X12_readSet_b49 hin  hg0 hg1 hg2 hg3 hg4 hg5 hg6 hg7 hg8 hg9 hg10 hJ  r3 _ gr3 hF)
          · have hF := hF.2 z8
            refine j_iload_n hJ dX12_readSet_37 rfl 0 rfl ?_
            refine j_bipush hJ dX12_readSet_38 (by decide) ?_
            refine j_icmp_eq hJ 49 gr3 rk_25 dX12_readSet_40 (by decide) (fun z9 => ?_) (fun z9 => ?_)
            · have hF := hF.1 z9
              exact j_sub hJ [1, 0] rfl (k_X12_readSet_b49 hin  hg0 hg1 hg2 hg3 hg4 hg5 hg6 hg7 hg8 hg9 hg10 hJ  r3 _ gr3 hF)
            · have hF := hF.2 z9
              refine j_iload_n hJ dX12_readSet_43 rfl 0 rfl ?_
              refine j_bipush hJ dX12_readSet_44 (by decide) ?_
              refine j_icmp_ne hJ 53 gr3 rk_26 dX12_readSet_46 (by decide) (fun z10 => ?_) (fun z10 => ?_)
              · have hF := hF.1 z10
                refine j_iconst hJ dX12_readSet_53 ?_
                exact j_sub hJ [1, 0] rfl (k_X12_readSet_b54 hin  hg0 hg1 hg2 hg3 hg4 hg5 hg6 hg7 hg8 hg9 hg10 hJ  r3 0 _ gr3 rk_0 hF)
              · have hF := hF.2 z10
                exact j_sub hJ [1, 0] rfl (k_X12_readSet_b49 hin  hg0 hg1 hg2 hg3 hg4 hg5 hg6 hg7 hg8 hg9 hg10 hJ  r3 _ gr3 hF)
  · have hF := hF.2 z2
    refine j_aload_n hJ dX12_readSet_7 rfl 0 rfl ?_
    refine j_gi hJ kR_0 fR_15_91 rfl fl_X12_673 dX12_readSet_8 (fun v11 ev11 gv11 => ?_)
    have hF := hF v11 ev11 gv11
    exact j_iret hJ rfl gv11 dX12_readSet_11 hF
set_option maxHeartbeats 4000000 in
theorem a_gr_ {l : Launch} {D : va_G} {cy : Nat → ClassId} {ad : Nat → Nat} (hin : jIn ad ksR.length) (dp : Nat) : jCN l D vwCl (tyR cy) cy ad ftR ksR (XtR ad) yX12_readE (.code yX12_readE cX12_readE 3 (some .int) :: Om) (rm_gr_ dp) 1 (W_X12_readE dp ad) ∧ jCN l D vwCl (tyR cy) cy ad ftR ksR (XtR ad) yX12_readAnd (.code yX12_readAnd cX12_readAnd 3 (some .int) :: Om) (rm_gr_ dp) 1 (W_X12_readAnd dp ad) ∧ jCN l D vwCl (tyR cy) cy ad ftR ksR (XtR ad) yX12_readNot (.code yX12_readNot cX12_readNot 2 (some .int) :: Om) (rm_gr_ dp) 1 (W_X12_readNot dp ad) ∧ jCN l D vwCl (tyR cy) cy ad ftR ksR (XtR ad) yX12_readCompared (.code yX12_readCompared cX12_readCompared 4 (some .int) :: Om) (rm_gr_ dp) 1 (W_X12_readCompared dp ad) ∧ jCN l D vwCl (tyR cy) cy ad ftR ksR (XtR ad) yX12_readSum (.code yX12_readSum cX12_readSum 3 (some .int) :: Om) (rm_gr_ dp) 1 (W_X12_readSum dp ad) ∧ jCN l D vwCl (tyR cy) cy ad ftR ksR (XtR ad) yX12_readProduct (.code yX12_readProduct cX12_readProduct 3 (some .int) :: Om) (rm_gr_ dp) 1 (W_X12_readProduct dp ad) ∧ jCN l D vwCl (tyR cy) cy ad ftR ksR (XtR ad) yX12_readTurned (.code yX12_readTurned cX12_readTurned 2 (some .int) :: Om) (rm_gr_ dp) 1 (W_X12_readTurned dp ad) ∧ jCN l D vwCl (tyR cy) cy ad ftR ksR (XtR ad) yX12_readP (.code yX12_readP cX12_readP 4 (some .int) :: Om) (rm_gr_ dp) 1 (W_X12_readP dp ad) ∧ jCN l D vwCl (tyR cy) cy ad ftR ksR (XtR ad) yX12_readAtom (.code yX12_readAtom cX12_readAtom 5 (some .int) :: Om) (rm_gr_ dp) 1 (W_X12_readAtom dp ad) ∧ jCN l D vwCl (tyR cy) cy ad ftR ksR (XtR ad) yX12_readFold (.code yX12_readFold cX12_readFold 5 (some .int) :: Om) (rm_gr_ dp) 1 (W_X12_readFold dp ad) ∧ jCN l D vwCl (tyR cy) cy ad ftR ksR (XtR ad) yX12_readSet (.code yX12_readSet cX12_readSet 4 (some .int) :: Om) (rm_gr_ dp) 1 (W_X12_readSet dp ad) := by
  induction dp with
  | zero =>
    exact ⟨(fun post av M sz hR hF => by obtain ⟨rfl, hF⟩ := hF; exact False.elim hF), (fun post av M sz hR hF => by obtain ⟨rfl, hF⟩ := hF; exact False.elim hF), (fun post av M sz hR hF => by obtain ⟨rfl, hF⟩ := hF; exact False.elim hF), (fun post av M sz hR hF => by obtain ⟨rfl, hF⟩ := hF; exact False.elim hF), (fun post av M sz hR hF => by obtain ⟨rfl, hF⟩ := hF; exact False.elim hF), (fun post av M sz hR hF => by obtain ⟨rfl, hF⟩ := hF; exact False.elim hF), (fun post av M sz hR hF => by obtain ⟨rfl, hF⟩ := hF; exact False.elim hF), (fun post av M sz hR hF => by obtain ⟨rfl, hF⟩ := hF; exact False.elim hF), (fun post av M sz hR hF => by obtain ⟨rfl, hF⟩ := hF; exact False.elim hF), (fun post av M sz hR hF => by obtain ⟨p1, rfl, gp1, hF⟩ := hF; exact False.elim hF), (fun post av M sz hR hF => by obtain ⟨rfl, hF⟩ := hF; exact False.elim hF)⟩
  | succ dp ih =>
    obtain ⟨hg0, hg1, hg2, hg3, hg4, hg5, hg6, hg7, hg8, hg9, hg10⟩ := ih
    exact ⟨s_X12_readE hin hg0 hg1 hg2 hg3 hg4 hg5 hg6 hg7 hg8 hg9 hg10, s_X12_readAnd hin hg0 hg1 hg2 hg3 hg4 hg5 hg6 hg7 hg8 hg9 hg10, s_X12_readNot hin hg0 hg1 hg2 hg3 hg4 hg5 hg6 hg7 hg8 hg9 hg10, s_X12_readCompared hin hg0 hg1 hg2 hg3 hg4 hg5 hg6 hg7 hg8 hg9 hg10, s_X12_readSum hin hg0 hg1 hg2 hg3 hg4 hg5 hg6 hg7 hg8 hg9 hg10, s_X12_readProduct hin hg0 hg1 hg2 hg3 hg4 hg5 hg6 hg7 hg8 hg9 hg10, s_X12_readTurned hin hg0 hg1 hg2 hg3 hg4 hg5 hg6 hg7 hg8 hg9 hg10, s_X12_readP hin hg0 hg1 hg2 hg3 hg4 hg5 hg6 hg7 hg8 hg9 hg10, s_X12_readAtom hin hg0 hg1 hg2 hg3 hg4 hg5 hg6 hg7 hg8 hg9 hg10, s_X12_readFold hin hg0 hg1 hg2 hg3 hg4 hg5 hg6 hg7 hg8 hg9 hg10, s_X12_readSet hin hg0 hg1 hg2 hg3 hg4 hg5 hg6 hg7 hg8 hg9 hg10⟩
theorem c_X12_readE {l : Launch} {D : va_G} {cy : Nat → ClassId} {ad : Nat → Nat} (hin : jIn ad ksR.length) : jCN l D vwCl (tyR cy) cy ad ftR ksR (XtR ad) yX12_readE (.code yX12_readE cX12_readE 3 (some .int) :: Om) (rm_gr_ 400) 1 (W_X12_readE 400 ad) := (a_gr_ hin 400).1
theorem c_X12_readAnd {l : Launch} {D : va_G} {cy : Nat → ClassId} {ad : Nat → Nat} (hin : jIn ad ksR.length) : jCN l D vwCl (tyR cy) cy ad ftR ksR (XtR ad) yX12_readAnd (.code yX12_readAnd cX12_readAnd 3 (some .int) :: Om) (rm_gr_ 400) 1 (W_X12_readAnd 400 ad) := (a_gr_ hin 400).2.1
theorem c_X12_readNot {l : Launch} {D : va_G} {cy : Nat → ClassId} {ad : Nat → Nat} (hin : jIn ad ksR.length) : jCN l D vwCl (tyR cy) cy ad ftR ksR (XtR ad) yX12_readNot (.code yX12_readNot cX12_readNot 2 (some .int) :: Om) (rm_gr_ 400) 1 (W_X12_readNot 400 ad) := (a_gr_ hin 400).2.2.1
theorem c_X12_readCompared {l : Launch} {D : va_G} {cy : Nat → ClassId} {ad : Nat → Nat} (hin : jIn ad ksR.length) : jCN l D vwCl (tyR cy) cy ad ftR ksR (XtR ad) yX12_readCompared (.code yX12_readCompared cX12_readCompared 4 (some .int) :: Om) (rm_gr_ 400) 1 (W_X12_readCompared 400 ad) := (a_gr_ hin 400).2.2.2.1
theorem c_X12_readSum {l : Launch} {D : va_G} {cy : Nat → ClassId} {ad : Nat → Nat} (hin : jIn ad ksR.length) : jCN l D vwCl (tyR cy) cy ad ftR ksR (XtR ad) yX12_readSum (.code yX12_readSum cX12_readSum 3 (some .int) :: Om) (rm_gr_ 400) 1 (W_X12_readSum 400 ad) := (a_gr_ hin 400).2.2.2.2.1
theorem c_X12_readProduct {l : Launch} {D : va_G} {cy : Nat → ClassId} {ad : Nat → Nat} (hin : jIn ad ksR.length) : jCN l D vwCl (tyR cy) cy ad ftR ksR (XtR ad) yX12_readProduct (.code yX12_readProduct cX12_readProduct 3 (some .int) :: Om) (rm_gr_ 400) 1 (W_X12_readProduct 400 ad) := (a_gr_ hin 400).2.2.2.2.2.1
theorem c_X12_readTurned {l : Launch} {D : va_G} {cy : Nat → ClassId} {ad : Nat → Nat} (hin : jIn ad ksR.length) : jCN l D vwCl (tyR cy) cy ad ftR ksR (XtR ad) yX12_readTurned (.code yX12_readTurned cX12_readTurned 2 (some .int) :: Om) (rm_gr_ 400) 1 (W_X12_readTurned 400 ad) := (a_gr_ hin 400).2.2.2.2.2.2.1
theorem c_X12_readP {l : Launch} {D : va_G} {cy : Nat → ClassId} {ad : Nat → Nat} (hin : jIn ad ksR.length) : jCN l D vwCl (tyR cy) cy ad ftR ksR (XtR ad) yX12_readP (.code yX12_readP cX12_readP 4 (some .int) :: Om) (rm_gr_ 400) 1 (W_X12_readP 400 ad) := (a_gr_ hin 400).2.2.2.2.2.2.2.1
theorem c_X12_readAtom {l : Launch} {D : va_G} {cy : Nat → ClassId} {ad : Nat → Nat} (hin : jIn ad ksR.length) : jCN l D vwCl (tyR cy) cy ad ftR ksR (XtR ad) yX12_readAtom (.code yX12_readAtom cX12_readAtom 5 (some .int) :: Om) (rm_gr_ 400) 1 (W_X12_readAtom 400 ad) := (a_gr_ hin 400).2.2.2.2.2.2.2.2.1
theorem c_X12_readFold {l : Launch} {D : va_G} {cy : Nat → ClassId} {ad : Nat → Nat} (hin : jIn ad ksR.length) : jCN l D vwCl (tyR cy) cy ad ftR ksR (XtR ad) yX12_readFold (.code yX12_readFold cX12_readFold 5 (some .int) :: Om) (rm_gr_ 400) 1 (W_X12_readFold 400 ad) := (a_gr_ hin 400).2.2.2.2.2.2.2.2.2.1
theorem c_X12_readSet {l : Launch} {D : va_G} {cy : Nat → ClassId} {ad : Nat → Nat} (hin : jIn ad ksR.length) : jCN l D vwCl (tyR cy) cy ad ftR ksR (XtR ad) yX12_readSet (.code yX12_readSet cX12_readSet 4 (some .int) :: Om) (rm_gr_ 400) 1 (W_X12_readSet 400 ad) := (a_gr_ hin 400).2.2.2.2.2.2.2.2.2.2
