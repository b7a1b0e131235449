def W_X12_takeNow (ad : Nat → Nat) (Q : Int → MM → Prop) (av : List Value) (M : MM) : Prop := av = [.ref (ad 0)] ∧ w_X12_takeNow  Q  M
set_option maxHeartbeats 4000000 in
set_option maxRecDepth 100000 in
theorem c_X12_takeNow {l : Launch} {D : va_G} {cy : Nat → ClassId} {ad : Nat → Nat} (hin : jIn ad ksR.length) : jCN l D vwCl (tyR cy) cy ad ftR ksR (XtR ad) yX12_takeNow (.code yX12_takeNow cX12_takeNow 1 none :: Om) ({ frames := 6, cells := 0, slots := 0, locals := 147 } : Room) 0 (W_X12_takeNow ad) := by
  refine jCN_of (y := yX12_takeNow) (cc := cX12_takeNow) (nL := 1) (rk := 0) (rm := ({ frames := 6, cells := 0, slots := 0, locals := 147 } : Room)) (own := RX12) (tyR_ok cy) hin (XtR_ok ad) Om_good (by decide) rfl ?_
  intro Q av M hF
  obtain ⟨rfl, hF⟩ := hF
  refine ⟨Nat.le_of_ble_eq_true rfl, fun J hJ => ?_⟩
  show J 0 [(0, .ref (ad 0))] [] M
  unfold w_X12_takeNow at hF
  refine j_aload_n hJ dX12_takeNow_0 rfl 0 rfl ?_
  refine j_iconst hJ dX12_takeNow_1 ?_
  refine j_callVv hJ (c_X12_picture0 (l := l) (D := D) (cy := cy) (ad := ad) hin) rfl om_1161 ⟨rfl, rfl, Nat.le_of_ble_eq_true rfl, Nat.le_of_ble_eq_true rfl⟩ [.int (Ii 4)] mv_X12_552 hd_X12_picture0v kR_0 rfl rfl rfl (Nat.le_of_ble_eq_true rfl) dX12_takeNow_2 ⟨4, rfl, rk_4, hF⟩ (fun M2 qM2 => ?_)
  have hF := qM2
  refine j_aload_n hJ dX12_takeNow_5 rfl 0 rfl ?_
  refine j_iconst hJ dX12_takeNow_6 ?_
  refine j_callVv hJ (c_X12_findWays (l := l) (D := D) (cy := cy) (ad := ad) hin) rfl om_1177 ⟨rfl, rfl, Nat.le_of_ble_eq_true rfl, Nat.le_of_ble_eq_true rfl⟩ [.int (Ii 4)] mv_X12_558 hd_X12_findWaysv kR_0 rfl rfl rfl (Nat.le_of_ble_eq_true rfl) dX12_takeNow_7 ⟨4, rfl, rk_4, hF⟩ (fun M4 qM4 => ?_)
  have hF := qM4
  refine j_aload_n hJ dX12_takeNow_10 rfl 0 rfl ?_
  refine j_gz hJ kR_0 fR_15_114 rfl fl_X12_869 dX12_takeNow_11 (fun v5 ev5 gv5 => ?_)
  have hF := hF v5 ev5 gv5
  refine j_if_eq hJ 22 (jz_ri gv5) dX12_takeNow_14 (by decide) (fun z6 => ?_) (fun z6 => ?_)
  · have hF := hF.1 z6
    exact j_vret hJ rfl dX12_takeNow_22 hF
  · have hF := hF.2 z6
    refine j_aload_n hJ dX12_takeNow_17 rfl 0 rfl ?_
    refine j_iconst hJ dX12_takeNow_18 ?_
    refine j_callVv hJ (c_X12_findDominators (l := l) (D := D) (cy := cy) (ad := ad) hin) rfl om_1201 ⟨rfl, rfl, Nat.le_of_ble_eq_true rfl, Nat.le_of_ble_eq_true rfl⟩ [.int (Ii 4)] mv_X12_561 hd_X12_findDominatorsv kR_0 rfl rfl rfl (Nat.le_of_ble_eq_true rfl) dX12_takeNow_19 ⟨4, rfl, rk_4, hF⟩ (fun M8 qM8 => ?_)
    have hF := qM8
    exact j_vret hJ rfl dX12_takeNow_22 hF
def W_X12_beginWork (ad : Nat → Nat) (Q : Int → MM → Prop) (av : List Value) (M : MM) : Prop := ∃ (p1 : Int), av = [.ref (ad 0), .int (Ii p1)] ∧ ri_ p1 ∧ w_X12_beginWork  Q p1 M
set_option maxHeartbeats 4000000 in
set_option maxRecDepth 100000 in
theorem c_X12_beginWork {l : Launch} {D : va_G} {cy : Nat → ClassId} {ad : Nat → Nat} (hin : jIn ad ksR.length) : jCN l D vwCl (tyR cy) cy ad ftR ksR (XtR ad) yX12_beginWork (.code yX12_beginWork cX12_beginWork 2 none :: Om) ({ frames := 0, cells := 0, slots := 0, locals := 0 } : Room) 0 (W_X12_beginWork ad) := by
  refine jCN_of (y := yX12_beginWork) (cc := cX12_beginWork) (nL := 2) (rk := 0) (rm := ({ frames := 0, cells := 0, slots := 0, locals := 0 } : Room)) (own := RX12) (tyR_ok cy) hin (XtR_ok ad) Om_good (by decide) rfl ?_
  intro Q av M hF
  obtain ⟨p1, rfl, gp1, hF⟩ := hF
  refine ⟨Nat.le_of_ble_eq_true rfl, fun J hJ => ?_⟩
  show J 0 [(0, .ref (ad 0)), (1, .int (Ii p1))] [] M
  unfold w_X12_beginWork at hF
  refine j_aload_n hJ dX12_beginWork_0 rfl 0 rfl ?_
  refine j_iload_n hJ dX12_beginWork_1 rfl 1 rfl ?_
  refine j_pi hJ gp1 kR_0 fR_15_97 rfl fp_X12_826 dX12_beginWork_2 (fun M1 eM1 => ?_)
  have hF := hF M1 eM1
  refine j_aload_n hJ dX12_beginWork_5 rfl 0 rfl ?_
  refine j_iconst hJ dX12_beginWork_6 ?_
  refine j_pi hJ rk_0 kR_0 fR_15_98 rfl fp_X12_779 dX12_beginWork_7 (fun M2 eM2 => ?_)
  have hF := hF M2 eM2
  refine j_aload_n hJ dX12_beginWork_10 rfl 0 rfl ?_
  refine j_iconst hJ dX12_beginWork_11 ?_
  refine j_pz hJ (by decide) kR_0 fR_15_103 rfl fp_X12_782 dX12_beginWork_12 (fun M3 eM3 => ?_)
  have hF := hF M3 eM3
  refine j_aload_n hJ dX12_beginWork_15 rfl 0 rfl ?_
  refine j_iconst hJ dX12_beginWork_16 ?_
  refine j_pi hJ rk_0 kR_0 fR_15_101 rfl fp_X12_846 dX12_beginWork_17 (fun M4 eM4 => ?_)
  have hF := hF M4 eM4
  exact j_vret hJ rfl dX12_beginWork_20 hF
def W_X12_give (ad : Nat → Nat) (Q : Int → MM → Prop) (av : List Value) (M : MM) : Prop := ∃ (p1 : Int) (p2 : Int), av = [.ref (ad 0), .int (Ii p1), .long (Ll p2)] ∧ ri_ p1 ∧ rl_ p2 ∧ w_X12_give  Q p1 p2 M
set_option maxHeartbeats 4000000 in
set_option maxRecDepth 100000 in
theorem c_X12_give {l : Launch} {D : va_G} {cy : Nat → ClassId} {ad : Nat → Nat} (hin : jIn ad ksR.length) : jCN l D vwCl (tyR cy) cy ad ftR ksR (XtR ad) yX12_give (.code yX12_give cX12_give 4 none :: Om) ({ frames := 0, cells := 0, slots := 0, locals := 0 } : Room) 0 (W_X12_give ad) := by
  refine jCN_of (y := yX12_give) (cc := cX12_give) (nL := 4) (rk := 0) (rm := ({ frames := 0, cells := 0, slots := 0, locals := 0 } : Room)) (own := RX12) (tyR_ok cy) hin (XtR_ok ad) Om_good (by decide) rfl ?_
  intro Q av M hF
  obtain ⟨p1, p2, rfl, gp1, gp2, hF⟩ := hF
  refine ⟨Nat.le_of_ble_eq_true rfl, fun J hJ => ?_⟩
  show J 0 [(0, .ref (ad 0)), (1, .int (Ii p1)), (2, .long (Ll p2))] [] M
  unfold w_X12_give at hF
  refine j_aload_n hJ dX12_give_0 rfl 0 rfl ?_
  refine j_iload_n hJ dX12_give_1 rfl 1 rfl ?_
  refine j_pi hJ gp1 kR_0 fR_15_99 rfl fp_X12_785 dX12_give_2 (fun M1 eM1 => ?_)
  have hF := hF M1 eM1
  refine j_aload_n hJ dX12_give_5 rfl 0 rfl ?_
  refine j_lload_n hJ dX12_give_6 rfl 2 rfl ?_
  refine j_pl hJ gp2 kR_0 fR_15_102 rfl fp_X12_788 dX12_give_7 (fun M2 eM2 => ?_)
  have hF := hF M2 eM2
  exact j_vret hJ rfl dX12_give_10 hF
def W_X12_truth (ad : Nat → Nat) (Q : Int → MM → Prop) (av : List Value) (M : MM) : Prop := ∃ (p1 : Int), av = [.ref (ad 0), .int (Ii p1)] ∧ (p1 = 0 ∨ p1 = 1) ∧ w_X12_truth  Q p1 M
set_option maxHeartbeats 4000000 in
set_option maxRecDepth 100000 in
theorem k_X12_truth_b11 {l : Launch} {D : va_G} {cy : Nat → ClassId} {ad : Nat → Nat} {Q : Int → MM → Prop} {J : Nat → List (Nat × Value) → List Value → MM → Prop} (hin : jIn ad ksR.length)   (hJ : jOk l D vwCl (tyR cy) cy ad ftR ksR (XtR ad) Om RX12 cX12_truth 2 0 ({ frames := 1, cells := 0, slots := 0, locals := 23 } : Room) Q J)  : ∀ (s0 s1 : Int) (M : MM), rl_ s0 → ri_ s1 → w_X12_truth_b11  Q  s0 s1 M → J 11 [] [.long (Ll s0), .int (Ii s1), .ref (ad 0)] M := by
  intro s0 s1 M gs0 gs1 hF
  unfold w_X12_truth_b11 at hF
  refine j_callVv hJ (c_X12_give (l := l) (D := D) (cy := cy) (ad := ad) hin) rfl om_1217 ⟨rfl, rfl, Nat.le_of_ble_eq_true rfl, Nat.le_of_ble_eq_true rfl⟩ [.int (Ii s1), .long (Ll s0)] mv_X12_791 hd_X12_givev kR_0 rfl rfl rfl (Nat.le_of_ble_eq_true rfl) dX12_truth_11 ⟨s1, s0, rfl, gs1, gs0, hF⟩ (fun M2 qM2 => ?_)
  have hF := qM2
  exact j_vret hJ rfl dX12_truth_14 hF
set_option maxHeartbeats 4000000 in
set_option maxRecDepth 100000 in
theorem c_X12_truth {l : Launch} {D : va_G} {cy : Nat → ClassId} {ad : Nat → Nat} (hin : jIn ad ksR.length) : jCN l D vwCl (tyR cy) cy ad ftR ksR (XtR ad) yX12_truth (.code yX12_truth cX12_truth 2 none :: Om) ({ frames := 1, cells := 0, slots := 0, locals := 23 } : Room) 0 (W_X12_truth ad) := by
  refine jCN_of (y := yX12_truth) (cc := cX12_truth) (nL := 2) (rk := 0) (rm := ({ frames := 1, cells := 0, slots := 0, locals := 23 } : Room)) (own := RX12) (tyR_ok cy) hin (XtR_ok ad) Om_good (by decide) rfl ?_
  intro Q av M hF
  obtain ⟨p1, rfl, gp1, hF⟩ := hF
  refine ⟨Nat.le_of_ble_eq_true rfl, fun J hJ => ?_⟩
  show J 0 [(0, .ref (ad 0)), (1, .int (Ii p1))] [] M
  unfold w_X12_truth at hF
  refine j_aload_n hJ dX12_truth_0 rfl 0 rfl ?_
  refine j_iconst hJ dX12_truth_1 ?_
  refine j_iload_n hJ dX12_truth_2 rfl 1 rfl ?_
  refine j_if_eq hJ 10 (jz_ri gp1) dX12_truth_3 (by decide) (fun z1 => ?_) (fun z1 => ?_)
  · have hF := hF.1 z1
    refine j_lconst (x := 0) hJ dX12_truth_10 rfl ?_
    exact j_sub hJ [] rfl (k_X12_truth_b11 hin  hJ  0 1 _ lkm_0 rk_1 hF)
  · have hF := hF.2 z1
    refine j_lconst (x := 1) hJ dX12_truth_6 rfl ?_
    refine j_goto hJ 11 dX12_truth_7 (by decide) ?_
    exact j_sub hJ [] rfl (k_X12_truth_b11 hin  hJ  1 1 _ lk_1 rk_1 hF)
def W_X12_nothing (ad : Nat → Nat) (Q : Int → MM → Prop) (av : List Value) (M : MM) : Prop := av = [.ref (ad 0)] ∧ w_X12_nothing  Q  M
set_option maxHeartbeats 4000000 in
set_option maxRecDepth 100000 in
theorem c_X12_nothing {l : Launch} {D : va_G} {cy : Nat → ClassId} {ad : Nat → Nat} (hin : jIn ad ksR.length) : jCN l D vwCl (tyR cy) cy ad ftR ksR (XtR ad) yX12_nothing (.code yX12_nothing cX12_nothing 1 none :: Om) ({ frames := 1, cells := 0, slots := 0, locals := 23 } : Room) 0 (W_X12_nothing ad) := by
  refine jCN_of (y := yX12_nothing) (cc := cX12_nothing) (nL := 1) (rk := 0) (rm := ({ frames := 1, cells := 0, slots := 0, locals := 23 } : Room)) (own := RX12) (tyR_ok cy) hin (XtR_ok ad) Om_good (by decide) rfl ?_
  intro Q av M hF
  obtain ⟨rfl, hF⟩ := hF
  refine ⟨Nat.le_of_ble_eq_true rfl, fun J hJ => ?_⟩
  show J 0 [(0, .ref (ad 0))] [] M
  unfold w_X12_nothing at hF
  refine j_aload_n hJ dX12_nothing_0 rfl 0 rfl ?_
  refine j_iconst hJ dX12_nothing_1 ?_
  refine j_lconst (x := 0) hJ dX12_nothing_2 rfl ?_
  refine j_callVv hJ (c_X12_give (l := l) (D := D) (cy := cy) (ad := ad) hin) rfl om_1217 ⟨rfl, rfl, Nat.le_of_ble_eq_true rfl, Nat.le_of_ble_eq_true rfl⟩ [.int (Ii 4), .long (Ll 0)] mv_X12_791 hd_X12_givev kR_0 rfl rfl rfl (Nat.le_of_ble_eq_true rfl) dX12_nothing_3 ⟨4, 0, rfl, rk_4, lkm_0, hF⟩ (fun M2 qM2 => ?_)
  have hF := qM2
  exact j_vret hJ rfl dX12_nothing_6 hF
def W_X12_workNumbered (ad : Nat → Nat) (Q : Int → MM → Prop) (av : List Value) (M : MM) : Prop := ∃ (p1 : Int), av = [.ref (ad 0), .int (Ii p1)] ∧ ri_ p1 ∧ w_X12_workNumbered  Q p1 M
set_option maxHeartbeats 4000000 in
set_option maxRecDepth 100000 in
theorem c_X12_workNumbered {l : Launch} {D : va_G} {cy : Nat → ClassId} {ad : Nat → Nat} (hin : jIn ad ksR.length) : jCN l D vwCl (tyR cy) cy ad ftR ksR (XtR ad) yX12_workNumbered (.code yX12_workNumbered cX12_workNumbered 2 none :: Om) ({ frames := 2, cells := 0, slots := 0, locals := 43 } : Room) 0 (W_X12_workNumbered ad) := by
  refine jCN_of (y := yX12_workNumbered) (cc := cX12_workNumbered) (nL := 2) (rk := 0) (rm := ({ frames := 2, cells := 0, slots := 0, locals := 43 } : Room)) (own := RX12) (tyR_ok cy) hin (XtR_ok ad) Om_good (by decide) rfl ?_
  intro Q av M hF
  obtain ⟨p1, rfl, gp1, hF⟩ := hF
  refine ⟨Nat.le_of_ble_eq_true rfl, fun J hJ => ?_⟩
  show J 0 [(0, .ref (ad 0)), (1, .int (Ii p1))] [] M
  unfold w_X12_workNumbered at hF
  refine j_aload_n hJ dX12_workNumbered_0 rfl 0 rfl ?_
  refine j_gr (e := 70) hJ kR_0 fR_15_90 fl_X12_284 dX12_workNumbered_1 rfl ?_
  refine j_iload_n hJ dX12_workNumbered_4 rfl 1 rfl ?_
  refine j_lald hJ gp1 kR_70 hF.1 hF.2.1 dX12_workNumbered_5 (fun v1 ev1 gv1 => ?_)
  have hF := hF.2.2 v1 ev1 gv1
  refine j_aload_n hJ dX12_workNumbered_6 rfl 0 rfl ?_
  refine j_gr (e := 38) hJ kR_0 fR_15_48 fl_X12_183 dX12_workNumbered_7 rfl ?_
  refine j_aload_n hJ dX12_workNumbered_10 rfl 0 rfl ?_
  refine j_gi hJ kR_0 fR_15_97 rfl fl_X12_826 dX12_workNumbered_11 (fun v2 ev2 gv2 => ?_)
  have hF := hF v2 ev2 gv2
  refine j_iald hJ gv2 kR_38 hF.1 hF.2.1 dX12_workNumbered_14 (fun v3 ev3 gv3 => ?_)
  have hF := hF.2.2 v3 ev3 gv3
  refine j_i2l hJ gv3 dX12_workNumbered_15 ?_
  refine j_lcmp_ge hJ 34 gv1 (rl_ri gv3) dX12_workNumbered_16 dX12_workNumbered_17 (by decide) (fun z4 => ?_) (fun z4 => ?_)
  · have hF := hF.1 z4
    refine j_aload_n hJ dX12_workNumbered_34 rfl 0 rfl ?_
    refine j_callVv hJ (c_X12_nothing (l := l) (D := D) (cy := cy) (ad := ad) hin) rfl om_1229 ⟨rfl, rfl, Nat.le_of_ble_eq_true rfl, Nat.le_of_ble_eq_true rfl⟩ [] mv_X12_798 hd_X12_nothingv kR_0 rfl rfl rfl (Nat.le_of_ble_eq_true rfl) dX12_workNumbered_35 ⟨rfl, hF⟩ (fun M6 qM6 => ?_)
    have hF := qM6
    exact j_vret hJ rfl dX12_workNumbered_38 hF
  · have hF := hF.2 z4
    refine j_aload_n hJ dX12_workNumbered_20 rfl 0 rfl ?_
    refine j_iconst hJ dX12_workNumbered_21 ?_
    refine j_aload_n hJ dX12_workNumbered_22 rfl 0 rfl ?_
    refine j_gr (e := 70) hJ kR_0 fR_15_90 fl_X12_284 dX12_workNumbered_23 rfl ?_
    refine j_iload_n hJ dX12_workNumbered_26 rfl 1 rfl ?_
    refine j_lald hJ gp1 kR_70 hF.1 hF.2.1 dX12_workNumbered_27 (fun v7 ev7 gv7 => ?_)
    have hF := hF.2.2 v7 ev7 gv7
    refine j_callVv hJ (c_X12_give (l := l) (D := D) (cy := cy) (ad := ad) hin) rfl om_1217 ⟨rfl, rfl, Nat.le_of_ble_eq_true rfl, Nat.le_of_ble_eq_true rfl⟩ [.int (Ii 2), .long (Ll v7)] mv_X12_791 hd_X12_givev kR_0 rfl rfl rfl (Nat.le_of_ble_eq_true rfl) dX12_workNumbered_28 ⟨2, v7, rfl, rk_2, gv7, hF⟩ (fun M9 qM9 => ?_)
    have hF := qM9
    refine j_goto hJ 38 dX12_workNumbered_31 (by decide) ?_
    exact j_vret hJ rfl dX12_workNumbered_38 hF
def W_X12_step (ad : Nat → Nat) (Q : Int → MM → Prop) (av : List Value) (M : MM) : Prop := av = [.ref (ad 0)] ∧ w_X12_step  Q  M
set_option maxHeartbeats 4000000 in
set_option maxRecDepth 100000 in
theorem c_X12_step {l : Launch} {D : va_G} {cy : Nat → ClassId} {ad : Nat → Nat} (hin : jIn ad ksR.length) : jCN l D vwCl (tyR cy) cy ad ftR ksR (XtR ad) yX12_step (.code yX12_step cX12_step 1 none :: Om) ({ frames := 0, cells := 0, slots := 0, locals := 0 } : Room) 0 (W_X12_step ad) := by
  refine jCN_of (y := yX12_step) (cc := cX12_step) (nL := 1) (rk := 0) (rm := ({ frames := 0, cells := 0, slots := 0, locals := 0 } : Room)) (own := RX12) (tyR_ok cy) hin (XtR_ok ad) Om_good (by decide) rfl ?_
  intro Q av M hF
  obtain ⟨rfl, hF⟩ := hF
  refine ⟨Nat.le_of_ble_eq_true rfl, fun J hJ => ?_⟩
  show J 0 [(0, .ref (ad 0))] [] M
  unfold w_X12_step at hF
  refine j_aload_n hJ dX12_step_0 rfl 0 rfl ?_
  refine j_gi hJ kR_0 fR_15_98 rfl fl_X12_779 dX12_step_1 (fun v1 ev1 gv1 => ?_)
  have hF := hF v1 ev1 gv1
  refine j_sipush hJ dX12_step_4 (by decide) ?_
  refine j_icmp_ne hJ 18 gv1 rk_30000 dX12_step_7 (by decide) (fun z2 => ?_) (fun z2 => ?_)
  · have hF := hF.1 z2
    refine j_aload_n hJ dX12_step_18 rfl 0 rfl ?_
    refine j_dup hJ dX12_step_19 rfl ?_
    refine j_gi hJ kR_0 fR_15_98 rfl fl_X12_779 dX12_step_20 (fun v3 ev3 gv3 => ?_)
    have hF := hF v3 ev3 gv3
    refine j_iconst hJ dX12_step_23 ?_
    refine j_iadd hJ dX12_step_24 ?_
    have g4 := hF.1; have hF := hF.2
    refine j_pi hJ g4 kR_0 fR_15_98 rfl fp_X12_779 dX12_step_25 (fun M5 eM5 => ?_)
    have hF := hF M5 eM5
    exact j_vret hJ rfl dX12_step_28 hF
  · have hF := hF.2 z2
    refine j_aload_n hJ dX12_step_10 rfl 0 rfl ?_
    refine j_iconst hJ dX12_step_11 ?_
    refine j_pz hJ (by decide) kR_0 fR_15_103 rfl fp_X12_782 dX12_step_12 (fun M6 eM6 => ?_)
    have hF := hF M6 eM6
    refine j_goto hJ 28 dX12_step_15 (by decide) ?_
    exact j_vret hJ rfl dX12_step_28 hF
def W_X12_link (ad : Nat → Nat) (Q : Int → MM → Prop) (av : List Value) (M : MM) : Prop := ∃ (p1 : Int), av = [.ref (ad 0), .long (Ll p1)] ∧ rl_ p1 ∧ w_X12_link  Q p1 M
set_option maxHeartbeats 4000000 in
set_option maxRecDepth 100000 in
theorem c_X12_link {l : Launch} {D : va_G} {cy : Nat → ClassId} {ad : Nat → Nat} (hin : jIn ad ksR.length) : jCN l D vwCl (tyR cy) cy ad ftR ksR (XtR ad) yX12_link (.code yX12_link cX12_link 3 none :: Om) ({ frames := 1, cells := 0, slots := 0, locals := 23 } : Room) 0 (W_X12_link ad) := by
  refine jCN_of (y := yX12_link) (cc := cX12_link) (nL := 3) (rk := 0) (rm := ({ frames := 1, cells := 0, slots := 0, locals := 23 } : Room)) (own := RX12) (tyR_ok cy) hin (XtR_ok ad) Om_good (by decide) rfl ?_
  intro Q av M hF
  obtain ⟨p1, rfl, gp1, hF⟩ := hF
  refine ⟨Nat.le_of_ble_eq_true rfl, fun J hJ => ?_⟩
  show J 0 [(0, .ref (ad 0)), (1, .long (Ll p1))] [] M
  unfold w_X12_link at hF
  refine j_lload_n hJ dX12_link_0 rfl 1 rfl ?_
  refine j_ldc2 hJ (-1) om_1068 (by decide) dX12_link_1 ?_
  refine j_lcmp_ne hJ 17 gp1 lk_m1 dX12_link_4 dX12_link_5 (by decide) (fun z1 => ?_) (fun z1 => ?_)
  · have hF := hF.1 z1
    refine j_aload_n hJ dX12_link_17 rfl 0 rfl ?_
    refine j_iconst hJ dX12_link_18 ?_
    refine j_lload_n hJ dX12_link_19 rfl 1 rfl ?_
    refine j_callVv hJ (c_X12_give (l := l) (D := D) (cy := cy) (ad := ad) hin) rfl om_1217 ⟨rfl, rfl, Nat.le_of_ble_eq_true rfl, Nat.le_of_ble_eq_true rfl⟩ [.int (Ii 2), .long (Ll p1)] mv_X12_791 hd_X12_givev kR_0 rfl rfl rfl (Nat.le_of_ble_eq_true rfl) dX12_link_20 ⟨2, p1, rfl, rk_2, gp1, hF⟩ (fun M3 qM3 => ?_)
    have hF := qM3
    exact j_vret hJ rfl dX12_link_23 hF
  · have hF := hF.2 z1
    refine j_aload_n hJ dX12_link_8 rfl 0 rfl ?_
    refine j_iconst hJ dX12_link_9 ?_
    refine j_lconst (x := 0) hJ dX12_link_10 rfl ?_
    refine j_callVv hJ (c_X12_give (l := l) (D := D) (cy := cy) (ad := ad) hin) rfl om_1217 ⟨rfl, rfl, Nat.le_of_ble_eq_true rfl, Nat.le_of_ble_eq_true rfl⟩ [.int (Ii 3), .long (Ll 0)] mv_X12_791 hd_X12_givev kR_0 rfl rfl rfl (Nat.le_of_ble_eq_true rfl) dX12_link_11 ⟨3, 0, rfl, rk_3, lkm_0, hF⟩ (fun M5 qM5 => ?_)
    have hF := qM5
    refine j_goto hJ 23 dX12_link_14 (by decide) ?_
    exact j_vret hJ rfl dX12_link_23 hF
def W_X12_workField (ad : Nat → Nat) (Q : Int → MM → Prop) (av : List Value) (M : MM) : Prop := ∃ (p1 : Int) (p2 : Int) (p3 : Int), av = [.ref (ad 0), .int (Ii p1), .int (Ii p2), .long (Ll p3)] ∧ ri_ p1 ∧ (p2 = 0 ∨ p2 = 1) ∧ rl_ p3 ∧ w_X12_workField  Q p1 p2 p3 M
set_option maxHeartbeats 4000000 in
set_option maxRecDepth 100000 in
theorem k_X12_workField_b121 {l : Launch} {D : va_G} {cy : Nat → ClassId} {ad : Nat → Nat} {Q : Int → MM → Prop} {J : Nat → List (Nat × Value) → List Value → MM → Prop} (hin : jIn ad ksR.length)   (hJ : jOk l D vwCl (tyR cy) cy ad ftR ksR (XtR ad) Om RX12 cX12_workField 8 0 ({ frames := 2, cells := 0, slots := 0, locals := 45 } : Room) Q J)  : ∀ (x1 x5 : Int) (M : MM), ri_ x1 → ri_ x5 → w_X12_workField_b121  Q  x1 x5 M → J 121 [(0, .ref (ad 0)), (1, .int (Ii x1)), (5, .int (Ii x5))] [] M := by
  intro x1 x5 M gx1 gx5 hF
  unfold w_X12_workField_b121 at hF
  refine j_iload hJ dX12_workField_121 2 rfl ?_
  refine j_iconst hJ dX12_workField_123 ?_
  refine j_icmp_ne hJ 134 gx5 rk_m1 dX12_workField_124 (by decide) (fun z1 => ?_) (fun z1 => ?_)
  · have hF := hF.1 z1
    refine j_aload_n hJ dX12_workField_134 rfl 0 rfl ?_
    refine j_gr (e := 12) hJ kR_0 fR_15_13 fl_X12_103 dX12_workField_135 rfl ?_
    refine j_iload hJ dX12_workField_138 2 rfl ?_
    refine j_iald hJ gx5 kR_12 hF.1 hF.2.1 dX12_workField_140 (fun v2 ev2 gv2 => ?_)
    have hF := hF.2.2 v2 ev2 gv2
    refine j_iconst hJ dX12_workField_141 ?_
    refine j_icmp_ne hJ 168 gv2 rk_5 dX12_workField_142 (by decide) (fun z3 => ?_) (fun z3 => ?_)
    · have hF := hF.1 z3
      refine j_aload_n hJ dX12_workField_168 rfl 0 rfl ?_
      refine j_iconst hJ dX12_workField_169 ?_
      refine j_aload_n hJ dX12_workField_170 rfl 0 rfl ?_
      refine j_aload_n hJ dX12_workField_171 rfl 0 rfl ?_
      refine j_gi hJ kR_0 fR_15_97 rfl fl_X12_826 dX12_workField_172 (fun v4 ev4 gv4 => ?_)
      have hF := hF v4 ev4 gv4
      refine j_iload_n hJ dX12_workField_175 rfl 1 rfl ?_
      refine j_aload_n hJ dX12_workField_176 rfl 0 rfl ?_
      refine j_gr (e := 14) hJ kR_0 fR_15_15 fl_X12_109 dX12_workField_177 rfl ?_
      refine j_iload hJ dX12_workField_180 2 rfl ?_
      refine j_iald hJ gx5 kR_14 hF.1 hF.2.1 dX12_workField_182 (fun v5 ev5 gv5 => ?_)
      have hF := hF.2.2 v5 ev5 gv5
      refine j_callVl hJ (c_X12_valueIn (l := l) (D := D) (cy := cy) (ad := ad) hin) rfl om_1173 ⟨rfl, rfl, Nat.le_of_ble_eq_true rfl, Nat.le_of_ble_eq_true rfl⟩ [.int (Ii v4), .int (Ii x1), .int (Ii v5)] mv_X12_577 hd_X12_valueInv kR_0 rfl rfl rfl (Nat.le_of_ble_eq_true rfl) dX12_workField_183 ⟨v4, x1, v5, rfl, gv4, gx1, gv5, hF⟩ (fun r6 M7 gr6 qM7 => ?_)
      have hF := qM7 gr6
      refine j_callVv hJ (c_X12_give (l := l) (D := D) (cy := cy) (ad := ad) hin) rfl om_1217 ⟨rfl, rfl, Nat.le_of_ble_eq_true rfl, Nat.le_of_ble_eq_true rfl⟩ [.int (Ii 0), .long (Ll r6)] mv_X12_791 hd_X12_givev kR_0 rfl rfl rfl (Nat.le_of_ble_eq_true rfl) dX12_workField_186 ⟨0, r6, rfl, rk_0, gr6, hF⟩ (fun M9 qM9 => ?_)
      have hF := qM9
      exact j_vret hJ rfl dX12_workField_189 hF
    · have hF := hF.2 z3
      refine j_aload_n hJ dX12_workField_145 rfl 0 rfl ?_
      refine j_aload_n hJ dX12_workField_146 rfl 0 rfl ?_
      refine j_aload_n hJ dX12_workField_147 rfl 0 rfl ?_
      refine j_gi hJ kR_0 fR_15_97 rfl fl_X12_826 dX12_workField_148 (fun v10 ev10 gv10 => ?_)
      have hF := hF v10 ev10 gv10
      refine j_iload_n hJ dX12_workField_151 rfl 1 rfl ?_
      refine j_aload_n hJ dX12_workField_152 rfl 0 rfl ?_
      refine j_gr (e := 14) hJ kR_0 fR_15_15 fl_X12_109 dX12_workField_153 rfl ?_
      refine j_iload hJ dX12_workField_156 2 rfl ?_
      refine j_iald hJ gx5 kR_14 hF.1 hF.2.1 dX12_workField_158 (fun v11 ev11 gv11 => ?_)
      have hF := hF.2.2 v11 ev11 gv11
      refine j_callVl hJ (c_X12_valueIn (l := l) (D := D) (cy := cy) (ad := ad) hin) rfl om_1173 ⟨rfl, rfl, Nat.le_of_ble_eq_true rfl, Nat.le_of_ble_eq_true rfl⟩ [.int (Ii v10), .int (Ii x1), .int (Ii v11)] mv_X12_577 hd_X12_valueInv kR_0 rfl rfl rfl (Nat.le_of_ble_eq_true rfl) dX12_workField_159 ⟨v10, x1, v11, rfl, gv10, gx1, gv11, hF⟩ (fun r12 M13 gr12 qM13 => ?_)
      have hF := qM13 gr12
      refine j_callVv hJ (c_X12_link (l := l) (D := D) (cy := cy) (ad := ad) hin) rfl om_1257 ⟨rfl, rfl, Nat.le_of_ble_eq_true rfl, Nat.le_of_ble_eq_true rfl⟩ [.long (Ll r12)] mv_X12_840 hd_X12_linkv kR_0 rfl rfl rfl (Nat.le_of_ble_eq_true rfl) dX12_workField_162 ⟨r12, rfl, gr12, hF⟩ (fun M15 qM15 => ?_)
      have hF := qM15
      refine j_goto hJ 189 dX12_workField_165 (by decide) ?_
      exact j_vret hJ rfl dX12_workField_189 hF
  · have hF := hF.2 z1
    refine j_aload_n hJ dX12_workField_127 rfl 0 rfl ?_
    refine j_callVv hJ (c_X12_nothing (l := l) (D := D) (cy := cy) (ad := ad) hin) rfl om_1229 ⟨rfl, rfl, Nat.le_of_ble_eq_true rfl, Nat.le_of_ble_eq_true rfl⟩ [] mv_X12_798 hd_X12_nothingv kR_0 rfl rfl rfl (Nat.le_of_ble_eq_true rfl) dX12_workField_128 ⟨rfl, hF⟩ (fun M17 qM17 => ?_)
    have hF := qM17
    refine j_goto hJ 189 dX12_workField_131 (by decide) ?_
    exact j_vret hJ rfl dX12_workField_189 hF
set_option maxHeartbeats 4000000 in
set_option maxRecDepth 100000 in
theorem k_X12_workField_b101 {l : Launch} {D : va_G} {cy : Nat → ClassId} {ad : Nat → Nat} {Q : Int → MM → Prop} {J : Nat → List (Nat × Value) → List Value → MM → Prop} (hin : jIn ad ksR.length)   (hJ : jOk l D vwCl (tyR cy) cy ad ftR ksR (XtR ad) Om RX12 cX12_workField 8 0 ({ frames := 2, cells := 0, slots := 0, locals := 45 } : Room) Q J) {K27 : Int → Int → Int → Int → MM → Prop} (hK27 : ∀ (x1 x3 x5 x6 : Int) (M : MM), ri_ x1 → rl_ x3 → ri_ x5 → ri_ x6 → K27 x1 x3 x5 x6 M → J 27 [(0, .ref (ad 0)), (1, .int (Ii x1)), (3, .long (Ll x3)), (5, .int (Ii x5)), (6, .int (Ii x6))] [] M) {K42 : Int → Int → Int → Int → Int → MM → Prop} (hK42 : ∀ (x1 x3 x5 x6 x7 : Int) (M : MM), ri_ x1 → rl_ x3 → ri_ x5 → ri_ x6 → ri_ x7 → K42 x1 x3 x5 x6 x7 M → J 42 [(0, .ref (ad 0)), (1, .int (Ii x1)), (3, .long (Ll x3)), (5, .int (Ii x5)), (6, .int (Ii x6)), (7, .int (Ii x7))] [] M) : ∀ (x1 x3 x6 x7 s0 : Int) (M : MM), ri_ x1 → rl_ x3 → ri_ x6 → ri_ x7 → ri_ s0 → w_X12_workField_b101  Q K27 K42 x1 x3 x6 x7 s0 M → J 101 [(0, .ref (ad 0)), (1, .int (Ii x1)), (3, .long (Ll x3)), (6, .int (Ii x6)), (7, .int (Ii x7))] [.int (Ii s0)] M := by
  intro x1 x3 x6 x7 s0 M gx1 gx3 gx6 gx7 gs0 hF
  unfold w_X12_workField_b101 at hF
  refine j_istore (lv' := [(5, .int (Ii s0)), (0, .ref (ad 0)), (1, .int (Ii x1)), (3, .long (Ll x3)), (6, .int (Ii x6)), (7, .int (Ii x7))]) hJ dX12_workField_101 (by decide) rfl ?_
  refine j_iinc (lv' := [(7, .int (Ii (x7 + 1))), (5, .int (Ii s0)), (0, .ref (ad 0)), (1, .int (Ii x1)), (3, .long (Ll x3)), (6, .int (Ii x6))]) (k := 5) hJ dX12_workField_103 rfl (by decide) rfl ?_
  have g1 := hF.1; have hF := hF.2
  refine j_goto hJ 42 dX12_workField_106 (by decide) ?_
  exact j_sub hJ [2, 3, 4, 1, 5, 0] rfl (hK42 x1 x3 s0 x6 (x7 + 1) _ gx1 gx3 gs0 gx6 g1 hF)
set_option maxHeartbeats 4000000 in
set_option maxRecDepth 100000 in
theorem k_X12_workField_b99 {l : Launch} {D : va_G} {cy : Nat → ClassId} {ad : Nat → Nat} {Q : Int → MM → Prop} {J : Nat → List (Nat × Value) → List Value → MM → Prop} (hin : jIn ad ksR.length)   (hJ : jOk l D vwCl (tyR cy) cy ad ftR ksR (XtR ad) Om RX12 cX12_workField 8 0 ({ frames := 2, cells := 0, slots := 0, locals := 45 } : Room) Q J) {K27 : Int → Int → Int → Int → MM → Prop} (hK27 : ∀ (x1 x3 x5 x6 : Int) (M : MM), ri_ x1 → rl_ x3 → ri_ x5 → ri_ x6 → K27 x1 x3 x5 x6 M → J 27 [(0, .ref (ad 0)), (1, .int (Ii x1)), (3, .long (Ll x3)), (5, .int (Ii x5)), (6, .int (Ii x6))] [] M) {K42 : Int → Int → Int → Int → Int → MM → Prop} (hK42 : ∀ (x1 x3 x5 x6 x7 : Int) (M : MM), ri_ x1 → rl_ x3 → ri_ x5 → ri_ x6 → ri_ x7 → K42 x1 x3 x5 x6 x7 M → J 42 [(0, .ref (ad 0)), (1, .int (Ii x1)), (3, .long (Ll x3)), (5, .int (Ii x5)), (6, .int (Ii x6)), (7, .int (Ii x7))] [] M) : ∀ (x1 x3 x5 x6 x7 : Int) (M : MM), ri_ x1 → rl_ x3 → ri_ x5 → ri_ x6 → ri_ x7 → w_X12_workField_b99  Q K27 K42 x1 x3 x5 x6 x7 M → J 99 [(0, .ref (ad 0)), (1, .int (Ii x1)), (3, .long (Ll x3)), (5, .int (Ii x5)), (6, .int (Ii x6)), (7, .int (Ii x7))] [] M := by
  intro x1 x3 x5 x6 x7 M gx1 gx3 gx5 gx6 gx7 hF
  unfold w_X12_workField_b99 at hF
  refine j_iload hJ dX12_workField_99 3 rfl ?_
  exact j_sub hJ [0, 1, 2, 4, 5] rfl (k_X12_workField_b101 hin  hJ hK27 hK42 x1 x3 x6 x7 x5 _ gx1 gx3 gx6 gx7 gx5 hF)
set_option maxHeartbeats 4000000 in
set_option maxRecDepth 100000 in
theorem k_X12_workField_b42 {l : Launch} {D : va_G} {cy : Nat → ClassId} {ad : Nat → Nat} {Q : Int → MM → Prop} {J : Nat → List (Nat × Value) → List Value → MM → Prop} (hin : jIn ad ksR.length)   (hJ : jOk l D vwCl (tyR cy) cy ad ftR ksR (XtR ad) Om RX12 cX12_workField 8 0 ({ frames := 2, cells := 0, slots := 0, locals := 45 } : Room) Q J) {K27 : Int → Int → Int → Int → MM → Prop} (hK27 : ∀ (x1 x3 x5 x6 : Int) (M : MM), ri_ x1 → rl_ x3 → ri_ x5 → ri_ x6 → K27 x1 x3 x5 x6 M → J 27 [(0, .ref (ad 0)), (1, .int (Ii x1)), (3, .long (Ll x3)), (5, .int (Ii x5)), (6, .int (Ii x6))] [] M) : ∀ (x1 x3 x5 x6 x7 : Int) (M : MM), ri_ x1 → rl_ x3 → ri_ x5 → ri_ x6 → ri_ x7 → w_X12_workField_b42  Q K27 x1 x3 x5 x6 x7 M → J 42 [(0, .ref (ad 0)), (1, .int (Ii x1)), (3, .long (Ll x3)), (5, .int (Ii x5)), (6, .int (Ii x6)), (7, .int (Ii x7))] [] M := by
  have H9 : ∀ (n : Nat) (x1 x3 x5 x6 x7 : Int) (M : MM), ri_ x1 → rl_ x3 → ri_ x5 → ri_ x6 → ri_ x7 → jit (fun _ _ _ _ _ _ => False) (wb_X12_workField_b42  Q K27) n x1 x3 x5 x6 x7 M → J 42 [(0, .ref (ad 0)), (1, .int (Ii x1)), (3, .long (Ll x3)), (5, .int (Ii x5)), (6, .int (Ii x6)), (7, .int (Ii x7))] [] M := by
    intro n
    induction n with
    | zero => intro x1 x3 x5 x6 x7 M gx1 gx3 gx5 gx6 gx7 hF; exact False.elim hF
    | succ n ih =>
    intro x1 x3 x5 x6 x7 M gx1 gx3 gx5 gx6 gx7 hF
    have hF : wb_X12_workField_b42  Q K27 (jit (fun _ _ _ _ _ _ => False) (wb_X12_workField_b42  Q K27) n) x1 x3 x5 x6 x7 M := hF
    unfold wb_X12_workField_b42 at hF
    refine j_iload hJ dX12_workField_42 5 rfl ?_
    refine j_aload_n hJ dX12_workField_44 rfl 0 rfl ?_
    refine j_gr (e := 9) hJ kR_0 fR_15_10 fl_X12_94 dX12_workField_45 rfl ?_
    refine j_iload hJ dX12_workField_48 4 rfl ?_
    refine j_iald hJ gx6 kR_9 hF.1 hF.2.1 dX12_workField_50 (fun v1 ev1 gv1 => ?_)
    have hF := hF.2.2 v1 ev1 gv1
    refine j_icmp_ge hJ 109 gx7 gv1 dX12_workField_51 (by decide) (fun z2 => ?_) (fun z2 => ?_)
    · have hF := hF.1 z2
      refine j_aload_n hJ dX12_workField_109 rfl 0 rfl ?_
      refine j_gr (e := 8) hJ kR_0 fR_15_9 fl_X12_91 dX12_workField_110 rfl ?_
      refine j_iload hJ dX12_workField_113 4 rfl ?_
      refine j_iald hJ gx6 kR_8 hF.1 hF.2.1 dX12_workField_115 (fun v3 ev3 gv3 => ?_)
      have hF := hF.2.2 v3 ev3 gv3
      refine j_istore (lv' := [(6, .int (Ii v3)), (0, .ref (ad 0)), (1, .int (Ii x1)), (3, .long (Ll x3)), (5, .int (Ii x5)), (7, .int (Ii x7))]) hJ dX12_workField_116 (by decide) rfl ?_
      refine j_goto hJ 27 dX12_workField_118 (by decide) ?_
      exact j_sub hJ [1, 2, 3, 4, 0] rfl (hK27 x1 x3 x5 v3 _ gx1 gx3 gx5 gv3 hF)
    · have hF := hF.2 z2
      refine j_aload_n hJ dX12_workField_54 rfl 0 rfl ?_
      refine j_gr (e := 17) hJ kR_0 fR_15_18 fl_X12_119 dX12_workField_55 rfl ?_
      refine j_bipush hJ dX12_workField_58 (by decide) ?_
      refine j_iload hJ dX12_workField_60 4 rfl ?_
      refine j_imul hJ dX12_workField_62 ?_
      have g4 := hF.1; have hF := hF.2
      refine j_iload hJ dX12_workField_63 5 rfl ?_
      refine j_iadd hJ dX12_workField_65 ?_
      have g5 := hF.1; have hF := hF.2
      refine j_zald hJ g5 kR_17 hF.1 hF.2.1 dX12_workField_66 (fun v6 ev6 gv6 => ?_)
      have hF := hF.2.2 v6 ev6 gv6
      refine j_if_ne hJ 99 (jz_ri gv6) dX12_workField_67 (by decide) (fun z7 => ?_) (fun z7 => ?_)
      · have hF := hF.1 z7
        exact j_sub hJ [0, 1, 2, 3, 4, 5] rfl (k_X12_workField_b99 hin  hJ hK27 ih x1 x3 x5 x6 x7 _ gx1 gx3 gx5 gx6 gx7 hF)
      · have hF := hF.2 z7
        refine j_aload_n hJ dX12_workField_70 rfl 0 rfl ?_
        refine j_gr (e := 5) hJ kR_0 fR_15_6 fl_X12_81 dX12_workField_71 rfl ?_
        refine j_bipush hJ dX12_workField_74 (by decide) ?_
        refine j_iload hJ dX12_workField_76 4 rfl ?_
        refine j_imul hJ dX12_workField_78 ?_
        have g8 := hF.1; have hF := hF.2
        refine j_iload hJ dX12_workField_79 5 rfl ?_
        refine j_iadd hJ dX12_workField_81 ?_
        have g9 := hF.1; have hF := hF.2
        refine j_lald hJ g9 kR_5 hF.1 hF.2.1 dX12_workField_82 (fun v10 ev10 gv10 => ?_)
        have hF := hF.2.2 v10 ev10 gv10
        refine j_lload_n hJ dX12_workField_83 rfl 2 rfl ?_
        refine j_lcmp_ne hJ 99 gv10 gx3 dX12_workField_84 dX12_workField_85 (by decide) (fun z11 => ?_) (fun z11 => ?_)
        · have hF := hF.1 z11
          exact j_sub hJ [0, 1, 2, 3, 4, 5] rfl (k_X12_workField_b99 hin  hJ hK27 ih x1 x3 x5 x6 x7 _ gx1 gx3 gx5 gx6 gx7 hF)
        · have hF := hF.2 z11
          refine j_bipush hJ dX12_workField_88 (by decide) ?_
          refine j_iload hJ dX12_workField_90 4 rfl ?_
          refine j_imul hJ dX12_workField_92 ?_
          have g12 := hF.1; have hF := hF.2
          refine j_iload hJ dX12_workField_93 5 rfl ?_
          refine j_iadd hJ dX12_workField_95 ?_
          have g13 := hF.1; have hF := hF.2
          refine j_goto hJ 101 dX12_workField_96 (by decide) ?_
          exact j_sub hJ [0, 1, 2, 4, 5] rfl (k_X12_workField_b101 hin  hJ hK27 ih x1 x3 x6 x7 ((6 * x6) + x7) _ gx1 gx3 gx6 gx7 g13 hF)
  intro x1 x3 x5 x6 x7 M gx1 gx3 gx5 gx6 gx7 hF
  obtain ⟨n, hF⟩ := hF
  exact H9 n x1 x3 x5 x6 x7 M gx1 gx3 gx5 gx6 gx7 hF
set_option maxHeartbeats 4000000 in
set_option maxRecDepth 100000 in
theorem k_X12_workField_b27 {l : Launch} {D : va_G} {cy : Nat → ClassId} {ad : Nat → Nat} {Q : Int → MM → Prop} {J : Nat → List (Nat × Value) → List Value → MM → Prop} (hin : jIn ad ksR.length)   (hJ : jOk l D vwCl (tyR cy) cy ad ftR ksR (XtR ad) Om RX12 cX12_workField 8 0 ({ frames := 2, cells := 0, slots := 0, locals := 45 } : Room) Q J)  : ∀ (x1 x3 x5 x6 : Int) (M : MM), ri_ x1 → rl_ x3 → ri_ x5 → ri_ x6 → w_X12_workField_b27  Q  x1 x3 x5 x6 M → J 27 [(0, .ref (ad 0)), (1, .int (Ii x1)), (3, .long (Ll x3)), (5, .int (Ii x5)), (6, .int (Ii x6))] [] M := by
  have H9 : ∀ (n : Nat) (x1 x3 x5 x6 : Int) (M : MM), ri_ x1 → rl_ x3 → ri_ x5 → ri_ x6 → jit (fun _ _ _ _ _ => False) (wb_X12_workField_b27  Q ) n x1 x3 x5 x6 M → J 27 [(0, .ref (ad 0)), (1, .int (Ii x1)), (3, .long (Ll x3)), (5, .int (Ii x5)), (6, .int (Ii x6))] [] M := by
    intro n
    induction n with
    | zero => intro x1 x3 x5 x6 M gx1 gx3 gx5 gx6 hF; exact False.elim hF
    | succ n ih =>
    intro x1 x3 x5 x6 M gx1 gx3 gx5 gx6 hF
    have hF : wb_X12_workField_b27  Q  (jit (fun _ _ _ _ _ => False) (wb_X12_workField_b27  Q ) n) x1 x3 x5 x6 M := hF
    unfold wb_X12_workField_b27 at hF
    refine j_iload hJ dX12_workField_27 4 rfl ?_
    refine j_iconst hJ dX12_workField_29 ?_
    refine j_icmp_eq hJ 121 gx6 rk_m1 dX12_workField_30 (by decide) (fun z1 => ?_) (fun z1 => ?_)
    · have hF := hF.1 z1
      exact j_sub hJ [0, 1, 3] rfl (k_X12_workField_b121 hin  hJ  x1 x5 _ gx1 gx5 hF)
    · have hF := hF.2 z1
      refine j_iload hJ dX12_workField_33 3 rfl ?_
      refine j_iconst hJ dX12_workField_35 ?_
      refine j_icmp_ne hJ 121 gx5 rk_m1 dX12_workField_36 (by decide) (fun z2 => ?_) (fun z2 => ?_)
      · have hF := hF.1 z2
        exact j_sub hJ [0, 1, 3] rfl (k_X12_workField_b121 hin  hJ  x1 x5 _ gx1 gx5 hF)
      · have hF := hF.2 z2
        refine j_iconst hJ dX12_workField_39 ?_
        refine j_istore (lv' := [(7, .int (Ii 0)), (0, .ref (ad 0)), (1, .int (Ii x1)), (3, .long (Ll x3)), (5, .int (Ii x5)), (6, .int (Ii x6))]) hJ dX12_workField_40 (by decide) rfl ?_
        exact j_sub hJ [1, 2, 3, 4, 5, 0] rfl (k_X12_workField_b42 hin  hJ ih x1 x3 x5 x6 0 _ gx1 gx3 gx5 gx6 rk_0 hF)
  intro x1 x3 x5 x6 M gx1 gx3 gx5 gx6 hF
  obtain ⟨n, hF⟩ := hF
  exact H9 n x1 x3 x5 x6 M gx1 gx3 gx5 gx6 hF
set_option maxHeartbeats 4000000 in
set_option maxRecDepth 100000 in
theorem k_X12_workField_b25 {l : Launch} {D : va_G} {cy : Nat → ClassId} {ad : Nat → Nat} {Q : Int → MM → Prop} {J : Nat → List (Nat × Value) → List Value → MM → Prop} (hin : jIn ad ksR.length)   (hJ : jOk l D vwCl (tyR cy) cy ad ftR ksR (XtR ad) Om RX12 cX12_workField 8 0 ({ frames := 2, cells := 0, slots := 0, locals := 45 } : Room) Q J)  : ∀ (x1 x3 x5 s0 : Int) (M : MM), ri_ x1 → rl_ x3 → ri_ x5 → ri_ s0 → w_X12_workField_b25  Q  x1 x3 x5 s0 M → J 25 [(0, .ref (ad 0)), (1, .int (Ii x1)), (3, .long (Ll x3)), (5, .int (Ii x5))] [.int (Ii s0)] M := by
  intro x1 x3 x5 s0 M gx1 gx3 gx5 gs0 hF
  unfold w_X12_workField_b25 at hF
  refine j_istore (lv' := [(6, .int (Ii s0)), (0, .ref (ad 0)), (1, .int (Ii x1)), (3, .long (Ll x3)), (5, .int (Ii x5))]) hJ dX12_workField_25 (by decide) rfl ?_
  exact j_sub hJ [1, 2, 3, 4, 0] rfl (k_X12_workField_b27 hin  hJ  x1 x3 x5 s0 _ gx1 gx3 gx5 gs0 hF)
set_option maxHeartbeats 4000000 in
set_option maxRecDepth 100000 in
theorem c_X12_workField {l : Launch} {D : va_G} {cy : Nat → ClassId} {ad : Nat → Nat} (hin : jIn ad ksR.length) : jCN l D vwCl (tyR cy) cy ad ftR ksR (XtR ad) yX12_workField (.code yX12_workField cX12_workField 8 none :: Om) ({ frames := 2, cells := 0, slots := 0, locals := 45 } : Room) 0 (W_X12_workField ad) := by
  refine jCN_of (y := yX12_workField) (cc := cX12_workField) (nL := 8) (rk := 0) (rm := ({ frames := 2, cells := 0, slots := 0, locals := 45 } : Room)) (own := RX12) (tyR_ok cy) hin (XtR_ok ad) Om_good (by decide) rfl ?_
  intro Q av M hF
  obtain ⟨p1, p2, p3, rfl, gp1, gp2, gp3, hF⟩ := hF
  refine ⟨Nat.le_of_ble_eq_true rfl, fun J hJ => ?_⟩
  show J 0 [(0, .ref (ad 0)), (1, .int (Ii p1)), (2, .int (Ii p2)), (3, .long (Ll p3))] [] M
  unfold w_X12_workField at hF
  refine j_iconst hJ dX12_workField_0 ?_
  refine j_istore (lv' := [(5, .int (Ii (-1))), (0, .ref (ad 0)), (1, .int (Ii p1)), (2, .int (Ii p2)), (3, .long (Ll p3))]) hJ dX12_workField_1 (by decide) rfl ?_
  refine j_iload_n hJ dX12_workField_3 rfl 3 rfl ?_
  refine j_if_eq hJ 11 (jz_ri gp2) dX12_workField_4 (by decide) (fun z1 => ?_) (fun z1 => ?_)
  · have hF := hF.1 z1
    refine j_aload_n hJ dX12_workField_11 rfl 1 rfl ?_
    refine j_gr (e := 40) hJ kR_0 fR_15_50 fl_X12_189 dX12_workField_12 rfl ?_
    refine j_aload_n hJ dX12_workField_15 rfl 1 rfl ?_
    refine j_aload_n hJ dX12_workField_16 rfl 1 rfl ?_
    refine j_gi hJ kR_0 fR_15_97 rfl fl_X12_826 dX12_workField_17 (fun v2 ev2 gv2 => ?_)
    have hF := hF v2 ev2 gv2
    refine j_iload_n hJ dX12_workField_20 rfl 2 rfl ?_
    refine j_callVi hJ (c_X12_at (l := l) (D := D) (cy := cy) (ad := ad) hin) rfl om_1153 ⟨rfl, rfl, Nat.le_of_ble_eq_true rfl, Nat.le_of_ble_eq_true rfl⟩ [.int (Ii v2), .int (Ii p1)] mv_X12_545 hd_X12_atv kR_0 rfl rfl rfl (Nat.le_of_ble_eq_true rfl) dX12_workField_21 ⟨v2, p1, rfl, gv2, gp1, hF⟩ (fun r3 M4 gr3 qM4 => ?_)
    have hF := qM4 gr3
    refine j_iald hJ gr3 kR_40 hF.1 hF.2.1 dX12_workField_24 (fun v5 ev5 gv5 => ?_)
    have hF := hF.2.2 v5 ev5 gv5
    exact j_sub hJ [1, 2, 4, 0] rfl (k_X12_workField_b25 hin  hJ  p1 p3 (-1) v5 _ gp1 gp3 rk_m1 gv5 hF)
  · have hF := hF.2 z1
    refine j_iconst hJ dX12_workField_7 ?_
    refine j_goto hJ 25 dX12_workField_8 (by decide) ?_
    exact j_sub hJ [1, 2, 4, 0] rfl (k_X12_workField_b25 hin  hJ  p1 p3 (-1) (-1) _ gp1 gp3 rk_m1 rk_m1 hF)
def W_X12_isNamed (ad : Nat → Nat) (Q : Int → MM → Prop) (av : List Value) (M : MM) : Prop := ∃ (p1 : Int) (p2 : Int) (p3 : Int), av = [.ref (ad 0), .int (Ii p1), .long (Ll p2), .int (Ii p3)] ∧ ri_ p1 ∧ rl_ p2 ∧ (p3 = 0 ∨ p3 = 1) ∧ w_X12_isNamed  Q p1 p2 p3 M
set_option maxHeartbeats 4000000 in
set_option maxRecDepth 100000 in
theorem k_X12_isNamed_b59 {l : Launch} {D : va_G} {cy : Nat → ClassId} {ad : Nat → Nat} {Q : Int → MM → Prop} {J : Nat → List (Nat × Value) → List Value → MM → Prop} (hin : jIn ad ksR.length)   (hJ : jOk l D vwCl (tyR cy) cy ad ftR ksR (XtR ad) Om RX12 cX12_isNamed 7 3 ({ frames := 0, cells := 0, slots := 0, locals := 0 } : Room) Q J) {K26 : Int → Int → Int → Int → MM → Prop} (hK26 : ∀ (x2 x4 x5 x6 : Int) (M : MM), rl_ x2 → ri_ x4 → ri_ x5 → ri_ x6 → K26 x2 x4 x5 x6 M → J 26 [(0, .ref (ad 0)), (2, .long (Ll x2)), (4, .int (Ii x4)), (5, .int (Ii x5)), (6, .int (Ii x6))] [] M) : ∀ (x2 x4 x6 s0 : Int) (M : MM), rl_ x2 → ri_ x4 → ri_ x6 → ri_ s0 → w_X12_isNamed_b59  Q K26 x2 x4 x6 s0 M → J 59 [(0, .ref (ad 0)), (2, .long (Ll x2)), (4, .int (Ii x4)), (6, .int (Ii x6))] [.int (Ii s0)] M := by
  intro x2 x4 x6 s0 M gx2 gx4 gx6 gs0 hF
  unfold w_X12_isNamed_b59 at hF
  refine j_istore (lv' := [(5, .int (Ii s0)), (0, .ref (ad 0)), (2, .long (Ll x2)), (4, .int (Ii x4)), (6, .int (Ii x6))]) hJ dX12_isNamed_59 (by decide) rfl ?_
  refine j_aload_n hJ dX12_isNamed_61 rfl 1 rfl ?_
  refine j_gr (e := 8) hJ kR_0 fR_15_9 fl_X12_91 dX12_isNamed_62 rfl ?_
  refine j_iload hJ dX12_isNamed_65 4 rfl ?_
  refine j_iald hJ gx6 kR_8 hF.1 hF.2.1 dX12_isNamed_67 (fun v1 ev1 gv1 => ?_)
  have hF := hF.2.2 v1 ev1 gv1
  refine j_istore (lv' := [(6, .int (Ii v1)), (5, .int (Ii s0)), (0, .ref (ad 0)), (2, .long (Ll x2)), (4, .int (Ii x4))]) hJ dX12_isNamed_68 (by decide) rfl ?_
  refine j_goto hJ 26 dX12_isNamed_70 (by decide) ?_
  exact j_sub hJ [2, 3, 4, 1, 0] rfl (hK26 x2 x4 s0 v1 _ gx2 gx4 gs0 gv1 hF)
set_option maxHeartbeats 4000000 in
set_option maxRecDepth 100000 in
theorem k_X12_isNamed_b54 {l : Launch} {D : va_G} {cy : Nat → ClassId} {ad : Nat → Nat} {Q : Int → MM → Prop} {J : Nat → List (Nat × Value) → List Value → MM → Prop} (hin : jIn ad ksR.length)   (hJ : jOk l D vwCl (tyR cy) cy ad ftR ksR (XtR ad) Om RX12 cX12_isNamed 7 3 ({ frames := 0, cells := 0, slots := 0, locals := 0 } : Room) Q J) {K26 : Int → Int → Int → Int → MM → Prop} (hK26 : ∀ (x2 x4 x5 x6 : Int) (M : MM), rl_ x2 → ri_ x4 → ri_ x5 → ri_ x6 → K26 x2 x4 x5 x6 M → J 26 [(0, .ref (ad 0)), (2, .long (Ll x2)), (4, .int (Ii x4)), (5, .int (Ii x5)), (6, .int (Ii x6))] [] M) : ∀ (x2 x4 x6 : Int) (M : MM), rl_ x2 → ri_ x4 → ri_ x6 → w_X12_isNamed_b54  Q K26 x2 x4 x6 M → J 54 [(0, .ref (ad 0)), (2, .long (Ll x2)), (4, .int (Ii x4)), (6, .int (Ii x6))] [] M := by
  intro x2 x4 x6 M gx2 gx4 gx6 hF
  unfold w_X12_isNamed_b54 at hF
  refine j_iconst hJ dX12_isNamed_54 ?_
  refine j_goto hJ 59 dX12_isNamed_55 (by decide) ?_
  exact j_sub hJ [0, 1, 2, 3] rfl (k_X12_isNamed_b59 hin  hJ hK26 x2 x4 x6 1 _ gx2 gx4 gx6 rk_1 hF)
set_option maxHeartbeats 4000000 in
set_option maxRecDepth 100000 in
theorem k_X12_isNamed_b26 {l : Launch} {D : va_G} {cy : Nat → ClassId} {ad : Nat → Nat} {Q : Int → MM → Prop} {J : Nat → List (Nat × Value) → List Value → MM → Prop} (hin : jIn ad ksR.length)   (hJ : jOk l D vwCl (tyR cy) cy ad ftR ksR (XtR ad) Om RX12 cX12_isNamed 7 3 ({ frames := 0, cells := 0, slots := 0, locals := 0 } : Room) Q J)  : ∀ (x2 x4 x5 x6 : Int) (M : MM), rl_ x2 → ri_ x4 → ri_ x5 → ri_ x6 → w_X12_isNamed_b26  Q  x2 x4 x5 x6 M → J 26 [(0, .ref (ad 0)), (2, .long (Ll x2)), (4, .int (Ii x4)), (5, .int (Ii x5)), (6, .int (Ii x6))] [] M := by
  have H9 : ∀ (n : Nat) (x2 x4 x5 x6 : Int) (M : MM), rl_ x2 → ri_ x4 → ri_ x5 → ri_ x6 → jit (fun _ _ _ _ _ => False) (wb_X12_isNamed_b26  Q ) n x2 x4 x5 x6 M → J 26 [(0, .ref (ad 0)), (2, .long (Ll x2)), (4, .int (Ii x4)), (5, .int (Ii x5)), (6, .int (Ii x6))] [] M := by
    intro n
    induction n with
    | zero => intro x2 x4 x5 x6 M gx2 gx4 gx5 gx6 hF; exact False.elim hF
    | succ n ih =>
    intro x2 x4 x5 x6 M gx2 gx4 gx5 gx6 hF
    have hF : wb_X12_isNamed_b26  Q  (jit (fun _ _ _ _ _ => False) (wb_X12_isNamed_b26  Q ) n) x2 x4 x5 x6 M := hF
    unfold wb_X12_isNamed_b26 at hF
    refine j_iload hJ dX12_isNamed_26 4 rfl ?_
    refine j_iconst hJ dX12_isNamed_28 ?_
    refine j_icmp_eq hJ 73 gx6 rk_m1 dX12_isNamed_29 (by decide) (fun z1 => ?_) (fun z1 => ?_)
    · have hF := hF.1 z1
      refine j_iload hJ dX12_isNamed_73 3 rfl ?_
      exact j_zret hJ rfl hF.1 dX12_isNamed_75 hF.2
    · have hF := hF.2 z1
      refine j_iload hJ dX12_isNamed_32 2 rfl ?_
      refine j_if_eq hJ 73 gx4 dX12_isNamed_34 (by decide) (fun z2 => ?_) (fun z2 => ?_)
      · have hF := hF.1 z2
        refine j_iload hJ dX12_isNamed_73 3 rfl ?_
        exact j_zret hJ rfl hF.1 dX12_isNamed_75 hF.2
      · have hF := hF.2 z2
        refine j_iload hJ dX12_isNamed_37 3 rfl ?_
        refine j_if_ne hJ 54 gx5 dX12_isNamed_39 (by decide) (fun z3 => ?_) (fun z3 => ?_)
        · have hF := hF.1 z3
          exact j_sub hJ [0, 1, 2, 4] rfl (k_X12_isNamed_b54 hin  hJ ih x2 x4 x6 _ gx2 gx4 gx6 hF)
        · have hF := hF.2 z3
          refine j_aload_n hJ dX12_isNamed_42 rfl 0 rfl ?_
          refine j_gr (e := 4) hJ kR_0 fR_15_5 fl_X12_78 dX12_isNamed_43 rfl ?_
          refine j_iload hJ dX12_isNamed_46 4 rfl ?_
          refine j_lald hJ gx6 kR_4 hF.1 hF.2.1 dX12_isNamed_48 (fun v4 ev4 gv4 => ?_)
          have hF := hF.2.2 v4 ev4 gv4
          refine j_lload_n hJ dX12_isNamed_49 rfl 1 rfl ?_
          refine j_lcmp_ne hJ 58 gv4 gx2 dX12_isNamed_50 dX12_isNamed_51 (by decide) (fun z5 => ?_) (fun z5 => ?_)
          · have hF := hF.1 z5
            refine j_iconst hJ dX12_isNamed_58 ?_
            exact j_sub hJ [0, 1, 2, 4] rfl (k_X12_isNamed_b59 hin  hJ ih x2 x4 x6 0 _ gx2 gx4 gx6 rk_0 hF)
          · have hF := hF.2 z5
            exact j_sub hJ [0, 1, 2, 4] rfl (k_X12_isNamed_b54 hin  hJ ih x2 x4 x6 _ gx2 gx4 gx6 hF)
  intro x2 x4 x5 x6 M gx2 gx4 gx5 gx6 hF
  obtain ⟨n, hF⟩ := hF
  exact H9 n x2 x4 x5 x6 M gx2 gx4 gx5 gx6 hF
set_option maxHeartbeats 4000000 in
set_option maxRecDepth 100000 in
theorem k_X12_isNamed_b16 {l : Launch} {D : va_G} {cy : Nat → ClassId} {ad : Nat → Nat} {Q : Int → MM → Prop} {J : Nat → List (Nat × Value) → List Value → MM → Prop} (hin : jIn ad ksR.length)   (hJ : jOk l D vwCl (tyR cy) cy ad ftR ksR (XtR ad) Om RX12 cX12_isNamed 7 3 ({ frames := 0, cells := 0, slots := 0, locals := 0 } : Room) Q J)  : ∀ (x1 x2 x4 s0 : Int) (M : MM), ri_ x1 → rl_ x2 → ri_ x4 → ri_ s0 → w_X12_isNamed_b16  Q  x1 x2 x4 s0 M → J 16 [(0, .ref (ad 0)), (1, .int (Ii x1)), (2, .long (Ll x2)), (4, .int (Ii x4))] [.int (Ii s0)] M := by
  intro x1 x2 x4 s0 M gx1 gx2 gx4 gs0 hF
  unfold w_X12_isNamed_b16 at hF
  refine j_istore (lv' := [(5, .int (Ii s0)), (0, .ref (ad 0)), (1, .int (Ii x1)), (2, .long (Ll x2)), (4, .int (Ii x4))]) hJ dX12_isNamed_16 (by decide) rfl ?_
  refine j_aload_n hJ dX12_isNamed_18 rfl 1 rfl ?_
  refine j_gr (e := 8) hJ kR_0 fR_15_9 fl_X12_91 dX12_isNamed_19 rfl ?_
  refine j_iload_n hJ dX12_isNamed_22 rfl 2 rfl ?_
  refine j_iald hJ gx1 kR_8 hF.1 hF.2.1 dX12_isNamed_23 (fun v1 ev1 gv1 => ?_)
  have hF := hF.2.2 v1 ev1 gv1
  refine j_istore (lv' := [(6, .int (Ii v1)), (5, .int (Ii s0)), (0, .ref (ad 0)), (1, .int (Ii x1)), (2, .long (Ll x2)), (4, .int (Ii x4))]) hJ dX12_isNamed_24 (by decide) rfl ?_
  exact j_sub hJ [2, 4, 5, 1, 0] rfl (k_X12_isNamed_b26 hin  hJ  x2 x4 s0 v1 _ gx2 gx4 gs0 gv1 hF)
set_option maxHeartbeats 4000000 in
set_option maxRecDepth 100000 in
theorem c_X12_isNamed {l : Launch} {D : va_G} {cy : Nat → ClassId} {ad : Nat → Nat} (hin : jIn ad ksR.length) : jCN l D vwCl (tyR cy) cy ad ftR ksR (XtR ad) yX12_isNamed (.code yX12_isNamed cX12_isNamed 7 (some .boolean) :: Om) ({ frames := 0, cells := 0, slots := 0, locals := 0 } : Room) 3 (W_X12_isNamed ad) := by
  refine jCN_of (y := yX12_isNamed) (cc := cX12_isNamed) (nL := 7) (rk := 3) (rm := ({ frames := 0, cells := 0, slots := 0, locals := 0 } : Room)) (own := RX12) (tyR_ok cy) hin (XtR_ok ad) Om_good (by decide) rfl ?_
  intro Q av M hF
  obtain ⟨p1, p2, p3, rfl, gp1, gp2, gp3, hF⟩ := hF
  refine ⟨Nat.le_of_ble_eq_true rfl, fun J hJ => ?_⟩
  show J 0 [(0, .ref (ad 0)), (1, .int (Ii p1)), (2, .long (Ll p2)), (4, .int (Ii p3))] [] M
  unfold w_X12_isNamed at hF
  refine j_aload_n hJ dX12_isNamed_0 rfl 0 rfl ?_
  refine j_gr (e := 4) hJ kR_0 fR_15_5 fl_X12_78 dX12_isNamed_1 rfl ?_
  refine j_iload_n hJ dX12_isNamed_4 rfl 1 rfl ?_
  refine j_lald hJ gp1 kR_4 hF.1 hF.2.1 dX12_isNamed_5 (fun v1 ev1 gv1 => ?_)
  have hF := hF.2.2 v1 ev1 gv1
  refine j_lload_n hJ dX12_isNamed_6 rfl 2 rfl ?_
  refine j_lcmp_ne hJ 15 gv1 gp2 dX12_isNamed_7 dX12_isNamed_8 (by decide) (fun z2 => ?_) (fun z2 => ?_)
  · have hF := hF.1 z2
    refine j_iconst hJ dX12_isNamed_15 ?_
    exact j_sub hJ [0, 1, 2, 3] rfl (k_X12_isNamed_b16 hin  hJ  p1 p2 p3 0 _ gp1 gp2 (jz_ri gp3) rk_0 hF)
  · have hF := hF.2 z2
    refine j_iconst hJ dX12_isNamed_11 ?_
    refine j_goto hJ 16 dX12_isNamed_12 (by decide) ?_
    exact j_sub hJ [0, 1, 2, 3] rfl (k_X12_isNamed_b16 hin  hJ  p1 p2 p3 1 _ gp1 gp2 (jz_ri gp3) rk_1 hF)
def W_X12_gather (ad : Nat → Nat) (Q : Int → MM → Prop) (av : List Value) (M : MM) : Prop := ∃ (p1 : Int) (p2 : Int), av = [.ref (ad 0), .int (Ii p1), .int (Ii p2)] ∧ ri_ p1 ∧ ri_ p2 ∧ w_X12_gather  Q p1 p2 M
set_option maxHeartbeats 4000000 in
set_option maxRecDepth 100000 in
theorem c_X12_gather {l : Launch} {D : va_G} {cy : Nat → ClassId} {ad : Nat → Nat} (hin : jIn ad ksR.length) : jCN l D vwCl (tyR cy) cy ad ftR ksR (XtR ad) yX12_gather (.code yX12_gather cX12_gather 3 none :: Om) ({ frames := 0, cells := 0, slots := 0, locals := 0 } : Room) 0 (W_X12_gather ad) := by
  refine jCN_of (y := yX12_gather) (cc := cX12_gather) (nL := 3) (rk := 0) (rm := ({ frames := 0, cells := 0, slots := 0, locals := 0 } : Room)) (own := RX12) (tyR_ok cy) hin (XtR_ok ad) Om_good (by decide) rfl ?_
  intro Q av M hF
  obtain ⟨p1, p2, rfl, gp1, gp2, hF⟩ := hF
  refine ⟨Nat.le_of_ble_eq_true rfl, fun J hJ => ?_⟩
  show J 0 [(0, .ref (ad 0)), (1, .int (Ii p1)), (2, .int (Ii p2))] [] M
  unfold w_X12_gather at hF
  refine j_aload_n hJ dX12_gather_0 rfl 0 rfl ?_
  refine j_gr (e := 73) hJ kR_0 fR_15_105 fl_X12_294 dX12_gather_1 rfl ?_
  refine j_sipush hJ dX12_gather_4 (by decide) ?_
  refine j_iload_n hJ dX12_gather_7 rfl 1 rfl ?_
  refine j_imul hJ dX12_gather_8 ?_
  have g1 := hF.1; have hF := hF.2
  refine j_aload_n hJ dX12_gather_9 rfl 0 rfl ?_
  refine j_gr (e := 74) hJ kR_0 fR_15_106 fl_X12_297 dX12_gather_10 rfl ?_
  refine j_iload_n hJ dX12_gather_13 rfl 1 rfl ?_
  refine j_iald hJ gp1 kR_74 hF.1 hF.2.1 dX12_gather_14 (fun v2 ev2 gv2 => ?_)
  have hF := hF.2.2 v2 ev2 gv2
  refine j_iadd hJ dX12_gather_15 ?_
  have g3 := hF.1; have hF := hF.2
  refine j_iload_n hJ dX12_gather_16 rfl 2 rfl ?_
  refine j_iast hJ g3 gp2 kR_73 hF.1 hF.2.1 dX12_gather_17 (fun M4 eM4 => ?_)
  have hF := hF.2.2 M4 eM4
  refine j_aload_n hJ dX12_gather_18 rfl 0 rfl ?_
  refine j_gr (e := 74) hJ kR_0 fR_15_106 fl_X12_297 dX12_gather_19 rfl ?_
  refine j_iload_n hJ dX12_gather_22 rfl 1 rfl ?_
  refine j_dup2_11 hJ dX12_gather_23 rfl rfl ?_
  refine j_iald hJ gp1 kR_74 hF.1 hF.2.1 dX12_gather_24 (fun v5 ev5 gv5 => ?_)
  have hF := hF.2.2 v5 ev5 gv5
  refine j_iconst hJ dX12_gather_25 ?_
  refine j_iadd hJ dX12_gather_26 ?_
  have g6 := hF.1; have hF := hF.2
  refine j_iast hJ gp1 g6 kR_74 hF.1 hF.2.1 dX12_gather_27 (fun M7 eM7 => ?_)
  have hF := hF.2.2 M7 eM7
  exact j_vret hJ rfl dX12_gather_28 hF
def rm_gw_ (dp : Nat) : Room := { frames := 4 + dp, cells := 0, slots := 0, locals := 96 + 29 * dp }
def W_X12_work (dp : Nat) (ad : Nat → Nat) (Q : Int → MM → Prop) (av : List Value) (M : MM) : Prop := ∃ (p1 : Int), av = [.ref (ad 0), .int (Ii p1)] ∧ ri_ p1 ∧ gw_  dp 0 Q [p1] M
def W_X12_workOne (dp : Nat) (ad : Nat → Nat) (Q : Int → MM → Prop) (av : List Value) (M : MM) : Prop := ∃ (p1 : Int), av = [.ref (ad 0), .int (Ii p1)] ∧ ri_ p1 ∧ gw_  dp 1 Q [p1] M
def W_X12_workPart (dp : Nat) (ad : Nat → Nat) (Q : Int → MM → Prop) (av : List Value) (M : MM) : Prop := ∃ (p1 : Int), av = [.ref (ad 0), .int (Ii p1)] ∧ ri_ p1 ∧ gw_  dp 2 Q [p1] M
def W_X12_workBoth (dp : Nat) (ad : Nat → Nat) (Q : Int → MM → Prop) (av : List Value) (M : MM) : Prop := ∃ (p1 : Int) (p2 : Int), av = [.ref (ad 0), .int (Ii p1), .int (Ii p2)] ∧ ri_ p1 ∧ (p2 = 0 ∨ p2 = 1) ∧ gw_  dp 3 Q [p1, p2] M
def W_X12_workTwo (dp : Nat) (ad : Nat → Nat) (Q : Int → MM → Prop) (av : List Value) (M : MM) : Prop := ∃ (p1 : Int), av = [.ref (ad 0), .int (Ii p1)] ∧ ri_ p1 ∧ gw_  dp 4 Q [p1] M
def W_X12_workSet (dp : Nat) (ad : Nat → Nat) (Q : Int → MM → Prop) (av : List Value) (M : MM) : Prop := ∃ (p1 : Int) (p2 : Int), av = [.ref (ad 0), .int (Ii p1), .int (Ii p2)] ∧ ri_ p1 ∧ ri_ p2 ∧ gw_  dp 5 Q [p1, p2] M
def W_X12_workFold (dp : Nat) (ad : Nat → Nat) (Q : Int → MM → Prop) (av : List Value) (M : MM) : Prop := ∃ (p1 : Int), av = [.ref (ad 0), .int (Ii p1)] ∧ ri_ p1 ∧ gw_  dp 6 Q [p1] M
set_option maxHeartbeats 4000000 in
set_option maxRecDepth 100000 in
theorem k_X12_work_b74 {l : Launch} {D : va_G} {cy : Nat → ClassId} {ad : Nat → Nat} {dp : Nat} {Q : Int → MM → Prop} {J : Nat → List (Nat × Value) → List Value → MM → Prop} (hin : jIn ad ksR.length)   (hg0 : jCN l D vwCl (tyR cy) cy ad ftR ksR (XtR ad) yX12_work (.code yX12_work cX12_work 3 none :: Om) (rm_gw_ dp) 0 (W_X12_work dp ad)) (hg1 : jCN l D vwCl (tyR cy) cy ad ftR ksR (XtR ad) yX12_workOne (.code yX12_workOne cX12_workOne 5 none :: Om) (rm_gw_ dp) 0 (W_X12_workOne dp ad)) (hg2 : jCN l D vwCl (tyR cy) cy ad ftR ksR (XtR ad) yX12_workPart (.code yX12_workPart cX12_workPart 4 none :: Om) (rm_gw_ dp) 0 (W_X12_workPart dp ad)) (hg3 : jCN l D vwCl (tyR cy) cy ad ftR ksR (XtR ad) yX12_workBoth (.code yX12_workBoth cX12_workBoth 3 none :: Om) (rm_gw_ dp) 0 (W_X12_workBoth dp ad)) (hg4 : jCN l D vwCl (tyR cy) cy ad ftR ksR (XtR ad) yX12_workTwo (.code yX12_workTwo cX12_workTwo 10 none :: Om) (rm_gw_ dp) 0 (W_X12_workTwo dp ad)) (hg5 : jCN l D vwCl (tyR cy) cy ad ftR ksR (XtR ad) yX12_workSet (.code yX12_workSet cX12_workSet 7 none :: Om) (rm_gw_ dp) 0 (W_X12_workSet dp ad)) (hg6 : jCN l D vwCl (tyR cy) cy ad ftR ksR (XtR ad) yX12_workFold (.code yX12_workFold cX12_workFold 10 none :: Om) (rm_gw_ dp) 0 (W_X12_workFold dp ad)) (hJ : jOk l D vwCl (tyR cy) cy ad ftR ksR (XtR ad) Om RX12 cX12_work 3 0 (rm_gw_ (dp + 1)) Q J)  : ∀ (s0 s1 : Int) (M : MM), ri_ s0 → ri_ s1 → w_X12_work_b74  (gw_  dp) Q  s0 s1 M → J 74 [] [.int (Ii s0), .int (Ii s1), .ref (ad 0)] M := by
  intro s0 s1 M gs0 gs1 hF
  unfold w_X12_work_b74 at hF
  refine j_callVv hJ hg3 rfl om_1213 ⟨rfl, rfl, by show _ ≤ _; simp only [rm_gw_]; omega, by show _ ≤ _; simp only [rm_gw_]; omega⟩ [.int (Ii s1), .int (Ii s0)] mv_X12_804 hd_X12_workBothv kR_0 rfl rfl rfl (Nat.le_of_ble_eq_true rfl) dX12_work_74 ⟨s1, s0, rfl, gs1, hF.1, hF.2⟩ (fun M2 qM2 => ?_)
  have hF := qM2
  refine j_goto hJ 243 dX12_work_77 (by decide) ?_
  exact j_vret hJ rfl dX12_work_243 hF
set_option maxHeartbeats 4000000 in
set_option maxRecDepth 100000 in
theorem k_X12_work_b61 {l : Launch} {D : va_G} {cy : Nat → ClassId} {ad : Nat → Nat} {dp : Nat} {Q : Int → MM → Prop} {J : Nat → List (Nat × Value) → List Value → MM → Prop} (hin : jIn ad ksR.length)   (hg0 : jCN l D vwCl (tyR cy) cy ad ftR ksR (XtR ad) yX12_work (.code yX12_work cX12_work 3 none :: Om) (rm_gw_ dp) 0 (W_X12_work dp ad)) (hg1 : jCN l D vwCl (tyR cy) cy ad ftR ksR (XtR ad) yX12_workOne (.code yX12_workOne cX12_workOne 5 none :: Om) (rm_gw_ dp) 0 (W_X12_workOne dp ad)) (hg2 : jCN l D vwCl (tyR cy) cy ad ftR ksR (XtR ad) yX12_workPart (.code yX12_workPart cX12_workPart 4 none :: Om) (rm_gw_ dp) 0 (W_X12_workPart dp ad)) (hg3 : jCN l D vwCl (tyR cy) cy ad ftR ksR (XtR ad) yX12_workBoth (.code yX12_workBoth cX12_workBoth 3 none :: Om) (rm_gw_ dp) 0 (W_X12_workBoth dp ad)) (hg4 : jCN l D vwCl (tyR cy) cy ad ftR ksR (XtR ad) yX12_workTwo (.code yX12_workTwo cX12_workTwo 10 none :: Om) (rm_gw_ dp) 0 (W_X12_workTwo dp ad)) (hg5 : jCN l D vwCl (tyR cy) cy ad ftR ksR (XtR ad) yX12_workSet (.code yX12_workSet cX12_workSet 7 none :: Om) (rm_gw_ dp) 0 (W_X12_workSet dp ad)) (hg6 : jCN l D vwCl (tyR cy) cy ad ftR ksR (XtR ad) yX12_workFold (.code yX12_workFold cX12_workFold 10 none :: Om) (rm_gw_ dp) 0 (W_X12_workFold dp ad)) (hJ : jOk l D vwCl (tyR cy) cy ad ftR ksR (XtR ad) Om RX12 cX12_work 3 0 (rm_gw_ (dp + 1)) Q J)  : ∀ (x1 x2 : Int) (M : MM), ri_ x1 → ri_ x2 → w_X12_work_b61  (gw_  dp) Q  x1 x2 M → J 61 [(0, .ref (ad 0)), (1, .int (Ii x1)), (2, .int (Ii x2))] [] M := by
  intro x1 x2 M gx1 gx2 hF
  unfold w_X12_work_b61 at hF
  refine j_aload_n hJ dX12_work_61 rfl 0 rfl ?_
  refine j_iload_n hJ dX12_work_62 rfl 1 rfl ?_
  refine j_iload_n hJ dX12_work_63 rfl 2 rfl ?_
  refine j_bipush hJ dX12_work_64 (by decide) ?_
  refine j_icmp_ne hJ 73 gx2 rk_6 dX12_work_66 (by decide) (fun z1 => ?_) (fun z1 => ?_)
  · have hF := hF.1 z1
    refine j_iconst hJ dX12_work_73 ?_
    exact j_sub hJ [] rfl (k_X12_work_b74 hin  hg0 hg1 hg2 hg3 hg4 hg5 hg6 hJ  0 x1 _ rk_0 gx1 hF)
  · have hF := hF.2 z1
    refine j_iconst hJ dX12_work_69 ?_
    refine j_goto hJ 74 dX12_work_70 (by decide) ?_
    exact j_sub hJ [] rfl (k_X12_work_b74 hin  hg0 hg1 hg2 hg3 hg4 hg5 hg6 hJ  1 x1 _ rk_1 gx1 hF)
set_option maxHeartbeats 4000000 in
set_option maxRecDepth 100000 in
theorem k_X12_work_b204 {l : Launch} {D : va_G} {cy : Nat → ClassId} {ad : Nat → Nat} {dp : Nat} {Q : Int → MM → Prop} {J : Nat → List (Nat × Value) → List Value → MM → Prop} (hin : jIn ad ksR.length)   (hg0 : jCN l D vwCl (tyR cy) cy ad ftR ksR (XtR ad) yX12_work (.code yX12_work cX12_work 3 none :: Om) (rm_gw_ dp) 0 (W_X12_work dp ad)) (hg1 : jCN l D vwCl (tyR cy) cy ad ftR ksR (XtR ad) yX12_workOne (.code yX12_workOne cX12_workOne 5 none :: Om) (rm_gw_ dp) 0 (W_X12_workOne dp ad)) (hg2 : jCN l D vwCl (tyR cy) cy ad ftR ksR (XtR ad) yX12_workPart (.code yX12_workPart cX12_workPart 4 none :: Om) (rm_gw_ dp) 0 (W_X12_workPart dp ad)) (hg3 : jCN l D vwCl (tyR cy) cy ad ftR ksR (XtR ad) yX12_workBoth (.code yX12_workBoth cX12_workBoth 3 none :: Om) (rm_gw_ dp) 0 (W_X12_workBoth dp ad)) (hg4 : jCN l D vwCl (tyR cy) cy ad ftR ksR (XtR ad) yX12_workTwo (.code yX12_workTwo cX12_workTwo 10 none :: Om) (rm_gw_ dp) 0 (W_X12_workTwo dp ad)) (hg5 : jCN l D vwCl (tyR cy) cy ad ftR ksR (XtR ad) yX12_workSet (.code yX12_workSet cX12_workSet 7 none :: Om) (rm_gw_ dp) 0 (W_X12_workSet dp ad)) (hg6 : jCN l D vwCl (tyR cy) cy ad ftR ksR (XtR ad) yX12_workFold (.code yX12_workFold cX12_workFold 10 none :: Om) (rm_gw_ dp) 0 (W_X12_workFold dp ad)) (hJ : jOk l D vwCl (tyR cy) cy ad ftR ksR (XtR ad) Om RX12 cX12_work 3 0 (rm_gw_ (dp + 1)) Q J)  : ∀ (s0 : Int) (M : MM), ri_ s0 → w_X12_work_b204  (gw_  dp) Q  s0 M → J 204 [] [.int (Ii s0), .ref (ad 0)] M := by
  intro s0 M gs0 hF
  unfold w_X12_work_b204 at hF
  refine j_callVv hJ (c_X12_truth (l := l) (D := D) (cy := cy) (ad := ad) hin) rfl om_1221 ⟨rfl, rfl, by show _ ≤ _; simp only [rm_gw_]; omega, by show _ ≤ _; simp only [rm_gw_]; omega⟩ [.int (Ii s0)] mv_X12_813 hd_X12_truthv kR_0 rfl rfl rfl (Nat.le_of_ble_eq_true rfl) dX12_work_204 ⟨s0, rfl, hF.1, hF.2⟩ (fun M2 qM2 => ?_)
  have hF := qM2
  refine j_goto hJ 243 dX12_work_207 (by decide) ?_
  exact j_vret hJ rfl dX12_work_243 hF
set_option maxHeartbeats 4000000 in
set_option maxRecDepth 100000 in
theorem k_X12_work_b192 {l : Launch} {D : va_G} {cy : Nat → ClassId} {ad : Nat → Nat} {dp : Nat} {Q : Int → MM → Prop} {J : Nat → List (Nat × Value) → List Value → MM → Prop} (hin : jIn ad ksR.length)   (hg0 : jCN l D vwCl (tyR cy) cy ad ftR ksR (XtR ad) yX12_work (.code yX12_work cX12_work 3 none :: Om) (rm_gw_ dp) 0 (W_X12_work dp ad)) (hg1 : jCN l D vwCl (tyR cy) cy ad ftR ksR (XtR ad) yX12_workOne (.code yX12_workOne cX12_workOne 5 none :: Om) (rm_gw_ dp) 0 (W_X12_workOne dp ad)) (hg2 : jCN l D vwCl (tyR cy) cy ad ftR ksR (XtR ad) yX12_workPart (.code yX12_workPart cX12_workPart 4 none :: Om) (rm_gw_ dp) 0 (W_X12_workPart dp ad)) (hg3 : jCN l D vwCl (tyR cy) cy ad ftR ksR (XtR ad) yX12_workBoth (.code yX12_workBoth cX12_workBoth 3 none :: Om) (rm_gw_ dp) 0 (W_X12_workBoth dp ad)) (hg4 : jCN l D vwCl (tyR cy) cy ad ftR ksR (XtR ad) yX12_workTwo (.code yX12_workTwo cX12_workTwo 10 none :: Om) (rm_gw_ dp) 0 (W_X12_workTwo dp ad)) (hg5 : jCN l D vwCl (tyR cy) cy ad ftR ksR (XtR ad) yX12_workSet (.code yX12_workSet cX12_workSet 7 none :: Om) (rm_gw_ dp) 0 (W_X12_workSet dp ad)) (hg6 : jCN l D vwCl (tyR cy) cy ad ftR ksR (XtR ad) yX12_workFold (.code yX12_workFold cX12_workFold 10 none :: Om) (rm_gw_ dp) 0 (W_X12_workFold dp ad)) (hJ : jOk l D vwCl (tyR cy) cy ad ftR ksR (XtR ad) Om RX12 cX12_work 3 0 (rm_gw_ (dp + 1)) Q J)  : ∀ (x2 : Int) (M : MM), ri_ x2 → w_X12_work_b192  (gw_  dp) Q  x2 M → J 192 [(0, .ref (ad 0)), (2, .int (Ii x2))] [] M := by
  intro x2 M gx2 hF
  unfold w_X12_work_b192 at hF
  refine j_aload_n hJ dX12_work_192 rfl 0 rfl ?_
  refine j_iload_n hJ dX12_work_193 rfl 1 rfl ?_
  refine j_bipush hJ dX12_work_194 (by decide) ?_
  refine j_icmp_ne hJ 203 gx2 rk_9 dX12_work_196 (by decide) (fun z1 => ?_) (fun z1 => ?_)
  · have hF := hF.1 z1
    refine j_iconst hJ dX12_work_203 ?_
    exact j_sub hJ [] rfl (k_X12_work_b204 hin  hg0 hg1 hg2 hg3 hg4 hg5 hg6 hJ  0 _ rk_0 hF)
  · have hF := hF.2 z1
    refine j_iconst hJ dX12_work_199 ?_
    refine j_goto hJ 204 dX12_work_200 (by decide) ?_
    exact j_sub hJ [] rfl (k_X12_work_b204 hin  hg0 hg1 hg2 hg3 hg4 hg5 hg6 hJ  1 _ rk_1 hF)
set_option maxHeartbeats 4000000 in
set_option maxRecDepth 100000 in
theorem k_X12_work_b100 {l : Launch} {D : va_G} {cy : Nat → ClassId} {ad : Nat → Nat} {dp : Nat} {Q : Int → MM → Prop} {J : Nat → List (Nat × Value) → List Value → MM → Prop} (hin : jIn ad ksR.length)   (hg0 : jCN l D vwCl (tyR cy) cy ad ftR ksR (XtR ad) yX12_work (.code yX12_work cX12_work 3 none :: Om) (rm_gw_ dp) 0 (W_X12_work dp ad)) (hg1 : jCN l D vwCl (tyR cy) cy ad ftR ksR (XtR ad) yX12_workOne (.code yX12_workOne cX12_workOne 5 none :: Om) (rm_gw_ dp) 0 (W_X12_workOne dp ad)) (hg2 : jCN l D vwCl (tyR cy) cy ad ftR ksR (XtR ad) yX12_workPart (.code yX12_workPart cX12_workPart 4 none :: Om) (rm_gw_ dp) 0 (W_X12_workPart dp ad)) (hg3 : jCN l D vwCl (tyR cy) cy ad ftR ksR (XtR ad) yX12_workBoth (.code yX12_workBoth cX12_workBoth 3 none :: Om) (rm_gw_ dp) 0 (W_X12_workBoth dp ad)) (hg4 : jCN l D vwCl (tyR cy) cy ad ftR ksR (XtR ad) yX12_workTwo (.code yX12_workTwo cX12_workTwo 10 none :: Om) (rm_gw_ dp) 0 (W_X12_workTwo dp ad)) (hg5 : jCN l D vwCl (tyR cy) cy ad ftR ksR (XtR ad) yX12_workSet (.code yX12_workSet cX12_workSet 7 none :: Om) (rm_gw_ dp) 0 (W_X12_workSet dp ad)) (hg6 : jCN l D vwCl (tyR cy) cy ad ftR ksR (XtR ad) yX12_workFold (.code yX12_workFold cX12_workFold 10 none :: Om) (rm_gw_ dp) 0 (W_X12_workFold dp ad)) (hJ : jOk l D vwCl (tyR cy) cy ad ftR ksR (XtR ad) Om RX12 cX12_work 3 0 (rm_gw_ (dp + 1)) Q J)  : ∀ (x1 x2 : Int) (M : MM), ri_ x1 → ri_ x2 → w_X12_work_b100  (gw_  dp) Q  x1 x2 M → J 100 [(0, .ref (ad 0)), (1, .int (Ii x1)), (2, .int (Ii x2))] [] M := by
  intro x1 x2 M gx1 gx2 hF
  unfold w_X12_work_b100 at hF
  refine j_iload_n hJ dX12_work_100 rfl 2 rfl ?_
  refine j_bipush hJ dX12_work_101 (by decide) ?_
  refine j_icmp_ne hJ 120 gx2 rk_100 dX12_work_103 (by decide) (fun z1 => ?_) (fun z1 => ?_)
  · have hF := hF.1 z1
    refine j_iload_n hJ dX12_work_120 rfl 2 rfl ?_
    refine j_bipush hJ dX12_work_121 (by decide) ?_
    refine j_icmp_ne hJ 146 gx2 rk_101 dX12_work_123 (by decide) (fun z2 => ?_) (fun z2 => ?_)
    · have hF := hF.1 z2
      refine j_iload_n hJ dX12_work_146 rfl 2 rfl ?_
      refine j_bipush hJ dX12_work_147 (by decide) ?_
      refine j_icmp_ne hJ 165 gx2 rk_27 dX12_work_149 (by decide) (fun z3 => ?_) (fun z3 => ?_)
      · have hF := hF.1 z3
        refine j_iload_n hJ dX12_work_165 rfl 2 rfl ?_
        refine j_bipush hJ dX12_work_166 (by decide) ?_
        refine j_icmp_ne hJ 180 gx2 rk_8 dX12_work_168 (by decide) (fun z4 => ?_) (fun z4 => ?_)
        · have hF := hF.1 z4
          refine j_iload_n hJ dX12_work_180 rfl 2 rfl ?_
          refine j_bipush hJ dX12_work_181 (by decide) ?_
          refine j_icmp_eq hJ 192 gx2 rk_9 dX12_work_183 (by decide) (fun z5 => ?_) (fun z5 => ?_)
          · have hF := hF.1 z5
            exact j_sub hJ [0, 2] rfl (k_X12_work_b192 hin  hg0 hg1 hg2 hg3 hg4 hg5 hg6 hJ  x2 _ gx2 hF)
          · have hF := hF.2 z5
            refine j_iload_n hJ dX12_work_186 rfl 2 rfl ?_
            refine j_bipush hJ dX12_work_187 (by decide) ?_
            refine j_icmp_ne hJ 210 gx2 rk_10 dX12_work_189 (by decide) (fun z6 => ?_) (fun z6 => ?_)
            · have hF := hF.1 z6
              refine j_iload_n hJ dX12_work_210 rfl 2 rfl ?_
              refine j_bipush hJ dX12_work_211 (by decide) ?_
              refine j_icmp_ne hJ 224 gx2 rk_115 dX12_work_213 (by decide) (fun z7 => ?_) (fun z7 => ?_)
              · have hF := hF.1 z7
                refine j_iload_n hJ dX12_work_224 rfl 2 rfl ?_
                refine j_bipush hJ dX12_work_225 (by decide) ?_
                refine j_icmp_ne hJ 238 gx2 rk_28 dX12_work_227 (by decide) (fun z8 => ?_) (fun z8 => ?_)
                · have hF := hF.1 z8
                  refine j_aload_n hJ dX12_work_238 rfl 0 rfl ?_
                  refine j_iload_n hJ dX12_work_239 rfl 1 rfl ?_
                  refine j_callVv hJ hg1 rfl om_1225 ⟨rfl, rfl, by show _ ≤ _; simp only [rm_gw_]; omega, by show _ ≤ _; simp only [rm_gw_]; omega⟩ [.int (Ii x1)] mv_X12_823 hd_X12_workOnev kR_0 rfl rfl rfl (Nat.le_of_ble_eq_true rfl) dX12_work_240 ⟨x1, rfl, gx1, hF⟩ (fun M10 qM10 => ?_)
                  have hF := qM10
                  exact j_vret hJ rfl dX12_work_243 hF
                · have hF := hF.2 z8
                  refine j_aload_n hJ dX12_work_230 rfl 0 rfl ?_
                  refine j_iload_n hJ dX12_work_231 rfl 1 rfl ?_
                  refine j_callVv hJ (c_X12_workNumbered (l := l) (D := D) (cy := cy) (ad := ad) hin) rfl om_1233 ⟨rfl, rfl, by show _ ≤ _; simp only [rm_gw_]; omega, by show _ ≤ _; simp only [rm_gw_]; omega⟩ [.int (Ii x1)] mv_X12_820 hd_X12_workNumberedv kR_0 rfl rfl rfl (Nat.le_of_ble_eq_true rfl) dX12_work_232 ⟨x1, rfl, gx1, hF⟩ (fun M12 qM12 => ?_)
                  have hF := qM12
                  refine j_goto hJ 243 dX12_work_235 (by decide) ?_
                  exact j_vret hJ rfl dX12_work_243 hF
              · have hF := hF.2 z7
                refine j_aload_n hJ dX12_work_216 rfl 0 rfl ?_
                refine j_iload_n hJ dX12_work_217 rfl 1 rfl ?_
                refine j_callVv hJ hg2 rfl om_1237 ⟨rfl, rfl, by show _ ≤ _; simp only [rm_gw_]; omega, by show _ ≤ _; simp only [rm_gw_]; omega⟩ [.int (Ii x1)] mv_X12_817 hd_X12_workPartv kR_0 rfl rfl rfl (Nat.le_of_ble_eq_true rfl) dX12_work_218 ⟨x1, rfl, gx1, hF⟩ (fun M14 qM14 => ?_)
                have hF := qM14
                refine j_goto hJ 243 dX12_work_221 (by decide) ?_
                exact j_vret hJ rfl dX12_work_243 hF
            · have hF := hF.2 z6
              exact j_sub hJ [0, 2] rfl (k_X12_work_b192 hin  hg0 hg1 hg2 hg3 hg4 hg5 hg6 hJ  x2 _ gx2 hF)
        · have hF := hF.2 z4
          refine j_aload_n hJ dX12_work_171 rfl 0 rfl ?_
          refine j_iconst hJ dX12_work_172 ?_
          refine j_lconst (x := 0) hJ dX12_work_173 rfl ?_
          refine j_callVv hJ (c_X12_give (l := l) (D := D) (cy := cy) (ad := ad) hin) rfl om_1217 ⟨rfl, rfl, by show _ ≤ _; simp only [rm_gw_]; omega, by show _ ≤ _; simp only [rm_gw_]; omega⟩ [.int (Ii 3), .long (Ll 0)] mv_X12_791 hd_X12_givev kR_0 rfl rfl rfl (Nat.le_of_ble_eq_true rfl) dX12_work_174 ⟨3, 0, rfl, rk_3, lkm_0, hF⟩ (fun M16 qM16 => ?_)
          have hF := qM16
          refine j_goto hJ 243 dX12_work_177 (by decide) ?_
          exact j_vret hJ rfl dX12_work_243 hF
      · have hF := hF.2 z3
        refine j_aload_n hJ dX12_work_152 rfl 0 rfl ?_
        refine j_iconst hJ dX12_work_153 ?_
        refine j_aload_n hJ dX12_work_154 rfl 0 rfl ?_
        refine j_gi hJ kR_0 fR_15_100 rfl fl_X12_810 dX12_work_155 (fun v17 ev17 gv17 => ?_)
        have hF := hF v17 ev17 gv17
        refine j_i2l hJ gv17 dX12_work_158 ?_
        refine j_callVv hJ (c_X12_give (l := l) (D := D) (cy := cy) (ad := ad) hin) rfl om_1217 ⟨rfl, rfl, by show _ ≤ _; simp only [rm_gw_]; omega, by show _ ≤ _; simp only [rm_gw_]; omega⟩ [.int (Ii 2), .long (Ll v17)] mv_X12_791 hd_X12_givev kR_0 rfl rfl rfl (Nat.le_of_ble_eq_true rfl) dX12_work_159 ⟨2, v17, rfl, rk_2, (rl_ri gv17), hF⟩ (fun M19 qM19 => ?_)
        have hF := qM19
        refine j_goto hJ 243 dX12_work_162 (by decide) ?_
        exact j_vret hJ rfl dX12_work_243 hF
    · have hF := hF.2 z2
      refine j_aload_n hJ dX12_work_126 rfl 0 rfl ?_
      refine j_iconst hJ dX12_work_127 ?_
      refine j_aload_n hJ dX12_work_128 rfl 0 rfl ?_
      refine j_gr (e := 72) hJ kR_0 fR_15_104 fl_X12_290 dX12_work_129 rfl ?_
      refine j_aload_n hJ dX12_work_132 rfl 0 rfl ?_
      refine j_gr (e := 67) hJ kR_0 fR_15_87 fl_X12_275 dX12_work_133 rfl ?_
      refine j_iload_n hJ dX12_work_136 rfl 1 rfl ?_
      refine j_iald hJ gx1 kR_67 hF.1 hF.2.1 dX12_work_137 (fun v20 ev20 gv20 => ?_)
      have hF := hF.2.2 v20 ev20 gv20
      refine j_iald hJ gv20 kR_72 hF.1 hF.2.1 dX12_work_138 (fun v21 ev21 gv21 => ?_)
      have hF := hF.2.2 v21 ev21 gv21
      refine j_i2l hJ gv21 dX12_work_139 ?_
      refine j_callVv hJ (c_X12_give (l := l) (D := D) (cy := cy) (ad := ad) hin) rfl om_1217 ⟨rfl, rfl, by show _ ≤ _; simp only [rm_gw_]; omega, by show _ ≤ _; simp only [rm_gw_]; omega⟩ [.int (Ii 2), .long (Ll v21)] mv_X12_791 hd_X12_givev kR_0 rfl rfl rfl (Nat.le_of_ble_eq_true rfl) dX12_work_140 ⟨2, v21, rfl, rk_2, (rl_ri gv21), hF⟩ (fun M23 qM23 => ?_)
      have hF := qM23
      refine j_goto hJ 243 dX12_work_143 (by decide) ?_
      exact j_vret hJ rfl dX12_work_243 hF
  · have hF := hF.2 z1
    refine j_aload_n hJ dX12_work_106 rfl 0 rfl ?_
    refine j_iconst hJ dX12_work_107 ?_
    refine j_aload_n hJ dX12_work_108 rfl 0 rfl ?_
    refine j_gr (e := 70) hJ kR_0 fR_15_90 fl_X12_284 dX12_work_109 rfl ?_
    refine j_iload_n hJ dX12_work_112 rfl 1 rfl ?_
    refine j_lald hJ gx1 kR_70 hF.1 hF.2.1 dX12_work_113 (fun v24 ev24 gv24 => ?_)
    have hF := hF.2.2 v24 ev24 gv24
    refine j_callVv hJ (c_X12_give (l := l) (D := D) (cy := cy) (ad := ad) hin) rfl om_1217 ⟨rfl, rfl, by show _ ≤ _; simp only [rm_gw_]; omega, by show _ ≤ _; simp only [rm_gw_]; omega⟩ [.int (Ii 0), .long (Ll v24)] mv_X12_791 hd_X12_givev kR_0 rfl rfl rfl (Nat.le_of_ble_eq_true rfl) dX12_work_114 ⟨0, v24, rfl, rk_0, gv24, hF⟩ (fun M26 qM26 => ?_)
    have hF := qM26
    refine j_goto hJ 243 dX12_work_117 (by decide) ?_
    exact j_vret hJ rfl dX12_work_243 hF
set_option maxHeartbeats 4000000 in
set_option maxRecDepth 100000 in
theorem k_X12_work_b50 {l : Launch} {D : va_G} {cy : Nat → ClassId} {ad : Nat → Nat} {dp : Nat} {Q : Int → MM → Prop} {J : Nat → List (Nat × Value) → List Value → MM → Prop} (hin : jIn ad ksR.length)   (hg0 : jCN l D vwCl (tyR cy) cy ad ftR ksR (XtR ad) yX12_work (.code yX12_work cX12_work 3 none :: Om) (rm_gw_ dp) 0 (W_X12_work dp ad)) (hg1 : jCN l D vwCl (tyR cy) cy ad ftR ksR (XtR ad) yX12_workOne (.code yX12_workOne cX12_workOne 5 none :: Om) (rm_gw_ dp) 0 (W_X12_workOne dp ad)) (hg2 : jCN l D vwCl (tyR cy) cy ad ftR ksR (XtR ad) yX12_workPart (.code yX12_workPart cX12_workPart 4 none :: Om) (rm_gw_ dp) 0 (W_X12_workPart dp ad)) (hg3 : jCN l D vwCl (tyR cy) cy ad ftR ksR (XtR ad) yX12_workBoth (.code yX12_workBoth cX12_workBoth 3 none :: Om) (rm_gw_ dp) 0 (W_X12_workBoth dp ad)) (hg4 : jCN l D vwCl (tyR cy) cy ad ftR ksR (XtR ad) yX12_workTwo (.code yX12_workTwo cX12_workTwo 10 none :: Om) (rm_gw_ dp) 0 (W_X12_workTwo dp ad)) (hg5 : jCN l D vwCl (tyR cy) cy ad ftR ksR (XtR ad) yX12_workSet (.code yX12_workSet cX12_workSet 7 none :: Om) (rm_gw_ dp) 0 (W_X12_workSet dp ad)) (hg6 : jCN l D vwCl (tyR cy) cy ad ftR ksR (XtR ad) yX12_workFold (.code yX12_workFold cX12_workFold 10 none :: Om) (rm_gw_ dp) 0 (W_X12_workFold dp ad)) (hJ : jOk l D vwCl (tyR cy) cy ad ftR ksR (XtR ad) Om RX12 cX12_work 3 0 (rm_gw_ (dp + 1)) Q J)  : ∀ (x1 x2 : Int) (M : MM), ri_ x1 → ri_ x2 → w_X12_work_b50  (gw_  dp) Q  x1 x2 M → J 50 [(0, .ref (ad 0)), (1, .int (Ii x1)), (2, .int (Ii x2))] [] M := by
  intro x1 x2 M gx1 gx2 hF
  unfold w_X12_work_b50 at hF
  refine j_iload_n hJ dX12_work_50 rfl 2 rfl ?_
  refine j_iconst hJ dX12_work_51 ?_
  refine j_icmp_eq hJ 61 gx2 rk_5 dX12_work_52 (by decide) (fun z1 => ?_) (fun z1 => ?_)
  · have hF := hF.1 z1
    exact j_sub hJ [0, 1, 2] rfl (k_X12_work_b61 hin  hg0 hg1 hg2 hg3 hg4 hg5 hg6 hJ  x1 x2 _ gx1 gx2 hF)
  · have hF := hF.2 z1
    refine j_iload_n hJ dX12_work_55 rfl 2 rfl ?_
    refine j_bipush hJ dX12_work_56 (by decide) ?_
    refine j_icmp_ne hJ 80 gx2 rk_6 dX12_work_58 (by decide) (fun z2 => ?_) (fun z2 => ?_)
    · have hF := hF.1 z2
      refine j_iload_n hJ dX12_work_80 rfl 2 rfl ?_
      refine j_bipush hJ dX12_work_81 (by decide) ?_
      refine j_icmp_lt hJ 100 gx2 rk_102 dX12_work_83 (by decide) (fun z3 => ?_) (fun z3 => ?_)
      · have hF := hF.1 z3
        exact j_sub hJ [0, 1, 2] rfl (k_X12_work_b100 hin  hg0 hg1 hg2 hg3 hg4 hg5 hg6 hJ  x1 x2 _ gx1 gx2 hF)
      · have hF := hF.2 z3
        refine j_iload_n hJ dX12_work_86 rfl 2 rfl ?_
        refine j_bipush hJ dX12_work_87 (by decide) ?_
        refine j_icmp_gt hJ 100 gx2 rk_112 dX12_work_89 (by decide) (fun z4 => ?_) (fun z4 => ?_)
        · have hF := hF.1 z4
          exact j_sub hJ [0, 1, 2] rfl (k_X12_work_b100 hin  hg0 hg1 hg2 hg3 hg4 hg5 hg6 hJ  x1 x2 _ gx1 gx2 hF)
        · have hF := hF.2 z4
          refine j_aload_n hJ dX12_work_92 rfl 0 rfl ?_
          refine j_iload_n hJ dX12_work_93 rfl 1 rfl ?_
          refine j_callVv hJ hg4 rfl om_1241 ⟨rfl, rfl, by show _ ≤ _; simp only [rm_gw_]; omega, by show _ ≤ _; simp only [rm_gw_]; omega⟩ [.int (Ii x1)] mv_X12_807 hd_X12_workTwov kR_0 rfl rfl rfl (Nat.le_of_ble_eq_true rfl) dX12_work_94 ⟨x1, rfl, gx1, hF⟩ (fun M6 qM6 => ?_)
          have hF := qM6
          refine j_goto hJ 243 dX12_work_97 (by decide) ?_
          exact j_vret hJ rfl dX12_work_243 hF
    · have hF := hF.2 z2
      exact j_sub hJ [0, 1, 2] rfl (k_X12_work_b61 hin  hg0 hg1 hg2 hg3 hg4 hg5 hg6 hJ  x1 x2 _ gx1 gx2 hF)
set_option maxHeartbeats 4000000 in
set_option maxRecDepth 100000 in
theorem k_X12_work_b11 {l : Launch} {D : va_G} {cy : Nat → ClassId} {ad : Nat → Nat} {dp : Nat} {Q : Int → MM → Prop} {J : Nat → List (Nat × Value) → List Value → MM → Prop} (hin : jIn ad ksR.length)   (hg0 : jCN l D vwCl (tyR cy) cy ad ftR ksR (XtR ad) yX12_work (.code yX12_work cX12_work 3 none :: Om) (rm_gw_ dp) 0 (W_X12_work dp ad)) (hg1 : jCN l D vwCl (tyR cy) cy ad ftR ksR (XtR ad) yX12_workOne (.code yX12_workOne cX12_workOne 5 none :: Om) (rm_gw_ dp) 0 (W_X12_workOne dp ad)) (hg2 : jCN l D vwCl (tyR cy) cy ad ftR ksR (XtR ad) yX12_workPart (.code yX12_workPart cX12_workPart 4 none :: Om) (rm_gw_ dp) 0 (W_X12_workPart dp ad)) (hg3 : jCN l D vwCl (tyR cy) cy ad ftR ksR (XtR ad) yX12_workBoth (.code yX12_workBoth cX12_workBoth 3 none :: Om) (rm_gw_ dp) 0 (W_X12_workBoth dp ad)) (hg4 : jCN l D vwCl (tyR cy) cy ad ftR ksR (XtR ad) yX12_workTwo (.code yX12_workTwo cX12_workTwo 10 none :: Om) (rm_gw_ dp) 0 (W_X12_workTwo dp ad)) (hg5 : jCN l D vwCl (tyR cy) cy ad ftR ksR (XtR ad) yX12_workSet (.code yX12_workSet cX12_workSet 7 none :: Om) (rm_gw_ dp) 0 (W_X12_workSet dp ad)) (hg6 : jCN l D vwCl (tyR cy) cy ad ftR ksR (XtR ad) yX12_workFold (.code yX12_workFold cX12_workFold 10 none :: Om) (rm_gw_ dp) 0 (W_X12_workFold dp ad)) (hJ : jOk l D vwCl (tyR cy) cy ad ftR ksR (XtR ad) Om RX12 cX12_work 3 0 (rm_gw_ (dp + 1)) Q J)  : ∀ (x1 : Int) (M : MM), ri_ x1 → w_X12_work_b11  (gw_  dp) Q  x1 M → J 11 [(0, .ref (ad 0)), (1, .int (Ii x1))] [] M := by
  intro x1 M gx1 hF
  unfold w_X12_work_b11 at hF
  refine j_aload_n hJ dX12_work_11 rfl 0 rfl ?_
  refine j_gz hJ kR_0 fR_15_103 rfl fl_X12_782 dX12_work_12 (fun v1 ev1 gv1 => ?_)
  have hF := hF v1 ev1 gv1
  refine j_if_eq hJ 23 (jz_ri gv1) dX12_work_15 (by decide) (fun z2 => ?_) (fun z2 => ?_)
  · have hF := hF.1 z2
    refine j_aload_n hJ dX12_work_23 rfl 0 rfl ?_
    refine j_gr (e := 66) hJ kR_0 fR_15_86 fl_X12_272 dX12_work_24 rfl ?_
    refine j_iload_n hJ dX12_work_27 rfl 1 rfl ?_
    refine j_iald hJ gx1 kR_66 hF.1 hF.2.1 dX12_work_28 (fun v3 ev3 gv3 => ?_)
    have hF := hF.2.2 v3 ev3 gv3
    refine j_istore_n (lv' := [(2, .int (Ii v3)), (0, .ref (ad 0)), (1, .int (Ii x1))]) hJ dX12_work_29 rfl (by decide) rfl ?_
    refine j_iload_n hJ dX12_work_30 rfl 0 rfl ?_
    refine j_bipush hJ dX12_work_31 (by decide) ?_
    refine j_icmp_lt hJ 50 gv3 rk_13 dX12_work_33 (by decide) (fun z4 => ?_) (fun z4 => ?_)
    · have hF := hF.1 z4
      exact j_sub hJ [1, 2, 0] rfl (k_X12_work_b50 hin  hg0 hg1 hg2 hg3 hg4 hg5 hg6 hJ  x1 v3 _ gx1 gv3 hF)
    · have hF := hF.2 z4
      refine j_iload_n hJ dX12_work_36 rfl 0 rfl ?_
      refine j_bipush hJ dX12_work_37 (by decide) ?_
      refine j_icmp_gt hJ 50 gv3 rk_18 dX12_work_39 (by decide) (fun z5 => ?_) (fun z5 => ?_)
      · have hF := hF.1 z5
        exact j_sub hJ [1, 2, 0] rfl (k_X12_work_b50 hin  hg0 hg1 hg2 hg3 hg4 hg5 hg6 hJ  x1 v3 _ gx1 gv3 hF)
      · have hF := hF.2 z5
        refine j_aload_n hJ dX12_work_42 rfl 1 rfl ?_
        refine j_iload_n hJ dX12_work_43 rfl 2 rfl ?_
        refine j_callVv hJ hg6 rfl om_1245 ⟨rfl, rfl, by show _ ≤ _; simp only [rm_gw_]; omega, by show _ ≤ _; simp only [rm_gw_]; omega⟩ [.int (Ii x1)] mv_X12_801 hd_X12_workFoldv kR_0 rfl rfl rfl (Nat.le_of_ble_eq_true rfl) dX12_work_44 ⟨x1, rfl, gx1, hF⟩ (fun M7 qM7 => ?_)
        have hF := qM7
        refine j_goto hJ 243 dX12_work_47 (by decide) ?_
        exact j_vret hJ rfl dX12_work_243 hF
  · have hF := hF.2 z2
    refine j_aload_n hJ dX12_work_18 rfl 0 rfl ?_
    refine j_callVv hJ (c_X12_nothing (l := l) (D := D) (cy := cy) (ad := ad) hin) rfl om_1229 ⟨rfl, rfl, by show _ ≤ _; simp only [rm_gw_]; omega, by show _ ≤ _; simp only [rm_gw_]; omega⟩ [] mv_X12_798 hd_X12_nothingv kR_0 rfl rfl rfl (Nat.le_of_ble_eq_true rfl) dX12_work_19 ⟨rfl, hF⟩ (fun M9 qM9 => ?_)
    have hF := qM9
    exact j_vret hJ rfl dX12_work_22 hF
set_option maxHeartbeats 4000000 in
set_option maxRecDepth 100000 in
theorem s_X12_work {l : Launch} {D : va_G} {cy : Nat → ClassId} {ad : Nat → Nat} {dp : Nat} (hin : jIn ad ksR.length) (hg0 : jCN l D vwCl (tyR cy) cy ad ftR ksR (XtR ad) yX12_work (.code yX12_work cX12_work 3 none :: Om) (rm_gw_ dp) 0 (W_X12_work dp ad)) (hg1 : jCN l D vwCl (tyR cy) cy ad ftR ksR (XtR ad) yX12_workOne (.code yX12_workOne cX12_workOne 5 none :: Om) (rm_gw_ dp) 0 (W_X12_workOne dp ad)) (hg2 : jCN l D vwCl (tyR cy) cy ad ftR ksR (XtR ad) yX12_workPart (.code yX12_workPart cX12_workPart 4 none :: Om) (rm_gw_ dp) 0 (W_X12_workPart dp ad)) (hg3 : jCN l D vwCl (tyR cy) cy ad ftR ksR (XtR ad) yX12_workBoth (.code yX12_workBoth cX12_workBoth 3 none :: Om) (rm_gw_ dp) 0 (W_X12_workBoth dp ad)) (hg4 : jCN l D vwCl (tyR cy) cy ad ftR ksR (XtR ad) yX12_workTwo (.code yX12_workTwo cX12_workTwo 10 none :: Om) (rm_gw_ dp) 0 (W_X12_workTwo dp ad)) (hg5 : jCN l D vwCl (tyR cy) cy ad ftR ksR (XtR ad) yX12_workSet (.code yX12_workSet cX12_workSet 7 none :: Om) (rm_gw_ dp) 0 (W_X12_workSet dp ad)) (hg6 : jCN l D vwCl (tyR cy) cy ad ftR ksR (XtR ad) yX12_workFold (.code yX12_workFold cX12_workFold 10 none :: Om) (rm_gw_ dp) 0 (W_X12_workFold dp ad)) : jCN l D vwCl (tyR cy) cy ad ftR ksR (XtR ad) yX12_work (.code yX12_work cX12_work 3 none :: Om) (rm_gw_ (dp + 1)) 0 (W_X12_work (dp + 1) ad) := by
  refine jCN_of (y := yX12_work) (cc := cX12_work) (nL := 3) (rk := 0) (rm := (rm_gw_ (dp + 1))) (own := RX12) (tyR_ok cy) hin (XtR_ok ad) Om_good (by decide) rfl ?_
  intro Q av M hF
  obtain ⟨p1, rfl, gp1, hF⟩ := hF
  refine ⟨Nat.le_of_ble_eq_true rfl, fun J hJ => ?_⟩
  show J 0 [(0, .ref (ad 0)), (1, .int (Ii p1))] [] M
  have hF : b_X12_work  (gw_  dp) Q p1 M := hF
  unfold b_X12_work at hF
  refine j_aload_n hJ dX12_work_0 rfl 0 rfl ?_
  refine j_gz hJ kR_0 fR_15_103 rfl fl_X12_782 dX12_work_1 (fun v1 ev1 gv1 => ?_)
  have hF := hF v1 ev1 gv1
  refine j_if_ne hJ 11 (jz_ri gv1) dX12_work_4 (by decide) (fun z2 => ?_) (fun z2 => ?_)
  · have hF := hF.1 z2
    exact j_sub hJ [0, 1] rfl (k_X12_work_b11 hin  hg0 hg1 hg2 hg3 hg4 hg5 hg6 hJ  p1 _ gp1 hF)
  · have hF := hF.2 z2
    refine j_aload_n hJ dX12_work_7 rfl 0 rfl ?_
    refine j_callVv hJ (c_X12_step (l := l) (D := D) (cy := cy) (ad := ad) hin) rfl om_1249 ⟨rfl, rfl, by show _ ≤ _; simp only [rm_gw_]; omega, by show _ ≤ _; simp only [rm_gw_]; omega⟩ [] mv_X12_795 hd_X12_stepv kR_0 rfl rfl rfl (Nat.le_of_ble_eq_true rfl) dX12_work_8 ⟨rfl, hF⟩ (fun M4 qM4 => ?_)
    have hF := qM4
    exact j_sub hJ [0, 1] rfl (k_X12_work_b11 hin  hg0 hg1 hg2 hg3 hg4 hg5 hg6 hJ  p1 _ gp1 hF)
set_option maxHeartbeats 4000000 in
set_option maxRecDepth 100000 in
theorem k_X12_workOne_b208 {l : Launch} {D : va_G} {cy : Nat → ClassId} {ad : Nat → Nat} {dp : Nat} {Q : Int → MM → Prop} {J : Nat → List (Nat × Value) → List Value → MM → Prop} (hin : jIn ad ksR.length)   (hg0 : jCN l D vwCl (tyR cy) cy ad ftR ksR (XtR ad) yX12_work (.code yX12_work cX12_work 3 none :: Om) (rm_gw_ dp) 0 (W_X12_work dp ad)) (hg1 : jCN l D vwCl (tyR cy) cy ad ftR ksR (XtR ad) yX12_workOne (.code yX12_workOne cX12_workOne 5 none :: Om) (rm_gw_ dp) 0 (W_X12_workOne dp ad)) (hg2 : jCN l D vwCl (tyR cy) cy ad ftR ksR (XtR ad) yX12_workPart (.code yX12_workPart cX12_workPart 4 none :: Om) (rm_gw_ dp) 0 (W_X12_workPart dp ad)) (hg3 : jCN l D vwCl (tyR cy) cy ad ftR ksR (XtR ad) yX12_workBoth (.code yX12_workBoth cX12_workBoth 3 none :: Om) (rm_gw_ dp) 0 (W_X12_workBoth dp ad)) (hg4 : jCN l D vwCl (tyR cy) cy ad ftR ksR (XtR ad) yX12_workTwo (.code yX12_workTwo cX12_workTwo 10 none :: Om) (rm_gw_ dp) 0 (W_X12_workTwo dp ad)) (hg5 : jCN l D vwCl (tyR cy) cy ad ftR ksR (XtR ad) yX12_workSet (.code yX12_workSet cX12_workSet 7 none :: Om) (rm_gw_ dp) 0 (W_X12_workSet dp ad)) (hg6 : jCN l D vwCl (tyR cy) cy ad ftR ksR (XtR ad) yX12_workFold (.code yX12_workFold cX12_workFold 10 none :: Om) (rm_gw_ dp) 0 (W_X12_workFold dp ad)) (hJ : jOk l D vwCl (tyR cy) cy ad ftR ksR (XtR ad) Om RX12 cX12_workOne 5 0 (rm_gw_ (dp + 1)) Q J)  : ∀ (s0 : Int) (M : MM), ri_ s0 → w_X12_workOne_b208  (gw_  dp) Q  s0 M → J 208 [] [.int (Ii s0), .ref (ad 0)] M := by
  intro s0 M gs0 hF
  unfold w_X12_workOne_b208 at hF
  refine j_callVv hJ (c_X12_truth (l := l) (D := D) (cy := cy) (ad := ad) hin) rfl om_1221 ⟨rfl, rfl, by show _ ≤ _; simp only [rm_gw_]; omega, by show _ ≤ _; simp only [rm_gw_]; omega⟩ [.int (Ii s0)] mv_X12_813 hd_X12_truthv kR_0 rfl rfl rfl (Nat.le_of_ble_eq_true rfl) dX12_workOne_208 ⟨s0, rfl, hF.1, hF.2⟩ (fun M2 qM2 => ?_)
  have hF := qM2
  refine j_goto hJ 350 dX12_workOne_211 (by decide) ?_
  exact j_vret hJ rfl dX12_workOne_350 hF
set_option maxHeartbeats 4000000 in
set_option maxRecDepth 100000 in
theorem k_X12_workOne_b207 {l : Launch} {D : va_G} {cy : Nat → ClassId} {ad : Nat → Nat} {dp : Nat} {Q : Int → MM → Prop} {J : Nat → List (Nat × Value) → List Value → MM → Prop} (hin : jIn ad ksR.length)   (hg0 : jCN l D vwCl (tyR cy) cy ad ftR ksR (XtR ad) yX12_work (.code yX12_work cX12_work 3 none :: Om) (rm_gw_ dp) 0 (W_X12_work dp ad)) (hg1 : jCN l D vwCl (tyR cy) cy ad ftR ksR (XtR ad) yX12_workOne (.code yX12_workOne cX12_workOne 5 none :: Om) (rm_gw_ dp) 0 (W_X12_workOne dp ad)) (hg2 : jCN l D vwCl (tyR cy) cy ad ftR ksR (XtR ad) yX12_workPart (.code yX12_workPart cX12_workPart 4 none :: Om) (rm_gw_ dp) 0 (W_X12_workPart dp ad)) (hg3 : jCN l D vwCl (tyR cy) cy ad ftR ksR (XtR ad) yX12_workBoth (.code yX12_workBoth cX12_workBoth 3 none :: Om) (rm_gw_ dp) 0 (W_X12_workBoth dp ad)) (hg4 : jCN l D vwCl (tyR cy) cy ad ftR ksR (XtR ad) yX12_workTwo (.code yX12_workTwo cX12_workTwo 10 none :: Om) (rm_gw_ dp) 0 (W_X12_workTwo dp ad)) (hg5 : jCN l D vwCl (tyR cy) cy ad ftR ksR (XtR ad) yX12_workSet (.code yX12_workSet cX12_workSet 7 none :: Om) (rm_gw_ dp) 0 (W_X12_workSet dp ad)) (hg6 : jCN l D vwCl (tyR cy) cy ad ftR ksR (XtR ad) yX12_workFold (.code yX12_workFold cX12_workFold 10 none :: Om) (rm_gw_ dp) 0 (W_X12_workFold dp ad)) (hJ : jOk l D vwCl (tyR cy) cy ad ftR ksR (XtR ad) Om RX12 cX12_workOne 5 0 (rm_gw_ (dp + 1)) Q J)  : ∀ (M : MM), w_X12_workOne_b207  (gw_  dp) Q   M → J 207 [] [.ref (ad 0)] M := by
  intro  M  hF
  unfold w_X12_workOne_b207 at hF
  refine j_iconst hJ dX12_workOne_207 ?_
  exact j_sub hJ [] rfl (k_X12_workOne_b208 hin  hg0 hg1 hg2 hg3 hg4 hg5 hg6 hJ  0 _ rk_0 hF)
set_option maxHeartbeats 4000000 in
set_option maxRecDepth 100000 in
theorem k_X12_workOne_b105 {l : Launch} {D : va_G} {cy : Nat → ClassId} {ad : Nat → Nat} {dp : Nat} {Q : Int → MM → Prop} {J : Nat → List (Nat × Value) → List Value → MM → Prop} (hin : jIn ad ksR.length)   (hg0 : jCN l D vwCl (tyR cy) cy ad ftR ksR (XtR ad) yX12_work (.code yX12_work cX12_work 3 none :: Om) (rm_gw_ dp) 0 (W_X12_work dp ad)) (hg1 : jCN l D vwCl (tyR cy) cy ad ftR ksR (XtR ad) yX12_workOne (.code yX12_workOne cX12_workOne 5 none :: Om) (rm_gw_ dp) 0 (W_X12_workOne dp ad)) (hg2 : jCN l D vwCl (tyR cy) cy ad ftR ksR (XtR ad) yX12_workPart (.code yX12_workPart cX12_workPart 4 none :: Om) (rm_gw_ dp) 0 (W_X12_workPart dp ad)) (hg3 : jCN l D vwCl (tyR cy) cy ad ftR ksR (XtR ad) yX12_workBoth (.code yX12_workBoth cX12_workBoth 3 none :: Om) (rm_gw_ dp) 0 (W_X12_workBoth dp ad)) (hg4 : jCN l D vwCl (tyR cy) cy ad ftR ksR (XtR ad) yX12_workTwo (.code yX12_workTwo cX12_workTwo 10 none :: Om) (rm_gw_ dp) 0 (W_X12_workTwo dp ad)) (hg5 : jCN l D vwCl (tyR cy) cy ad ftR ksR (XtR ad) yX12_workSet (.code yX12_workSet cX12_workSet 7 none :: Om) (rm_gw_ dp) 0 (W_X12_workSet dp ad)) (hg6 : jCN l D vwCl (tyR cy) cy ad ftR ksR (XtR ad) yX12_workFold (.code yX12_workFold cX12_workFold 10 none :: Om) (rm_gw_ dp) 0 (W_X12_workFold dp ad)) (hJ : jOk l D vwCl (tyR cy) cy ad ftR ksR (XtR ad) Om RX12 cX12_workOne 5 0 (rm_gw_ (dp + 1)) Q J)  : ∀ (s0 : Int) (M : MM), ri_ s0 → w_X12_workOne_b105  (gw_  dp) Q  s0 M → J 105 [] [.int (Ii s0), .ref (ad 0)] M := by
  intro s0 M gs0 hF
  unfold w_X12_workOne_b105 at hF
  refine j_callVv hJ (c_X12_truth (l := l) (D := D) (cy := cy) (ad := ad) hin) rfl om_1221 ⟨rfl, rfl, by show _ ≤ _; simp only [rm_gw_]; omega, by show _ ≤ _; simp only [rm_gw_]; omega⟩ [.int (Ii s0)] mv_X12_813 hd_X12_truthv kR_0 rfl rfl rfl (Nat.le_of_ble_eq_true rfl) dX12_workOne_105 ⟨s0, rfl, hF.1, hF.2⟩ (fun M2 qM2 => ?_)
  have hF := qM2
  refine j_goto hJ 350 dX12_workOne_108 (by decide) ?_
  exact j_vret hJ rfl dX12_workOne_350 hF
set_option maxHeartbeats 4000000 in
set_option maxRecDepth 100000 in
theorem k_X12_workOne_b74 {l : Launch} {D : va_G} {cy : Nat → ClassId} {ad : Nat → Nat} {dp : Nat} {Q : Int → MM → Prop} {J : Nat → List (Nat × Value) → List Value → MM → Prop} (hin : jIn ad ksR.length)   (hg0 : jCN l D vwCl (tyR cy) cy ad ftR ksR (XtR ad) yX12_work (.code yX12_work cX12_work 3 none :: Om) (rm_gw_ dp) 0 (W_X12_work dp ad)) (hg1 : jCN l D vwCl (tyR cy) cy ad ftR ksR (XtR ad) yX12_workOne (.code yX12_workOne cX12_workOne 5 none :: Om) (rm_gw_ dp) 0 (W_X12_workOne dp ad)) (hg2 : jCN l D vwCl (tyR cy) cy ad ftR ksR (XtR ad) yX12_workPart (.code yX12_workPart cX12_workPart 4 none :: Om) (rm_gw_ dp) 0 (W_X12_workPart dp ad)) (hg3 : jCN l D vwCl (tyR cy) cy ad ftR ksR (XtR ad) yX12_workBoth (.code yX12_workBoth cX12_workBoth 3 none :: Om) (rm_gw_ dp) 0 (W_X12_workBoth dp ad)) (hg4 : jCN l D vwCl (tyR cy) cy ad ftR ksR (XtR ad) yX12_workTwo (.code yX12_workTwo cX12_workTwo 10 none :: Om) (rm_gw_ dp) 0 (W_X12_workTwo dp ad)) (hg5 : jCN l D vwCl (tyR cy) cy ad ftR ksR (XtR ad) yX12_workSet (.code yX12_workSet cX12_workSet 7 none :: Om) (rm_gw_ dp) 0 (W_X12_workSet dp ad)) (hg6 : jCN l D vwCl (tyR cy) cy ad ftR ksR (XtR ad) yX12_workFold (.code yX12_workFold cX12_workFold 10 none :: Om) (rm_gw_ dp) 0 (W_X12_workFold dp ad)) (hJ : jOk l D vwCl (tyR cy) cy ad ftR ksR (XtR ad) Om RX12 cX12_workOne 5 0 (rm_gw_ (dp + 1)) Q J)  : ∀ (x1 x2 x3 s0 : Int) (M : MM), ri_ x1 → ri_ x2 → ri_ x3 → ri_ s0 → w_X12_workOne_b74  (gw_  dp) Q  x1 x2 x3 s0 M → J 74 [(0, .ref (ad 0)), (1, .int (Ii x1)), (2, .int (Ii x2)), (3, .int (Ii x3))] [.int (Ii s0)] M := by
  intro x1 x2 x3 s0 M gx1 gx2 gx3 gs0 hF
  unfold w_X12_workOne_b74 at hF
  refine j_istore (lv' := [(4, .int (Ii s0)), (0, .ref (ad 0)), (1, .int (Ii x1)), (2, .int (Ii x2)), (3, .int (Ii x3))]) hJ dX12_workOne_74 (by decide) rfl ?_
  refine j_iload_n hJ dX12_workOne_76 rfl 3 rfl ?_
  refine j_bipush hJ dX12_workOne_77 (by decide) ?_
  refine j_icmp_ne hJ 118 gx2 rk_7 dX12_workOne_79 (by decide) (fun z1 => ?_) (fun z1 => ?_)
  · have hF := hF.1 z1
    refine j_iload_n hJ dX12_workOne_118 rfl 3 rfl ?_
    refine j_bipush hJ dX12_workOne_119 (by decide) ?_
    refine j_icmp_ne hJ 151 gx2 rk_113 dX12_workOne_121 (by decide) (fun z2 => ?_) (fun z2 => ?_)
    · have hF := hF.1 z2
      refine j_iload_n hJ dX12_workOne_151 rfl 4 rfl ?_
      refine j_iconst hJ dX12_workOne_152 ?_
      refine j_icmp_ne hJ 163 gx3 rk_m1 dX12_workOne_153 (by decide) (fun z3 => ?_) (fun z3 => ?_)
      · have hF := hF.1 z3
        refine j_iload_n hJ dX12_workOne_163 rfl 3 rfl ?_
        refine j_bipush hJ dX12_workOne_164 (by decide) ?_
        refine j_icmp_ne hJ 214 gx2 rk_11 dX12_workOne_166 (by decide) (fun z4 => ?_) (fun z4 => ?_)
        · have hF := hF.1 z4
          refine j_iload_n hJ dX12_workOne_214 rfl 3 rfl ?_
          refine j_bipush hJ dX12_workOne_215 (by decide) ?_
          refine j_icmp_ne hJ 238 gx2 rk_19 dX12_workOne_217 (by decide) (fun z5 => ?_) (fun z5 => ?_)
          · have hF := hF.1 z5
            refine j_iload_n hJ dX12_workOne_238 rfl 3 rfl ?_
            refine j_bipush hJ dX12_workOne_239 (by decide) ?_
            refine j_icmp_ne hJ 267 gx2 rk_20 dX12_workOne_241 (by decide) (fun z6 => ?_) (fun z6 => ?_)
            · have hF := hF.1 z6
              refine j_iload_n hJ dX12_workOne_267 rfl 3 rfl ?_
              refine j_bipush hJ dX12_workOne_268 (by decide) ?_
              refine j_icmp_ne hJ 296 gx2 rk_21 dX12_workOne_270 (by decide) (fun z7 => ?_) (fun z7 => ?_)
              · have hF := hF.1 z7
                refine j_iload_n hJ dX12_workOne_296 rfl 3 rfl ?_
                refine j_bipush hJ dX12_workOne_297 (by decide) ?_
                refine j_icmp_ne hJ 337 gx2 rk_22 dX12_workOne_299 (by decide) (fun z8 => ?_) (fun z8 => ?_)
                · have hF := hF.1 z8
                  refine j_aload_n hJ dX12_workOne_337 rfl 1 rfl ?_
                  refine j_iload_n hJ dX12_workOne_338 rfl 4 rfl ?_
                  refine j_iload hJ dX12_workOne_339 0 rfl ?_
                  refine j_aload_n hJ dX12_workOne_341 rfl 1 rfl ?_
                  refine j_gr (e := 70) hJ kR_0 fR_15_90 fl_X12_284 dX12_workOne_342 rfl ?_
                  refine j_iload_n hJ dX12_workOne_345 rfl 2 rfl ?_
                  refine j_lald hJ gx1 kR_70 hF.1 hF.2.1 dX12_workOne_346 (fun v9 ev9 gv9 => ?_)
                  have hF := hF.2.2 v9 ev9 gv9
                  refine j_callVv hJ (c_X12_workField (l := l) (D := D) (cy := cy) (ad := ad) hin) rfl om_1261 ⟨rfl, rfl, by show _ ≤ _; simp only [rm_gw_]; omega, by show _ ≤ _; simp only [rm_gw_]; omega⟩ [.int (Ii x3), .int (Ii s0), .long (Ll v9)] mv_X12_836 hd_X12_workFieldv kR_0 rfl rfl rfl (Nat.le_of_ble_eq_true rfl) dX12_workOne_347 ⟨x3, s0, v9, rfl, gx3, hF.1, gv9, hF.2⟩ (fun M11 qM11 => ?_)
                  have hF := qM11
                  exact j_vret hJ rfl dX12_workOne_350 hF
                · have hF := hF.2 z8
                  refine j_iload hJ dX12_workOne_302 0 rfl ?_
                  refine j_if_eq hJ 330 gs0 dX12_workOne_304 (by decide) (fun z12 => ?_) (fun z12 => ?_)
                  · have hF := hF.1 z12
                    refine j_aload_n hJ dX12_workOne_330 rfl 1 rfl ?_
                    refine j_callVv hJ (c_X12_nothing (l := l) (D := D) (cy := cy) (ad := ad) hin) rfl om_1229 ⟨rfl, rfl, by show _ ≤ _; simp only [rm_gw_]; omega, by show _ ≤ _; simp only [rm_gw_]; omega⟩ [] mv_X12_798 hd_X12_nothingv kR_0 rfl rfl rfl (Nat.le_of_ble_eq_true rfl) dX12_workOne_331 ⟨rfl, hF⟩ (fun M14 qM14 => ?_)
                    have hF := qM14
                    refine j_goto hJ 350 dX12_workOne_334 (by decide) ?_
                    exact j_vret hJ rfl dX12_workOne_350 hF
                  · have hF := hF.2 z12
                    refine j_aload_n hJ dX12_workOne_307 rfl 1 rfl ?_
                    refine j_iconst hJ dX12_workOne_308 ?_
                    refine j_aload_n hJ dX12_workOne_309 rfl 1 rfl ?_
                    refine j_gr (e := 41) hJ kR_0 fR_15_51 fl_X12_192 dX12_workOne_310 rfl ?_
                    refine j_aload_n hJ dX12_workOne_313 rfl 1 rfl ?_
                    refine j_aload_n hJ dX12_workOne_314 rfl 1 rfl ?_
                    refine j_gi hJ kR_0 fR_15_97 rfl fl_X12_826 dX12_workOne_315 (fun v15 ev15 gv15 => ?_)
                    have hF := hF v15 ev15 gv15
                    refine j_iload_n hJ dX12_workOne_318 rfl 4 rfl ?_
                    refine j_callVi hJ (c_X12_at (l := l) (D := D) (cy := cy) (ad := ad) hin) rfl om_1153 ⟨rfl, rfl, by show _ ≤ _; simp only [rm_gw_]; omega, by show _ ≤ _; simp only [rm_gw_]; omega⟩ [.int (Ii v15), .int (Ii x3)] mv_X12_545 hd_X12_atv kR_0 rfl rfl rfl (Nat.le_of_ble_eq_true rfl) dX12_workOne_319 ⟨v15, x3, rfl, gv15, gx3, hF⟩ (fun r16 M17 gr16 qM17 => ?_)
                    have hF := qM17 gr16
                    refine j_iald hJ gr16 kR_41 hF.1 hF.2.1 dX12_workOne_322 (fun v18 ev18 gv18 => ?_)
                    have hF := hF.2.2 v18 ev18 gv18
                    refine j_i2l hJ gv18 dX12_workOne_323 ?_
                    refine j_callVv hJ (c_X12_give (l := l) (D := D) (cy := cy) (ad := ad) hin) rfl om_1217 ⟨rfl, rfl, by show _ ≤ _; simp only [rm_gw_]; omega, by show _ ≤ _; simp only [rm_gw_]; omega⟩ [.int (Ii 0), .long (Ll v18)] mv_X12_791 hd_X12_givev kR_0 rfl rfl rfl (Nat.le_of_ble_eq_true rfl) dX12_workOne_324 ⟨0, v18, rfl, rk_0, (rl_ri gv18), hF⟩ (fun M20 qM20 => ?_)
                    have hF := qM20
                    refine j_goto hJ 350 dX12_workOne_327 (by decide) ?_
                    exact j_vret hJ rfl dX12_workOne_350 hF
              · have hF := hF.2 z7
                refine j_aload_n hJ dX12_workOne_273 rfl 1 rfl ?_
                refine j_iconst hJ dX12_workOne_274 ?_
                refine j_aload_n hJ dX12_workOne_275 rfl 1 rfl ?_
                refine j_gr (e := 43) hJ kR_0 fR_15_53 fl_X12_198 dX12_workOne_276 rfl ?_
                refine j_aload_n hJ dX12_workOne_279 rfl 1 rfl ?_
                refine j_aload_n hJ dX12_workOne_280 rfl 1 rfl ?_
                refine j_gi hJ kR_0 fR_15_97 rfl fl_X12_826 dX12_workOne_281 (fun v21 ev21 gv21 => ?_)
                have hF := hF v21 ev21 gv21
                refine j_iload_n hJ dX12_workOne_284 rfl 4 rfl ?_
                refine j_callVi hJ (c_X12_at (l := l) (D := D) (cy := cy) (ad := ad) hin) rfl om_1153 ⟨rfl, rfl, by show _ ≤ _; simp only [rm_gw_]; omega, by show _ ≤ _; simp only [rm_gw_]; omega⟩ [.int (Ii v21), .int (Ii x3)] mv_X12_545 hd_X12_atv kR_0 rfl rfl rfl (Nat.le_of_ble_eq_true rfl) dX12_workOne_285 ⟨v21, x3, rfl, gv21, gx3, hF⟩ (fun r22 M23 gr22 qM23 => ?_)
                have hF := qM23 gr22
                refine j_iald hJ gr22 kR_43 hF.1 hF.2.1 dX12_workOne_288 (fun v24 ev24 gv24 => ?_)
                have hF := hF.2.2 v24 ev24 gv24
                refine j_i2l hJ gv24 dX12_workOne_289 ?_
                refine j_callVv hJ (c_X12_give (l := l) (D := D) (cy := cy) (ad := ad) hin) rfl om_1217 ⟨rfl, rfl, by show _ ≤ _; simp only [rm_gw_]; omega, by show _ ≤ _; simp only [rm_gw_]; omega⟩ [.int (Ii 0), .long (Ll v24)] mv_X12_791 hd_X12_givev kR_0 rfl rfl rfl (Nat.le_of_ble_eq_true rfl) dX12_workOne_290 ⟨0, v24, rfl, rk_0, (rl_ri gv24), hF⟩ (fun M26 qM26 => ?_)
                have hF := qM26
                refine j_goto hJ 350 dX12_workOne_293 (by decide) ?_
                exact j_vret hJ rfl dX12_workOne_350 hF
            · have hF := hF.2 z6
              refine j_aload_n hJ dX12_workOne_244 rfl 1 rfl ?_
              refine j_iconst hJ dX12_workOne_245 ?_
              refine j_aload_n hJ dX12_workOne_246 rfl 1 rfl ?_
              refine j_gr (e := 47) hJ kR_0 fR_15_57 fl_X12_210 dX12_workOne_247 rfl ?_
              refine j_aload_n hJ dX12_workOne_250 rfl 1 rfl ?_
              refine j_aload_n hJ dX12_workOne_251 rfl 1 rfl ?_
              refine j_gi hJ kR_0 fR_15_97 rfl fl_X12_826 dX12_workOne_252 (fun v27 ev27 gv27 => ?_)
              have hF := hF v27 ev27 gv27
              refine j_iload_n hJ dX12_workOne_255 rfl 4 rfl ?_
              refine j_callVi hJ (c_X12_at (l := l) (D := D) (cy := cy) (ad := ad) hin) rfl om_1153 ⟨rfl, rfl, by show _ ≤ _; simp only [rm_gw_]; omega, by show _ ≤ _; simp only [rm_gw_]; omega⟩ [.int (Ii v27), .int (Ii x3)] mv_X12_545 hd_X12_atv kR_0 rfl rfl rfl (Nat.le_of_ble_eq_true rfl) dX12_workOne_256 ⟨v27, x3, rfl, gv27, gx3, hF⟩ (fun r28 M29 gr28 qM29 => ?_)
              have hF := qM29 gr28
              refine j_iald hJ gr28 kR_47 hF.1 hF.2.1 dX12_workOne_259 (fun v30 ev30 gv30 => ?_)
              have hF := hF.2.2 v30 ev30 gv30
              refine j_i2l hJ gv30 dX12_workOne_260 ?_
              refine j_callVv hJ (c_X12_give (l := l) (D := D) (cy := cy) (ad := ad) hin) rfl om_1217 ⟨rfl, rfl, by show _ ≤ _; simp only [rm_gw_]; omega, by show _ ≤ _; simp only [rm_gw_]; omega⟩ [.int (Ii 0), .long (Ll v30)] mv_X12_791 hd_X12_givev kR_0 rfl rfl rfl (Nat.le_of_ble_eq_true rfl) dX12_workOne_261 ⟨0, v30, rfl, rk_0, (rl_ri gv30), hF⟩ (fun M32 qM32 => ?_)
              have hF := qM32
              refine j_goto hJ 350 dX12_workOne_264 (by decide) ?_
              exact j_vret hJ rfl dX12_workOne_350 hF
          · have hF := hF.2 z5
            refine j_aload_n hJ dX12_workOne_220 rfl 1 rfl ?_
            refine j_iconst hJ dX12_workOne_221 ?_
            refine j_aload_n hJ dX12_workOne_222 rfl 1 rfl ?_
            refine j_aload_n hJ dX12_workOne_223 rfl 1 rfl ?_
            refine j_gi hJ kR_0 fR_15_97 rfl fl_X12_826 dX12_workOne_224 (fun v33 ev33 gv33 => ?_)
            have hF := hF v33 ev33 gv33
            refine j_iload_n hJ dX12_workOne_227 rfl 4 rfl ?_
            refine j_callVi hJ (c_X12_sizeIn (l := l) (D := D) (cy := cy) (ad := ad) hin) rfl om_1197 ⟨rfl, rfl, by show _ ≤ _; simp only [rm_gw_]; omega, by show _ ≤ _; simp only [rm_gw_]; omega⟩ [.int (Ii v33), .int (Ii x3)] mv_X12_594 hd_X12_sizeInv kR_0 rfl rfl rfl (Nat.le_of_ble_eq_true rfl) dX12_workOne_228 ⟨v33, x3, rfl, gv33, gx3, hF⟩ (fun r34 M35 gr34 qM35 => ?_)
            have hF := qM35 gr34
            refine j_i2l hJ gr34 dX12_workOne_231 ?_
            refine j_callVv hJ (c_X12_give (l := l) (D := D) (cy := cy) (ad := ad) hin) rfl om_1217 ⟨rfl, rfl, by show _ ≤ _; simp only [rm_gw_]; omega, by show _ ≤ _; simp only [rm_gw_]; omega⟩ [.int (Ii 0), .long (Ll r34)] mv_X12_791 hd_X12_givev kR_0 rfl rfl rfl (Nat.le_of_ble_eq_true rfl) dX12_workOne_232 ⟨0, r34, rfl, rk_0, (rl_ri gr34), hF⟩ (fun M37 qM37 => ?_)
            have hF := qM37
            refine j_goto hJ 350 dX12_workOne_235 (by decide) ?_
            exact j_vret hJ rfl dX12_workOne_350 hF
        · have hF := hF.2 z4
          refine j_aload_n hJ dX12_workOne_169 rfl 1 rfl ?_
          refine j_iload hJ dX12_workOne_170 0 rfl ?_
          refine j_if_ne hJ 207 gs0 dX12_workOne_172 (by decide) (fun z38 => ?_) (fun z38 => ?_)
          · have hF := hF.1 z38
            exact j_sub hJ [] rfl (k_X12_workOne_b207 hin  hg0 hg1 hg2 hg3 hg4 hg5 hg6 hJ   _  hF)
          · have hF := hF.2 z38
            refine j_aload_n hJ dX12_workOne_175 rfl 1 rfl ?_
            refine j_aload_n hJ dX12_workOne_176 rfl 1 rfl ?_
            refine j_gr (e := 40) hJ kR_0 fR_15_50 fl_X12_189 dX12_workOne_177 rfl ?_
            refine j_aload_n hJ dX12_workOne_180 rfl 1 rfl ?_
            refine j_aload_n hJ dX12_workOne_181 rfl 1 rfl ?_
            refine j_gi hJ kR_0 fR_15_97 rfl fl_X12_826 dX12_workOne_182 (fun v39 ev39 gv39 => ?_)
            have hF := hF v39 ev39 gv39
            refine j_iload_n hJ dX12_workOne_185 rfl 4 rfl ?_
            refine j_callVi hJ (c_X12_at (l := l) (D := D) (cy := cy) (ad := ad) hin) rfl om_1153 ⟨rfl, rfl, by show _ ≤ _; simp only [rm_gw_]; omega, by show _ ≤ _; simp only [rm_gw_]; omega⟩ [.int (Ii v39), .int (Ii x3)] mv_X12_545 hd_X12_atv kR_0 rfl rfl rfl (Nat.le_of_ble_eq_true rfl) dX12_workOne_186 ⟨v39, x3, rfl, gv39, gx3, hF⟩ (fun r40 M41 gr40 qM41 => ?_)
            have hF := qM41 gr40
            refine j_iald hJ gr40 kR_40 hF.1 hF.2.1 dX12_workOne_189 (fun v42 ev42 gv42 => ?_)
            have hF := hF.2.2 v42 ev42 gv42
            refine j_aload_n hJ dX12_workOne_190 rfl 1 rfl ?_
            refine j_gr (e := 70) hJ kR_0 fR_15_90 fl_X12_284 dX12_workOne_191 rfl ?_
            refine j_iload_n hJ dX12_workOne_194 rfl 2 rfl ?_
            refine j_lald hJ gx1 kR_70 hF.1 hF.2.1 dX12_workOne_195 (fun v43 ev43 gv43 => ?_)
            have hF := hF.2.2 v43 ev43 gv43
            refine j_iconst hJ dX12_workOne_196 ?_
            refine j_callVz hJ (c_X12_isNamed (l := l) (D := D) (cy := cy) (ad := ad) hin) rfl om_1265 ⟨rfl, rfl, by show _ ≤ _; simp only [rm_gw_]; omega, by show _ ≤ _; simp only [rm_gw_]; omega⟩ [.int (Ii v42), .long (Ll v43), .int (Ii 1)] mv_X12_832 hd_X12_isNamedv kR_0 rfl rfl rfl (Nat.le_of_ble_eq_true rfl) dX12_workOne_197 ⟨v42, v43, 1, rfl, gv42, gv43, (by decide), hF⟩ (fun r44 M45 gr44 qM45 => ?_)
            have hF := qM45 gr44
            refine j_if_eq hJ 207 (jz_ri gr44) dX12_workOne_200 (by decide) (fun z46 => ?_) (fun z46 => ?_)
            · have hF := hF.1 z46
              exact j_sub hJ [] rfl (k_X12_workOne_b207 hin  hg0 hg1 hg2 hg3 hg4 hg5 hg6 hJ   _  hF)
            · have hF := hF.2 z46
              refine j_iconst hJ dX12_workOne_203 ?_
              refine j_goto hJ 208 dX12_workOne_204 (by decide) ?_
              exact j_sub hJ [] rfl (k_X12_workOne_b208 hin  hg0 hg1 hg2 hg3 hg4 hg5 hg6 hJ  1 _ rk_1 hF)
      · have hF := hF.2 z3
        refine j_aload_n hJ dX12_workOne_156 rfl 1 rfl ?_
        refine j_callVv hJ (c_X12_nothing (l := l) (D := D) (cy := cy) (ad := ad) hin) rfl om_1229 ⟨rfl, rfl, by show _ ≤ _; simp only [rm_gw_]; omega, by show _ ≤ _; simp only [rm_gw_]; omega⟩ [] mv_X12_798 hd_X12_nothingv kR_0 rfl rfl rfl (Nat.le_of_ble_eq_true rfl) dX12_workOne_157 ⟨rfl, hF⟩ (fun M48 qM48 => ?_)
        have hF := qM48
        refine j_goto hJ 350 dX12_workOne_160 (by decide) ?_
        exact j_vret hJ rfl dX12_workOne_350 hF
    · have hF := hF.2 z2
      refine j_aload_n hJ dX12_workOne_124 rfl 1 rfl ?_
      refine j_gi hJ kR_0 fR_15_99 rfl fl_X12_785 dX12_workOne_125 (fun v49 ev49 gv49 => ?_)
      have hF := hF v49 ev49 gv49
      refine j_if_ne hJ 144 gv49 dX12_workOne_128 (by decide) (fun z50 => ?_) (fun z50 => ?_)
      · have hF := hF.1 z50
        refine j_aload_n hJ dX12_workOne_144 rfl 1 rfl ?_
        refine j_callVv hJ (c_X12_nothing (l := l) (D := D) (cy := cy) (ad := ad) hin) rfl om_1229 ⟨rfl, rfl, by show _ ≤ _; simp only [rm_gw_]; omega, by show _ ≤ _; simp only [rm_gw_]; omega⟩ [] mv_X12_798 hd_X12_nothingv kR_0 rfl rfl rfl (Nat.le_of_ble_eq_true rfl) dX12_workOne_145 ⟨rfl, hF⟩ (fun M52 qM52 => ?_)
        have hF := qM52
        refine j_goto hJ 350 dX12_workOne_148 (by decide) ?_
        exact j_vret hJ rfl dX12_workOne_350 hF
      · have hF := hF.2 z50
        refine j_aload_n hJ dX12_workOne_131 rfl 1 rfl ?_
        refine j_iconst hJ dX12_workOne_132 ?_
        refine j_aload_n hJ dX12_workOne_133 rfl 1 rfl ?_
        refine j_gl hJ kR_0 fR_15_102 rfl fl_X12_788 dX12_workOne_134 (fun v53 ev53 gv53 => ?_)
        have hF := hF v53 ev53 gv53
        refine j_lnegw hJ dX12_workOne_137 ?_
        refine j_callVv hJ (c_X12_give (l := l) (D := D) (cy := cy) (ad := ad) hin) rfl om_1217 ⟨rfl, rfl, by show _ ≤ _; simp only [rm_gw_]; omega, by show _ ≤ _; simp only [rm_gw_]; omega⟩ [.int (Ii 0), .long (Ll (w64 (-v53)))] mv_X12_791 hd_X12_givev kR_0 rfl rfl rfl (Nat.le_of_ble_eq_true rfl) dX12_workOne_138 ⟨0, (w64 (-v53)), rfl, rk_0, (rl_w _), hF⟩ (fun M55 qM55 => ?_)
        have hF := qM55
        refine j_goto hJ 350 dX12_workOne_141 (by decide) ?_
        exact j_vret hJ rfl dX12_workOne_350 hF
  · have hF := hF.2 z1
    refine j_aload_n hJ dX12_workOne_82 rfl 1 rfl ?_
    refine j_gi hJ kR_0 fR_15_99 rfl fl_X12_785 dX12_workOne_83 (fun v56 ev56 gv56 => ?_)
    have hF := hF v56 ev56 gv56
    refine j_iconst hJ dX12_workOne_86 ?_
    refine j_icmp_ne hJ 111 gv56 rk_1 dX12_workOne_87 (by decide) (fun z57 => ?_) (fun z57 => ?_)
    · have hF := hF.1 z57
      refine j_aload_n hJ dX12_workOne_111 rfl 1 rfl ?_
      refine j_callVv hJ (c_X12_nothing (l := l) (D := D) (cy := cy) (ad := ad) hin) rfl om_1229 ⟨rfl, rfl, by show _ ≤ _; simp only [rm_gw_]; omega, by show _ ≤ _; simp only [rm_gw_]; omega⟩ [] mv_X12_798 hd_X12_nothingv kR_0 rfl rfl rfl (Nat.le_of_ble_eq_true rfl) dX12_workOne_112 ⟨rfl, hF⟩ (fun M59 qM59 => ?_)
      have hF := qM59
      refine j_goto hJ 350 dX12_workOne_115 (by decide) ?_
      exact j_vret hJ rfl dX12_workOne_350 hF
    · have hF := hF.2 z57
      refine j_aload_n hJ dX12_workOne_90 rfl 1 rfl ?_
      refine j_aload_n hJ dX12_workOne_91 rfl 1 rfl ?_
      refine j_gl hJ kR_0 fR_15_102 rfl fl_X12_788 dX12_workOne_92 (fun v60 ev60 gv60 => ?_)
      have hF := hF v60 ev60 gv60
      refine j_lconst (x := 0) hJ dX12_workOne_95 rfl ?_
      refine j_lcmp_ne hJ 104 gv60 lkm_0 dX12_workOne_96 dX12_workOne_97 (by decide) (fun z61 => ?_) (fun z61 => ?_)
      · have hF := hF.1 z61
        refine j_iconst hJ dX12_workOne_104 ?_
        exact j_sub hJ [] rfl (k_X12_workOne_b105 hin  hg0 hg1 hg2 hg3 hg4 hg5 hg6 hJ  0 _ rk_0 hF)
      · have hF := hF.2 z61
        refine j_iconst hJ dX12_workOne_100 ?_
        refine j_goto hJ 105 dX12_workOne_101 (by decide) ?_
        exact j_sub hJ [] rfl (k_X12_workOne_b105 hin  hg0 hg1 hg2 hg3 hg4 hg5 hg6 hJ  1 _ rk_1 hF)
set_option maxHeartbeats 4000000 in
set_option maxRecDepth 100000 in
theorem k_X12_workOne_b73 {l : Launch} {D : va_G} {cy : Nat → ClassId} {ad : Nat → Nat} {dp : Nat} {Q : Int → MM → Prop} {J : Nat → List (Nat × Value) → List Value → MM → Prop} (hin : jIn ad ksR.length)   (hg0 : jCN l D vwCl (tyR cy) cy ad ftR ksR (XtR ad) yX12_work (.code yX12_work cX12_work 3 none :: Om) (rm_gw_ dp) 0 (W_X12_work dp ad)) (hg1 : jCN l D vwCl (tyR cy) cy ad ftR ksR (XtR ad) yX12_workOne (.code yX12_workOne cX12_workOne 5 none :: Om) (rm_gw_ dp) 0 (W_X12_workOne dp ad)) (hg2 : jCN l D vwCl (tyR cy) cy ad ftR ksR (XtR ad) yX12_workPart (.code yX12_workPart cX12_workPart 4 none :: Om) (rm_gw_ dp) 0 (W_X12_workPart dp ad)) (hg3 : jCN l D vwCl (tyR cy) cy ad ftR ksR (XtR ad) yX12_workBoth (.code yX12_workBoth cX12_workBoth 3 none :: Om) (rm_gw_ dp) 0 (W_X12_workBoth dp ad)) (hg4 : jCN l D vwCl (tyR cy) cy ad ftR ksR (XtR ad) yX12_workTwo (.code yX12_workTwo cX12_workTwo 10 none :: Om) (rm_gw_ dp) 0 (W_X12_workTwo dp ad)) (hg5 : jCN l D vwCl (tyR cy) cy ad ftR ksR (XtR ad) yX12_workSet (.code yX12_workSet cX12_workSet 7 none :: Om) (rm_gw_ dp) 0 (W_X12_workSet dp ad)) (hg6 : jCN l D vwCl (tyR cy) cy ad ftR ksR (XtR ad) yX12_workFold (.code yX12_workFold cX12_workFold 10 none :: Om) (rm_gw_ dp) 0 (W_X12_workFold dp ad)) (hJ : jOk l D vwCl (tyR cy) cy ad ftR ksR (XtR ad) Om RX12 cX12_workOne 5 0 (rm_gw_ (dp + 1)) Q J)  : ∀ (x1 x2 x3 : Int) (M : MM), ri_ x1 → ri_ x2 → ri_ x3 → w_X12_workOne_b73  (gw_  dp) Q  x1 x2 x3 M → J 73 [(0, .ref (ad 0)), (1, .int (Ii x1)), (2, .int (Ii x2)), (3, .int (Ii x3))] [] M := by
  intro x1 x2 x3 M gx1 gx2 gx3 hF
  unfold w_X12_workOne_b73 at hF
  refine j_iconst hJ dX12_workOne_73 ?_
  exact j_sub hJ [0, 1, 2, 3] rfl (k_X12_workOne_b74 hin  hg0 hg1 hg2 hg3 hg4 hg5 hg6 hJ  x1 x2 x3 0 _ gx1 gx2 gx3 rk_0 hF)
set_option maxHeartbeats 4000000 in
set_option maxRecDepth 100000 in
theorem k_X12_workOne_b42 {l : Launch} {D : va_G} {cy : Nat → ClassId} {ad : Nat → Nat} {dp : Nat} {Q : Int → MM → Prop} {J : Nat → List (Nat × Value) → List Value → MM → Prop} (hin : jIn ad ksR.length)   (hg0 : jCN l D vwCl (tyR cy) cy ad ftR ksR (XtR ad) yX12_work (.code yX12_work cX12_work 3 none :: Om) (rm_gw_ dp) 0 (W_X12_work dp ad)) (hg1 : jCN l D vwCl (tyR cy) cy ad ftR ksR (XtR ad) yX12_workOne (.code yX12_workOne cX12_workOne 5 none :: Om) (rm_gw_ dp) 0 (W_X12_workOne dp ad)) (hg2 : jCN l D vwCl (tyR cy) cy ad ftR ksR (XtR ad) yX12_workPart (.code yX12_workPart cX12_workPart 4 none :: Om) (rm_gw_ dp) 0 (W_X12_workPart dp ad)) (hg3 : jCN l D vwCl (tyR cy) cy ad ftR ksR (XtR ad) yX12_workBoth (.code yX12_workBoth cX12_workBoth 3 none :: Om) (rm_gw_ dp) 0 (W_X12_workBoth dp ad)) (hg4 : jCN l D vwCl (tyR cy) cy ad ftR ksR (XtR ad) yX12_workTwo (.code yX12_workTwo cX12_workTwo 10 none :: Om) (rm_gw_ dp) 0 (W_X12_workTwo dp ad)) (hg5 : jCN l D vwCl (tyR cy) cy ad ftR ksR (XtR ad) yX12_workSet (.code yX12_workSet cX12_workSet 7 none :: Om) (rm_gw_ dp) 0 (W_X12_workSet dp ad)) (hg6 : jCN l D vwCl (tyR cy) cy ad ftR ksR (XtR ad) yX12_workFold (.code yX12_workFold cX12_workFold 10 none :: Om) (rm_gw_ dp) 0 (W_X12_workFold dp ad)) (hJ : jOk l D vwCl (tyR cy) cy ad ftR ksR (XtR ad) Om RX12 cX12_workOne 5 0 (rm_gw_ (dp + 1)) Q J)  : ∀ (x1 x2 s0 : Int) (M : MM), ri_ x1 → ri_ x2 → ri_ s0 → w_X12_workOne_b42  (gw_  dp) Q  x1 x2 s0 M → J 42 [(0, .ref (ad 0)), (1, .int (Ii x1)), (2, .int (Ii x2))] [.int (Ii s0)] M := by
  intro x1 x2 s0 M gx1 gx2 gs0 hF
  unfold w_X12_workOne_b42 at hF
  refine j_istore_n (lv' := [(3, .int (Ii s0)), (0, .ref (ad 0)), (1, .int (Ii x1)), (2, .int (Ii x2))]) hJ dX12_workOne_42 rfl (by decide) rfl ?_
  refine j_iload_n hJ dX12_workOne_43 rfl 0 rfl ?_
  refine j_iconst hJ dX12_workOne_44 ?_
  refine j_icmp_eq hJ 73 gs0 rk_m1 dX12_workOne_45 (by decide) (fun z1 => ?_) (fun z1 => ?_)
  · have hF := hF.1 z1
    exact j_sub hJ [1, 2, 3, 0] rfl (k_X12_workOne_b73 hin  hg0 hg1 hg2 hg3 hg4 hg5 hg6 hJ  x1 x2 s0 _ gx1 gx2 gs0 hF)
  · have hF := hF.2 z1
    refine j_aload_n hJ dX12_workOne_48 rfl 1 rfl ?_
    refine j_aload_n hJ dX12_workOne_49 rfl 1 rfl ?_
    refine j_gr (e := 40) hJ kR_0 fR_15_50 fl_X12_189 dX12_workOne_50 rfl ?_
    refine j_aload_n hJ dX12_workOne_53 rfl 1 rfl ?_
    refine j_aload_n hJ dX12_workOne_54 rfl 1 rfl ?_
    refine j_gi hJ kR_0 fR_15_97 rfl fl_X12_826 dX12_workOne_55 (fun v2 ev2 gv2 => ?_)
    have hF := hF v2 ev2 gv2
    refine j_iload_n hJ dX12_workOne_58 rfl 0 rfl ?_
    refine j_callVi hJ (c_X12_at (l := l) (D := D) (cy := cy) (ad := ad) hin) rfl om_1153 ⟨rfl, rfl, by show _ ≤ _; simp only [rm_gw_]; omega, by show _ ≤ _; simp only [rm_gw_]; omega⟩ [.int (Ii v2), .int (Ii s0)] mv_X12_545 hd_X12_atv kR_0 rfl rfl rfl (Nat.le_of_ble_eq_true rfl) dX12_workOne_59 ⟨v2, s0, rfl, gv2, gs0, hF⟩ (fun r3 M4 gr3 qM4 => ?_)
    have hF := qM4 gr3
    refine j_iald hJ gr3 kR_40 hF.1 hF.2.1 dX12_workOne_62 (fun v5 ev5 gv5 => ?_)
    have hF := hF.2.2 v5 ev5 gv5
    refine j_callVz hJ (c_X12_isClass (l := l) (D := D) (cy := cy) (ad := ad) hin) rfl om_1064 ⟨rfl, rfl, by show _ ≤ _; simp only [rm_gw_]; omega, by show _ ≤ _; simp only [rm_gw_]; omega⟩ [.int (Ii v5)] mv_X12_416 hd_X12_isClassv kR_0 rfl rfl rfl (Nat.le_of_ble_eq_true rfl) dX12_workOne_63 ⟨v5, rfl, gv5, hF⟩ (fun r6 M7 gr6 qM7 => ?_)
    have hF := qM7 gr6
    refine j_if_ne hJ 73 (jz_ri gr6) dX12_workOne_66 (by decide) (fun z8 => ?_) (fun z8 => ?_)
    · have hF := hF.1 z8
      exact j_sub hJ [1, 2, 3, 0] rfl (k_X12_workOne_b73 hin  hg0 hg1 hg2 hg3 hg4 hg5 hg6 hJ  x1 x2 s0 _ gx1 gx2 gs0 hF)
    · have hF := hF.2 z8
      refine j_iconst hJ dX12_workOne_69 ?_
      refine j_goto hJ 74 dX12_workOne_70 (by decide) ?_
      exact j_sub hJ [1, 2, 3, 0] rfl (k_X12_workOne_b74 hin  hg0 hg1 hg2 hg3 hg4 hg5 hg6 hJ  x1 x2 s0 1 _ gx1 gx2 gs0 rk_1 hF)
set_option maxHeartbeats 4000000 in
set_option maxRecDepth 100000 in
theorem s_X12_workOne {l : Launch} {D : va_G} {cy : Nat → ClassId} {ad : Nat → Nat} {dp : Nat} (hin : jIn ad ksR.length) (hg0 : jCN l D vwCl (tyR cy) cy ad ftR ksR (XtR ad) yX12_work (.code yX12_work cX12_work 3 none :: Om) (rm_gw_ dp) 0 (W_X12_work dp ad)) (hg1 : jCN l D vwCl (tyR cy) cy ad ftR ksR (XtR ad) yX12_workOne (.code yX12_workOne cX12_workOne 5 none :: Om) (rm_gw_ dp) 0 (W_X12_workOne dp ad)) (hg2 : jCN l D vwCl (tyR cy) cy ad ftR ksR (XtR ad) yX12_workPart (.code yX12_workPart cX12_workPart 4 none :: Om) (rm_gw_ dp) 0 (W_X12_workPart dp ad)) (hg3 : jCN l D vwCl (tyR cy) cy ad ftR ksR (XtR ad) yX12_workBoth (.code yX12_workBoth cX12_workBoth 3 none :: Om) (rm_gw_ dp) 0 (W_X12_workBoth dp ad)) (hg4 : jCN l D vwCl (tyR cy) cy ad ftR ksR (XtR ad) yX12_workTwo (.code yX12_workTwo cX12_workTwo 10 none :: Om) (rm_gw_ dp) 0 (W_X12_workTwo dp ad)) (hg5 : jCN l D vwCl (tyR cy) cy ad ftR ksR (XtR ad) yX12_workSet (.code yX12_workSet cX12_workSet 7 none :: Om) (rm_gw_ dp) 0 (W_X12_workSet dp ad)) (hg6 : jCN l D vwCl (tyR cy) cy ad ftR ksR (XtR ad) yX12_workFold (.code yX12_workFold cX12_workFold 10 none :: Om) (rm_gw_ dp) 0 (W_X12_workFold dp ad)) : jCN l D vwCl (tyR cy) cy ad ftR ksR (XtR ad) yX12_workOne (.code yX12_workOne cX12_workOne 5 none :: Om) (rm_gw_ (dp + 1)) 0 (W_X12_workOne (dp + 1) ad) := by
  refine jCN_of (y := yX12_workOne) (cc := cX12_workOne) (nL := 5) (rk := 0) (rm := (rm_gw_ (dp + 1))) (own := RX12) (tyR_ok cy) hin (XtR_ok ad) Om_good (by decide) rfl ?_
  intro Q av M hF
  obtain ⟨p1, rfl, gp1, hF⟩ := hF
  refine ⟨Nat.le_of_ble_eq_true rfl, fun J hJ => ?_⟩
  show J 0 [(0, .ref (ad 0)), (1, .int (Ii p1))] [] M
  have hF : b_X12_workOne  (gw_  dp) Q p1 M := hF
  unfold b_X12_workOne at hF
  refine j_aload_n hJ dX12_workOne_0 rfl 0 rfl ?_
  refine j_aload_n hJ dX12_workOne_1 rfl 0 rfl ?_
  refine j_gr (e := 67) hJ kR_0 fR_15_87 fl_X12_275 dX12_workOne_2 rfl ?_
  refine j_iload_n hJ dX12_workOne_5 rfl 1 rfl ?_
  refine j_iald hJ gp1 kR_67 hF.1 hF.2.1 dX12_workOne_6 (fun v1 ev1 gv1 => ?_)
  have hF := hF.2.2 v1 ev1 gv1
  refine j_callVv hJ hg0 rfl om_1253 ⟨rfl, rfl, by show _ ≤ _; simp only [rm_gw_]; omega, by show _ ≤ _; simp only [rm_gw_]; omega⟩ [.int (Ii v1)] mv_X12_829 hd_X12_workv kR_0 rfl rfl rfl (Nat.le_of_ble_eq_true rfl) dX12_workOne_7 ⟨v1, rfl, gv1, hF⟩ (fun M3 qM3 => ?_)
  have hF := qM3
  refine j_aload_n hJ dX12_workOne_10 rfl 0 rfl ?_
  refine j_gz hJ kR_0 fR_15_103 rfl fl_X12_782 dX12_workOne_11 (fun v4 ev4 gv4 => ?_)
  have hF := hF v4 ev4 gv4
  refine j_if_eq hJ 18 (jz_ri gv4) dX12_workOne_14 (by decide) (fun z5 => ?_) (fun z5 => ?_)
  · have hF := hF.1 z5
    refine j_aload_n hJ dX12_workOne_18 rfl 0 rfl ?_
    refine j_gr (e := 66) hJ kR_0 fR_15_86 fl_X12_272 dX12_workOne_19 rfl ?_
    refine j_iload_n hJ dX12_workOne_22 rfl 1 rfl ?_
    refine j_iald hJ gp1 kR_66 hF.1 hF.2.1 dX12_workOne_23 (fun v6 ev6 gv6 => ?_)
    have hF := hF.2.2 v6 ev6 gv6
    refine j_istore_n (lv' := [(2, .int (Ii v6)), (0, .ref (ad 0)), (1, .int (Ii p1))]) hJ dX12_workOne_24 rfl (by decide) rfl ?_
    refine j_aload_n hJ dX12_workOne_25 rfl 1 rfl ?_
    refine j_gi hJ kR_0 fR_15_99 rfl fl_X12_785 dX12_workOne_26 (fun v7 ev7 gv7 => ?_)
    have hF := hF v7 ev7 gv7
    refine j_iconst hJ dX12_workOne_29 ?_
    refine j_icmp_ne hJ 41 gv7 rk_2 dX12_workOne_30 (by decide) (fun z8 => ?_) (fun z8 => ?_)
    · have hF := hF.1 z8
      refine j_iconst hJ dX12_workOne_41 ?_
      exact j_sub hJ [1, 2, 0] rfl (k_X12_workOne_b42 hin  hg0 hg1 hg2 hg3 hg4 hg5 hg6 hJ  p1 v6 (-1) _ gp1 gv6 rk_m1 hF)
    · have hF := hF.2 z8
      refine j_aload_n hJ dX12_workOne_33 rfl 1 rfl ?_
      refine j_gl hJ kR_0 fR_15_102 rfl fl_X12_788 dX12_workOne_34 (fun v9 ev9 gv9 => ?_)
      have hF := hF v9 ev9 gv9
      refine j_l2i hJ dX12_workOne_37 ?_
      have g10 := hF.1; have hF := hF.2
      refine j_goto hJ 42 dX12_workOne_38 (by decide) ?_
      exact j_sub hJ [1, 2, 0] rfl (k_X12_workOne_b42 hin  hg0 hg1 hg2 hg3 hg4 hg5 hg6 hJ  p1 v6 v9 _ gp1 gv6 g10 hF)
  · have hF := hF.2 z5
    exact j_vret hJ rfl dX12_workOne_17 hF
set_option maxHeartbeats 4000000 in
set_option maxRecDepth 100000 in
theorem k_X12_workPart_b116 {l : Launch} {D : va_G} {cy : Nat → ClassId} {ad : Nat → Nat} {dp : Nat} {Q : Int → MM → Prop} {J : Nat → List (Nat × Value) → List Value → MM → Prop} (hin : jIn ad ksR.length)   (hg0 : jCN l D vwCl (tyR cy) cy ad ftR ksR (XtR ad) yX12_work (.code yX12_work cX12_work 3 none :: Om) (rm_gw_ dp) 0 (W_X12_work dp ad)) (hg1 : jCN l D vwCl (tyR cy) cy ad ftR ksR (XtR ad) yX12_workOne (.code yX12_workOne cX12_workOne 5 none :: Om) (rm_gw_ dp) 0 (W_X12_workOne dp ad)) (hg2 : jCN l D vwCl (tyR cy) cy ad ftR ksR (XtR ad) yX12_workPart (.code yX12_workPart cX12_workPart 4 none :: Om) (rm_gw_ dp) 0 (W_X12_workPart dp ad)) (hg3 : jCN l D vwCl (tyR cy) cy ad ftR ksR (XtR ad) yX12_workBoth (.code yX12_workBoth cX12_workBoth 3 none :: Om) (rm_gw_ dp) 0 (W_X12_workBoth dp ad)) (hg4 : jCN l D vwCl (tyR cy) cy ad ftR ksR (XtR ad) yX12_workTwo (.code yX12_workTwo cX12_workTwo 10 none :: Om) (rm_gw_ dp) 0 (W_X12_workTwo dp ad)) (hg5 : jCN l D vwCl (tyR cy) cy ad ftR ksR (XtR ad) yX12_workSet (.code yX12_workSet cX12_workSet 7 none :: Om) (rm_gw_ dp) 0 (W_X12_workSet dp ad)) (hg6 : jCN l D vwCl (tyR cy) cy ad ftR ksR (XtR ad) yX12_workFold (.code yX12_workFold cX12_workFold 10 none :: Om) (rm_gw_ dp) 0 (W_X12_workFold dp ad)) (hJ : jOk l D vwCl (tyR cy) cy ad ftR ksR (XtR ad) Om RX12 cX12_workPart 4 0 (rm_gw_ (dp + 1)) Q J)  : ∀ (x2 s0 : Int) (M : MM), ri_ x2 → ri_ s0 → w_X12_workPart_b116  (gw_  dp) Q  x2 s0 M → J 116 [(0, .ref (ad 0)), (2, .int (Ii x2))] [.int (Ii s0)] M := by
  intro x2 s0 M gx2 gs0 hF
  unfold w_X12_workPart_b116 at hF
  refine j_istore_n (lv' := [(3, .int (Ii s0)), (0, .ref (ad 0)), (2, .int (Ii x2))]) hJ dX12_workPart_116 rfl (by decide) rfl ?_
  refine j_iload_n hJ dX12_workPart_117 rfl 0 rfl ?_
  refine j_if_ne hJ 128 gs0 dX12_workPart_118 (by decide) (fun z1 => ?_) (fun z1 => ?_)
  · have hF := hF.1 z1
    refine j_aload_n hJ dX12_workPart_128 rfl 1 rfl ?_
    refine j_aload_n hJ dX12_workPart_129 rfl 1 rfl ?_
    refine j_gi hJ kR_0 fR_15_97 rfl fl_X12_826 dX12_workPart_130 (fun v2 ev2 gv2 => ?_)
    have hF := hF v2 ev2 gv2
    refine j_iload_n hJ dX12_workPart_133 rfl 2 rfl ?_
    refine j_aload_n hJ dX12_workPart_134 rfl 1 rfl ?_
    refine j_gl hJ kR_0 fR_15_102 rfl fl_X12_788 dX12_workPart_135 (fun v3 ev3 gv3 => ?_)
    have hF := hF v3 ev3 gv3
    refine j_l2i hJ dX12_workPart_138 ?_
    have g4 := hF.1; have hF := hF.2
    refine j_callVz hJ (c_X12_linksIn (l := l) (D := D) (cy := cy) (ad := ad) hin) rfl om_1169 ⟨rfl, rfl, by show _ ≤ _; simp only [rm_gw_]; omega, by show _ ≤ _; simp only [rm_gw_]; omega⟩ [.int (Ii v2), .int (Ii x2), .int (Ii v3)] mv_X12_573 hd_X12_linksInv kR_0 rfl rfl rfl (Nat.le_of_ble_eq_true rfl) dX12_workPart_139 ⟨v2, x2, v3, rfl, gv2, gx2, g4, hF⟩ (fun r5 M6 gr5 qM6 => ?_)
    have hF := qM6 gr5
    refine j_if_eq hJ 166 (jz_ri gr5) dX12_workPart_142 (by decide) (fun z7 => ?_) (fun z7 => ?_)
    · have hF := hF.1 z7
      refine j_aload_n hJ dX12_workPart_166 rfl 1 rfl ?_
      refine j_iconst hJ dX12_workPart_167 ?_
      refine j_aload_n hJ dX12_workPart_168 rfl 1 rfl ?_
      refine j_aload_n hJ dX12_workPart_169 rfl 1 rfl ?_
      refine j_gi hJ kR_0 fR_15_97 rfl fl_X12_826 dX12_workPart_170 (fun v8 ev8 gv8 => ?_)
      have hF := hF v8 ev8 gv8
      refine j_iload_n hJ dX12_workPart_173 rfl 2 rfl ?_
      refine j_aload_n hJ dX12_workPart_174 rfl 1 rfl ?_
      refine j_gl hJ kR_0 fR_15_102 rfl fl_X12_788 dX12_workPart_175 (fun v9 ev9 gv9 => ?_)
      have hF := hF v9 ev9 gv9
      refine j_l2i hJ dX12_workPart_178 ?_
      have g10 := hF.1; have hF := hF.2
      refine j_callVl hJ (c_X12_valueIn (l := l) (D := D) (cy := cy) (ad := ad) hin) rfl om_1173 ⟨rfl, rfl, by show _ ≤ _; simp only [rm_gw_]; omega, by show _ ≤ _; simp only [rm_gw_]; omega⟩ [.int (Ii v8), .int (Ii x2), .int (Ii v9)] mv_X12_577 hd_X12_valueInv kR_0 rfl rfl rfl (Nat.le_of_ble_eq_true rfl) dX12_workPart_179 ⟨v8, x2, v9, rfl, gv8, gx2, g10, hF⟩ (fun r11 M12 gr11 qM12 => ?_)
      have hF := qM12 gr11
      refine j_callVv hJ (c_X12_give (l := l) (D := D) (cy := cy) (ad := ad) hin) rfl om_1217 ⟨rfl, rfl, by show _ ≤ _; simp only [rm_gw_]; omega, by show _ ≤ _; simp only [rm_gw_]; omega⟩ [.int (Ii 0), .long (Ll r11)] mv_X12_791 hd_X12_givev kR_0 rfl rfl rfl (Nat.le_of_ble_eq_true rfl) dX12_workPart_182 ⟨0, r11, rfl, rk_0, gr11, hF⟩ (fun M14 qM14 => ?_)
      have hF := qM14
      exact j_vret hJ rfl dX12_workPart_185 hF
    · have hF := hF.2 z7
      refine j_aload_n hJ dX12_workPart_145 rfl 1 rfl ?_
      refine j_aload_n hJ dX12_workPart_146 rfl 1 rfl ?_
      refine j_aload_n hJ dX12_workPart_147 rfl 1 rfl ?_
      refine j_gi hJ kR_0 fR_15_97 rfl fl_X12_826 dX12_workPart_148 (fun v15 ev15 gv15 => ?_)
      have hF := hF v15 ev15 gv15
      refine j_iload_n hJ dX12_workPart_151 rfl 2 rfl ?_
      refine j_aload_n hJ dX12_workPart_152 rfl 1 rfl ?_
      refine j_gl hJ kR_0 fR_15_102 rfl fl_X12_788 dX12_workPart_153 (fun v16 ev16 gv16 => ?_)
      have hF := hF v16 ev16 gv16
      refine j_l2i hJ dX12_workPart_156 ?_
      have g17 := hF.1; have hF := hF.2
      refine j_callVl hJ (c_X12_valueIn (l := l) (D := D) (cy := cy) (ad := ad) hin) rfl om_1173 ⟨rfl, rfl, by show _ ≤ _; simp only [rm_gw_]; omega, by show _ ≤ _; simp only [rm_gw_]; omega⟩ [.int (Ii v15), .int (Ii x2), .int (Ii v16)] mv_X12_577 hd_X12_valueInv kR_0 rfl rfl rfl (Nat.le_of_ble_eq_true rfl) dX12_workPart_157 ⟨v15, x2, v16, rfl, gv15, gx2, g17, hF⟩ (fun r18 M19 gr18 qM19 => ?_)
      have hF := qM19 gr18
      refine j_callVv hJ (c_X12_link (l := l) (D := D) (cy := cy) (ad := ad) hin) rfl om_1257 ⟨rfl, rfl, by show _ ≤ _; simp only [rm_gw_]; omega, by show _ ≤ _; simp only [rm_gw_]; omega⟩ [.long (Ll r18)] mv_X12_840 hd_X12_linkv kR_0 rfl rfl rfl (Nat.le_of_ble_eq_true rfl) dX12_workPart_160 ⟨r18, rfl, gr18, hF⟩ (fun M21 qM21 => ?_)
      have hF := qM21
      refine j_goto hJ 185 dX12_workPart_163 (by decide) ?_
      exact j_vret hJ rfl dX12_workPart_185 hF
  · have hF := hF.2 z1
    refine j_aload_n hJ dX12_workPart_121 rfl 1 rfl ?_
    refine j_callVv hJ (c_X12_nothing (l := l) (D := D) (cy := cy) (ad := ad) hin) rfl om_1229 ⟨rfl, rfl, by show _ ≤ _; simp only [rm_gw_]; omega, by show _ ≤ _; simp only [rm_gw_]; omega⟩ [] mv_X12_798 hd_X12_nothingv kR_0 rfl rfl rfl (Nat.le_of_ble_eq_true rfl) dX12_workPart_122 ⟨rfl, hF⟩ (fun M23 qM23 => ?_)
    have hF := qM23
    refine j_goto hJ 185 dX12_workPart_125 (by decide) ?_
    exact j_vret hJ rfl dX12_workPart_185 hF
set_option maxHeartbeats 4000000 in
set_option maxRecDepth 100000 in
theorem k_X12_workPart_b115 {l : Launch} {D : va_G} {cy : Nat → ClassId} {ad : Nat → Nat} {dp : Nat} {Q : Int → MM → Prop} {J : Nat → List (Nat × Value) → List Value → MM → Prop} (hin : jIn ad ksR.length)   (hg0 : jCN l D vwCl (tyR cy) cy ad ftR ksR (XtR ad) yX12_work (.code yX12_work cX12_work 3 none :: Om) (rm_gw_ dp) 0 (W_X12_work dp ad)) (hg1 : jCN l D vwCl (tyR cy) cy ad ftR ksR (XtR ad) yX12_workOne (.code yX12_workOne cX12_workOne 5 none :: Om) (rm_gw_ dp) 0 (W_X12_workOne dp ad)) (hg2 : jCN l D vwCl (tyR cy) cy ad ftR ksR (XtR ad) yX12_workPart (.code yX12_workPart cX12_workPart 4 none :: Om) (rm_gw_ dp) 0 (W_X12_workPart dp ad)) (hg3 : jCN l D vwCl (tyR cy) cy ad ftR ksR (XtR ad) yX12_workBoth (.code yX12_workBoth cX12_workBoth 3 none :: Om) (rm_gw_ dp) 0 (W_X12_workBoth dp ad)) (hg4 : jCN l D vwCl (tyR cy) cy ad ftR ksR (XtR ad) yX12_workTwo (.code yX12_workTwo cX12_workTwo 10 none :: Om) (rm_gw_ dp) 0 (W_X12_workTwo dp ad)) (hg5 : jCN l D vwCl (tyR cy) cy ad ftR ksR (XtR ad) yX12_workSet (.code yX12_workSet cX12_workSet 7 none :: Om) (rm_gw_ dp) 0 (W_X12_workSet dp ad)) (hg6 : jCN l D vwCl (tyR cy) cy ad ftR ksR (XtR ad) yX12_workFold (.code yX12_workFold cX12_workFold 10 none :: Om) (rm_gw_ dp) 0 (W_X12_workFold dp ad)) (hJ : jOk l D vwCl (tyR cy) cy ad ftR ksR (XtR ad) Om RX12 cX12_workPart 4 0 (rm_gw_ (dp + 1)) Q J)  : ∀ (x2 : Int) (M : MM), ri_ x2 → w_X12_workPart_b115  (gw_  dp) Q  x2 M → J 115 [(0, .ref (ad 0)), (2, .int (Ii x2))] [] M := by
  intro x2 M gx2 hF
  unfold w_X12_workPart_b115 at hF
  refine j_iconst hJ dX12_workPart_115 ?_
  exact j_sub hJ [0, 1] rfl (k_X12_workPart_b116 hin  hg0 hg1 hg2 hg3 hg4 hg5 hg6 hJ  x2 0 _ gx2 rk_0 hF)
set_option maxHeartbeats 4000000 in
set_option maxRecDepth 100000 in
theorem k_X12_workPart_b27 {l : Launch} {D : va_G} {cy : Nat → ClassId} {ad : Nat → Nat} {dp : Nat} {Q : Int → MM → Prop} {J : Nat → List (Nat × Value) → List Value → MM → Prop} (hin : jIn ad ksR.length)   (hg0 : jCN l D vwCl (tyR cy) cy ad ftR ksR (XtR ad) yX12_work (.code yX12_work cX12_work 3 none :: Om) (rm_gw_ dp) 0 (W_X12_work dp ad)) (hg1 : jCN l D vwCl (tyR cy) cy ad ftR ksR (XtR ad) yX12_workOne (.code yX12_workOne cX12_workOne 5 none :: Om) (rm_gw_ dp) 0 (W_X12_workOne dp ad)) (hg2 : jCN l D vwCl (tyR cy) cy ad ftR ksR (XtR ad) yX12_workPart (.code yX12_workPart cX12_workPart 4 none :: Om) (rm_gw_ dp) 0 (W_X12_workPart dp ad)) (hg3 : jCN l D vwCl (tyR cy) cy ad ftR ksR (XtR ad) yX12_workBoth (.code yX12_workBoth cX12_workBoth 3 none :: Om) (rm_gw_ dp) 0 (W_X12_workBoth dp ad)) (hg4 : jCN l D vwCl (tyR cy) cy ad ftR ksR (XtR ad) yX12_workTwo (.code yX12_workTwo cX12_workTwo 10 none :: Om) (rm_gw_ dp) 0 (W_X12_workTwo dp ad)) (hg5 : jCN l D vwCl (tyR cy) cy ad ftR ksR (XtR ad) yX12_workSet (.code yX12_workSet cX12_workSet 7 none :: Om) (rm_gw_ dp) 0 (W_X12_workSet dp ad)) (hg6 : jCN l D vwCl (tyR cy) cy ad ftR ksR (XtR ad) yX12_workFold (.code yX12_workFold cX12_workFold 10 none :: Om) (rm_gw_ dp) 0 (W_X12_workFold dp ad)) (hJ : jOk l D vwCl (tyR cy) cy ad ftR ksR (XtR ad) Om RX12 cX12_workPart 4 0 (rm_gw_ (dp + 1)) Q J)  : ∀ (x1 s0 : Int) (M : MM), ri_ x1 → ri_ s0 → w_X12_workPart_b27  (gw_  dp) Q  x1 s0 M → J 27 [(0, .ref (ad 0)), (1, .int (Ii x1))] [.int (Ii s0)] M := by
  intro x1 s0 M gx1 gs0 hF
  unfold w_X12_workPart_b27 at hF
  refine j_istore_n (lv' := [(2, .int (Ii s0)), (0, .ref (ad 0)), (1, .int (Ii x1))]) hJ dX12_workPart_27 rfl (by decide) rfl ?_
  refine j_aload_n hJ dX12_workPart_28 rfl 1 rfl ?_
  refine j_aload_n hJ dX12_workPart_29 rfl 1 rfl ?_
  refine j_gr (e := 68) hJ kR_0 fR_15_88 fl_X12_278 dX12_workPart_30 rfl ?_
  refine j_iload_n hJ dX12_workPart_33 rfl 2 rfl ?_
  refine j_iald hJ gx1 kR_68 hF.1 hF.2.1 dX12_workPart_34 (fun v1 ev1 gv1 => ?_)
  have hF := hF.2.2 v1 ev1 gv1
  refine j_callVv hJ hg0 rfl om_1253 ⟨rfl, rfl, by show _ ≤ _; simp only [rm_gw_]; omega, by show _ ≤ _; simp only [rm_gw_]; omega⟩ [.int (Ii v1)] mv_X12_829 hd_X12_workv kR_0 rfl rfl rfl (Nat.le_of_ble_eq_true rfl) dX12_workPart_35 ⟨v1, rfl, gv1, hF⟩ (fun M3 qM3 => ?_)
  have hF := qM3
  refine j_aload_n hJ dX12_workPart_38 rfl 1 rfl ?_
  refine j_gz hJ kR_0 fR_15_103 rfl fl_X12_782 dX12_workPart_39 (fun v4 ev4 gv4 => ?_)
  have hF := hF v4 ev4 gv4
  refine j_if_eq hJ 46 (jz_ri gv4) dX12_workPart_42 (by decide) (fun z5 => ?_) (fun z5 => ?_)
  · have hF := hF.1 z5
    refine j_iload_n hJ dX12_workPart_46 rfl 0 rfl ?_
    refine j_iconst hJ dX12_workPart_47 ?_
    refine j_icmp_eq hJ 115 gs0 rk_m1 dX12_workPart_48 (by decide) (fun z6 => ?_) (fun z6 => ?_)
    · have hF := hF.1 z6
      exact j_sub hJ [1, 0] rfl (k_X12_workPart_b115 hin  hg0 hg1 hg2 hg3 hg4 hg5 hg6 hJ  s0 _ gs0 hF)
    · have hF := hF.2 z6
      refine j_aload_n hJ dX12_workPart_51 rfl 1 rfl ?_
      refine j_aload_n hJ dX12_workPart_52 rfl 1 rfl ?_
      refine j_gr (e := 40) hJ kR_0 fR_15_50 fl_X12_189 dX12_workPart_53 rfl ?_
      refine j_aload_n hJ dX12_workPart_56 rfl 1 rfl ?_
      refine j_aload_n hJ dX12_workPart_57 rfl 1 rfl ?_
      refine j_gi hJ kR_0 fR_15_97 rfl fl_X12_826 dX12_workPart_58 (fun v7 ev7 gv7 => ?_)
      have hF := hF v7 ev7 gv7
      refine j_iload_n hJ dX12_workPart_61 rfl 0 rfl ?_
      refine j_callVi hJ (c_X12_at (l := l) (D := D) (cy := cy) (ad := ad) hin) rfl om_1153 ⟨rfl, rfl, by show _ ≤ _; simp only [rm_gw_]; omega, by show _ ≤ _; simp only [rm_gw_]; omega⟩ [.int (Ii v7), .int (Ii s0)] mv_X12_545 hd_X12_atv kR_0 rfl rfl rfl (Nat.le_of_ble_eq_true rfl) dX12_workPart_62 ⟨v7, s0, rfl, gv7, gs0, hF⟩ (fun r8 M9 gr8 qM9 => ?_)
      have hF := qM9 gr8
      refine j_iald hJ gr8 kR_40 hF.1 hF.2.1 dX12_workPart_65 (fun v10 ev10 gv10 => ?_)
      have hF := hF.2.2 v10 ev10 gv10
      refine j_callVz hJ (c_X12_isClass (l := l) (D := D) (cy := cy) (ad := ad) hin) rfl om_1064 ⟨rfl, rfl, by show _ ≤ _; simp only [rm_gw_]; omega, by show _ ≤ _; simp only [rm_gw_]; omega⟩ [.int (Ii v10)] mv_X12_416 hd_X12_isClassv kR_0 rfl rfl rfl (Nat.le_of_ble_eq_true rfl) dX12_workPart_66 ⟨v10, rfl, gv10, hF⟩ (fun r11 M12 gr11 qM12 => ?_)
      have hF := qM12 gr11
      refine j_if_ne hJ 115 (jz_ri gr11) dX12_workPart_69 (by decide) (fun z13 => ?_) (fun z13 => ?_)
      · have hF := hF.1 z13
        exact j_sub hJ [1, 0] rfl (k_X12_workPart_b115 hin  hg0 hg1 hg2 hg3 hg4 hg5 hg6 hJ  s0 _ gs0 hF)
      · have hF := hF.2 z13
        refine j_aload_n hJ dX12_workPart_72 rfl 1 rfl ?_
        refine j_gi hJ kR_0 fR_15_99 rfl fl_X12_785 dX12_workPart_73 (fun v14 ev14 gv14 => ?_)
        have hF := hF v14 ev14 gv14
        refine j_if_ne hJ 115 gv14 dX12_workPart_76 (by decide) (fun z15 => ?_) (fun z15 => ?_)
        · have hF := hF.1 z15
          exact j_sub hJ [1, 0] rfl (k_X12_workPart_b115 hin  hg0 hg1 hg2 hg3 hg4 hg5 hg6 hJ  s0 _ gs0 hF)
        · have hF := hF.2 z15
          refine j_aload_n hJ dX12_workPart_79 rfl 1 rfl ?_
          refine j_gl hJ kR_0 fR_15_102 rfl fl_X12_788 dX12_workPart_80 (fun v16 ev16 gv16 => ?_)
          have hF := hF v16 ev16 gv16
          refine j_lconst (x := 0) hJ dX12_workPart_83 rfl ?_
          refine j_lcmp_lt hJ 115 gv16 lkm_0 dX12_workPart_84 dX12_workPart_85 (by decide) (fun z17 => ?_) (fun z17 => ?_)
          · have hF := hF.1 z17
            exact j_sub hJ [1, 0] rfl (k_X12_workPart_b115 hin  hg0 hg1 hg2 hg3 hg4 hg5 hg6 hJ  s0 _ gs0 hF)
          · have hF := hF.2 z17
            refine j_aload_n hJ dX12_workPart_88 rfl 1 rfl ?_
            refine j_gl hJ kR_0 fR_15_102 rfl fl_X12_788 dX12_workPart_89 (fun v18 ev18 gv18 => ?_)
            have hF := hF v18 ev18 gv18
            refine j_aload_n hJ dX12_workPart_92 rfl 1 rfl ?_
            refine j_gr (e := 41) hJ kR_0 fR_15_51 fl_X12_192 dX12_workPart_93 rfl ?_
            refine j_aload_n hJ dX12_workPart_96 rfl 1 rfl ?_
            refine j_aload_n hJ dX12_workPart_97 rfl 1 rfl ?_
            refine j_gi hJ kR_0 fR_15_97 rfl fl_X12_826 dX12_workPart_98 (fun v19 ev19 gv19 => ?_)
            have hF := hF v19 ev19 gv19
            refine j_iload_n hJ dX12_workPart_101 rfl 0 rfl ?_
            refine j_callVi hJ (c_X12_at (l := l) (D := D) (cy := cy) (ad := ad) hin) rfl om_1153 ⟨rfl, rfl, by show _ ≤ _; simp only [rm_gw_]; omega, by show _ ≤ _; simp only [rm_gw_]; omega⟩ [.int (Ii v19), .int (Ii s0)] mv_X12_545 hd_X12_atv kR_0 rfl rfl rfl (Nat.le_of_ble_eq_true rfl) dX12_workPart_102 ⟨v19, s0, rfl, gv19, gs0, hF⟩ (fun r20 M21 gr20 qM21 => ?_)
            have hF := qM21 gr20
            refine j_iald hJ gr20 kR_41 hF.1 hF.2.1 dX12_workPart_105 (fun v22 ev22 gv22 => ?_)
            have hF := hF.2.2 v22 ev22 gv22
            refine j_i2l hJ gv22 dX12_workPart_106 ?_
            refine j_lcmp_ge hJ 115 gv18 (rl_ri gv22) dX12_workPart_107 dX12_workPart_108 (by decide) (fun z23 => ?_) (fun z23 => ?_)
            · have hF := hF.1 z23
              exact j_sub hJ [1, 0] rfl (k_X12_workPart_b115 hin  hg0 hg1 hg2 hg3 hg4 hg5 hg6 hJ  s0 _ gs0 hF)
            · have hF := hF.2 z23
              refine j_iconst hJ dX12_workPart_111 ?_
              refine j_goto hJ 116 dX12_workPart_112 (by decide) ?_
              exact j_sub hJ [1, 0] rfl (k_X12_workPart_b116 hin  hg0 hg1 hg2 hg3 hg4 hg5 hg6 hJ  s0 1 _ gs0 rk_1 hF)
  · have hF := hF.2 z5
    exact j_vret hJ rfl dX12_workPart_45 hF
set_option maxHeartbeats 4000000 in
set_option maxRecDepth 100000 in
theorem s_X12_workPart {l : Launch} {D : va_G} {cy : Nat → ClassId} {ad : Nat → Nat} {dp : Nat} (hin : jIn ad ksR.length) (hg0 : jCN l D vwCl (tyR cy) cy ad ftR ksR (XtR ad) yX12_work (.code yX12_work cX12_work 3 none :: Om) (rm_gw_ dp) 0 (W_X12_work dp ad)) (hg1 : jCN l D vwCl (tyR cy) cy ad ftR ksR (XtR ad) yX12_workOne (.code yX12_workOne cX12_workOne 5 none :: Om) (rm_gw_ dp) 0 (W_X12_workOne dp ad)) (hg2 : jCN l D vwCl (tyR cy) cy ad ftR ksR (XtR ad) yX12_workPart (.code yX12_workPart cX12_workPart 4 none :: Om) (rm_gw_ dp) 0 (W_X12_workPart dp ad)) (hg3 : jCN l D vwCl (tyR cy) cy ad ftR ksR (XtR ad) yX12_workBoth (.code yX12_workBoth cX12_workBoth 3 none :: Om) (rm_gw_ dp) 0 (W_X12_workBoth dp ad)) (hg4 : jCN l D vwCl (tyR cy) cy ad ftR ksR (XtR ad) yX12_workTwo (.code yX12_workTwo cX12_workTwo 10 none :: Om) (rm_gw_ dp) 0 (W_X12_workTwo dp ad)) (hg5 : jCN l D vwCl (tyR cy) cy ad ftR ksR (XtR ad) yX12_workSet (.code yX12_workSet cX12_workSet 7 none :: Om) (rm_gw_ dp) 0 (W_X12_workSet dp ad)) (hg6 : jCN l D vwCl (tyR cy) cy ad ftR ksR (XtR ad) yX12_workFold (.code yX12_workFold cX12_workFold 10 none :: Om) (rm_gw_ dp) 0 (W_X12_workFold dp ad)) : jCN l D vwCl (tyR cy) cy ad ftR ksR (XtR ad) yX12_workPart (.code yX12_workPart cX12_workPart 4 none :: Om) (rm_gw_ (dp + 1)) 0 (W_X12_workPart (dp + 1) ad) := by
  refine jCN_of (y := yX12_workPart) (cc := cX12_workPart) (nL := 4) (rk := 0) (rm := (rm_gw_ (dp + 1))) (own := RX12) (tyR_ok cy) hin (XtR_ok ad) Om_good (by decide) rfl ?_
  intro Q av M hF
  obtain ⟨p1, rfl, gp1, hF⟩ := hF
  refine ⟨Nat.le_of_ble_eq_true rfl, fun J hJ => ?_⟩
  show J 0 [(0, .ref (ad 0)), (1, .int (Ii p1))] [] M
  have hF : b_X12_workPart  (gw_  dp) Q p1 M := hF
  unfold b_X12_workPart at hF
  refine j_aload_n hJ dX12_workPart_0 rfl 0 rfl ?_
  refine j_aload_n hJ dX12_workPart_1 rfl 0 rfl ?_
  refine j_gr (e := 67) hJ kR_0 fR_15_87 fl_X12_275 dX12_workPart_2 rfl ?_
  refine j_iload_n hJ dX12_workPart_5 rfl 1 rfl ?_
  refine j_iald hJ gp1 kR_67 hF.1 hF.2.1 dX12_workPart_6 (fun v1 ev1 gv1 => ?_)
  have hF := hF.2.2 v1 ev1 gv1
  refine j_callVv hJ hg0 rfl om_1253 ⟨rfl, rfl, by show _ ≤ _; simp only [rm_gw_]; omega, by show _ ≤ _; simp only [rm_gw_]; omega⟩ [.int (Ii v1)] mv_X12_829 hd_X12_workv kR_0 rfl rfl rfl (Nat.le_of_ble_eq_true rfl) dX12_workPart_7 ⟨v1, rfl, gv1, hF⟩ (fun M3 qM3 => ?_)
  have hF := qM3
  refine j_aload_n hJ dX12_workPart_10 rfl 0 rfl ?_
  refine j_gi hJ kR_0 fR_15_99 rfl fl_X12_785 dX12_workPart_11 (fun v4 ev4 gv4 => ?_)
  have hF := hF v4 ev4 gv4
  refine j_iconst hJ dX12_workPart_14 ?_
  refine j_icmp_ne hJ 26 gv4 rk_2 dX12_workPart_15 (by decide) (fun z5 => ?_) (fun z5 => ?_)
  · have hF := hF.1 z5
    refine j_iconst hJ dX12_workPart_26 ?_
    exact j_sub hJ [0, 1] rfl (k_X12_workPart_b27 hin  hg0 hg1 hg2 hg3 hg4 hg5 hg6 hJ  p1 (-1) _ gp1 rk_m1 hF)
  · have hF := hF.2 z5
    refine j_aload_n hJ dX12_workPart_18 rfl 0 rfl ?_
    refine j_gl hJ kR_0 fR_15_102 rfl fl_X12_788 dX12_workPart_19 (fun v6 ev6 gv6 => ?_)
    have hF := hF v6 ev6 gv6
    refine j_l2i hJ dX12_workPart_22 ?_
    have g7 := hF.1; have hF := hF.2
    refine j_goto hJ 27 dX12_workPart_23 (by decide) ?_
    exact j_sub hJ [0, 1] rfl (k_X12_workPart_b27 hin  hg0 hg1 hg2 hg3 hg4 hg5 hg6 hJ  p1 v6 _ gp1 g7 hF)
set_option maxHeartbeats 4000000 in
set_option maxRecDepth 100000 in
theorem k_X12_workBoth_b51 {l : Launch} {D : va_G} {cy : Nat → ClassId} {ad : Nat → Nat} {dp : Nat} {Q : Int → MM → Prop} {J : Nat → List (Nat × Value) → List Value → MM → Prop} (hin : jIn ad ksR.length)   (hg0 : jCN l D vwCl (tyR cy) cy ad ftR ksR (XtR ad) yX12_work (.code yX12_work cX12_work 3 none :: Om) (rm_gw_ dp) 0 (W_X12_work dp ad)) (hg1 : jCN l D vwCl (tyR cy) cy ad ftR ksR (XtR ad) yX12_workOne (.code yX12_workOne cX12_workOne 5 none :: Om) (rm_gw_ dp) 0 (W_X12_workOne dp ad)) (hg2 : jCN l D vwCl (tyR cy) cy ad ftR ksR (XtR ad) yX12_workPart (.code yX12_workPart cX12_workPart 4 none :: Om) (rm_gw_ dp) 0 (W_X12_workPart dp ad)) (hg3 : jCN l D vwCl (tyR cy) cy ad ftR ksR (XtR ad) yX12_workBoth (.code yX12_workBoth cX12_workBoth 3 none :: Om) (rm_gw_ dp) 0 (W_X12_workBoth dp ad)) (hg4 : jCN l D vwCl (tyR cy) cy ad ftR ksR (XtR ad) yX12_workTwo (.code yX12_workTwo cX12_workTwo 10 none :: Om) (rm_gw_ dp) 0 (W_X12_workTwo dp ad)) (hg5 : jCN l D vwCl (tyR cy) cy ad ftR ksR (XtR ad) yX12_workSet (.code yX12_workSet cX12_workSet 7 none :: Om) (rm_gw_ dp) 0 (W_X12_workSet dp ad)) (hg6 : jCN l D vwCl (tyR cy) cy ad ftR ksR (XtR ad) yX12_workFold (.code yX12_workFold cX12_workFold 10 none :: Om) (rm_gw_ dp) 0 (W_X12_workFold dp ad)) (hJ : jOk l D vwCl (tyR cy) cy ad ftR ksR (XtR ad) Om RX12 cX12_workBoth 3 0 (rm_gw_ (dp + 1)) Q J)  : ∀ (x1 s0 s1 : Int) (M : MM), ri_ x1 → rl_ s0 → rl_ s1 → w_X12_workBoth_b51  (gw_  dp) Q  x1 s0 s1 M → J 51 [(0, .ref (ad 0)), (1, .int (Ii x1))] [.long (Ll s0), .long (Ll s1)] M := by
  intro x1 s0 s1 M gx1 gs0 gs1 hF
  unfold w_X12_workBoth_b51 at hF
  refine j_lcmp_ne hJ 56 gs1 gs0 dX12_workBoth_51 dX12_workBoth_52 (by decide) (fun z1 => ?_) (fun z1 => ?_)
  · have hF := hF.1 z1
    refine j_aload_n hJ dX12_workBoth_56 rfl 0 rfl ?_
    refine j_aload_n hJ dX12_workBoth_57 rfl 0 rfl ?_
    refine j_gr (e := 68) hJ kR_0 fR_15_88 fl_X12_278 dX12_workBoth_58 rfl ?_
    refine j_iload_n hJ dX12_workBoth_61 rfl 1 rfl ?_
    refine j_iald hJ gx1 kR_68 hF.1 hF.2.1 dX12_workBoth_62 (fun v2 ev2 gv2 => ?_)
    have hF := hF.2.2 v2 ev2 gv2
    refine j_callVv hJ hg0 rfl om_1253 ⟨rfl, rfl, by show _ ≤ _; simp only [rm_gw_]; omega, by show _ ≤ _; simp only [rm_gw_]; omega⟩ [.int (Ii v2)] mv_X12_829 hd_X12_workv kR_0 rfl rfl rfl (Nat.le_of_ble_eq_true rfl) dX12_workBoth_63 ⟨v2, rfl, gv2, hF⟩ (fun M4 qM4 => ?_)
    have hF := qM4
    refine j_aload_n hJ dX12_workBoth_66 rfl 0 rfl ?_
    refine j_gi hJ kR_0 fR_15_99 rfl fl_X12_785 dX12_workBoth_67 (fun v5 ev5 gv5 => ?_)
    have hF := hF v5 ev5 gv5
    refine j_iconst hJ dX12_workBoth_70 ?_
    refine j_icmp_eq hJ 78 gv5 rk_1 dX12_workBoth_71 (by decide) (fun z6 => ?_) (fun z6 => ?_)
    · have hF := hF.1 z6
      exact j_vret hJ rfl dX12_workBoth_78 hF
    · have hF := hF.2 z6
      refine j_aload_n hJ dX12_workBoth_74 rfl 0 rfl ?_
      refine j_callVv hJ (c_X12_nothing (l := l) (D := D) (cy := cy) (ad := ad) hin) rfl om_1229 ⟨rfl, rfl, by show _ ≤ _; simp only [rm_gw_]; omega, by show _ ≤ _; simp only [rm_gw_]; omega⟩ [] mv_X12_798 hd_X12_nothingv kR_0 rfl rfl rfl (Nat.le_of_ble_eq_true rfl) dX12_workBoth_75 ⟨rfl, hF⟩ (fun M8 qM8 => ?_)
      have hF := qM8
      exact j_vret hJ rfl dX12_workBoth_78 hF
  · have hF := hF.2 z1
    exact j_vret hJ rfl dX12_workBoth_55 hF
set_option maxHeartbeats 4000000 in
set_option maxRecDepth 100000 in
theorem k_X12_workBoth_b30 {l : Launch} {D : va_G} {cy : Nat → ClassId} {ad : Nat → Nat} {dp : Nat} {Q : Int → MM → Prop} {J : Nat → List (Nat × Value) → List Value → MM → Prop} (hin : jIn ad ksR.length)   (hg0 : jCN l D vwCl (tyR cy) cy ad ftR ksR (XtR ad) yX12_work (.code yX12_work cX12_work 3 none :: Om) (rm_gw_ dp) 0 (W_X12_work dp ad)) (hg1 : jCN l D vwCl (tyR cy) cy ad ftR ksR (XtR ad) yX12_workOne (.code yX12_workOne cX12_workOne 5 none :: Om) (rm_gw_ dp) 0 (W_X12_workOne dp ad)) (hg2 : jCN l D vwCl (tyR cy) cy ad ftR ksR (XtR ad) yX12_workPart (.code yX12_workPart cX12_workPart 4 none :: Om) (rm_gw_ dp) 0 (W_X12_workPart dp ad)) (hg3 : jCN l D vwCl (tyR cy) cy ad ftR ksR (XtR ad) yX12_workBoth (.code yX12_workBoth cX12_workBoth 3 none :: Om) (rm_gw_ dp) 0 (W_X12_workBoth dp ad)) (hg4 : jCN l D vwCl (tyR cy) cy ad ftR ksR (XtR ad) yX12_workTwo (.code yX12_workTwo cX12_workTwo 10 none :: Om) (rm_gw_ dp) 0 (W_X12_workTwo dp ad)) (hg5 : jCN l D vwCl (tyR cy) cy ad ftR ksR (XtR ad) yX12_workSet (.code yX12_workSet cX12_workSet 7 none :: Om) (rm_gw_ dp) 0 (W_X12_workSet dp ad)) (hg6 : jCN l D vwCl (tyR cy) cy ad ftR ksR (XtR ad) yX12_workFold (.code yX12_workFold cX12_workFold 10 none :: Om) (rm_gw_ dp) 0 (W_X12_workFold dp ad)) (hJ : jOk l D vwCl (tyR cy) cy ad ftR ksR (XtR ad) Om RX12 cX12_workBoth 3 0 (rm_gw_ (dp + 1)) Q J)  : ∀ (x1 x2 : Int) (M : MM), ri_ x1 → ri_ x2 → w_X12_workBoth_b30  (gw_  dp) Q  x1 x2 M → J 30 [(0, .ref (ad 0)), (1, .int (Ii x1)), (2, .int (Ii x2))] [] M := by
  intro x1 x2 M gx1 gx2 hF
  unfold w_X12_workBoth_b30 at hF
  refine j_aload_n hJ dX12_workBoth_30 rfl 0 rfl ?_
  refine j_gi hJ kR_0 fR_15_99 rfl fl_X12_785 dX12_workBoth_31 (fun v1 ev1 gv1 => ?_)
  have hF := hF v1 ev1 gv1
  refine j_iconst hJ dX12_workBoth_34 ?_
  refine j_icmp_ne hJ 55 gv1 rk_1 dX12_workBoth_35 (by decide) (fun z2 => ?_) (fun z2 => ?_)
  · have hF := hF.1 z2
    exact j_vret hJ rfl dX12_workBoth_55 hF
  · have hF := hF.2 z2
    refine j_aload_n hJ dX12_workBoth_38 rfl 0 rfl ?_
    refine j_gl hJ kR_0 fR_15_102 rfl fl_X12_788 dX12_workBoth_39 (fun v3 ev3 gv3 => ?_)
    have hF := hF v3 ev3 gv3
    refine j_iload_n hJ dX12_workBoth_42 rfl 2 rfl ?_
    refine j_if_eq hJ 50 gx2 dX12_workBoth_43 (by decide) (fun z4 => ?_) (fun z4 => ?_)
    · have hF := hF.1 z4
      refine j_lconst (x := 0) hJ dX12_workBoth_50 rfl ?_
      exact j_sub hJ [0, 1] rfl (k_X12_workBoth_b51 hin  hg0 hg1 hg2 hg3 hg4 hg5 hg6 hJ  x1 0 v3 _ gx1 lkm_0 gv3 hF)
    · have hF := hF.2 z4
      refine j_lconst (x := 1) hJ dX12_workBoth_46 rfl ?_
      refine j_goto hJ 51 dX12_workBoth_47 (by decide) ?_
      exact j_sub hJ [0, 1] rfl (k_X12_workBoth_b51 hin  hg0 hg1 hg2 hg3 hg4 hg5 hg6 hJ  x1 1 v3 _ gx1 lk_1 gv3 hF)
set_option maxHeartbeats 4000000 in
set_option maxRecDepth 100000 in
theorem s_X12_workBoth {l : Launch} {D : va_G} {cy : Nat → ClassId} {ad : Nat → Nat} {dp : Nat} (hin : jIn ad ksR.length) (hg0 : jCN l D vwCl (tyR cy) cy ad ftR ksR (XtR ad) yX12_work (.code yX12_work cX12_work 3 none :: Om) (rm_gw_ dp) 0 (W_X12_work dp ad)) (hg1 : jCN l D vwCl (tyR cy) cy ad ftR ksR (XtR ad) yX12_workOne (.code yX12_workOne cX12_workOne 5 none :: Om) (rm_gw_ dp) 0 (W_X12_workOne dp ad)) (hg2 : jCN l D vwCl (tyR cy) cy ad ftR ksR (XtR ad) yX12_workPart (.code yX12_workPart cX12_workPart 4 none :: Om) (rm_gw_ dp) 0 (W_X12_workPart dp ad)) (hg3 : jCN l D vwCl (tyR cy) cy ad ftR ksR (XtR ad) yX12_workBoth (.code yX12_workBoth cX12_workBoth 3 none :: Om) (rm_gw_ dp) 0 (W_X12_workBoth dp ad)) (hg4 : jCN l D vwCl (tyR cy) cy ad ftR ksR (XtR ad) yX12_workTwo (.code yX12_workTwo cX12_workTwo 10 none :: Om) (rm_gw_ dp) 0 (W_X12_workTwo dp ad)) (hg5 : jCN l D vwCl (tyR cy) cy ad ftR ksR (XtR ad) yX12_workSet (.code yX12_workSet cX12_workSet 7 none :: Om) (rm_gw_ dp) 0 (W_X12_workSet dp ad)) (hg6 : jCN l D vwCl (tyR cy) cy ad ftR ksR (XtR ad) yX12_workFold (.code yX12_workFold cX12_workFold 10 none :: Om) (rm_gw_ dp) 0 (W_X12_workFold dp ad)) : jCN l D vwCl (tyR cy) cy ad ftR ksR (XtR ad) yX12_workBoth (.code yX12_workBoth cX12_workBoth 3 none :: Om) (rm_gw_ (dp + 1)) 0 (W_X12_workBoth (dp + 1) ad) := by
  refine jCN_of (y := yX12_workBoth) (cc := cX12_workBoth) (nL := 3) (rk := 0) (rm := (rm_gw_ (dp + 1))) (own := RX12) (tyR_ok cy) hin (XtR_ok ad) Om_good (by decide) rfl ?_
  intro Q av M hF
  obtain ⟨p1, p2, rfl, gp1, gp2, hF⟩ := hF
  refine ⟨Nat.le_of_ble_eq_true rfl, fun J hJ => ?_⟩
  show J 0 [(0, .ref (ad 0)), (1, .int (Ii p1)), (2, .int (Ii p2))] [] M
  have hF : b_X12_workBoth  (gw_  dp) Q p1 p2 M := hF
  unfold b_X12_workBoth at hF
  refine j_aload_n hJ dX12_workBoth_0 rfl 0 rfl ?_
  refine j_aload_n hJ dX12_workBoth_1 rfl 0 rfl ?_
  refine j_gr (e := 67) hJ kR_0 fR_15_87 fl_X12_275 dX12_workBoth_2 rfl ?_
  refine j_iload_n hJ dX12_workBoth_5 rfl 1 rfl ?_
  refine j_iald hJ gp1 kR_67 hF.1 hF.2.1 dX12_workBoth_6 (fun v1 ev1 gv1 => ?_)
  have hF := hF.2.2 v1 ev1 gv1
  refine j_callVv hJ hg0 rfl om_1253 ⟨rfl, rfl, by show _ ≤ _; simp only [rm_gw_]; omega, by show _ ≤ _; simp only [rm_gw_]; omega⟩ [.int (Ii v1)] mv_X12_829 hd_X12_workv kR_0 rfl rfl rfl (Nat.le_of_ble_eq_true rfl) dX12_workBoth_7 ⟨v1, rfl, gv1, hF⟩ (fun M3 qM3 => ?_)
  have hF := qM3
  refine j_aload_n hJ dX12_workBoth_10 rfl 0 rfl ?_
  refine j_gz hJ kR_0 fR_15_103 rfl fl_X12_782 dX12_workBoth_11 (fun v4 ev4 gv4 => ?_)
  have hF := hF v4 ev4 gv4
  refine j_if_eq hJ 18 (jz_ri gv4) dX12_workBoth_14 (by decide) (fun z5 => ?_) (fun z5 => ?_)
  · have hF := hF.1 z5
    refine j_aload_n hJ dX12_workBoth_18 rfl 0 rfl ?_
    refine j_gi hJ kR_0 fR_15_99 rfl fl_X12_785 dX12_workBoth_19 (fun v6 ev6 gv6 => ?_)
    have hF := hF v6 ev6 gv6
    refine j_iconst hJ dX12_workBoth_22 ?_
    refine j_icmp_eq hJ 30 gv6 rk_1 dX12_workBoth_23 (by decide) (fun z7 => ?_) (fun z7 => ?_)
    · have hF := hF.1 z7
      exact j_sub hJ [0, 1, 2] rfl (k_X12_workBoth_b30 hin  hg0 hg1 hg2 hg3 hg4 hg5 hg6 hJ  p1 p2 _ gp1 (jz_ri gp2) hF)
    · have hF := hF.2 z7
      refine j_aload_n hJ dX12_workBoth_26 rfl 0 rfl ?_
      refine j_callVv hJ (c_X12_nothing (l := l) (D := D) (cy := cy) (ad := ad) hin) rfl om_1229 ⟨rfl, rfl, by show _ ≤ _; simp only [rm_gw_]; omega, by show _ ≤ _; simp only [rm_gw_]; omega⟩ [] mv_X12_798 hd_X12_nothingv kR_0 rfl rfl rfl (Nat.le_of_ble_eq_true rfl) dX12_workBoth_27 ⟨rfl, hF⟩ (fun M9 qM9 => ?_)
      have hF := qM9
      exact j_sub hJ [0, 1, 2] rfl (k_X12_workBoth_b30 hin  hg0 hg1 hg2 hg3 hg4 hg5 hg6 hJ  p1 p2 _ gp1 (jz_ri gp2) hF)
  · have hF := hF.2 z5
    exact j_vret hJ rfl dX12_workBoth_17 hF
set_option maxHeartbeats 4000000 in
set_option maxRecDepth 100000 in
theorem k_X12_workTwo_b162 {l : Launch} {D : va_G} {cy : Nat → ClassId} {ad : Nat → Nat} {dp : Nat} {Q : Int → MM → Prop} {J : Nat → List (Nat × Value) → List Value → MM → Prop} (hin : jIn ad ksR.length)   (hg0 : jCN l D vwCl (tyR cy) cy ad ftR ksR (XtR ad) yX12_work (.code yX12_work cX12_work 3 none :: Om) (rm_gw_ dp) 0 (W_X12_work dp ad)) (hg1 : jCN l D vwCl (tyR cy) cy ad ftR ksR (XtR ad) yX12_workOne (.code yX12_workOne cX12_workOne 5 none :: Om) (rm_gw_ dp) 0 (W_X12_workOne dp ad)) (hg2 : jCN l D vwCl (tyR cy) cy ad ftR ksR (XtR ad) yX12_workPart (.code yX12_workPart cX12_workPart 4 none :: Om) (rm_gw_ dp) 0 (W_X12_workPart dp ad)) (hg3 : jCN l D vwCl (tyR cy) cy ad ftR ksR (XtR ad) yX12_workBoth (.code yX12_workBoth cX12_workBoth 3 none :: Om) (rm_gw_ dp) 0 (W_X12_workBoth dp ad)) (hg4 : jCN l D vwCl (tyR cy) cy ad ftR ksR (XtR ad) yX12_workTwo (.code yX12_workTwo cX12_workTwo 10 none :: Om) (rm_gw_ dp) 0 (W_X12_workTwo dp ad)) (hg5 : jCN l D vwCl (tyR cy) cy ad ftR ksR (XtR ad) yX12_workSet (.code yX12_workSet cX12_workSet 7 none :: Om) (rm_gw_ dp) 0 (W_X12_workSet dp ad)) (hg6 : jCN l D vwCl (tyR cy) cy ad ftR ksR (XtR ad) yX12_workFold (.code yX12_workFold cX12_workFold 10 none :: Om) (rm_gw_ dp) 0 (W_X12_workFold dp ad)) (hJ : jOk l D vwCl (tyR cy) cy ad ftR ksR (XtR ad) Om RX12 cX12_workTwo 10 0 (rm_gw_ (dp + 1)) Q J)  : ∀ (s0 : Int) (M : MM), ri_ s0 → w_X12_workTwo_b162  (gw_  dp) Q  s0 M → J 162 [] [.int (Ii s0), .ref (ad 0)] M := by
  intro s0 M gs0 hF
  unfold w_X12_workTwo_b162 at hF
  refine j_callVv hJ (c_X12_truth (l := l) (D := D) (cy := cy) (ad := ad) hin) rfl om_1221 ⟨rfl, rfl, by show _ ≤ _; simp only [rm_gw_]; omega, by show _ ≤ _; simp only [rm_gw_]; omega⟩ [.int (Ii s0)] mv_X12_813 hd_X12_truthv kR_0 rfl rfl rfl (Nat.le_of_ble_eq_true rfl) dX12_workTwo_162 ⟨s0, rfl, hF.1, hF.2⟩ (fun M2 qM2 => ?_)
  have hF := qM2
  refine j_goto hJ 172 dX12_workTwo_165 (by decide) ?_
  exact j_vret hJ rfl dX12_workTwo_172 hF
set_option maxHeartbeats 4000000 in
set_option maxRecDepth 100000 in
theorem k_X12_workTwo_b154 {l : Launch} {D : va_G} {cy : Nat → ClassId} {ad : Nat → Nat} {dp : Nat} {Q : Int → MM → Prop} {J : Nat → List (Nat × Value) → List Value → MM → Prop} (hin : jIn ad ksR.length)   (hg0 : jCN l D vwCl (tyR cy) cy ad ftR ksR (XtR ad) yX12_work (.code yX12_work cX12_work 3 none :: Om) (rm_gw_ dp) 0 (W_X12_work dp ad)) (hg1 : jCN l D vwCl (tyR cy) cy ad ftR ksR (XtR ad) yX12_workOne (.code yX12_workOne cX12_workOne 5 none :: Om) (rm_gw_ dp) 0 (W_X12_workOne dp ad)) (hg2 : jCN l D vwCl (tyR cy) cy ad ftR ksR (XtR ad) yX12_workPart (.code yX12_workPart cX12_workPart 4 none :: Om) (rm_gw_ dp) 0 (W_X12_workPart dp ad)) (hg3 : jCN l D vwCl (tyR cy) cy ad ftR ksR (XtR ad) yX12_workBoth (.code yX12_workBoth cX12_workBoth 3 none :: Om) (rm_gw_ dp) 0 (W_X12_workBoth dp ad)) (hg4 : jCN l D vwCl (tyR cy) cy ad ftR ksR (XtR ad) yX12_workTwo (.code yX12_workTwo cX12_workTwo 10 none :: Om) (rm_gw_ dp) 0 (W_X12_workTwo dp ad)) (hg5 : jCN l D vwCl (tyR cy) cy ad ftR ksR (XtR ad) yX12_workSet (.code yX12_workSet cX12_workSet 7 none :: Om) (rm_gw_ dp) 0 (W_X12_workSet dp ad)) (hg6 : jCN l D vwCl (tyR cy) cy ad ftR ksR (XtR ad) yX12_workFold (.code yX12_workFold cX12_workFold 10 none :: Om) (rm_gw_ dp) 0 (W_X12_workFold dp ad)) (hJ : jOk l D vwCl (tyR cy) cy ad ftR ksR (XtR ad) Om RX12 cX12_workTwo 10 0 (rm_gw_ (dp + 1)) Q J)  : ∀ (s0 s1 : Int) (M : MM), ri_ s0 → ri_ s1 → w_X12_workTwo_b154  (gw_  dp) Q  s0 s1 M → J 154 [] [.int (Ii s0), .int (Ii s1), .ref (ad 0)] M := by
  intro s0 s1 M gs0 gs1 hF
  unfold w_X12_workTwo_b154 at hF
  refine j_icmp_ne hJ 161 gs1 gs0 dX12_workTwo_154 (by decide) (fun z1 => ?_) (fun z1 => ?_)
  · have hF := hF.1 z1
    refine j_iconst hJ dX12_workTwo_161 ?_
    exact j_sub hJ [] rfl (k_X12_workTwo_b162 hin  hg0 hg1 hg2 hg3 hg4 hg5 hg6 hJ  0 _ rk_0 hF)
  · have hF := hF.2 z1
    refine j_iconst hJ dX12_workTwo_157 ?_
    refine j_goto hJ 162 dX12_workTwo_158 (by decide) ?_
    exact j_sub hJ [] rfl (k_X12_workTwo_b162 hin  hg0 hg1 hg2 hg3 hg4 hg5 hg6 hJ  1 _ rk_1 hF)
set_option maxHeartbeats 4000000 in
set_option maxRecDepth 100000 in
theorem k_X12_workTwo_b139 {l : Launch} {D : va_G} {cy : Nat → ClassId} {ad : Nat → Nat} {dp : Nat} {Q : Int → MM → Prop} {J : Nat → List (Nat × Value) → List Value → MM → Prop} (hin : jIn ad ksR.length)   (hg0 : jCN l D vwCl (tyR cy) cy ad ftR ksR (XtR ad) yX12_work (.code yX12_work cX12_work 3 none :: Om) (rm_gw_ dp) 0 (W_X12_work dp ad)) (hg1 : jCN l D vwCl (tyR cy) cy ad ftR ksR (XtR ad) yX12_workOne (.code yX12_workOne cX12_workOne 5 none :: Om) (rm_gw_ dp) 0 (W_X12_workOne dp ad)) (hg2 : jCN l D vwCl (tyR cy) cy ad ftR ksR (XtR ad) yX12_workPart (.code yX12_workPart cX12_workPart 4 none :: Om) (rm_gw_ dp) 0 (W_X12_workPart dp ad)) (hg3 : jCN l D vwCl (tyR cy) cy ad ftR ksR (XtR ad) yX12_workBoth (.code yX12_workBoth cX12_workBoth 3 none :: Om) (rm_gw_ dp) 0 (W_X12_workBoth dp ad)) (hg4 : jCN l D vwCl (tyR cy) cy ad ftR ksR (XtR ad) yX12_workTwo (.code yX12_workTwo cX12_workTwo 10 none :: Om) (rm_gw_ dp) 0 (W_X12_workTwo dp ad)) (hg5 : jCN l D vwCl (tyR cy) cy ad ftR ksR (XtR ad) yX12_workSet (.code yX12_workSet cX12_workSet 7 none :: Om) (rm_gw_ dp) 0 (W_X12_workSet dp ad)) (hg6 : jCN l D vwCl (tyR cy) cy ad ftR ksR (XtR ad) yX12_workFold (.code yX12_workFold cX12_workFold 10 none :: Om) (rm_gw_ dp) 0 (W_X12_workFold dp ad)) (hJ : jOk l D vwCl (tyR cy) cy ad ftR ksR (XtR ad) Om RX12 cX12_workTwo 10 0 (rm_gw_ (dp + 1)) Q J)  : ∀ (x7 x9 : Int) (M : MM), ri_ x7 → ri_ x9 → w_X12_workTwo_b139  (gw_  dp) Q  x7 x9 M → J 139 [(0, .ref (ad 0)), (7, .int (Ii x7)), (9, .int (Ii x9))] [] M := by
  intro x7 x9 M gx7 gx9 hF
  unfold w_X12_workTwo_b139 at hF
  refine j_aload_n hJ dX12_workTwo_139 rfl 0 rfl ?_
  refine j_iload hJ dX12_workTwo_140 2 rfl ?_
  refine j_iload hJ dX12_workTwo_142 1 rfl ?_
  refine j_bipush hJ dX12_workTwo_144 (by decide) ?_
  refine j_icmp_ne hJ 153 gx7 rk_102 dX12_workTwo_146 (by decide) (fun z1 => ?_) (fun z1 => ?_)
  · have hF := hF.1 z1
    refine j_iconst hJ dX12_workTwo_153 ?_
    exact j_sub hJ [] rfl (k_X12_workTwo_b154 hin  hg0 hg1 hg2 hg3 hg4 hg5 hg6 hJ  0 x9 _ rk_0 gx9 hF)
  · have hF := hF.2 z1
    refine j_iconst hJ dX12_workTwo_149 ?_
    refine j_goto hJ 154 dX12_workTwo_150 (by decide) ?_
    exact j_sub hJ [] rfl (k_X12_workTwo_b154 hin  hg0 hg1 hg2 hg3 hg4 hg5 hg6 hJ  1 x9 _ rk_1 gx9 hF)
set_option maxHeartbeats 4000000 in
set_option maxRecDepth 100000 in
theorem k_X12_workTwo_b168 {l : Launch} {D : va_G} {cy : Nat → ClassId} {ad : Nat → Nat} {dp : Nat} {Q : Int → MM → Prop} {J : Nat → List (Nat × Value) → List Value → MM → Prop} (hin : jIn ad ksR.length)   (hg0 : jCN l D vwCl (tyR cy) cy ad ftR ksR (XtR ad) yX12_work (.code yX12_work cX12_work 3 none :: Om) (rm_gw_ dp) 0 (W_X12_work dp ad)) (hg1 : jCN l D vwCl (tyR cy) cy ad ftR ksR (XtR ad) yX12_workOne (.code yX12_workOne cX12_workOne 5 none :: Om) (rm_gw_ dp) 0 (W_X12_workOne dp ad)) (hg2 : jCN l D vwCl (tyR cy) cy ad ftR ksR (XtR ad) yX12_workPart (.code yX12_workPart cX12_workPart 4 none :: Om) (rm_gw_ dp) 0 (W_X12_workPart dp ad)) (hg3 : jCN l D vwCl (tyR cy) cy ad ftR ksR (XtR ad) yX12_workBoth (.code yX12_workBoth cX12_workBoth 3 none :: Om) (rm_gw_ dp) 0 (W_X12_workBoth dp ad)) (hg4 : jCN l D vwCl (tyR cy) cy ad ftR ksR (XtR ad) yX12_workTwo (.code yX12_workTwo cX12_workTwo 10 none :: Om) (rm_gw_ dp) 0 (W_X12_workTwo dp ad)) (hg5 : jCN l D vwCl (tyR cy) cy ad ftR ksR (XtR ad) yX12_workSet (.code yX12_workSet cX12_workSet 7 none :: Om) (rm_gw_ dp) 0 (W_X12_workSet dp ad)) (hg6 : jCN l D vwCl (tyR cy) cy ad ftR ksR (XtR ad) yX12_workFold (.code yX12_workFold cX12_workFold 10 none :: Om) (rm_gw_ dp) 0 (W_X12_workFold dp ad)) (hJ : jOk l D vwCl (tyR cy) cy ad ftR ksR (XtR ad) Om RX12 cX12_workTwo 10 0 (rm_gw_ (dp + 1)) Q J)  : ∀ (M : MM), w_X12_workTwo_b168  (gw_  dp) Q   M → J 168 [(0, .ref (ad 0))] [] M := by
  intro  M  hF
  unfold w_X12_workTwo_b168 at hF
  refine j_aload_n hJ dX12_workTwo_168 rfl 0 rfl ?_
  refine j_callVv hJ (c_X12_nothing (l := l) (D := D) (cy := cy) (ad := ad) hin) rfl om_1229 ⟨rfl, rfl, by show _ ≤ _; simp only [rm_gw_]; omega, by show _ ≤ _; simp only [rm_gw_]; omega⟩ [] mv_X12_798 hd_X12_nothingv kR_0 rfl rfl rfl (Nat.le_of_ble_eq_true rfl) dX12_workTwo_169 ⟨rfl, hF⟩ (fun M2 qM2 => ?_)
  have hF := qM2
  exact j_vret hJ rfl dX12_workTwo_172 hF
set_option maxHeartbeats 4000000 in
set_option maxRecDepth 100000 in
theorem k_X12_workTwo_b119 {l : Launch} {D : va_G} {cy : Nat → ClassId} {ad : Nat → Nat} {dp : Nat} {Q : Int → MM → Prop} {J : Nat → List (Nat × Value) → List Value → MM → Prop} (hin : jIn ad ksR.length)   (hg0 : jCN l D vwCl (tyR cy) cy ad ftR ksR (XtR ad) yX12_work (.code yX12_work cX12_work 3 none :: Om) (rm_gw_ dp) 0 (W_X12_work dp ad)) (hg1 : jCN l D vwCl (tyR cy) cy ad ftR ksR (XtR ad) yX12_workOne (.code yX12_workOne cX12_workOne 5 none :: Om) (rm_gw_ dp) 0 (W_X12_workOne dp ad)) (hg2 : jCN l D vwCl (tyR cy) cy ad ftR ksR (XtR ad) yX12_workPart (.code yX12_workPart cX12_workPart 4 none :: Om) (rm_gw_ dp) 0 (W_X12_workPart dp ad)) (hg3 : jCN l D vwCl (tyR cy) cy ad ftR ksR (XtR ad) yX12_workBoth (.code yX12_workBoth cX12_workBoth 3 none :: Om) (rm_gw_ dp) 0 (W_X12_workBoth dp ad)) (hg4 : jCN l D vwCl (tyR cy) cy ad ftR ksR (XtR ad) yX12_workTwo (.code yX12_workTwo cX12_workTwo 10 none :: Om) (rm_gw_ dp) 0 (W_X12_workTwo dp ad)) (hg5 : jCN l D vwCl (tyR cy) cy ad ftR ksR (XtR ad) yX12_workSet (.code yX12_workSet cX12_workSet 7 none :: Om) (rm_gw_ dp) 0 (W_X12_workSet dp ad)) (hg6 : jCN l D vwCl (tyR cy) cy ad ftR ksR (XtR ad) yX12_workFold (.code yX12_workFold cX12_workFold 10 none :: Om) (rm_gw_ dp) 0 (W_X12_workFold dp ad)) (hJ : jOk l D vwCl (tyR cy) cy ad ftR ksR (XtR ad) Om RX12 cX12_workTwo 10 0 (rm_gw_ (dp + 1)) Q J)  : ∀ (x2 x7 x8 s0 : Int) (M : MM), ri_ x2 → ri_ x7 → ri_ x8 → ri_ s0 → w_X12_workTwo_b119  (gw_  dp) Q  x2 x7 x8 s0 M → J 119 [(0, .ref (ad 0)), (2, .int (Ii x2)), (7, .int (Ii x7)), (8, .int (Ii x8))] [.int (Ii s0)] M := by
  intro x2 x7 x8 s0 M gx2 gx7 gx8 gs0 hF
  unfold w_X12_workTwo_b119 at hF
  refine j_istore (lv' := [(9, .int (Ii s0)), (0, .ref (ad 0)), (2, .int (Ii x2)), (7, .int (Ii x7)), (8, .int (Ii x8))]) hJ dX12_workTwo_119 (by decide) rfl ?_
  refine j_iload hJ dX12_workTwo_121 4 rfl ?_
  refine j_if_ne hJ 139 gx8 dX12_workTwo_123 (by decide) (fun z1 => ?_) (fun z1 => ?_)
  · have hF := hF.1 z1
    exact j_sub hJ [1, 3, 0] rfl (k_X12_workTwo_b139 hin  hg0 hg1 hg2 hg3 hg4 hg5 hg6 hJ  x7 s0 _ gx7 gs0 hF)
  · have hF := hF.2 z1
    refine j_iload_n hJ dX12_workTwo_126 rfl 2 rfl ?_
    refine j_aload_n hJ dX12_workTwo_127 rfl 1 rfl ?_
    refine j_gi hJ kR_0 fR_15_99 rfl fl_X12_785 dX12_workTwo_128 (fun v2 ev2 gv2 => ?_)
    have hF := hF v2 ev2 gv2
    refine j_icmp_ne hJ 168 gx2 gv2 dX12_workTwo_131 (by decide) (fun z3 => ?_) (fun z3 => ?_)
    · have hF := hF.1 z3
      exact j_sub hJ [1] rfl (k_X12_workTwo_b168 hin  hg0 hg1 hg2 hg3 hg4 hg5 hg6 hJ   _  hF)
    · have hF := hF.2 z3
      refine j_iload_n hJ dX12_workTwo_134 rfl 2 rfl ?_
      refine j_iconst hJ dX12_workTwo_135 ?_
      refine j_icmp_ge hJ 168 gx2 rk_2 dX12_workTwo_136 (by decide) (fun z4 => ?_) (fun z4 => ?_)
      · have hF := hF.1 z4
        exact j_sub hJ [1] rfl (k_X12_workTwo_b168 hin  hg0 hg1 hg2 hg3 hg4 hg5 hg6 hJ   _  hF)
      · have hF := hF.2 z4
        exact j_sub hJ [1, 3, 0] rfl (k_X12_workTwo_b139 hin  hg0 hg1 hg2 hg3 hg4 hg5 hg6 hJ  x7 s0 _ gx7 gs0 hF)
set_option maxHeartbeats 4000000 in
set_option maxRecDepth 100000 in
theorem k_X12_workTwo_b118 {l : Launch} {D : va_G} {cy : Nat → ClassId} {ad : Nat → Nat} {dp : Nat} {Q : Int → MM → Prop} {J : Nat → List (Nat × Value) → List Value → MM → Prop} (hin : jIn ad ksR.length)   (hg0 : jCN l D vwCl (tyR cy) cy ad ftR ksR (XtR ad) yX12_work (.code yX12_work cX12_work 3 none :: Om) (rm_gw_ dp) 0 (W_X12_work dp ad)) (hg1 : jCN l D vwCl (tyR cy) cy ad ftR ksR (XtR ad) yX12_workOne (.code yX12_workOne cX12_workOne 5 none :: Om) (rm_gw_ dp) 0 (W_X12_workOne dp ad)) (hg2 : jCN l D vwCl (tyR cy) cy ad ftR ksR (XtR ad) yX12_workPart (.code yX12_workPart cX12_workPart 4 none :: Om) (rm_gw_ dp) 0 (W_X12_workPart dp ad)) (hg3 : jCN l D vwCl (tyR cy) cy ad ftR ksR (XtR ad) yX12_workBoth (.code yX12_workBoth cX12_workBoth 3 none :: Om) (rm_gw_ dp) 0 (W_X12_workBoth dp ad)) (hg4 : jCN l D vwCl (tyR cy) cy ad ftR ksR (XtR ad) yX12_workTwo (.code yX12_workTwo cX12_workTwo 10 none :: Om) (rm_gw_ dp) 0 (W_X12_workTwo dp ad)) (hg5 : jCN l D vwCl (tyR cy) cy ad ftR ksR (XtR ad) yX12_workSet (.code yX12_workSet cX12_workSet 7 none :: Om) (rm_gw_ dp) 0 (W_X12_workSet dp ad)) (hg6 : jCN l D vwCl (tyR cy) cy ad ftR ksR (XtR ad) yX12_workFold (.code yX12_workFold cX12_workFold 10 none :: Om) (rm_gw_ dp) 0 (W_X12_workFold dp ad)) (hJ : jOk l D vwCl (tyR cy) cy ad ftR ksR (XtR ad) Om RX12 cX12_workTwo 10 0 (rm_gw_ (dp + 1)) Q J)  : ∀ (x2 x7 x8 : Int) (M : MM), ri_ x2 → ri_ x7 → ri_ x8 → w_X12_workTwo_b118  (gw_  dp) Q  x2 x7 x8 M → J 118 [(0, .ref (ad 0)), (2, .int (Ii x2)), (7, .int (Ii x7)), (8, .int (Ii x8))] [] M := by
  intro x2 x7 x8 M gx2 gx7 gx8 hF
  unfold w_X12_workTwo_b118 at hF
  refine j_iconst hJ dX12_workTwo_118 ?_
  exact j_sub hJ [0, 1, 2, 3] rfl (k_X12_workTwo_b119 hin  hg0 hg1 hg2 hg3 hg4 hg5 hg6 hJ  x2 x7 x8 0 _ gx2 gx7 gx8 rk_0 hF)
set_option maxHeartbeats 4000000 in
set_option maxRecDepth 100000 in
theorem k_X12_workTwo_b99 {l : Launch} {D : va_G} {cy : Nat → ClassId} {ad : Nat → Nat} {dp : Nat} {Q : Int → MM → Prop} {J : Nat → List (Nat × Value) → List Value → MM → Prop} (hin : jIn ad ksR.length)   (hg0 : jCN l D vwCl (tyR cy) cy ad ftR ksR (XtR ad) yX12_work (.code yX12_work cX12_work 3 none :: Om) (rm_gw_ dp) 0 (W_X12_work dp ad)) (hg1 : jCN l D vwCl (tyR cy) cy ad ftR ksR (XtR ad) yX12_workOne (.code yX12_workOne cX12_workOne 5 none :: Om) (rm_gw_ dp) 0 (W_X12_workOne dp ad)) (hg2 : jCN l D vwCl (tyR cy) cy ad ftR ksR (XtR ad) yX12_workPart (.code yX12_workPart cX12_workPart 4 none :: Om) (rm_gw_ dp) 0 (W_X12_workPart dp ad)) (hg3 : jCN l D vwCl (tyR cy) cy ad ftR ksR (XtR ad) yX12_workBoth (.code yX12_workBoth cX12_workBoth 3 none :: Om) (rm_gw_ dp) 0 (W_X12_workBoth dp ad)) (hg4 : jCN l D vwCl (tyR cy) cy ad ftR ksR (XtR ad) yX12_workTwo (.code yX12_workTwo cX12_workTwo 10 none :: Om) (rm_gw_ dp) 0 (W_X12_workTwo dp ad)) (hg5 : jCN l D vwCl (tyR cy) cy ad ftR ksR (XtR ad) yX12_workSet (.code yX12_workSet cX12_workSet 7 none :: Om) (rm_gw_ dp) 0 (W_X12_workSet dp ad)) (hg6 : jCN l D vwCl (tyR cy) cy ad ftR ksR (XtR ad) yX12_workFold (.code yX12_workFold cX12_workFold 10 none :: Om) (rm_gw_ dp) 0 (W_X12_workFold dp ad)) (hJ : jOk l D vwCl (tyR cy) cy ad ftR ksR (XtR ad) Om RX12 cX12_workTwo 10 0 (rm_gw_ (dp + 1)) Q J)  : ∀ (x2 x3 x5 x7 x8 : Int) (M : MM), ri_ x2 → rl_ x3 → rl_ x5 → ri_ x7 → ri_ x8 → w_X12_workTwo_b99  (gw_  dp) Q  x2 x3 x5 x7 x8 M → J 99 [(0, .ref (ad 0)), (2, .int (Ii x2)), (3, .long (Ll x3)), (5, .long (Ll x5)), (7, .int (Ii x7)), (8, .int (Ii x8))] [] M := by
  intro x2 x3 x5 x7 x8 M gx2 gx3 gx5 gx7 gx8 hF
  unfold w_X12_workTwo_b99 at hF
  refine j_iload_n hJ dX12_workTwo_99 rfl 1 rfl ?_
  refine j_aload_n hJ dX12_workTwo_100 rfl 0 rfl ?_
  refine j_gi hJ kR_0 fR_15_99 rfl fl_X12_785 dX12_workTwo_101 (fun v1 ev1 gv1 => ?_)
  have hF := hF v1 ev1 gv1
  refine j_icmp_ne hJ 118 gx2 gv1 dX12_workTwo_104 (by decide) (fun z2 => ?_) (fun z2 => ?_)
  · have hF := hF.1 z2
    exact j_sub hJ [0, 1, 4, 5] rfl (k_X12_workTwo_b118 hin  hg0 hg1 hg2 hg3 hg4 hg5 hg6 hJ  x2 x7 x8 _ gx2 gx7 gx8 hF)
  · have hF := hF.2 z2
    refine j_lload_n hJ dX12_workTwo_107 rfl 2 rfl ?_
    refine j_lload hJ dX12_workTwo_108 3 rfl ?_
    refine j_lcmp_ne hJ 118 gx3 gx5 dX12_workTwo_110 dX12_workTwo_111 (by decide) (fun z3 => ?_) (fun z3 => ?_)
    · have hF := hF.1 z3
      exact j_sub hJ [0, 1, 4, 5] rfl (k_X12_workTwo_b118 hin  hg0 hg1 hg2 hg3 hg4 hg5 hg6 hJ  x2 x7 x8 _ gx2 gx7 gx8 hF)
    · have hF := hF.2 z3
      refine j_iconst hJ dX12_workTwo_114 ?_
      refine j_goto hJ 119 dX12_workTwo_115 (by decide) ?_
      exact j_sub hJ [0, 1, 4, 5] rfl (k_X12_workTwo_b119 hin  hg0 hg1 hg2 hg3 hg4 hg5 hg6 hJ  x2 x7 x8 1 _ gx2 gx7 gx8 rk_1 hF)
set_option maxHeartbeats 4000000 in
set_option maxRecDepth 100000 in
theorem k_X12_workTwo_b205 {l : Launch} {D : va_G} {cy : Nat → ClassId} {ad : Nat → Nat} {dp : Nat} {Q : Int → MM → Prop} {J : Nat → List (Nat × Value) → List Value → MM → Prop} (hin : jIn ad ksR.length)   (hg0 : jCN l D vwCl (tyR cy) cy ad ftR ksR (XtR ad) yX12_work (.code yX12_work cX12_work 3 none :: Om) (rm_gw_ dp) 0 (W_X12_work dp ad)) (hg1 : jCN l D vwCl (tyR cy) cy ad ftR ksR (XtR ad) yX12_workOne (.code yX12_workOne cX12_workOne 5 none :: Om) (rm_gw_ dp) 0 (W_X12_workOne dp ad)) (hg2 : jCN l D vwCl (tyR cy) cy ad ftR ksR (XtR ad) yX12_workPart (.code yX12_workPart cX12_workPart 4 none :: Om) (rm_gw_ dp) 0 (W_X12_workPart dp ad)) (hg3 : jCN l D vwCl (tyR cy) cy ad ftR ksR (XtR ad) yX12_workBoth (.code yX12_workBoth cX12_workBoth 3 none :: Om) (rm_gw_ dp) 0 (W_X12_workBoth dp ad)) (hg4 : jCN l D vwCl (tyR cy) cy ad ftR ksR (XtR ad) yX12_workTwo (.code yX12_workTwo cX12_workTwo 10 none :: Om) (rm_gw_ dp) 0 (W_X12_workTwo dp ad)) (hg5 : jCN l D vwCl (tyR cy) cy ad ftR ksR (XtR ad) yX12_workSet (.code yX12_workSet cX12_workSet 7 none :: Om) (rm_gw_ dp) 0 (W_X12_workSet dp ad)) (hg6 : jCN l D vwCl (tyR cy) cy ad ftR ksR (XtR ad) yX12_workFold (.code yX12_workFold cX12_workFold 10 none :: Om) (rm_gw_ dp) 0 (W_X12_workFold dp ad)) (hJ : jOk l D vwCl (tyR cy) cy ad ftR ksR (XtR ad) Om RX12 cX12_workTwo 10 0 (rm_gw_ (dp + 1)) Q J)  : ∀ (M : MM), w_X12_workTwo_b205  (gw_  dp) Q   M → J 205 [(0, .ref (ad 0))] [] M := by
  intro  M  hF
  unfold w_X12_workTwo_b205 at hF
  refine j_aload_n hJ dX12_workTwo_205 rfl 0 rfl ?_
  refine j_callVv hJ (c_X12_nothing (l := l) (D := D) (cy := cy) (ad := ad) hin) rfl om_1229 ⟨rfl, rfl, by show _ ≤ _; simp only [rm_gw_]; omega, by show _ ≤ _; simp only [rm_gw_]; omega⟩ [] mv_X12_798 hd_X12_nothingv kR_0 rfl rfl rfl (Nat.le_of_ble_eq_true rfl) dX12_workTwo_206 ⟨rfl, hF⟩ (fun M2 qM2 => ?_)
  have hF := qM2
  exact j_vret hJ rfl dX12_workTwo_209 hF
set_option maxHeartbeats 4000000 in
set_option maxRecDepth 100000 in
theorem k_X12_workTwo_b273 {l : Launch} {D : va_G} {cy : Nat → ClassId} {ad : Nat → Nat} {dp : Nat} {Q : Int → MM → Prop} {J : Nat → List (Nat × Value) → List Value → MM → Prop} (hin : jIn ad ksR.length)   (hg0 : jCN l D vwCl (tyR cy) cy ad ftR ksR (XtR ad) yX12_work (.code yX12_work cX12_work 3 none :: Om) (rm_gw_ dp) 0 (W_X12_work dp ad)) (hg1 : jCN l D vwCl (tyR cy) cy ad ftR ksR (XtR ad) yX12_workOne (.code yX12_workOne cX12_workOne 5 none :: Om) (rm_gw_ dp) 0 (W_X12_workOne dp ad)) (hg2 : jCN l D vwCl (tyR cy) cy ad ftR ksR (XtR ad) yX12_workPart (.code yX12_workPart cX12_workPart 4 none :: Om) (rm_gw_ dp) 0 (W_X12_workPart dp ad)) (hg3 : jCN l D vwCl (tyR cy) cy ad ftR ksR (XtR ad) yX12_workBoth (.code yX12_workBoth cX12_workBoth 3 none :: Om) (rm_gw_ dp) 0 (W_X12_workBoth dp ad)) (hg4 : jCN l D vwCl (tyR cy) cy ad ftR ksR (XtR ad) yX12_workTwo (.code yX12_workTwo cX12_workTwo 10 none :: Om) (rm_gw_ dp) 0 (W_X12_workTwo dp ad)) (hg5 : jCN l D vwCl (tyR cy) cy ad ftR ksR (XtR ad) yX12_workSet (.code yX12_workSet cX12_workSet 7 none :: Om) (rm_gw_ dp) 0 (W_X12_workSet dp ad)) (hg6 : jCN l D vwCl (tyR cy) cy ad ftR ksR (XtR ad) yX12_workFold (.code yX12_workFold cX12_workFold 10 none :: Om) (rm_gw_ dp) 0 (W_X12_workFold dp ad)) (hJ : jOk l D vwCl (tyR cy) cy ad ftR ksR (XtR ad) Om RX12 cX12_workTwo 10 0 (rm_gw_ (dp + 1)) Q J)  : ∀ (s0 : Int) (M : MM), ri_ s0 → w_X12_workTwo_b273  (gw_  dp) Q  s0 M → J 273 [] [.int (Ii s0), .ref (ad 0)] M := by
  intro s0 M gs0 hF
  unfold w_X12_workTwo_b273 at hF
  refine j_callVv hJ (c_X12_truth (l := l) (D := D) (cy := cy) (ad := ad) hin) rfl om_1221 ⟨rfl, rfl, by show _ ≤ _; simp only [rm_gw_]; omega, by show _ ≤ _; simp only [rm_gw_]; omega⟩ [.int (Ii s0)] mv_X12_813 hd_X12_truthv kR_0 rfl rfl rfl (Nat.le_of_ble_eq_true rfl) dX12_workTwo_273 ⟨s0, rfl, hF.1, hF.2⟩ (fun M2 qM2 => ?_)
  have hF := qM2
  refine j_goto hJ 393 dX12_workTwo_276 (by decide) ?_
  exact j_vret hJ rfl dX12_workTwo_393 hF
set_option maxHeartbeats 4000000 in
set_option maxRecDepth 100000 in
theorem k_X12_workTwo_b292 {l : Launch} {D : va_G} {cy : Nat → ClassId} {ad : Nat → Nat} {dp : Nat} {Q : Int → MM → Prop} {J : Nat → List (Nat × Value) → List Value → MM → Prop} (hin : jIn ad ksR.length)   (hg0 : jCN l D vwCl (tyR cy) cy ad ftR ksR (XtR ad) yX12_work (.code yX12_work cX12_work 3 none :: Om) (rm_gw_ dp) 0 (W_X12_work dp ad)) (hg1 : jCN l D vwCl (tyR cy) cy ad ftR ksR (XtR ad) yX12_workOne (.code yX12_workOne cX12_workOne 5 none :: Om) (rm_gw_ dp) 0 (W_X12_workOne dp ad)) (hg2 : jCN l D vwCl (tyR cy) cy ad ftR ksR (XtR ad) yX12_workPart (.code yX12_workPart cX12_workPart 4 none :: Om) (rm_gw_ dp) 0 (W_X12_workPart dp ad)) (hg3 : jCN l D vwCl (tyR cy) cy ad ftR ksR (XtR ad) yX12_workBoth (.code yX12_workBoth cX12_workBoth 3 none :: Om) (rm_gw_ dp) 0 (W_X12_workBoth dp ad)) (hg4 : jCN l D vwCl (tyR cy) cy ad ftR ksR (XtR ad) yX12_workTwo (.code yX12_workTwo cX12_workTwo 10 none :: Om) (rm_gw_ dp) 0 (W_X12_workTwo dp ad)) (hg5 : jCN l D vwCl (tyR cy) cy ad ftR ksR (XtR ad) yX12_workSet (.code yX12_workSet cX12_workSet 7 none :: Om) (rm_gw_ dp) 0 (W_X12_workSet dp ad)) (hg6 : jCN l D vwCl (tyR cy) cy ad ftR ksR (XtR ad) yX12_workFold (.code yX12_workFold cX12_workFold 10 none :: Om) (rm_gw_ dp) 0 (W_X12_workFold dp ad)) (hJ : jOk l D vwCl (tyR cy) cy ad ftR ksR (XtR ad) Om RX12 cX12_workTwo 10 0 (rm_gw_ (dp + 1)) Q J)  : ∀ (s0 : Int) (M : MM), ri_ s0 → w_X12_workTwo_b292  (gw_  dp) Q  s0 M → J 292 [] [.int (Ii s0), .ref (ad 0)] M := by
  intro s0 M gs0 hF
  unfold w_X12_workTwo_b292 at hF
  refine j_callVv hJ (c_X12_truth (l := l) (D := D) (cy := cy) (ad := ad) hin) rfl om_1221 ⟨rfl, rfl, by show _ ≤ _; simp only [rm_gw_]; omega, by show _ ≤ _; simp only [rm_gw_]; omega⟩ [.int (Ii s0)] mv_X12_813 hd_X12_truthv kR_0 rfl rfl rfl (Nat.le_of_ble_eq_true rfl) dX12_workTwo_292 ⟨s0, rfl, hF.1, hF.2⟩ (fun M2 qM2 => ?_)
  have hF := qM2
  refine j_goto hJ 393 dX12_workTwo_295 (by decide) ?_
  exact j_vret hJ rfl dX12_workTwo_393 hF
set_option maxHeartbeats 4000000 in
set_option maxRecDepth 100000 in
theorem k_X12_workTwo_b311 {l : Launch} {D : va_G} {cy : Nat → ClassId} {ad : Nat → Nat} {dp : Nat} {Q : Int → MM → Prop} {J : Nat → List (Nat × Value) → List Value → MM → Prop} (hin : jIn ad ksR.length)   (hg0 : jCN l D vwCl (tyR cy) cy ad ftR ksR (XtR ad) yX12_work (.code yX12_work cX12_work 3 none :: Om) (rm_gw_ dp) 0 (W_X12_work dp ad)) (hg1 : jCN l D vwCl (tyR cy) cy ad ftR ksR (XtR ad) yX12_workOne (.code yX12_workOne cX12_workOne 5 none :: Om) (rm_gw_ dp) 0 (W_X12_workOne dp ad)) (hg2 : jCN l D vwCl (tyR cy) cy ad ftR ksR (XtR ad) yX12_workPart (.code yX12_workPart cX12_workPart 4 none :: Om) (rm_gw_ dp) 0 (W_X12_workPart dp ad)) (hg3 : jCN l D vwCl (tyR cy) cy ad ftR ksR (XtR ad) yX12_workBoth (.code yX12_workBoth cX12_workBoth 3 none :: Om) (rm_gw_ dp) 0 (W_X12_workBoth dp ad)) (hg4 : jCN l D vwCl (tyR cy) cy ad ftR ksR (XtR ad) yX12_workTwo (.code yX12_workTwo cX12_workTwo 10 none :: Om) (rm_gw_ dp) 0 (W_X12_workTwo dp ad)) (hg5 : jCN l D vwCl (tyR cy) cy ad ftR ksR (XtR ad) yX12_workSet (.code yX12_workSet cX12_workSet 7 none :: Om) (rm_gw_ dp) 0 (W_X12_workSet dp ad)) (hg6 : jCN l D vwCl (tyR cy) cy ad ftR ksR (XtR ad) yX12_workFold (.code yX12_workFold cX12_workFold 10 none :: Om) (rm_gw_ dp) 0 (W_X12_workFold dp ad)) (hJ : jOk l D vwCl (tyR cy) cy ad ftR ksR (XtR ad) Om RX12 cX12_workTwo 10 0 (rm_gw_ (dp + 1)) Q J)  : ∀ (s0 : Int) (M : MM), ri_ s0 → w_X12_workTwo_b311  (gw_  dp) Q  s0 M → J 311 [] [.int (Ii s0), .ref (ad 0)] M := by
  intro s0 M gs0 hF
  unfold w_X12_workTwo_b311 at hF
  refine j_callVv hJ (c_X12_truth (l := l) (D := D) (cy := cy) (ad := ad) hin) rfl om_1221 ⟨rfl, rfl, by show _ ≤ _; simp only [rm_gw_]; omega, by show _ ≤ _; simp only [rm_gw_]; omega⟩ [.int (Ii s0)] mv_X12_813 hd_X12_truthv kR_0 rfl rfl rfl (Nat.le_of_ble_eq_true rfl) dX12_workTwo_311 ⟨s0, rfl, hF.1, hF.2⟩ (fun M2 qM2 => ?_)
  have hF := qM2
  refine j_goto hJ 393 dX12_workTwo_314 (by decide) ?_
  exact j_vret hJ rfl dX12_workTwo_393 hF
set_option maxHeartbeats 4000000 in
set_option maxRecDepth 100000 in
theorem k_X12_workTwo_b330 {l : Launch} {D : va_G} {cy : Nat → ClassId} {ad : Nat → Nat} {dp : Nat} {Q : Int → MM → Prop} {J : Nat → List (Nat × Value) → List Value → MM → Prop} (hin : jIn ad ksR.length)   (hg0 : jCN l D vwCl (tyR cy) cy ad ftR ksR (XtR ad) yX12_work (.code yX12_work cX12_work 3 none :: Om) (rm_gw_ dp) 0 (W_X12_work dp ad)) (hg1 : jCN l D vwCl (tyR cy) cy ad ftR ksR (XtR ad) yX12_workOne (.code yX12_workOne cX12_workOne 5 none :: Om) (rm_gw_ dp) 0 (W_X12_workOne dp ad)) (hg2 : jCN l D vwCl (tyR cy) cy ad ftR ksR (XtR ad) yX12_workPart (.code yX12_workPart cX12_workPart 4 none :: Om) (rm_gw_ dp) 0 (W_X12_workPart dp ad)) (hg3 : jCN l D vwCl (tyR cy) cy ad ftR ksR (XtR ad) yX12_workBoth (.code yX12_workBoth cX12_workBoth 3 none :: Om) (rm_gw_ dp) 0 (W_X12_workBoth dp ad)) (hg4 : jCN l D vwCl (tyR cy) cy ad ftR ksR (XtR ad) yX12_workTwo (.code yX12_workTwo cX12_workTwo 10 none :: Om) (rm_gw_ dp) 0 (W_X12_workTwo dp ad)) (hg5 : jCN l D vwCl (tyR cy) cy ad ftR ksR (XtR ad) yX12_workSet (.code yX12_workSet cX12_workSet 7 none :: Om) (rm_gw_ dp) 0 (W_X12_workSet dp ad)) (hg6 : jCN l D vwCl (tyR cy) cy ad ftR ksR (XtR ad) yX12_workFold (.code yX12_workFold cX12_workFold 10 none :: Om) (rm_gw_ dp) 0 (W_X12_workFold dp ad)) (hJ : jOk l D vwCl (tyR cy) cy ad ftR ksR (XtR ad) Om RX12 cX12_workTwo 10 0 (rm_gw_ (dp + 1)) Q J)  : ∀ (s0 : Int) (M : MM), ri_ s0 → w_X12_workTwo_b330  (gw_  dp) Q  s0 M → J 330 [] [.int (Ii s0), .ref (ad 0)] M := by
  intro s0 M gs0 hF
  unfold w_X12_workTwo_b330 at hF
  refine j_callVv hJ (c_X12_truth (l := l) (D := D) (cy := cy) (ad := ad) hin) rfl om_1221 ⟨rfl, rfl, by show _ ≤ _; simp only [rm_gw_]; omega, by show _ ≤ _; simp only [rm_gw_]; omega⟩ [.int (Ii s0)] mv_X12_813 hd_X12_truthv kR_0 rfl rfl rfl (Nat.le_of_ble_eq_true rfl) dX12_workTwo_330 ⟨s0, rfl, hF.1, hF.2⟩ (fun M2 qM2 => ?_)
  have hF := qM2
  refine j_goto hJ 393 dX12_workTwo_333 (by decide) ?_
  exact j_vret hJ rfl dX12_workTwo_393 hF
set_option maxHeartbeats 4000000 in
set_option maxRecDepth 100000 in
theorem k_X12_workTwo_b210 {l : Launch} {D : va_G} {cy : Nat → ClassId} {ad : Nat → Nat} {dp : Nat} {Q : Int → MM → Prop} {J : Nat → List (Nat × Value) → List Value → MM → Prop} (hin : jIn ad ksR.length)   (hg0 : jCN l D vwCl (tyR cy) cy ad ftR ksR (XtR ad) yX12_work (.code yX12_work cX12_work 3 none :: Om) (rm_gw_ dp) 0 (W_X12_work dp ad)) (hg1 : jCN l D vwCl (tyR cy) cy ad ftR ksR (XtR ad) yX12_workOne (.code yX12_workOne cX12_workOne 5 none :: Om) (rm_gw_ dp) 0 (W_X12_workOne dp ad)) (hg2 : jCN l D vwCl (tyR cy) cy ad ftR ksR (XtR ad) yX12_workPart (.code yX12_workPart cX12_workPart 4 none :: Om) (rm_gw_ dp) 0 (W_X12_workPart dp ad)) (hg3 : jCN l D vwCl (tyR cy) cy ad ftR ksR (XtR ad) yX12_workBoth (.code yX12_workBoth cX12_workBoth 3 none :: Om) (rm_gw_ dp) 0 (W_X12_workBoth dp ad)) (hg4 : jCN l D vwCl (tyR cy) cy ad ftR ksR (XtR ad) yX12_workTwo (.code yX12_workTwo cX12_workTwo 10 none :: Om) (rm_gw_ dp) 0 (W_X12_workTwo dp ad)) (hg5 : jCN l D vwCl (tyR cy) cy ad ftR ksR (XtR ad) yX12_workSet (.code yX12_workSet cX12_workSet 7 none :: Om) (rm_gw_ dp) 0 (W_X12_workSet dp ad)) (hg6 : jCN l D vwCl (tyR cy) cy ad ftR ksR (XtR ad) yX12_workFold (.code yX12_workFold cX12_workFold 10 none :: Om) (rm_gw_ dp) 0 (W_X12_workFold dp ad)) (hJ : jOk l D vwCl (tyR cy) cy ad ftR ksR (XtR ad) Om RX12 cX12_workTwo 10 0 (rm_gw_ (dp + 1)) Q J)  : ∀ (x3 x5 x7 : Int) (M : MM), rl_ x3 → rl_ x5 → ri_ x7 → w_X12_workTwo_b210  (gw_  dp) Q  x3 x5 x7 M → J 210 [(0, .ref (ad 0)), (3, .long (Ll x3)), (5, .long (Ll x5)), (7, .int (Ii x7))] [] M := by
  intro x3 x5 x7 M gx3 gx5 gx7 hF
  unfold w_X12_workTwo_b210 at hF
  refine j_iload hJ dX12_workTwo_210 3 rfl ?_
  by_cases z1 : x7 = 104
  · refine j_tabIn hJ 48 260 gx7 dX12_workTwo_212 (by omega) (by omega) (by rw [z1]; decide) (by decide) ?_
    have hF := hF.1 z1
    refine j_aload_n hJ dX12_workTwo_260 rfl 0 rfl ?_
    refine j_lload_n hJ dX12_workTwo_261 rfl 1 rfl ?_
    refine j_lload hJ dX12_workTwo_262 2 rfl ?_
    refine j_lcmp_ge hJ 272 gx3 gx5 dX12_workTwo_264 dX12_workTwo_265 (by decide) (fun z2 => ?_) (fun z2 => ?_)
    · have hF := hF.1 z2
      refine j_iconst hJ dX12_workTwo_272 ?_
      exact j_sub hJ [] rfl (k_X12_workTwo_b273 hin  hg0 hg1 hg2 hg3 hg4 hg5 hg6 hJ  0 _ rk_0 hF)
    · have hF := hF.2 z2
      refine j_iconst hJ dX12_workTwo_268 ?_
      refine j_goto hJ 273 dX12_workTwo_269 (by decide) ?_
      exact j_sub hJ [] rfl (k_X12_workTwo_b273 hin  hg0 hg1 hg2 hg3 hg4 hg5 hg6 hJ  1 _ rk_1 hF)
  by_cases z3 : x7 = 105
  · refine j_tabIn hJ 67 279 gx7 dX12_workTwo_212 (by omega) (by omega) (by rw [z3]; decide) (by decide) ?_
    have hF := hF.2.1 z3
    refine j_aload_n hJ dX12_workTwo_279 rfl 0 rfl ?_
    refine j_lload_n hJ dX12_workTwo_280 rfl 1 rfl ?_
    refine j_lload hJ dX12_workTwo_281 2 rfl ?_
    refine j_lcmp_gt hJ 291 gx3 gx5 dX12_workTwo_283 dX12_workTwo_284 (by decide) (fun z4 => ?_) (fun z4 => ?_)
    · have hF := hF.1 z4
      refine j_iconst hJ dX12_workTwo_291 ?_
      exact j_sub hJ [] rfl (k_X12_workTwo_b292 hin  hg0 hg1 hg2 hg3 hg4 hg5 hg6 hJ  0 _ rk_0 hF)
    · have hF := hF.2 z4
      refine j_iconst hJ dX12_workTwo_287 ?_
      refine j_goto hJ 292 dX12_workTwo_288 (by decide) ?_
      exact j_sub hJ [] rfl (k_X12_workTwo_b292 hin  hg0 hg1 hg2 hg3 hg4 hg5 hg6 hJ  1 _ rk_1 hF)
  by_cases z5 : x7 = 106
  · refine j_tabIn hJ 86 298 gx7 dX12_workTwo_212 (by omega) (by omega) (by rw [z5]; decide) (by decide) ?_
    have hF := hF.2.2.1 z5
    refine j_aload_n hJ dX12_workTwo_298 rfl 0 rfl ?_
    refine j_lload_n hJ dX12_workTwo_299 rfl 1 rfl ?_
    refine j_lload hJ dX12_workTwo_300 2 rfl ?_
    refine j_lcmp_le hJ 310 gx3 gx5 dX12_workTwo_302 dX12_workTwo_303 (by decide) (fun z6 => ?_) (fun z6 => ?_)
    · have hF := hF.1 z6
      refine j_iconst hJ dX12_workTwo_310 ?_
      exact j_sub hJ [] rfl (k_X12_workTwo_b311 hin  hg0 hg1 hg2 hg3 hg4 hg5 hg6 hJ  0 _ rk_0 hF)
    · have hF := hF.2 z6
      refine j_iconst hJ dX12_workTwo_306 ?_
      refine j_goto hJ 311 dX12_workTwo_307 (by decide) ?_
      exact j_sub hJ [] rfl (k_X12_workTwo_b311 hin  hg0 hg1 hg2 hg3 hg4 hg5 hg6 hJ  1 _ rk_1 hF)
  by_cases z7 : x7 = 107
  · refine j_tabIn hJ 105 317 gx7 dX12_workTwo_212 (by omega) (by omega) (by rw [z7]; decide) (by decide) ?_
    have hF := hF.2.2.2.1 z7
    refine j_aload_n hJ dX12_workTwo_317 rfl 0 rfl ?_
    refine j_lload_n hJ dX12_workTwo_318 rfl 1 rfl ?_
    refine j_lload hJ dX12_workTwo_319 2 rfl ?_
    refine j_lcmp_lt hJ 329 gx3 gx5 dX12_workTwo_321 dX12_workTwo_322 (by decide) (fun z8 => ?_) (fun z8 => ?_)
    · have hF := hF.1 z8
      refine j_iconst hJ dX12_workTwo_329 ?_
      exact j_sub hJ [] rfl (k_X12_workTwo_b330 hin  hg0 hg1 hg2 hg3 hg4 hg5 hg6 hJ  0 _ rk_0 hF)
    · have hF := hF.2 z8
      refine j_iconst hJ dX12_workTwo_325 ?_
      refine j_goto hJ 330 dX12_workTwo_326 (by decide) ?_
      exact j_sub hJ [] rfl (k_X12_workTwo_b330 hin  hg0 hg1 hg2 hg3 hg4 hg5 hg6 hJ  1 _ rk_1 hF)
  by_cases z9 : x7 = 108
  · refine j_tabIn hJ 124 336 gx7 dX12_workTwo_212 (by omega) (by omega) (by rw [z9]; decide) (by decide) ?_
    have hF := hF.2.2.2.2.1 z9
    refine j_aload_n hJ dX12_workTwo_336 rfl 0 rfl ?_
    refine j_iconst hJ dX12_workTwo_337 ?_
    refine j_lload_n hJ dX12_workTwo_338 rfl 1 rfl ?_
    refine j_lload hJ dX12_workTwo_339 2 rfl ?_
    refine j_laddw hJ dX12_workTwo_341 ?_
    refine j_callVv hJ (c_X12_give (l := l) (D := D) (cy := cy) (ad := ad) hin) rfl om_1217 ⟨rfl, rfl, by show _ ≤ _; simp only [rm_gw_]; omega, by show _ ≤ _; simp only [rm_gw_]; omega⟩ [.int (Ii 0), .long (Ll (w64 (x3 + x5)))] mv_X12_791 hd_X12_givev kR_0 rfl rfl rfl (Nat.le_of_ble_eq_true rfl) dX12_workTwo_342 ⟨0, (w64 (x3 + x5)), rfl, rk_0, (rl_w _), hF⟩ (fun M11 qM11 => ?_)
    have hF := qM11
    refine j_goto hJ 393 dX12_workTwo_345 (by decide) ?_
    exact j_vret hJ rfl dX12_workTwo_393 hF
  by_cases z12 : x7 = 109
  · refine j_tabIn hJ 136 348 gx7 dX12_workTwo_212 (by omega) (by omega) (by rw [z12]; decide) (by decide) ?_
    have hF := hF.2.2.2.2.2.1 z12
    refine j_aload_n hJ dX12_workTwo_348 rfl 0 rfl ?_
    refine j_iconst hJ dX12_workTwo_349 ?_
    refine j_lload_n hJ dX12_workTwo_350 rfl 1 rfl ?_
    refine j_lload hJ dX12_workTwo_351 2 rfl ?_
    refine j_lsubw hJ dX12_workTwo_353 ?_
    refine j_callVv hJ (c_X12_give (l := l) (D := D) (cy := cy) (ad := ad) hin) rfl om_1217 ⟨rfl, rfl, by show _ ≤ _; simp only [rm_gw_]; omega, by show _ ≤ _; simp only [rm_gw_]; omega⟩ [.int (Ii 0), .long (Ll (w64 (x3 - x5)))] mv_X12_791 hd_X12_givev kR_0 rfl rfl rfl (Nat.le_of_ble_eq_true rfl) dX12_workTwo_354 ⟨0, (w64 (x3 - x5)), rfl, rk_0, (rl_w _), hF⟩ (fun M14 qM14 => ?_)
    have hF := qM14
    refine j_goto hJ 393 dX12_workTwo_357 (by decide) ?_
    exact j_vret hJ rfl dX12_workTwo_393 hF
  by_cases z15 : x7 = 110
  · refine j_tabIn hJ 148 360 gx7 dX12_workTwo_212 (by omega) (by omega) (by rw [z15]; decide) (by decide) ?_
    have hF := hF.2.2.2.2.2.2.1 z15
    refine j_aload_n hJ dX12_workTwo_360 rfl 0 rfl ?_
    refine j_iconst hJ dX12_workTwo_361 ?_
    refine j_lload_n hJ dX12_workTwo_362 rfl 1 rfl ?_
    refine j_lload hJ dX12_workTwo_363 2 rfl ?_
    refine j_lmulw hJ dX12_workTwo_365 ?_
    refine j_callVv hJ (c_X12_give (l := l) (D := D) (cy := cy) (ad := ad) hin) rfl om_1217 ⟨rfl, rfl, by show _ ≤ _; simp only [rm_gw_]; omega, by show _ ≤ _; simp only [rm_gw_]; omega⟩ [.int (Ii 0), .long (Ll (w64 (x3 * x5)))] mv_X12_791 hd_X12_givev kR_0 rfl rfl rfl (Nat.le_of_ble_eq_true rfl) dX12_workTwo_366 ⟨0, (w64 (x3 * x5)), rfl, rk_0, (rl_w _), hF⟩ (fun M17 qM17 => ?_)
    have hF := qM17
    refine j_goto hJ 393 dX12_workTwo_369 (by decide) ?_
    exact j_vret hJ rfl dX12_workTwo_393 hF
  by_cases z18 : x7 = 111
  · refine j_tabIn hJ 160 372 gx7 dX12_workTwo_212 (by omega) (by omega) (by rw [z18]; decide) (by decide) ?_
    have hF := hF.2.2.2.2.2.2.2.1 z18
    refine j_aload_n hJ dX12_workTwo_372 rfl 0 rfl ?_
    refine j_iconst hJ dX12_workTwo_373 ?_
    refine j_lload_n hJ dX12_workTwo_374 rfl 1 rfl ?_
    refine j_lload hJ dX12_workTwo_375 2 rfl ?_
    refine j_ldiv hJ gx3 gx5 hF.1 dX12_workTwo_377 ?_
    have hF := hF.2
    refine j_callVv hJ (c_X12_give (l := l) (D := D) (cy := cy) (ad := ad) hin) rfl om_1217 ⟨rfl, rfl, by show _ ≤ _; simp only [rm_gw_]; omega, by show _ ≤ _; simp only [rm_gw_]; omega⟩ [.int (Ii 0), .long (Ll (w64 ((Int.tdiv x3 x5))))] mv_X12_791 hd_X12_givev kR_0 rfl rfl rfl (Nat.le_of_ble_eq_true rfl) dX12_workTwo_378 ⟨0, (w64 ((Int.tdiv x3 x5))), rfl, rk_0, (rl_w _), hF⟩ (fun M20 qM20 => ?_)
    have hF := qM20
    refine j_goto hJ 393 dX12_workTwo_381 (by decide) ?_
    exact j_vret hJ rfl dX12_workTwo_393 hF
  have z21 : ¬ x7 = 104 ∧ ¬ x7 = 105 ∧ ¬ x7 = 106 ∧ ¬ x7 = 107 ∧ ¬ x7 = 108 ∧ ¬ x7 = 109 ∧ ¬ x7 = 110 ∧ ¬ x7 = 111 := ⟨z1, z3, z5, z7, z9, z12, z15, z18⟩
  have hF := hF.2.2.2.2.2.2.2.2 z21
  refine j_tabOut hJ 384 gx7 dX12_workTwo_212 (by omega) (by decide) ?_
  refine j_aload_n hJ dX12_workTwo_384 rfl 0 rfl ?_
  refine j_iconst hJ dX12_workTwo_385 ?_
  refine j_lload_n hJ dX12_workTwo_386 rfl 1 rfl ?_
  refine j_lload hJ dX12_workTwo_387 2 rfl ?_
  refine j_lrem hJ gx3 gx5 hF.1 dX12_workTwo_389 ?_
  have hF := hF.2
  refine j_callVv hJ (c_X12_give (l := l) (D := D) (cy := cy) (ad := ad) hin) rfl om_1217 ⟨rfl, rfl, by show _ ≤ _; simp only [rm_gw_]; omega, by show _ ≤ _; simp only [rm_gw_]; omega⟩ [.int (Ii 0), .long (Ll (w64 (x3 - (Int.tdiv x3 x5) * x5)))] mv_X12_791 hd_X12_givev kR_0 rfl rfl rfl (Nat.le_of_ble_eq_true rfl) dX12_workTwo_390 ⟨0, (w64 (x3 - (Int.tdiv x3 x5) * x5)), rfl, rk_0, (rl_w _), hF⟩ (fun M23 qM23 => ?_)
  have hF := qM23
  exact j_vret hJ rfl dX12_workTwo_393 hF
set_option maxHeartbeats 4000000 in
set_option maxRecDepth 100000 in
theorem k_X12_workTwo_b198 {l : Launch} {D : va_G} {cy : Nat → ClassId} {ad : Nat → Nat} {dp : Nat} {Q : Int → MM → Prop} {J : Nat → List (Nat × Value) → List Value → MM → Prop} (hin : jIn ad ksR.length)   (hg0 : jCN l D vwCl (tyR cy) cy ad ftR ksR (XtR ad) yX12_work (.code yX12_work cX12_work 3 none :: Om) (rm_gw_ dp) 0 (W_X12_work dp ad)) (hg1 : jCN l D vwCl (tyR cy) cy ad ftR ksR (XtR ad) yX12_workOne (.code yX12_workOne cX12_workOne 5 none :: Om) (rm_gw_ dp) 0 (W_X12_workOne dp ad)) (hg2 : jCN l D vwCl (tyR cy) cy ad ftR ksR (XtR ad) yX12_workPart (.code yX12_workPart cX12_workPart 4 none :: Om) (rm_gw_ dp) 0 (W_X12_workPart dp ad)) (hg3 : jCN l D vwCl (tyR cy) cy ad ftR ksR (XtR ad) yX12_workBoth (.code yX12_workBoth cX12_workBoth 3 none :: Om) (rm_gw_ dp) 0 (W_X12_workBoth dp ad)) (hg4 : jCN l D vwCl (tyR cy) cy ad ftR ksR (XtR ad) yX12_workTwo (.code yX12_workTwo cX12_workTwo 10 none :: Om) (rm_gw_ dp) 0 (W_X12_workTwo dp ad)) (hg5 : jCN l D vwCl (tyR cy) cy ad ftR ksR (XtR ad) yX12_workSet (.code yX12_workSet cX12_workSet 7 none :: Om) (rm_gw_ dp) 0 (W_X12_workSet dp ad)) (hg6 : jCN l D vwCl (tyR cy) cy ad ftR ksR (XtR ad) yX12_workFold (.code yX12_workFold cX12_workFold 10 none :: Om) (rm_gw_ dp) 0 (W_X12_workFold dp ad)) (hJ : jOk l D vwCl (tyR cy) cy ad ftR ksR (XtR ad) Om RX12 cX12_workTwo 10 0 (rm_gw_ (dp + 1)) Q J)  : ∀ (x3 x5 x7 : Int) (M : MM), rl_ x3 → rl_ x5 → ri_ x7 → w_X12_workTwo_b198  (gw_  dp) Q  x3 x5 x7 M → J 198 [(0, .ref (ad 0)), (3, .long (Ll x3)), (5, .long (Ll x5)), (7, .int (Ii x7))] [] M := by
  intro x3 x5 x7 M gx3 gx5 gx7 hF
  unfold w_X12_workTwo_b198 at hF
  refine j_lload hJ dX12_workTwo_198 2 rfl ?_
  refine j_lconst (x := 0) hJ dX12_workTwo_200 rfl ?_
  refine j_lcmp_ne hJ 210 gx5 lkm_0 dX12_workTwo_201 dX12_workTwo_202 (by decide) (fun z1 => ?_) (fun z1 => ?_)
  · have hF := hF.1 z1
    exact j_sub hJ [0, 1, 2, 3] rfl (k_X12_workTwo_b210 hin  hg0 hg1 hg2 hg3 hg4 hg5 hg6 hJ  x3 x5 x7 _ gx3 gx5 gx7 hF)
  · have hF := hF.2 z1
    exact j_sub hJ [0] rfl (k_X12_workTwo_b205 hin  hg0 hg1 hg2 hg3 hg4 hg5 hg6 hJ   _  hF)
set_option maxHeartbeats 4000000 in
set_option maxRecDepth 100000 in
theorem k_X12_workTwo_b83 {l : Launch} {D : va_G} {cy : Nat → ClassId} {ad : Nat → Nat} {dp : Nat} {Q : Int → MM → Prop} {J : Nat → List (Nat × Value) → List Value → MM → Prop} (hin : jIn ad ksR.length)   (hg0 : jCN l D vwCl (tyR cy) cy ad ftR ksR (XtR ad) yX12_work (.code yX12_work cX12_work 3 none :: Om) (rm_gw_ dp) 0 (W_X12_work dp ad)) (hg1 : jCN l D vwCl (tyR cy) cy ad ftR ksR (XtR ad) yX12_workOne (.code yX12_workOne cX12_workOne 5 none :: Om) (rm_gw_ dp) 0 (W_X12_workOne dp ad)) (hg2 : jCN l D vwCl (tyR cy) cy ad ftR ksR (XtR ad) yX12_workPart (.code yX12_workPart cX12_workPart 4 none :: Om) (rm_gw_ dp) 0 (W_X12_workPart dp ad)) (hg3 : jCN l D vwCl (tyR cy) cy ad ftR ksR (XtR ad) yX12_workBoth (.code yX12_workBoth cX12_workBoth 3 none :: Om) (rm_gw_ dp) 0 (W_X12_workBoth dp ad)) (hg4 : jCN l D vwCl (tyR cy) cy ad ftR ksR (XtR ad) yX12_workTwo (.code yX12_workTwo cX12_workTwo 10 none :: Om) (rm_gw_ dp) 0 (W_X12_workTwo dp ad)) (hg5 : jCN l D vwCl (tyR cy) cy ad ftR ksR (XtR ad) yX12_workSet (.code yX12_workSet cX12_workSet 7 none :: Om) (rm_gw_ dp) 0 (W_X12_workSet dp ad)) (hg6 : jCN l D vwCl (tyR cy) cy ad ftR ksR (XtR ad) yX12_workFold (.code yX12_workFold cX12_workFold 10 none :: Om) (rm_gw_ dp) 0 (W_X12_workFold dp ad)) (hJ : jOk l D vwCl (tyR cy) cy ad ftR ksR (XtR ad) Om RX12 cX12_workTwo 10 0 (rm_gw_ (dp + 1)) Q J)  : ∀ (x2 x3 x5 x7 s0 : Int) (M : MM), ri_ x2 → rl_ x3 → rl_ x5 → ri_ x7 → ri_ s0 → w_X12_workTwo_b83  (gw_  dp) Q  x2 x3 x5 x7 s0 M → J 83 [(0, .ref (ad 0)), (2, .int (Ii x2)), (3, .long (Ll x3)), (5, .long (Ll x5)), (7, .int (Ii x7))] [.int (Ii s0)] M := by
  intro x2 x3 x5 x7 s0 M gx2 gx3 gx5 gx7 gs0 hF
  unfold w_X12_workTwo_b83 at hF
  refine j_istore (lv' := [(8, .int (Ii s0)), (0, .ref (ad 0)), (2, .int (Ii x2)), (3, .long (Ll x3)), (5, .long (Ll x5)), (7, .int (Ii x7))]) hJ dX12_workTwo_83 (by decide) rfl ?_
  refine j_iload hJ dX12_workTwo_85 5 rfl ?_
  refine j_bipush hJ dX12_workTwo_87 (by decide) ?_
  refine j_icmp_eq hJ 99 gx7 rk_102 dX12_workTwo_89 (by decide) (fun z1 => ?_) (fun z1 => ?_)
  · have hF := hF.1 z1
    exact j_sub hJ [1, 2, 3, 4, 5, 0] rfl (k_X12_workTwo_b99 hin  hg0 hg1 hg2 hg3 hg4 hg5 hg6 hJ  x2 x3 x5 x7 s0 _ gx2 gx3 gx5 gx7 gs0 hF)
  · have hF := hF.2 z1
    refine j_iload hJ dX12_workTwo_92 5 rfl ?_
    refine j_bipush hJ dX12_workTwo_94 (by decide) ?_
    refine j_icmp_ne hJ 173 gx7 rk_103 dX12_workTwo_96 (by decide) (fun z2 => ?_) (fun z2 => ?_)
    · have hF := hF.1 z2
      refine j_iload_n hJ dX12_workTwo_173 rfl 2 rfl ?_
      refine j_if_ne hJ 205 gx2 dX12_workTwo_174 (by decide) (fun z3 => ?_) (fun z3 => ?_)
      · have hF := hF.1 z3
        exact j_sub hJ [1] rfl (k_X12_workTwo_b205 hin  hg0 hg1 hg2 hg3 hg4 hg5 hg6 hJ   _  hF)
      · have hF := hF.2 z3
        refine j_aload_n hJ dX12_workTwo_177 rfl 1 rfl ?_
        refine j_gi hJ kR_0 fR_15_99 rfl fl_X12_785 dX12_workTwo_178 (fun v4 ev4 gv4 => ?_)
        have hF := hF v4 ev4 gv4
        refine j_if_ne hJ 205 gv4 dX12_workTwo_181 (by decide) (fun z5 => ?_) (fun z5 => ?_)
        · have hF := hF.1 z5
          exact j_sub hJ [1] rfl (k_X12_workTwo_b205 hin  hg0 hg1 hg2 hg3 hg4 hg5 hg6 hJ   _  hF)
        · have hF := hF.2 z5
          refine j_iload hJ dX12_workTwo_184 5 rfl ?_
          refine j_bipush hJ dX12_workTwo_186 (by decide) ?_
          refine j_icmp_eq hJ 198 gx7 rk_111 dX12_workTwo_188 (by decide) (fun z6 => ?_) (fun z6 => ?_)
          · have hF := hF.1 z6
            exact j_sub hJ [1, 3, 4, 5] rfl (k_X12_workTwo_b198 hin  hg0 hg1 hg2 hg3 hg4 hg5 hg6 hJ  x3 x5 x7 _ gx3 gx5 gx7 hF)
          · have hF := hF.2 z6
            refine j_iload hJ dX12_workTwo_191 5 rfl ?_
            refine j_bipush hJ dX12_workTwo_193 (by decide) ?_
            refine j_icmp_ne hJ 210 gx7 rk_112 dX12_workTwo_195 (by decide) (fun z7 => ?_) (fun z7 => ?_)
            · have hF := hF.1 z7
              exact j_sub hJ [1, 3, 4, 5] rfl (k_X12_workTwo_b210 hin  hg0 hg1 hg2 hg3 hg4 hg5 hg6 hJ  x3 x5 x7 _ gx3 gx5 gx7 hF)
            · have hF := hF.2 z7
              exact j_sub hJ [1, 3, 4, 5] rfl (k_X12_workTwo_b198 hin  hg0 hg1 hg2 hg3 hg4 hg5 hg6 hJ  x3 x5 x7 _ gx3 gx5 gx7 hF)
    · have hF := hF.2 z2
      exact j_sub hJ [1, 2, 3, 4, 5, 0] rfl (k_X12_workTwo_b99 hin  hg0 hg1 hg2 hg3 hg4 hg5 hg6 hJ  x2 x3 x5 x7 s0 _ gx2 gx3 gx5 gx7 gs0 hF)
set_option maxHeartbeats 4000000 in
set_option maxRecDepth 100000 in
theorem k_X12_workTwo_b78 {l : Launch} {D : va_G} {cy : Nat → ClassId} {ad : Nat → Nat} {dp : Nat} {Q : Int → MM → Prop} {J : Nat → List (Nat × Value) → List Value → MM → Prop} (hin : jIn ad ksR.length)   (hg0 : jCN l D vwCl (tyR cy) cy ad ftR ksR (XtR ad) yX12_work (.code yX12_work cX12_work 3 none :: Om) (rm_gw_ dp) 0 (W_X12_work dp ad)) (hg1 : jCN l D vwCl (tyR cy) cy ad ftR ksR (XtR ad) yX12_workOne (.code yX12_workOne cX12_workOne 5 none :: Om) (rm_gw_ dp) 0 (W_X12_workOne dp ad)) (hg2 : jCN l D vwCl (tyR cy) cy ad ftR ksR (XtR ad) yX12_workPart (.code yX12_workPart cX12_workPart 4 none :: Om) (rm_gw_ dp) 0 (W_X12_workPart dp ad)) (hg3 : jCN l D vwCl (tyR cy) cy ad ftR ksR (XtR ad) yX12_workBoth (.code yX12_workBoth cX12_workBoth 3 none :: Om) (rm_gw_ dp) 0 (W_X12_workBoth dp ad)) (hg4 : jCN l D vwCl (tyR cy) cy ad ftR ksR (XtR ad) yX12_workTwo (.code yX12_workTwo cX12_workTwo 10 none :: Om) (rm_gw_ dp) 0 (W_X12_workTwo dp ad)) (hg5 : jCN l D vwCl (tyR cy) cy ad ftR ksR (XtR ad) yX12_workSet (.code yX12_workSet cX12_workSet 7 none :: Om) (rm_gw_ dp) 0 (W_X12_workSet dp ad)) (hg6 : jCN l D vwCl (tyR cy) cy ad ftR ksR (XtR ad) yX12_workFold (.code yX12_workFold cX12_workFold 10 none :: Om) (rm_gw_ dp) 0 (W_X12_workFold dp ad)) (hJ : jOk l D vwCl (tyR cy) cy ad ftR ksR (XtR ad) Om RX12 cX12_workTwo 10 0 (rm_gw_ (dp + 1)) Q J)  : ∀ (x2 x3 x5 x7 : Int) (M : MM), ri_ x2 → rl_ x3 → rl_ x5 → ri_ x7 → w_X12_workTwo_b78  (gw_  dp) Q  x2 x3 x5 x7 M → J 78 [(0, .ref (ad 0)), (2, .int (Ii x2)), (3, .long (Ll x3)), (5, .long (Ll x5)), (7, .int (Ii x7))] [] M := by
  intro x2 x3 x5 x7 M gx2 gx3 gx5 gx7 hF
  unfold w_X12_workTwo_b78 at hF
  refine j_iconst hJ dX12_workTwo_78 ?_
  refine j_goto hJ 83 dX12_workTwo_79 (by decide) ?_
  exact j_sub hJ [0, 1, 2, 3, 4] rfl (k_X12_workTwo_b83 hin  hg0 hg1 hg2 hg3 hg4 hg5 hg6 hJ  x2 x3 x5 x7 1 _ gx2 gx3 gx5 gx7 rk_1 hF)
set_option maxHeartbeats 4000000 in
set_option maxRecDepth 100000 in
theorem k_X12_workTwo_b82 {l : Launch} {D : va_G} {cy : Nat → ClassId} {ad : Nat → Nat} {dp : Nat} {Q : Int → MM → Prop} {J : Nat → List (Nat × Value) → List Value → MM → Prop} (hin : jIn ad ksR.length)   (hg0 : jCN l D vwCl (tyR cy) cy ad ftR ksR (XtR ad) yX12_work (.code yX12_work cX12_work 3 none :: Om) (rm_gw_ dp) 0 (W_X12_work dp ad)) (hg1 : jCN l D vwCl (tyR cy) cy ad ftR ksR (XtR ad) yX12_workOne (.code yX12_workOne cX12_workOne 5 none :: Om) (rm_gw_ dp) 0 (W_X12_workOne dp ad)) (hg2 : jCN l D vwCl (tyR cy) cy ad ftR ksR (XtR ad) yX12_workPart (.code yX12_workPart cX12_workPart 4 none :: Om) (rm_gw_ dp) 0 (W_X12_workPart dp ad)) (hg3 : jCN l D vwCl (tyR cy) cy ad ftR ksR (XtR ad) yX12_workBoth (.code yX12_workBoth cX12_workBoth 3 none :: Om) (rm_gw_ dp) 0 (W_X12_workBoth dp ad)) (hg4 : jCN l D vwCl (tyR cy) cy ad ftR ksR (XtR ad) yX12_workTwo (.code yX12_workTwo cX12_workTwo 10 none :: Om) (rm_gw_ dp) 0 (W_X12_workTwo dp ad)) (hg5 : jCN l D vwCl (tyR cy) cy ad ftR ksR (XtR ad) yX12_workSet (.code yX12_workSet cX12_workSet 7 none :: Om) (rm_gw_ dp) 0 (W_X12_workSet dp ad)) (hg6 : jCN l D vwCl (tyR cy) cy ad ftR ksR (XtR ad) yX12_workFold (.code yX12_workFold cX12_workFold 10 none :: Om) (rm_gw_ dp) 0 (W_X12_workFold dp ad)) (hJ : jOk l D vwCl (tyR cy) cy ad ftR ksR (XtR ad) Om RX12 cX12_workTwo 10 0 (rm_gw_ (dp + 1)) Q J)  : ∀ (x2 x3 x5 x7 : Int) (M : MM), ri_ x2 → rl_ x3 → rl_ x5 → ri_ x7 → w_X12_workTwo_b82  (gw_  dp) Q  x2 x3 x5 x7 M → J 82 [(0, .ref (ad 0)), (2, .int (Ii x2)), (3, .long (Ll x3)), (5, .long (Ll x5)), (7, .int (Ii x7))] [] M := by
  intro x2 x3 x5 x7 M gx2 gx3 gx5 gx7 hF
  unfold w_X12_workTwo_b82 at hF
  refine j_iconst hJ dX12_workTwo_82 ?_
  exact j_sub hJ [0, 1, 2, 3, 4] rfl (k_X12_workTwo_b83 hin  hg0 hg1 hg2 hg3 hg4 hg5 hg6 hJ  x2 x3 x5 x7 0 _ gx2 gx3 gx5 gx7 rk_0 hF)
set_option maxHeartbeats 4000000 in
set_option maxRecDepth 100000 in
theorem k_X12_workTwo_b62 {l : Launch} {D : va_G} {cy : Nat → ClassId} {ad : Nat → Nat} {dp : Nat} {Q : Int → MM → Prop} {J : Nat → List (Nat × Value) → List Value → MM → Prop} (hin : jIn ad ksR.length)   (hg0 : jCN l D vwCl (tyR cy) cy ad ftR ksR (XtR ad) yX12_work (.code yX12_work cX12_work 3 none :: Om) (rm_gw_ dp) 0 (W_X12_work dp ad)) (hg1 : jCN l D vwCl (tyR cy) cy ad ftR ksR (XtR ad) yX12_workOne (.code yX12_workOne cX12_workOne 5 none :: Om) (rm_gw_ dp) 0 (W_X12_workOne dp ad)) (hg2 : jCN l D vwCl (tyR cy) cy ad ftR ksR (XtR ad) yX12_workPart (.code yX12_workPart cX12_workPart 4 none :: Om) (rm_gw_ dp) 0 (W_X12_workPart dp ad)) (hg3 : jCN l D vwCl (tyR cy) cy ad ftR ksR (XtR ad) yX12_workBoth (.code yX12_workBoth cX12_workBoth 3 none :: Om) (rm_gw_ dp) 0 (W_X12_workBoth dp ad)) (hg4 : jCN l D vwCl (tyR cy) cy ad ftR ksR (XtR ad) yX12_workTwo (.code yX12_workTwo cX12_workTwo 10 none :: Om) (rm_gw_ dp) 0 (W_X12_workTwo dp ad)) (hg5 : jCN l D vwCl (tyR cy) cy ad ftR ksR (XtR ad) yX12_workSet (.code yX12_workSet cX12_workSet 7 none :: Om) (rm_gw_ dp) 0 (W_X12_workSet dp ad)) (hg6 : jCN l D vwCl (tyR cy) cy ad ftR ksR (XtR ad) yX12_workFold (.code yX12_workFold cX12_workFold 10 none :: Om) (rm_gw_ dp) 0 (W_X12_workFold dp ad)) (hJ : jOk l D vwCl (tyR cy) cy ad ftR ksR (XtR ad) Om RX12 cX12_workTwo 10 0 (rm_gw_ (dp + 1)) Q J)  : ∀ (x2 x3 x5 x7 : Int) (M : MM), ri_ x2 → rl_ x3 → rl_ x5 → ri_ x7 → w_X12_workTwo_b62  (gw_  dp) Q  x2 x3 x5 x7 M → J 62 [(0, .ref (ad 0)), (2, .int (Ii x2)), (3, .long (Ll x3)), (5, .long (Ll x5)), (7, .int (Ii x7))] [] M := by
  intro x2 x3 x5 x7 M gx2 gx3 gx5 gx7 hF
  unfold w_X12_workTwo_b62 at hF
  refine j_aload_n hJ dX12_workTwo_62 rfl 0 rfl ?_
  refine j_gi hJ kR_0 fR_15_99 rfl fl_X12_785 dX12_workTwo_63 (fun v1 ev1 gv1 => ?_)
  have hF := hF v1 ev1 gv1
  refine j_iconst hJ dX12_workTwo_66 ?_
  refine j_icmp_eq hJ 78 gv1 rk_2 dX12_workTwo_67 (by decide) (fun z2 => ?_) (fun z2 => ?_)
  · have hF := hF.1 z2
    exact j_sub hJ [0, 1, 2, 3, 4] rfl (k_X12_workTwo_b78 hin  hg0 hg1 hg2 hg3 hg4 hg5 hg6 hJ  x2 x3 x5 x7 _ gx2 gx3 gx5 gx7 hF)
  · have hF := hF.2 z2
    refine j_aload_n hJ dX12_workTwo_70 rfl 0 rfl ?_
    refine j_gi hJ kR_0 fR_15_99 rfl fl_X12_785 dX12_workTwo_71 (fun v3 ev3 gv3 => ?_)
    have hF := hF v3 ev3 gv3
    refine j_iconst hJ dX12_workTwo_74 ?_
    refine j_icmp_ne hJ 82 gv3 rk_3 dX12_workTwo_75 (by decide) (fun z4 => ?_) (fun z4 => ?_)
    · have hF := hF.1 z4
      exact j_sub hJ [0, 1, 2, 3, 4] rfl (k_X12_workTwo_b82 hin  hg0 hg1 hg2 hg3 hg4 hg5 hg6 hJ  x2 x3 x5 x7 _ gx2 gx3 gx5 gx7 hF)
    · have hF := hF.2 z4
      exact j_sub hJ [0, 1, 2, 3, 4] rfl (k_X12_workTwo_b78 hin  hg0 hg1 hg2 hg3 hg4 hg5 hg6 hJ  x2 x3 x5 x7 _ gx2 gx3 gx5 gx7 hF)
set_option maxHeartbeats 4000000 in
set_option maxRecDepth 100000 in
theorem s_X12_workTwo {l : Launch} {D : va_G} {cy : Nat → ClassId} {ad : Nat → Nat} {dp : Nat} (hin : jIn ad ksR.length) (hg0 : jCN l D vwCl (tyR cy) cy ad ftR ksR (XtR ad) yX12_work (.code yX12_work cX12_work 3 none :: Om) (rm_gw_ dp) 0 (W_X12_work dp ad)) (hg1 : jCN l D vwCl (tyR cy) cy ad ftR ksR (XtR ad) yX12_workOne (.code yX12_workOne cX12_workOne 5 none :: Om) (rm_gw_ dp) 0 (W_X12_workOne dp ad)) (hg2 : jCN l D vwCl (tyR cy) cy ad ftR ksR (XtR ad) yX12_workPart (.code yX12_workPart cX12_workPart 4 none :: Om) (rm_gw_ dp) 0 (W_X12_workPart dp ad)) (hg3 : jCN l D vwCl (tyR cy) cy ad ftR ksR (XtR ad) yX12_workBoth (.code yX12_workBoth cX12_workBoth 3 none :: Om) (rm_gw_ dp) 0 (W_X12_workBoth dp ad)) (hg4 : jCN l D vwCl (tyR cy) cy ad ftR ksR (XtR ad) yX12_workTwo (.code yX12_workTwo cX12_workTwo 10 none :: Om) (rm_gw_ dp) 0 (W_X12_workTwo dp ad)) (hg5 : jCN l D vwCl (tyR cy) cy ad ftR ksR (XtR ad) yX12_workSet (.code yX12_workSet cX12_workSet 7 none :: Om) (rm_gw_ dp) 0 (W_X12_workSet dp ad)) (hg6 : jCN l D vwCl (tyR cy) cy ad ftR ksR (XtR ad) yX12_workFold (.code yX12_workFold cX12_workFold 10 none :: Om) (rm_gw_ dp) 0 (W_X12_workFold dp ad)) : jCN l D vwCl (tyR cy) cy ad ftR ksR (XtR ad) yX12_workTwo (.code yX12_workTwo cX12_workTwo 10 none :: Om) (rm_gw_ (dp + 1)) 0 (W_X12_workTwo (dp + 1) ad) := by
  refine jCN_of (y := yX12_workTwo) (cc := cX12_workTwo) (nL := 10) (rk := 0) (rm := (rm_gw_ (dp + 1))) (own := RX12) (tyR_ok cy) hin (XtR_ok ad) Om_good (by decide) rfl ?_
  intro Q av M hF
  obtain ⟨p1, rfl, gp1, hF⟩ := hF
  refine ⟨Nat.le_of_ble_eq_true rfl, fun J hJ => ?_⟩
  show J 0 [(0, .ref (ad 0)), (1, .int (Ii p1))] [] M
  have hF : b_X12_workTwo  (gw_  dp) Q p1 M := hF
  unfold b_X12_workTwo at hF
  refine j_aload_n hJ dX12_workTwo_0 rfl 0 rfl ?_
  refine j_aload_n hJ dX12_workTwo_1 rfl 0 rfl ?_
  refine j_gr (e := 67) hJ kR_0 fR_15_87 fl_X12_275 dX12_workTwo_2 rfl ?_
  refine j_iload_n hJ dX12_workTwo_5 rfl 1 rfl ?_
  refine j_iald hJ gp1 kR_67 hF.1 hF.2.1 dX12_workTwo_6 (fun v1 ev1 gv1 => ?_)
  have hF := hF.2.2 v1 ev1 gv1
  refine j_callVv hJ hg0 rfl om_1253 ⟨rfl, rfl, by show _ ≤ _; simp only [rm_gw_]; omega, by show _ ≤ _; simp only [rm_gw_]; omega⟩ [.int (Ii v1)] mv_X12_829 hd_X12_workv kR_0 rfl rfl rfl (Nat.le_of_ble_eq_true rfl) dX12_workTwo_7 ⟨v1, rfl, gv1, hF⟩ (fun M3 qM3 => ?_)
  have hF := qM3
  refine j_aload_n hJ dX12_workTwo_10 rfl 0 rfl ?_
  refine j_gi hJ kR_0 fR_15_99 rfl fl_X12_785 dX12_workTwo_11 (fun v4 ev4 gv4 => ?_)
  have hF := hF v4 ev4 gv4
  refine j_istore_n (lv' := [(2, .int (Ii v4)), (0, .ref (ad 0)), (1, .int (Ii p1))]) hJ dX12_workTwo_14 rfl (by decide) rfl ?_
  refine j_aload_n hJ dX12_workTwo_15 rfl 1 rfl ?_
  refine j_gl hJ kR_0 fR_15_102 rfl fl_X12_788 dX12_workTwo_16 (fun v5 ev5 gv5 => ?_)
  have hF := hF v5 ev5 gv5
  refine j_lstore_n (lv' := [(3, .long (Ll v5)), (2, .int (Ii v4)), (0, .ref (ad 0)), (1, .int (Ii p1))]) hJ dX12_workTwo_19 rfl (by decide) rfl ?_
  refine j_aload_n hJ dX12_workTwo_20 rfl 2 rfl ?_
  refine j_aload_n hJ dX12_workTwo_21 rfl 2 rfl ?_
  refine j_gr (e := 68) hJ kR_0 fR_15_88 fl_X12_278 dX12_workTwo_22 rfl ?_
  refine j_iload_n hJ dX12_workTwo_25 rfl 3 rfl ?_
  refine j_iald hJ gp1 kR_68 hF.1 hF.2.1 dX12_workTwo_26 (fun v6 ev6 gv6 => ?_)
  have hF := hF.2.2 v6 ev6 gv6
  refine j_callVv hJ hg0 rfl om_1253 ⟨rfl, rfl, by show _ ≤ _; simp only [rm_gw_]; omega, by show _ ≤ _; simp only [rm_gw_]; omega⟩ [.int (Ii v6)] mv_X12_829 hd_X12_workv kR_0 rfl rfl rfl (Nat.le_of_ble_eq_true rfl) dX12_workTwo_27 ⟨v6, rfl, gv6, hF⟩ (fun M8 qM8 => ?_)
  have hF := qM8
  refine j_aload_n hJ dX12_workTwo_30 rfl 2 rfl ?_
  refine j_gz hJ kR_0 fR_15_103 rfl fl_X12_782 dX12_workTwo_31 (fun v9 ev9 gv9 => ?_)
  have hF := hF v9 ev9 gv9
  refine j_if_eq hJ 38 (jz_ri gv9) dX12_workTwo_34 (by decide) (fun z10 => ?_) (fun z10 => ?_)
  · have hF := hF.1 z10
    refine j_aload_n hJ dX12_workTwo_38 rfl 2 rfl ?_
    refine j_gl hJ kR_0 fR_15_102 rfl fl_X12_788 dX12_workTwo_39 (fun v11 ev11 gv11 => ?_)
    have hF := hF v11 ev11 gv11
    refine j_lstore (lv' := [(5, .long (Ll v11)), (3, .long (Ll v5)), (2, .int (Ii v4)), (0, .ref (ad 0)), (1, .int (Ii p1))]) hJ dX12_workTwo_42 (by decide) rfl ?_
    refine j_aload_n hJ dX12_workTwo_44 rfl 3 rfl ?_
    refine j_gr (e := 66) hJ kR_0 fR_15_86 fl_X12_272 dX12_workTwo_45 rfl ?_
    refine j_iload_n hJ dX12_workTwo_48 rfl 4 rfl ?_
    refine j_iald hJ gp1 kR_66 hF.1 hF.2.1 dX12_workTwo_49 (fun v12 ev12 gv12 => ?_)
    have hF := hF.2.2 v12 ev12 gv12
    refine j_istore (lv' := [(7, .int (Ii v12)), (5, .long (Ll v11)), (3, .long (Ll v5)), (2, .int (Ii v4)), (0, .ref (ad 0)), (1, .int (Ii p1))]) hJ dX12_workTwo_50 (by decide) rfl ?_
    refine j_iload_n hJ dX12_workTwo_52 rfl 3 rfl ?_
    refine j_iconst hJ dX12_workTwo_53 ?_
    refine j_icmp_eq hJ 62 gv4 rk_2 dX12_workTwo_54 (by decide) (fun z13 => ?_) (fun z13 => ?_)
    · have hF := hF.1 z13
      exact j_sub hJ [4, 3, 2, 1, 0] rfl (k_X12_workTwo_b62 hin  hg0 hg1 hg2 hg3 hg4 hg5 hg6 hJ  v4 v5 v11 v12 _ gv4 gv5 gv11 gv12 hF)
    · have hF := hF.2 z13
      refine j_iload_n hJ dX12_workTwo_57 rfl 3 rfl ?_
      refine j_iconst hJ dX12_workTwo_58 ?_
      refine j_icmp_ne hJ 82 gv4 rk_3 dX12_workTwo_59 (by decide) (fun z14 => ?_) (fun z14 => ?_)
      · have hF := hF.1 z14
        exact j_sub hJ [4, 3, 2, 1, 0] rfl (k_X12_workTwo_b82 hin  hg0 hg1 hg2 hg3 hg4 hg5 hg6 hJ  v4 v5 v11 v12 _ gv4 gv5 gv11 gv12 hF)
      · have hF := hF.2 z14
        exact j_sub hJ [4, 3, 2, 1, 0] rfl (k_X12_workTwo_b62 hin  hg0 hg1 hg2 hg3 hg4 hg5 hg6 hJ  v4 v5 v11 v12 _ gv4 gv5 gv11 gv12 hF)
  · have hF := hF.2 z10
    exact j_vret hJ rfl dX12_workTwo_37 hF
set_option maxHeartbeats 4000000 in
set_option maxRecDepth 100000 in
theorem k_X12_workSet_b119 {l : Launch} {D : va_G} {cy : Nat → ClassId} {ad : Nat → Nat} {dp : Nat} {Q : Int → MM → Prop} {J : Nat → List (Nat × Value) → List Value → MM → Prop} (hin : jIn ad ksR.length)   (hg0 : jCN l D vwCl (tyR cy) cy ad ftR ksR (XtR ad) yX12_work (.code yX12_work cX12_work 3 none :: Om) (rm_gw_ dp) 0 (W_X12_work dp ad)) (hg1 : jCN l D vwCl (tyR cy) cy ad ftR ksR (XtR ad) yX12_workOne (.code yX12_workOne cX12_workOne 5 none :: Om) (rm_gw_ dp) 0 (W_X12_workOne dp ad)) (hg2 : jCN l D vwCl (tyR cy) cy ad ftR ksR (XtR ad) yX12_workPart (.code yX12_workPart cX12_workPart 4 none :: Om) (rm_gw_ dp) 0 (W_X12_workPart dp ad)) (hg3 : jCN l D vwCl (tyR cy) cy ad ftR ksR (XtR ad) yX12_workBoth (.code yX12_workBoth cX12_workBoth 3 none :: Om) (rm_gw_ dp) 0 (W_X12_workBoth dp ad)) (hg4 : jCN l D vwCl (tyR cy) cy ad ftR ksR (XtR ad) yX12_workTwo (.code yX12_workTwo cX12_workTwo 10 none :: Om) (rm_gw_ dp) 0 (W_X12_workTwo dp ad)) (hg5 : jCN l D vwCl (tyR cy) cy ad ftR ksR (XtR ad) yX12_workSet (.code yX12_workSet cX12_workSet 7 none :: Om) (rm_gw_ dp) 0 (W_X12_workSet dp ad)) (hg6 : jCN l D vwCl (tyR cy) cy ad ftR ksR (XtR ad) yX12_workFold (.code yX12_workFold cX12_workFold 10 none :: Om) (rm_gw_ dp) 0 (W_X12_workFold dp ad)) (hJ : jOk l D vwCl (tyR cy) cy ad ftR ksR (XtR ad) Om RX12 cX12_workSet 7 0 (rm_gw_ (dp + 1)) Q J) {K43 : Int → Int → Int → Int → MM → Prop} (hK43 : ∀ (x1 x2 x3 x4 : Int) (M : MM), ri_ x1 → ri_ x2 → ri_ x3 → ri_ x4 → K43 x1 x2 x3 x4 M → J 43 [(0, .ref (ad 0)), (1, .int (Ii x1)), (2, .int (Ii x2)), (3, .int (Ii x3)), (4, .int (Ii x4))] [] M) : ∀ (x1 x2 x3 x4 : Int) (M : MM), ri_ x1 → ri_ x2 → ri_ x3 → ri_ x4 → w_X12_workSet_b119  (gw_  dp) Q K43 x1 x2 x3 x4 M → J 119 [(0, .ref (ad 0)), (1, .int (Ii x1)), (2, .int (Ii x2)), (3, .int (Ii x3)), (4, .int (Ii x4))] [] M := by
  intro x1 x2 x3 x4 M gx1 gx2 gx3 gx4 hF
  unfold w_X12_workSet_b119 at hF
  refine j_iinc (lv' := [(4, .int (Ii (x4 + 1))), (0, .ref (ad 0)), (1, .int (Ii x1)), (2, .int (Ii x2)), (3, .int (Ii x3))]) (k := 4) hJ dX12_workSet_119 rfl (by decide) rfl ?_
  have g1 := hF.1; have hF := hF.2
  refine j_goto hJ 43 dX12_workSet_122 (by decide) ?_
  exact j_sub hJ [1, 2, 3, 4, 0] rfl (hK43 x1 x2 x3 (x4 + 1) _ gx1 gx2 gx3 g1 hF)
set_option maxHeartbeats 4000000 in
set_option maxRecDepth 100000 in
theorem k_X12_workSet_b112 {l : Launch} {D : va_G} {cy : Nat → ClassId} {ad : Nat → Nat} {dp : Nat} {Q : Int → MM → Prop} {J : Nat → List (Nat × Value) → List Value → MM → Prop} (hin : jIn ad ksR.length)   (hg0 : jCN l D vwCl (tyR cy) cy ad ftR ksR (XtR ad) yX12_work (.code yX12_work cX12_work 3 none :: Om) (rm_gw_ dp) 0 (W_X12_work dp ad)) (hg1 : jCN l D vwCl (tyR cy) cy ad ftR ksR (XtR ad) yX12_workOne (.code yX12_workOne cX12_workOne 5 none :: Om) (rm_gw_ dp) 0 (W_X12_workOne dp ad)) (hg2 : jCN l D vwCl (tyR cy) cy ad ftR ksR (XtR ad) yX12_workPart (.code yX12_workPart cX12_workPart 4 none :: Om) (rm_gw_ dp) 0 (W_X12_workPart dp ad)) (hg3 : jCN l D vwCl (tyR cy) cy ad ftR ksR (XtR ad) yX12_workBoth (.code yX12_workBoth cX12_workBoth 3 none :: Om) (rm_gw_ dp) 0 (W_X12_workBoth dp ad)) (hg4 : jCN l D vwCl (tyR cy) cy ad ftR ksR (XtR ad) yX12_workTwo (.code yX12_workTwo cX12_workTwo 10 none :: Om) (rm_gw_ dp) 0 (W_X12_workTwo dp ad)) (hg5 : jCN l D vwCl (tyR cy) cy ad ftR ksR (XtR ad) yX12_workSet (.code yX12_workSet cX12_workSet 7 none :: Om) (rm_gw_ dp) 0 (W_X12_workSet dp ad)) (hg6 : jCN l D vwCl (tyR cy) cy ad ftR ksR (XtR ad) yX12_workFold (.code yX12_workFold cX12_workFold 10 none :: Om) (rm_gw_ dp) 0 (W_X12_workFold dp ad)) (hJ : jOk l D vwCl (tyR cy) cy ad ftR ksR (XtR ad) Om RX12 cX12_workSet 7 0 (rm_gw_ (dp + 1)) Q J) {K43 : Int → Int → Int → Int → MM → Prop} (hK43 : ∀ (x1 x2 x3 x4 : Int) (M : MM), ri_ x1 → ri_ x2 → ri_ x3 → ri_ x4 → K43 x1 x2 x3 x4 M → J 43 [(0, .ref (ad 0)), (1, .int (Ii x1)), (2, .int (Ii x2)), (3, .int (Ii x3)), (4, .int (Ii x4))] [] M) : ∀ (x1 x2 x3 x4 : Int) (M : MM), ri_ x1 → ri_ x2 → ri_ x3 → ri_ x4 → w_X12_workSet_b112  (gw_  dp) Q K43 x1 x2 x3 x4 M → J 112 [(0, .ref (ad 0)), (1, .int (Ii x1)), (2, .int (Ii x2)), (3, .int (Ii x3)), (4, .int (Ii x4))] [] M := by
  intro x1 x2 x3 x4 M gx1 gx2 gx3 gx4 hF
  unfold w_X12_workSet_b112 at hF
  refine j_aload_n hJ dX12_workSet_112 rfl 0 rfl ?_
  refine j_iload_n hJ dX12_workSet_113 rfl 2 rfl ?_
  refine j_iload hJ dX12_workSet_114 4 rfl ?_
  refine j_callVv hJ (c_X12_gather (l := l) (D := D) (cy := cy) (ad := ad) hin) rfl om_1269 ⟨rfl, rfl, by show _ ≤ _; simp only [rm_gw_]; omega, by show _ ≤ _; simp only [rm_gw_]; omega⟩ [.int (Ii x2), .int (Ii x4)] mv_X12_843 hd_X12_gatherv kR_0 rfl rfl rfl (Nat.le_of_ble_eq_true rfl) dX12_workSet_116 ⟨x2, x4, rfl, gx2, gx4, hF⟩ (fun M2 qM2 => ?_)
  have hF := qM2
  exact j_sub hJ [0, 1, 2, 3, 4] rfl (k_X12_workSet_b119 hin  hg0 hg1 hg2 hg3 hg4 hg5 hg6 hJ hK43 x1 x2 x3 x4 _ gx1 gx2 gx3 gx4 hF)
set_option maxHeartbeats 4000000 in
set_option maxRecDepth 100000 in
theorem k_X12_workSet_b106 {l : Launch} {D : va_G} {cy : Nat → ClassId} {ad : Nat → Nat} {dp : Nat} {Q : Int → MM → Prop} {J : Nat → List (Nat × Value) → List Value → MM → Prop} (hin : jIn ad ksR.length)   (hg0 : jCN l D vwCl (tyR cy) cy ad ftR ksR (XtR ad) yX12_work (.code yX12_work cX12_work 3 none :: Om) (rm_gw_ dp) 0 (W_X12_work dp ad)) (hg1 : jCN l D vwCl (tyR cy) cy ad ftR ksR (XtR ad) yX12_workOne (.code yX12_workOne cX12_workOne 5 none :: Om) (rm_gw_ dp) 0 (W_X12_workOne dp ad)) (hg2 : jCN l D vwCl (tyR cy) cy ad ftR ksR (XtR ad) yX12_workPart (.code yX12_workPart cX12_workPart 4 none :: Om) (rm_gw_ dp) 0 (W_X12_workPart dp ad)) (hg3 : jCN l D vwCl (tyR cy) cy ad ftR ksR (XtR ad) yX12_workBoth (.code yX12_workBoth cX12_workBoth 3 none :: Om) (rm_gw_ dp) 0 (W_X12_workBoth dp ad)) (hg4 : jCN l D vwCl (tyR cy) cy ad ftR ksR (XtR ad) yX12_workTwo (.code yX12_workTwo cX12_workTwo 10 none :: Om) (rm_gw_ dp) 0 (W_X12_workTwo dp ad)) (hg5 : jCN l D vwCl (tyR cy) cy ad ftR ksR (XtR ad) yX12_workSet (.code yX12_workSet cX12_workSet 7 none :: Om) (rm_gw_ dp) 0 (W_X12_workSet dp ad)) (hg6 : jCN l D vwCl (tyR cy) cy ad ftR ksR (XtR ad) yX12_workFold (.code yX12_workFold cX12_workFold 10 none :: Om) (rm_gw_ dp) 0 (W_X12_workFold dp ad)) (hJ : jOk l D vwCl (tyR cy) cy ad ftR ksR (XtR ad) Om RX12 cX12_workSet 7 0 (rm_gw_ (dp + 1)) Q J) {K43 : Int → Int → Int → Int → MM → Prop} (hK43 : ∀ (x1 x2 x3 x4 : Int) (M : MM), ri_ x1 → ri_ x2 → ri_ x3 → ri_ x4 → K43 x1 x2 x3 x4 M → J 43 [(0, .ref (ad 0)), (1, .int (Ii x1)), (2, .int (Ii x2)), (3, .int (Ii x3)), (4, .int (Ii x4))] [] M) : ∀ (x1 x2 x3 x4 s0 s1 s2 : Int) (M : MM), ri_ x1 → ri_ x2 → ri_ x3 → ri_ x4 → ri_ s0 → rl_ s1 → ri_ s2 → w_X12_workSet_b106  (gw_  dp) Q K43 x1 x2 x3 x4 s0 s1 s2 M → J 106 [(0, .ref (ad 0)), (1, .int (Ii x1)), (2, .int (Ii x2)), (3, .int (Ii x3)), (4, .int (Ii x4))] [.int (Ii s0), .long (Ll s1), .int (Ii s2), .ref (ad 0)] M := by
  intro x1 x2 x3 x4 s0 s1 s2 M gx1 gx2 gx3 gx4 gs0 gs1 gs2 hF
  unfold w_X12_workSet_b106 at hF
  refine j_callVz hJ (c_X12_isNamed (l := l) (D := D) (cy := cy) (ad := ad) hin) rfl om_1265 ⟨rfl, rfl, by show _ ≤ _; simp only [rm_gw_]; omega, by show _ ≤ _; simp only [rm_gw_]; omega⟩ [.int (Ii s2), .long (Ll s1), .int (Ii s0)] mv_X12_832 hd_X12_isNamedv kR_0 rfl rfl rfl (Nat.le_of_ble_eq_true rfl) dX12_workSet_106 ⟨s2, s1, s0, rfl, gs2, gs1, hF.1, hF.2⟩ (fun r1 M2 gr1 qM2 => ?_)
  have hF := qM2 gr1
  refine j_if_eq hJ 119 (jz_ri gr1) dX12_workSet_109 (by decide) (fun z3 => ?_) (fun z3 => ?_)
  · have hF := hF.1 z3
    exact j_sub hJ [0, 1, 2, 3, 4] rfl (k_X12_workSet_b119 hin  hg0 hg1 hg2 hg3 hg4 hg5 hg6 hJ hK43 x1 x2 x3 x4 _ gx1 gx2 gx3 gx4 hF)
  · have hF := hF.2 z3
    exact j_sub hJ [0, 1, 2, 3, 4] rfl (k_X12_workSet_b112 hin  hg0 hg1 hg2 hg3 hg4 hg5 hg6 hJ hK43 x1 x2 x3 x4 _ gx1 gx2 gx3 gx4 hF)
set_option maxHeartbeats 4000000 in
set_option maxRecDepth 100000 in
theorem k_X12_workSet_b43 {l : Launch} {D : va_G} {cy : Nat → ClassId} {ad : Nat → Nat} {dp : Nat} {Q : Int → MM → Prop} {J : Nat → List (Nat × Value) → List Value → MM → Prop} (hin : jIn ad ksR.length)   (hg0 : jCN l D vwCl (tyR cy) cy ad ftR ksR (XtR ad) yX12_work (.code yX12_work cX12_work 3 none :: Om) (rm_gw_ dp) 0 (W_X12_work dp ad)) (hg1 : jCN l D vwCl (tyR cy) cy ad ftR ksR (XtR ad) yX12_workOne (.code yX12_workOne cX12_workOne 5 none :: Om) (rm_gw_ dp) 0 (W_X12_workOne dp ad)) (hg2 : jCN l D vwCl (tyR cy) cy ad ftR ksR (XtR ad) yX12_workPart (.code yX12_workPart cX12_workPart 4 none :: Om) (rm_gw_ dp) 0 (W_X12_workPart dp ad)) (hg3 : jCN l D vwCl (tyR cy) cy ad ftR ksR (XtR ad) yX12_workBoth (.code yX12_workBoth cX12_workBoth 3 none :: Om) (rm_gw_ dp) 0 (W_X12_workBoth dp ad)) (hg4 : jCN l D vwCl (tyR cy) cy ad ftR ksR (XtR ad) yX12_workTwo (.code yX12_workTwo cX12_workTwo 10 none :: Om) (rm_gw_ dp) 0 (W_X12_workTwo dp ad)) (hg5 : jCN l D vwCl (tyR cy) cy ad ftR ksR (XtR ad) yX12_workSet (.code yX12_workSet cX12_workSet 7 none :: Om) (rm_gw_ dp) 0 (W_X12_workSet dp ad)) (hg6 : jCN l D vwCl (tyR cy) cy ad ftR ksR (XtR ad) yX12_workFold (.code yX12_workFold cX12_workFold 10 none :: Om) (rm_gw_ dp) 0 (W_X12_workFold dp ad)) (hJ : jOk l D vwCl (tyR cy) cy ad ftR ksR (XtR ad) Om RX12 cX12_workSet 7 0 (rm_gw_ (dp + 1)) Q J)  : ∀ (x1 x2 x3 x4 : Int) (M : MM), ri_ x1 → ri_ x2 → ri_ x3 → ri_ x4 → w_X12_workSet_b43  (gw_  dp) Q  x1 x2 x3 x4 M → J 43 [(0, .ref (ad 0)), (1, .int (Ii x1)), (2, .int (Ii x2)), (3, .int (Ii x3)), (4, .int (Ii x4))] [] M := by
  have H9 : ∀ (n : Nat) (x1 x2 x3 x4 : Int) (M : MM), ri_ x1 → ri_ x2 → ri_ x3 → ri_ x4 → jit (fun _ _ _ _ _ => False) (wb_X12_workSet_b43  (gw_  dp) Q ) n x1 x2 x3 x4 M → J 43 [(0, .ref (ad 0)), (1, .int (Ii x1)), (2, .int (Ii x2)), (3, .int (Ii x3)), (4, .int (Ii x4))] [] M := by
    intro n
    induction n with
    | zero => intro x1 x2 x3 x4 M gx1 gx2 gx3 gx4 hF; exact False.elim hF
    | succ n ih =>
    intro x1 x2 x3 x4 M gx1 gx2 gx3 gx4 hF
    have hF : wb_X12_workSet_b43  (gw_  dp) Q  (jit (fun _ _ _ _ _ => False) (wb_X12_workSet_b43  (gw_  dp) Q ) n) x1 x2 x3 x4 M := hF
    unfold wb_X12_workSet_b43 at hF
    refine j_iload hJ dX12_workSet_43 4 rfl ?_
    refine j_aload_n hJ dX12_workSet_45 rfl 0 rfl ?_
    refine j_gr (e := 38) hJ kR_0 fR_15_48 fl_X12_183 dX12_workSet_46 rfl ?_
    refine j_aload_n hJ dX12_workSet_49 rfl 0 rfl ?_
    refine j_gi hJ kR_0 fR_15_97 rfl fl_X12_826 dX12_workSet_50 (fun v1 ev1 gv1 => ?_)
    have hF := hF v1 ev1 gv1
    refine j_iald hJ gv1 kR_38 hF.1 hF.2.1 dX12_workSet_53 (fun v2 ev2 gv2 => ?_)
    have hF := hF.2.2 v2 ev2 gv2
    refine j_icmp_ge hJ 125 gx4 gv2 dX12_workSet_54 (by decide) (fun z3 => ?_) (fun z3 => ?_)
    · have hF := hF.1 z3
      exact j_vret hJ rfl dX12_workSet_125 hF
    · have hF := hF.2 z3
      refine j_aload_n hJ dX12_workSet_57 rfl 0 rfl ?_
      refine j_gr (e := 40) hJ kR_0 fR_15_50 fl_X12_189 dX12_workSet_58 rfl ?_
      refine j_aload_n hJ dX12_workSet_61 rfl 0 rfl ?_
      refine j_aload_n hJ dX12_workSet_62 rfl 0 rfl ?_
      refine j_gi hJ kR_0 fR_15_97 rfl fl_X12_826 dX12_workSet_63 (fun v4 ev4 gv4 => ?_)
      have hF := hF v4 ev4 gv4
      refine j_iload hJ dX12_workSet_66 4 rfl ?_
      refine j_callVi hJ (c_X12_at (l := l) (D := D) (cy := cy) (ad := ad) hin) rfl om_1153 ⟨rfl, rfl, by show _ ≤ _; simp only [rm_gw_]; omega, by show _ ≤ _; simp only [rm_gw_]; omega⟩ [.int (Ii v4), .int (Ii x4)] mv_X12_545 hd_X12_atv kR_0 rfl rfl rfl (Nat.le_of_ble_eq_true rfl) dX12_workSet_68 ⟨v4, x4, rfl, gv4, gx4, hF⟩ (fun r5 M6 gr5 qM6 => ?_)
      have hF := qM6 gr5
      refine j_iald hJ gr5 kR_40 hF.1 hF.2.1 dX12_workSet_71 (fun v7 ev7 gv7 => ?_)
      have hF := hF.2.2 v7 ev7 gv7
      refine j_istore (lv' := [(5, .int (Ii v7)), (0, .ref (ad 0)), (1, .int (Ii x1)), (2, .int (Ii x2)), (3, .int (Ii x3)), (4, .int (Ii x4))]) hJ dX12_workSet_72 (by decide) rfl ?_
      refine j_iload_n hJ dX12_workSet_74 rfl 4 rfl ?_
      refine j_iconst hJ dX12_workSet_75 ?_
      refine j_icmp_eq hJ 112 gx3 rk_2 dX12_workSet_76 (by decide) (fun z8 => ?_) (fun z8 => ?_)
      · have hF := hF.1 z8
        exact j_sub hJ [1, 2, 3, 4, 5] rfl (k_X12_workSet_b112 hin  hg0 hg1 hg2 hg3 hg4 hg5 hg6 hJ ih x1 x2 x3 x4 _ gx1 gx2 gx3 gx4 hF)
      · have hF := hF.2 z8
        refine j_aload_n hJ dX12_workSet_79 rfl 1 rfl ?_
        refine j_iload hJ dX12_workSet_80 0 rfl ?_
        refine j_callVz hJ (c_X12_isClass (l := l) (D := D) (cy := cy) (ad := ad) hin) rfl om_1064 ⟨rfl, rfl, by show _ ≤ _; simp only [rm_gw_]; omega, by show _ ≤ _; simp only [rm_gw_]; omega⟩ [.int (Ii v7)] mv_X12_416 hd_X12_isClassv kR_0 rfl rfl rfl (Nat.le_of_ble_eq_true rfl) dX12_workSet_82 ⟨v7, rfl, gv7, hF⟩ (fun r9 M10 gr9 qM10 => ?_)
        have hF := qM10 gr9
        refine j_if_eq hJ 119 (jz_ri gr9) dX12_workSet_85 (by decide) (fun z11 => ?_) (fun z11 => ?_)
        · have hF := hF.1 z11
          exact j_sub hJ [1, 2, 3, 4, 5] rfl (k_X12_workSet_b119 hin  hg0 hg1 hg2 hg3 hg4 hg5 hg6 hJ ih x1 x2 x3 x4 _ gx1 gx2 gx3 gx4 hF)
        · have hF := hF.2 z11
          refine j_aload_n hJ dX12_workSet_88 rfl 1 rfl ?_
          refine j_iload hJ dX12_workSet_89 0 rfl ?_
          refine j_aload_n hJ dX12_workSet_91 rfl 1 rfl ?_
          refine j_gr (e := 70) hJ kR_0 fR_15_90 fl_X12_284 dX12_workSet_92 rfl ?_
          refine j_iload_n hJ dX12_workSet_95 rfl 2 rfl ?_
          refine j_lald hJ gx1 kR_70 hF.1 hF.2.1 dX12_workSet_96 (fun v12 ev12 gv12 => ?_)
          have hF := hF.2.2 v12 ev12 gv12
          refine j_iload_n hJ dX12_workSet_97 rfl 4 rfl ?_
          refine j_if_ne hJ 105 gx3 dX12_workSet_98 (by decide) (fun z13 => ?_) (fun z13 => ?_)
          · have hF := hF.1 z13
            refine j_iconst hJ dX12_workSet_105 ?_
            exact j_sub hJ [1, 2, 3, 4, 5] rfl (k_X12_workSet_b106 hin  hg0 hg1 hg2 hg3 hg4 hg5 hg6 hJ ih x1 x2 x3 x4 0 v12 v7 _ gx1 gx2 gx3 gx4 rk_0 gv12 gv7 hF)
          · have hF := hF.2 z13
            refine j_iconst hJ dX12_workSet_101 ?_
            refine j_goto hJ 106 dX12_workSet_102 (by decide) ?_
            exact j_sub hJ [1, 2, 3, 4, 5] rfl (k_X12_workSet_b106 hin  hg0 hg1 hg2 hg3 hg4 hg5 hg6 hJ ih x1 x2 x3 x4 1 v12 v7 _ gx1 gx2 gx3 gx4 rk_1 gv12 gv7 hF)
  intro x1 x2 x3 x4 M gx1 gx2 gx3 gx4 hF
  obtain ⟨n, hF⟩ := hF
  exact H9 n x1 x2 x3 x4 M gx1 gx2 gx3 gx4 hF
set_option maxHeartbeats 4000000 in
set_option maxRecDepth 100000 in
theorem k_X12_workSet_b40 {l : Launch} {D : va_G} {cy : Nat → ClassId} {ad : Nat → Nat} {dp : Nat} {Q : Int → MM → Prop} {J : Nat → List (Nat × Value) → List Value → MM → Prop} (hin : jIn ad ksR.length)   (hg0 : jCN l D vwCl (tyR cy) cy ad ftR ksR (XtR ad) yX12_work (.code yX12_work cX12_work 3 none :: Om) (rm_gw_ dp) 0 (W_X12_work dp ad)) (hg1 : jCN l D vwCl (tyR cy) cy ad ftR ksR (XtR ad) yX12_workOne (.code yX12_workOne cX12_workOne 5 none :: Om) (rm_gw_ dp) 0 (W_X12_workOne dp ad)) (hg2 : jCN l D vwCl (tyR cy) cy ad ftR ksR (XtR ad) yX12_workPart (.code yX12_workPart cX12_workPart 4 none :: Om) (rm_gw_ dp) 0 (W_X12_workPart dp ad)) (hg3 : jCN l D vwCl (tyR cy) cy ad ftR ksR (XtR ad) yX12_workBoth (.code yX12_workBoth cX12_workBoth 3 none :: Om) (rm_gw_ dp) 0 (W_X12_workBoth dp ad)) (hg4 : jCN l D vwCl (tyR cy) cy ad ftR ksR (XtR ad) yX12_workTwo (.code yX12_workTwo cX12_workTwo 10 none :: Om) (rm_gw_ dp) 0 (W_X12_workTwo dp ad)) (hg5 : jCN l D vwCl (tyR cy) cy ad ftR ksR (XtR ad) yX12_workSet (.code yX12_workSet cX12_workSet 7 none :: Om) (rm_gw_ dp) 0 (W_X12_workSet dp ad)) (hg6 : jCN l D vwCl (tyR cy) cy ad ftR ksR (XtR ad) yX12_workFold (.code yX12_workFold cX12_workFold 10 none :: Om) (rm_gw_ dp) 0 (W_X12_workFold dp ad)) (hJ : jOk l D vwCl (tyR cy) cy ad ftR ksR (XtR ad) Om RX12 cX12_workSet 7 0 (rm_gw_ (dp + 1)) Q J)  : ∀ (x1 x2 x3 : Int) (M : MM), ri_ x1 → ri_ x2 → ri_ x3 → w_X12_workSet_b40  (gw_  dp) Q  x1 x2 x3 M → J 40 [(0, .ref (ad 0)), (1, .int (Ii x1)), (2, .int (Ii x2)), (3, .int (Ii x3))] [] M := by
  intro x1 x2 x3 M gx1 gx2 gx3 hF
  unfold w_X12_workSet_b40 at hF
  refine j_iconst hJ dX12_workSet_40 ?_
  refine j_istore (lv' := [(4, .int (Ii 0)), (0, .ref (ad 0)), (1, .int (Ii x1)), (2, .int (Ii x2)), (3, .int (Ii x3))]) hJ dX12_workSet_41 (by decide) rfl ?_
  exact j_sub hJ [1, 2, 3, 4, 0] rfl (k_X12_workSet_b43 hin  hg0 hg1 hg2 hg3 hg4 hg5 hg6 hJ  x1 x2 x3 0 _ gx1 gx2 gx3 rk_0 hF)
set_option maxHeartbeats 4000000 in
set_option maxRecDepth 100000 in
theorem k_X12_workSet_b434 {l : Launch} {D : va_G} {cy : Nat → ClassId} {ad : Nat → Nat} {dp : Nat} {Q : Int → MM → Prop} {J : Nat → List (Nat × Value) → List Value → MM → Prop} (hin : jIn ad ksR.length)   (hg0 : jCN l D vwCl (tyR cy) cy ad ftR ksR (XtR ad) yX12_work (.code yX12_work cX12_work 3 none :: Om) (rm_gw_ dp) 0 (W_X12_work dp ad)) (hg1 : jCN l D vwCl (tyR cy) cy ad ftR ksR (XtR ad) yX12_workOne (.code yX12_workOne cX12_workOne 5 none :: Om) (rm_gw_ dp) 0 (W_X12_workOne dp ad)) (hg2 : jCN l D vwCl (tyR cy) cy ad ftR ksR (XtR ad) yX12_workPart (.code yX12_workPart cX12_workPart 4 none :: Om) (rm_gw_ dp) 0 (W_X12_workPart dp ad)) (hg3 : jCN l D vwCl (tyR cy) cy ad ftR ksR (XtR ad) yX12_workBoth (.code yX12_workBoth cX12_workBoth 3 none :: Om) (rm_gw_ dp) 0 (W_X12_workBoth dp ad)) (hg4 : jCN l D vwCl (tyR cy) cy ad ftR ksR (XtR ad) yX12_workTwo (.code yX12_workTwo cX12_workTwo 10 none :: Om) (rm_gw_ dp) 0 (W_X12_workTwo dp ad)) (hg5 : jCN l D vwCl (tyR cy) cy ad ftR ksR (XtR ad) yX12_workSet (.code yX12_workSet cX12_workSet 7 none :: Om) (rm_gw_ dp) 0 (W_X12_workSet dp ad)) (hg6 : jCN l D vwCl (tyR cy) cy ad ftR ksR (XtR ad) yX12_workFold (.code yX12_workFold cX12_workFold 10 none :: Om) (rm_gw_ dp) 0 (W_X12_workFold dp ad)) (hJ : jOk l D vwCl (tyR cy) cy ad ftR ksR (XtR ad) Om RX12 cX12_workSet 7 0 (rm_gw_ (dp + 1)) Q J)  : ∀ (x2 x5 : Int) (M : MM), ri_ x2 → ri_ x5 → w_X12_workSet_b434  (gw_  dp) Q  x2 x5 M → J 434 [(0, .ref (ad 0)), (2, .int (Ii x2)), (5, .int (Ii x5))] [] M := by
  have H9 : ∀ (n : Nat) (x2 x5 : Int) (M : MM), ri_ x2 → ri_ x5 → jit (fun _ _ _ => False) (wb_X12_workSet_b434  (gw_  dp) Q ) n x2 x5 M → J 434 [(0, .ref (ad 0)), (2, .int (Ii x2)), (5, .int (Ii x5))] [] M := by
    intro n
    induction n with
    | zero => intro x2 x5 M gx2 gx5 hF; exact False.elim hF
    | succ n ih =>
    intro x2 x5 M gx2 gx5 hF
    have hF : wb_X12_workSet_b434  (gw_  dp) Q  (jit (fun _ _ _ => False) (wb_X12_workSet_b434  (gw_  dp) Q ) n) x2 x5 M := hF
    unfold wb_X12_workSet_b434 at hF
    refine j_iload hJ dX12_workSet_434 2 rfl ?_
    refine j_aload_n hJ dX12_workSet_436 rfl 0 rfl ?_
    refine j_gi hJ kR_0 fR_15_73 rfl fl_X12_581 dX12_workSet_437 (fun v1 ev1 gv1 => ?_)
    have hF := hF v1 ev1 gv1
    refine j_icmp_ge hJ 461 gx5 gv1 dX12_workSet_440 (by decide) (fun z2 => ?_) (fun z2 => ?_)
    · have hF := hF.1 z2
      exact j_vret hJ rfl dX12_workSet_461 hF
    · have hF := hF.2 z2
      refine j_aload_n hJ dX12_workSet_443 rfl 0 rfl ?_
      refine j_iload_n hJ dX12_workSet_444 rfl 1 rfl ?_
      refine j_aload_n hJ dX12_workSet_445 rfl 0 rfl ?_
      refine j_gr (e := 62) hJ kR_0 fR_15_72 fl_X12_256 dX12_workSet_446 rfl ?_
      refine j_iload hJ dX12_workSet_449 2 rfl ?_
      refine j_iald hJ gx5 kR_62 hF.1 hF.2.1 dX12_workSet_451 (fun v3 ev3 gv3 => ?_)
      have hF := hF.2.2 v3 ev3 gv3
      refine j_callVv hJ (c_X12_gather (l := l) (D := D) (cy := cy) (ad := ad) hin) rfl om_1269 ⟨rfl, rfl, by show _ ≤ _; simp only [rm_gw_]; omega, by show _ ≤ _; simp only [rm_gw_]; omega⟩ [.int (Ii x2), .int (Ii v3)] mv_X12_843 hd_X12_gatherv kR_0 rfl rfl rfl (Nat.le_of_ble_eq_true rfl) dX12_workSet_452 ⟨x2, v3, rfl, gx2, gv3, hF⟩ (fun M5 qM5 => ?_)
      have hF := qM5
      refine j_iinc (lv' := [(5, .int (Ii (x5 + 1))), (0, .ref (ad 0)), (2, .int (Ii x2))]) (k := 2) hJ dX12_workSet_455 rfl (by decide) rfl ?_
      have g6 := hF.1; have hF := hF.2
      refine j_goto hJ 434 dX12_workSet_458 (by decide) ?_
      exact j_sub hJ [1, 2, 0] rfl (ih x2 (x5 + 1) _ gx2 g6 hF)
  intro x2 x5 M gx2 gx5 hF
  obtain ⟨n, hF⟩ := hF
  exact H9 n x2 x5 M gx2 gx5 hF
set_option maxHeartbeats 4000000 in
set_option maxRecDepth 100000 in
theorem k_X12_workSet_b399 {l : Launch} {D : va_G} {cy : Nat → ClassId} {ad : Nat → Nat} {dp : Nat} {Q : Int → MM → Prop} {J : Nat → List (Nat × Value) → List Value → MM → Prop} (hin : jIn ad ksR.length)   (hg0 : jCN l D vwCl (tyR cy) cy ad ftR ksR (XtR ad) yX12_work (.code yX12_work cX12_work 3 none :: Om) (rm_gw_ dp) 0 (W_X12_work dp ad)) (hg1 : jCN l D vwCl (tyR cy) cy ad ftR ksR (XtR ad) yX12_workOne (.code yX12_workOne cX12_workOne 5 none :: Om) (rm_gw_ dp) 0 (W_X12_workOne dp ad)) (hg2 : jCN l D vwCl (tyR cy) cy ad ftR ksR (XtR ad) yX12_workPart (.code yX12_workPart cX12_workPart 4 none :: Om) (rm_gw_ dp) 0 (W_X12_workPart dp ad)) (hg3 : jCN l D vwCl (tyR cy) cy ad ftR ksR (XtR ad) yX12_workBoth (.code yX12_workBoth cX12_workBoth 3 none :: Om) (rm_gw_ dp) 0 (W_X12_workBoth dp ad)) (hg4 : jCN l D vwCl (tyR cy) cy ad ftR ksR (XtR ad) yX12_workTwo (.code yX12_workTwo cX12_workTwo 10 none :: Om) (rm_gw_ dp) 0 (W_X12_workTwo dp ad)) (hg5 : jCN l D vwCl (tyR cy) cy ad ftR ksR (XtR ad) yX12_workSet (.code yX12_workSet cX12_workSet 7 none :: Om) (rm_gw_ dp) 0 (W_X12_workSet dp ad)) (hg6 : jCN l D vwCl (tyR cy) cy ad ftR ksR (XtR ad) yX12_workFold (.code yX12_workFold cX12_workFold 10 none :: Om) (rm_gw_ dp) 0 (W_X12_workFold dp ad)) (hJ : jOk l D vwCl (tyR cy) cy ad ftR ksR (XtR ad) Om RX12 cX12_workSet 7 0 (rm_gw_ (dp + 1)) Q J)  : ∀ (x2 x5 : Int) (M : MM), ri_ x2 → ri_ x5 → w_X12_workSet_b399  (gw_  dp) Q  x2 x5 M → J 399 [(0, .ref (ad 0)), (2, .int (Ii x2)), (5, .int (Ii x5))] [] M := by
  have H9 : ∀ (n : Nat) (x2 x5 : Int) (M : MM), ri_ x2 → ri_ x5 → jit (fun _ _ _ => False) (wb_X12_workSet_b399  (gw_  dp) Q ) n x2 x5 M → J 399 [(0, .ref (ad 0)), (2, .int (Ii x2)), (5, .int (Ii x5))] [] M := by
    intro n
    induction n with
    | zero => intro x2 x5 M gx2 gx5 hF; exact False.elim hF
    | succ n ih =>
    intro x2 x5 M gx2 gx5 hF
    have hF : wb_X12_workSet_b399  (gw_  dp) Q  (jit (fun _ _ _ => False) (wb_X12_workSet_b399  (gw_  dp) Q ) n) x2 x5 M := hF
    unfold wb_X12_workSet_b399 at hF
    refine j_iload hJ dX12_workSet_399 2 rfl ?_
    refine j_aload_n hJ dX12_workSet_401 rfl 0 rfl ?_
    refine j_gi hJ kR_0 fR_15_73 rfl fl_X12_581 dX12_workSet_402 (fun v1 ev1 gv1 => ?_)
    have hF := hF v1 ev1 gv1
    refine j_icmp_ge hJ 431 gx5 gv1 dX12_workSet_405 (by decide) (fun z2 => ?_) (fun z2 => ?_)
    · have hF := hF.1 z2
      refine j_iconst hJ dX12_workSet_431 ?_
      refine j_istore (lv' := [(5, .int (Ii 0)), (0, .ref (ad 0)), (2, .int (Ii x2))]) hJ dX12_workSet_432 (by decide) rfl ?_
      exact j_sub hJ [1, 2, 0] rfl (k_X12_workSet_b434 hin  hg0 hg1 hg2 hg3 hg4 hg5 hg6 hJ  x2 0 _ gx2 rk_0 hF)
    · have hF := hF.2 z2
      refine j_aload_n hJ dX12_workSet_408 rfl 0 rfl ?_
      refine j_aload_n hJ dX12_workSet_409 rfl 0 rfl ?_
      refine j_gi hJ kR_0 fR_15_97 rfl fl_X12_826 dX12_workSet_410 (fun v3 ev3 gv3 => ?_)
      have hF := hF v3 ev3 gv3
      refine j_aload_n hJ dX12_workSet_413 rfl 0 rfl ?_
      refine j_gr (e := 62) hJ kR_0 fR_15_72 fl_X12_256 dX12_workSet_414 rfl ?_
      refine j_iload hJ dX12_workSet_417 2 rfl ?_
      refine j_iald hJ gx5 kR_62 hF.1 hF.2.1 dX12_workSet_419 (fun v4 ev4 gv4 => ?_)
      have hF := hF.2.2 v4 ev4 gv4
      refine j_iconst hJ dX12_workSet_420 ?_
      refine j_iconst hJ dX12_workSet_421 ?_
      refine j_callVv hJ (c_X12_visitSlots (l := l) (D := D) (cy := cy) (ad := ad) hin) rfl om_1185 ⟨rfl, rfl, by show _ ≤ _; simp only [rm_gw_]; omega, by show _ ≤ _; simp only [rm_gw_]; omega⟩ [.int (Ii v3), .int (Ii v4), .int (Ii (-1)), .int (Ii 0)] mv_X12_588 hd_X12_visitSlotsv kR_0 rfl rfl rfl (Nat.le_of_ble_eq_true rfl) dX12_workSet_422 ⟨v3, v4, (-1), 0, rfl, gv3, gv4, rk_m1, (by decide), hF⟩ (fun M6 qM6 => ?_)
      have hF := qM6
      refine j_iinc (lv' := [(5, .int (Ii (x5 + 1))), (0, .ref (ad 0)), (2, .int (Ii x2))]) (k := 2) hJ dX12_workSet_425 rfl (by decide) rfl ?_
      have g7 := hF.1; have hF := hF.2
      refine j_goto hJ 399 dX12_workSet_428 (by decide) ?_
      exact j_sub hJ [1, 2, 0] rfl (ih x2 (x5 + 1) _ gx2 g7 hF)
  intro x2 x5 M gx2 gx5 hF
  obtain ⟨n, hF⟩ := hF
  exact H9 n x2 x5 M gx2 gx5 hF
set_option maxHeartbeats 4000000 in
set_option maxRecDepth 100000 in
theorem k_X12_workSet_b351 {l : Launch} {D : va_G} {cy : Nat → ClassId} {ad : Nat → Nat} {dp : Nat} {Q : Int → MM → Prop} {J : Nat → List (Nat × Value) → List Value → MM → Prop} (hin : jIn ad ksR.length)   (hg0 : jCN l D vwCl (tyR cy) cy ad ftR ksR (XtR ad) yX12_work (.code yX12_work cX12_work 3 none :: Om) (rm_gw_ dp) 0 (W_X12_work dp ad)) (hg1 : jCN l D vwCl (tyR cy) cy ad ftR ksR (XtR ad) yX12_workOne (.code yX12_workOne cX12_workOne 5 none :: Om) (rm_gw_ dp) 0 (W_X12_workOne dp ad)) (hg2 : jCN l D vwCl (tyR cy) cy ad ftR ksR (XtR ad) yX12_workPart (.code yX12_workPart cX12_workPart 4 none :: Om) (rm_gw_ dp) 0 (W_X12_workPart dp ad)) (hg3 : jCN l D vwCl (tyR cy) cy ad ftR ksR (XtR ad) yX12_workBoth (.code yX12_workBoth cX12_workBoth 3 none :: Om) (rm_gw_ dp) 0 (W_X12_workBoth dp ad)) (hg4 : jCN l D vwCl (tyR cy) cy ad ftR ksR (XtR ad) yX12_workTwo (.code yX12_workTwo cX12_workTwo 10 none :: Om) (rm_gw_ dp) 0 (W_X12_workTwo dp ad)) (hg5 : jCN l D vwCl (tyR cy) cy ad ftR ksR (XtR ad) yX12_workSet (.code yX12_workSet cX12_workSet 7 none :: Om) (rm_gw_ dp) 0 (W_X12_workSet dp ad)) (hg6 : jCN l D vwCl (tyR cy) cy ad ftR ksR (XtR ad) yX12_workFold (.code yX12_workFold cX12_workFold 10 none :: Om) (rm_gw_ dp) 0 (W_X12_workFold dp ad)) (hJ : jOk l D vwCl (tyR cy) cy ad ftR ksR (XtR ad) Om RX12 cX12_workSet 7 0 (rm_gw_ (dp + 1)) Q J)  : ∀ (x2 x4 x5 : Int) (M : MM), ri_ x2 → ri_ x4 → ri_ x5 → w_X12_workSet_b351  (gw_  dp) Q  x2 x4 x5 M → J 351 [(0, .ref (ad 0)), (2, .int (Ii x2)), (4, .int (Ii x4)), (5, .int (Ii x5))] [] M := by
  have H9 : ∀ (n : Nat) (x2 x4 x5 : Int) (M : MM), ri_ x2 → ri_ x4 → ri_ x5 → jit (fun _ _ _ _ => False) (wb_X12_workSet_b351  (gw_  dp) Q ) n x2 x4 x5 M → J 351 [(0, .ref (ad 0)), (2, .int (Ii x2)), (4, .int (Ii x4)), (5, .int (Ii x5))] [] M := by
    intro n
    induction n with
    | zero => intro x2 x4 x5 M gx2 gx4 gx5 hF; exact False.elim hF
    | succ n ih =>
    intro x2 x4 x5 M gx2 gx4 gx5 hF
    have hF : wb_X12_workSet_b351  (gw_  dp) Q  (jit (fun _ _ _ _ => False) (wb_X12_workSet_b351  (gw_  dp) Q ) n) x2 x4 x5 M := hF
    unfold wb_X12_workSet_b351 at hF
    refine j_iload hJ dX12_workSet_351 3 rfl ?_
    refine j_aload_n hJ dX12_workSet_353 rfl 0 rfl ?_
    refine j_gr (e := 38) hJ kR_0 fR_15_48 fl_X12_183 dX12_workSet_354 rfl ?_
    refine j_aload_n hJ dX12_workSet_357 rfl 0 rfl ?_
    refine j_gi hJ kR_0 fR_15_97 rfl fl_X12_826 dX12_workSet_358 (fun v1 ev1 gv1 => ?_)
    have hF := hF v1 ev1 gv1
    refine j_iald hJ gv1 kR_38 hF.1 hF.2.1 dX12_workSet_361 (fun v2 ev2 gv2 => ?_)
    have hF := hF.2.2 v2 ev2 gv2
    refine j_icmp_ge hJ 379 gx5 gv2 dX12_workSet_362 (by decide) (fun z3 => ?_) (fun z3 => ?_)
    · have hF := hF.1 z3
      refine j_aload_n hJ dX12_workSet_379 rfl 0 rfl ?_
      refine j_iconst hJ dX12_workSet_380 ?_
      refine j_pi hJ rk_0 kR_0 fR_15_73 rfl fp_X12_581 dX12_workSet_381 (fun M4 eM4 => ?_)
      have hF := hF M4 eM4
      refine j_aload_n hJ dX12_workSet_384 rfl 0 rfl ?_
      refine j_aload_n hJ dX12_workSet_385 rfl 0 rfl ?_
      refine j_gi hJ kR_0 fR_15_97 rfl fl_X12_826 dX12_workSet_386 (fun v5 ev5 gv5 => ?_)
      have hF := hF v5 ev5 gv5
      refine j_iload hJ dX12_workSet_389 2 rfl ?_
      refine j_iconst hJ dX12_workSet_391 ?_
      refine j_iconst hJ dX12_workSet_392 ?_
      refine j_callVv hJ (c_X12_visit (l := l) (D := D) (cy := cy) (ad := ad) hin) rfl om_1181 ⟨rfl, rfl, by show _ ≤ _; simp only [rm_gw_]; omega, by show _ ≤ _; simp only [rm_gw_]; omega⟩ [.int (Ii v5), .int (Ii x4), .int (Ii (-1)), .int (Ii 0)] mv_X12_584 hd_X12_visitv kR_0 rfl rfl rfl (Nat.le_of_ble_eq_true rfl) dX12_workSet_393 ⟨v5, x4, (-1), 0, rfl, gv5, gx4, rk_m1, (by decide), hF⟩ (fun M7 qM7 => ?_)
      have hF := qM7
      refine j_iconst hJ dX12_workSet_396 ?_
      refine j_istore (lv' := [(5, .int (Ii 0)), (0, .ref (ad 0)), (2, .int (Ii x2)), (4, .int (Ii x4))]) hJ dX12_workSet_397 (by decide) rfl ?_
      exact j_sub hJ [1, 2, 0] rfl (k_X12_workSet_b399 hin  hg0 hg1 hg2 hg3 hg4 hg5 hg6 hJ  x2 0 _ gx2 rk_0 hF)
    · have hF := hF.2 z3
      refine j_aload_n hJ dX12_workSet_365 rfl 0 rfl ?_
      refine j_gr (e := 60) hJ kR_0 fR_15_70 fl_X12_249 dX12_workSet_366 rfl ?_
      refine j_iload hJ dX12_workSet_369 3 rfl ?_
      refine j_iconst hJ dX12_workSet_371 ?_
      refine j_zast hJ gx5 (by decide) kR_60 hF.1 hF.2.1 dX12_workSet_372 (fun M8 eM8 => ?_)
      have hF := hF.2.2 M8 eM8
      refine j_iinc (lv' := [(5, .int (Ii (x5 + 1))), (0, .ref (ad 0)), (2, .int (Ii x2)), (4, .int (Ii x4))]) (k := 3) hJ dX12_workSet_373 rfl (by decide) rfl ?_
      have g9 := hF.1; have hF := hF.2
      refine j_goto hJ 351 dX12_workSet_376 (by decide) ?_
      exact j_sub hJ [1, 2, 3, 0] rfl (ih x2 x4 (x5 + 1) _ gx2 gx4 g9 hF)
  intro x2 x4 x5 M gx2 gx4 gx5 hF
  obtain ⟨n, hF⟩ := hF
  exact H9 n x2 x4 x5 M gx2 gx4 gx5 hF
set_option maxHeartbeats 4000000 in
set_option maxRecDepth 100000 in
theorem k_X12_workSet_b333 {l : Launch} {D : va_G} {cy : Nat → ClassId} {ad : Nat → Nat} {dp : Nat} {Q : Int → MM → Prop} {J : Nat → List (Nat × Value) → List Value → MM → Prop} (hin : jIn ad ksR.length)   (hg0 : jCN l D vwCl (tyR cy) cy ad ftR ksR (XtR ad) yX12_work (.code yX12_work cX12_work 3 none :: Om) (rm_gw_ dp) 0 (W_X12_work dp ad)) (hg1 : jCN l D vwCl (tyR cy) cy ad ftR ksR (XtR ad) yX12_workOne (.code yX12_workOne cX12_workOne 5 none :: Om) (rm_gw_ dp) 0 (W_X12_workOne dp ad)) (hg2 : jCN l D vwCl (tyR cy) cy ad ftR ksR (XtR ad) yX12_workPart (.code yX12_workPart cX12_workPart 4 none :: Om) (rm_gw_ dp) 0 (W_X12_workPart dp ad)) (hg3 : jCN l D vwCl (tyR cy) cy ad ftR ksR (XtR ad) yX12_workBoth (.code yX12_workBoth cX12_workBoth 3 none :: Om) (rm_gw_ dp) 0 (W_X12_workBoth dp ad)) (hg4 : jCN l D vwCl (tyR cy) cy ad ftR ksR (XtR ad) yX12_workTwo (.code yX12_workTwo cX12_workTwo 10 none :: Om) (rm_gw_ dp) 0 (W_X12_workTwo dp ad)) (hg5 : jCN l D vwCl (tyR cy) cy ad ftR ksR (XtR ad) yX12_workSet (.code yX12_workSet cX12_workSet 7 none :: Om) (rm_gw_ dp) 0 (W_X12_workSet dp ad)) (hg6 : jCN l D vwCl (tyR cy) cy ad ftR ksR (XtR ad) yX12_workFold (.code yX12_workFold cX12_workFold 10 none :: Om) (rm_gw_ dp) 0 (W_X12_workFold dp ad)) (hJ : jOk l D vwCl (tyR cy) cy ad ftR ksR (XtR ad) Om RX12 cX12_workSet 7 0 (rm_gw_ (dp + 1)) Q J) {K260 : Int → Int → Int → MM → Prop} (hK260 : ∀ (x2 x4 x5 : Int) (M : MM), ri_ x2 → ri_ x4 → ri_ x5 → K260 x2 x4 x5 M → J 260 [(0, .ref (ad 0)), (2, .int (Ii x2)), (4, .int (Ii x4)), (5, .int (Ii x5))] [] M) {K277 : Int → Int → Int → Int → MM → Prop} (hK277 : ∀ (x2 x4 x5 x6 : Int) (M : MM), ri_ x2 → ri_ x4 → ri_ x5 → ri_ x6 → K277 x2 x4 x5 x6 M → J 277 [(0, .ref (ad 0)), (2, .int (Ii x2)), (4, .int (Ii x4)), (5, .int (Ii x5)), (6, .int (Ii x6))] [] M) : ∀ (x2 x4 x5 x6 : Int) (M : MM), ri_ x2 → ri_ x4 → ri_ x5 → ri_ x6 → w_X12_workSet_b333  (gw_  dp) Q K260 K277 x2 x4 x5 x6 M → J 333 [(0, .ref (ad 0)), (2, .int (Ii x2)), (4, .int (Ii x4)), (5, .int (Ii x5)), (6, .int (Ii x6))] [] M := by
  intro x2 x4 x5 x6 M gx2 gx4 gx5 gx6 hF
  unfold w_X12_workSet_b333 at hF
  refine j_iinc (lv' := [(6, .int (Ii (x6 + 1))), (0, .ref (ad 0)), (2, .int (Ii x2)), (4, .int (Ii x4)), (5, .int (Ii x5))]) (k := 4) hJ dX12_workSet_333 rfl (by decide) rfl ?_
  have g1 := hF.1; have hF := hF.2
  refine j_goto hJ 277 dX12_workSet_336 (by decide) ?_
  exact j_sub hJ [1, 2, 3, 4, 0] rfl (hK277 x2 x4 x5 (x6 + 1) _ gx2 gx4 gx5 g1 hF)
set_option maxHeartbeats 4000000 in
set_option maxRecDepth 100000 in
theorem k_X12_workSet_b277 {l : Launch} {D : va_G} {cy : Nat → ClassId} {ad : Nat → Nat} {dp : Nat} {Q : Int → MM → Prop} {J : Nat → List (Nat × Value) → List Value → MM → Prop} (hin : jIn ad ksR.length)   (hg0 : jCN l D vwCl (tyR cy) cy ad ftR ksR (XtR ad) yX12_work (.code yX12_work cX12_work 3 none :: Om) (rm_gw_ dp) 0 (W_X12_work dp ad)) (hg1 : jCN l D vwCl (tyR cy) cy ad ftR ksR (XtR ad) yX12_workOne (.code yX12_workOne cX12_workOne 5 none :: Om) (rm_gw_ dp) 0 (W_X12_workOne dp ad)) (hg2 : jCN l D vwCl (tyR cy) cy ad ftR ksR (XtR ad) yX12_workPart (.code yX12_workPart cX12_workPart 4 none :: Om) (rm_gw_ dp) 0 (W_X12_workPart dp ad)) (hg3 : jCN l D vwCl (tyR cy) cy ad ftR ksR (XtR ad) yX12_workBoth (.code yX12_workBoth cX12_workBoth 3 none :: Om) (rm_gw_ dp) 0 (W_X12_workBoth dp ad)) (hg4 : jCN l D vwCl (tyR cy) cy ad ftR ksR (XtR ad) yX12_workTwo (.code yX12_workTwo cX12_workTwo 10 none :: Om) (rm_gw_ dp) 0 (W_X12_workTwo dp ad)) (hg5 : jCN l D vwCl (tyR cy) cy ad ftR ksR (XtR ad) yX12_workSet (.code yX12_workSet cX12_workSet 7 none :: Om) (rm_gw_ dp) 0 (W_X12_workSet dp ad)) (hg6 : jCN l D vwCl (tyR cy) cy ad ftR ksR (XtR ad) yX12_workFold (.code yX12_workFold cX12_workFold 10 none :: Om) (rm_gw_ dp) 0 (W_X12_workFold dp ad)) (hJ : jOk l D vwCl (tyR cy) cy ad ftR ksR (XtR ad) Om RX12 cX12_workSet 7 0 (rm_gw_ (dp + 1)) Q J) {K260 : Int → Int → Int → MM → Prop} (hK260 : ∀ (x2 x4 x5 : Int) (M : MM), ri_ x2 → ri_ x4 → ri_ x5 → K260 x2 x4 x5 M → J 260 [(0, .ref (ad 0)), (2, .int (Ii x2)), (4, .int (Ii x4)), (5, .int (Ii x5))] [] M) : ∀ (x2 x4 x5 x6 : Int) (M : MM), ri_ x2 → ri_ x4 → ri_ x5 → ri_ x6 → w_X12_workSet_b277  (gw_  dp) Q K260 x2 x4 x5 x6 M → J 277 [(0, .ref (ad 0)), (2, .int (Ii x2)), (4, .int (Ii x4)), (5, .int (Ii x5)), (6, .int (Ii x6))] [] M := by
  have H9 : ∀ (n : Nat) (x2 x4 x5 x6 : Int) (M : MM), ri_ x2 → ri_ x4 → ri_ x5 → ri_ x6 → jit (fun _ _ _ _ _ => False) (wb_X12_workSet_b277  (gw_  dp) Q K260) n x2 x4 x5 x6 M → J 277 [(0, .ref (ad 0)), (2, .int (Ii x2)), (4, .int (Ii x4)), (5, .int (Ii x5)), (6, .int (Ii x6))] [] M := by
    intro n
    induction n with
    | zero => intro x2 x4 x5 x6 M gx2 gx4 gx5 gx6 hF; exact False.elim hF
    | succ n ih =>
    intro x2 x4 x5 x6 M gx2 gx4 gx5 gx6 hF
    have hF : wb_X12_workSet_b277  (gw_  dp) Q K260 (jit (fun _ _ _ _ _ => False) (wb_X12_workSet_b277  (gw_  dp) Q K260) n) x2 x4 x5 x6 M := hF
    unfold wb_X12_workSet_b277 at hF
    refine j_iload hJ dX12_workSet_277 4 rfl ?_
    refine j_aload_n hJ dX12_workSet_279 rfl 0 rfl ?_
    refine j_aload_n hJ dX12_workSet_280 rfl 0 rfl ?_
    refine j_gi hJ kR_0 fR_15_97 rfl fl_X12_826 dX12_workSet_281 (fun v1 ev1 gv1 => ?_)
    have hF := hF v1 ev1 gv1
    refine j_iload hJ dX12_workSet_284 3 rfl ?_
    refine j_callVi hJ (c_X12_slotsIn (l := l) (D := D) (cy := cy) (ad := ad) hin) rfl om_1165 ⟨rfl, rfl, by show _ ≤ _; simp only [rm_gw_]; omega, by show _ ≤ _; simp only [rm_gw_]; omega⟩ [.int (Ii v1), .int (Ii x5)] mv_X12_570 hd_X12_slotsInv kR_0 rfl rfl rfl (Nat.le_of_ble_eq_true rfl) dX12_workSet_286 ⟨v1, x5, rfl, gv1, gx5, hF⟩ (fun r2 M3 gr2 qM3 => ?_)
    have hF := qM3 gr2
    refine j_icmp_ge hJ 339 gx6 gr2 dX12_workSet_289 (by decide) (fun z4 => ?_) (fun z4 => ?_)
    · have hF := hF.1 z4
      refine j_iinc (lv' := [(5, .int (Ii (x5 + 1))), (0, .ref (ad 0)), (2, .int (Ii x2)), (4, .int (Ii x4)), (6, .int (Ii x6))]) (k := 3) hJ dX12_workSet_339 rfl (by decide) rfl ?_
      have g5 := hF.1; have hF := hF.2
      refine j_goto hJ 260 dX12_workSet_342 (by decide) ?_
      exact j_sub hJ [1, 2, 3, 0] rfl (hK260 x2 x4 (x5 + 1) _ gx2 gx4 g5 hF)
    · have hF := hF.2 z4
      refine j_aload_n hJ dX12_workSet_292 rfl 0 rfl ?_
      refine j_aload_n hJ dX12_workSet_293 rfl 0 rfl ?_
      refine j_gi hJ kR_0 fR_15_97 rfl fl_X12_826 dX12_workSet_294 (fun v6 ev6 gv6 => ?_)
      have hF := hF v6 ev6 gv6
      refine j_iload hJ dX12_workSet_297 3 rfl ?_
      refine j_iload hJ dX12_workSet_299 4 rfl ?_
      refine j_callVz hJ (c_X12_linksIn (l := l) (D := D) (cy := cy) (ad := ad) hin) rfl om_1169 ⟨rfl, rfl, by show _ ≤ _; simp only [rm_gw_]; omega, by show _ ≤ _; simp only [rm_gw_]; omega⟩ [.int (Ii v6), .int (Ii x5), .int (Ii x6)] mv_X12_573 hd_X12_linksInv kR_0 rfl rfl rfl (Nat.le_of_ble_eq_true rfl) dX12_workSet_301 ⟨v6, x5, x6, rfl, gv6, gx5, gx6, hF⟩ (fun r7 M8 gr7 qM8 => ?_)
      have hF := qM8 gr7
      refine j_if_eq hJ 333 (jz_ri gr7) dX12_workSet_304 (by decide) (fun z9 => ?_) (fun z9 => ?_)
      · have hF := hF.1 z9
        exact j_sub hJ [0, 1, 2, 3, 4] rfl (k_X12_workSet_b333 hin  hg0 hg1 hg2 hg3 hg4 hg5 hg6 hJ hK260 ih x2 x4 x5 x6 _ gx2 gx4 gx5 gx6 hF)
      · have hF := hF.2 z9
        refine j_aload_n hJ dX12_workSet_307 rfl 0 rfl ?_
        refine j_aload_n hJ dX12_workSet_308 rfl 0 rfl ?_
        refine j_gi hJ kR_0 fR_15_97 rfl fl_X12_826 dX12_workSet_309 (fun v10 ev10 gv10 => ?_)
        have hF := hF v10 ev10 gv10
        refine j_iload hJ dX12_workSet_312 3 rfl ?_
        refine j_iload hJ dX12_workSet_314 4 rfl ?_
        refine j_callVl hJ (c_X12_valueIn (l := l) (D := D) (cy := cy) (ad := ad) hin) rfl om_1173 ⟨rfl, rfl, by show _ ≤ _; simp only [rm_gw_]; omega, by show _ ≤ _; simp only [rm_gw_]; omega⟩ [.int (Ii v10), .int (Ii x5), .int (Ii x6)] mv_X12_577 hd_X12_valueInv kR_0 rfl rfl rfl (Nat.le_of_ble_eq_true rfl) dX12_workSet_316 ⟨v10, x5, x6, rfl, gv10, gx5, gx6, hF⟩ (fun r11 M12 gr11 qM12 => ?_)
        have hF := qM12 gr11
        refine j_iload hJ dX12_workSet_319 2 rfl ?_
        refine j_i2l hJ gx4 dX12_workSet_321 ?_
        refine j_lcmp_ne hJ 333 gr11 (rl_ri gx4) dX12_workSet_322 dX12_workSet_323 (by decide) (fun z13 => ?_) (fun z13 => ?_)
        · have hF := hF.1 z13
          exact j_sub hJ [0, 1, 2, 3, 4] rfl (k_X12_workSet_b333 hin  hg0 hg1 hg2 hg3 hg4 hg5 hg6 hJ hK260 ih x2 x4 x5 x6 _ gx2 gx4 gx5 gx6 hF)
        · have hF := hF.2 z13
          refine j_aload_n hJ dX12_workSet_326 rfl 0 rfl ?_
          refine j_iload_n hJ dX12_workSet_327 rfl 1 rfl ?_
          refine j_iload hJ dX12_workSet_328 3 rfl ?_
          refine j_callVv hJ (c_X12_gather (l := l) (D := D) (cy := cy) (ad := ad) hin) rfl om_1269 ⟨rfl, rfl, by show _ ≤ _; simp only [rm_gw_]; omega, by show _ ≤ _; simp only [rm_gw_]; omega⟩ [.int (Ii x2), .int (Ii x5)] mv_X12_843 hd_X12_gatherv kR_0 rfl rfl rfl (Nat.le_of_ble_eq_true rfl) dX12_workSet_330 ⟨x2, x5, rfl, gx2, gx5, hF⟩ (fun M15 qM15 => ?_)
          have hF := qM15
          exact j_sub hJ [0, 1, 2, 3, 4] rfl (k_X12_workSet_b333 hin  hg0 hg1 hg2 hg3 hg4 hg5 hg6 hJ hK260 ih x2 x4 x5 x6 _ gx2 gx4 gx5 gx6 hF)
  intro x2 x4 x5 x6 M gx2 gx4 gx5 gx6 hF
  obtain ⟨n, hF⟩ := hF
  exact H9 n x2 x4 x5 x6 M gx2 gx4 gx5 gx6 hF
set_option maxHeartbeats 4000000 in
set_option maxRecDepth 100000 in
theorem k_X12_workSet_b260 {l : Launch} {D : va_G} {cy : Nat → ClassId} {ad : Nat → Nat} {dp : Nat} {Q : Int → MM → Prop} {J : Nat → List (Nat × Value) → List Value → MM → Prop} (hin : jIn ad ksR.length)   (hg0 : jCN l D vwCl (tyR cy) cy ad ftR ksR (XtR ad) yX12_work (.code yX12_work cX12_work 3 none :: Om) (rm_gw_ dp) 0 (W_X12_work dp ad)) (hg1 : jCN l D vwCl (tyR cy) cy ad ftR ksR (XtR ad) yX12_workOne (.code yX12_workOne cX12_workOne 5 none :: Om) (rm_gw_ dp) 0 (W_X12_workOne dp ad)) (hg2 : jCN l D vwCl (tyR cy) cy ad ftR ksR (XtR ad) yX12_workPart (.code yX12_workPart cX12_workPart 4 none :: Om) (rm_gw_ dp) 0 (W_X12_workPart dp ad)) (hg3 : jCN l D vwCl (tyR cy) cy ad ftR ksR (XtR ad) yX12_workBoth (.code yX12_workBoth cX12_workBoth 3 none :: Om) (rm_gw_ dp) 0 (W_X12_workBoth dp ad)) (hg4 : jCN l D vwCl (tyR cy) cy ad ftR ksR (XtR ad) yX12_workTwo (.code yX12_workTwo cX12_workTwo 10 none :: Om) (rm_gw_ dp) 0 (W_X12_workTwo dp ad)) (hg5 : jCN l D vwCl (tyR cy) cy ad ftR ksR (XtR ad) yX12_workSet (.code yX12_workSet cX12_workSet 7 none :: Om) (rm_gw_ dp) 0 (W_X12_workSet dp ad)) (hg6 : jCN l D vwCl (tyR cy) cy ad ftR ksR (XtR ad) yX12_workFold (.code yX12_workFold cX12_workFold 10 none :: Om) (rm_gw_ dp) 0 (W_X12_workFold dp ad)) (hJ : jOk l D vwCl (tyR cy) cy ad ftR ksR (XtR ad) Om RX12 cX12_workSet 7 0 (rm_gw_ (dp + 1)) Q J)  : ∀ (x2 x4 x5 : Int) (M : MM), ri_ x2 → ri_ x4 → ri_ x5 → w_X12_workSet_b260  (gw_  dp) Q  x2 x4 x5 M → J 260 [(0, .ref (ad 0)), (2, .int (Ii x2)), (4, .int (Ii x4)), (5, .int (Ii x5))] [] M := by
  have H9 : ∀ (n : Nat) (x2 x4 x5 : Int) (M : MM), ri_ x2 → ri_ x4 → ri_ x5 → jit (fun _ _ _ _ => False) (wb_X12_workSet_b260  (gw_  dp) Q ) n x2 x4 x5 M → J 260 [(0, .ref (ad 0)), (2, .int (Ii x2)), (4, .int (Ii x4)), (5, .int (Ii x5))] [] M := by
    intro n
    induction n with
    | zero => intro x2 x4 x5 M gx2 gx4 gx5 hF; exact False.elim hF
    | succ n ih =>
    intro x2 x4 x5 M gx2 gx4 gx5 hF
    have hF : wb_X12_workSet_b260  (gw_  dp) Q  (jit (fun _ _ _ _ => False) (wb_X12_workSet_b260  (gw_  dp) Q ) n) x2 x4 x5 M := hF
    unfold wb_X12_workSet_b260 at hF
    refine j_iload hJ dX12_workSet_260 3 rfl ?_
    refine j_aload_n hJ dX12_workSet_262 rfl 0 rfl ?_
    refine j_gr (e := 38) hJ kR_0 fR_15_48 fl_X12_183 dX12_workSet_263 rfl ?_
    refine j_aload_n hJ dX12_workSet_266 rfl 0 rfl ?_
    refine j_gi hJ kR_0 fR_15_97 rfl fl_X12_826 dX12_workSet_267 (fun v1 ev1 gv1 => ?_)
    have hF := hF v1 ev1 gv1
    refine j_iald hJ gv1 kR_38 hF.1 hF.2.1 dX12_workSet_270 (fun v2 ev2 gv2 => ?_)
    have hF := hF.2.2 v2 ev2 gv2
    refine j_icmp_ge hJ 345 gx5 gv2 dX12_workSet_271 (by decide) (fun z3 => ?_) (fun z3 => ?_)
    · have hF := hF.1 z3
      refine j_goto hJ 461 dX12_workSet_345 (by decide) ?_
      exact j_vret hJ rfl dX12_workSet_461 hF
    · have hF := hF.2 z3
      refine j_iconst hJ dX12_workSet_274 ?_
      refine j_istore (lv' := [(6, .int (Ii 0)), (0, .ref (ad 0)), (2, .int (Ii x2)), (4, .int (Ii x4)), (5, .int (Ii x5))]) hJ dX12_workSet_275 (by decide) rfl ?_
      exact j_sub hJ [1, 2, 3, 4, 0] rfl (k_X12_workSet_b277 hin  hg0 hg1 hg2 hg3 hg4 hg5 hg6 hJ ih x2 x4 x5 0 _ gx2 gx4 gx5 rk_0 hF)
  intro x2 x4 x5 M gx2 gx4 gx5 hF
  obtain ⟨n, hF⟩ := hF
  exact H9 n x2 x4 x5 M gx2 gx4 gx5 hF
set_option maxHeartbeats 4000000 in
set_option maxRecDepth 100000 in
theorem k_X12_workSet_b242 {l : Launch} {D : va_G} {cy : Nat → ClassId} {ad : Nat → Nat} {dp : Nat} {Q : Int → MM → Prop} {J : Nat → List (Nat × Value) → List Value → MM → Prop} (hin : jIn ad ksR.length)   (hg0 : jCN l D vwCl (tyR cy) cy ad ftR ksR (XtR ad) yX12_work (.code yX12_work cX12_work 3 none :: Om) (rm_gw_ dp) 0 (W_X12_work dp ad)) (hg1 : jCN l D vwCl (tyR cy) cy ad ftR ksR (XtR ad) yX12_workOne (.code yX12_workOne cX12_workOne 5 none :: Om) (rm_gw_ dp) 0 (W_X12_workOne dp ad)) (hg2 : jCN l D vwCl (tyR cy) cy ad ftR ksR (XtR ad) yX12_workPart (.code yX12_workPart cX12_workPart 4 none :: Om) (rm_gw_ dp) 0 (W_X12_workPart dp ad)) (hg3 : jCN l D vwCl (tyR cy) cy ad ftR ksR (XtR ad) yX12_workBoth (.code yX12_workBoth cX12_workBoth 3 none :: Om) (rm_gw_ dp) 0 (W_X12_workBoth dp ad)) (hg4 : jCN l D vwCl (tyR cy) cy ad ftR ksR (XtR ad) yX12_workTwo (.code yX12_workTwo cX12_workTwo 10 none :: Om) (rm_gw_ dp) 0 (W_X12_workTwo dp ad)) (hg5 : jCN l D vwCl (tyR cy) cy ad ftR ksR (XtR ad) yX12_workSet (.code yX12_workSet cX12_workSet 7 none :: Om) (rm_gw_ dp) 0 (W_X12_workSet dp ad)) (hg6 : jCN l D vwCl (tyR cy) cy ad ftR ksR (XtR ad) yX12_workFold (.code yX12_workFold cX12_workFold 10 none :: Om) (rm_gw_ dp) 0 (W_X12_workFold dp ad)) (hJ : jOk l D vwCl (tyR cy) cy ad ftR ksR (XtR ad) Om RX12 cX12_workSet 7 0 (rm_gw_ (dp + 1)) Q J) {K175 : Int → Int → Int → MM → Prop} (hK175 : ∀ (x2 x4 x5 : Int) (M : MM), ri_ x2 → ri_ x4 → ri_ x5 → K175 x2 x4 x5 M → J 175 [(0, .ref (ad 0)), (2, .int (Ii x2)), (4, .int (Ii x4)), (5, .int (Ii x5))] [] M) : ∀ (x2 x4 x5 : Int) (M : MM), ri_ x2 → ri_ x4 → ri_ x5 → w_X12_workSet_b242  (gw_  dp) Q K175 x2 x4 x5 M → J 242 [(0, .ref (ad 0)), (2, .int (Ii x2)), (4, .int (Ii x4)), (5, .int (Ii x5))] [] M := by
  intro x2 x4 x5 M gx2 gx4 gx5 hF
  unfold w_X12_workSet_b242 at hF
  refine j_iinc (lv' := [(5, .int (Ii (x5 + 1))), (0, .ref (ad 0)), (2, .int (Ii x2)), (4, .int (Ii x4))]) (k := 3) hJ dX12_workSet_242 rfl (by decide) rfl ?_
  have g1 := hF.1; have hF := hF.2
  refine j_goto hJ 175 dX12_workSet_245 (by decide) ?_
  exact j_sub hJ [1, 2, 3, 0] rfl (hK175 x2 x4 (x5 + 1) _ gx2 gx4 g1 hF)
set_option maxHeartbeats 4000000 in
set_option maxRecDepth 100000 in
theorem k_X12_workSet_b175 {l : Launch} {D : va_G} {cy : Nat → ClassId} {ad : Nat → Nat} {dp : Nat} {Q : Int → MM → Prop} {J : Nat → List (Nat × Value) → List Value → MM → Prop} (hin : jIn ad ksR.length)   (hg0 : jCN l D vwCl (tyR cy) cy ad ftR ksR (XtR ad) yX12_work (.code yX12_work cX12_work 3 none :: Om) (rm_gw_ dp) 0 (W_X12_work dp ad)) (hg1 : jCN l D vwCl (tyR cy) cy ad ftR ksR (XtR ad) yX12_workOne (.code yX12_workOne cX12_workOne 5 none :: Om) (rm_gw_ dp) 0 (W_X12_workOne dp ad)) (hg2 : jCN l D vwCl (tyR cy) cy ad ftR ksR (XtR ad) yX12_workPart (.code yX12_workPart cX12_workPart 4 none :: Om) (rm_gw_ dp) 0 (W_X12_workPart dp ad)) (hg3 : jCN l D vwCl (tyR cy) cy ad ftR ksR (XtR ad) yX12_workBoth (.code yX12_workBoth cX12_workBoth 3 none :: Om) (rm_gw_ dp) 0 (W_X12_workBoth dp ad)) (hg4 : jCN l D vwCl (tyR cy) cy ad ftR ksR (XtR ad) yX12_workTwo (.code yX12_workTwo cX12_workTwo 10 none :: Om) (rm_gw_ dp) 0 (W_X12_workTwo dp ad)) (hg5 : jCN l D vwCl (tyR cy) cy ad ftR ksR (XtR ad) yX12_workSet (.code yX12_workSet cX12_workSet 7 none :: Om) (rm_gw_ dp) 0 (W_X12_workSet dp ad)) (hg6 : jCN l D vwCl (tyR cy) cy ad ftR ksR (XtR ad) yX12_workFold (.code yX12_workFold cX12_workFold 10 none :: Om) (rm_gw_ dp) 0 (W_X12_workFold dp ad)) (hJ : jOk l D vwCl (tyR cy) cy ad ftR ksR (XtR ad) Om RX12 cX12_workSet 7 0 (rm_gw_ (dp + 1)) Q J)  : ∀ (x2 x4 x5 : Int) (M : MM), ri_ x2 → ri_ x4 → ri_ x5 → w_X12_workSet_b175  (gw_  dp) Q  x2 x4 x5 M → J 175 [(0, .ref (ad 0)), (2, .int (Ii x2)), (4, .int (Ii x4)), (5, .int (Ii x5))] [] M := by
  have H9 : ∀ (n : Nat) (x2 x4 x5 : Int) (M : MM), ri_ x2 → ri_ x4 → ri_ x5 → jit (fun _ _ _ _ => False) (wb_X12_workSet_b175  (gw_  dp) Q ) n x2 x4 x5 M → J 175 [(0, .ref (ad 0)), (2, .int (Ii x2)), (4, .int (Ii x4)), (5, .int (Ii x5))] [] M := by
    intro n
    induction n with
    | zero => intro x2 x4 x5 M gx2 gx4 gx5 hF; exact False.elim hF
    | succ n ih =>
    intro x2 x4 x5 M gx2 gx4 gx5 hF
    have hF : wb_X12_workSet_b175  (gw_  dp) Q  (jit (fun _ _ _ _ => False) (wb_X12_workSet_b175  (gw_  dp) Q ) n) x2 x4 x5 M := hF
    unfold wb_X12_workSet_b175 at hF
    refine j_iload hJ dX12_workSet_175 3 rfl ?_
    refine j_aload_n hJ dX12_workSet_177 rfl 0 rfl ?_
    refine j_aload_n hJ dX12_workSet_178 rfl 0 rfl ?_
    refine j_gi hJ kR_0 fR_15_97 rfl fl_X12_826 dX12_workSet_179 (fun v1 ev1 gv1 => ?_)
    have hF := hF v1 ev1 gv1
    refine j_iload hJ dX12_workSet_182 2 rfl ?_
    refine j_callVi hJ (c_X12_slotsIn (l := l) (D := D) (cy := cy) (ad := ad) hin) rfl om_1165 ⟨rfl, rfl, by show _ ≤ _; simp only [rm_gw_]; omega, by show _ ≤ _; simp only [rm_gw_]; omega⟩ [.int (Ii v1), .int (Ii x4)] mv_X12_570 hd_X12_slotsInv kR_0 rfl rfl rfl (Nat.le_of_ble_eq_true rfl) dX12_workSet_184 ⟨v1, x4, rfl, gv1, gx4, hF⟩ (fun r2 M3 gr2 qM3 => ?_)
    have hF := qM3 gr2
    refine j_icmp_ge hJ 248 gx5 gr2 dX12_workSet_187 (by decide) (fun z4 => ?_) (fun z4 => ?_)
    · have hF := hF.1 z4
      refine j_goto hJ 461 dX12_workSet_248 (by decide) ?_
      exact j_vret hJ rfl dX12_workSet_461 hF
    · have hF := hF.2 z4
      refine j_aload_n hJ dX12_workSet_190 rfl 0 rfl ?_
      refine j_aload_n hJ dX12_workSet_191 rfl 0 rfl ?_
      refine j_gi hJ kR_0 fR_15_97 rfl fl_X12_826 dX12_workSet_192 (fun v5 ev5 gv5 => ?_)
      have hF := hF v5 ev5 gv5
      refine j_iload hJ dX12_workSet_195 2 rfl ?_
      refine j_iload hJ dX12_workSet_197 3 rfl ?_
      refine j_callVz hJ (c_X12_linksIn (l := l) (D := D) (cy := cy) (ad := ad) hin) rfl om_1169 ⟨rfl, rfl, by show _ ≤ _; simp only [rm_gw_]; omega, by show _ ≤ _; simp only [rm_gw_]; omega⟩ [.int (Ii v5), .int (Ii x4), .int (Ii x5)] mv_X12_573 hd_X12_linksInv kR_0 rfl rfl rfl (Nat.le_of_ble_eq_true rfl) dX12_workSet_199 ⟨v5, x4, x5, rfl, gv5, gx4, gx5, hF⟩ (fun r6 M7 gr6 qM7 => ?_)
      have hF := qM7 gr6
      refine j_if_eq hJ 242 (jz_ri gr6) dX12_workSet_202 (by decide) (fun z8 => ?_) (fun z8 => ?_)
      · have hF := hF.1 z8
        exact j_sub hJ [0, 1, 2, 3] rfl (k_X12_workSet_b242 hin  hg0 hg1 hg2 hg3 hg4 hg5 hg6 hJ ih x2 x4 x5 _ gx2 gx4 gx5 hF)
      · have hF := hF.2 z8
        refine j_aload_n hJ dX12_workSet_205 rfl 0 rfl ?_
        refine j_aload_n hJ dX12_workSet_206 rfl 0 rfl ?_
        refine j_gi hJ kR_0 fR_15_97 rfl fl_X12_826 dX12_workSet_207 (fun v9 ev9 gv9 => ?_)
        have hF := hF v9 ev9 gv9
        refine j_iload hJ dX12_workSet_210 2 rfl ?_
        refine j_iload hJ dX12_workSet_212 3 rfl ?_
        refine j_callVl hJ (c_X12_valueIn (l := l) (D := D) (cy := cy) (ad := ad) hin) rfl om_1173 ⟨rfl, rfl, by show _ ≤ _; simp only [rm_gw_]; omega, by show _ ≤ _; simp only [rm_gw_]; omega⟩ [.int (Ii v9), .int (Ii x4), .int (Ii x5)] mv_X12_577 hd_X12_valueInv kR_0 rfl rfl rfl (Nat.le_of_ble_eq_true rfl) dX12_workSet_214 ⟨v9, x4, x5, rfl, gv9, gx4, gx5, hF⟩ (fun r10 M11 gr10 qM11 => ?_)
        have hF := qM11 gr10
        refine j_ldc2 hJ (-1) om_1068 (by decide) dX12_workSet_217 ?_
        refine j_lcmp_eq hJ 242 gr10 lk_m1 dX12_workSet_220 dX12_workSet_221 (by decide) (fun z12 => ?_) (fun z12 => ?_)
        · have hF := hF.1 z12
          exact j_sub hJ [0, 1, 2, 3] rfl (k_X12_workSet_b242 hin  hg0 hg1 hg2 hg3 hg4 hg5 hg6 hJ ih x2 x4 x5 _ gx2 gx4 gx5 hF)
        · have hF := hF.2 z12
          refine j_aload_n hJ dX12_workSet_224 rfl 0 rfl ?_
          refine j_iload_n hJ dX12_workSet_225 rfl 1 rfl ?_
          refine j_aload_n hJ dX12_workSet_226 rfl 0 rfl ?_
          refine j_aload_n hJ dX12_workSet_227 rfl 0 rfl ?_
          refine j_gi hJ kR_0 fR_15_97 rfl fl_X12_826 dX12_workSet_228 (fun v13 ev13 gv13 => ?_)
          have hF := hF v13 ev13 gv13
          refine j_iload hJ dX12_workSet_231 2 rfl ?_
          refine j_iload hJ dX12_workSet_233 3 rfl ?_
          refine j_callVl hJ (c_X12_valueIn (l := l) (D := D) (cy := cy) (ad := ad) hin) rfl om_1173 ⟨rfl, rfl, by show _ ≤ _; simp only [rm_gw_]; omega, by show _ ≤ _; simp only [rm_gw_]; omega⟩ [.int (Ii v13), .int (Ii x4), .int (Ii x5)] mv_X12_577 hd_X12_valueInv kR_0 rfl rfl rfl (Nat.le_of_ble_eq_true rfl) dX12_workSet_235 ⟨v13, x4, x5, rfl, gv13, gx4, gx5, hF⟩ (fun r14 M15 gr14 qM15 => ?_)
          have hF := qM15 gr14
          refine j_l2i hJ dX12_workSet_238 ?_
          have g16 := hF.1; have hF := hF.2
          refine j_callVv hJ (c_X12_gather (l := l) (D := D) (cy := cy) (ad := ad) hin) rfl om_1269 ⟨rfl, rfl, by show _ ≤ _; simp only [rm_gw_]; omega, by show _ ≤ _; simp only [rm_gw_]; omega⟩ [.int (Ii x2), .int (Ii r14)] mv_X12_843 hd_X12_gatherv kR_0 rfl rfl rfl (Nat.le_of_ble_eq_true rfl) dX12_workSet_239 ⟨x2, r14, rfl, gx2, g16, hF⟩ (fun M18 qM18 => ?_)
          have hF := qM18
          exact j_sub hJ [0, 1, 2, 3] rfl (k_X12_workSet_b242 hin  hg0 hg1 hg2 hg3 hg4 hg5 hg6 hJ ih x2 x4 x5 _ gx2 gx4 gx5 hF)
  intro x2 x4 x5 M gx2 gx4 gx5 hF
  obtain ⟨n, hF⟩ := hF
  exact H9 n x2 x4 x5 M gx2 gx4 gx5 hF
set_option maxHeartbeats 4000000 in
set_option maxRecDepth 100000 in
theorem s_X12_workSet {l : Launch} {D : va_G} {cy : Nat → ClassId} {ad : Nat → Nat} {dp : Nat} (hin : jIn ad ksR.length) (hg0 : jCN l D vwCl (tyR cy) cy ad ftR ksR (XtR ad) yX12_work (.code yX12_work cX12_work 3 none :: Om) (rm_gw_ dp) 0 (W_X12_work dp ad)) (hg1 : jCN l D vwCl (tyR cy) cy ad ftR ksR (XtR ad) yX12_workOne (.code yX12_workOne cX12_workOne 5 none :: Om) (rm_gw_ dp) 0 (W_X12_workOne dp ad)) (hg2 : jCN l D vwCl (tyR cy) cy ad ftR ksR (XtR ad) yX12_workPart (.code yX12_workPart cX12_workPart 4 none :: Om) (rm_gw_ dp) 0 (W_X12_workPart dp ad)) (hg3 : jCN l D vwCl (tyR cy) cy ad ftR ksR (XtR ad) yX12_workBoth (.code yX12_workBoth cX12_workBoth 3 none :: Om) (rm_gw_ dp) 0 (W_X12_workBoth dp ad)) (hg4 : jCN l D vwCl (tyR cy) cy ad ftR ksR (XtR ad) yX12_workTwo (.code yX12_workTwo cX12_workTwo 10 none :: Om) (rm_gw_ dp) 0 (W_X12_workTwo dp ad)) (hg5 : jCN l D vwCl (tyR cy) cy ad ftR ksR (XtR ad) yX12_workSet (.code yX12_workSet cX12_workSet 7 none :: Om) (rm_gw_ dp) 0 (W_X12_workSet dp ad)) (hg6 : jCN l D vwCl (tyR cy) cy ad ftR ksR (XtR ad) yX12_workFold (.code yX12_workFold cX12_workFold 10 none :: Om) (rm_gw_ dp) 0 (W_X12_workFold dp ad)) : jCN l D vwCl (tyR cy) cy ad ftR ksR (XtR ad) yX12_workSet (.code yX12_workSet cX12_workSet 7 none :: Om) (rm_gw_ (dp + 1)) 0 (W_X12_workSet (dp + 1) ad) := by
  refine jCN_of (y := yX12_workSet) (cc := cX12_workSet) (nL := 7) (rk := 0) (rm := (rm_gw_ (dp + 1))) (own := RX12) (tyR_ok cy) hin (XtR_ok ad) Om_good (by decide) rfl ?_
  intro Q av M hF
  obtain ⟨p1, p2, rfl, gp1, gp2, hF⟩ := hF
  refine ⟨Nat.le_of_ble_eq_true rfl, fun J hJ => ?_⟩
  show J 0 [(0, .ref (ad 0)), (1, .int (Ii p1)), (2, .int (Ii p2))] [] M
  have hF : b_X12_workSet  (gw_  dp) Q p1 p2 M := hF
  unfold b_X12_workSet at hF
  refine j_aload_n hJ dX12_workSet_0 rfl 0 rfl ?_
  refine j_gr (e := 66) hJ kR_0 fR_15_86 fl_X12_272 dX12_workSet_1 rfl ?_
  refine j_iload_n hJ dX12_workSet_4 rfl 1 rfl ?_
  refine j_iald hJ gp1 kR_66 hF.1 hF.2.1 dX12_workSet_5 (fun v1 ev1 gv1 => ?_)
  have hF := hF.2.2 v1 ev1 gv1
  refine j_istore_n (lv' := [(3, .int (Ii v1)), (0, .ref (ad 0)), (1, .int (Ii p1)), (2, .int (Ii p2))]) hJ dX12_workSet_6 rfl (by decide) rfl ?_
  refine j_aload_n hJ dX12_workSet_7 rfl 1 rfl ?_
  refine j_gr (e := 74) hJ kR_0 fR_15_106 fl_X12_297 dX12_workSet_8 rfl ?_
  refine j_iload_n hJ dX12_workSet_11 rfl 3 rfl ?_
  refine j_iconst hJ dX12_workSet_12 ?_
  refine j_iast hJ gp2 rk_0 kR_74 hF.1 hF.2.1 dX12_workSet_13 (fun M2 eM2 => ?_)
  have hF := hF.2.2 M2 eM2
  refine j_aload_n hJ dX12_workSet_14 rfl 1 rfl ?_
  refine j_callVv hJ (c_X12_step (l := l) (D := D) (cy := cy) (ad := ad) hin) rfl om_1249 ⟨rfl, rfl, by show _ ≤ _; simp only [rm_gw_]; omega, by show _ ≤ _; simp only [rm_gw_]; omega⟩ [] mv_X12_795 hd_X12_stepv kR_0 rfl rfl rfl (Nat.le_of_ble_eq_true rfl) dX12_workSet_15 ⟨rfl, hF⟩ (fun M4 qM4 => ?_)
  have hF := qM4
  refine j_aload_n hJ dX12_workSet_18 rfl 1 rfl ?_
  refine j_gz hJ kR_0 fR_15_103 rfl fl_X12_782 dX12_workSet_19 (fun v5 ev5 gv5 => ?_)
  have hF := hF v5 ev5 gv5
  refine j_if_eq hJ 26 (jz_ri gv5) dX12_workSet_22 (by decide) (fun z6 => ?_) (fun z6 => ?_)
  · have hF := hF.1 z6
    refine j_iload_n hJ dX12_workSet_26 rfl 0 rfl ?_
    refine j_if_eq hJ 40 gv1 dX12_workSet_27 (by decide) (fun z7 => ?_) (fun z7 => ?_)
    · have hF := hF.1 z7
      exact j_sub hJ [1, 2, 3, 0] rfl (k_X12_workSet_b40 hin  hg0 hg1 hg2 hg3 hg4 hg5 hg6 hJ  p1 p2 v1 _ gp1 gp2 gv1 hF)
    · have hF := hF.2 z7
      refine j_iload_n hJ dX12_workSet_30 rfl 0 rfl ?_
      refine j_iconst hJ dX12_workSet_31 ?_
      refine j_icmp_eq hJ 40 gv1 rk_1 dX12_workSet_32 (by decide) (fun z8 => ?_) (fun z8 => ?_)
      · have hF := hF.1 z8
        exact j_sub hJ [1, 2, 3, 0] rfl (k_X12_workSet_b40 hin  hg0 hg1 hg2 hg3 hg4 hg5 hg6 hJ  p1 p2 v1 _ gp1 gp2 gv1 hF)
      · have hF := hF.2 z8
        refine j_iload_n hJ dX12_workSet_35 rfl 0 rfl ?_
        refine j_iconst hJ dX12_workSet_36 ?_
        refine j_icmp_ne hJ 126 gv1 rk_2 dX12_workSet_37 (by decide) (fun z9 => ?_) (fun z9 => ?_)
        · have hF := hF.1 z9
          refine j_aload_n hJ dX12_workSet_126 rfl 1 rfl ?_
          refine j_aload_n hJ dX12_workSet_127 rfl 1 rfl ?_
          refine j_gr (e := 67) hJ kR_0 fR_15_87 fl_X12_275 dX12_workSet_128 rfl ?_
          refine j_iload_n hJ dX12_workSet_131 rfl 2 rfl ?_
          refine j_iald hJ gp1 kR_67 hF.1 hF.2.1 dX12_workSet_132 (fun v10 ev10 gv10 => ?_)
          have hF := hF.2.2 v10 ev10 gv10
          refine j_callVv hJ hg0 rfl om_1253 ⟨rfl, rfl, by show _ ≤ _; simp only [rm_gw_]; omega, by show _ ≤ _; simp only [rm_gw_]; omega⟩ [.int (Ii v10)] mv_X12_829 hd_X12_workv kR_0 rfl rfl rfl (Nat.le_of_ble_eq_true rfl) dX12_workSet_133 ⟨v10, rfl, gv10, hF⟩ (fun M12 qM12 => ?_)
          have hF := qM12
          refine j_aload_n hJ dX12_workSet_136 rfl 1 rfl ?_
          refine j_gr (e := 74) hJ kR_0 fR_15_106 fl_X12_297 dX12_workSet_137 rfl ?_
          refine j_iload_n hJ dX12_workSet_140 rfl 3 rfl ?_
          refine j_iconst hJ dX12_workSet_141 ?_
          refine j_iast hJ gp2 rk_0 kR_74 hF.1 hF.2.1 dX12_workSet_142 (fun M13 eM13 => ?_)
          have hF := hF.2.2 M13 eM13
          refine j_aload_n hJ dX12_workSet_143 rfl 1 rfl ?_
          refine j_gz hJ kR_0 fR_15_103 rfl fl_X12_782 dX12_workSet_144 (fun v14 ev14 gv14 => ?_)
          have hF := hF v14 ev14 gv14
          refine j_if_ne hJ 158 (jz_ri gv14) dX12_workSet_147 (by decide) (fun z15 => ?_) (fun z15 => ?_)
          · have hF := hF.1 z15
            exact j_vret hJ rfl dX12_workSet_158 hF
          · have hF := hF.2 z15
            refine j_aload_n hJ dX12_workSet_150 rfl 1 rfl ?_
            refine j_gi hJ kR_0 fR_15_99 rfl fl_X12_785 dX12_workSet_151 (fun v16 ev16 gv16 => ?_)
            have hF := hF v16 ev16 gv16
            refine j_iconst hJ dX12_workSet_154 ?_
            refine j_icmp_eq hJ 159 gv16 rk_2 dX12_workSet_155 (by decide) (fun z17 => ?_) (fun z17 => ?_)
            · have hF := hF.1 z17
              refine j_aload_n hJ dX12_workSet_159 rfl 1 rfl ?_
              refine j_gl hJ kR_0 fR_15_102 rfl fl_X12_788 dX12_workSet_160 (fun v18 ev18 gv18 => ?_)
              have hF := hF v18 ev18 gv18
              refine j_l2i hJ dX12_workSet_163 ?_
              have g19 := hF.1; have hF := hF.2
              refine j_istore (lv' := [(4, .int (Ii v18)), (3, .int (Ii v1)), (0, .ref (ad 0)), (1, .int (Ii p1)), (2, .int (Ii p2))]) hJ dX12_workSet_164 (by decide) rfl ?_
              refine j_iload_n hJ dX12_workSet_166 rfl 1 rfl ?_
              refine j_bipush hJ dX12_workSet_167 (by decide) ?_
              refine j_icmp_ne hJ 251 gv1 rk_24 dX12_workSet_169 (by decide) (fun z20 => ?_) (fun z20 => ?_)
              · have hF := hF.1 z20
                refine j_iload_n hJ dX12_workSet_251 rfl 1 rfl ?_
                refine j_bipush hJ dX12_workSet_252 (by decide) ?_
                refine j_icmp_ne hJ 348 gv1 rk_25 dX12_workSet_254 (by decide) (fun z21 => ?_) (fun z21 => ?_)
                · have hF := hF.1 z21
                  refine j_iconst hJ dX12_workSet_348 ?_
                  refine j_istore (lv' := [(5, .int (Ii 0)), (4, .int (Ii v18)), (3, .int (Ii v1)), (0, .ref (ad 0)), (1, .int (Ii p1)), (2, .int (Ii p2))]) hJ dX12_workSet_349 (by decide) rfl ?_
                  exact j_sub hJ [3, 5, 1, 0] rfl (k_X12_workSet_b351 hin  hg0 hg1 hg2 hg3 hg4 hg5 hg6 hJ  p2 v18 0 _ gp2 g19 rk_0 hF)
                · have hF := hF.2 z21
                  refine j_iconst hJ dX12_workSet_257 ?_
                  refine j_istore (lv' := [(5, .int (Ii 0)), (4, .int (Ii v18)), (3, .int (Ii v1)), (0, .ref (ad 0)), (1, .int (Ii p1)), (2, .int (Ii p2))]) hJ dX12_workSet_258 (by decide) rfl ?_
                  exact j_sub hJ [3, 5, 1, 0] rfl (k_X12_workSet_b260 hin  hg0 hg1 hg2 hg3 hg4 hg5 hg6 hJ  p2 v18 0 _ gp2 g19 rk_0 hF)
              · have hF := hF.2 z20
                refine j_iconst hJ dX12_workSet_172 ?_
                refine j_istore (lv' := [(5, .int (Ii 0)), (4, .int (Ii v18)), (3, .int (Ii v1)), (0, .ref (ad 0)), (1, .int (Ii p1)), (2, .int (Ii p2))]) hJ dX12_workSet_173 (by decide) rfl ?_
                exact j_sub hJ [3, 5, 1, 0] rfl (k_X12_workSet_b175 hin  hg0 hg1 hg2 hg3 hg4 hg5 hg6 hJ  p2 v18 0 _ gp2 g19 rk_0 hF)
            · have hF := hF.2 z17
              exact j_vret hJ rfl dX12_workSet_158 hF
        · have hF := hF.2 z9
          exact j_sub hJ [1, 2, 3, 0] rfl (k_X12_workSet_b40 hin  hg0 hg1 hg2 hg3 hg4 hg5 hg6 hJ  p1 p2 v1 _ gp1 gp2 gv1 hF)
  · have hF := hF.2 z6
    exact j_vret hJ rfl dX12_workSet_25 hF
set_option maxHeartbeats 4000000 in
set_option maxRecDepth 100000 in
theorem k_X12_workFold_b366 {l : Launch} {D : va_G} {cy : Nat → ClassId} {ad : Nat → Nat} {dp : Nat} {Q : Int → MM → Prop} {J : Nat → List (Nat × Value) → List Value → MM → Prop} (hin : jIn ad ksR.length)   (hg0 : jCN l D vwCl (tyR cy) cy ad ftR ksR (XtR ad) yX12_work (.code yX12_work cX12_work 3 none :: Om) (rm_gw_ dp) 0 (W_X12_work dp ad)) (hg1 : jCN l D vwCl (tyR cy) cy ad ftR ksR (XtR ad) yX12_workOne (.code yX12_workOne cX12_workOne 5 none :: Om) (rm_gw_ dp) 0 (W_X12_workOne dp ad)) (hg2 : jCN l D vwCl (tyR cy) cy ad ftR ksR (XtR ad) yX12_workPart (.code yX12_workPart cX12_workPart 4 none :: Om) (rm_gw_ dp) 0 (W_X12_workPart dp ad)) (hg3 : jCN l D vwCl (tyR cy) cy ad ftR ksR (XtR ad) yX12_workBoth (.code yX12_workBoth cX12_workBoth 3 none :: Om) (rm_gw_ dp) 0 (W_X12_workBoth dp ad)) (hg4 : jCN l D vwCl (tyR cy) cy ad ftR ksR (XtR ad) yX12_workTwo (.code yX12_workTwo cX12_workTwo 10 none :: Om) (rm_gw_ dp) 0 (W_X12_workTwo dp ad)) (hg5 : jCN l D vwCl (tyR cy) cy ad ftR ksR (XtR ad) yX12_workSet (.code yX12_workSet cX12_workSet 7 none :: Om) (rm_gw_ dp) 0 (W_X12_workSet dp ad)) (hg6 : jCN l D vwCl (tyR cy) cy ad ftR ksR (XtR ad) yX12_workFold (.code yX12_workFold cX12_workFold 10 none :: Om) (rm_gw_ dp) 0 (W_X12_workFold dp ad)) (hJ : jOk l D vwCl (tyR cy) cy ad ftR ksR (XtR ad) Om RX12 cX12_workFold 10 0 (rm_gw_ (dp + 1)) Q J)  : ∀ (M : MM), w_X12_workFold_b366  (gw_  dp) Q   M → J 366 [(0, .ref (ad 0))] [] M := by
  intro  M  hF
  unfold w_X12_workFold_b366 at hF
  refine j_aload_n hJ dX12_workFold_366 rfl 0 rfl ?_
  refine j_callVv hJ (c_X12_nothing (l := l) (D := D) (cy := cy) (ad := ad) hin) rfl om_1229 ⟨rfl, rfl, by show _ ≤ _; simp only [rm_gw_]; omega, by show _ ≤ _; simp only [rm_gw_]; omega⟩ [] mv_X12_798 hd_X12_nothingv kR_0 rfl rfl rfl (Nat.le_of_ble_eq_true rfl) dX12_workFold_367 ⟨rfl, hF⟩ (fun M2 qM2 => ?_)
  have hF := qM2
  refine j_goto hJ 420 dX12_workFold_370 (by decide) ?_
  exact j_vret hJ rfl dX12_workFold_420 hF
set_option maxHeartbeats 4000000 in
set_option maxRecDepth 100000 in
theorem k_X12_workFold_b407 {l : Launch} {D : va_G} {cy : Nat → ClassId} {ad : Nat → Nat} {dp : Nat} {Q : Int → MM → Prop} {J : Nat → List (Nat × Value) → List Value → MM → Prop} (hin : jIn ad ksR.length)   (hg0 : jCN l D vwCl (tyR cy) cy ad ftR ksR (XtR ad) yX12_work (.code yX12_work cX12_work 3 none :: Om) (rm_gw_ dp) 0 (W_X12_work dp ad)) (hg1 : jCN l D vwCl (tyR cy) cy ad ftR ksR (XtR ad) yX12_workOne (.code yX12_workOne cX12_workOne 5 none :: Om) (rm_gw_ dp) 0 (W_X12_workOne dp ad)) (hg2 : jCN l D vwCl (tyR cy) cy ad ftR ksR (XtR ad) yX12_workPart (.code yX12_workPart cX12_workPart 4 none :: Om) (rm_gw_ dp) 0 (W_X12_workPart dp ad)) (hg3 : jCN l D vwCl (tyR cy) cy ad ftR ksR (XtR ad) yX12_workBoth (.code yX12_workBoth cX12_workBoth 3 none :: Om) (rm_gw_ dp) 0 (W_X12_workBoth dp ad)) (hg4 : jCN l D vwCl (tyR cy) cy ad ftR ksR (XtR ad) yX12_workTwo (.code yX12_workTwo cX12_workTwo 10 none :: Om) (rm_gw_ dp) 0 (W_X12_workTwo dp ad)) (hg5 : jCN l D vwCl (tyR cy) cy ad ftR ksR (XtR ad) yX12_workSet (.code yX12_workSet cX12_workSet 7 none :: Om) (rm_gw_ dp) 0 (W_X12_workSet dp ad)) (hg6 : jCN l D vwCl (tyR cy) cy ad ftR ksR (XtR ad) yX12_workFold (.code yX12_workFold cX12_workFold 10 none :: Om) (rm_gw_ dp) 0 (W_X12_workFold dp ad)) (hJ : jOk l D vwCl (tyR cy) cy ad ftR ksR (XtR ad) Om RX12 cX12_workFold 10 0 (rm_gw_ (dp + 1)) Q J)  : ∀ (s0 : Int) (M : MM), ri_ s0 → w_X12_workFold_b407  (gw_  dp) Q  s0 M → J 407 [] [.int (Ii s0), .ref (ad 0)] M := by
  intro s0 M gs0 hF
  unfold w_X12_workFold_b407 at hF
  refine j_callVv hJ (c_X12_truth (l := l) (D := D) (cy := cy) (ad := ad) hin) rfl om_1221 ⟨rfl, rfl, by show _ ≤ _; simp only [rm_gw_]; omega, by show _ ≤ _; simp only [rm_gw_]; omega⟩ [.int (Ii s0)] mv_X12_813 hd_X12_truthv kR_0 rfl rfl rfl (Nat.le_of_ble_eq_true rfl) dX12_workFold_407 ⟨s0, rfl, hF.1, hF.2⟩ (fun M2 qM2 => ?_)
  have hF := qM2
  refine j_goto hJ 420 dX12_workFold_410 (by decide) ?_
  exact j_vret hJ rfl dX12_workFold_420 hF
set_option maxHeartbeats 4000000 in
set_option maxRecDepth 100000 in
theorem k_X12_workFold_b399 {l : Launch} {D : va_G} {cy : Nat → ClassId} {ad : Nat → Nat} {dp : Nat} {Q : Int → MM → Prop} {J : Nat → List (Nat × Value) → List Value → MM → Prop} (hin : jIn ad ksR.length)   (hg0 : jCN l D vwCl (tyR cy) cy ad ftR ksR (XtR ad) yX12_work (.code yX12_work cX12_work 3 none :: Om) (rm_gw_ dp) 0 (W_X12_work dp ad)) (hg1 : jCN l D vwCl (tyR cy) cy ad ftR ksR (XtR ad) yX12_workOne (.code yX12_workOne cX12_workOne 5 none :: Om) (rm_gw_ dp) 0 (W_X12_workOne dp ad)) (hg2 : jCN l D vwCl (tyR cy) cy ad ftR ksR (XtR ad) yX12_workPart (.code yX12_workPart cX12_workPart 4 none :: Om) (rm_gw_ dp) 0 (W_X12_workPart dp ad)) (hg3 : jCN l D vwCl (tyR cy) cy ad ftR ksR (XtR ad) yX12_workBoth (.code yX12_workBoth cX12_workBoth 3 none :: Om) (rm_gw_ dp) 0 (W_X12_workBoth dp ad)) (hg4 : jCN l D vwCl (tyR cy) cy ad ftR ksR (XtR ad) yX12_workTwo (.code yX12_workTwo cX12_workTwo 10 none :: Om) (rm_gw_ dp) 0 (W_X12_workTwo dp ad)) (hg5 : jCN l D vwCl (tyR cy) cy ad ftR ksR (XtR ad) yX12_workSet (.code yX12_workSet cX12_workSet 7 none :: Om) (rm_gw_ dp) 0 (W_X12_workSet dp ad)) (hg6 : jCN l D vwCl (tyR cy) cy ad ftR ksR (XtR ad) yX12_workFold (.code yX12_workFold cX12_workFold 10 none :: Om) (rm_gw_ dp) 0 (W_X12_workFold dp ad)) (hJ : jOk l D vwCl (tyR cy) cy ad ftR ksR (XtR ad) Om RX12 cX12_workFold 10 0 (rm_gw_ (dp + 1)) Q J)  : ∀ (s0 s1 : Int) (M : MM), ri_ s0 → ri_ s1 → w_X12_workFold_b399  (gw_  dp) Q  s0 s1 M → J 399 [] [.int (Ii s0), .int (Ii s1), .ref (ad 0)] M := by
  intro s0 s1 M gs0 gs1 hF
  unfold w_X12_workFold_b399 at hF
  refine j_icmp_ne hJ 406 gs1 gs0 dX12_workFold_399 (by decide) (fun z1 => ?_) (fun z1 => ?_)
  · have hF := hF.1 z1
    refine j_iconst hJ dX12_workFold_406 ?_
    exact j_sub hJ [] rfl (k_X12_workFold_b407 hin  hg0 hg1 hg2 hg3 hg4 hg5 hg6 hJ  0 _ rk_0 hF)
  · have hF := hF.2 z1
    refine j_iconst hJ dX12_workFold_402 ?_
    refine j_goto hJ 407 dX12_workFold_403 (by decide) ?_
    exact j_sub hJ [] rfl (k_X12_workFold_b407 hin  hg0 hg1 hg2 hg3 hg4 hg5 hg6 hJ  1 _ rk_1 hF)
set_option maxHeartbeats 4000000 in
set_option maxRecDepth 100000 in
theorem k_X12_workFold_b385 {l : Launch} {D : va_G} {cy : Nat → ClassId} {ad : Nat → Nat} {dp : Nat} {Q : Int → MM → Prop} {J : Nat → List (Nat × Value) → List Value → MM → Prop} (hin : jIn ad ksR.length)   (hg0 : jCN l D vwCl (tyR cy) cy ad ftR ksR (XtR ad) yX12_work (.code yX12_work cX12_work 3 none :: Om) (rm_gw_ dp) 0 (W_X12_work dp ad)) (hg1 : jCN l D vwCl (tyR cy) cy ad ftR ksR (XtR ad) yX12_workOne (.code yX12_workOne cX12_workOne 5 none :: Om) (rm_gw_ dp) 0 (W_X12_workOne dp ad)) (hg2 : jCN l D vwCl (tyR cy) cy ad ftR ksR (XtR ad) yX12_workPart (.code yX12_workPart cX12_workPart 4 none :: Om) (rm_gw_ dp) 0 (W_X12_workPart dp ad)) (hg3 : jCN l D vwCl (tyR cy) cy ad ftR ksR (XtR ad) yX12_workBoth (.code yX12_workBoth cX12_workBoth 3 none :: Om) (rm_gw_ dp) 0 (W_X12_workBoth dp ad)) (hg4 : jCN l D vwCl (tyR cy) cy ad ftR ksR (XtR ad) yX12_workTwo (.code yX12_workTwo cX12_workTwo 10 none :: Om) (rm_gw_ dp) 0 (W_X12_workTwo dp ad)) (hg5 : jCN l D vwCl (tyR cy) cy ad ftR ksR (XtR ad) yX12_workSet (.code yX12_workSet cX12_workSet 7 none :: Om) (rm_gw_ dp) 0 (W_X12_workSet dp ad)) (hg6 : jCN l D vwCl (tyR cy) cy ad ftR ksR (XtR ad) yX12_workFold (.code yX12_workFold cX12_workFold 10 none :: Om) (rm_gw_ dp) 0 (W_X12_workFold dp ad)) (hJ : jOk l D vwCl (tyR cy) cy ad ftR ksR (XtR ad) Om RX12 cX12_workFold 10 0 (rm_gw_ (dp + 1)) Q J)  : ∀ (x2 x7 : Int) (M : MM), ri_ x2 → ri_ x7 → w_X12_workFold_b385  (gw_  dp) Q  x2 x7 M → J 385 [(0, .ref (ad 0)), (2, .int (Ii x2)), (7, .int (Ii x7))] [] M := by
  intro x2 x7 M gx2 gx7 hF
  unfold w_X12_workFold_b385 at hF
  refine j_aload_n hJ dX12_workFold_385 rfl 0 rfl ?_
  refine j_iload hJ dX12_workFold_386 2 rfl ?_
  refine j_iload_n hJ dX12_workFold_388 rfl 1 rfl ?_
  refine j_bipush hJ dX12_workFold_389 (by decide) ?_
  refine j_icmp_ne hJ 398 gx2 rk_17 dX12_workFold_391 (by decide) (fun z1 => ?_) (fun z1 => ?_)
  · have hF := hF.1 z1
    refine j_iconst hJ dX12_workFold_398 ?_
    exact j_sub hJ [] rfl (k_X12_workFold_b399 hin  hg0 hg1 hg2 hg3 hg4 hg5 hg6 hJ  0 x7 _ rk_0 gx7 hF)
  · have hF := hF.2 z1
    refine j_iconst hJ dX12_workFold_394 ?_
    refine j_goto hJ 399 dX12_workFold_395 (by decide) ?_
    exact j_sub hJ [] rfl (k_X12_workFold_b399 hin  hg0 hg1 hg2 hg3 hg4 hg5 hg6 hJ  1 x7 _ rk_1 gx7 hF)
set_option maxHeartbeats 4000000 in
set_option maxRecDepth 100000 in
theorem k_X12_workFold_b373 {l : Launch} {D : va_G} {cy : Nat → ClassId} {ad : Nat → Nat} {dp : Nat} {Q : Int → MM → Prop} {J : Nat → List (Nat × Value) → List Value → MM → Prop} (hin : jIn ad ksR.length)   (hg0 : jCN l D vwCl (tyR cy) cy ad ftR ksR (XtR ad) yX12_work (.code yX12_work cX12_work 3 none :: Om) (rm_gw_ dp) 0 (W_X12_work dp ad)) (hg1 : jCN l D vwCl (tyR cy) cy ad ftR ksR (XtR ad) yX12_workOne (.code yX12_workOne cX12_workOne 5 none :: Om) (rm_gw_ dp) 0 (W_X12_workOne dp ad)) (hg2 : jCN l D vwCl (tyR cy) cy ad ftR ksR (XtR ad) yX12_workPart (.code yX12_workPart cX12_workPart 4 none :: Om) (rm_gw_ dp) 0 (W_X12_workPart dp ad)) (hg3 : jCN l D vwCl (tyR cy) cy ad ftR ksR (XtR ad) yX12_workBoth (.code yX12_workBoth cX12_workBoth 3 none :: Om) (rm_gw_ dp) 0 (W_X12_workBoth dp ad)) (hg4 : jCN l D vwCl (tyR cy) cy ad ftR ksR (XtR ad) yX12_workTwo (.code yX12_workTwo cX12_workTwo 10 none :: Om) (rm_gw_ dp) 0 (W_X12_workTwo dp ad)) (hg5 : jCN l D vwCl (tyR cy) cy ad ftR ksR (XtR ad) yX12_workSet (.code yX12_workSet cX12_workSet 7 none :: Om) (rm_gw_ dp) 0 (W_X12_workSet dp ad)) (hg6 : jCN l D vwCl (tyR cy) cy ad ftR ksR (XtR ad) yX12_workFold (.code yX12_workFold cX12_workFold 10 none :: Om) (rm_gw_ dp) 0 (W_X12_workFold dp ad)) (hJ : jOk l D vwCl (tyR cy) cy ad ftR ksR (XtR ad) Om RX12 cX12_workFold 10 0 (rm_gw_ (dp + 1)) Q J)  : ∀ (x2 x4 x7 : Int) (M : MM), ri_ x2 → rl_ x4 → ri_ x7 → w_X12_workFold_b373  (gw_  dp) Q  x2 x4 x7 M → J 373 [(0, .ref (ad 0)), (2, .int (Ii x2)), (4, .long (Ll x4)), (7, .int (Ii x7))] [] M := by
  intro x2 x4 x7 M gx2 gx4 gx7 hF
  unfold w_X12_workFold_b373 at hF
  refine j_iload_n hJ dX12_workFold_373 rfl 1 rfl ?_
  refine j_bipush hJ dX12_workFold_374 (by decide) ?_
  refine j_icmp_eq hJ 385 gx2 rk_17 dX12_workFold_376 (by decide) (fun z1 => ?_) (fun z1 => ?_)
  · have hF := hF.1 z1
    exact j_sub hJ [0, 1, 3] rfl (k_X12_workFold_b385 hin  hg0 hg1 hg2 hg3 hg4 hg5 hg6 hJ  x2 x7 _ gx2 gx7 hF)
  · have hF := hF.2 z1
    refine j_iload_n hJ dX12_workFold_379 rfl 1 rfl ?_
    refine j_bipush hJ dX12_workFold_380 (by decide) ?_
    refine j_icmp_ne hJ 413 gx2 rk_18 dX12_workFold_382 (by decide) (fun z2 => ?_) (fun z2 => ?_)
    · have hF := hF.1 z2
      refine j_aload_n hJ dX12_workFold_413 rfl 0 rfl ?_
      refine j_iconst hJ dX12_workFold_414 ?_
      refine j_lload hJ dX12_workFold_415 2 rfl ?_
      refine j_callVv hJ (c_X12_give (l := l) (D := D) (cy := cy) (ad := ad) hin) rfl om_1217 ⟨rfl, rfl, by show _ ≤ _; simp only [rm_gw_]; omega, by show _ ≤ _; simp only [rm_gw_]; omega⟩ [.int (Ii 0), .long (Ll x4)] mv_X12_791 hd_X12_givev kR_0 rfl rfl rfl (Nat.le_of_ble_eq_true rfl) dX12_workFold_417 ⟨0, x4, rfl, rk_0, gx4, hF⟩ (fun M4 qM4 => ?_)
      have hF := qM4
      exact j_vret hJ rfl dX12_workFold_420 hF
    · have hF := hF.2 z2
      exact j_sub hJ [0, 1, 3] rfl (k_X12_workFold_b385 hin  hg0 hg1 hg2 hg3 hg4 hg5 hg6 hJ  x2 x7 _ gx2 gx7 hF)
set_option maxHeartbeats 4000000 in
set_option maxRecDepth 100000 in
theorem k_X12_workFold_b361 {l : Launch} {D : va_G} {cy : Nat → ClassId} {ad : Nat → Nat} {dp : Nat} {Q : Int → MM → Prop} {J : Nat → List (Nat × Value) → List Value → MM → Prop} (hin : jIn ad ksR.length)   (hg0 : jCN l D vwCl (tyR cy) cy ad ftR ksR (XtR ad) yX12_work (.code yX12_work cX12_work 3 none :: Om) (rm_gw_ dp) 0 (W_X12_work dp ad)) (hg1 : jCN l D vwCl (tyR cy) cy ad ftR ksR (XtR ad) yX12_workOne (.code yX12_workOne cX12_workOne 5 none :: Om) (rm_gw_ dp) 0 (W_X12_workOne dp ad)) (hg2 : jCN l D vwCl (tyR cy) cy ad ftR ksR (XtR ad) yX12_workPart (.code yX12_workPart cX12_workPart 4 none :: Om) (rm_gw_ dp) 0 (W_X12_workPart dp ad)) (hg3 : jCN l D vwCl (tyR cy) cy ad ftR ksR (XtR ad) yX12_workBoth (.code yX12_workBoth cX12_workBoth 3 none :: Om) (rm_gw_ dp) 0 (W_X12_workBoth dp ad)) (hg4 : jCN l D vwCl (tyR cy) cy ad ftR ksR (XtR ad) yX12_workTwo (.code yX12_workTwo cX12_workTwo 10 none :: Om) (rm_gw_ dp) 0 (W_X12_workTwo dp ad)) (hg5 : jCN l D vwCl (tyR cy) cy ad ftR ksR (XtR ad) yX12_workSet (.code yX12_workSet cX12_workSet 7 none :: Om) (rm_gw_ dp) 0 (W_X12_workSet dp ad)) (hg6 : jCN l D vwCl (tyR cy) cy ad ftR ksR (XtR ad) yX12_workFold (.code yX12_workFold cX12_workFold 10 none :: Om) (rm_gw_ dp) 0 (W_X12_workFold dp ad)) (hJ : jOk l D vwCl (tyR cy) cy ad ftR ksR (XtR ad) Om RX12 cX12_workFold 10 0 (rm_gw_ (dp + 1)) Q J)  : ∀ (x2 x4 x6 x7 : Int) (M : MM), ri_ x2 → rl_ x4 → ri_ x6 → ri_ x7 → w_X12_workFold_b361  (gw_  dp) Q  x2 x4 x6 x7 M → J 361 [(0, .ref (ad 0)), (2, .int (Ii x2)), (4, .long (Ll x4)), (6, .int (Ii x6)), (7, .int (Ii x7))] [] M := by
  intro x2 x4 x6 x7 M gx2 gx4 gx6 gx7 hF
  unfold w_X12_workFold_b361 at hF
  refine j_iload hJ dX12_workFold_361 3 rfl ?_
  refine j_if_ne hJ 373 gx6 dX12_workFold_363 (by decide) (fun z1 => ?_) (fun z1 => ?_)
  · have hF := hF.1 z1
    exact j_sub hJ [0, 1, 2, 4] rfl (k_X12_workFold_b373 hin  hg0 hg1 hg2 hg3 hg4 hg5 hg6 hJ  x2 x4 x7 _ gx2 gx4 gx7 hF)
  · have hF := hF.2 z1
    exact j_sub hJ [0] rfl (k_X12_workFold_b366 hin  hg0 hg1 hg2 hg3 hg4 hg5 hg6 hJ   _  hF)
set_option maxHeartbeats 4000000 in
set_option maxRecDepth 100000 in
theorem k_X12_workFold_b332 {l : Launch} {D : va_G} {cy : Nat → ClassId} {ad : Nat → Nat} {dp : Nat} {Q : Int → MM → Prop} {J : Nat → List (Nat × Value) → List Value → MM → Prop} (hin : jIn ad ksR.length)   (hg0 : jCN l D vwCl (tyR cy) cy ad ftR ksR (XtR ad) yX12_work (.code yX12_work cX12_work 3 none :: Om) (rm_gw_ dp) 0 (W_X12_work dp ad)) (hg1 : jCN l D vwCl (tyR cy) cy ad ftR ksR (XtR ad) yX12_workOne (.code yX12_workOne cX12_workOne 5 none :: Om) (rm_gw_ dp) 0 (W_X12_workOne dp ad)) (hg2 : jCN l D vwCl (tyR cy) cy ad ftR ksR (XtR ad) yX12_workPart (.code yX12_workPart cX12_workPart 4 none :: Om) (rm_gw_ dp) 0 (W_X12_workPart dp ad)) (hg3 : jCN l D vwCl (tyR cy) cy ad ftR ksR (XtR ad) yX12_workBoth (.code yX12_workBoth cX12_workBoth 3 none :: Om) (rm_gw_ dp) 0 (W_X12_workBoth dp ad)) (hg4 : jCN l D vwCl (tyR cy) cy ad ftR ksR (XtR ad) yX12_workTwo (.code yX12_workTwo cX12_workTwo 10 none :: Om) (rm_gw_ dp) 0 (W_X12_workTwo dp ad)) (hg5 : jCN l D vwCl (tyR cy) cy ad ftR ksR (XtR ad) yX12_workSet (.code yX12_workSet cX12_workSet 7 none :: Om) (rm_gw_ dp) 0 (W_X12_workSet dp ad)) (hg6 : jCN l D vwCl (tyR cy) cy ad ftR ksR (XtR ad) yX12_workFold (.code yX12_workFold cX12_workFold 10 none :: Om) (rm_gw_ dp) 0 (W_X12_workFold dp ad)) (hJ : jOk l D vwCl (tyR cy) cy ad ftR ksR (XtR ad) Om RX12 cX12_workFold 10 0 (rm_gw_ (dp + 1)) Q J)  : ∀ (x2 x4 x6 x7 : Int) (M : MM), ri_ x2 → rl_ x4 → ri_ x6 → ri_ x7 → w_X12_workFold_b332  (gw_  dp) Q  x2 x4 x6 x7 M → J 332 [(0, .ref (ad 0)), (2, .int (Ii x2)), (4, .long (Ll x4)), (6, .int (Ii x6)), (7, .int (Ii x7))] [] M := by
  intro x2 x4 x6 x7 M gx2 gx4 gx6 gx7 hF
  unfold w_X12_workFold_b332 at hF
  refine j_aload_n hJ dX12_workFold_332 rfl 0 rfl ?_
  refine j_dup hJ dX12_workFold_333 rfl ?_
  refine j_gi hJ kR_0 fR_15_101 rfl fl_X12_846 dX12_workFold_334 (fun v1 ev1 gv1 => ?_)
  have hF := hF v1 ev1 gv1
  refine j_iconst hJ dX12_workFold_337 ?_
  refine j_isub hJ dX12_workFold_338 ?_
  have g2 := hF.1; have hF := hF.2
  refine j_pi hJ g2 kR_0 fR_15_101 rfl fp_X12_846 dX12_workFold_339 (fun M3 eM3 => ?_)
  have hF := hF M3 eM3
  refine j_aload_n hJ dX12_workFold_342 rfl 0 rfl ?_
  refine j_gz hJ kR_0 fR_15_103 rfl fl_X12_782 dX12_workFold_343 (fun v4 ev4 gv4 => ?_)
  have hF := hF v4 ev4 gv4
  refine j_if_ne hJ 366 (jz_ri gv4) dX12_workFold_346 (by decide) (fun z5 => ?_) (fun z5 => ?_)
  · have hF := hF.1 z5
    exact j_sub hJ [0] rfl (k_X12_workFold_b366 hin  hg0 hg1 hg2 hg3 hg4 hg5 hg6 hJ   _  hF)
  · have hF := hF.2 z5
    refine j_iload_n hJ dX12_workFold_349 rfl 1 rfl ?_
    refine j_bipush hJ dX12_workFold_350 (by decide) ?_
    refine j_icmp_eq hJ 361 gx2 rk_15 dX12_workFold_352 (by decide) (fun z6 => ?_) (fun z6 => ?_)
    · have hF := hF.1 z6
      exact j_sub hJ [0, 1, 2, 3, 4] rfl (k_X12_workFold_b361 hin  hg0 hg1 hg2 hg3 hg4 hg5 hg6 hJ  x2 x4 x6 x7 _ gx2 gx4 gx6 gx7 hF)
    · have hF := hF.2 z6
      refine j_iload_n hJ dX12_workFold_355 rfl 1 rfl ?_
      refine j_bipush hJ dX12_workFold_356 (by decide) ?_
      refine j_icmp_ne hJ 373 gx2 rk_16 dX12_workFold_358 (by decide) (fun z7 => ?_) (fun z7 => ?_)
      · have hF := hF.1 z7
        exact j_sub hJ [0, 1, 2, 4] rfl (k_X12_workFold_b373 hin  hg0 hg1 hg2 hg3 hg4 hg5 hg6 hJ  x2 x4 x7 _ gx2 gx4 gx7 hF)
      · have hF := hF.2 z7
        exact j_sub hJ [0, 1, 2, 3, 4] rfl (k_X12_workFold_b361 hin  hg0 hg1 hg2 hg3 hg4 hg5 hg6 hJ  x2 x4 x6 x7 _ gx2 gx4 gx6 gx7 hF)
set_option maxHeartbeats 4000000 in
set_option maxRecDepth 100000 in
theorem k_X12_workFold_b326 {l : Launch} {D : va_G} {cy : Nat → ClassId} {ad : Nat → Nat} {dp : Nat} {Q : Int → MM → Prop} {J : Nat → List (Nat × Value) → List Value → MM → Prop} (hin : jIn ad ksR.length)   (hg0 : jCN l D vwCl (tyR cy) cy ad ftR ksR (XtR ad) yX12_work (.code yX12_work cX12_work 3 none :: Om) (rm_gw_ dp) 0 (W_X12_work dp ad)) (hg1 : jCN l D vwCl (tyR cy) cy ad ftR ksR (XtR ad) yX12_workOne (.code yX12_workOne cX12_workOne 5 none :: Om) (rm_gw_ dp) 0 (W_X12_workOne dp ad)) (hg2 : jCN l D vwCl (tyR cy) cy ad ftR ksR (XtR ad) yX12_workPart (.code yX12_workPart cX12_workPart 4 none :: Om) (rm_gw_ dp) 0 (W_X12_workPart dp ad)) (hg3 : jCN l D vwCl (tyR cy) cy ad ftR ksR (XtR ad) yX12_workBoth (.code yX12_workBoth cX12_workBoth 3 none :: Om) (rm_gw_ dp) 0 (W_X12_workBoth dp ad)) (hg4 : jCN l D vwCl (tyR cy) cy ad ftR ksR (XtR ad) yX12_workTwo (.code yX12_workTwo cX12_workTwo 10 none :: Om) (rm_gw_ dp) 0 (W_X12_workTwo dp ad)) (hg5 : jCN l D vwCl (tyR cy) cy ad ftR ksR (XtR ad) yX12_workSet (.code yX12_workSet cX12_workSet 7 none :: Om) (rm_gw_ dp) 0 (W_X12_workSet dp ad)) (hg6 : jCN l D vwCl (tyR cy) cy ad ftR ksR (XtR ad) yX12_workFold (.code yX12_workFold cX12_workFold 10 none :: Om) (rm_gw_ dp) 0 (W_X12_workFold dp ad)) (hJ : jOk l D vwCl (tyR cy) cy ad ftR ksR (XtR ad) Om RX12 cX12_workFold 10 0 (rm_gw_ (dp + 1)) Q J) {K45 : Int → Int → Int → Int → Int → Int → Int → MM → Prop} (hK45 : ∀ (x1 x2 x3 x4 x6 x7 x8 : Int) (M : MM), ri_ x1 → ri_ x2 → ri_ x3 → rl_ x4 → ri_ x6 → ri_ x7 → ri_ x8 → K45 x1 x2 x3 x4 x6 x7 x8 M → J 45 [(0, .ref (ad 0)), (1, .int (Ii x1)), (2, .int (Ii x2)), (3, .int (Ii x3)), (4, .long (Ll x4)), (6, .int (Ii x6)), (7, .int (Ii x7)), (8, .int (Ii x8))] [] M) : ∀ (x1 x2 x3 x4 x6 x7 x8 : Int) (M : MM), ri_ x1 → ri_ x2 → ri_ x3 → rl_ x4 → ri_ x6 → ri_ x7 → ri_ x8 → w_X12_workFold_b326  (gw_  dp) Q K45 x1 x2 x3 x4 x6 x7 x8 M → J 326 [(0, .ref (ad 0)), (1, .int (Ii x1)), (2, .int (Ii x2)), (3, .int (Ii x3)), (4, .long (Ll x4)), (6, .int (Ii x6)), (7, .int (Ii x7)), (8, .int (Ii x8))] [] M := by
  intro x1 x2 x3 x4 x6 x7 x8 M gx1 gx2 gx3 gx4 gx6 gx7 gx8 hF
  unfold w_X12_workFold_b326 at hF
  refine j_iinc (lv' := [(8, .int (Ii (x8 + 1))), (0, .ref (ad 0)), (1, .int (Ii x1)), (2, .int (Ii x2)), (3, .int (Ii x3)), (4, .long (Ll x4)), (6, .int (Ii x6)), (7, .int (Ii x7))]) (k := 7) hJ dX12_workFold_326 rfl (by decide) rfl ?_
  have g1 := hF.1; have hF := hF.2
  refine j_goto hJ 45 dX12_workFold_329 (by decide) ?_
  exact j_sub hJ [1, 2, 3, 4, 5, 6, 7, 0] rfl (hK45 x1 x2 x3 x4 x6 x7 (x8 + 1) _ gx1 gx2 gx3 gx4 gx6 gx7 g1 hF)
set_option maxHeartbeats 4000000 in
set_option maxRecDepth 100000 in
theorem k_X12_workFold_b250 {l : Launch} {D : va_G} {cy : Nat → ClassId} {ad : Nat → Nat} {dp : Nat} {Q : Int → MM → Prop} {J : Nat → List (Nat × Value) → List Value → MM → Prop} (hin : jIn ad ksR.length)   (hg0 : jCN l D vwCl (tyR cy) cy ad ftR ksR (XtR ad) yX12_work (.code yX12_work cX12_work 3 none :: Om) (rm_gw_ dp) 0 (W_X12_work dp ad)) (hg1 : jCN l D vwCl (tyR cy) cy ad ftR ksR (XtR ad) yX12_workOne (.code yX12_workOne cX12_workOne 5 none :: Om) (rm_gw_ dp) 0 (W_X12_workOne dp ad)) (hg2 : jCN l D vwCl (tyR cy) cy ad ftR ksR (XtR ad) yX12_workPart (.code yX12_workPart cX12_workPart 4 none :: Om) (rm_gw_ dp) 0 (W_X12_workPart dp ad)) (hg3 : jCN l D vwCl (tyR cy) cy ad ftR ksR (XtR ad) yX12_workBoth (.code yX12_workBoth cX12_workBoth 3 none :: Om) (rm_gw_ dp) 0 (W_X12_workBoth dp ad)) (hg4 : jCN l D vwCl (tyR cy) cy ad ftR ksR (XtR ad) yX12_workTwo (.code yX12_workTwo cX12_workTwo 10 none :: Om) (rm_gw_ dp) 0 (W_X12_workTwo dp ad)) (hg5 : jCN l D vwCl (tyR cy) cy ad ftR ksR (XtR ad) yX12_workSet (.code yX12_workSet cX12_workSet 7 none :: Om) (rm_gw_ dp) 0 (W_X12_workSet dp ad)) (hg6 : jCN l D vwCl (tyR cy) cy ad ftR ksR (XtR ad) yX12_workFold (.code yX12_workFold cX12_workFold 10 none :: Om) (rm_gw_ dp) 0 (W_X12_workFold dp ad)) (hJ : jOk l D vwCl (tyR cy) cy ad ftR ksR (XtR ad) Om RX12 cX12_workFold 10 0 (rm_gw_ (dp + 1)) Q J) {K45 : Int → Int → Int → Int → Int → Int → Int → MM → Prop} (hK45 : ∀ (x1 x2 x3 x4 x6 x7 x8 : Int) (M : MM), ri_ x1 → ri_ x2 → ri_ x3 → rl_ x4 → ri_ x6 → ri_ x7 → ri_ x8 → K45 x1 x2 x3 x4 x6 x7 x8 M → J 45 [(0, .ref (ad 0)), (1, .int (Ii x1)), (2, .int (Ii x2)), (3, .int (Ii x3)), (4, .long (Ll x4)), (6, .int (Ii x6)), (7, .int (Ii x7)), (8, .int (Ii x8))] [] M) : ∀ (x1 x2 x3 x4 x6 x8 s0 : Int) (M : MM), ri_ x1 → ri_ x2 → ri_ x3 → rl_ x4 → ri_ x6 → ri_ x8 → ri_ s0 → w_X12_workFold_b250  (gw_  dp) Q K45 x1 x2 x3 x4 x6 x8 s0 M → J 250 [(0, .ref (ad 0)), (1, .int (Ii x1)), (2, .int (Ii x2)), (3, .int (Ii x3)), (4, .long (Ll x4)), (6, .int (Ii x6)), (8, .int (Ii x8))] [.int (Ii s0)] M := by
  intro x1 x2 x3 x4 x6 x8 s0 M gx1 gx2 gx3 gx4 gx6 gx8 gs0 hF
  unfold w_X12_workFold_b250 at hF
  refine j_istore (lv' := [(7, .int (Ii s0)), (0, .ref (ad 0)), (1, .int (Ii x1)), (2, .int (Ii x2)), (3, .int (Ii x3)), (4, .long (Ll x4)), (6, .int (Ii x6)), (8, .int (Ii x8))]) hJ dX12_workFold_250 (by decide) rfl ?_
  refine j_goto hJ 326 dX12_workFold_252 (by decide) ?_
  exact j_sub hJ [1, 2, 3, 4, 5, 6, 0, 7] rfl (k_X12_workFold_b326 hin  hg0 hg1 hg2 hg3 hg4 hg5 hg6 hJ hK45 x1 x2 x3 x4 x6 s0 x8 _ gx1 gx2 gx3 gx4 gx6 gs0 gx8 hF)
set_option maxHeartbeats 4000000 in
set_option maxRecDepth 100000 in
theorem k_X12_workFold_b242 {l : Launch} {D : va_G} {cy : Nat → ClassId} {ad : Nat → Nat} {dp : Nat} {Q : Int → MM → Prop} {J : Nat → List (Nat × Value) → List Value → MM → Prop} (hin : jIn ad ksR.length)   (hg0 : jCN l D vwCl (tyR cy) cy ad ftR ksR (XtR ad) yX12_work (.code yX12_work cX12_work 3 none :: Om) (rm_gw_ dp) 0 (W_X12_work dp ad)) (hg1 : jCN l D vwCl (tyR cy) cy ad ftR ksR (XtR ad) yX12_workOne (.code yX12_workOne cX12_workOne 5 none :: Om) (rm_gw_ dp) 0 (W_X12_workOne dp ad)) (hg2 : jCN l D vwCl (tyR cy) cy ad ftR ksR (XtR ad) yX12_workPart (.code yX12_workPart cX12_workPart 4 none :: Om) (rm_gw_ dp) 0 (W_X12_workPart dp ad)) (hg3 : jCN l D vwCl (tyR cy) cy ad ftR ksR (XtR ad) yX12_workBoth (.code yX12_workBoth cX12_workBoth 3 none :: Om) (rm_gw_ dp) 0 (W_X12_workBoth dp ad)) (hg4 : jCN l D vwCl (tyR cy) cy ad ftR ksR (XtR ad) yX12_workTwo (.code yX12_workTwo cX12_workTwo 10 none :: Om) (rm_gw_ dp) 0 (W_X12_workTwo dp ad)) (hg5 : jCN l D vwCl (tyR cy) cy ad ftR ksR (XtR ad) yX12_workSet (.code yX12_workSet cX12_workSet 7 none :: Om) (rm_gw_ dp) 0 (W_X12_workSet dp ad)) (hg6 : jCN l D vwCl (tyR cy) cy ad ftR ksR (XtR ad) yX12_workFold (.code yX12_workFold cX12_workFold 10 none :: Om) (rm_gw_ dp) 0 (W_X12_workFold dp ad)) (hJ : jOk l D vwCl (tyR cy) cy ad ftR ksR (XtR ad) Om RX12 cX12_workFold 10 0 (rm_gw_ (dp + 1)) Q J) {K45 : Int → Int → Int → Int → Int → Int → Int → MM → Prop} (hK45 : ∀ (x1 x2 x3 x4 x6 x7 x8 : Int) (M : MM), ri_ x1 → ri_ x2 → ri_ x3 → rl_ x4 → ri_ x6 → ri_ x7 → ri_ x8 → K45 x1 x2 x3 x4 x6 x7 x8 M → J 45 [(0, .ref (ad 0)), (1, .int (Ii x1)), (2, .int (Ii x2)), (3, .int (Ii x3)), (4, .long (Ll x4)), (6, .int (Ii x6)), (7, .int (Ii x7)), (8, .int (Ii x8))] [] M) : ∀ (x1 x2 x3 x4 x6 x8 s0 s1 : Int) (M : MM), ri_ x1 → ri_ x2 → ri_ x3 → rl_ x4 → ri_ x6 → ri_ x8 → ri_ s0 → ri_ s1 → w_X12_workFold_b242  (gw_  dp) Q K45 x1 x2 x3 x4 x6 x8 s0 s1 M → J 242 [(0, .ref (ad 0)), (1, .int (Ii x1)), (2, .int (Ii x2)), (3, .int (Ii x3)), (4, .long (Ll x4)), (6, .int (Ii x6)), (8, .int (Ii x8))] [.int (Ii s0), .int (Ii s1)] M := by
  intro x1 x2 x3 x4 x6 x8 s0 s1 M gx1 gx2 gx3 gx4 gx6 gx8 gs0 gs1 hF
  unfold w_X12_workFold_b242 at hF
  refine j_icmp_ne hJ 249 gs1 gs0 dX12_workFold_242 (by decide) (fun z1 => ?_) (fun z1 => ?_)
  · have hF := hF.1 z1
    refine j_iconst hJ dX12_workFold_249 ?_
    exact j_sub hJ [0, 1, 2, 3, 4, 5, 6] rfl (k_X12_workFold_b250 hin  hg0 hg1 hg2 hg3 hg4 hg5 hg6 hJ hK45 x1 x2 x3 x4 x6 x8 0 _ gx1 gx2 gx3 gx4 gx6 gx8 rk_0 hF)
  · have hF := hF.2 z1
    refine j_iconst hJ dX12_workFold_245 ?_
    refine j_goto hJ 250 dX12_workFold_246 (by decide) ?_
    exact j_sub hJ [0, 1, 2, 3, 4, 5, 6] rfl (k_X12_workFold_b250 hin  hg0 hg1 hg2 hg3 hg4 hg5 hg6 hJ hK45 x1 x2 x3 x4 x6 x8 1 _ gx1 gx2 gx3 gx4 gx6 gx8 rk_1 hF)
set_option maxHeartbeats 4000000 in
set_option maxRecDepth 100000 in
theorem k_X12_workFold_b229 {l : Launch} {D : va_G} {cy : Nat → ClassId} {ad : Nat → Nat} {dp : Nat} {Q : Int → MM → Prop} {J : Nat → List (Nat × Value) → List Value → MM → Prop} (hin : jIn ad ksR.length)   (hg0 : jCN l D vwCl (tyR cy) cy ad ftR ksR (XtR ad) yX12_work (.code yX12_work cX12_work 3 none :: Om) (rm_gw_ dp) 0 (W_X12_work dp ad)) (hg1 : jCN l D vwCl (tyR cy) cy ad ftR ksR (XtR ad) yX12_workOne (.code yX12_workOne cX12_workOne 5 none :: Om) (rm_gw_ dp) 0 (W_X12_workOne dp ad)) (hg2 : jCN l D vwCl (tyR cy) cy ad ftR ksR (XtR ad) yX12_workPart (.code yX12_workPart cX12_workPart 4 none :: Om) (rm_gw_ dp) 0 (W_X12_workPart dp ad)) (hg3 : jCN l D vwCl (tyR cy) cy ad ftR ksR (XtR ad) yX12_workBoth (.code yX12_workBoth cX12_workBoth 3 none :: Om) (rm_gw_ dp) 0 (W_X12_workBoth dp ad)) (hg4 : jCN l D vwCl (tyR cy) cy ad ftR ksR (XtR ad) yX12_workTwo (.code yX12_workTwo cX12_workTwo 10 none :: Om) (rm_gw_ dp) 0 (W_X12_workTwo dp ad)) (hg5 : jCN l D vwCl (tyR cy) cy ad ftR ksR (XtR ad) yX12_workSet (.code yX12_workSet cX12_workSet 7 none :: Om) (rm_gw_ dp) 0 (W_X12_workSet dp ad)) (hg6 : jCN l D vwCl (tyR cy) cy ad ftR ksR (XtR ad) yX12_workFold (.code yX12_workFold cX12_workFold 10 none :: Om) (rm_gw_ dp) 0 (W_X12_workFold dp ad)) (hJ : jOk l D vwCl (tyR cy) cy ad ftR ksR (XtR ad) Om RX12 cX12_workFold 10 0 (rm_gw_ (dp + 1)) Q J) {K45 : Int → Int → Int → Int → Int → Int → Int → MM → Prop} (hK45 : ∀ (x1 x2 x3 x4 x6 x7 x8 : Int) (M : MM), ri_ x1 → ri_ x2 → ri_ x3 → rl_ x4 → ri_ x6 → ri_ x7 → ri_ x8 → K45 x1 x2 x3 x4 x6 x7 x8 M → J 45 [(0, .ref (ad 0)), (1, .int (Ii x1)), (2, .int (Ii x2)), (3, .int (Ii x3)), (4, .long (Ll x4)), (6, .int (Ii x6)), (7, .int (Ii x7)), (8, .int (Ii x8))] [] M) : ∀ (x1 x2 x3 x4 x6 x8 x9 : Int) (M : MM), ri_ x1 → ri_ x2 → ri_ x3 → rl_ x4 → ri_ x6 → ri_ x8 → ri_ x9 → w_X12_workFold_b229  (gw_  dp) Q K45 x1 x2 x3 x4 x6 x8 x9 M → J 229 [(0, .ref (ad 0)), (1, .int (Ii x1)), (2, .int (Ii x2)), (3, .int (Ii x3)), (4, .long (Ll x4)), (6, .int (Ii x6)), (8, .int (Ii x8)), (9, .int (Ii x9))] [] M := by
  intro x1 x2 x3 x4 x6 x8 x9 M gx1 gx2 gx3 gx4 gx6 gx8 gx9 hF
  unfold w_X12_workFold_b229 at hF
  refine j_iload hJ dX12_workFold_229 7 rfl ?_
  refine j_iload_n hJ dX12_workFold_231 rfl 2 rfl ?_
  refine j_bipush hJ dX12_workFold_232 (by decide) ?_
  refine j_icmp_ne hJ 241 gx2 rk_17 dX12_workFold_234 (by decide) (fun z1 => ?_) (fun z1 => ?_)
  · have hF := hF.1 z1
    refine j_iconst hJ dX12_workFold_241 ?_
    exact j_sub hJ [0, 1, 2, 3, 4, 5, 6] rfl (k_X12_workFold_b242 hin  hg0 hg1 hg2 hg3 hg4 hg5 hg6 hJ hK45 x1 x2 x3 x4 x6 x8 0 x9 _ gx1 gx2 gx3 gx4 gx6 gx8 rk_0 gx9 hF)
  · have hF := hF.2 z1
    refine j_iconst hJ dX12_workFold_237 ?_
    refine j_goto hJ 242 dX12_workFold_238 (by decide) ?_
    exact j_sub hJ [0, 1, 2, 3, 4, 5, 6] rfl (k_X12_workFold_b242 hin  hg0 hg1 hg2 hg3 hg4 hg5 hg6 hJ hK45 x1 x2 x3 x4 x6 x8 1 x9 _ gx1 gx2 gx3 gx4 gx6 gx8 rk_1 gx9 hF)
set_option maxHeartbeats 4000000 in
set_option maxRecDepth 100000 in
theorem k_X12_workFold_b321 {l : Launch} {D : va_G} {cy : Nat → ClassId} {ad : Nat → Nat} {dp : Nat} {Q : Int → MM → Prop} {J : Nat → List (Nat × Value) → List Value → MM → Prop} (hin : jIn ad ksR.length)   (hg0 : jCN l D vwCl (tyR cy) cy ad ftR ksR (XtR ad) yX12_work (.code yX12_work cX12_work 3 none :: Om) (rm_gw_ dp) 0 (W_X12_work dp ad)) (hg1 : jCN l D vwCl (tyR cy) cy ad ftR ksR (XtR ad) yX12_workOne (.code yX12_workOne cX12_workOne 5 none :: Om) (rm_gw_ dp) 0 (W_X12_workOne dp ad)) (hg2 : jCN l D vwCl (tyR cy) cy ad ftR ksR (XtR ad) yX12_workPart (.code yX12_workPart cX12_workPart 4 none :: Om) (rm_gw_ dp) 0 (W_X12_workPart dp ad)) (hg3 : jCN l D vwCl (tyR cy) cy ad ftR ksR (XtR ad) yX12_workBoth (.code yX12_workBoth cX12_workBoth 3 none :: Om) (rm_gw_ dp) 0 (W_X12_workBoth dp ad)) (hg4 : jCN l D vwCl (tyR cy) cy ad ftR ksR (XtR ad) yX12_workTwo (.code yX12_workTwo cX12_workTwo 10 none :: Om) (rm_gw_ dp) 0 (W_X12_workTwo dp ad)) (hg5 : jCN l D vwCl (tyR cy) cy ad ftR ksR (XtR ad) yX12_workSet (.code yX12_workSet cX12_workSet 7 none :: Om) (rm_gw_ dp) 0 (W_X12_workSet dp ad)) (hg6 : jCN l D vwCl (tyR cy) cy ad ftR ksR (XtR ad) yX12_workFold (.code yX12_workFold cX12_workFold 10 none :: Om) (rm_gw_ dp) 0 (W_X12_workFold dp ad)) (hJ : jOk l D vwCl (tyR cy) cy ad ftR ksR (XtR ad) Om RX12 cX12_workFold 10 0 (rm_gw_ (dp + 1)) Q J) {K45 : Int → Int → Int → Int → Int → Int → Int → MM → Prop} (hK45 : ∀ (x1 x2 x3 x4 x6 x7 x8 : Int) (M : MM), ri_ x1 → ri_ x2 → ri_ x3 → rl_ x4 → ri_ x6 → ri_ x7 → ri_ x8 → K45 x1 x2 x3 x4 x6 x7 x8 M → J 45 [(0, .ref (ad 0)), (1, .int (Ii x1)), (2, .int (Ii x2)), (3, .int (Ii x3)), (4, .long (Ll x4)), (6, .int (Ii x6)), (7, .int (Ii x7)), (8, .int (Ii x8))] [] M) : ∀ (x1 x2 x3 x7 x8 s0 : Int) (M : MM), ri_ x1 → ri_ x2 → ri_ x3 → ri_ x7 → ri_ x8 → rl_ s0 → w_X12_workFold_b321  (gw_  dp) Q K45 x1 x2 x3 x7 x8 s0 M → J 321 [(0, .ref (ad 0)), (1, .int (Ii x1)), (2, .int (Ii x2)), (3, .int (Ii x3)), (7, .int (Ii x7)), (8, .int (Ii x8))] [.long (Ll s0)] M := by
  intro x1 x2 x3 x7 x8 s0 M gx1 gx2 gx3 gx7 gx8 gs0 hF
  unfold w_X12_workFold_b321 at hF
  refine j_lstore (lv' := [(4, .long (Ll s0)), (0, .ref (ad 0)), (1, .int (Ii x1)), (2, .int (Ii x2)), (3, .int (Ii x3)), (7, .int (Ii x7)), (8, .int (Ii x8))]) hJ dX12_workFold_321 (by decide) rfl ?_
  refine j_iconst hJ dX12_workFold_323 ?_
  refine j_istore (lv' := [(6, .int (Ii 1)), (4, .long (Ll s0)), (0, .ref (ad 0)), (1, .int (Ii x1)), (2, .int (Ii x2)), (3, .int (Ii x3)), (7, .int (Ii x7)), (8, .int (Ii x8))]) hJ dX12_workFold_324 (by decide) rfl ?_
  exact j_sub hJ [2, 3, 4, 5, 1, 0, 6, 7] rfl (k_X12_workFold_b326 hin  hg0 hg1 hg2 hg3 hg4 hg5 hg6 hJ hK45 x1 x2 x3 s0 1 x7 x8 _ gx1 gx2 gx3 gs0 rk_1 gx7 gx8 hF)
set_option maxHeartbeats 4000000 in
set_option maxRecDepth 100000 in
theorem k_X12_workFold_b312 {l : Launch} {D : va_G} {cy : Nat → ClassId} {ad : Nat → Nat} {dp : Nat} {Q : Int → MM → Prop} {J : Nat → List (Nat × Value) → List Value → MM → Prop} (hin : jIn ad ksR.length)   (hg0 : jCN l D vwCl (tyR cy) cy ad ftR ksR (XtR ad) yX12_work (.code yX12_work cX12_work 3 none :: Om) (rm_gw_ dp) 0 (W_X12_work dp ad)) (hg1 : jCN l D vwCl (tyR cy) cy ad ftR ksR (XtR ad) yX12_workOne (.code yX12_workOne cX12_workOne 5 none :: Om) (rm_gw_ dp) 0 (W_X12_workOne dp ad)) (hg2 : jCN l D vwCl (tyR cy) cy ad ftR ksR (XtR ad) yX12_workPart (.code yX12_workPart cX12_workPart 4 none :: Om) (rm_gw_ dp) 0 (W_X12_workPart dp ad)) (hg3 : jCN l D vwCl (tyR cy) cy ad ftR ksR (XtR ad) yX12_workBoth (.code yX12_workBoth cX12_workBoth 3 none :: Om) (rm_gw_ dp) 0 (W_X12_workBoth dp ad)) (hg4 : jCN l D vwCl (tyR cy) cy ad ftR ksR (XtR ad) yX12_workTwo (.code yX12_workTwo cX12_workTwo 10 none :: Om) (rm_gw_ dp) 0 (W_X12_workTwo dp ad)) (hg5 : jCN l D vwCl (tyR cy) cy ad ftR ksR (XtR ad) yX12_workSet (.code yX12_workSet cX12_workSet 7 none :: Om) (rm_gw_ dp) 0 (W_X12_workSet dp ad)) (hg6 : jCN l D vwCl (tyR cy) cy ad ftR ksR (XtR ad) yX12_workFold (.code yX12_workFold cX12_workFold 10 none :: Om) (rm_gw_ dp) 0 (W_X12_workFold dp ad)) (hJ : jOk l D vwCl (tyR cy) cy ad ftR ksR (XtR ad) Om RX12 cX12_workFold 10 0 (rm_gw_ (dp + 1)) Q J) {K45 : Int → Int → Int → Int → Int → Int → Int → MM → Prop} (hK45 : ∀ (x1 x2 x3 x4 x6 x7 x8 : Int) (M : MM), ri_ x1 → ri_ x2 → ri_ x3 → rl_ x4 → ri_ x6 → ri_ x7 → ri_ x8 → K45 x1 x2 x3 x4 x6 x7 x8 M → J 45 [(0, .ref (ad 0)), (1, .int (Ii x1)), (2, .int (Ii x2)), (3, .int (Ii x3)), (4, .long (Ll x4)), (6, .int (Ii x6)), (7, .int (Ii x7)), (8, .int (Ii x8))] [] M) : ∀ (x1 x2 x3 x7 x8 : Int) (M : MM), ri_ x1 → ri_ x2 → ri_ x3 → ri_ x7 → ri_ x8 → w_X12_workFold_b312  (gw_  dp) Q K45 x1 x2 x3 x7 x8 M → J 312 [(0, .ref (ad 0)), (1, .int (Ii x1)), (2, .int (Ii x2)), (3, .int (Ii x3)), (7, .int (Ii x7)), (8, .int (Ii x8))] [] M := by
  intro x1 x2 x3 x7 x8 M gx1 gx2 gx3 gx7 gx8 hF
  unfold w_X12_workFold_b312 at hF
  refine j_aload_n hJ dX12_workFold_312 rfl 0 rfl ?_
  refine j_gl hJ kR_0 fR_15_102 rfl fl_X12_788 dX12_workFold_313 (fun v1 ev1 gv1 => ?_)
  have hF := hF v1 ev1 gv1
  refine j_goto hJ 321 dX12_workFold_316 (by decide) ?_
  exact j_sub hJ [0, 1, 2, 3, 4, 5] rfl (k_X12_workFold_b321 hin  hg0 hg1 hg2 hg3 hg4 hg5 hg6 hJ hK45 x1 x2 x3 x7 x8 v1 _ gx1 gx2 gx3 gx7 gx8 gv1 hF)
set_option maxHeartbeats 4000000 in
set_option maxRecDepth 100000 in
theorem k_X12_workFold_b319 {l : Launch} {D : va_G} {cy : Nat → ClassId} {ad : Nat → Nat} {dp : Nat} {Q : Int → MM → Prop} {J : Nat → List (Nat × Value) → List Value → MM → Prop} (hin : jIn ad ksR.length)   (hg0 : jCN l D vwCl (tyR cy) cy ad ftR ksR (XtR ad) yX12_work (.code yX12_work cX12_work 3 none :: Om) (rm_gw_ dp) 0 (W_X12_work dp ad)) (hg1 : jCN l D vwCl (tyR cy) cy ad ftR ksR (XtR ad) yX12_workOne (.code yX12_workOne cX12_workOne 5 none :: Om) (rm_gw_ dp) 0 (W_X12_workOne dp ad)) (hg2 : jCN l D vwCl (tyR cy) cy ad ftR ksR (XtR ad) yX12_workPart (.code yX12_workPart cX12_workPart 4 none :: Om) (rm_gw_ dp) 0 (W_X12_workPart dp ad)) (hg3 : jCN l D vwCl (tyR cy) cy ad ftR ksR (XtR ad) yX12_workBoth (.code yX12_workBoth cX12_workBoth 3 none :: Om) (rm_gw_ dp) 0 (W_X12_workBoth dp ad)) (hg4 : jCN l D vwCl (tyR cy) cy ad ftR ksR (XtR ad) yX12_workTwo (.code yX12_workTwo cX12_workTwo 10 none :: Om) (rm_gw_ dp) 0 (W_X12_workTwo dp ad)) (hg5 : jCN l D vwCl (tyR cy) cy ad ftR ksR (XtR ad) yX12_workSet (.code yX12_workSet cX12_workSet 7 none :: Om) (rm_gw_ dp) 0 (W_X12_workSet dp ad)) (hg6 : jCN l D vwCl (tyR cy) cy ad ftR ksR (XtR ad) yX12_workFold (.code yX12_workFold cX12_workFold 10 none :: Om) (rm_gw_ dp) 0 (W_X12_workFold dp ad)) (hJ : jOk l D vwCl (tyR cy) cy ad ftR ksR (XtR ad) Om RX12 cX12_workFold 10 0 (rm_gw_ (dp + 1)) Q J) {K45 : Int → Int → Int → Int → Int → Int → Int → MM → Prop} (hK45 : ∀ (x1 x2 x3 x4 x6 x7 x8 : Int) (M : MM), ri_ x1 → ri_ x2 → ri_ x3 → rl_ x4 → ri_ x6 → ri_ x7 → ri_ x8 → K45 x1 x2 x3 x4 x6 x7 x8 M → J 45 [(0, .ref (ad 0)), (1, .int (Ii x1)), (2, .int (Ii x2)), (3, .int (Ii x3)), (4, .long (Ll x4)), (6, .int (Ii x6)), (7, .int (Ii x7)), (8, .int (Ii x8))] [] M) : ∀ (x1 x2 x3 x4 x7 x8 : Int) (M : MM), ri_ x1 → ri_ x2 → ri_ x3 → rl_ x4 → ri_ x7 → ri_ x8 → w_X12_workFold_b319  (gw_  dp) Q K45 x1 x2 x3 x4 x7 x8 M → J 319 [(0, .ref (ad 0)), (1, .int (Ii x1)), (2, .int (Ii x2)), (3, .int (Ii x3)), (4, .long (Ll x4)), (7, .int (Ii x7)), (8, .int (Ii x8))] [] M := by
  intro x1 x2 x3 x4 x7 x8 M gx1 gx2 gx3 gx4 gx7 gx8 hF
  unfold w_X12_workFold_b319 at hF
  refine j_lload hJ dX12_workFold_319 4 rfl ?_
  exact j_sub hJ [0, 1, 2, 3, 5, 6] rfl (k_X12_workFold_b321 hin  hg0 hg1 hg2 hg3 hg4 hg5 hg6 hJ hK45 x1 x2 x3 x7 x8 x4 _ gx1 gx2 gx3 gx7 gx8 gx4 hF)
set_option maxHeartbeats 4000000 in
set_option maxRecDepth 100000 in
theorem k_X12_workFold_b215 {l : Launch} {D : va_G} {cy : Nat → ClassId} {ad : Nat → Nat} {dp : Nat} {Q : Int → MM → Prop} {J : Nat → List (Nat × Value) → List Value → MM → Prop} (hin : jIn ad ksR.length)   (hg0 : jCN l D vwCl (tyR cy) cy ad ftR ksR (XtR ad) yX12_work (.code yX12_work cX12_work 3 none :: Om) (rm_gw_ dp) 0 (W_X12_work dp ad)) (hg1 : jCN l D vwCl (tyR cy) cy ad ftR ksR (XtR ad) yX12_workOne (.code yX12_workOne cX12_workOne 5 none :: Om) (rm_gw_ dp) 0 (W_X12_workOne dp ad)) (hg2 : jCN l D vwCl (tyR cy) cy ad ftR ksR (XtR ad) yX12_workPart (.code yX12_workPart cX12_workPart 4 none :: Om) (rm_gw_ dp) 0 (W_X12_workPart dp ad)) (hg3 : jCN l D vwCl (tyR cy) cy ad ftR ksR (XtR ad) yX12_workBoth (.code yX12_workBoth cX12_workBoth 3 none :: Om) (rm_gw_ dp) 0 (W_X12_workBoth dp ad)) (hg4 : jCN l D vwCl (tyR cy) cy ad ftR ksR (XtR ad) yX12_workTwo (.code yX12_workTwo cX12_workTwo 10 none :: Om) (rm_gw_ dp) 0 (W_X12_workTwo dp ad)) (hg5 : jCN l D vwCl (tyR cy) cy ad ftR ksR (XtR ad) yX12_workSet (.code yX12_workSet cX12_workSet 7 none :: Om) (rm_gw_ dp) 0 (W_X12_workSet dp ad)) (hg6 : jCN l D vwCl (tyR cy) cy ad ftR ksR (XtR ad) yX12_workFold (.code yX12_workFold cX12_workFold 10 none :: Om) (rm_gw_ dp) 0 (W_X12_workFold dp ad)) (hJ : jOk l D vwCl (tyR cy) cy ad ftR ksR (XtR ad) Om RX12 cX12_workFold 10 0 (rm_gw_ (dp + 1)) Q J) {K45 : Int → Int → Int → Int → Int → Int → Int → MM → Prop} (hK45 : ∀ (x1 x2 x3 x4 x6 x7 x8 : Int) (M : MM), ri_ x1 → ri_ x2 → ri_ x3 → rl_ x4 → ri_ x6 → ri_ x7 → ri_ x8 → K45 x1 x2 x3 x4 x6 x7 x8 M → J 45 [(0, .ref (ad 0)), (1, .int (Ii x1)), (2, .int (Ii x2)), (3, .int (Ii x3)), (4, .long (Ll x4)), (6, .int (Ii x6)), (7, .int (Ii x7)), (8, .int (Ii x8))] [] M) : ∀ (x1 x2 x3 x4 x6 x7 x8 s0 : Int) (M : MM), ri_ x1 → ri_ x2 → ri_ x3 → rl_ x4 → ri_ x6 → ri_ x7 → ri_ x8 → ri_ s0 → w_X12_workFold_b215  (gw_  dp) Q K45 x1 x2 x3 x4 x6 x7 x8 s0 M → J 215 [(0, .ref (ad 0)), (1, .int (Ii x1)), (2, .int (Ii x2)), (3, .int (Ii x3)), (4, .long (Ll x4)), (6, .int (Ii x6)), (7, .int (Ii x7)), (8, .int (Ii x8))] [.int (Ii s0)] M := by
  intro x1 x2 x3 x4 x6 x7 x8 s0 M gx1 gx2 gx3 gx4 gx6 gx7 gx8 gs0 hF
  unfold w_X12_workFold_b215 at hF
  refine j_istore (lv' := [(9, .int (Ii s0)), (0, .ref (ad 0)), (1, .int (Ii x1)), (2, .int (Ii x2)), (3, .int (Ii x3)), (4, .long (Ll x4)), (6, .int (Ii x6)), (7, .int (Ii x7)), (8, .int (Ii x8))]) hJ dX12_workFold_215 (by decide) rfl ?_
  refine j_iload_n hJ dX12_workFold_217 rfl 3 rfl ?_
  refine j_bipush hJ dX12_workFold_218 (by decide) ?_
  refine j_icmp_eq hJ 229 gx2 rk_17 dX12_workFold_220 (by decide) (fun z1 => ?_) (fun z1 => ?_)
  · have hF := hF.1 z1
    exact j_sub hJ [1, 2, 3, 4, 5, 6, 8, 0] rfl (k_X12_workFold_b229 hin  hg0 hg1 hg2 hg3 hg4 hg5 hg6 hJ hK45 x1 x2 x3 x4 x6 x8 s0 _ gx1 gx2 gx3 gx4 gx6 gx8 gs0 hF)
  · have hF := hF.2 z1
    refine j_iload_n hJ dX12_workFold_223 rfl 3 rfl ?_
    refine j_bipush hJ dX12_workFold_224 (by decide) ?_
    refine j_icmp_ne hJ 255 gx2 rk_18 dX12_workFold_226 (by decide) (fun z2 => ?_) (fun z2 => ?_)
    · have hF := hF.1 z2
      refine j_aload_n hJ dX12_workFold_255 rfl 1 rfl ?_
      refine j_gi hJ kR_0 fR_15_99 rfl fl_X12_785 dX12_workFold_256 (fun v3 ev3 gv3 => ?_)
      have hF := hF v3 ev3 gv3
      refine j_if_ne hJ 326 gv3 dX12_workFold_259 (by decide) (fun z4 => ?_) (fun z4 => ?_)
      · have hF := hF.1 z4
        exact j_sub hJ [1, 2, 3, 4, 5, 6, 7, 8] rfl (k_X12_workFold_b326 hin  hg0 hg1 hg2 hg3 hg4 hg5 hg6 hJ hK45 x1 x2 x3 x4 x6 x7 x8 _ gx1 gx2 gx3 gx4 gx6 gx7 gx8 hF)
      · have hF := hF.2 z4
        refine j_iload_n hJ dX12_workFold_262 rfl 3 rfl ?_
        refine j_bipush hJ dX12_workFold_263 (by decide) ?_
        refine j_icmp_ne hJ 278 gx2 rk_14 dX12_workFold_265 (by decide) (fun z5 => ?_) (fun z5 => ?_)
        · have hF := hF.1 z5
          refine j_iload hJ dX12_workFold_278 6 rfl ?_
          refine j_if_eq hJ 312 gx6 dX12_workFold_280 (by decide) (fun z6 => ?_) (fun z6 => ?_)
          · have hF := hF.1 z6
            exact j_sub hJ [1, 2, 3, 4, 7, 8] rfl (k_X12_workFold_b312 hin  hg0 hg1 hg2 hg3 hg4 hg5 hg6 hJ hK45 x1 x2 x3 x7 x8 _ gx1 gx2 gx3 gx7 gx8 hF)
          · have hF := hF.2 z6
            refine j_iload_n hJ dX12_workFold_283 rfl 3 rfl ?_
            refine j_bipush hJ dX12_workFold_284 (by decide) ?_
            refine j_icmp_ne hJ 302 gx2 rk_15 dX12_workFold_286 (by decide) (fun z7 => ?_) (fun z7 => ?_)
            · have hF := hF.1 z7
              refine j_aload_n hJ dX12_workFold_302 rfl 1 rfl ?_
              refine j_gl hJ kR_0 fR_15_102 rfl fl_X12_788 dX12_workFold_303 (fun v8 ev8 gv8 => ?_)
              have hF := hF v8 ev8 gv8
              refine j_lload hJ dX12_workFold_306 5 rfl ?_
              refine j_lcmp_ge hJ 319 gv8 gx4 dX12_workFold_308 dX12_workFold_309 (by decide) (fun z9 => ?_) (fun z9 => ?_)
              · have hF := hF.1 z9
                exact j_sub hJ [1, 2, 3, 4, 5, 7, 8] rfl (k_X12_workFold_b319 hin  hg0 hg1 hg2 hg3 hg4 hg5 hg6 hJ hK45 x1 x2 x3 x4 x7 x8 _ gx1 gx2 gx3 gx4 gx7 gx8 hF)
              · have hF := hF.2 z9
                exact j_sub hJ [1, 2, 3, 4, 7, 8] rfl (k_X12_workFold_b312 hin  hg0 hg1 hg2 hg3 hg4 hg5 hg6 hJ hK45 x1 x2 x3 x7 x8 _ gx1 gx2 gx3 gx7 gx8 hF)
            · have hF := hF.2 z7
              refine j_aload_n hJ dX12_workFold_289 rfl 1 rfl ?_
              refine j_gl hJ kR_0 fR_15_102 rfl fl_X12_788 dX12_workFold_290 (fun v10 ev10 gv10 => ?_)
              have hF := hF v10 ev10 gv10
              refine j_lload hJ dX12_workFold_293 5 rfl ?_
              refine j_lcmp_le hJ 319 gv10 gx4 dX12_workFold_295 dX12_workFold_296 (by decide) (fun z11 => ?_) (fun z11 => ?_)
              · have hF := hF.1 z11
                exact j_sub hJ [1, 2, 3, 4, 5, 7, 8] rfl (k_X12_workFold_b319 hin  hg0 hg1 hg2 hg3 hg4 hg5 hg6 hJ hK45 x1 x2 x3 x4 x7 x8 _ gx1 gx2 gx3 gx4 gx7 gx8 hF)
              · have hF := hF.2 z11
                refine j_goto hJ 312 dX12_workFold_299 (by decide) ?_
                exact j_sub hJ [1, 2, 3, 4, 7, 8] rfl (k_X12_workFold_b312 hin  hg0 hg1 hg2 hg3 hg4 hg5 hg6 hJ hK45 x1 x2 x3 x7 x8 _ gx1 gx2 gx3 gx7 gx8 hF)
        · have hF := hF.2 z5
          refine j_lload hJ dX12_workFold_268 5 rfl ?_
          refine j_aload_n hJ dX12_workFold_270 rfl 1 rfl ?_
          refine j_gl hJ kR_0 fR_15_102 rfl fl_X12_788 dX12_workFold_271 (fun v12 ev12 gv12 => ?_)
          have hF := hF v12 ev12 gv12
          refine j_laddw hJ dX12_workFold_274 ?_
          refine j_goto hJ 321 dX12_workFold_275 (by decide) ?_
          exact j_sub hJ [1, 2, 3, 4, 7, 8] rfl (k_X12_workFold_b321 hin  hg0 hg1 hg2 hg3 hg4 hg5 hg6 hJ hK45 x1 x2 x3 x7 x8 (w64 (x4 + v12)) _ gx1 gx2 gx3 gx7 gx8 (rl_w _) hF)
    · have hF := hF.2 z2
      exact j_sub hJ [1, 2, 3, 4, 5, 6, 8, 0] rfl (k_X12_workFold_b229 hin  hg0 hg1 hg2 hg3 hg4 hg5 hg6 hJ hK45 x1 x2 x3 x4 x6 x8 s0 _ gx1 gx2 gx3 gx4 gx6 gx8 gs0 hF)
set_option maxHeartbeats 4000000 in
set_option maxRecDepth 100000 in
theorem k_X12_workFold_b214 {l : Launch} {D : va_G} {cy : Nat → ClassId} {ad : Nat → Nat} {dp : Nat} {Q : Int → MM → Prop} {J : Nat → List (Nat × Value) → List Value → MM → Prop} (hin : jIn ad ksR.length)   (hg0 : jCN l D vwCl (tyR cy) cy ad ftR ksR (XtR ad) yX12_work (.code yX12_work cX12_work 3 none :: Om) (rm_gw_ dp) 0 (W_X12_work dp ad)) (hg1 : jCN l D vwCl (tyR cy) cy ad ftR ksR (XtR ad) yX12_workOne (.code yX12_workOne cX12_workOne 5 none :: Om) (rm_gw_ dp) 0 (W_X12_workOne dp ad)) (hg2 : jCN l D vwCl (tyR cy) cy ad ftR ksR (XtR ad) yX12_workPart (.code yX12_workPart cX12_workPart 4 none :: Om) (rm_gw_ dp) 0 (W_X12_workPart dp ad)) (hg3 : jCN l D vwCl (tyR cy) cy ad ftR ksR (XtR ad) yX12_workBoth (.code yX12_workBoth cX12_workBoth 3 none :: Om) (rm_gw_ dp) 0 (W_X12_workBoth dp ad)) (hg4 : jCN l D vwCl (tyR cy) cy ad ftR ksR (XtR ad) yX12_workTwo (.code yX12_workTwo cX12_workTwo 10 none :: Om) (rm_gw_ dp) 0 (W_X12_workTwo dp ad)) (hg5 : jCN l D vwCl (tyR cy) cy ad ftR ksR (XtR ad) yX12_workSet (.code yX12_workSet cX12_workSet 7 none :: Om) (rm_gw_ dp) 0 (W_X12_workSet dp ad)) (hg6 : jCN l D vwCl (tyR cy) cy ad ftR ksR (XtR ad) yX12_workFold (.code yX12_workFold cX12_workFold 10 none :: Om) (rm_gw_ dp) 0 (W_X12_workFold dp ad)) (hJ : jOk l D vwCl (tyR cy) cy ad ftR ksR (XtR ad) Om RX12 cX12_workFold 10 0 (rm_gw_ (dp + 1)) Q J) {K45 : Int → Int → Int → Int → Int → Int → Int → MM → Prop} (hK45 : ∀ (x1 x2 x3 x4 x6 x7 x8 : Int) (M : MM), ri_ x1 → ri_ x2 → ri_ x3 → rl_ x4 → ri_ x6 → ri_ x7 → ri_ x8 → K45 x1 x2 x3 x4 x6 x7 x8 M → J 45 [(0, .ref (ad 0)), (1, .int (Ii x1)), (2, .int (Ii x2)), (3, .int (Ii x3)), (4, .long (Ll x4)), (6, .int (Ii x6)), (7, .int (Ii x7)), (8, .int (Ii x8))] [] M) : ∀ (x1 x2 x3 x4 x6 x7 x8 : Int) (M : MM), ri_ x1 → ri_ x2 → ri_ x3 → rl_ x4 → ri_ x6 → ri_ x7 → ri_ x8 → w_X12_workFold_b214  (gw_  dp) Q K45 x1 x2 x3 x4 x6 x7 x8 M → J 214 [(0, .ref (ad 0)), (1, .int (Ii x1)), (2, .int (Ii x2)), (3, .int (Ii x3)), (4, .long (Ll x4)), (6, .int (Ii x6)), (7, .int (Ii x7)), (8, .int (Ii x8))] [] M := by
  intro x1 x2 x3 x4 x6 x7 x8 M gx1 gx2 gx3 gx4 gx6 gx7 gx8 hF
  unfold w_X12_workFold_b214 at hF
  refine j_iconst hJ dX12_workFold_214 ?_
  exact j_sub hJ [0, 1, 2, 3, 4, 5, 6, 7] rfl (k_X12_workFold_b215 hin  hg0 hg1 hg2 hg3 hg4 hg5 hg6 hJ hK45 x1 x2 x3 x4 x6 x7 x8 0 _ gx1 gx2 gx3 gx4 gx6 gx7 gx8 rk_0 hF)
set_option maxHeartbeats 4000000 in
set_option maxRecDepth 100000 in
theorem k_X12_workFold_b158 {l : Launch} {D : va_G} {cy : Nat → ClassId} {ad : Nat → Nat} {dp : Nat} {Q : Int → MM → Prop} {J : Nat → List (Nat × Value) → List Value → MM → Prop} (hin : jIn ad ksR.length)   (hg0 : jCN l D vwCl (tyR cy) cy ad ftR ksR (XtR ad) yX12_work (.code yX12_work cX12_work 3 none :: Om) (rm_gw_ dp) 0 (W_X12_work dp ad)) (hg1 : jCN l D vwCl (tyR cy) cy ad ftR ksR (XtR ad) yX12_workOne (.code yX12_workOne cX12_workOne 5 none :: Om) (rm_gw_ dp) 0 (W_X12_workOne dp ad)) (hg2 : jCN l D vwCl (tyR cy) cy ad ftR ksR (XtR ad) yX12_workPart (.code yX12_workPart cX12_workPart 4 none :: Om) (rm_gw_ dp) 0 (W_X12_workPart dp ad)) (hg3 : jCN l D vwCl (tyR cy) cy ad ftR ksR (XtR ad) yX12_workBoth (.code yX12_workBoth cX12_workBoth 3 none :: Om) (rm_gw_ dp) 0 (W_X12_workBoth dp ad)) (hg4 : jCN l D vwCl (tyR cy) cy ad ftR ksR (XtR ad) yX12_workTwo (.code yX12_workTwo cX12_workTwo 10 none :: Om) (rm_gw_ dp) 0 (W_X12_workTwo dp ad)) (hg5 : jCN l D vwCl (tyR cy) cy ad ftR ksR (XtR ad) yX12_workSet (.code yX12_workSet cX12_workSet 7 none :: Om) (rm_gw_ dp) 0 (W_X12_workSet dp ad)) (hg6 : jCN l D vwCl (tyR cy) cy ad ftR ksR (XtR ad) yX12_workFold (.code yX12_workFold cX12_workFold 10 none :: Om) (rm_gw_ dp) 0 (W_X12_workFold dp ad)) (hJ : jOk l D vwCl (tyR cy) cy ad ftR ksR (XtR ad) Om RX12 cX12_workFold 10 0 (rm_gw_ (dp + 1)) Q J) {K45 : Int → Int → Int → Int → Int → Int → Int → MM → Prop} (hK45 : ∀ (x1 x2 x3 x4 x6 x7 x8 : Int) (M : MM), ri_ x1 → ri_ x2 → ri_ x3 → rl_ x4 → ri_ x6 → ri_ x7 → ri_ x8 → K45 x1 x2 x3 x4 x6 x7 x8 M → J 45 [(0, .ref (ad 0)), (1, .int (Ii x1)), (2, .int (Ii x2)), (3, .int (Ii x3)), (4, .long (Ll x4)), (6, .int (Ii x6)), (7, .int (Ii x7)), (8, .int (Ii x8))] [] M) : ∀ (x1 x2 x3 x4 x6 x7 x8 : Int) (M : MM), ri_ x1 → ri_ x2 → ri_ x3 → rl_ x4 → ri_ x6 → ri_ x7 → ri_ x8 → w_X12_workFold_b158  (gw_  dp) Q K45 x1 x2 x3 x4 x6 x7 x8 M → J 158 [(0, .ref (ad 0)), (1, .int (Ii x1)), (2, .int (Ii x2)), (3, .int (Ii x3)), (4, .long (Ll x4)), (6, .int (Ii x6)), (7, .int (Ii x7)), (8, .int (Ii x8))] [] M := by
  intro x1 x2 x3 x4 x6 x7 x8 M gx1 gx2 gx3 gx4 gx6 gx7 gx8 hF
  unfold w_X12_workFold_b158 at hF
  refine j_iload_n hJ dX12_workFold_158 rfl 2 rfl ?_
  refine j_bipush hJ dX12_workFold_159 (by decide) ?_
  refine j_icmp_ne hJ 173 gx2 rk_13 dX12_workFold_161 (by decide) (fun z1 => ?_) (fun z1 => ?_)
  · have hF := hF.1 z1
    refine j_aload_n hJ dX12_workFold_173 rfl 0 rfl ?_
    refine j_aload_n hJ dX12_workFold_174 rfl 0 rfl ?_
    refine j_gr (e := 69) hJ kR_0 fR_15_89 fl_X12_281 dX12_workFold_175 rfl ?_
    refine j_iload_n hJ dX12_workFold_178 rfl 1 rfl ?_
    refine j_iald hJ gx1 kR_69 hF.1 hF.2.1 dX12_workFold_179 (fun v2 ev2 gv2 => ?_)
    have hF := hF.2.2 v2 ev2 gv2
    refine j_callVv hJ hg0 rfl om_1253 ⟨rfl, rfl, by show _ ≤ _; simp only [rm_gw_]; omega, by show _ ≤ _; simp only [rm_gw_]; omega⟩ [.int (Ii v2)] mv_X12_829 hd_X12_workv kR_0 rfl rfl rfl (Nat.le_of_ble_eq_true rfl) dX12_workFold_180 ⟨v2, rfl, gv2, hF⟩ (fun M4 qM4 => ?_)
    have hF := qM4
    refine j_aload_n hJ dX12_workFold_183 rfl 0 rfl ?_
    refine j_gz hJ kR_0 fR_15_103 rfl fl_X12_782 dX12_workFold_184 (fun v5 ev5 gv5 => ?_)
    have hF := hF v5 ev5 gv5
    refine j_if_eq hJ 193 (jz_ri gv5) dX12_workFold_187 (by decide) (fun z6 => ?_) (fun z6 => ?_)
    · have hF := hF.1 z6
      refine j_aload_n hJ dX12_workFold_193 rfl 0 rfl ?_
      refine j_gi hJ kR_0 fR_15_99 rfl fl_X12_785 dX12_workFold_194 (fun v7 ev7 gv7 => ?_)
      have hF := hF v7 ev7 gv7
      refine j_iconst hJ dX12_workFold_197 ?_
      refine j_icmp_ne hJ 214 gv7 rk_1 dX12_workFold_198 (by decide) (fun z8 => ?_) (fun z8 => ?_)
      · have hF := hF.1 z8
        exact j_sub hJ [0, 1, 2, 3, 4, 5, 6, 7] rfl (k_X12_workFold_b214 hin  hg0 hg1 hg2 hg3 hg4 hg5 hg6 hJ hK45 x1 x2 x3 x4 x6 x7 x8 _ gx1 gx2 gx3 gx4 gx6 gx7 gx8 hF)
      · have hF := hF.2 z8
        refine j_aload_n hJ dX12_workFold_201 rfl 0 rfl ?_
        refine j_gl hJ kR_0 fR_15_102 rfl fl_X12_788 dX12_workFold_202 (fun v9 ev9 gv9 => ?_)
        have hF := hF v9 ev9 gv9
        refine j_lconst (x := 1) hJ dX12_workFold_205 rfl ?_
        refine j_lcmp_ne hJ 214 gv9 lk_1 dX12_workFold_206 dX12_workFold_207 (by decide) (fun z10 => ?_) (fun z10 => ?_)
        · have hF := hF.1 z10
          exact j_sub hJ [0, 1, 2, 3, 4, 5, 6, 7] rfl (k_X12_workFold_b214 hin  hg0 hg1 hg2 hg3 hg4 hg5 hg6 hJ hK45 x1 x2 x3 x4 x6 x7 x8 _ gx1 gx2 gx3 gx4 gx6 gx7 gx8 hF)
        · have hF := hF.2 z10
          refine j_iconst hJ dX12_workFold_210 ?_
          refine j_goto hJ 215 dX12_workFold_211 (by decide) ?_
          exact j_sub hJ [0, 1, 2, 3, 4, 5, 6, 7] rfl (k_X12_workFold_b215 hin  hg0 hg1 hg2 hg3 hg4 hg5 hg6 hJ hK45 x1 x2 x3 x4 x6 x7 x8 1 _ gx1 gx2 gx3 gx4 gx6 gx7 gx8 rk_1 hF)
    · have hF := hF.2 z6
      refine j_goto hJ 326 dX12_workFold_190 (by decide) ?_
      exact j_sub hJ [0, 1, 2, 3, 4, 5, 6, 7] rfl (k_X12_workFold_b326 hin  hg0 hg1 hg2 hg3 hg4 hg5 hg6 hJ hK45 x1 x2 x3 x4 x6 x7 x8 _ gx1 gx2 gx3 gx4 gx6 gx7 gx8 hF)
  · have hF := hF.2 z1
    refine j_lload hJ dX12_workFold_164 4 rfl ?_
    refine j_lconst (x := 1) hJ dX12_workFold_166 rfl ?_
    refine j_laddw hJ dX12_workFold_167 ?_
    refine j_lstore (lv' := [(4, .long (Ll (w64 (x4 + 1)))), (0, .ref (ad 0)), (1, .int (Ii x1)), (2, .int (Ii x2)), (3, .int (Ii x3)), (6, .int (Ii x6)), (7, .int (Ii x7)), (8, .int (Ii x8))]) hJ dX12_workFold_168 (by decide) rfl ?_
    refine j_goto hJ 326 dX12_workFold_170 (by decide) ?_
    exact j_sub hJ [1, 2, 3, 4, 0, 5, 6, 7] rfl (k_X12_workFold_b326 hin  hg0 hg1 hg2 hg3 hg4 hg5 hg6 hJ hK45 x1 x2 x3 (w64 (x4 + 1)) x6 x7 x8 _ gx1 gx2 gx3 (rl_w _) gx6 gx7 gx8 hF)
set_option maxHeartbeats 4000000 in
set_option maxRecDepth 100000 in
theorem k_X12_workFold_b121 {l : Launch} {D : va_G} {cy : Nat → ClassId} {ad : Nat → Nat} {dp : Nat} {Q : Int → MM → Prop} {J : Nat → List (Nat × Value) → List Value → MM → Prop} (hin : jIn ad ksR.length)   (hg0 : jCN l D vwCl (tyR cy) cy ad ftR ksR (XtR ad) yX12_work (.code yX12_work cX12_work 3 none :: Om) (rm_gw_ dp) 0 (W_X12_work dp ad)) (hg1 : jCN l D vwCl (tyR cy) cy ad ftR ksR (XtR ad) yX12_workOne (.code yX12_workOne cX12_workOne 5 none :: Om) (rm_gw_ dp) 0 (W_X12_workOne dp ad)) (hg2 : jCN l D vwCl (tyR cy) cy ad ftR ksR (XtR ad) yX12_workPart (.code yX12_workPart cX12_workPart 4 none :: Om) (rm_gw_ dp) 0 (W_X12_workPart dp ad)) (hg3 : jCN l D vwCl (tyR cy) cy ad ftR ksR (XtR ad) yX12_workBoth (.code yX12_workBoth cX12_workBoth 3 none :: Om) (rm_gw_ dp) 0 (W_X12_workBoth dp ad)) (hg4 : jCN l D vwCl (tyR cy) cy ad ftR ksR (XtR ad) yX12_workTwo (.code yX12_workTwo cX12_workTwo 10 none :: Om) (rm_gw_ dp) 0 (W_X12_workTwo dp ad)) (hg5 : jCN l D vwCl (tyR cy) cy ad ftR ksR (XtR ad) yX12_workSet (.code yX12_workSet cX12_workSet 7 none :: Om) (rm_gw_ dp) 0 (W_X12_workSet dp ad)) (hg6 : jCN l D vwCl (tyR cy) cy ad ftR ksR (XtR ad) yX12_workFold (.code yX12_workFold cX12_workFold 10 none :: Om) (rm_gw_ dp) 0 (W_X12_workFold dp ad)) (hJ : jOk l D vwCl (tyR cy) cy ad ftR ksR (XtR ad) Om RX12 cX12_workFold 10 0 (rm_gw_ (dp + 1)) Q J) {K45 : Int → Int → Int → Int → Int → Int → Int → MM → Prop} (hK45 : ∀ (x1 x2 x3 x4 x6 x7 x8 : Int) (M : MM), ri_ x1 → ri_ x2 → ri_ x3 → rl_ x4 → ri_ x6 → ri_ x7 → ri_ x8 → K45 x1 x2 x3 x4 x6 x7 x8 M → J 45 [(0, .ref (ad 0)), (1, .int (Ii x1)), (2, .int (Ii x2)), (3, .int (Ii x3)), (4, .long (Ll x4)), (6, .int (Ii x6)), (7, .int (Ii x7)), (8, .int (Ii x8))] [] M) : ∀ (x1 x2 x3 x4 x6 x7 x8 : Int) (M : MM), ri_ x1 → ri_ x2 → ri_ x3 → rl_ x4 → ri_ x6 → ri_ x7 → ri_ x8 → w_X12_workFold_b121  (gw_  dp) Q K45 x1 x2 x3 x4 x6 x7 x8 M → J 121 [(0, .ref (ad 0)), (1, .int (Ii x1)), (2, .int (Ii x2)), (3, .int (Ii x3)), (4, .long (Ll x4)), (6, .int (Ii x6)), (7, .int (Ii x7)), (8, .int (Ii x8))] [] M := by
  intro x1 x2 x3 x4 x6 x7 x8 M gx1 gx2 gx3 gx4 gx6 gx7 gx8 hF
  unfold w_X12_workFold_b121 at hF
  refine j_aload_n hJ dX12_workFold_121 rfl 0 rfl ?_
  refine j_gz hJ kR_0 fR_15_103 rfl fl_X12_782 dX12_workFold_122 (fun v1 ev1 gv1 => ?_)
  have hF := hF v1 ev1 gv1
  refine j_if_ne hJ 326 (jz_ri gv1) dX12_workFold_125 (by decide) (fun z2 => ?_) (fun z2 => ?_)
  · have hF := hF.1 z2
    exact j_sub hJ [0, 1, 2, 3, 4, 5, 6, 7] rfl (k_X12_workFold_b326 hin  hg0 hg1 hg2 hg3 hg4 hg5 hg6 hJ hK45 x1 x2 x3 x4 x6 x7 x8 _ gx1 gx2 gx3 gx4 gx6 gx7 gx8 hF)
  · have hF := hF.2 z2
    refine j_aload_n hJ dX12_workFold_128 rfl 0 rfl ?_
    refine j_gr (e := 68) hJ kR_0 fR_15_88 fl_X12_278 dX12_workFold_129 rfl ?_
    refine j_iload_n hJ dX12_workFold_132 rfl 1 rfl ?_
    refine j_iald hJ gx1 kR_68 hF.1 hF.2.1 dX12_workFold_133 (fun v3 ev3 gv3 => ?_)
    have hF := hF.2.2 v3 ev3 gv3
    refine j_iconst hJ dX12_workFold_134 ?_
    refine j_icmp_eq hJ 158 gv3 rk_m1 dX12_workFold_135 (by decide) (fun z4 => ?_) (fun z4 => ?_)
    · have hF := hF.1 z4
      exact j_sub hJ [0, 1, 2, 3, 4, 5, 6, 7] rfl (k_X12_workFold_b158 hin  hg0 hg1 hg2 hg3 hg4 hg5 hg6 hJ hK45 x1 x2 x3 x4 x6 x7 x8 _ gx1 gx2 gx3 gx4 gx6 gx7 gx8 hF)
    · have hF := hF.2 z4
      refine j_aload_n hJ dX12_workFold_138 rfl 0 rfl ?_
      refine j_gi hJ kR_0 fR_15_99 rfl fl_X12_785 dX12_workFold_139 (fun v5 ev5 gv5 => ?_)
      have hF := hF v5 ev5 gv5
      refine j_iconst hJ dX12_workFold_142 ?_
      refine j_icmp_ne hJ 326 gv5 rk_1 dX12_workFold_143 (by decide) (fun z6 => ?_) (fun z6 => ?_)
      · have hF := hF.1 z6
        exact j_sub hJ [0, 1, 2, 3, 4, 5, 6, 7] rfl (k_X12_workFold_b326 hin  hg0 hg1 hg2 hg3 hg4 hg5 hg6 hJ hK45 x1 x2 x3 x4 x6 x7 x8 _ gx1 gx2 gx3 gx4 gx6 gx7 gx8 hF)
      · have hF := hF.2 z6
        refine j_aload_n hJ dX12_workFold_146 rfl 0 rfl ?_
        refine j_gl hJ kR_0 fR_15_102 rfl fl_X12_788 dX12_workFold_147 (fun v7 ev7 gv7 => ?_)
        have hF := hF v7 ev7 gv7
        refine j_lconst (x := 0) hJ dX12_workFold_150 rfl ?_
        refine j_lcmp_ne hJ 158 gv7 lkm_0 dX12_workFold_151 dX12_workFold_152 (by decide) (fun z8 => ?_) (fun z8 => ?_)
        · have hF := hF.1 z8
          exact j_sub hJ [0, 1, 2, 3, 4, 5, 6, 7] rfl (k_X12_workFold_b158 hin  hg0 hg1 hg2 hg3 hg4 hg5 hg6 hJ hK45 x1 x2 x3 x4 x6 x7 x8 _ gx1 gx2 gx3 gx4 gx6 gx7 gx8 hF)
        · have hF := hF.2 z8
          refine j_goto hJ 326 dX12_workFold_155 (by decide) ?_
          exact j_sub hJ [0, 1, 2, 3, 4, 5, 6, 7] rfl (k_X12_workFold_b326 hin  hg0 hg1 hg2 hg3 hg4 hg5 hg6 hJ hK45 x1 x2 x3 x4 x6 x7 x8 _ gx1 gx2 gx3 gx4 gx6 gx7 gx8 hF)
set_option maxHeartbeats 4000000 in
set_option maxRecDepth 100000 in
theorem k_X12_workFold_b45 {l : Launch} {D : va_G} {cy : Nat → ClassId} {ad : Nat → Nat} {dp : Nat} {Q : Int → MM → Prop} {J : Nat → List (Nat × Value) → List Value → MM → Prop} (hin : jIn ad ksR.length)   (hg0 : jCN l D vwCl (tyR cy) cy ad ftR ksR (XtR ad) yX12_work (.code yX12_work cX12_work 3 none :: Om) (rm_gw_ dp) 0 (W_X12_work dp ad)) (hg1 : jCN l D vwCl (tyR cy) cy ad ftR ksR (XtR ad) yX12_workOne (.code yX12_workOne cX12_workOne 5 none :: Om) (rm_gw_ dp) 0 (W_X12_workOne dp ad)) (hg2 : jCN l D vwCl (tyR cy) cy ad ftR ksR (XtR ad) yX12_workPart (.code yX12_workPart cX12_workPart 4 none :: Om) (rm_gw_ dp) 0 (W_X12_workPart dp ad)) (hg3 : jCN l D vwCl (tyR cy) cy ad ftR ksR (XtR ad) yX12_workBoth (.code yX12_workBoth cX12_workBoth 3 none :: Om) (rm_gw_ dp) 0 (W_X12_workBoth dp ad)) (hg4 : jCN l D vwCl (tyR cy) cy ad ftR ksR (XtR ad) yX12_workTwo (.code yX12_workTwo cX12_workTwo 10 none :: Om) (rm_gw_ dp) 0 (W_X12_workTwo dp ad)) (hg5 : jCN l D vwCl (tyR cy) cy ad ftR ksR (XtR ad) yX12_workSet (.code yX12_workSet cX12_workSet 7 none :: Om) (rm_gw_ dp) 0 (W_X12_workSet dp ad)) (hg6 : jCN l D vwCl (tyR cy) cy ad ftR ksR (XtR ad) yX12_workFold (.code yX12_workFold cX12_workFold 10 none :: Om) (rm_gw_ dp) 0 (W_X12_workFold dp ad)) (hJ : jOk l D vwCl (tyR cy) cy ad ftR ksR (XtR ad) Om RX12 cX12_workFold 10 0 (rm_gw_ (dp + 1)) Q J)  : ∀ (x1 x2 x3 x4 x6 x7 x8 : Int) (M : MM), ri_ x1 → ri_ x2 → ri_ x3 → rl_ x4 → ri_ x6 → ri_ x7 → ri_ x8 → w_X12_workFold_b45  (gw_  dp) Q  x1 x2 x3 x4 x6 x7 x8 M → J 45 [(0, .ref (ad 0)), (1, .int (Ii x1)), (2, .int (Ii x2)), (3, .int (Ii x3)), (4, .long (Ll x4)), (6, .int (Ii x6)), (7, .int (Ii x7)), (8, .int (Ii x8))] [] M := by
  have H9 : ∀ (n : Nat) (x1 x2 x3 x4 x6 x7 x8 : Int) (M : MM), ri_ x1 → ri_ x2 → ri_ x3 → rl_ x4 → ri_ x6 → ri_ x7 → ri_ x8 → jit (fun _ _ _ _ _ _ _ _ => False) (wb_X12_workFold_b45  (gw_  dp) Q ) n x1 x2 x3 x4 x6 x7 x8 M → J 45 [(0, .ref (ad 0)), (1, .int (Ii x1)), (2, .int (Ii x2)), (3, .int (Ii x3)), (4, .long (Ll x4)), (6, .int (Ii x6)), (7, .int (Ii x7)), (8, .int (Ii x8))] [] M := by
    intro n
    induction n with
    | zero => intro x1 x2 x3 x4 x6 x7 x8 M gx1 gx2 gx3 gx4 gx6 gx7 gx8 hF; exact False.elim hF
    | succ n ih =>
    intro x1 x2 x3 x4 x6 x7 x8 M gx1 gx2 gx3 gx4 gx6 gx7 gx8 hF
    have hF : wb_X12_workFold_b45  (gw_  dp) Q  (jit (fun _ _ _ _ _ _ _ _ => False) (wb_X12_workFold_b45  (gw_  dp) Q ) n) x1 x2 x3 x4 x6 x7 x8 M := hF
    unfold wb_X12_workFold_b45 at hF
    refine j_iload hJ dX12_workFold_45 7 rfl ?_
    refine j_aload_n hJ dX12_workFold_47 rfl 0 rfl ?_
    refine j_gr (e := 74) hJ kR_0 fR_15_106 fl_X12_297 dX12_workFold_48 rfl ?_
    refine j_iload_n hJ dX12_workFold_51 rfl 3 rfl ?_
    refine j_iald hJ gx3 kR_74 hF.1 hF.2.1 dX12_workFold_52 (fun v1 ev1 gv1 => ?_)
    have hF := hF.2.2 v1 ev1 gv1
    refine j_icmp_ge hJ 332 gx8 gv1 dX12_workFold_53 (by decide) (fun z2 => ?_) (fun z2 => ?_)
    · have hF := hF.1 z2
      exact j_sub hJ [0, 2, 4, 5, 6] rfl (k_X12_workFold_b332 hin  hg0 hg1 hg2 hg3 hg4 hg5 hg6 hJ  x2 x4 x6 x7 _ gx2 gx4 gx6 gx7 hF)
    · have hF := hF.2 z2
      refine j_aload_n hJ dX12_workFold_56 rfl 0 rfl ?_
      refine j_gz hJ kR_0 fR_15_103 rfl fl_X12_782 dX12_workFold_57 (fun v3 ev3 gv3 => ?_)
      have hF := hF v3 ev3 gv3
      refine j_if_ne hJ 332 (jz_ri gv3) dX12_workFold_60 (by decide) (fun z4 => ?_) (fun z4 => ?_)
      · have hF := hF.1 z4
        exact j_sub hJ [0, 2, 4, 5, 6] rfl (k_X12_workFold_b332 hin  hg0 hg1 hg2 hg3 hg4 hg5 hg6 hJ  x2 x4 x6 x7 _ gx2 gx4 gx6 gx7 hF)
      · have hF := hF.2 z4
        refine j_iload hJ dX12_workFold_63 6 rfl ?_
        refine j_if_ne hJ 332 gx7 dX12_workFold_65 (by decide) (fun z5 => ?_) (fun z5 => ?_)
        · have hF := hF.1 z5
          exact j_sub hJ [0, 2, 4, 5, 6] rfl (k_X12_workFold_b332 hin  hg0 hg1 hg2 hg3 hg4 hg5 hg6 hJ  x2 x4 x6 x7 _ gx2 gx4 gx6 gx7 hF)
        · have hF := hF.2 z5
          refine j_aload_n hJ dX12_workFold_68 rfl 0 rfl ?_
          refine j_callVv hJ (c_X12_step (l := l) (D := D) (cy := cy) (ad := ad) hin) rfl om_1249 ⟨rfl, rfl, by show _ ≤ _; simp only [rm_gw_]; omega, by show _ ≤ _; simp only [rm_gw_]; omega⟩ [] mv_X12_795 hd_X12_stepv kR_0 rfl rfl rfl (Nat.le_of_ble_eq_true rfl) dX12_workFold_69 ⟨rfl, hF⟩ (fun M7 qM7 => ?_)
          have hF := qM7
          refine j_aload_n hJ dX12_workFold_72 rfl 0 rfl ?_
          refine j_gz hJ kR_0 fR_15_103 rfl fl_X12_782 dX12_workFold_73 (fun v8 ev8 gv8 => ?_)
          have hF := hF v8 ev8 gv8
          refine j_if_eq hJ 82 (jz_ri gv8) dX12_workFold_76 (by decide) (fun z9 => ?_) (fun z9 => ?_)
          · have hF := hF.1 z9
            refine j_aload_n hJ dX12_workFold_82 rfl 0 rfl ?_
            refine j_gr (e := 72) hJ kR_0 fR_15_104 fl_X12_290 dX12_workFold_83 rfl ?_
            refine j_iload_n hJ dX12_workFold_86 rfl 3 rfl ?_
            refine j_aload_n hJ dX12_workFold_87 rfl 0 rfl ?_
            refine j_gr (e := 73) hJ kR_0 fR_15_105 fl_X12_294 dX12_workFold_88 rfl ?_
            refine j_sipush hJ dX12_workFold_91 (by decide) ?_
            refine j_iload_n hJ dX12_workFold_94 rfl 3 rfl ?_
            refine j_imul hJ dX12_workFold_95 ?_
            have g10 := hF.1; have hF := hF.2
            refine j_iload hJ dX12_workFold_96 7 rfl ?_
            refine j_iadd hJ dX12_workFold_98 ?_
            have g11 := hF.1; have hF := hF.2
            refine j_iald hJ g11 kR_73 hF.1 hF.2.1 dX12_workFold_99 (fun v12 ev12 gv12 => ?_)
            have hF := hF.2.2 v12 ev12 gv12
            refine j_iast hJ gx3 gv12 kR_72 hF.1 hF.2.1 dX12_workFold_100 (fun M13 eM13 => ?_)
            have hF := hF.2.2 M13 eM13
            refine j_aload_n hJ dX12_workFold_101 rfl 0 rfl ?_
            refine j_gr (e := 68) hJ kR_0 fR_15_88 fl_X12_278 dX12_workFold_102 rfl ?_
            refine j_iload_n hJ dX12_workFold_105 rfl 1 rfl ?_
            refine j_iald hJ gx1 kR_68 hF.1 hF.2.1 dX12_workFold_106 (fun v14 ev14 gv14 => ?_)
            have hF := hF.2.2 v14 ev14 gv14
            refine j_iconst hJ dX12_workFold_107 ?_
            refine j_icmp_eq hJ 121 gv14 rk_m1 dX12_workFold_108 (by decide) (fun z15 => ?_) (fun z15 => ?_)
            · have hF := hF.1 z15
              exact j_sub hJ [0, 1, 2, 3, 4, 5, 6, 7] rfl (k_X12_workFold_b121 hin  hg0 hg1 hg2 hg3 hg4 hg5 hg6 hJ ih x1 x2 x3 x4 x6 x7 x8 _ gx1 gx2 gx3 gx4 gx6 gx7 gx8 hF)
            · have hF := hF.2 z15
              refine j_aload_n hJ dX12_workFold_111 rfl 0 rfl ?_
              refine j_aload_n hJ dX12_workFold_112 rfl 0 rfl ?_
              refine j_gr (e := 68) hJ kR_0 fR_15_88 fl_X12_278 dX12_workFold_113 rfl ?_
              refine j_iload_n hJ dX12_workFold_116 rfl 1 rfl ?_
              refine j_iald hJ gx1 kR_68 hF.1 hF.2.1 dX12_workFold_117 (fun v16 ev16 gv16 => ?_)
              have hF := hF.2.2 v16 ev16 gv16
              refine j_callVv hJ hg0 rfl om_1253 ⟨rfl, rfl, by show _ ≤ _; simp only [rm_gw_]; omega, by show _ ≤ _; simp only [rm_gw_]; omega⟩ [.int (Ii v16)] mv_X12_829 hd_X12_workv kR_0 rfl rfl rfl (Nat.le_of_ble_eq_true rfl) dX12_workFold_118 ⟨v16, rfl, gv16, hF⟩ (fun M18 qM18 => ?_)
              have hF := qM18
              exact j_sub hJ [0, 1, 2, 3, 4, 5, 6, 7] rfl (k_X12_workFold_b121 hin  hg0 hg1 hg2 hg3 hg4 hg5 hg6 hJ ih x1 x2 x3 x4 x6 x7 x8 _ gx1 gx2 gx3 gx4 gx6 gx7 gx8 hF)
          · have hF := hF.2 z9
            refine j_goto hJ 326 dX12_workFold_79 (by decide) ?_
            exact j_sub hJ [0, 1, 2, 3, 4, 5, 6, 7] rfl (k_X12_workFold_b326 hin  hg0 hg1 hg2 hg3 hg4 hg5 hg6 hJ ih x1 x2 x3 x4 x6 x7 x8 _ gx1 gx2 gx3 gx4 gx6 gx7 gx8 hF)
  intro x1 x2 x3 x4 x6 x7 x8 M gx1 gx2 gx3 gx4 gx6 gx7 gx8 hF
  obtain ⟨n, hF⟩ := hF
  exact H9 n x1 x2 x3 x4 x6 x7 x8 M gx1 gx2 gx3 gx4 gx6 gx7 gx8 hF
set_option maxHeartbeats 4000000 in
set_option maxRecDepth 100000 in
theorem s_X12_workFold {l : Launch} {D : va_G} {cy : Nat → ClassId} {ad : Nat → Nat} {dp : Nat} (hin : jIn ad ksR.length) (hg0 : jCN l D vwCl (tyR cy) cy ad ftR ksR (XtR ad) yX12_work (.code yX12_work cX12_work 3 none :: Om) (rm_gw_ dp) 0 (W_X12_work dp ad)) (hg1 : jCN l D vwCl (tyR cy) cy ad ftR ksR (XtR ad) yX12_workOne (.code yX12_workOne cX12_workOne 5 none :: Om) (rm_gw_ dp) 0 (W_X12_workOne dp ad)) (hg2 : jCN l D vwCl (tyR cy) cy ad ftR ksR (XtR ad) yX12_workPart (.code yX12_workPart cX12_workPart 4 none :: Om) (rm_gw_ dp) 0 (W_X12_workPart dp ad)) (hg3 : jCN l D vwCl (tyR cy) cy ad ftR ksR (XtR ad) yX12_workBoth (.code yX12_workBoth cX12_workBoth 3 none :: Om) (rm_gw_ dp) 0 (W_X12_workBoth dp ad)) (hg4 : jCN l D vwCl (tyR cy) cy ad ftR ksR (XtR ad) yX12_workTwo (.code yX12_workTwo cX12_workTwo 10 none :: Om) (rm_gw_ dp) 0 (W_X12_workTwo dp ad)) (hg5 : jCN l D vwCl (tyR cy) cy ad ftR ksR (XtR ad) yX12_workSet (.code yX12_workSet cX12_workSet 7 none :: Om) (rm_gw_ dp) 0 (W_X12_workSet dp ad)) (hg6 : jCN l D vwCl (tyR cy) cy ad ftR ksR (XtR ad) yX12_workFold (.code yX12_workFold cX12_workFold 10 none :: Om) (rm_gw_ dp) 0 (W_X12_workFold dp ad)) : jCN l D vwCl (tyR cy) cy ad ftR ksR (XtR ad) yX12_workFold (.code yX12_workFold cX12_workFold 10 none :: Om) (rm_gw_ (dp + 1)) 0 (W_X12_workFold (dp + 1) ad) := by
  refine jCN_of (y := yX12_workFold) (cc := cX12_workFold) (nL := 10) (rk := 0) (rm := (rm_gw_ (dp + 1))) (own := RX12) (tyR_ok cy) hin (XtR_ok ad) Om_good (by decide) rfl ?_
  intro Q av M hF
  obtain ⟨p1, rfl, gp1, hF⟩ := hF
  refine ⟨Nat.le_of_ble_eq_true rfl, fun J hJ => ?_⟩
  show J 0 [(0, .ref (ad 0)), (1, .int (Ii p1))] [] M
  have hF : b_X12_workFold  (gw_  dp) Q p1 M := hF
  unfold b_X12_workFold at hF
  refine j_aload_n hJ dX12_workFold_0 rfl 0 rfl ?_
  refine j_gr (e := 66) hJ kR_0 fR_15_86 fl_X12_272 dX12_workFold_1 rfl ?_
  refine j_iload_n hJ dX12_workFold_4 rfl 1 rfl ?_
  refine j_iald hJ gp1 kR_66 hF.1 hF.2.1 dX12_workFold_5 (fun v1 ev1 gv1 => ?_)
  have hF := hF.2.2 v1 ev1 gv1
  refine j_istore_n (lv' := [(2, .int (Ii v1)), (0, .ref (ad 0)), (1, .int (Ii p1))]) hJ dX12_workFold_6 rfl (by decide) rfl ?_
  refine j_aload_n hJ dX12_workFold_7 rfl 1 rfl ?_
  refine j_gi hJ kR_0 fR_15_101 rfl fl_X12_846 dX12_workFold_8 (fun v2 ev2 gv2 => ?_)
  have hF := hF v2 ev2 gv2
  refine j_istore_n (lv' := [(3, .int (Ii v2)), (2, .int (Ii v1)), (0, .ref (ad 0)), (1, .int (Ii p1))]) hJ dX12_workFold_11 rfl (by decide) rfl ?_
  refine j_aload_n hJ dX12_workFold_12 rfl 2 rfl ?_
  refine j_aload_n hJ dX12_workFold_13 rfl 2 rfl ?_
  refine j_gr (e := 67) hJ kR_0 fR_15_87 fl_X12_275 dX12_workFold_14 rfl ?_
  refine j_iload_n hJ dX12_workFold_17 rfl 3 rfl ?_
  refine j_iald hJ gp1 kR_67 hF.1 hF.2.1 dX12_workFold_18 (fun v3 ev3 gv3 => ?_)
  have hF := hF.2.2 v3 ev3 gv3
  refine j_iload_n hJ dX12_workFold_19 rfl 0 rfl ?_
  refine j_callVv hJ hg5 rfl om_1273 ⟨rfl, rfl, by show _ ≤ _; simp only [rm_gw_]; omega, by show _ ≤ _; simp only [rm_gw_]; omega⟩ [.int (Ii v3), .int (Ii v2)] mv_X12_849 hd_X12_workSetv kR_0 rfl rfl rfl (Nat.le_of_ble_eq_true rfl) dX12_workFold_20 ⟨v3, v2, rfl, gv3, gv2, hF⟩ (fun M5 qM5 => ?_)
  have hF := qM5
  refine j_lconst (x := 0) hJ dX12_workFold_23 rfl ?_
  refine j_lstore (lv' := [(4, .long (Ll 0)), (3, .int (Ii v2)), (2, .int (Ii v1)), (0, .ref (ad 0)), (1, .int (Ii p1))]) hJ dX12_workFold_24 (by decide) rfl ?_
  refine j_iconst hJ dX12_workFold_26 ?_
  refine j_istore (lv' := [(6, .int (Ii 0)), (4, .long (Ll 0)), (3, .int (Ii v2)), (2, .int (Ii v1)), (0, .ref (ad 0)), (1, .int (Ii p1))]) hJ dX12_workFold_27 (by decide) rfl ?_
  refine j_iconst hJ dX12_workFold_29 ?_
  refine j_istore (lv' := [(7, .int (Ii 0)), (6, .int (Ii 0)), (4, .long (Ll 0)), (3, .int (Ii v2)), (2, .int (Ii v1)), (0, .ref (ad 0)), (1, .int (Ii p1))]) hJ dX12_workFold_30 (by decide) rfl ?_
  refine j_aload_n hJ dX12_workFold_32 rfl 5 rfl ?_
  refine j_dup hJ dX12_workFold_33 rfl ?_
  refine j_gi hJ kR_0 fR_15_101 rfl fl_X12_846 dX12_workFold_34 (fun v6 ev6 gv6 => ?_)
  have hF := hF v6 ev6 gv6
  refine j_iconst hJ dX12_workFold_37 ?_
  refine j_iadd hJ dX12_workFold_38 ?_
  have g7 := hF.1; have hF := hF.2
  refine j_pi hJ g7 kR_0 fR_15_101 rfl fp_X12_846 dX12_workFold_39 (fun M8 eM8 => ?_)
  have hF := hF M8 eM8
  refine j_iconst hJ dX12_workFold_42 ?_
  refine j_istore (lv' := [(8, .int (Ii 0)), (7, .int (Ii 0)), (6, .int (Ii 0)), (4, .long (Ll 0)), (3, .int (Ii v2)), (2, .int (Ii v1)), (0, .ref (ad 0)), (1, .int (Ii p1))]) hJ dX12_workFold_43 (by decide) rfl ?_
  exact j_sub hJ [6, 7, 5, 4, 3, 2, 1, 0] rfl (k_X12_workFold_b45 hin  hg0 hg1 hg2 hg3 hg4 hg5 hg6 hJ  p1 v1 v2 0 0 0 0 _ gp1 gv1 gv2 lkm_0 rk_0 rk_0 rk_0 hF)
set_option maxHeartbeats 4000000 in
theorem a_gw_ {l : Launch} {D : va_G} {cy : Nat → ClassId} {ad : Nat → Nat} (hin : jIn ad ksR.length) (dp : Nat) : jCN l D vwCl (tyR cy) cy ad ftR ksR (XtR ad) yX12_work (.code yX12_work cX12_work 3 none :: Om) (rm_gw_ dp) 0 (W_X12_work dp ad) ∧ jCN l D vwCl (tyR cy) cy ad ftR ksR (XtR ad) yX12_workOne (.code yX12_workOne cX12_workOne 5 none :: Om) (rm_gw_ dp) 0 (W_X12_workOne dp ad) ∧ jCN l D vwCl (tyR cy) cy ad ftR ksR (XtR ad) yX12_workPart (.code yX12_workPart cX12_workPart 4 none :: Om) (rm_gw_ dp) 0 (W_X12_workPart dp ad) ∧ jCN l D vwCl (tyR cy) cy ad ftR ksR (XtR ad) yX12_workBoth (.code yX12_workBoth cX12_workBoth 3 none :: Om) (rm_gw_ dp) 0 (W_X12_workBoth dp ad) ∧ jCN l D vwCl (tyR cy) cy ad ftR ksR (XtR ad) yX12_workTwo (.code yX12_workTwo cX12_workTwo 10 none :: Om) (rm_gw_ dp) 0 (W_X12_workTwo dp ad) ∧ jCN l D vwCl (tyR cy) cy ad ftR ksR (XtR ad) yX12_workSet (.code yX12_workSet cX12_workSet 7 none :: Om) (rm_gw_ dp) 0 (W_X12_workSet dp ad) ∧ jCN l D vwCl (tyR cy) cy ad ftR ksR (XtR ad) yX12_workFold (.code yX12_workFold cX12_workFold 10 none :: Om) (rm_gw_ dp) 0 (W_X12_workFold dp ad) := by
  induction dp with
  | zero =>
    exact ⟨(fun post av M sz hR hF => by obtain ⟨p1, rfl, gp1, hF⟩ := hF; exact False.elim hF), (fun post av M sz hR hF => by obtain ⟨p1, rfl, gp1, hF⟩ := hF; exact False.elim hF), (fun post av M sz hR hF => by obtain ⟨p1, rfl, gp1, hF⟩ := hF; exact False.elim hF), (fun post av M sz hR hF => by obtain ⟨p1, p2, rfl, gp1, gp2, hF⟩ := hF; exact False.elim hF), (fun post av M sz hR hF => by obtain ⟨p1, rfl, gp1, hF⟩ := hF; exact False.elim hF), (fun post av M sz hR hF => by obtain ⟨p1, p2, rfl, gp1, gp2, hF⟩ := hF; exact False.elim hF), (fun post av M sz hR hF => by obtain ⟨p1, rfl, gp1, hF⟩ := hF; exact False.elim hF)⟩
  | succ dp ih =>
    obtain ⟨hg0, hg1, hg2, hg3, hg4, hg5, hg6⟩ := ih
    exact ⟨s_X12_work hin hg0 hg1 hg2 hg3 hg4 hg5 hg6, s_X12_workOne hin hg0 hg1 hg2 hg3 hg4 hg5 hg6, s_X12_workPart hin hg0 hg1 hg2 hg3 hg4 hg5 hg6, s_X12_workBoth hin hg0 hg1 hg2 hg3 hg4 hg5 hg6, s_X12_workTwo hin hg0 hg1 hg2 hg3 hg4 hg5 hg6, s_X12_workSet hin hg0 hg1 hg2 hg3 hg4 hg5 hg6, s_X12_workFold hin hg0 hg1 hg2 hg3 hg4 hg5 hg6⟩
theorem c_X12_work {l : Launch} {D : va_G} {cy : Nat → ClassId} {ad : Nat → Nat} (hin : jIn ad ksR.length) : jCN l D vwCl (tyR cy) cy ad ftR ksR (XtR ad) yX12_work (.code yX12_work cX12_work 3 none :: Om) (rm_gw_ 300) 0 (W_X12_work 300 ad) := (a_gw_ hin 300).1
theorem c_X12_workOne {l : Launch} {D : va_G} {cy : Nat → ClassId} {ad : Nat → Nat} (hin : jIn ad ksR.length) : jCN l D vwCl (tyR cy) cy ad ftR ksR (XtR ad) yX12_workOne (.code yX12_workOne cX12_workOne 5 none :: Om) (rm_gw_ 300) 0 (W_X12_workOne 300 ad) := (a_gw_ hin 300).2.1
theorem c_X12_workPart {l : Launch} {D : va_G} {cy : Nat → ClassId} {ad : Nat → Nat} (hin : jIn ad ksR.length) : jCN l D vwCl (tyR cy) cy ad ftR ksR (XtR ad) yX12_workPart (.code yX12_workPart cX12_workPart 4 none :: Om) (rm_gw_ 300) 0 (W_X12_workPart 300 ad) := (a_gw_ hin 300).2.2.1
theorem c_X12_workBoth {l : Launch} {D : va_G} {cy : Nat → ClassId} {ad : Nat → Nat} (hin : jIn ad ksR.length) : jCN l D vwCl (tyR cy) cy ad ftR ksR (XtR ad) yX12_workBoth (.code yX12_workBoth cX12_workBoth 3 none :: Om) (rm_gw_ 300) 0 (W_X12_workBoth 300 ad) := (a_gw_ hin 300).2.2.2.1
theorem c_X12_workTwo {l : Launch} {D : va_G} {cy : Nat → ClassId} {ad : Nat → Nat} (hin : jIn ad ksR.length) : jCN l D vwCl (tyR cy) cy ad ftR ksR (XtR ad) yX12_workTwo (.code yX12_workTwo cX12_workTwo 10 none :: Om) (rm_gw_ 300) 0 (W_X12_workTwo 300 ad) := (a_gw_ hin 300).2.2.2.2.1
theorem c_X12_workSet {l : Launch} {D : va_G} {cy : Nat → ClassId} {ad : Nat → Nat} (hin : jIn ad ksR.length) : jCN l D vwCl (tyR cy) cy ad ftR ksR (XtR ad) yX12_workSet (.code yX12_workSet cX12_workSet 7 none :: Om) (rm_gw_ 300) 0 (W_X12_workSet 300 ad) := (a_gw_ hin 300).2.2.2.2.2.1
theorem c_X12_workFold {l : Launch} {D : va_G} {cy : Nat → ClassId} {ad : Nat → Nat} (hin : jIn ad ksR.length) : jCN l D vwCl (tyR cy) cy ad ftR ksR (XtR ad) yX12_workFold (.code yX12_workFold cX12_workFold 10 none :: Om) (rm_gw_ 300) 0 (W_X12_workFold 300 ad) := (a_gw_ hin 300).2.2.2.2.2.2
