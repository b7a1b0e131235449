def W_X12_thrown (ad : Nat → Nat) (Q : Int → MM → Prop) (av : List Value) (M : MM) : Prop := av = [.ref (ad 0)] ∧ w_X12_thrown  Q  M
set_option maxHeartbeats 4000000 in
set_option maxRecDepth 100000 in
theorem c_X12_thrown {l : Launch} {D : va_G} {cy : Nat → ClassId} {ad : Nat → Nat} (hin : jIn ad ksR.length) : jCN l D vwCl (tyR cy) cy ad ftR ksR (XtR ad) yX12_thrown (.code yX12_thrown cX12_thrown 1 (some .int) :: Om) ({ frames := 0, cells := 0, slots := 0, locals := 0 } : Room) 1 (W_X12_thrown ad) := by
  refine jCN_of (y := yX12_thrown) (cc := cX12_thrown) (nL := 1) (rk := 1) (rm := ({ frames := 0, cells := 0, slots := 0, locals := 0 } : Room)) (own := RX12) (tyR_ok cy) hin (XtR_ok ad) Om_good (by decide) rfl ?_
  intro Q av M hF
  obtain ⟨rfl, hF⟩ := hF
  refine ⟨Nat.le_of_ble_eq_true rfl, fun J hJ => ?_⟩
  show J 0 [(0, .ref (ad 0))] [] M
  unfold w_X12_thrown at hF
  refine j_aload_n hJ dX12_thrown_0 rfl 0 rfl ?_
  refine j_gi hJ kR_0 fR_15_0 rfl fl_X12_388 dX12_thrown_1 (fun v1 ev1 gv1 => ?_)
  have hF := hF v1 ev1 gv1
  exact j_iret hJ rfl gv1 dX12_thrown_4 hF
def W_X12_feed (ad : Nat → Nat) (Q : Int → MM → Prop) (av : List Value) (M : MM) : Prop := ∃ (p1 : Int) (p2 : Int) (p3 : Int) (p4 : Int) (p5 : Int), av = [.ref (ad 0), .int (Ii p1), .int (Ii p2), .int (Ii p3), .int (Ii p4), .int (Ii p5)] ∧ ri_ p1 ∧ ri_ p2 ∧ ri_ p3 ∧ ri_ p4 ∧ ri_ p5 ∧ w_X12_feed  Q p1 p2 p3 p4 p5 M
set_option maxHeartbeats 4000000 in
set_option maxRecDepth 100000 in
theorem k_X12_feed_b8 {l : Launch} {D : va_G} {cy : Nat → ClassId} {ad : Nat → Nat} {Q : Int → MM → Prop} {J : Nat → List (Nat × Value) → List Value → MM → Prop} (hin : jIn ad ksR.length)   (hJ : jOk l D vwCl (tyR cy) cy ad ftR ksR (XtR ad) Om RX12 cX12_feed 8 0 ({ frames := 0, cells := 0, slots := 0, locals := 0 } : Room) Q J)  : ∀ (x1 x2 x3 x4 x5 x6 : Int) (M : MM), ri_ x1 → ri_ x2 → ri_ x3 → ri_ x4 → ri_ x5 → ri_ x6 → w_X12_feed_b8  Q  x1 x2 x3 x4 x5 x6 M → J 8 [(0, .ref (ad 0)), (1, .int (Ii x1)), (2, .int (Ii x2)), (3, .int (Ii x3)), (4, .int (Ii x4)), (5, .int (Ii x5)), (6, .int (Ii x6))] [] M := by
  have H9 : ∀ (n : Nat) (x1 x2 x3 x4 x5 x6 : Int) (M : MM), ri_ x1 → ri_ x2 → ri_ x3 → ri_ x4 → ri_ x5 → ri_ x6 → jit (fun _ _ _ _ _ _ _ => False) (wb_X12_feed_b8  Q ) n x1 x2 x3 x4 x5 x6 M → J 8 [(0, .ref (ad 0)), (1, .int (Ii x1)), (2, .int (Ii x2)), (3, .int (Ii x3)), (4, .int (Ii x4)), (5, .int (Ii x5)), (6, .int (Ii x6))] [] M := by
    intro n
    induction n with
    | zero => intro x1 x2 x3 x4 x5 x6 M gx1 gx2 gx3 gx4 gx5 gx6 hF; exact False.elim hF
    | succ n ih =>
    intro x1 x2 x3 x4 x5 x6 M gx1 gx2 gx3 gx4 gx5 gx6 hF
    have hF : wb_X12_feed_b8  Q  (jit (fun _ _ _ _ _ _ _ => False) (wb_X12_feed_b8  Q ) n) x1 x2 x3 x4 x5 x6 M := hF
    unfold wb_X12_feed_b8 at hF
    refine j_iload hJ dX12_feed_8 6 rfl ?_
    refine j_iconst hJ dX12_feed_10 ?_
    refine j_icmp_ge hJ 103 gx6 rk_4 dX12_feed_11 (by decide) (fun z1 => ?_) (fun z1 => ?_)
    · have hF := hF.1 z1
      exact j_vret hJ rfl dX12_feed_103 hF
    · have hF := hF.2 z1
      refine j_bipush hJ dX12_feed_14 (by decide) ?_
      refine j_bipush hJ dX12_feed_16 (by decide) ?_
      refine j_iload hJ dX12_feed_18 6 rfl ?_
      refine j_imul hJ dX12_feed_20 ?_
      have g2 := hF.1; have hF := hF.2
      refine j_isub hJ dX12_feed_21 ?_
      have g3 := hF.1; have hF := hF.2
      refine j_istore (lv' := [(7, .int (Ii (24 - (8 * x6)))), (0, .ref (ad 0)), (1, .int (Ii x1)), (2, .int (Ii x2)), (3, .int (Ii x3)), (4, .int (Ii x4)), (5, .int (Ii x5)), (6, .int (Ii x6))]) hJ dX12_feed_22 (by decide) rfl ?_
      refine j_aload_n hJ dX12_feed_24 rfl 1 rfl ?_
      refine j_gr (e := 2) hJ kR_0 fR_15_2 fl_X12_13 dX12_feed_25 rfl ?_
      refine j_iload hJ dX12_feed_28 7 rfl ?_
      refine j_iload_n hJ dX12_feed_30 rfl 2 rfl ?_
      refine j_iload hJ dX12_feed_31 0 rfl ?_
      refine j_ishr hJ dX12_feed_33 ?_
      refine j_i2b hJ dX12_feed_34 ?_
      refine j_bast hJ gx6 (ji2b_b _) kR_2 hF.1 hF.2.1 dX12_feed_35 (fun M4 eM4 => ?_)
      have hF := hF.2.2 M4 eM4
      refine j_aload_n hJ dX12_feed_36 rfl 1 rfl ?_
      refine j_gr (e := 2) hJ kR_0 fR_15_2 fl_X12_13 dX12_feed_37 rfl ?_
      refine j_iconst hJ dX12_feed_40 ?_
      refine j_iload hJ dX12_feed_41 7 rfl ?_
      refine j_iadd hJ dX12_feed_43 ?_
      have g5 := hF.1; have hF := hF.2
      refine j_iload_n hJ dX12_feed_44 rfl 3 rfl ?_
      refine j_iload hJ dX12_feed_45 0 rfl ?_
      refine j_ishr hJ dX12_feed_47 ?_
      refine j_i2b hJ dX12_feed_48 ?_
      refine j_bast hJ g5 (ji2b_b _) kR_2 hF.1 hF.2.1 dX12_feed_49 (fun M6 eM6 => ?_)
      have hF := hF.2.2 M6 eM6
      refine j_aload_n hJ dX12_feed_50 rfl 1 rfl ?_
      refine j_gr (e := 2) hJ kR_0 fR_15_2 fl_X12_13 dX12_feed_51 rfl ?_
      refine j_bipush hJ dX12_feed_54 (by decide) ?_
      refine j_iload hJ dX12_feed_56 7 rfl ?_
      refine j_iadd hJ dX12_feed_58 ?_
      have g7 := hF.1; have hF := hF.2
      refine j_iload_n hJ dX12_feed_59 rfl 4 rfl ?_
      refine j_iload hJ dX12_feed_60 0 rfl ?_
      refine j_ishr hJ dX12_feed_62 ?_
      refine j_i2b hJ dX12_feed_63 ?_
      refine j_bast hJ g7 (ji2b_b _) kR_2 hF.1 hF.2.1 dX12_feed_64 (fun M8 eM8 => ?_)
      have hF := hF.2.2 M8 eM8
      refine j_aload_n hJ dX12_feed_65 rfl 1 rfl ?_
      refine j_gr (e := 2) hJ kR_0 fR_15_2 fl_X12_13 dX12_feed_66 rfl ?_
      refine j_bipush hJ dX12_feed_69 (by decide) ?_
      refine j_iload hJ dX12_feed_71 7 rfl ?_
      refine j_iadd hJ dX12_feed_73 ?_
      have g9 := hF.1; have hF := hF.2
      refine j_iload hJ dX12_feed_74 5 rfl ?_
      refine j_iload hJ dX12_feed_76 0 rfl ?_
      refine j_ishr hJ dX12_feed_78 ?_
      refine j_i2b hJ dX12_feed_79 ?_
      refine j_bast hJ g9 (ji2b_b _) kR_2 hF.1 hF.2.1 dX12_feed_80 (fun M10 eM10 => ?_)
      have hF := hF.2.2 M10 eM10
      refine j_aload_n hJ dX12_feed_81 rfl 1 rfl ?_
      refine j_gr (e := 2) hJ kR_0 fR_15_2 fl_X12_13 dX12_feed_82 rfl ?_
      refine j_bipush hJ dX12_feed_85 (by decide) ?_
      refine j_iload hJ dX12_feed_87 7 rfl ?_
      refine j_iadd hJ dX12_feed_89 ?_
      have g11 := hF.1; have hF := hF.2
      refine j_iload hJ dX12_feed_90 6 rfl ?_
      refine j_iload hJ dX12_feed_92 0 rfl ?_
      refine j_ishr hJ dX12_feed_94 ?_
      refine j_i2b hJ dX12_feed_95 ?_
      refine j_bast hJ g11 (ji2b_b _) kR_2 hF.1 hF.2.1 dX12_feed_96 (fun M12 eM12 => ?_)
      have hF := hF.2.2 M12 eM12
      refine j_iinc (lv' := [(6, .int (Ii (x6 + 1))), (7, .int (Ii (24 - (8 * x6)))), (0, .ref (ad 0)), (1, .int (Ii x1)), (2, .int (Ii x2)), (3, .int (Ii x3)), (4, .int (Ii x4)), (5, .int (Ii x5))]) (k := 7) hJ dX12_feed_97 rfl (by decide) rfl ?_
      have g13 := hF.1; have hF := hF.2
      refine j_goto hJ 8 dX12_feed_100 (by decide) ?_
      exact j_sub hJ [2, 3, 4, 5, 6, 7, 0] rfl (ih x1 x2 x3 x4 x5 (x6 + 1) _ gx1 gx2 gx3 gx4 gx5 g13 hF)
  intro x1 x2 x3 x4 x5 x6 M gx1 gx2 gx3 gx4 gx5 gx6 hF
  obtain ⟨n, hF⟩ := hF
  exact H9 n x1 x2 x3 x4 x5 x6 M gx1 gx2 gx3 gx4 gx5 gx6 hF
set_option maxHeartbeats 4000000 in
set_option maxRecDepth 100000 in
theorem c_X12_feed {l : Launch} {D : va_G} {cy : Nat → ClassId} {ad : Nat → Nat} (hin : jIn ad ksR.length) : jCN l D vwCl (tyR cy) cy ad ftR ksR (XtR ad) yX12_feed (.code yX12_feed cX12_feed 8 none :: Om) ({ frames := 0, cells := 0, slots := 0, locals := 0 } : Room) 0 (W_X12_feed ad) := by
  refine jCN_of (y := yX12_feed) (cc := cX12_feed) (nL := 8) (rk := 0) (rm := ({ frames := 0, cells := 0, slots := 0, locals := 0 } : Room)) (own := RX12) (tyR_ok cy) hin (XtR_ok ad) Om_good (by decide) rfl ?_
  intro Q av M hF
  obtain ⟨p1, p2, p3, p4, p5, rfl, gp1, gp2, gp3, gp4, gp5, hF⟩ := hF
  refine ⟨Nat.le_of_ble_eq_true rfl, fun J hJ => ?_⟩
  show J 0 [(0, .ref (ad 0)), (1, .int (Ii p1)), (2, .int (Ii p2)), (3, .int (Ii p3)), (4, .int (Ii p4)), (5, .int (Ii p5))] [] M
  unfold w_X12_feed at hF
  refine j_aload_n hJ dX12_feed_0 rfl 0 rfl ?_
  refine j_iconst hJ dX12_feed_1 ?_
  refine j_pi hJ rk_0 kR_0 fR_15_0 rfl fp_X12_388 dX12_feed_2 (fun M1 eM1 => ?_)
  have hF := hF M1 eM1
  refine j_iconst hJ dX12_feed_5 ?_
  refine j_istore (lv' := [(6, .int (Ii 0)), (0, .ref (ad 0)), (1, .int (Ii p1)), (2, .int (Ii p2)), (3, .int (Ii p3)), (4, .int (Ii p4)), (5, .int (Ii p5))]) hJ dX12_feed_6 (by decide) rfl ?_
  exact j_sub hJ [1, 2, 3, 4, 5, 6, 0] rfl (k_X12_feed_b8 hin  hJ  p1 p2 p3 p4 p5 0 _ gp1 gp2 gp3 gp4 gp5 rk_0 hF)
def W_X12_end (ad : Nat → Nat) (Q : Int → MM → Prop) (av : List Value) (M : MM) : Prop := ∃ (p1 : Int), av = [.ref (ad 0), .int (Ii p1)] ∧ ri_ p1 ∧ w_X12_end  Q p1 M
set_option maxHeartbeats 4000000 in
set_option maxRecDepth 100000 in
theorem k_X12_end_b71 {l : Launch} {D : va_G} {cy : Nat → ClassId} {ad : Nat → Nat} {Q : Int → MM → Prop} {J : Nat → List (Nat × Value) → List Value → MM → Prop} (hin : jIn ad ksR.length)   (hJ : jOk l D vwCl (tyR cy) cy ad ftR ksR (XtR ad) Om RX12 cX12_end 3 1 ({ frames := 0, cells := 0, slots := 0, locals := 0 } : Room) Q J)  : ∀ (x2 : Int) (M : MM), ri_ x2 → w_X12_end_b71  Q  x2 M → J 71 [(0, .ref (ad 0)), (2, .int (Ii x2))] [] M := by
  have H9 : ∀ (n : Nat) (x2 : Int) (M : MM), ri_ x2 → jit (fun _ _ => False) (wb_X12_end_b71  Q ) n x2 M → J 71 [(0, .ref (ad 0)), (2, .int (Ii x2))] [] M := by
    intro n
    induction n with
    | zero => intro x2 M gx2 hF; exact False.elim hF
    | succ n ih =>
    intro x2 M gx2 hF
    have hF : wb_X12_end_b71  Q  (jit (fun _ _ => False) (wb_X12_end_b71  Q ) n) x2 M := hF
    unfold wb_X12_end_b71 at hF
    refine j_iload_n hJ dX12_end_71 rfl 1 rfl ?_
    refine j_bipush hJ dX12_end_72 (by decide) ?_
    refine j_icmp_ge hJ 90 gx2 rk_20 dX12_end_74 (by decide) (fun z1 => ?_) (fun z1 => ?_)
    · have hF := hF.1 z1
      refine j_aload_n hJ dX12_end_90 rfl 0 rfl ?_
      refine j_gi hJ kR_0 fR_15_3 rfl fl_X12_391 dX12_end_91 (fun v2 ev2 gv2 => ?_)
      have hF := hF v2 ev2 gv2
      exact j_iret hJ rfl gv2 dX12_end_94 hF
    · have hF := hF.2 z1
      refine j_aload_n hJ dX12_end_77 rfl 0 rfl ?_
      refine j_gr (e := 2) hJ kR_0 fR_15_2 fl_X12_13 dX12_end_78 rfl ?_
      refine j_iload_n hJ dX12_end_81 rfl 1 rfl ?_
      refine j_iconst hJ dX12_end_82 ?_
      refine j_bast hJ gx2 (by omega) kR_2 hF.1 hF.2.1 dX12_end_83 (fun M3 eM3 => ?_)
      have hF := hF.2.2 M3 eM3
      refine j_iinc (lv' := [(2, .int (Ii (x2 + 1))), (0, .ref (ad 0))]) (k := 1) hJ dX12_end_84 rfl (by decide) rfl ?_
      have g4 := hF.1; have hF := hF.2
      refine j_goto hJ 71 dX12_end_87 (by decide) ?_
      exact j_sub hJ [1, 0] rfl (ih (x2 + 1) _ g4 hF)
  intro x2 M gx2 hF
  obtain ⟨n, hF⟩ := hF
  exact H9 n x2 M gx2 hF
set_option maxHeartbeats 4000000 in
set_option maxRecDepth 100000 in
theorem k_X12_end_b31 {l : Launch} {D : va_G} {cy : Nat → ClassId} {ad : Nat → Nat} {Q : Int → MM → Prop} {J : Nat → List (Nat × Value) → List Value → MM → Prop} (hin : jIn ad ksR.length)   (hJ : jOk l D vwCl (tyR cy) cy ad ftR ksR (XtR ad) Om RX12 cX12_end 3 1 ({ frames := 0, cells := 0, slots := 0, locals := 0 } : Room) Q J)  : ∀ (x1 x2 : Int) (M : MM), ri_ x1 → ri_ x2 → w_X12_end_b31  Q  x1 x2 M → J 31 [(0, .ref (ad 0)), (1, .int (Ii x1)), (2, .int (Ii x2))] [] M := by
  have H9 : ∀ (n : Nat) (x1 x2 : Int) (M : MM), ri_ x1 → ri_ x2 → jit (fun _ _ _ => False) (wb_X12_end_b31  Q ) n x1 x2 M → J 31 [(0, .ref (ad 0)), (1, .int (Ii x1)), (2, .int (Ii x2))] [] M := by
    intro n
    induction n with
    | zero => intro x1 x2 M gx1 gx2 hF; exact False.elim hF
    | succ n ih =>
    intro x1 x2 M gx1 gx2 hF
    have hF : wb_X12_end_b31  Q  (jit (fun _ _ _ => False) (wb_X12_end_b31  Q ) n) x1 x2 M := hF
    unfold wb_X12_end_b31 at hF
    refine j_iload_n hJ dX12_end_31 rfl 2 rfl ?_
    refine j_iload_n hJ dX12_end_32 rfl 1 rfl ?_
    refine j_icmp_ge hJ 59 gx2 gx1 dX12_end_33 (by decide) (fun z1 => ?_) (fun z1 => ?_)
    · have hF := hF.1 z1
      refine j_aload_n hJ dX12_end_59 rfl 0 rfl ?_
      refine j_dup hJ dX12_end_60 rfl ?_
      refine j_gi hJ kR_0 fR_15_3 rfl fl_X12_391 dX12_end_61 (fun v2 ev2 gv2 => ?_)
      have hF := hF v2 ev2 gv2
      refine j_iload_n hJ dX12_end_64 rfl 1 rfl ?_
      refine j_iadd hJ dX12_end_65 ?_
      have g3 := hF.1; have hF := hF.2
      refine j_pi hJ g3 kR_0 fR_15_3 rfl fp_X12_391 dX12_end_66 (fun M4 eM4 => ?_)
      have hF := hF M4 eM4
      refine j_iconst hJ dX12_end_69 ?_
      refine j_istore_n (lv' := [(2, .int (Ii 0)), (0, .ref (ad 0)), (1, .int (Ii x1))]) hJ dX12_end_70 rfl (by decide) rfl ?_
      exact j_sub hJ [1, 0] rfl (k_X12_end_b71 hin  hJ  0 _ rk_0 hF)
    · have hF := hF.2 z1
      refine j_aload_n hJ dX12_end_36 rfl 0 rfl ?_
      refine j_gr (e := 1) hJ kR_0 fR_15_1 fl_X12_7 dX12_end_37 rfl ?_
      refine j_aload_n hJ dX12_end_40 rfl 0 rfl ?_
      refine j_gi hJ kR_0 fR_15_3 rfl fl_X12_391 dX12_end_41 (fun v5 ev5 gv5 => ?_)
      have hF := hF v5 ev5 gv5
      refine j_iload_n hJ dX12_end_44 rfl 2 rfl ?_
      refine j_iadd hJ dX12_end_45 ?_
      have g6 := hF.1; have hF := hF.2
      refine j_aload_n hJ dX12_end_46 rfl 0 rfl ?_
      refine j_gr (e := 2) hJ kR_0 fR_15_2 fl_X12_13 dX12_end_47 rfl ?_
      refine j_iload_n hJ dX12_end_50 rfl 2 rfl ?_
      refine j_bald hJ gx2 kR_2 hF.1 hF.2.1 dX12_end_51 (fun v7 ev7 gv7 => ?_)
      have hF := hF.2.2 v7 ev7 gv7
      refine j_bast hJ g6 gv7 kR_1 hF.1 hF.2.1 dX12_end_52 (fun M8 eM8 => ?_)
      have hF := hF.2.2 M8 eM8
      refine j_iinc (lv' := [(2, .int (Ii (x2 + 1))), (0, .ref (ad 0)), (1, .int (Ii x1))]) (k := 2) hJ dX12_end_53 rfl (by decide) rfl ?_
      have g9 := hF.1; have hF := hF.2
      refine j_goto hJ 31 dX12_end_56 (by decide) ?_
      exact j_sub hJ [1, 2, 0] rfl (ih x1 (x2 + 1) _ gx1 g9 hF)
  intro x1 x2 M gx1 gx2 hF
  obtain ⟨n, hF⟩ := hF
  exact H9 n x1 x2 M gx1 gx2 hF
set_option maxHeartbeats 4000000 in
set_option maxRecDepth 100000 in
theorem c_X12_end {l : Launch} {D : va_G} {cy : Nat → ClassId} {ad : Nat → Nat} (hin : jIn ad ksR.length) : jCN l D vwCl (tyR cy) cy ad ftR ksR (XtR ad) yX12_end (.code yX12_end cX12_end 3 (some .int) :: Om) ({ frames := 0, cells := 0, slots := 0, locals := 0 } : Room) 1 (W_X12_end ad) := by
  refine jCN_of (y := yX12_end) (cc := cX12_end) (nL := 3) (rk := 1) (rm := ({ frames := 0, cells := 0, slots := 0, locals := 0 } : Room)) (own := RX12) (tyR_ok cy) hin (XtR_ok ad) Om_good (by decide) rfl ?_
  intro Q av M hF
  obtain ⟨p1, rfl, gp1, hF⟩ := hF
  refine ⟨Nat.le_of_ble_eq_true rfl, fun J hJ => ?_⟩
  show J 0 [(0, .ref (ad 0)), (1, .int (Ii p1))] [] M
  unfold w_X12_end at hF
  refine j_aload_n hJ dX12_end_0 rfl 0 rfl ?_
  refine j_iconst hJ dX12_end_1 ?_
  refine j_pi hJ rk_0 kR_0 fR_15_0 rfl fp_X12_388 dX12_end_2 (fun M1 eM1 => ?_)
  have hF := hF M1 eM1
  refine j_iload_n hJ dX12_end_5 rfl 1 rfl ?_
  refine j_if_lt hJ 27 gp1 dX12_end_6 (by decide) (fun z2 => ?_) (fun z2 => ?_)
  · have hF := hF.1 z2
    refine j_iconst hJ dX12_end_27 ?_
    exact j_iret hJ rfl rk_m1 dX12_end_28 hF
  · have hF := hF.2 z2
    refine j_iload_n hJ dX12_end_9 rfl 1 rfl ?_
    refine j_bipush hJ dX12_end_10 (by decide) ?_
    refine j_icmp_gt hJ 27 gp1 rk_20 dX12_end_12 (by decide) (fun z3 => ?_) (fun z3 => ?_)
    · have hF := hF.1 z3
      refine j_iconst hJ dX12_end_27 ?_
      exact j_iret hJ rfl rk_m1 dX12_end_28 hF
    · have hF := hF.2 z3
      refine j_aload_n hJ dX12_end_15 rfl 0 rfl ?_
      refine j_gi hJ kR_0 fR_15_3 rfl fl_X12_391 dX12_end_16 (fun v4 ev4 gv4 => ?_)
      have hF := hF v4 ev4 gv4
      refine j_iload_n hJ dX12_end_19 rfl 1 rfl ?_
      refine j_iadd hJ dX12_end_20 ?_
      have g5 := hF.1; have hF := hF.2
      refine j_sipush hJ dX12_end_21 (by decide) ?_
      refine j_icmp_le hJ 29 g5 rk_4000 dX12_end_24 (by decide) (fun z6 => ?_) (fun z6 => ?_)
      · have hF := hF.1 z6
        refine j_iconst hJ dX12_end_29 ?_
        refine j_istore_n (lv' := [(2, .int (Ii 0)), (0, .ref (ad 0)), (1, .int (Ii p1))]) hJ dX12_end_30 rfl (by decide) rfl ?_
        exact j_sub hJ [1, 2, 0] rfl (k_X12_end_b31 hin  hJ  p1 0 _ gp1 rk_0 hF)
      · have hF := hF.2 z6
        refine j_iconst hJ dX12_end_27 ?_
        exact j_iret hJ rfl rk_m1 dX12_end_28 hF
def W_X12_wipe (ad : Nat → Nat) (Q : Int → MM → Prop) (av : List Value) (M : MM) : Prop := av = [.ref (ad 0)] ∧ w_X12_wipe  Q  M
set_option maxHeartbeats 4000000 in
set_option maxRecDepth 100000 in
theorem c_X12_wipe {l : Launch} {D : va_G} {cy : Nat → ClassId} {ad : Nat → Nat} (hin : jIn ad ksR.length) : jCN l D vwCl (tyR cy) cy ad ftR ksR (XtR ad) yX12_wipe (.code yX12_wipe cX12_wipe 1 none :: Om) ({ frames := 0, cells := 0, slots := 0, locals := 0 } : Room) 0 (W_X12_wipe ad) := by
  refine jCN_of (y := yX12_wipe) (cc := cX12_wipe) (nL := 1) (rk := 0) (rm := ({ frames := 0, cells := 0, slots := 0, locals := 0 } : Room)) (own := RX12) (tyR_ok cy) hin (XtR_ok ad) Om_good (by decide) rfl ?_
  intro Q av M hF
  obtain ⟨rfl, hF⟩ := hF
  refine ⟨Nat.le_of_ble_eq_true rfl, fun J hJ => ?_⟩
  show J 0 [(0, .ref (ad 0))] [] M
  unfold w_X12_wipe at hF
  refine j_aload_n hJ dX12_wipe_0 rfl 0 rfl ?_
  refine j_iconst hJ dX12_wipe_1 ?_
  refine j_pi hJ rk_0 kR_0 fR_15_0 rfl fp_X12_388 dX12_wipe_2 (fun M1 eM1 => ?_)
  have hF := hF M1 eM1
  refine j_aload_n hJ dX12_wipe_5 rfl 0 rfl ?_
  refine j_iconst hJ dX12_wipe_6 ?_
  refine j_pi hJ rk_0 kR_0 fR_15_3 rfl fp_X12_391 dX12_wipe_7 (fun M2 eM2 => ?_)
  have hF := hF M2 eM2
  exact j_vret hJ rfl dX12_wipe_10 hF
def W_X12_flip (ad : Nat → Nat) (Q : Int → MM → Prop) (av : List Value) (M : MM) : Prop := ∃ (p1 : Int) (p2 : Int), av = [.ref (ad 0), .int (Ii p1), .int (Ii p2)] ∧ ri_ p1 ∧ ri_ p2 ∧ w_X12_flip  Q p1 p2 M
set_option maxHeartbeats 4000000 in
set_option maxRecDepth 100000 in
theorem c_X12_flip {l : Launch} {D : va_G} {cy : Nat → ClassId} {ad : Nat → Nat} (hin : jIn ad ksR.length) : jCN l D vwCl (tyR cy) cy ad ftR ksR (XtR ad) yX12_flip (.code yX12_flip cX12_flip 3 (some .boolean) :: Om) ({ frames := 0, cells := 0, slots := 0, locals := 0 } : Room) 3 (W_X12_flip ad) := by
  refine jCN_of (y := yX12_flip) (cc := cX12_flip) (nL := 3) (rk := 3) (rm := ({ frames := 0, cells := 0, slots := 0, locals := 0 } : Room)) (own := RX12) (tyR_ok cy) hin (XtR_ok ad) Om_good (by decide) rfl ?_
  intro Q av M hF
  obtain ⟨p1, p2, rfl, gp1, gp2, hF⟩ := hF
  refine ⟨Nat.le_of_ble_eq_true rfl, fun J hJ => ?_⟩
  show J 0 [(0, .ref (ad 0)), (1, .int (Ii p1)), (2, .int (Ii p2))] [] M
  unfold w_X12_flip at hF
  refine j_aload_n hJ dX12_flip_0 rfl 0 rfl ?_
  refine j_iconst hJ dX12_flip_1 ?_
  refine j_pi hJ rk_0 kR_0 fR_15_0 rfl fp_X12_388 dX12_flip_2 (fun M1 eM1 => ?_)
  have hF := hF M1 eM1
  refine j_iload_n hJ dX12_flip_5 rfl 1 rfl ?_
  refine j_if_lt hJ 27 gp1 dX12_flip_6 (by decide) (fun z2 => ?_) (fun z2 => ?_)
  · have hF := hF.1 z2
    refine j_iconst hJ dX12_flip_27 ?_
    exact j_zret hJ rfl (by decide) dX12_flip_28 hF
  · have hF := hF.2 z2
    refine j_iload_n hJ dX12_flip_9 rfl 1 rfl ?_
    refine j_aload_n hJ dX12_flip_10 rfl 0 rfl ?_
    refine j_gi hJ kR_0 fR_15_3 rfl fl_X12_391 dX12_flip_11 (fun v3 ev3 gv3 => ?_)
    have hF := hF v3 ev3 gv3
    refine j_icmp_ge hJ 27 gp1 gv3 dX12_flip_14 (by decide) (fun z4 => ?_) (fun z4 => ?_)
    · have hF := hF.1 z4
      refine j_iconst hJ dX12_flip_27 ?_
      exact j_zret hJ rfl (by decide) dX12_flip_28 hF
    · have hF := hF.2 z4
      refine j_iload_n hJ dX12_flip_17 rfl 2 rfl ?_
      refine j_if_lt hJ 27 gp2 dX12_flip_18 (by decide) (fun z5 => ?_) (fun z5 => ?_)
      · have hF := hF.1 z5
        refine j_iconst hJ dX12_flip_27 ?_
        exact j_zret hJ rfl (by decide) dX12_flip_28 hF
      · have hF := hF.2 z5
        refine j_iload_n hJ dX12_flip_21 rfl 2 rfl ?_
        refine j_bipush hJ dX12_flip_22 (by decide) ?_
        refine j_icmp_le hJ 29 gp2 rk_7 dX12_flip_24 (by decide) (fun z6 => ?_) (fun z6 => ?_)
        · have hF := hF.1 z6
          refine j_aload_n hJ dX12_flip_29 rfl 0 rfl ?_
          refine j_gr (e := 1) hJ kR_0 fR_15_1 fl_X12_7 dX12_flip_30 rfl ?_
          refine j_iload_n hJ dX12_flip_33 rfl 1 rfl ?_
          refine j_aload_n hJ dX12_flip_34 rfl 0 rfl ?_
          refine j_gr (e := 1) hJ kR_0 fR_15_1 fl_X12_7 dX12_flip_35 rfl ?_
          refine j_iload_n hJ dX12_flip_38 rfl 1 rfl ?_
          refine j_bald hJ gp1 kR_1 hF.1 hF.2.1 dX12_flip_39 (fun v7 ev7 gv7 => ?_)
          have hF := hF.2.2 v7 ev7 gv7
          refine j_iconst hJ dX12_flip_40 ?_
          refine j_iload_n hJ dX12_flip_41 rfl 2 rfl ?_
          refine j_ishl hJ dX12_flip_42 ?_
          refine j_ixor hJ dX12_flip_43 ?_
          refine j_i2b hJ dX12_flip_44 ?_
          refine j_bast hJ gp1 (ji2b_b _) kR_1 hF.1 hF.2.1 dX12_flip_45 (fun M8 eM8 => ?_)
          have hF := hF.2.2 M8 eM8
          refine j_iconst hJ dX12_flip_46 ?_
          exact j_zret hJ rfl (by decide) dX12_flip_47 hF
        · have hF := hF.2 z6
          refine j_iconst hJ dX12_flip_27 ?_
          exact j_zret hJ rfl (by decide) dX12_flip_28 hF
def W_X12_cut (ad : Nat → Nat) (Q : Int → MM → Prop) (av : List Value) (M : MM) : Prop := ∃ (p1 : Int), av = [.ref (ad 0), .int (Ii p1)] ∧ ri_ p1 ∧ w_X12_cut  Q p1 M
set_option maxHeartbeats 4000000 in
set_option maxRecDepth 100000 in
theorem c_X12_cut {l : Launch} {D : va_G} {cy : Nat → ClassId} {ad : Nat → Nat} (hin : jIn ad ksR.length) : jCN l D vwCl (tyR cy) cy ad ftR ksR (XtR ad) yX12_cut (.code yX12_cut cX12_cut 2 (some .boolean) :: Om) ({ frames := 0, cells := 0, slots := 0, locals := 0 } : Room) 3 (W_X12_cut ad) := by
  refine jCN_of (y := yX12_cut) (cc := cX12_cut) (nL := 2) (rk := 3) (rm := ({ frames := 0, cells := 0, slots := 0, locals := 0 } : Room)) (own := RX12) (tyR_ok cy) hin (XtR_ok ad) Om_good (by decide) rfl ?_
  intro Q av M hF
  obtain ⟨p1, rfl, gp1, hF⟩ := hF
  refine ⟨Nat.le_of_ble_eq_true rfl, fun J hJ => ?_⟩
  show J 0 [(0, .ref (ad 0)), (1, .int (Ii p1))] [] M
  unfold w_X12_cut at hF
  refine j_aload_n hJ dX12_cut_0 rfl 0 rfl ?_
  refine j_iconst hJ dX12_cut_1 ?_
  refine j_pi hJ rk_0 kR_0 fR_15_0 rfl fp_X12_388 dX12_cut_2 (fun M1 eM1 => ?_)
  have hF := hF M1 eM1
  refine j_iload_n hJ dX12_cut_5 rfl 1 rfl ?_
  refine j_if_lt hJ 17 gp1 dX12_cut_6 (by decide) (fun z2 => ?_) (fun z2 => ?_)
  · have hF := hF.1 z2
    refine j_iconst hJ dX12_cut_17 ?_
    exact j_zret hJ rfl (by decide) dX12_cut_18 hF
  · have hF := hF.2 z2
    refine j_iload_n hJ dX12_cut_9 rfl 1 rfl ?_
    refine j_aload_n hJ dX12_cut_10 rfl 0 rfl ?_
    refine j_gi hJ kR_0 fR_15_3 rfl fl_X12_391 dX12_cut_11 (fun v3 ev3 gv3 => ?_)
    have hF := hF v3 ev3 gv3
    refine j_icmp_le hJ 19 gp1 gv3 dX12_cut_14 (by decide) (fun z4 => ?_) (fun z4 => ?_)
    · have hF := hF.1 z4
      refine j_aload_n hJ dX12_cut_19 rfl 0 rfl ?_
      refine j_iload_n hJ dX12_cut_20 rfl 1 rfl ?_
      refine j_pi hJ gp1 kR_0 fR_15_3 rfl fp_X12_391 dX12_cut_21 (fun M5 eM5 => ?_)
      have hF := hF M5 eM5
      refine j_iconst hJ dX12_cut_24 ?_
      exact j_zret hJ rfl (by decide) dX12_cut_25 hF
    · have hF := hF.2 z4
      refine j_iconst hJ dX12_cut_17 ?_
      exact j_zret hJ rfl (by decide) dX12_cut_18 hF
def W_X12_isLetter (ad : Nat → Nat) (Q : Int → MM → Prop) (av : List Value) (M : MM) : Prop := ∃ (p1 : Int), av = [.int (Ii p1)] ∧ ri_ p1 ∧ w_X12_isLetter  Q p1 M
set_option maxHeartbeats 4000000 in
set_option maxRecDepth 100000 in
theorem k_X12_isLetter_b12 {l : Launch} {D : va_G} {cy : Nat → ClassId} {ad : Nat → Nat} {Q : Int → MM → Prop} {J : Nat → List (Nat × Value) → List Value → MM → Prop} (hin : jIn ad ksR.length)   (hJ : jOk l D vwCl (tyR cy) cy ad ftR ksR (XtR ad) Om RX12 cX12_isLetter 1 3 ({ frames := 0, cells := 0, slots := 0, locals := 0 } : Room) Q J)  : ∀ (x0 : Int) (M : MM), ri_ x0 → w_X12_isLetter_b12  Q  x0 M → J 12 [(0, .int (Ii x0))] [] M := by
  intro x0 M gx0 hF
  unfold w_X12_isLetter_b12 at hF
  refine j_iload_n hJ dX12_isLetter_12 rfl 0 rfl ?_
  refine j_bipush hJ dX12_isLetter_13 (by decide) ?_
  refine j_icmp_lt hJ 28 gx0 rk_97 dX12_isLetter_15 (by decide) (fun z1 => ?_) (fun z1 => ?_)
  · have hF := hF.1 z1
    refine j_iconst hJ dX12_isLetter_28 ?_
    exact j_zret hJ rfl (by decide) dX12_isLetter_29 hF
  · have hF := hF.2 z1
    refine j_iload_n hJ dX12_isLetter_18 rfl 0 rfl ?_
    refine j_bipush hJ dX12_isLetter_19 (by decide) ?_
    refine j_icmp_gt hJ 28 gx0 rk_122 dX12_isLetter_21 (by decide) (fun z2 => ?_) (fun z2 => ?_)
    · have hF := hF.1 z2
      refine j_iconst hJ dX12_isLetter_28 ?_
      exact j_zret hJ rfl (by decide) dX12_isLetter_29 hF
    · have hF := hF.2 z2
      refine j_iconst hJ dX12_isLetter_24 ?_
      refine j_goto hJ 29 dX12_isLetter_25 (by decide) ?_
      exact j_zret hJ rfl (by decide) dX12_isLetter_29 hF
set_option maxHeartbeats 4000000 in
set_option maxRecDepth 100000 in
theorem c_X12_isLetter {l : Launch} {D : va_G} {cy : Nat → ClassId} {ad : Nat → Nat} (hin : jIn ad ksR.length) : jCN l D vwCl (tyR cy) cy ad ftR ksR (XtR ad) yX12_isLetter (.code yX12_isLetter cX12_isLetter 1 (some .boolean) :: Om) ({ frames := 0, cells := 0, slots := 0, locals := 0 } : Room) 3 (W_X12_isLetter ad) := by
  refine jCN_of (y := yX12_isLetter) (cc := cX12_isLetter) (nL := 1) (rk := 3) (rm := ({ frames := 0, cells := 0, slots := 0, locals := 0 } : Room)) (own := RX12) (tyR_ok cy) hin (XtR_ok ad) Om_good (by decide) rfl ?_
  intro Q av M hF
  obtain ⟨p1, rfl, gp1, hF⟩ := hF
  refine ⟨Nat.le_of_ble_eq_true rfl, fun J hJ => ?_⟩
  show J 0 [(0, .int (Ii p1))] [] M
  unfold w_X12_isLetter at hF
  refine j_iload_n hJ dX12_isLetter_0 rfl 0 rfl ?_
  refine j_bipush hJ dX12_isLetter_1 (by decide) ?_
  refine j_icmp_lt hJ 12 gp1 rk_65 dX12_isLetter_3 (by decide) (fun z1 => ?_) (fun z1 => ?_)
  · have hF := hF.1 z1
    exact j_sub hJ [0] rfl (k_X12_isLetter_b12 hin  hJ  p1 _ gp1 hF)
  · have hF := hF.2 z1
    refine j_iload_n hJ dX12_isLetter_6 rfl 0 rfl ?_
    refine j_bipush hJ dX12_isLetter_7 (by decide) ?_
    refine j_icmp_le hJ 24 gp1 rk_90 dX12_isLetter_9 (by decide) (fun z2 => ?_) (fun z2 => ?_)
    · have hF := hF.1 z2
      refine j_iconst hJ dX12_isLetter_24 ?_
      refine j_goto hJ 29 dX12_isLetter_25 (by decide) ?_
      exact j_zret hJ rfl (by decide) dX12_isLetter_29 hF
    · have hF := hF.2 z2
      exact j_sub hJ [0] rfl (k_X12_isLetter_b12 hin  hJ  p1 _ gp1 hF)
def W_X12_isDigit (ad : Nat → Nat) (Q : Int → MM → Prop) (av : List Value) (M : MM) : Prop := ∃ (p1 : Int), av = [.int (Ii p1)] ∧ ri_ p1 ∧ w_X12_isDigit  Q p1 M
set_option maxHeartbeats 4000000 in
set_option maxRecDepth 100000 in
theorem c_X12_isDigit {l : Launch} {D : va_G} {cy : Nat → ClassId} {ad : Nat → Nat} (hin : jIn ad ksR.length) : jCN l D vwCl (tyR cy) cy ad ftR ksR (XtR ad) yX12_isDigit (.code yX12_isDigit cX12_isDigit 1 (some .boolean) :: Om) ({ frames := 0, cells := 0, slots := 0, locals := 0 } : Room) 3 (W_X12_isDigit ad) := by
  refine jCN_of (y := yX12_isDigit) (cc := cX12_isDigit) (nL := 1) (rk := 3) (rm := ({ frames := 0, cells := 0, slots := 0, locals := 0 } : Room)) (own := RX12) (tyR_ok cy) hin (XtR_ok ad) Om_good (by decide) rfl ?_
  intro Q av M hF
  obtain ⟨p1, rfl, gp1, hF⟩ := hF
  refine ⟨Nat.le_of_ble_eq_true rfl, fun J hJ => ?_⟩
  show J 0 [(0, .int (Ii p1))] [] M
  unfold w_X12_isDigit at hF
  refine j_iload_n hJ dX12_isDigit_0 rfl 0 rfl ?_
  refine j_bipush hJ dX12_isDigit_1 (by decide) ?_
  refine j_icmp_lt hJ 16 gp1 rk_48 dX12_isDigit_3 (by decide) (fun z1 => ?_) (fun z1 => ?_)
  · have hF := hF.1 z1
    refine j_iconst hJ dX12_isDigit_16 ?_
    exact j_zret hJ rfl (by decide) dX12_isDigit_17 hF
  · have hF := hF.2 z1
    refine j_iload_n hJ dX12_isDigit_6 rfl 0 rfl ?_
    refine j_bipush hJ dX12_isDigit_7 (by decide) ?_
    refine j_icmp_gt hJ 16 gp1 rk_57 dX12_isDigit_9 (by decide) (fun z2 => ?_) (fun z2 => ?_)
    · have hF := hF.1 z2
      refine j_iconst hJ dX12_isDigit_16 ?_
      exact j_zret hJ rfl (by decide) dX12_isDigit_17 hF
    · have hF := hF.2 z2
      refine j_iconst hJ dX12_isDigit_12 ?_
      refine j_goto hJ 17 dX12_isDigit_13 (by decide) ?_
      exact j_zret hJ rfl (by decide) dX12_isDigit_17 hF
def W_X12_code (ad : Nat → Nat) (Q : Int → MM → Prop) (av : List Value) (M : MM) : Prop := ∃ (p1 : Int), av = [.int (Ii p1)] ∧ ri_ p1 ∧ w_X12_code  Q p1 M
set_option maxHeartbeats 4000000 in
set_option maxRecDepth 100000 in
theorem c_X12_code {l : Launch} {D : va_G} {cy : Nat → ClassId} {ad : Nat → Nat} (hin : jIn ad ksR.length) : jCN l D vwCl (tyR cy) cy ad ftR ksR (XtR ad) yX12_code (.code yX12_code cX12_code 1 (some .int) :: Om) ({ frames := 1, cells := 0, slots := 0, locals := 20 } : Room) 1 (W_X12_code ad) := by
  refine jCN_of (y := yX12_code) (cc := cX12_code) (nL := 1) (rk := 1) (rm := ({ frames := 1, cells := 0, slots := 0, locals := 20 } : Room)) (own := RX12) (tyR_ok cy) hin (XtR_ok ad) Om_good (by decide) rfl ?_
  intro Q av M hF
  obtain ⟨p1, rfl, gp1, hF⟩ := hF
  refine ⟨Nat.le_of_ble_eq_true rfl, fun J hJ => ?_⟩
  show J 0 [(0, .int (Ii p1))] [] M
  unfold w_X12_code at hF
  refine j_iload_n hJ dX12_code_0 rfl 0 rfl ?_
  refine j_callSz hJ (c_X12_isDigit (l := l) (D := D) (cy := cy) (ad := ad) hin) rfl om_1037 ⟨rfl, rfl, Nat.le_of_ble_eq_true rfl, Nat.le_of_ble_eq_true rfl⟩ [.int (Ii p1)] mv_X12_394 hd_X12_isDigit rfl (Nat.le_of_ble_eq_true rfl) dX12_code_1 ⟨p1, rfl, gp1, hF⟩ (fun r1 M2 gr1 qM2 => ?_)
  have hF := qM2 gr1
  refine j_if_eq hJ 16 (jz_ri gr1) dX12_code_4 (by decide) (fun z3 => ?_) (fun z3 => ?_)
  · have hF := hF.1 z3
    refine j_iload_n hJ dX12_code_16 rfl 0 rfl ?_
    refine j_bipush hJ dX12_code_17 (by decide) ?_
    refine j_icmp_gt hJ 32 gp1 rk_90 dX12_code_19 (by decide) (fun z4 => ?_) (fun z4 => ?_)
    · have hF := hF.1 z4
      refine j_iload_n hJ dX12_code_32 rfl 0 rfl ?_
      refine j_bipush hJ dX12_code_33 (by decide) ?_
      refine j_isub hJ dX12_code_35 ?_
      have g5 := hF.1; have hF := hF.2
      refine j_bipush hJ dX12_code_36 (by decide) ?_
      refine j_iadd hJ dX12_code_38 ?_
      have g6 := hF.1; have hF := hF.2
      exact j_iret hJ rfl g6 dX12_code_39 hF
    · have hF := hF.2 z4
      refine j_iload_n hJ dX12_code_22 rfl 0 rfl ?_
      refine j_bipush hJ dX12_code_23 (by decide) ?_
      refine j_isub hJ dX12_code_25 ?_
      have g7 := hF.1; have hF := hF.2
      refine j_bipush hJ dX12_code_26 (by decide) ?_
      refine j_iadd hJ dX12_code_28 ?_
      have g8 := hF.1; have hF := hF.2
      refine j_goto hJ 39 dX12_code_29 (by decide) ?_
      exact j_iret hJ rfl g8 dX12_code_39 hF
  · have hF := hF.2 z3
    refine j_iload_n hJ dX12_code_7 rfl 0 rfl ?_
    refine j_bipush hJ dX12_code_8 (by decide) ?_
    refine j_isub hJ dX12_code_10 ?_
    have g9 := hF.1; have hF := hF.2
    refine j_iconst hJ dX12_code_11 ?_
    refine j_iadd hJ dX12_code_12 ?_
    have g10 := hF.1; have hF := hF.2
    refine j_goto hJ 39 dX12_code_13 (by decide) ?_
    exact j_iret hJ rfl g10 dX12_code_39 hF
def W_X12_coded (ad : Nat → Nat) (Q : Int → MM → Prop) (av : List Value) (M : MM) : Prop := ∃ (p1 : Int), av = [.long (Ll p1)] ∧ rl_ p1 ∧ w_X12_coded  Q p1 M
set_option maxHeartbeats 4000000 in
set_option maxRecDepth 100000 in
theorem k_X12_coded_b46 {l : Launch} {D : va_G} {cy : Nat → ClassId} {ad : Nat → Nat} {Q : Int → MM → Prop} {J : Nat → List (Nat × Value) → List Value → MM → Prop} (hin : jIn ad ksR.length)   (hJ : jOk l D vwCl (tyR cy) cy ad ftR ksR (XtR ad) Om RX12 cX12_coded 6 2 ({ frames := 2, cells := 0, slots := 0, locals := 40 } : Room) Q J) {K6 : Int → Int → Int → MM → Prop} (hK6 : ∀ (x0 x2 x4 : Int) (M : MM), rl_ x0 → rl_ x2 → ri_ x4 → K6 x0 x2 x4 M → J 6 [(0, .long (Ll x0)), (2, .long (Ll x2)), (4, .int (Ii x4))] [] M) : ∀ (x0 x4 s0 : Int) (M : MM), rl_ x0 → ri_ x4 → rl_ s0 → w_X12_coded_b46  Q K6 x0 x4 s0 M → J 46 [(0, .long (Ll x0)), (4, .int (Ii x4))] [.long (Ll s0)] M := by
  intro x0 x4 s0 M gx0 gx4 gs0 hF
  unfold w_X12_coded_b46 at hF
  refine j_lstore_n (lv' := [(2, .long (Ll s0)), (0, .long (Ll x0)), (4, .int (Ii x4))]) hJ dX12_coded_46 rfl (by decide) rfl ?_
  refine j_iinc (lv' := [(4, .int (Ii (x4 + (-1)))), (2, .long (Ll s0)), (0, .long (Ll x0))]) (k := 2) hJ dX12_coded_47 rfl (by decide) rfl ?_
  have g1 := hF.1; have hF := hF.2
  refine j_goto hJ 6 dX12_coded_50 (by decide) ?_
  exact j_sub hJ [2, 1, 0] rfl (hK6 x0 s0 (x4 + (-1)) _ gx0 gs0 g1 hF)
set_option maxHeartbeats 4000000 in
set_option maxRecDepth 100000 in
theorem k_X12_coded_b6 {l : Launch} {D : va_G} {cy : Nat → ClassId} {ad : Nat → Nat} {Q : Int → MM → Prop} {J : Nat → List (Nat × Value) → List Value → MM → Prop} (hin : jIn ad ksR.length)   (hJ : jOk l D vwCl (tyR cy) cy ad ftR ksR (XtR ad) Om RX12 cX12_coded 6 2 ({ frames := 2, cells := 0, slots := 0, locals := 40 } : Room) Q J)  : ∀ (x0 x2 x4 : Int) (M : MM), rl_ x0 → rl_ x2 → ri_ x4 → w_X12_coded_b6  Q  x0 x2 x4 M → J 6 [(0, .long (Ll x0)), (2, .long (Ll x2)), (4, .int (Ii x4))] [] M := by
  have H9 : ∀ (n : Nat) (x0 x2 x4 : Int) (M : MM), rl_ x0 → rl_ x2 → ri_ x4 → jit (fun _ _ _ _ => False) (wb_X12_coded_b6  Q ) n x0 x2 x4 M → J 6 [(0, .long (Ll x0)), (2, .long (Ll x2)), (4, .int (Ii x4))] [] M := by
    intro n
    induction n with
    | zero => intro x0 x2 x4 M gx0 gx2 gx4 hF; exact False.elim hF
    | succ n ih =>
    intro x0 x2 x4 M gx0 gx2 gx4 hF
    have hF : wb_X12_coded_b6  Q  (jit (fun _ _ _ _ => False) (wb_X12_coded_b6  Q ) n) x0 x2 x4 M := hF
    unfold wb_X12_coded_b6 at hF
    refine j_iload hJ dX12_coded_6 2 rfl ?_
    refine j_if_lt hJ 53 gx4 dX12_coded_8 (by decide) (fun z1 => ?_) (fun z1 => ?_)
    · have hF := hF.1 z1
      refine j_lload_n hJ dX12_coded_53 rfl 1 rfl ?_
      exact j_lret hJ rfl gx2 dX12_coded_54 hF
    · have hF := hF.2 z1
      refine j_lload_n hJ dX12_coded_11 rfl 0 rfl ?_
      refine j_bipush hJ dX12_coded_12 (by decide) ?_
      refine j_iload hJ dX12_coded_14 2 rfl ?_
      refine j_imul hJ dX12_coded_16 ?_
      have g2 := hF.1; have hF := hF.2
      refine j_lshr hJ dX12_coded_17 ?_
      refine j_ldc2 hJ 255 om_1041 (by decide) dX12_coded_18 ?_
      refine j_land hJ dX12_coded_21 ?_
      refine j_l2i hJ dX12_coded_22 ?_
      have g3 := hF.1; have hF := hF.2
      refine j_istore (lv' := [(5, .int (Ii (jland (jlshr x0 (8 * x4)) 255))), (0, .long (Ll x0)), (2, .long (Ll x2)), (4, .int (Ii x4))]) hJ dX12_coded_23 (by decide) rfl ?_
      refine j_iload hJ dX12_coded_25 0 rfl ?_
      refine j_if_ne hJ 34 g3 dX12_coded_27 (by decide) (fun z4 => ?_) (fun z4 => ?_)
      · have hF := hF.1 z4
        refine j_ldc2 hJ 63 om_1042 (by decide) dX12_coded_34 ?_
        refine j_lload_n hJ dX12_coded_37 rfl 2 rfl ?_
        refine j_lmulw hJ dX12_coded_38 ?_
        refine j_iload hJ dX12_coded_39 0 rfl ?_
        refine j_callSi hJ (c_X12_code (l := l) (D := D) (cy := cy) (ad := ad) hin) rfl om_1043 ⟨rfl, rfl, Nat.le_of_ble_eq_true rfl, Nat.le_of_ble_eq_true rfl⟩ [.int (Ii (jland (jlshr x0 (8 * x4)) 255))] mv_X12_402 hd_X12_code rfl (Nat.le_of_ble_eq_true rfl) dX12_coded_41 ⟨(jland (jlshr x0 (8 * x4)) 255), rfl, g3, hF⟩ (fun r5 M6 gr5 qM6 => ?_)
        have hF := qM6 gr5
        refine j_i2l hJ gr5 dX12_coded_44 ?_
        refine j_laddw hJ dX12_coded_45 ?_
        exact j_sub hJ [1, 3] rfl (k_X12_coded_b46 hin  hJ ih x0 x4 (w64 ((w64 (63 * x2)) + r5)) _ gx0 gx4 (rl_w _) hF)
      · have hF := hF.2 z4
        refine j_lload_n hJ dX12_coded_30 rfl 2 rfl ?_
        refine j_goto hJ 46 dX12_coded_31 (by decide) ?_
        exact j_sub hJ [1, 3] rfl (k_X12_coded_b46 hin  hJ ih x0 x4 x2 _ gx0 gx4 gx2 hF)
  intro x0 x2 x4 M gx0 gx2 gx4 hF
  obtain ⟨n, hF⟩ := hF
  exact H9 n x0 x2 x4 M gx0 gx2 gx4 hF
set_option maxHeartbeats 4000000 in
set_option maxRecDepth 100000 in
theorem c_X12_coded {l : Launch} {D : va_G} {cy : Nat → ClassId} {ad : Nat → Nat} (hin : jIn ad ksR.length) : jCN l D vwCl (tyR cy) cy ad ftR ksR (XtR ad) yX12_coded (.code yX12_coded cX12_coded 6 (some .long) :: Om) ({ frames := 2, cells := 0, slots := 0, locals := 40 } : Room) 2 (W_X12_coded ad) := by
  refine jCN_of (y := yX12_coded) (cc := cX12_coded) (nL := 6) (rk := 2) (rm := ({ frames := 2, cells := 0, slots := 0, locals := 40 } : Room)) (own := RX12) (tyR_ok cy) hin (XtR_ok ad) Om_good (by decide) rfl ?_
  intro Q av M hF
  obtain ⟨p1, rfl, gp1, hF⟩ := hF
  refine ⟨Nat.le_of_ble_eq_true rfl, fun J hJ => ?_⟩
  show J 0 [(0, .long (Ll p1))] [] M
  unfold w_X12_coded at hF
  refine j_lconst (x := 0) hJ dX12_coded_0 rfl ?_
  refine j_lstore_n (lv' := [(2, .long (Ll 0)), (0, .long (Ll p1))]) hJ dX12_coded_1 rfl (by decide) rfl ?_
  refine j_bipush hJ dX12_coded_2 (by decide) ?_
  refine j_istore (lv' := [(4, .int (Ii 7)), (2, .long (Ll 0)), (0, .long (Ll p1))]) hJ dX12_coded_4 (by decide) rfl ?_
  exact j_sub hJ [2, 1, 0] rfl (k_X12_coded_b6 hin  hJ  p1 0 7 _ gp1 lkm_0 rk_7 hF)
def W_X12_keyOf (ad : Nat → Nat) (Q : Int → MM → Prop) (av : List Value) (M : MM) : Prop := ∃ (p1 : Int), av = [.ref (ad 0), .long (Ll p1)] ∧ rl_ p1 ∧ w_X12_keyOf  Q p1 M
set_option maxHeartbeats 4000000 in
set_option maxRecDepth 100000 in
theorem k_X12_keyOf_b30 {l : Launch} {D : va_G} {cy : Nat → ClassId} {ad : Nat → Nat} {Q : Int → MM → Prop} {J : Nat → List (Nat × Value) → List Value → MM → Prop} (hin : jIn ad ksR.length)   (hJ : jOk l D vwCl (tyR cy) cy ad ftR ksR (XtR ad) Om RX12 cX12_keyOf 5 1 ({ frames := 0, cells := 0, slots := 0, locals := 0 } : Room) Q J) {K5 : Int → Int → Int → MM → Prop} (hK5 : ∀ (x1 x3 x4 : Int) (M : MM), rl_ x1 → ri_ x3 → ri_ x4 → K5 x1 x3 x4 M → J 5 [(0, .ref (ad 0)), (1, .long (Ll x1)), (3, .int (Ii x3)), (4, .int (Ii x4))] [] M) : ∀ (x1 x4 s0 : Int) (M : MM), rl_ x1 → ri_ x4 → ri_ s0 → w_X12_keyOf_b30  Q K5 x1 x4 s0 M → J 30 [(0, .ref (ad 0)), (1, .long (Ll x1)), (4, .int (Ii x4))] [.int (Ii s0)] M := by
  intro x1 x4 s0 M gx1 gx4 gs0 hF
  unfold w_X12_keyOf_b30 at hF
  refine j_istore_n (lv' := [(3, .int (Ii s0)), (0, .ref (ad 0)), (1, .long (Ll x1)), (4, .int (Ii x4))]) hJ dX12_keyOf_30 rfl (by decide) rfl ?_
  refine j_iinc (lv' := [(4, .int (Ii (x4 + 1))), (3, .int (Ii s0)), (0, .ref (ad 0)), (1, .long (Ll x1))]) (k := 3) hJ dX12_keyOf_31 rfl (by decide) rfl ?_
  have g1 := hF.1; have hF := hF.2
  refine j_goto hJ 5 dX12_keyOf_34 (by decide) ?_
  exact j_sub hJ [2, 3, 1, 0] rfl (hK5 x1 s0 (x4 + 1) _ gx1 gs0 g1 hF)
set_option maxHeartbeats 4000000 in
set_option maxRecDepth 100000 in
theorem k_X12_keyOf_b5 {l : Launch} {D : va_G} {cy : Nat → ClassId} {ad : Nat → Nat} {Q : Int → MM → Prop} {J : Nat → List (Nat × Value) → List Value → MM → Prop} (hin : jIn ad ksR.length)   (hJ : jOk l D vwCl (tyR cy) cy ad ftR ksR (XtR ad) Om RX12 cX12_keyOf 5 1 ({ frames := 0, cells := 0, slots := 0, locals := 0 } : Room) Q J)  : ∀ (x1 x3 x4 : Int) (M : MM), rl_ x1 → ri_ x3 → ri_ x4 → w_X12_keyOf_b5  Q  x1 x3 x4 M → J 5 [(0, .ref (ad 0)), (1, .long (Ll x1)), (3, .int (Ii x3)), (4, .int (Ii x4))] [] M := by
  have H9 : ∀ (n : Nat) (x1 x3 x4 : Int) (M : MM), rl_ x1 → ri_ x3 → ri_ x4 → jit (fun _ _ _ _ => False) (wb_X12_keyOf_b5  Q ) n x1 x3 x4 M → J 5 [(0, .ref (ad 0)), (1, .long (Ll x1)), (3, .int (Ii x3)), (4, .int (Ii x4))] [] M := by
    intro n
    induction n with
    | zero => intro x1 x3 x4 M gx1 gx3 gx4 hF; exact False.elim hF
    | succ n ih =>
    intro x1 x3 x4 M gx1 gx3 gx4 hF
    have hF : wb_X12_keyOf_b5  Q  (jit (fun _ _ _ _ => False) (wb_X12_keyOf_b5  Q ) n) x1 x3 x4 M := hF
    unfold wb_X12_keyOf_b5 at hF
    refine j_iload hJ dX12_keyOf_5 3 rfl ?_
    refine j_bipush hJ dX12_keyOf_7 (by decide) ?_
    refine j_icmp_ge hJ 37 gx4 rk_29 dX12_keyOf_9 (by decide) (fun z1 => ?_) (fun z1 => ?_)
    · have hF := hF.1 z1
      refine j_iload_n hJ dX12_keyOf_37 rfl 2 rfl ?_
      exact j_iret hJ rfl gx3 dX12_keyOf_38 hF
    · have hF := hF.2 z1
      refine j_aload_n hJ dX12_keyOf_12 rfl 0 rfl ?_
      refine j_gr (e := 3) hJ kR_0 fR_15_4 fl_X12_74 dX12_keyOf_13 rfl ?_
      refine j_iload hJ dX12_keyOf_16 3 rfl ?_
      refine j_lald hJ gx4 kR_3 hF.1 hF.2.1 dX12_keyOf_18 (fun v2 ev2 gv2 => ?_)
      have hF := hF.2.2 v2 ev2 gv2
      refine j_lload_n hJ dX12_keyOf_19 rfl 1 rfl ?_
      refine j_lcmp_ne hJ 29 gv2 gx1 dX12_keyOf_20 dX12_keyOf_21 (by decide) (fun z3 => ?_) (fun z3 => ?_)
      · have hF := hF.1 z3
        refine j_iload_n hJ dX12_keyOf_29 rfl 2 rfl ?_
        exact j_sub hJ [0, 1, 3] rfl (k_X12_keyOf_b30 hin  hJ ih x1 x4 x3 _ gx1 gx4 gx3 hF)
      · have hF := hF.2 z3
        refine j_iload hJ dX12_keyOf_24 3 rfl ?_
        refine j_goto hJ 30 dX12_keyOf_26 (by decide) ?_
        exact j_sub hJ [0, 1, 3] rfl (k_X12_keyOf_b30 hin  hJ ih x1 x4 x4 _ gx1 gx4 gx4 hF)
  intro x1 x3 x4 M gx1 gx3 gx4 hF
  obtain ⟨n, hF⟩ := hF
  exact H9 n x1 x3 x4 M gx1 gx3 gx4 hF
set_option maxHeartbeats 4000000 in
set_option maxRecDepth 100000 in
theorem c_X12_keyOf {l : Launch} {D : va_G} {cy : Nat → ClassId} {ad : Nat → Nat} (hin : jIn ad ksR.length) : jCN l D vwCl (tyR cy) cy ad ftR ksR (XtR ad) yX12_keyOf (.code yX12_keyOf cX12_keyOf 5 (some .int) :: Om) ({ frames := 0, cells := 0, slots := 0, locals := 0 } : Room) 1 (W_X12_keyOf ad) := by
  refine jCN_of (y := yX12_keyOf) (cc := cX12_keyOf) (nL := 5) (rk := 1) (rm := ({ frames := 0, cells := 0, slots := 0, locals := 0 } : Room)) (own := RX12) (tyR_ok cy) hin (XtR_ok ad) Om_good (by decide) rfl ?_
  intro Q av M hF
  obtain ⟨p1, rfl, gp1, hF⟩ := hF
  refine ⟨Nat.le_of_ble_eq_true rfl, fun J hJ => ?_⟩
  show J 0 [(0, .ref (ad 0)), (1, .long (Ll p1))] [] M
  unfold w_X12_keyOf at hF
  refine j_iconst hJ dX12_keyOf_0 ?_
  refine j_istore_n (lv' := [(3, .int (Ii (-1))), (0, .ref (ad 0)), (1, .long (Ll p1))]) hJ dX12_keyOf_1 rfl (by decide) rfl ?_
  refine j_iconst hJ dX12_keyOf_2 ?_
  refine j_istore (lv' := [(4, .int (Ii 0)), (3, .int (Ii (-1))), (0, .ref (ad 0)), (1, .long (Ll p1))]) hJ dX12_keyOf_3 (by decide) rfl ?_
  exact j_sub hJ [2, 3, 1, 0] rfl (k_X12_keyOf_b5 hin  hJ  p1 (-1) 0 _ gp1 rk_m1 rk_0 hF)
def W_X12_tapeName (ad : Nat → Nat) (Q : Int → MM → Prop) (av : List Value) (M : MM) : Prop := av = [.ref (ad 0)] ∧ w_X12_tapeName  Q  M
set_option maxHeartbeats 4000000 in
set_option maxRecDepth 100000 in
theorem k_X12_tapeName_b116 {l : Launch} {D : va_G} {cy : Nat → ClassId} {ad : Nat → Nat} {Q : Int → MM → Prop} {J : Nat → List (Nat × Value) → List Value → MM → Prop} (hin : jIn ad ksR.length)   (hJ : jOk l D vwCl (tyR cy) cy ad ftR ksR (XtR ad) Om RX12 cX12_tapeName 5 2 ({ frames := 2, cells := 0, slots := 0, locals := 40 } : Room) Q J)  : ∀ (x1 x3 : Int) (M : MM), rl_ x1 → ri_ x3 → w_X12_tapeName_b116  Q  x1 x3 M → J 116 [(0, .ref (ad 0)), (1, .long (Ll x1)), (3, .int (Ii x3))] [] M := by
  intro x1 x3 M gx1 gx3 hF
  unfold w_X12_tapeName_b116 at hF
  refine j_iload_n hJ dX12_tapeName_116 rfl 2 rfl ?_
  refine j_if_eq hJ 133 gx3 dX12_tapeName_117 (by decide) (fun z1 => ?_) (fun z1 => ?_)
  · have hF := hF.1 z1
    refine j_lconst (x := 0) hJ dX12_tapeName_133 rfl ?_
    exact j_lret hJ rfl lkm_0 dX12_tapeName_134 hF
  · have hF := hF.2 z1
    refine j_aload_n hJ dX12_tapeName_120 rfl 0 rfl ?_
    refine j_lload_n hJ dX12_tapeName_121 rfl 1 rfl ?_
    refine j_callVi hJ (c_X12_keyOf (l := l) (D := D) (cy := cy) (ad := ad) hin) rfl om_1046 ⟨rfl, rfl, Nat.le_of_ble_eq_true rfl, Nat.le_of_ble_eq_true rfl⟩ [.long (Ll x1)] mv_X12_409 hd_X12_keyOfv kR_0 rfl rfl rfl (Nat.le_of_ble_eq_true rfl) dX12_tapeName_122 ⟨x1, rfl, gx1, hF⟩ (fun r2 M3 gr2 qM3 => ?_)
    have hF := qM3 gr2
    refine j_iconst hJ dX12_tapeName_125 ?_
    refine j_icmp_ne hJ 133 gr2 rk_m1 dX12_tapeName_126 (by decide) (fun z4 => ?_) (fun z4 => ?_)
    · have hF := hF.1 z4
      refine j_lconst (x := 0) hJ dX12_tapeName_133 rfl ?_
      exact j_lret hJ rfl lkm_0 dX12_tapeName_134 hF
    · have hF := hF.2 z4
      refine j_lload_n hJ dX12_tapeName_129 rfl 1 rfl ?_
      refine j_goto hJ 134 dX12_tapeName_130 (by decide) ?_
      exact j_lret hJ rfl gx1 dX12_tapeName_134 hF
set_option maxHeartbeats 4000000 in
set_option maxRecDepth 100000 in
theorem k_X12_tapeName_b109 {l : Launch} {D : va_G} {cy : Nat → ClassId} {ad : Nat → Nat} {Q : Int → MM → Prop} {J : Nat → List (Nat × Value) → List Value → MM → Prop} (hin : jIn ad ksR.length)   (hJ : jOk l D vwCl (tyR cy) cy ad ftR ksR (XtR ad) Om RX12 cX12_tapeName 5 2 ({ frames := 2, cells := 0, slots := 0, locals := 40 } : Room) Q J) {K39 : Int → Int → Int → MM → Prop} (hK39 : ∀ (x1 x3 x4 : Int) (M : MM), rl_ x1 → ri_ x3 → ri_ x4 → K39 x1 x3 x4 M → J 39 [(0, .ref (ad 0)), (1, .long (Ll x1)), (3, .int (Ii x3)), (4, .int (Ii x4))] [] M) : ∀ (x3 x4 s0 : Int) (M : MM), ri_ x3 → ri_ x4 → rl_ s0 → w_X12_tapeName_b109  Q K39 x3 x4 s0 M → J 109 [(0, .ref (ad 0)), (3, .int (Ii x3)), (4, .int (Ii x4))] [.long (Ll s0)] M := by
  intro x3 x4 s0 M gx3 gx4 gs0 hF
  unfold w_X12_tapeName_b109 at hF
  refine j_lstore_n (lv' := [(1, .long (Ll s0)), (0, .ref (ad 0)), (3, .int (Ii x3)), (4, .int (Ii x4))]) hJ dX12_tapeName_109 rfl (by decide) rfl ?_
  refine j_iinc (lv' := [(4, .int (Ii (x4 + 1))), (1, .long (Ll s0)), (0, .ref (ad 0)), (3, .int (Ii x3))]) (k := 3) hJ dX12_tapeName_110 rfl (by decide) rfl ?_
  have g1 := hF.1; have hF := hF.2
  refine j_goto hJ 39 dX12_tapeName_113 (by decide) ?_
  exact j_sub hJ [2, 1, 3, 0] rfl (hK39 s0 x3 (x4 + 1) _ gs0 gx3 g1 hF)
set_option maxHeartbeats 4000000 in
set_option maxRecDepth 100000 in
theorem k_X12_tapeName_b83 {l : Launch} {D : va_G} {cy : Nat → ClassId} {ad : Nat → Nat} {Q : Int → MM → Prop} {J : Nat → List (Nat × Value) → List Value → MM → Prop} (hin : jIn ad ksR.length)   (hJ : jOk l D vwCl (tyR cy) cy ad ftR ksR (XtR ad) Om RX12 cX12_tapeName 5 2 ({ frames := 2, cells := 0, slots := 0, locals := 40 } : Room) Q J) {K39 : Int → Int → Int → MM → Prop} (hK39 : ∀ (x1 x3 x4 : Int) (M : MM), rl_ x1 → ri_ x3 → ri_ x4 → K39 x1 x3 x4 M → J 39 [(0, .ref (ad 0)), (1, .long (Ll x1)), (3, .int (Ii x3)), (4, .int (Ii x4))] [] M) : ∀ (x1 x4 s0 : Int) (M : MM), rl_ x1 → ri_ x4 → ri_ s0 → w_X12_tapeName_b83  Q K39 x1 x4 s0 M → J 83 [(0, .ref (ad 0)), (1, .long (Ll x1)), (4, .int (Ii x4))] [.int (Ii s0)] M := by
  intro x1 x4 s0 M gx1 gx4 gs0 hF
  unfold w_X12_tapeName_b83 at hF
  refine j_istore_n (lv' := [(3, .int (Ii s0)), (0, .ref (ad 0)), (1, .long (Ll x1)), (4, .int (Ii x4))]) hJ dX12_tapeName_83 rfl (by decide) rfl ?_
  refine j_iload_n hJ dX12_tapeName_84 rfl 0 rfl ?_
  refine j_if_eq hJ 108 gs0 dX12_tapeName_85 (by decide) (fun z1 => ?_) (fun z1 => ?_)
  · have hF := hF.1 z1
    refine j_lconst (x := 0) hJ dX12_tapeName_108 rfl ?_
    exact j_sub hJ [1, 0, 3] rfl (k_X12_tapeName_b109 hin  hJ hK39 s0 x4 0 _ gs0 gx4 lkm_0 hF)
  · have hF := hF.2 z1
    refine j_ldc2 hJ 63 om_1042 (by decide) dX12_tapeName_88 ?_
    refine j_lload_n hJ dX12_tapeName_91 rfl 2 rfl ?_
    refine j_lmulw hJ dX12_tapeName_92 ?_
    refine j_aload_n hJ dX12_tapeName_93 rfl 1 rfl ?_
    refine j_gr (e := 1) hJ kR_0 fR_15_1 fl_X12_7 dX12_tapeName_94 rfl ?_
    refine j_iload hJ dX12_tapeName_97 3 rfl ?_
    refine j_bald hJ gx4 kR_1 hF.1 hF.2.1 dX12_tapeName_99 (fun v2 ev2 gv2 => ?_)
    have hF := hF.2.2 v2 ev2 gv2
    refine j_callSi hJ (c_X12_code (l := l) (D := D) (cy := cy) (ad := ad) hin) rfl om_1043 ⟨rfl, rfl, Nat.le_of_ble_eq_true rfl, Nat.le_of_ble_eq_true rfl⟩ [.int (Ii v2)] mv_X12_402 hd_X12_code rfl (Nat.le_of_ble_eq_true rfl) dX12_tapeName_100 ⟨v2, rfl, (jb_ri gv2), hF⟩ (fun r3 M4 gr3 qM4 => ?_)
    have hF := qM4 gr3
    refine j_i2l hJ gr3 dX12_tapeName_103 ?_
    refine j_laddw hJ dX12_tapeName_104 ?_
    refine j_goto hJ 109 dX12_tapeName_105 (by decide) ?_
    exact j_sub hJ [1, 0, 3] rfl (k_X12_tapeName_b109 hin  hJ hK39 s0 x4 (w64 ((w64 (63 * x1)) + r3)) _ gs0 gx4 (rl_w _) hF)
set_option maxHeartbeats 4000000 in
set_option maxRecDepth 100000 in
theorem k_X12_tapeName_b78 {l : Launch} {D : va_G} {cy : Nat → ClassId} {ad : Nat → Nat} {Q : Int → MM → Prop} {J : Nat → List (Nat × Value) → List Value → MM → Prop} (hin : jIn ad ksR.length)   (hJ : jOk l D vwCl (tyR cy) cy ad ftR ksR (XtR ad) Om RX12 cX12_tapeName 5 2 ({ frames := 2, cells := 0, slots := 0, locals := 40 } : Room) Q J) {K39 : Int → Int → Int → MM → Prop} (hK39 : ∀ (x1 x3 x4 : Int) (M : MM), rl_ x1 → ri_ x3 → ri_ x4 → K39 x1 x3 x4 M → J 39 [(0, .ref (ad 0)), (1, .long (Ll x1)), (3, .int (Ii x3)), (4, .int (Ii x4))] [] M) : ∀ (x1 x4 : Int) (M : MM), rl_ x1 → ri_ x4 → w_X12_tapeName_b78  Q K39 x1 x4 M → J 78 [(0, .ref (ad 0)), (1, .long (Ll x1)), (4, .int (Ii x4))] [] M := by
  intro x1 x4 M gx1 gx4 hF
  unfold w_X12_tapeName_b78 at hF
  refine j_iconst hJ dX12_tapeName_78 ?_
  refine j_goto hJ 83 dX12_tapeName_79 (by decide) ?_
  exact j_sub hJ [0, 1, 2] rfl (k_X12_tapeName_b83 hin  hJ hK39 x1 x4 1 _ gx1 gx4 rk_1 hF)
set_option maxHeartbeats 4000000 in
set_option maxRecDepth 100000 in
theorem k_X12_tapeName_b39 {l : Launch} {D : va_G} {cy : Nat → ClassId} {ad : Nat → Nat} {Q : Int → MM → Prop} {J : Nat → List (Nat × Value) → List Value → MM → Prop} (hin : jIn ad ksR.length)   (hJ : jOk l D vwCl (tyR cy) cy ad ftR ksR (XtR ad) Om RX12 cX12_tapeName 5 2 ({ frames := 2, cells := 0, slots := 0, locals := 40 } : Room) Q J)  : ∀ (x1 x3 x4 : Int) (M : MM), rl_ x1 → ri_ x3 → ri_ x4 → w_X12_tapeName_b39  Q  x1 x3 x4 M → J 39 [(0, .ref (ad 0)), (1, .long (Ll x1)), (3, .int (Ii x3)), (4, .int (Ii x4))] [] M := by
  have H9 : ∀ (n : Nat) (x1 x3 x4 : Int) (M : MM), rl_ x1 → ri_ x3 → ri_ x4 → jit (fun _ _ _ _ => False) (wb_X12_tapeName_b39  Q ) n x1 x3 x4 M → J 39 [(0, .ref (ad 0)), (1, .long (Ll x1)), (3, .int (Ii x3)), (4, .int (Ii x4))] [] M := by
    intro n
    induction n with
    | zero => intro x1 x3 x4 M gx1 gx3 gx4 hF; exact False.elim hF
    | succ n ih =>
    intro x1 x3 x4 M gx1 gx3 gx4 hF
    have hF : wb_X12_tapeName_b39  Q  (jit (fun _ _ _ _ => False) (wb_X12_tapeName_b39  Q ) n) x1 x3 x4 M := hF
    unfold wb_X12_tapeName_b39 at hF
    refine j_iload hJ dX12_tapeName_39 3 rfl ?_
    refine j_aload_n hJ dX12_tapeName_41 rfl 0 rfl ?_
    refine j_gi hJ kR_0 fR_15_3 rfl fl_X12_391 dX12_tapeName_42 (fun v1 ev1 gv1 => ?_)
    have hF := hF v1 ev1 gv1
    refine j_icmp_ge hJ 116 gx4 gv1 dX12_tapeName_45 (by decide) (fun z2 => ?_) (fun z2 => ?_)
    · have hF := hF.1 z2
      exact j_sub hJ [0, 1, 2] rfl (k_X12_tapeName_b116 hin  hJ  x1 x3 _ gx1 gx3 hF)
    · have hF := hF.2 z2
      refine j_iload_n hJ dX12_tapeName_48 rfl 2 rfl ?_
      refine j_if_eq hJ 116 gx3 dX12_tapeName_49 (by decide) (fun z3 => ?_) (fun z3 => ?_)
      · have hF := hF.1 z3
        exact j_sub hJ [0, 1, 2] rfl (k_X12_tapeName_b116 hin  hJ  x1 x3 _ gx1 gx3 hF)
      · have hF := hF.2 z3
        refine j_aload_n hJ dX12_tapeName_52 rfl 0 rfl ?_
        refine j_gr (e := 1) hJ kR_0 fR_15_1 fl_X12_7 dX12_tapeName_53 rfl ?_
        refine j_iload hJ dX12_tapeName_56 3 rfl ?_
        refine j_bald hJ gx4 kR_1 hF.1 hF.2.1 dX12_tapeName_58 (fun v4 ev4 gv4 => ?_)
        have hF := hF.2.2 v4 ev4 gv4
        refine j_callSz hJ (c_X12_isLetter (l := l) (D := D) (cy := cy) (ad := ad) hin) rfl om_1050 ⟨rfl, rfl, Nat.le_of_ble_eq_true rfl, Nat.le_of_ble_eq_true rfl⟩ [.int (Ii v4)] mv_X12_406 hd_X12_isLetter rfl (Nat.le_of_ble_eq_true rfl) dX12_tapeName_59 ⟨v4, rfl, (jb_ri gv4), hF⟩ (fun r5 M6 gr5 qM6 => ?_)
        have hF := qM6 gr5
        refine j_if_ne hJ 78 (jz_ri gr5) dX12_tapeName_62 (by decide) (fun z7 => ?_) (fun z7 => ?_)
        · have hF := hF.1 z7
          exact j_sub hJ [0, 1, 3] rfl (k_X12_tapeName_b78 hin  hJ ih x1 x4 _ gx1 gx4 hF)
        · have hF := hF.2 z7
          refine j_aload_n hJ dX12_tapeName_65 rfl 0 rfl ?_
          refine j_gr (e := 1) hJ kR_0 fR_15_1 fl_X12_7 dX12_tapeName_66 rfl ?_
          refine j_iload hJ dX12_tapeName_69 3 rfl ?_
          refine j_bald hJ gx4 kR_1 hF.1 hF.2.1 dX12_tapeName_71 (fun v8 ev8 gv8 => ?_)
          have hF := hF.2.2 v8 ev8 gv8
          refine j_callSz hJ (c_X12_isDigit (l := l) (D := D) (cy := cy) (ad := ad) hin) rfl om_1037 ⟨rfl, rfl, Nat.le_of_ble_eq_true rfl, Nat.le_of_ble_eq_true rfl⟩ [.int (Ii v8)] mv_X12_394 hd_X12_isDigit rfl (Nat.le_of_ble_eq_true rfl) dX12_tapeName_72 ⟨v8, rfl, (jb_ri gv8), hF⟩ (fun r9 M10 gr9 qM10 => ?_)
          have hF := qM10 gr9
          refine j_if_eq hJ 82 (jz_ri gr9) dX12_tapeName_75 (by decide) (fun z11 => ?_) (fun z11 => ?_)
          · have hF := hF.1 z11
            refine j_iconst hJ dX12_tapeName_82 ?_
            exact j_sub hJ [0, 1, 3] rfl (k_X12_tapeName_b83 hin  hJ ih x1 x4 0 _ gx1 gx4 rk_0 hF)
          · have hF := hF.2 z11
            exact j_sub hJ [0, 1, 3] rfl (k_X12_tapeName_b78 hin  hJ ih x1 x4 _ gx1 gx4 hF)
  intro x1 x3 x4 M gx1 gx3 gx4 hF
  obtain ⟨n, hF⟩ := hF
  exact H9 n x1 x3 x4 M gx1 gx3 gx4 hF
set_option maxHeartbeats 4000000 in
set_option maxRecDepth 100000 in
theorem k_X12_tapeName_b35 {l : Launch} {D : va_G} {cy : Nat → ClassId} {ad : Nat → Nat} {Q : Int → MM → Prop} {J : Nat → List (Nat × Value) → List Value → MM → Prop} (hin : jIn ad ksR.length)   (hJ : jOk l D vwCl (tyR cy) cy ad ftR ksR (XtR ad) Om RX12 cX12_tapeName 5 2 ({ frames := 2, cells := 0, slots := 0, locals := 40 } : Room) Q J)  : ∀ (x1 s0 : Int) (M : MM), rl_ x1 → ri_ s0 → w_X12_tapeName_b35  Q  x1 s0 M → J 35 [(0, .ref (ad 0)), (1, .long (Ll x1))] [.int (Ii s0)] M := by
  intro x1 s0 M gx1 gs0 hF
  unfold w_X12_tapeName_b35 at hF
  refine j_istore_n (lv' := [(3, .int (Ii s0)), (0, .ref (ad 0)), (1, .long (Ll x1))]) hJ dX12_tapeName_35 rfl (by decide) rfl ?_
  refine j_iconst hJ dX12_tapeName_36 ?_
  refine j_istore (lv' := [(4, .int (Ii 0)), (3, .int (Ii s0)), (0, .ref (ad 0)), (1, .long (Ll x1))]) hJ dX12_tapeName_37 (by decide) rfl ?_
  exact j_sub hJ [2, 3, 1, 0] rfl (k_X12_tapeName_b39 hin  hJ  x1 s0 0 _ gx1 gs0 rk_0 hF)
set_option maxHeartbeats 4000000 in
set_option maxRecDepth 100000 in
theorem k_X12_tapeName_b34 {l : Launch} {D : va_G} {cy : Nat → ClassId} {ad : Nat → Nat} {Q : Int → MM → Prop} {J : Nat → List (Nat × Value) → List Value → MM → Prop} (hin : jIn ad ksR.length)   (hJ : jOk l D vwCl (tyR cy) cy ad ftR ksR (XtR ad) Om RX12 cX12_tapeName 5 2 ({ frames := 2, cells := 0, slots := 0, locals := 40 } : Room) Q J)  : ∀ (x1 : Int) (M : MM), rl_ x1 → w_X12_tapeName_b34  Q  x1 M → J 34 [(0, .ref (ad 0)), (1, .long (Ll x1))] [] M := by
  intro x1 M gx1 hF
  unfold w_X12_tapeName_b34 at hF
  refine j_iconst hJ dX12_tapeName_34 ?_
  exact j_sub hJ [0, 1] rfl (k_X12_tapeName_b35 hin  hJ  x1 0 _ gx1 rk_0 hF)
set_option maxHeartbeats 4000000 in
set_option maxRecDepth 100000 in
theorem c_X12_tapeName {l : Launch} {D : va_G} {cy : Nat → ClassId} {ad : Nat → Nat} (hin : jIn ad ksR.length) : jCN l D vwCl (tyR cy) cy ad ftR ksR (XtR ad) yX12_tapeName (.code yX12_tapeName cX12_tapeName 5 (some .long) :: Om) ({ frames := 2, cells := 0, slots := 0, locals := 40 } : Room) 2 (W_X12_tapeName ad) := by
  refine jCN_of (y := yX12_tapeName) (cc := cX12_tapeName) (nL := 5) (rk := 2) (rm := ({ frames := 2, cells := 0, slots := 0, locals := 40 } : Room)) (own := RX12) (tyR_ok cy) hin (XtR_ok ad) Om_good (by decide) rfl ?_
  intro Q av M hF
  obtain ⟨rfl, hF⟩ := hF
  refine ⟨Nat.le_of_ble_eq_true rfl, fun J hJ => ?_⟩
  show J 0 [(0, .ref (ad 0))] [] M
  unfold w_X12_tapeName at hF
  refine j_lconst (x := 0) hJ dX12_tapeName_0 rfl ?_
  refine j_lstore_n (lv' := [(1, .long (Ll 0)), (0, .ref (ad 0))]) hJ dX12_tapeName_1 rfl (by decide) rfl ?_
  refine j_aload_n hJ dX12_tapeName_2 rfl 1 rfl ?_
  refine j_gi hJ kR_0 fR_15_3 rfl fl_X12_391 dX12_tapeName_3 (fun v1 ev1 gv1 => ?_)
  have hF := hF v1 ev1 gv1
  refine j_if_le hJ 34 gv1 dX12_tapeName_6 (by decide) (fun z2 => ?_) (fun z2 => ?_)
  · have hF := hF.1 z2
    exact j_sub hJ [1, 0] rfl (k_X12_tapeName_b34 hin  hJ  0 _ lkm_0 hF)
  · have hF := hF.2 z2
    refine j_aload_n hJ dX12_tapeName_9 rfl 1 rfl ?_
    refine j_gi hJ kR_0 fR_15_3 rfl fl_X12_391 dX12_tapeName_10 (fun v3 ev3 gv3 => ?_)
    have hF := hF v3 ev3 gv3
    refine j_bipush hJ dX12_tapeName_13 (by decide) ?_
    refine j_icmp_gt hJ 34 gv3 rk_10 dX12_tapeName_15 (by decide) (fun z4 => ?_) (fun z4 => ?_)
    · have hF := hF.1 z4
      exact j_sub hJ [1, 0] rfl (k_X12_tapeName_b34 hin  hJ  0 _ lkm_0 hF)
    · have hF := hF.2 z4
      refine j_aload_n hJ dX12_tapeName_18 rfl 1 rfl ?_
      refine j_gr (e := 1) hJ kR_0 fR_15_1 fl_X12_7 dX12_tapeName_19 rfl ?_
      refine j_iconst hJ dX12_tapeName_22 ?_
      refine j_bald hJ rk_0 kR_1 (by decide) (by decide) dX12_tapeName_23 (fun v5 ev5 gv5 => ?_)
      have hF := hF v5 ev5 gv5
      refine j_callSz hJ (c_X12_isLetter (l := l) (D := D) (cy := cy) (ad := ad) hin) rfl om_1050 ⟨rfl, rfl, Nat.le_of_ble_eq_true rfl, Nat.le_of_ble_eq_true rfl⟩ [.int (Ii v5)] mv_X12_406 hd_X12_isLetter rfl (Nat.le_of_ble_eq_true rfl) dX12_tapeName_24 ⟨v5, rfl, (jb_ri gv5), hF⟩ (fun r6 M7 gr6 qM7 => ?_)
      have hF := qM7 gr6
      refine j_if_eq hJ 34 (jz_ri gr6) dX12_tapeName_27 (by decide) (fun z8 => ?_) (fun z8 => ?_)
      · have hF := hF.1 z8
        exact j_sub hJ [1, 0] rfl (k_X12_tapeName_b34 hin  hJ  0 _ lkm_0 hF)
      · have hF := hF.2 z8
        refine j_iconst hJ dX12_tapeName_30 ?_
        refine j_goto hJ 35 dX12_tapeName_31 (by decide) ?_
        exact j_sub hJ [1, 0] rfl (k_X12_tapeName_b35 hin  hJ  0 1 _ lkm_0 rk_1 hF)
def W_X12_width (ad : Nat → Nat) (Q : Int → MM → Prop) (av : List Value) (M : MM) : Prop := ∃ (p1 : Int), av = [.int (Ii p1)] ∧ ri_ p1 ∧ w_X12_width  Q p1 M
set_option maxHeartbeats 4000000 in
set_option maxRecDepth 100000 in
theorem c_X12_width {l : Launch} {D : va_G} {cy : Nat → ClassId} {ad : Nat → Nat} (hin : jIn ad ksR.length) : jCN l D vwCl (tyR cy) cy ad ftR ksR (XtR ad) yX12_width (.code yX12_width cX12_width 1 (some .int) :: Om) ({ frames := 0, cells := 0, slots := 0, locals := 0 } : Room) 1 (W_X12_width ad) := by
  refine jCN_of (y := yX12_width) (cc := cX12_width) (nL := 1) (rk := 1) (rm := ({ frames := 0, cells := 0, slots := 0, locals := 0 } : Room)) (own := RX12) (tyR_ok cy) hin (XtR_ok ad) Om_good (by decide) rfl ?_
  intro Q av M hF
  obtain ⟨p1, rfl, gp1, hF⟩ := hF
  refine ⟨Nat.le_of_ble_eq_true rfl, fun J hJ => ?_⟩
  show J 0 [(0, .int (Ii p1))] [] M
  unfold w_X12_width at hF
  refine j_iload_n hJ dX12_width_0 rfl 0 rfl ?_
  refine j_iconst hJ dX12_width_1 ?_
  refine j_icmp_ge hJ 9 gp1 rk_2 dX12_width_2 (by decide) (fun z1 => ?_) (fun z1 => ?_)
  · have hF := hF.1 z1
    refine j_iload_n hJ dX12_width_9 rfl 0 rfl ?_
    refine j_iconst hJ dX12_width_10 ?_
    refine j_icmp_ne hJ 18 gp1 rk_2 dX12_width_11 (by decide) (fun z2 => ?_) (fun z2 => ?_)
    · have hF := hF.1 z2
      refine j_iload_n hJ dX12_width_18 rfl 0 rfl ?_
      refine j_iconst hJ dX12_width_19 ?_
      refine j_icmp_ne hJ 28 gp1 rk_4 dX12_width_20 (by decide) (fun z3 => ?_) (fun z3 => ?_)
      · have hF := hF.1 z3
        refine j_iconst hJ dX12_width_28 ?_
        exact j_iret hJ rfl rk_4 dX12_width_29 hF
      · have hF := hF.2 z3
        refine j_bipush hJ dX12_width_23 (by decide) ?_
        refine j_goto hJ 29 dX12_width_25 (by decide) ?_
        exact j_iret hJ rfl rk_8 dX12_width_29 hF
    · have hF := hF.2 z2
      refine j_iconst hJ dX12_width_14 ?_
      refine j_goto hJ 29 dX12_width_15 (by decide) ?_
      exact j_iret hJ rfl rk_2 dX12_width_29 hF
  · have hF := hF.2 z1
    refine j_iconst hJ dX12_width_5 ?_
    refine j_goto hJ 29 dX12_width_6 (by decide) ?_
    exact j_iret hJ rfl rk_1 dX12_width_29 hF
def W_X12_isClass (ad : Nat → Nat) (Q : Int → MM → Prop) (av : List Value) (M : MM) : Prop := ∃ (p1 : Int), av = [.ref (ad 0), .int (Ii p1)] ∧ ri_ p1 ∧ w_X12_isClass  Q p1 M
set_option maxHeartbeats 4000000 in
set_option maxRecDepth 100000 in
theorem c_X12_isClass {l : Launch} {D : va_G} {cy : Nat → ClassId} {ad : Nat → Nat} (hin : jIn ad ksR.length) : jCN l D vwCl (tyR cy) cy ad ftR ksR (XtR ad) yX12_isClass (.code yX12_isClass cX12_isClass 2 (some .boolean) :: Om) ({ frames := 0, cells := 0, slots := 0, locals := 0 } : Room) 3 (W_X12_isClass ad) := by
  refine jCN_of (y := yX12_isClass) (cc := cX12_isClass) (nL := 2) (rk := 3) (rm := ({ frames := 0, cells := 0, slots := 0, locals := 0 } : Room)) (own := RX12) (tyR_ok cy) hin (XtR_ok ad) Om_good (by decide) rfl ?_
  intro Q av M hF
  obtain ⟨p1, rfl, gp1, hF⟩ := hF
  refine ⟨Nat.le_of_ble_eq_true rfl, fun J hJ => ?_⟩
  show J 0 [(0, .ref (ad 0)), (1, .int (Ii p1))] [] M
  unfold w_X12_isClass at hF
  refine j_iload_n hJ dX12_isClass_0 rfl 1 rfl ?_
  refine j_if_lt hJ 16 gp1 dX12_isClass_1 (by decide) (fun z1 => ?_) (fun z1 => ?_)
  · have hF := hF.1 z1
    refine j_iconst hJ dX12_isClass_16 ?_
    exact j_zret hJ rfl (by decide) dX12_isClass_17 hF
  · have hF := hF.2 z1
    refine j_iload_n hJ dX12_isClass_4 rfl 1 rfl ?_
    refine j_aload_n hJ dX12_isClass_5 rfl 0 rfl ?_
    refine j_gi hJ kR_0 fR_15_20 rfl fl_X12_413 dX12_isClass_6 (fun v2 ev2 gv2 => ?_)
    have hF := hF v2 ev2 gv2
    refine j_icmp_ge hJ 16 gp1 gv2 dX12_isClass_9 (by decide) (fun z3 => ?_) (fun z3 => ?_)
    · have hF := hF.1 z3
      refine j_iconst hJ dX12_isClass_16 ?_
      exact j_zret hJ rfl (by decide) dX12_isClass_17 hF
    · have hF := hF.2 z3
      refine j_iconst hJ dX12_isClass_12 ?_
      refine j_goto hJ 17 dX12_isClass_13 (by decide) ?_
      exact j_zret hJ rfl (by decide) dX12_isClass_17 hF
def W_X12_is (ad : Nat → Nat) (Q : Int → MM → Prop) (av : List Value) (M : MM) : Prop := ∃ (p1 : Int) (p2 : Int), av = [.ref (ad 0), .int (Ii p1), .int (Ii p2)] ∧ ri_ p1 ∧ ri_ p2 ∧ w_X12_is  Q p1 p2 M
set_option maxHeartbeats 4000000 in
set_option maxRecDepth 100000 in
theorem k_X12_is_b22 {l : Launch} {D : va_G} {cy : Nat → ClassId} {ad : Nat → Nat} {Q : Int → MM → Prop} {J : Nat → List (Nat × Value) → List Value → MM → Prop} (hin : jIn ad ksR.length)   (hJ : jOk l D vwCl (tyR cy) cy ad ftR ksR (XtR ad) Om RX12 cX12_is 4 3 ({ frames := 0, cells := 0, slots := 0, locals := 0 } : Room) Q J)  : ∀ (x3 : Int) (M : MM), ri_ x3 → w_X12_is_b22  Q  x3 M → J 22 [(3, .int (Ii x3))] [] M := by
  intro x3 M gx3 hF
  unfold w_X12_is_b22 at hF
  refine j_iload_n hJ dX12_is_22 rfl 0 rfl ?_
  refine j_iconst hJ dX12_is_23 ?_
  refine j_icmp_eq hJ 31 gx3 rk_m1 dX12_is_24 (by decide) (fun z1 => ?_) (fun z1 => ?_)
  · have hF := hF.1 z1
    refine j_iconst hJ dX12_is_31 ?_
    exact j_zret hJ rfl (by decide) dX12_is_32 hF
  · have hF := hF.2 z1
    refine j_iconst hJ dX12_is_27 ?_
    refine j_goto hJ 32 dX12_is_28 (by decide) ?_
    exact j_zret hJ rfl (by decide) dX12_is_32 hF
set_option maxHeartbeats 4000000 in
set_option maxRecDepth 100000 in
theorem k_X12_is_b2 {l : Launch} {D : va_G} {cy : Nat → ClassId} {ad : Nat → Nat} {Q : Int → MM → Prop} {J : Nat → List (Nat × Value) → List Value → MM → Prop} (hin : jIn ad ksR.length)   (hJ : jOk l D vwCl (tyR cy) cy ad ftR ksR (XtR ad) Om RX12 cX12_is 4 3 ({ frames := 0, cells := 0, slots := 0, locals := 0 } : Room) Q J)  : ∀ (x2 x3 : Int) (M : MM), ri_ x2 → ri_ x3 → w_X12_is_b2  Q  x2 x3 M → J 2 [(0, .ref (ad 0)), (2, .int (Ii x2)), (3, .int (Ii x3))] [] M := by
  have H9 : ∀ (n : Nat) (x2 x3 : Int) (M : MM), ri_ x2 → ri_ x3 → jit (fun _ _ _ => False) (wb_X12_is_b2  Q ) n x2 x3 M → J 2 [(0, .ref (ad 0)), (2, .int (Ii x2)), (3, .int (Ii x3))] [] M := by
    intro n
    induction n with
    | zero => intro x2 x3 M gx2 gx3 hF; exact False.elim hF
    | succ n ih =>
    intro x2 x3 M gx2 gx3 hF
    have hF : wb_X12_is_b2  Q  (jit (fun _ _ _ => False) (wb_X12_is_b2  Q ) n) x2 x3 M := hF
    unfold wb_X12_is_b2 at hF
    refine j_iload_n hJ dX12_is_2 rfl 2 rfl ?_
    refine j_iconst hJ dX12_is_3 ?_
    refine j_icmp_eq hJ 22 gx3 rk_m1 dX12_is_4 (by decide) (fun z1 => ?_) (fun z1 => ?_)
    · have hF := hF.1 z1
      exact j_sub hJ [2] rfl (k_X12_is_b22 hin  hJ  x3 _ gx3 hF)
    · have hF := hF.2 z1
      refine j_iload_n hJ dX12_is_7 rfl 2 rfl ?_
      refine j_iload_n hJ dX12_is_8 rfl 1 rfl ?_
      refine j_icmp_eq hJ 22 gx3 gx2 dX12_is_9 (by decide) (fun z2 => ?_) (fun z2 => ?_)
      · have hF := hF.1 z2
        exact j_sub hJ [2] rfl (k_X12_is_b22 hin  hJ  x3 _ gx3 hF)
      · have hF := hF.2 z2
        refine j_aload_n hJ dX12_is_12 rfl 0 rfl ?_
        refine j_gr (e := 8) hJ kR_0 fR_15_9 fl_X12_91 dX12_is_13 rfl ?_
        refine j_iload_n hJ dX12_is_16 rfl 2 rfl ?_
        refine j_iald hJ gx3 kR_8 hF.1 hF.2.1 dX12_is_17 (fun v3 ev3 gv3 => ?_)
        have hF := hF.2.2 v3 ev3 gv3
        refine j_istore_n (lv' := [(3, .int (Ii v3)), (0, .ref (ad 0)), (2, .int (Ii x2))]) hJ dX12_is_18 rfl (by decide) rfl ?_
        refine j_goto hJ 2 dX12_is_19 (by decide) ?_
        exact j_sub hJ [1, 2, 0] rfl (ih x2 v3 _ gx2 gv3 hF)
  intro x2 x3 M gx2 gx3 hF
  obtain ⟨n, hF⟩ := hF
  exact H9 n x2 x3 M gx2 gx3 hF
set_option maxHeartbeats 4000000 in
set_option maxRecDepth 100000 in
theorem c_X12_is {l : Launch} {D : va_G} {cy : Nat → ClassId} {ad : Nat → Nat} (hin : jIn ad ksR.length) : jCN l D vwCl (tyR cy) cy ad ftR ksR (XtR ad) yX12_is (.code yX12_is cX12_is 4 (some .boolean) :: Om) ({ frames := 0, cells := 0, slots := 0, locals := 0 } : Room) 3 (W_X12_is ad) := by
  refine jCN_of (y := yX12_is) (cc := cX12_is) (nL := 4) (rk := 3) (rm := ({ frames := 0, cells := 0, slots := 0, locals := 0 } : Room)) (own := RX12) (tyR_ok cy) hin (XtR_ok ad) Om_good (by decide) rfl ?_
  intro Q av M hF
  obtain ⟨p1, p2, rfl, gp1, gp2, hF⟩ := hF
  refine ⟨Nat.le_of_ble_eq_true rfl, fun J hJ => ?_⟩
  show J 0 [(0, .ref (ad 0)), (1, .int (Ii p1)), (2, .int (Ii p2))] [] M
  unfold w_X12_is at hF
  refine j_iload_n hJ dX12_is_0 rfl 1 rfl ?_
  refine j_istore_n (lv' := [(3, .int (Ii p1)), (0, .ref (ad 0)), (1, .int (Ii p1)), (2, .int (Ii p2))]) hJ dX12_is_1 rfl (by decide) rfl ?_
  exact j_sub hJ [1, 3, 0] rfl (k_X12_is_b2 hin  hJ  p2 p1 _ gp2 gp1 hF)
def W_X12_layOut (ad : Nat → Nat) (Q : Int → MM → Prop) (av : List Value) (M : MM) : Prop := ∃ (p1 : Int), av = [.ref (ad 0), .int (Ii p1)] ∧ ri_ p1 ∧ w_X12_layOut  Q p1 M
set_option maxHeartbeats 4000000 in
set_option maxRecDepth 100000 in
theorem k_X12_layOut_b217 {l : Launch} {D : va_G} {cy : Nat → ClassId} {ad : Nat → Nat} {Q : Int → MM → Prop} {J : Nat → List (Nat × Value) → List Value → MM → Prop} (hin : jIn ad ksR.length)   (hJ : jOk l D vwCl (tyR cy) cy ad ftR ksR (XtR ad) Om RX12 cX12_layOut 8 0 ({ frames := 1, cells := 0, slots := 0, locals := 20 } : Room) Q J) {K131 : Int → Int → Int → MM → Prop} (hK131 : ∀ (x1 x4 x5 : Int) (M : MM), ri_ x1 → ri_ x4 → ri_ x5 → K131 x1 x4 x5 M → J 131 [(0, .ref (ad 0)), (1, .int (Ii x1)), (4, .int (Ii x4)), (5, .int (Ii x5))] [] M) {K139 : Int → Int → Int → Int → MM → Prop} (hK139 : ∀ (x1 x4 x5 x6 : Int) (M : MM), ri_ x1 → ri_ x4 → ri_ x5 → ri_ x6 → K139 x1 x4 x5 x6 M → J 139 [(0, .ref (ad 0)), (1, .int (Ii x1)), (4, .int (Ii x4)), (5, .int (Ii x5)), (6, .int (Ii x6))] [] M) : ∀ (x1 x4 x5 x6 : Int) (M : MM), ri_ x1 → ri_ x4 → ri_ x5 → ri_ x6 → w_X12_layOut_b217  Q K131 K139 x1 x4 x5 x6 M → J 217 [(0, .ref (ad 0)), (1, .int (Ii x1)), (4, .int (Ii x4)), (5, .int (Ii x5)), (6, .int (Ii x6))] [] M := by
  intro x1 x4 x5 x6 M gx1 gx4 gx5 gx6 hF
  unfold w_X12_layOut_b217 at hF
  refine j_iinc (lv' := [(6, .int (Ii (x6 + 1))), (0, .ref (ad 0)), (1, .int (Ii x1)), (4, .int (Ii x4)), (5, .int (Ii x5))]) (k := 4) hJ dX12_layOut_217 rfl (by decide) rfl ?_
  have g1 := hF.1; have hF := hF.2
  refine j_goto hJ 139 dX12_layOut_220 (by decide) ?_
  exact j_sub hJ [1, 2, 3, 4, 0] rfl (hK139 x1 x4 x5 (x6 + 1) _ gx1 gx4 gx5 g1 hF)
set_option maxHeartbeats 4000000 in
set_option maxRecDepth 100000 in
theorem k_X12_layOut_b187 {l : Launch} {D : va_G} {cy : Nat → ClassId} {ad : Nat → Nat} {Q : Int → MM → Prop} {J : Nat → List (Nat × Value) → List Value → MM → Prop} (hin : jIn ad ksR.length)   (hJ : jOk l D vwCl (tyR cy) cy ad ftR ksR (XtR ad) Om RX12 cX12_layOut 8 0 ({ frames := 1, cells := 0, slots := 0, locals := 20 } : Room) Q J) {K131 : Int → Int → Int → MM → Prop} (hK131 : ∀ (x1 x4 x5 : Int) (M : MM), ri_ x1 → ri_ x4 → ri_ x5 → K131 x1 x4 x5 M → J 131 [(0, .ref (ad 0)), (1, .int (Ii x1)), (4, .int (Ii x4)), (5, .int (Ii x5))] [] M) {K139 : Int → Int → Int → Int → MM → Prop} (hK139 : ∀ (x1 x4 x5 x6 : Int) (M : MM), ri_ x1 → ri_ x4 → ri_ x5 → ri_ x6 → K139 x1 x4 x5 x6 M → J 139 [(0, .ref (ad 0)), (1, .int (Ii x1)), (4, .int (Ii x4)), (5, .int (Ii x5)), (6, .int (Ii x6))] [] M) : ∀ (x1 x4 x5 x6 x7 : Int) (M : MM), ri_ x1 → ri_ x4 → ri_ x5 → ri_ x6 → ri_ x7 → w_X12_layOut_b187  Q K131 K139 x1 x4 x5 x6 x7 M → J 187 [(0, .ref (ad 0)), (1, .int (Ii x1)), (4, .int (Ii x4)), (5, .int (Ii x5)), (6, .int (Ii x6)), (7, .int (Ii x7))] [] M := by
  have H9 : ∀ (n : Nat) (x1 x4 x5 x6 x7 : Int) (M : MM), ri_ x1 → ri_ x4 → ri_ x5 → ri_ x6 → ri_ x7 → jit (fun _ _ _ _ _ _ => False) (wb_X12_layOut_b187  Q K131 K139) n x1 x4 x5 x6 x7 M → J 187 [(0, .ref (ad 0)), (1, .int (Ii x1)), (4, .int (Ii x4)), (5, .int (Ii x5)), (6, .int (Ii x6)), (7, .int (Ii x7))] [] M := by
    intro n
    induction n with
    | zero => intro x1 x4 x5 x6 x7 M gx1 gx4 gx5 gx6 gx7 hF; exact False.elim hF
    | succ n ih =>
    intro x1 x4 x5 x6 x7 M gx1 gx4 gx5 gx6 gx7 hF
    have hF : wb_X12_layOut_b187  Q K131 K139 (jit (fun _ _ _ _ _ _ => False) (wb_X12_layOut_b187  Q K131 K139) n) x1 x4 x5 x6 x7 M := hF
    unfold wb_X12_layOut_b187 at hF
    refine j_iload hJ dX12_layOut_187 2 rfl ?_
    refine j_iload hJ dX12_layOut_189 3 rfl ?_
    refine j_irem hJ gx4 gx5 hF.1 dX12_layOut_191 ?_
    have g1 := hF.2.1; have hF := hF.2.2
    refine j_if_eq hJ 201 g1 dX12_layOut_192 (by decide) (fun z2 => ?_) (fun z2 => ?_)
    · have hF := hF.1 z2
      refine j_aload_n hJ dX12_layOut_201 rfl 0 rfl ?_
      refine j_gr (e := 15) hJ kR_0 fR_15_16 fl_X12_112 dX12_layOut_202 rfl ?_
      refine j_iload hJ dX12_layOut_205 5 rfl ?_
      refine j_iload hJ dX12_layOut_207 2 rfl ?_
      refine j_iast hJ gx7 gx4 kR_15 hF.1 hF.2.1 dX12_layOut_209 (fun M3 eM3 => ?_)
      have hF := hF.2.2 M3 eM3
      refine j_iload hJ dX12_layOut_210 2 rfl ?_
      refine j_iload hJ dX12_layOut_212 3 rfl ?_
      refine j_iadd hJ dX12_layOut_214 ?_
      have g4 := hF.1; have hF := hF.2
      refine j_istore (lv' := [(4, .int (Ii (x4 + x5))), (0, .ref (ad 0)), (1, .int (Ii x1)), (5, .int (Ii x5)), (6, .int (Ii x6)), (7, .int (Ii x7))]) hJ dX12_layOut_215 (by decide) rfl ?_
      exact j_sub hJ [1, 2, 0, 3, 4] rfl (k_X12_layOut_b217 hin  hJ hK131 hK139 x1 (x4 + x5) x5 x6 _ gx1 g4 gx5 gx6 hF)
    · have hF := hF.2 z2
      refine j_iinc (lv' := [(4, .int (Ii (x4 + 1))), (0, .ref (ad 0)), (1, .int (Ii x1)), (5, .int (Ii x5)), (6, .int (Ii x6)), (7, .int (Ii x7))]) (k := 2) hJ dX12_layOut_195 rfl (by decide) rfl ?_
      have g5 := hF.1; have hF := hF.2
      refine j_goto hJ 187 dX12_layOut_198 (by decide) ?_
      exact j_sub hJ [1, 2, 0, 3, 4, 5] rfl (ih x1 (x4 + 1) x5 x6 x7 _ gx1 g5 gx5 gx6 gx7 hF)
  intro x1 x4 x5 x6 x7 M gx1 gx4 gx5 gx6 gx7 hF
  obtain ⟨n, hF⟩ := hF
  exact H9 n x1 x4 x5 x6 x7 M gx1 gx4 gx5 gx6 gx7 hF
set_option maxHeartbeats 4000000 in
set_option maxRecDepth 100000 in
theorem k_X12_layOut_b139 {l : Launch} {D : va_G} {cy : Nat → ClassId} {ad : Nat → Nat} {Q : Int → MM → Prop} {J : Nat → List (Nat × Value) → List Value → MM → Prop} (hin : jIn ad ksR.length)   (hJ : jOk l D vwCl (tyR cy) cy ad ftR ksR (XtR ad) Om RX12 cX12_layOut 8 0 ({ frames := 1, cells := 0, slots := 0, locals := 20 } : Room) Q J) {K131 : Int → Int → Int → MM → Prop} (hK131 : ∀ (x1 x4 x5 : Int) (M : MM), ri_ x1 → ri_ x4 → ri_ x5 → K131 x1 x4 x5 M → J 131 [(0, .ref (ad 0)), (1, .int (Ii x1)), (4, .int (Ii x4)), (5, .int (Ii x5))] [] M) : ∀ (x1 x4 x5 x6 : Int) (M : MM), ri_ x1 → ri_ x4 → ri_ x5 → ri_ x6 → w_X12_layOut_b139  Q K131 x1 x4 x5 x6 M → J 139 [(0, .ref (ad 0)), (1, .int (Ii x1)), (4, .int (Ii x4)), (5, .int (Ii x5)), (6, .int (Ii x6))] [] M := by
  have H9 : ∀ (n : Nat) (x1 x4 x5 x6 : Int) (M : MM), ri_ x1 → ri_ x4 → ri_ x5 → ri_ x6 → jit (fun _ _ _ _ _ => False) (wb_X12_layOut_b139  Q K131) n x1 x4 x5 x6 M → J 139 [(0, .ref (ad 0)), (1, .int (Ii x1)), (4, .int (Ii x4)), (5, .int (Ii x5)), (6, .int (Ii x6))] [] M := by
    intro n
    induction n with
    | zero => intro x1 x4 x5 x6 M gx1 gx4 gx5 gx6 hF; exact False.elim hF
    | succ n ih =>
    intro x1 x4 x5 x6 M gx1 gx4 gx5 gx6 hF
    have hF : wb_X12_layOut_b139  Q K131 (jit (fun _ _ _ _ _ => False) (wb_X12_layOut_b139  Q K131) n) x1 x4 x5 x6 M := hF
    unfold wb_X12_layOut_b139 at hF
    refine j_iload hJ dX12_layOut_139 4 rfl ?_
    refine j_aload_n hJ dX12_layOut_141 rfl 0 rfl ?_
    refine j_gr (e := 9) hJ kR_0 fR_15_10 fl_X12_94 dX12_layOut_142 rfl ?_
    refine j_iload_n hJ dX12_layOut_145 rfl 1 rfl ?_
    refine j_iald hJ gx1 kR_9 hF.1 hF.2.1 dX12_layOut_146 (fun v1 ev1 gv1 => ?_)
    have hF := hF.2.2 v1 ev1 gv1
    refine j_icmp_ge hJ 223 gx6 gv1 dX12_layOut_147 (by decide) (fun z2 => ?_) (fun z2 => ?_)
    · have hF := hF.1 z2
      refine j_iload hJ dX12_layOut_223 3 rfl ?_
      refine j_iconst hJ dX12_layOut_225 ?_
      refine j_idiv hJ gx5 rk_2 (by decide) dX12_layOut_226 ?_
      have g3 := hF.1; have hF := hF.2
      refine j_istore (lv' := [(5, .int (Ii ((Int.tdiv x5 2)))), (0, .ref (ad 0)), (1, .int (Ii x1)), (4, .int (Ii x4)), (6, .int (Ii x6))]) hJ dX12_layOut_227 (by decide) rfl ?_
      refine j_goto hJ 131 dX12_layOut_229 (by decide) ?_
      exact j_sub hJ [1, 2, 3, 0] rfl (hK131 x1 x4 ((Int.tdiv x5 2)) _ gx1 gx4 g3 hF)
    · have hF := hF.2 z2
      refine j_bipush hJ dX12_layOut_150 (by decide) ?_
      refine j_iload_n hJ dX12_layOut_152 rfl 1 rfl ?_
      refine j_imul hJ dX12_layOut_153 ?_
      have g4 := hF.1; have hF := hF.2
      refine j_iload hJ dX12_layOut_154 4 rfl ?_
      refine j_iadd hJ dX12_layOut_156 ?_
      have g5 := hF.1; have hF := hF.2
      refine j_istore (lv' := [(7, .int (Ii ((6 * x1) + x6))), (0, .ref (ad 0)), (1, .int (Ii x1)), (4, .int (Ii x4)), (5, .int (Ii x5)), (6, .int (Ii x6))]) hJ dX12_layOut_157 (by decide) rfl ?_
      refine j_aload_n hJ dX12_layOut_159 rfl 1 rfl ?_
      refine j_gr (e := 17) hJ kR_0 fR_15_18 fl_X12_119 dX12_layOut_160 rfl ?_
      refine j_iload hJ dX12_layOut_163 0 rfl ?_
      refine j_zald hJ g5 kR_17 hF.1 hF.2.1 dX12_layOut_165 (fun v6 ev6 gv6 => ?_)
      have hF := hF.2.2 v6 ev6 gv6
      refine j_if_ne hJ 217 (jz_ri gv6) dX12_layOut_166 (by decide) (fun z7 => ?_) (fun z7 => ?_)
      · have hF := hF.1 z7
        exact j_sub hJ [1, 2, 3, 4, 5] rfl (k_X12_layOut_b217 hin  hJ hK131 ih x1 x4 x5 x6 _ gx1 gx4 gx5 gx6 hF)
      · have hF := hF.2 z7
        refine j_aload_n hJ dX12_layOut_169 rfl 1 rfl ?_
        refine j_gr (e := 12) hJ kR_0 fR_15_13 fl_X12_103 dX12_layOut_170 rfl ?_
        refine j_iload hJ dX12_layOut_173 0 rfl ?_
        refine j_iald hJ g5 kR_12 hF.1 hF.2.1 dX12_layOut_175 (fun v8 ev8 gv8 => ?_)
        have hF := hF.2.2 v8 ev8 gv8
        refine j_callSi hJ (c_X12_width (l := l) (D := D) (cy := cy) (ad := ad) hin) rfl om_1057 ⟨rfl, rfl, Nat.le_of_ble_eq_true rfl, Nat.le_of_ble_eq_true rfl⟩ [.int (Ii v8)] mv_X12_427 hd_X12_width rfl (Nat.le_of_ble_eq_true rfl) dX12_layOut_176 ⟨v8, rfl, gv8, hF⟩ (fun r9 M10 gr9 qM10 => ?_)
        have hF := qM10 gr9
        refine j_iload hJ dX12_layOut_179 4 rfl ?_
        refine j_icmp_eq hJ 187 gr9 gx5 dX12_layOut_181 (by decide) (fun z11 => ?_) (fun z11 => ?_)
        · have hF := hF.1 z11
          exact j_sub hJ [1, 2, 3, 4, 5, 0] rfl (k_X12_layOut_b187 hin  hJ hK131 ih x1 x4 x5 x6 ((6 * x1) + x6) _ gx1 gx4 gx5 gx6 g5 hF)
        · have hF := hF.2 z11
          refine j_goto hJ 217 dX12_layOut_184 (by decide) ?_
          exact j_sub hJ [1, 2, 3, 4, 5] rfl (k_X12_layOut_b217 hin  hJ hK131 ih x1 x4 x5 x6 _ gx1 gx4 gx5 gx6 hF)
  intro x1 x4 x5 x6 M gx1 gx4 gx5 gx6 hF
  obtain ⟨n, hF⟩ := hF
  exact H9 n x1 x4 x5 x6 M gx1 gx4 gx5 gx6 hF
set_option maxHeartbeats 4000000 in
set_option maxRecDepth 100000 in
theorem k_X12_layOut_b131 {l : Launch} {D : va_G} {cy : Nat → ClassId} {ad : Nat → Nat} {Q : Int → MM → Prop} {J : Nat → List (Nat × Value) → List Value → MM → Prop} (hin : jIn ad ksR.length)   (hJ : jOk l D vwCl (tyR cy) cy ad ftR ksR (XtR ad) Om RX12 cX12_layOut 8 0 ({ frames := 1, cells := 0, slots := 0, locals := 20 } : Room) Q J)  : ∀ (x1 x4 x5 : Int) (M : MM), ri_ x1 → ri_ x4 → ri_ x5 → w_X12_layOut_b131  Q  x1 x4 x5 M → J 131 [(0, .ref (ad 0)), (1, .int (Ii x1)), (4, .int (Ii x4)), (5, .int (Ii x5))] [] M := by
  have H9 : ∀ (n : Nat) (x1 x4 x5 : Int) (M : MM), ri_ x1 → ri_ x4 → ri_ x5 → jit (fun _ _ _ _ => False) (wb_X12_layOut_b131  Q ) n x1 x4 x5 M → J 131 [(0, .ref (ad 0)), (1, .int (Ii x1)), (4, .int (Ii x4)), (5, .int (Ii x5))] [] M := by
    intro n
    induction n with
    | zero => intro x1 x4 x5 M gx1 gx4 gx5 hF; exact False.elim hF
    | succ n ih =>
    intro x1 x4 x5 M gx1 gx4 gx5 hF
    have hF : wb_X12_layOut_b131  Q  (jit (fun _ _ _ _ => False) (wb_X12_layOut_b131  Q ) n) x1 x4 x5 M := hF
    unfold wb_X12_layOut_b131 at hF
    refine j_iload hJ dX12_layOut_131 3 rfl ?_
    refine j_if_le hJ 232 gx5 dX12_layOut_133 (by decide) (fun z1 => ?_) (fun z1 => ?_)
    · have hF := hF.1 z1
      refine j_aload_n hJ dX12_layOut_232 rfl 0 rfl ?_
      refine j_gr (e := 11) hJ kR_0 fR_15_12 fl_X12_100 dX12_layOut_233 rfl ?_
      refine j_iload_n hJ dX12_layOut_236 rfl 1 rfl ?_
      refine j_iload hJ dX12_layOut_237 2 rfl ?_
      refine j_iast hJ gx1 gx4 kR_11 hF.1 hF.2.1 dX12_layOut_239 (fun M2 eM2 => ?_)
      have hF := hF.2.2 M2 eM2
      exact j_vret hJ rfl dX12_layOut_240 hF
    · have hF := hF.2 z1
      refine j_iconst hJ dX12_layOut_136 ?_
      refine j_istore (lv' := [(6, .int (Ii 0)), (0, .ref (ad 0)), (1, .int (Ii x1)), (4, .int (Ii x4)), (5, .int (Ii x5))]) hJ dX12_layOut_137 (by decide) rfl ?_
      exact j_sub hJ [1, 2, 3, 4, 0] rfl (k_X12_layOut_b139 hin  hJ ih x1 x4 x5 0 _ gx1 gx4 gx5 rk_0 hF)
  intro x1 x4 x5 M gx1 gx4 gx5 hF
  obtain ⟨n, hF⟩ := hF
  exact H9 n x1 x4 x5 M gx1 gx4 gx5 hF
set_option maxHeartbeats 4000000 in
set_option maxRecDepth 100000 in
theorem k_X12_layOut_b125 {l : Launch} {D : va_G} {cy : Nat → ClassId} {ad : Nat → Nat} {Q : Int → MM → Prop} {J : Nat → List (Nat × Value) → List Value → MM → Prop} (hin : jIn ad ksR.length)   (hJ : jOk l D vwCl (tyR cy) cy ad ftR ksR (XtR ad) Om RX12 cX12_layOut 8 0 ({ frames := 1, cells := 0, slots := 0, locals := 20 } : Room) Q J)  : ∀ (x1 s0 : Int) (M : MM), ri_ x1 → ri_ s0 → w_X12_layOut_b125  Q  x1 s0 M → J 125 [(0, .ref (ad 0)), (1, .int (Ii x1))] [.int (Ii s0)] M := by
  intro x1 s0 M gx1 gs0 hF
  unfold w_X12_layOut_b125 at hF
  refine j_istore (lv' := [(4, .int (Ii s0)), (0, .ref (ad 0)), (1, .int (Ii x1))]) hJ dX12_layOut_125 (by decide) rfl ?_
  refine j_bipush hJ dX12_layOut_127 (by decide) ?_
  refine j_istore (lv' := [(5, .int (Ii 8)), (4, .int (Ii s0)), (0, .ref (ad 0)), (1, .int (Ii x1))]) hJ dX12_layOut_129 (by decide) rfl ?_
  exact j_sub hJ [2, 3, 1, 0] rfl (k_X12_layOut_b131 hin  hJ  x1 s0 8 _ gx1 gs0 rk_8 hF)
set_option maxHeartbeats 4000000 in
set_option maxRecDepth 100000 in
theorem k_X12_layOut_b86 {l : Launch} {D : va_G} {cy : Nat → ClassId} {ad : Nat → Nat} {Q : Int → MM → Prop} {J : Nat → List (Nat × Value) → List Value → MM → Prop} (hin : jIn ad ksR.length)   (hJ : jOk l D vwCl (tyR cy) cy ad ftR ksR (XtR ad) Om RX12 cX12_layOut 8 0 ({ frames := 1, cells := 0, slots := 0, locals := 20 } : Room) Q J) {K31 : Int → Int → Int → Int → MM → Prop} (hK31 : ∀ (x1 x2 x3 x4 : Int) (M : MM), ri_ x1 → ri_ x2 → ri_ x3 → ri_ x4 → K31 x1 x2 x3 x4 M → J 31 [(0, .ref (ad 0)), (1, .int (Ii x1)), (2, .int (Ii x2)), (3, .int (Ii x3)), (4, .int (Ii x4))] [] M) : ∀ (x1 x2 x3 x4 : Int) (M : MM), ri_ x1 → ri_ x2 → ri_ x3 → ri_ x4 → w_X12_layOut_b86  Q K31 x1 x2 x3 x4 M → J 86 [(0, .ref (ad 0)), (1, .int (Ii x1)), (2, .int (Ii x2)), (3, .int (Ii x3)), (4, .int (Ii x4))] [] M := by
  intro x1 x2 x3 x4 M gx1 gx2 gx3 gx4 hF
  unfold w_X12_layOut_b86 at hF
  refine j_iinc (lv' := [(4, .int (Ii (x4 + 1))), (0, .ref (ad 0)), (1, .int (Ii x1)), (2, .int (Ii x2)), (3, .int (Ii x3))]) (k := 4) hJ dX12_layOut_86 rfl (by decide) rfl ?_
  have g1 := hF.1; have hF := hF.2
  refine j_goto hJ 31 dX12_layOut_89 (by decide) ?_
  exact j_sub hJ [1, 2, 3, 4, 0] rfl (hK31 x1 x2 x3 (x4 + 1) _ gx1 gx2 gx3 g1 hF)
set_option maxHeartbeats 4000000 in
set_option maxRecDepth 100000 in
theorem k_X12_layOut_b31 {l : Launch} {D : va_G} {cy : Nat → ClassId} {ad : Nat → Nat} {Q : Int → MM → Prop} {J : Nat → List (Nat × Value) → List Value → MM → Prop} (hin : jIn ad ksR.length)   (hJ : jOk l D vwCl (tyR cy) cy ad ftR ksR (XtR ad) Om RX12 cX12_layOut 8 0 ({ frames := 1, cells := 0, slots := 0, locals := 20 } : Room) Q J)  : ∀ (x1 x2 x3 x4 : Int) (M : MM), ri_ x1 → ri_ x2 → ri_ x3 → ri_ x4 → w_X12_layOut_b31  Q  x1 x2 x3 x4 M → J 31 [(0, .ref (ad 0)), (1, .int (Ii x1)), (2, .int (Ii x2)), (3, .int (Ii x3)), (4, .int (Ii x4))] [] M := by
  have H9 : ∀ (n : Nat) (x1 x2 x3 x4 : Int) (M : MM), ri_ x1 → ri_ x2 → ri_ x3 → ri_ x4 → jit (fun _ _ _ _ _ => False) (wb_X12_layOut_b31  Q ) n x1 x2 x3 x4 M → J 31 [(0, .ref (ad 0)), (1, .int (Ii x1)), (2, .int (Ii x2)), (3, .int (Ii x3)), (4, .int (Ii x4))] [] M := by
    intro n
    induction n with
    | zero => intro x1 x2 x3 x4 M gx1 gx2 gx3 gx4 hF; exact False.elim hF
    | succ n ih =>
    intro x1 x2 x3 x4 M gx1 gx2 gx3 gx4 hF
    have hF : wb_X12_layOut_b31  Q  (jit (fun _ _ _ _ _ => False) (wb_X12_layOut_b31  Q ) n) x1 x2 x3 x4 M := hF
    unfold wb_X12_layOut_b31 at hF
    refine j_iload hJ dX12_layOut_31 4 rfl ?_
    refine j_aload_n hJ dX12_layOut_33 rfl 0 rfl ?_
    refine j_gr (e := 9) hJ kR_0 fR_15_10 fl_X12_94 dX12_layOut_34 rfl ?_
    refine j_iload_n hJ dX12_layOut_37 rfl 1 rfl ?_
    refine j_iald hJ gx1 kR_9 hF.1 hF.2.1 dX12_layOut_38 (fun v1 ev1 gv1 => ?_)
    have hF := hF.2.2 v1 ev1 gv1
    refine j_icmp_ge hJ 92 gx4 gv1 dX12_layOut_39 (by decide) (fun z2 => ?_) (fun z2 => ?_)
    · have hF := hF.1 z2
      refine j_aload_n hJ dX12_layOut_92 rfl 0 rfl ?_
      refine j_gr (e := 10) hJ kR_0 fR_15_11 fl_X12_97 dX12_layOut_93 rfl ?_
      refine j_iload_n hJ dX12_layOut_96 rfl 1 rfl ?_
      refine j_iload_n hJ dX12_layOut_97 rfl 2 rfl ?_
      refine j_iast hJ gx1 gx2 kR_10 hF.1 hF.2.1 dX12_layOut_98 (fun M3 eM3 => ?_)
      have hF := hF.2.2 M3 eM3
      refine j_aload_n hJ dX12_layOut_99 rfl 0 rfl ?_
      refine j_gr (e := 8) hJ kR_0 fR_15_9 fl_X12_91 dX12_layOut_100 rfl ?_
      refine j_iload_n hJ dX12_layOut_103 rfl 1 rfl ?_
      refine j_iald hJ gx1 kR_8 hF.1 hF.2.1 dX12_layOut_104 (fun v4 ev4 gv4 => ?_)
      have hF := hF.2.2 v4 ev4 gv4
      refine j_iconst hJ dX12_layOut_105 ?_
      refine j_icmp_ne hJ 114 gv4 rk_m1 dX12_layOut_106 (by decide) (fun z5 => ?_) (fun z5 => ?_)
      · have hF := hF.1 z5
        refine j_aload_n hJ dX12_layOut_114 rfl 0 rfl ?_
        refine j_gr (e := 11) hJ kR_0 fR_15_12 fl_X12_100 dX12_layOut_115 rfl ?_
        refine j_aload_n hJ dX12_layOut_118 rfl 0 rfl ?_
        refine j_gr (e := 8) hJ kR_0 fR_15_9 fl_X12_91 dX12_layOut_119 rfl ?_
        refine j_iload_n hJ dX12_layOut_122 rfl 1 rfl ?_
        refine j_iald hJ gx1 kR_8 hF.1 hF.2.1 dX12_layOut_123 (fun v6 ev6 gv6 => ?_)
        have hF := hF.2.2 v6 ev6 gv6
        refine j_iald hJ gv6 kR_11 hF.1 hF.2.1 dX12_layOut_124 (fun v7 ev7 gv7 => ?_)
        have hF := hF.2.2 v7 ev7 gv7
        exact j_sub hJ [0, 1] rfl (k_X12_layOut_b125 hin  hJ  x1 v7 _ gx1 gv7 hF)
      · have hF := hF.2 z5
        refine j_bipush hJ dX12_layOut_109 (by decide) ?_
        refine j_goto hJ 125 dX12_layOut_111 (by decide) ?_
        exact j_sub hJ [0, 1] rfl (k_X12_layOut_b125 hin  hJ  x1 12 _ gx1 rk_12 hF)
    · have hF := hF.2 z2
      refine j_bipush hJ dX12_layOut_42 (by decide) ?_
      refine j_iload_n hJ dX12_layOut_44 rfl 1 rfl ?_
      refine j_imul hJ dX12_layOut_45 ?_
      have g8 := hF.1; have hF := hF.2
      refine j_iload hJ dX12_layOut_46 4 rfl ?_
      refine j_iadd hJ dX12_layOut_48 ?_
      have g9 := hF.1; have hF := hF.2
      refine j_istore (lv' := [(5, .int (Ii ((6 * x1) + x4))), (0, .ref (ad 0)), (1, .int (Ii x1)), (2, .int (Ii x2)), (3, .int (Ii x3)), (4, .int (Ii x4))]) hJ dX12_layOut_49 (by decide) rfl ?_
      refine j_aload_n hJ dX12_layOut_51 rfl 1 rfl ?_
      refine j_gr (e := 17) hJ kR_0 fR_15_18 fl_X12_119 dX12_layOut_52 rfl ?_
      refine j_iload hJ dX12_layOut_55 0 rfl ?_
      refine j_zald hJ g9 kR_17 hF.1 hF.2.1 dX12_layOut_57 (fun v10 ev10 gv10 => ?_)
      have hF := hF.2.2 v10 ev10 gv10
      refine j_if_eq hJ 75 (jz_ri gv10) dX12_layOut_58 (by decide) (fun z11 => ?_) (fun z11 => ?_)
      · have hF := hF.1 z11
        refine j_aload_n hJ dX12_layOut_75 rfl 1 rfl ?_
        refine j_gr (e := 14) hJ kR_0 fR_15_15 fl_X12_109 dX12_layOut_76 rfl ?_
        refine j_iload hJ dX12_layOut_79 0 rfl ?_
        refine j_iload_n hJ dX12_layOut_81 rfl 3 rfl ?_
        refine j_iast hJ g9 gx2 kR_14 hF.1 hF.2.1 dX12_layOut_82 (fun M12 eM12 => ?_)
        have hF := hF.2.2 M12 eM12
        refine j_iinc (lv' := [(2, .int (Ii (x2 + 1))), (5, .int (Ii ((6 * x1) + x4))), (0, .ref (ad 0)), (1, .int (Ii x1)), (3, .int (Ii x3)), (4, .int (Ii x4))]) (k := 3) hJ dX12_layOut_83 rfl (by decide) rfl ?_
        have g13 := hF.1; have hF := hF.2
        exact j_sub hJ [2, 3, 0, 4, 5] rfl (k_X12_layOut_b86 hin  hJ ih x1 (x2 + 1) x3 x4 _ gx1 g13 gx3 gx4 hF)
      · have hF := hF.2 z11
        refine j_aload_n hJ dX12_layOut_61 rfl 1 rfl ?_
        refine j_gr (e := 14) hJ kR_0 fR_15_15 fl_X12_109 dX12_layOut_62 rfl ?_
        refine j_iload hJ dX12_layOut_65 0 rfl ?_
        refine j_iload_n hJ dX12_layOut_67 rfl 4 rfl ?_
        refine j_iast hJ g9 gx3 kR_14 hF.1 hF.2.1 dX12_layOut_68 (fun M14 eM14 => ?_)
        have hF := hF.2.2 M14 eM14
        refine j_iinc (lv' := [(3, .int (Ii (x3 + 1))), (5, .int (Ii ((6 * x1) + x4))), (0, .ref (ad 0)), (1, .int (Ii x1)), (2, .int (Ii x2)), (4, .int (Ii x4))]) (k := 4) hJ dX12_layOut_69 rfl (by decide) rfl ?_
        have g15 := hF.1; have hF := hF.2
        refine j_goto hJ 86 dX12_layOut_72 (by decide) ?_
        exact j_sub hJ [2, 3, 4, 0, 5] rfl (k_X12_layOut_b86 hin  hJ ih x1 x2 (x3 + 1) x4 _ gx1 gx2 g15 gx4 hF)
  intro x1 x2 x3 x4 M gx1 gx2 gx3 gx4 hF
  obtain ⟨n, hF⟩ := hF
  exact H9 n x1 x2 x3 x4 M gx1 gx2 gx3 gx4 hF
set_option maxHeartbeats 4000000 in
set_option maxRecDepth 100000 in
theorem k_X12_layOut_b25 {l : Launch} {D : va_G} {cy : Nat → ClassId} {ad : Nat → Nat} {Q : Int → MM → Prop} {J : Nat → List (Nat × Value) → List Value → MM → Prop} (hin : jIn ad ksR.length)   (hJ : jOk l D vwCl (tyR cy) cy ad ftR ksR (XtR ad) Om RX12 cX12_layOut 8 0 ({ frames := 1, cells := 0, slots := 0, locals := 20 } : Room) Q J)  : ∀ (x1 s0 : Int) (M : MM), ri_ x1 → ri_ s0 → w_X12_layOut_b25  Q  x1 s0 M → J 25 [(0, .ref (ad 0)), (1, .int (Ii x1))] [.int (Ii s0)] M := by
  intro x1 s0 M gx1 gs0 hF
  unfold w_X12_layOut_b25 at hF
  refine j_istore_n (lv' := [(2, .int (Ii s0)), (0, .ref (ad 0)), (1, .int (Ii x1))]) hJ dX12_layOut_25 rfl (by decide) rfl ?_
  refine j_iconst hJ dX12_layOut_26 ?_
  refine j_istore_n (lv' := [(3, .int (Ii 0)), (2, .int (Ii s0)), (0, .ref (ad 0)), (1, .int (Ii x1))]) hJ dX12_layOut_27 rfl (by decide) rfl ?_
  refine j_iconst hJ dX12_layOut_28 ?_
  refine j_istore (lv' := [(4, .int (Ii 0)), (3, .int (Ii 0)), (2, .int (Ii s0)), (0, .ref (ad 0)), (1, .int (Ii x1))]) hJ dX12_layOut_29 (by decide) rfl ?_
  exact j_sub hJ [3, 4, 2, 1, 0] rfl (k_X12_layOut_b31 hin  hJ  x1 s0 0 0 _ gx1 gs0 rk_0 rk_0 hF)
set_option maxHeartbeats 4000000 in
set_option maxRecDepth 100000 in
theorem c_X12_layOut {l : Launch} {D : va_G} {cy : Nat → ClassId} {ad : Nat → Nat} (hin : jIn ad ksR.length) : jCN l D vwCl (tyR cy) cy ad ftR ksR (XtR ad) yX12_layOut (.code yX12_layOut cX12_layOut 8 none :: Om) ({ frames := 1, cells := 0, slots := 0, locals := 20 } : Room) 0 (W_X12_layOut ad) := by
  refine jCN_of (y := yX12_layOut) (cc := cX12_layOut) (nL := 8) (rk := 0) (rm := ({ frames := 1, cells := 0, slots := 0, locals := 20 } : Room)) (own := RX12) (tyR_ok cy) hin (XtR_ok ad) Om_good (by decide) rfl ?_
  intro Q av M hF
  obtain ⟨p1, rfl, gp1, hF⟩ := hF
  refine ⟨Nat.le_of_ble_eq_true rfl, fun J hJ => ?_⟩
  show J 0 [(0, .ref (ad 0)), (1, .int (Ii p1))] [] M
  unfold w_X12_layOut at hF
  refine j_aload_n hJ dX12_layOut_0 rfl 0 rfl ?_
  refine j_gr (e := 8) hJ kR_0 fR_15_9 fl_X12_91 dX12_layOut_1 rfl ?_
  refine j_iload_n hJ dX12_layOut_4 rfl 1 rfl ?_
  refine j_iald hJ gp1 kR_8 hF.1 hF.2.1 dX12_layOut_5 (fun v1 ev1 gv1 => ?_)
  have hF := hF.2.2 v1 ev1 gv1
  refine j_iconst hJ dX12_layOut_6 ?_
  refine j_icmp_ne hJ 14 gv1 rk_m1 dX12_layOut_7 (by decide) (fun z2 => ?_) (fun z2 => ?_)
  · have hF := hF.1 z2
    refine j_aload_n hJ dX12_layOut_14 rfl 0 rfl ?_
    refine j_gr (e := 10) hJ kR_0 fR_15_11 fl_X12_97 dX12_layOut_15 rfl ?_
    refine j_aload_n hJ dX12_layOut_18 rfl 0 rfl ?_
    refine j_gr (e := 8) hJ kR_0 fR_15_9 fl_X12_91 dX12_layOut_19 rfl ?_
    refine j_iload_n hJ dX12_layOut_22 rfl 1 rfl ?_
    refine j_iald hJ gp1 kR_8 hF.1 hF.2.1 dX12_layOut_23 (fun v3 ev3 gv3 => ?_)
    have hF := hF.2.2 v3 ev3 gv3
    refine j_iald hJ gv3 kR_10 hF.1 hF.2.1 dX12_layOut_24 (fun v4 ev4 gv4 => ?_)
    have hF := hF.2.2 v4 ev4 gv4
    exact j_sub hJ [0, 1] rfl (k_X12_layOut_b25 hin  hJ  p1 v4 _ gp1 gv4 hF)
  · have hF := hF.2 z2
    refine j_iconst hJ dX12_layOut_10 ?_
    refine j_goto hJ 25 dX12_layOut_11 (by decide) ?_
    exact j_sub hJ [0, 1] rfl (k_X12_layOut_b25 hin  hJ  p1 0 _ gp1 rk_0 hF)
def W_X12_type (ad : Nat → Nat) (Q : Int → MM → Prop) (av : List Value) (M : MM) : Prop := ∃ (p1 : Int) (p2 : Int), av = [.ref (ad 0), .int (Ii p1), .int (Ii p2)] ∧ ri_ p1 ∧ ri_ p2 ∧ w_X12_type  Q p1 p2 M
set_option maxHeartbeats 4000000 in
set_option maxRecDepth 100000 in
theorem k_X12_type_b229 {l : Launch} {D : va_G} {cy : Nat → ClassId} {ad : Nat → Nat} {Q : Int → MM → Prop} {J : Nat → List (Nat × Value) → List Value → MM → Prop} (hin : jIn ad ksR.length)   (hJ : jOk l D vwCl (tyR cy) cy ad ftR ksR (XtR ad) Om RX12 cX12_type 7 1 ({ frames := 3, cells := 0, slots := 0, locals := 64 } : Room) Q J)  : ∀ (x6 : Int) (M : MM), ri_ x6 → w_X12_type_b229  Q  x6 M → J 229 [(0, .ref (ad 0)), (6, .int (Ii x6))] [] M := by
  intro x6 M gx6 hF
  unfold w_X12_type_b229 at hF
  refine j_aload_n hJ dX12_type_229 rfl 0 rfl ?_
  refine j_iload hJ dX12_type_230 1 rfl ?_
  refine j_callVv hJ (c_X12_layOut (l := l) (D := D) (cy := cy) (ad := ad) hin) rfl om_1060 ⟨rfl, rfl, Nat.le_of_ble_eq_true rfl, Nat.le_of_ble_eq_true rfl⟩ [.int (Ii x6)] mv_X12_423 hd_X12_layOutv kR_0 rfl rfl rfl (Nat.le_of_ble_eq_true rfl) dX12_type_232 ⟨x6, rfl, gx6, hF⟩ (fun M2 qM2 => ?_)
  have hF := qM2
  refine j_aload_n hJ dX12_type_235 rfl 0 rfl ?_
  refine j_iconst hJ dX12_type_236 ?_
  refine j_pi hJ rk_0 kR_0 fR_15_3 rfl fp_X12_391 dX12_type_237 (fun M3 eM3 => ?_)
  have hF := hF M3 eM3
  refine j_iload hJ dX12_type_240 1 rfl ?_
  exact j_iret hJ rfl gx6 dX12_type_242 hF
set_option maxHeartbeats 4000000 in
set_option maxRecDepth 100000 in
theorem k_X12_type_b149 {l : Launch} {D : va_G} {cy : Nat → ClassId} {ad : Nat → Nat} {Q : Int → MM → Prop} {J : Nat → List (Nat × Value) → List Value → MM → Prop} (hin : jIn ad ksR.length)   (hJ : jOk l D vwCl (tyR cy) cy ad ftR ksR (XtR ad) Om RX12 cX12_type 7 1 ({ frames := 3, cells := 0, slots := 0, locals := 64 } : Room) Q J)  : ∀ (x1 x2 x3 s0 : Int) (M : MM), ri_ x1 → ri_ x2 → rl_ x3 → ri_ s0 → w_X12_type_b149  Q  x1 x2 x3 s0 M → J 149 [(0, .ref (ad 0)), (1, .int (Ii x1)), (2, .int (Ii x2)), (3, .long (Ll x3))] [.int (Ii s0), .ref (ad 0)] M := by
  intro x1 x2 x3 s0 M gx1 gx2 gx3 gs0 hF
  unfold w_X12_type_b149 at hF
  refine j_pi hJ gs0 kR_0 fR_15_0 rfl fp_X12_388 dX12_type_149 (fun M1 eM1 => ?_)
  have hF := hF M1 eM1
  refine j_aload_n hJ dX12_type_152 rfl 0 rfl ?_
  refine j_gi hJ kR_0 fR_15_0 rfl fl_X12_388 dX12_type_153 (fun v2 ev2 gv2 => ?_)
  have hF := hF v2 ev2 gv2
  refine j_if_le hJ 161 gv2 dX12_type_156 (by decide) (fun z3 => ?_) (fun z3 => ?_)
  · have hF := hF.1 z3
    refine j_aload_n hJ dX12_type_161 rfl 0 rfl ?_
    refine j_gi hJ kR_0 fR_15_20 rfl fl_X12_413 dX12_type_162 (fun v4 ev4 gv4 => ?_)
    have hF := hF v4 ev4 gv4
    refine j_istore (lv' := [(6, .int (Ii v4)), (0, .ref (ad 0)), (1, .int (Ii x1)), (2, .int (Ii x2)), (3, .long (Ll x3))]) hJ dX12_type_165 (by decide) rfl ?_
    refine j_aload_n hJ dX12_type_167 rfl 1 rfl ?_
    refine j_dup hJ dX12_type_168 rfl ?_
    refine j_gi hJ kR_0 fR_15_20 rfl fl_X12_413 dX12_type_169 (fun v5 ev5 gv5 => ?_)
    have hF := hF v5 ev5 gv5
    refine j_iconst hJ dX12_type_172 ?_
    refine j_iadd hJ dX12_type_173 ?_
    have g6 := hF.1; have hF := hF.2
    refine j_pi hJ g6 kR_0 fR_15_20 rfl fp_X12_413 dX12_type_174 (fun M7 eM7 => ?_)
    have hF := hF M7 eM7
    refine j_aload_n hJ dX12_type_177 rfl 1 rfl ?_
    refine j_gr (e := 4) hJ kR_0 fR_15_5 fl_X12_78 dX12_type_178 rfl ?_
    refine j_iload hJ dX12_type_181 0 rfl ?_
    refine j_lload_n hJ dX12_type_183 rfl 4 rfl ?_
    refine j_last hJ gv4 gx3 kR_4 hF.1 hF.2.1 dX12_type_184 (fun M8 eM8 => ?_)
    have hF := hF.2.2 M8 eM8
    refine j_aload_n hJ dX12_type_185 rfl 1 rfl ?_
    refine j_gr (e := 7) hJ kR_0 fR_15_8 fl_X12_87 dX12_type_186 rfl ?_
    refine j_iload hJ dX12_type_189 0 rfl ?_
    refine j_iload_n hJ dX12_type_191 rfl 3 rfl ?_
    refine j_iast hJ gv4 gx2 kR_7 hF.1 hF.2.1 dX12_type_192 (fun M9 eM9 => ?_)
    have hF := hF.2.2 M9 eM9
    refine j_aload_n hJ dX12_type_193 rfl 1 rfl ?_
    refine j_gr (e := 8) hJ kR_0 fR_15_9 fl_X12_91 dX12_type_194 rfl ?_
    refine j_iload hJ dX12_type_197 0 rfl ?_
    refine j_iload_n hJ dX12_type_199 rfl 2 rfl ?_
    refine j_iast hJ gv4 gx1 kR_8 hF.1 hF.2.1 dX12_type_200 (fun M10 eM10 => ?_)
    have hF := hF.2.2 M10 eM10
    refine j_aload_n hJ dX12_type_201 rfl 1 rfl ?_
    refine j_gr (e := 9) hJ kR_0 fR_15_10 fl_X12_94 dX12_type_202 rfl ?_
    refine j_iload hJ dX12_type_205 0 rfl ?_
    refine j_iconst hJ dX12_type_207 ?_
    refine j_iast hJ gv4 rk_0 kR_9 hF.1 hF.2.1 dX12_type_208 (fun M11 eM11 => ?_)
    have hF := hF.2.2 M11 eM11
    refine j_aload_n hJ dX12_type_209 rfl 1 rfl ?_
    refine j_gr (e := 16) hJ kR_0 fR_15_17 fl_X12_115 dX12_type_210 rfl ?_
    refine j_iload hJ dX12_type_213 0 rfl ?_
    refine j_iconst hJ dX12_type_215 ?_
    refine j_zast hJ gv4 (by decide) kR_16 hF.1 hF.2.1 dX12_type_216 (fun M12 eM12 => ?_)
    have hF := hF.2.2 M12 eM12
    refine j_iload_n hJ dX12_type_217 rfl 2 rfl ?_
    refine j_iconst hJ dX12_type_218 ?_
    refine j_icmp_eq hJ 229 gx1 rk_m1 dX12_type_219 (by decide) (fun z13 => ?_) (fun z13 => ?_)
    · have hF := hF.1 z13
      exact j_sub hJ [1, 0] rfl (k_X12_type_b229 hin  hJ  v4 _ gv4 hF)
    · have hF := hF.2 z13
      refine j_aload_n hJ dX12_type_222 rfl 1 rfl ?_
      refine j_gr (e := 16) hJ kR_0 fR_15_17 fl_X12_115 dX12_type_223 rfl ?_
      refine j_iload_n hJ dX12_type_226 rfl 2 rfl ?_
      refine j_iconst hJ dX12_type_227 ?_
      refine j_zast hJ gx1 (by decide) kR_16 hF.1 hF.2.1 dX12_type_228 (fun M14 eM14 => ?_)
      have hF := hF.2.2 M14 eM14
      exact j_sub hJ [1, 0] rfl (k_X12_type_b229 hin  hJ  v4 _ gv4 hF)
  · have hF := hF.2 z3
    refine j_iconst hJ dX12_type_159 ?_
    exact j_iret hJ rfl rk_0 dX12_type_160 hF
set_option maxHeartbeats 4000000 in
set_option maxRecDepth 100000 in
theorem k_X12_type_b130 {l : Launch} {D : va_G} {cy : Nat → ClassId} {ad : Nat → Nat} {Q : Int → MM → Prop} {J : Nat → List (Nat × Value) → List Value → MM → Prop} (hin : jIn ad ksR.length)   (hJ : jOk l D vwCl (tyR cy) cy ad ftR ksR (XtR ad) Om RX12 cX12_type 7 1 ({ frames := 3, cells := 0, slots := 0, locals := 64 } : Room) Q J) {K88 : Int → Int → Int → Int → Int → MM → Prop} (hK88 : ∀ (x1 x2 x3 x5 x6 : Int) (M : MM), ri_ x1 → ri_ x2 → rl_ x3 → ri_ x5 → ri_ x6 → K88 x1 x2 x3 x5 x6 M → J 88 [(0, .ref (ad 0)), (1, .int (Ii x1)), (2, .int (Ii x2)), (3, .long (Ll x3)), (5, .int (Ii x5)), (6, .int (Ii x6))] [] M) : ∀ (x1 x2 x3 x6 s0 : Int) (M : MM), ri_ x1 → ri_ x2 → rl_ x3 → ri_ x6 → ri_ s0 → w_X12_type_b130  Q K88 x1 x2 x3 x6 s0 M → J 130 [(0, .ref (ad 0)), (1, .int (Ii x1)), (2, .int (Ii x2)), (3, .long (Ll x3)), (6, .int (Ii x6))] [.int (Ii s0)] M := by
  intro x1 x2 x3 x6 s0 M gx1 gx2 gx3 gx6 gs0 hF
  unfold w_X12_type_b130 at hF
  refine j_istore (lv' := [(5, .int (Ii s0)), (0, .ref (ad 0)), (1, .int (Ii x1)), (2, .int (Ii x2)), (3, .long (Ll x3)), (6, .int (Ii x6))]) hJ dX12_type_130 (by decide) rfl ?_
  refine j_iinc (lv' := [(6, .int (Ii (x6 + 1))), (5, .int (Ii s0)), (0, .ref (ad 0)), (1, .int (Ii x1)), (2, .int (Ii x2)), (3, .long (Ll x3))]) (k := 5) hJ dX12_type_132 rfl (by decide) rfl ?_
  have g1 := hF.1; have hF := hF.2
  refine j_goto hJ 88 dX12_type_135 (by decide) ?_
  exact j_sub hJ [2, 3, 4, 5, 1, 0] rfl (hK88 x1 x2 x3 s0 (x6 + 1) _ gx1 gx2 gx3 gs0 g1 hF)
set_option maxHeartbeats 4000000 in
set_option maxRecDepth 100000 in
theorem k_X12_type_b125 {l : Launch} {D : va_G} {cy : Nat → ClassId} {ad : Nat → Nat} {Q : Int → MM → Prop} {J : Nat → List (Nat × Value) → List Value → MM → Prop} (hin : jIn ad ksR.length)   (hJ : jOk l D vwCl (tyR cy) cy ad ftR ksR (XtR ad) Om RX12 cX12_type 7 1 ({ frames := 3, cells := 0, slots := 0, locals := 64 } : Room) Q J) {K88 : Int → Int → Int → Int → Int → MM → Prop} (hK88 : ∀ (x1 x2 x3 x5 x6 : Int) (M : MM), ri_ x1 → ri_ x2 → rl_ x3 → ri_ x5 → ri_ x6 → K88 x1 x2 x3 x5 x6 M → J 88 [(0, .ref (ad 0)), (1, .int (Ii x1)), (2, .int (Ii x2)), (3, .long (Ll x3)), (5, .int (Ii x5)), (6, .int (Ii x6))] [] M) : ∀ (x1 x2 x3 x6 : Int) (M : MM), ri_ x1 → ri_ x2 → rl_ x3 → ri_ x6 → w_X12_type_b125  Q K88 x1 x2 x3 x6 M → J 125 [(0, .ref (ad 0)), (1, .int (Ii x1)), (2, .int (Ii x2)), (3, .long (Ll x3)), (6, .int (Ii x6))] [] M := by
  intro x1 x2 x3 x6 M gx1 gx2 gx3 gx6 hF
  unfold w_X12_type_b125 at hF
  refine j_iconst hJ dX12_type_125 ?_
  refine j_goto hJ 130 dX12_type_126 (by decide) ?_
  exact j_sub hJ [0, 1, 2, 3, 4] rfl (k_X12_type_b130 hin  hJ hK88 x1 x2 x3 x6 1 _ gx1 gx2 gx3 gx6 rk_1 hF)
set_option maxHeartbeats 4000000 in
set_option maxRecDepth 100000 in
theorem k_X12_type_b129 {l : Launch} {D : va_G} {cy : Nat → ClassId} {ad : Nat → Nat} {Q : Int → MM → Prop} {J : Nat → List (Nat × Value) → List Value → MM → Prop} (hin : jIn ad ksR.length)   (hJ : jOk l D vwCl (tyR cy) cy ad ftR ksR (XtR ad) Om RX12 cX12_type 7 1 ({ frames := 3, cells := 0, slots := 0, locals := 64 } : Room) Q J) {K88 : Int → Int → Int → Int → Int → MM → Prop} (hK88 : ∀ (x1 x2 x3 x5 x6 : Int) (M : MM), ri_ x1 → ri_ x2 → rl_ x3 → ri_ x5 → ri_ x6 → K88 x1 x2 x3 x5 x6 M → J 88 [(0, .ref (ad 0)), (1, .int (Ii x1)), (2, .int (Ii x2)), (3, .long (Ll x3)), (5, .int (Ii x5)), (6, .int (Ii x6))] [] M) : ∀ (x1 x2 x3 x6 : Int) (M : MM), ri_ x1 → ri_ x2 → rl_ x3 → ri_ x6 → w_X12_type_b129  Q K88 x1 x2 x3 x6 M → J 129 [(0, .ref (ad 0)), (1, .int (Ii x1)), (2, .int (Ii x2)), (3, .long (Ll x3)), (6, .int (Ii x6))] [] M := by
  intro x1 x2 x3 x6 M gx1 gx2 gx3 gx6 hF
  unfold w_X12_type_b129 at hF
  refine j_iconst hJ dX12_type_129 ?_
  exact j_sub hJ [0, 1, 2, 3, 4] rfl (k_X12_type_b130 hin  hJ hK88 x1 x2 x3 x6 0 _ gx1 gx2 gx3 gx6 rk_0 hF)
set_option maxHeartbeats 4000000 in
set_option maxRecDepth 100000 in
theorem k_X12_type_b88 {l : Launch} {D : va_G} {cy : Nat → ClassId} {ad : Nat → Nat} {Q : Int → MM → Prop} {J : Nat → List (Nat × Value) → List Value → MM → Prop} (hin : jIn ad ksR.length)   (hJ : jOk l D vwCl (tyR cy) cy ad ftR ksR (XtR ad) Om RX12 cX12_type 7 1 ({ frames := 3, cells := 0, slots := 0, locals := 64 } : Room) Q J)  : ∀ (x1 x2 x3 x5 x6 : Int) (M : MM), ri_ x1 → ri_ x2 → rl_ x3 → ri_ x5 → ri_ x6 → w_X12_type_b88  Q  x1 x2 x3 x5 x6 M → J 88 [(0, .ref (ad 0)), (1, .int (Ii x1)), (2, .int (Ii x2)), (3, .long (Ll x3)), (5, .int (Ii x5)), (6, .int (Ii x6))] [] M := by
  have H9 : ∀ (n : Nat) (x1 x2 x3 x5 x6 : Int) (M : MM), ri_ x1 → ri_ x2 → rl_ x3 → ri_ x5 → ri_ x6 → jit (fun _ _ _ _ _ _ => False) (wb_X12_type_b88  Q ) n x1 x2 x3 x5 x6 M → J 88 [(0, .ref (ad 0)), (1, .int (Ii x1)), (2, .int (Ii x2)), (3, .long (Ll x3)), (5, .int (Ii x5)), (6, .int (Ii x6))] [] M := by
    intro n
    induction n with
    | zero => intro x1 x2 x3 x5 x6 M gx1 gx2 gx3 gx5 gx6 hF; exact False.elim hF
    | succ n ih =>
    intro x1 x2 x3 x5 x6 M gx1 gx2 gx3 gx5 gx6 hF
    have hF : wb_X12_type_b88  Q  (jit (fun _ _ _ _ _ _ => False) (wb_X12_type_b88  Q ) n) x1 x2 x3 x5 x6 M := hF
    unfold wb_X12_type_b88 at hF
    refine j_iload hJ dX12_type_88 5 rfl ?_
    refine j_aload_n hJ dX12_type_90 rfl 0 rfl ?_
    refine j_gi hJ kR_0 fR_15_20 rfl fl_X12_413 dX12_type_91 (fun v1 ev1 gv1 => ?_)
    have hF := hF v1 ev1 gv1
    refine j_icmp_ge hJ 138 gx6 gv1 dX12_type_94 (by decide) (fun z2 => ?_) (fun z2 => ?_)
    · have hF := hF.1 z2
      refine j_aload_n hJ dX12_type_138 rfl 0 rfl ?_
      refine j_iload hJ dX12_type_139 4 rfl ?_
      refine j_if_eq hJ 148 gx5 dX12_type_141 (by decide) (fun z3 => ?_) (fun z3 => ?_)
      · have hF := hF.1 z3
        refine j_iconst hJ dX12_type_148 ?_
        exact j_sub hJ [0, 1, 2, 3] rfl (k_X12_type_b149 hin  hJ  x1 x2 x3 0 _ gx1 gx2 gx3 rk_0 hF)
      · have hF := hF.2 z3
        refine j_iconst hJ dX12_type_144 ?_
        refine j_goto hJ 149 dX12_type_145 (by decide) ?_
        exact j_sub hJ [0, 1, 2, 3] rfl (k_X12_type_b149 hin  hJ  x1 x2 x3 3 _ gx1 gx2 gx3 rk_3 hF)
    · have hF := hF.2 z2
      refine j_iload hJ dX12_type_97 4 rfl ?_
      refine j_if_ne hJ 125 gx5 dX12_type_99 (by decide) (fun z4 => ?_) (fun z4 => ?_)
      · have hF := hF.1 z4
        exact j_sub hJ [0, 1, 2, 3, 5] rfl (k_X12_type_b125 hin  hJ ih x1 x2 x3 x6 _ gx1 gx2 gx3 gx6 hF)
      · have hF := hF.2 z4
        refine j_aload_n hJ dX12_type_102 rfl 0 rfl ?_
        refine j_gr (e := 7) hJ kR_0 fR_15_8 fl_X12_87 dX12_type_103 rfl ?_
        refine j_iload hJ dX12_type_106 5 rfl ?_
        refine j_iald hJ gx6 kR_7 hF.1 hF.2.1 dX12_type_108 (fun v5 ev5 gv5 => ?_)
        have hF := hF.2.2 v5 ev5 gv5
        refine j_iload_n hJ dX12_type_109 rfl 2 rfl ?_
        refine j_icmp_ne hJ 129 gv5 gx2 dX12_type_110 (by decide) (fun z6 => ?_) (fun z6 => ?_)
        · have hF := hF.1 z6
          exact j_sub hJ [0, 1, 2, 3, 5] rfl (k_X12_type_b129 hin  hJ ih x1 x2 x3 x6 _ gx1 gx2 gx3 gx6 hF)
        · have hF := hF.2 z6
          refine j_aload_n hJ dX12_type_113 rfl 0 rfl ?_
          refine j_gr (e := 4) hJ kR_0 fR_15_5 fl_X12_78 dX12_type_114 rfl ?_
          refine j_iload hJ dX12_type_117 5 rfl ?_
          refine j_lald hJ gx6 kR_4 hF.1 hF.2.1 dX12_type_119 (fun v7 ev7 gv7 => ?_)
          have hF := hF.2.2 v7 ev7 gv7
          refine j_lload_n hJ dX12_type_120 rfl 3 rfl ?_
          refine j_lcmp_ne hJ 129 gv7 gx3 dX12_type_121 dX12_type_122 (by decide) (fun z8 => ?_) (fun z8 => ?_)
          · have hF := hF.1 z8
            exact j_sub hJ [0, 1, 2, 3, 5] rfl (k_X12_type_b129 hin  hJ ih x1 x2 x3 x6 _ gx1 gx2 gx3 gx6 hF)
          · have hF := hF.2 z8
            exact j_sub hJ [0, 1, 2, 3, 5] rfl (k_X12_type_b125 hin  hJ ih x1 x2 x3 x6 _ gx1 gx2 gx3 gx6 hF)
  intro x1 x2 x3 x5 x6 M gx1 gx2 gx3 gx5 gx6 hF
  obtain ⟨n, hF⟩ := hF
  exact H9 n x1 x2 x3 x5 x6 M gx1 gx2 gx3 gx5 gx6 hF
set_option maxHeartbeats 4000000 in
set_option maxRecDepth 100000 in
theorem k_X12_type_b83 {l : Launch} {D : va_G} {cy : Nat → ClassId} {ad : Nat → Nat} {Q : Int → MM → Prop} {J : Nat → List (Nat × Value) → List Value → MM → Prop} (hin : jIn ad ksR.length)   (hJ : jOk l D vwCl (tyR cy) cy ad ftR ksR (XtR ad) Om RX12 cX12_type 7 1 ({ frames := 3, cells := 0, slots := 0, locals := 64 } : Room) Q J)  : ∀ (x1 x2 x3 s0 : Int) (M : MM), ri_ x1 → ri_ x2 → rl_ x3 → ri_ s0 → w_X12_type_b83  Q  x1 x2 x3 s0 M → J 83 [(0, .ref (ad 0)), (1, .int (Ii x1)), (2, .int (Ii x2)), (3, .long (Ll x3))] [.int (Ii s0)] M := by
  intro x1 x2 x3 s0 M gx1 gx2 gx3 gs0 hF
  unfold w_X12_type_b83 at hF
  refine j_istore (lv' := [(5, .int (Ii s0)), (0, .ref (ad 0)), (1, .int (Ii x1)), (2, .int (Ii x2)), (3, .long (Ll x3))]) hJ dX12_type_83 (by decide) rfl ?_
  refine j_iconst hJ dX12_type_85 ?_
  refine j_istore (lv' := [(6, .int (Ii 0)), (5, .int (Ii s0)), (0, .ref (ad 0)), (1, .int (Ii x1)), (2, .int (Ii x2)), (3, .long (Ll x3))]) hJ dX12_type_86 (by decide) rfl ?_
  exact j_sub hJ [2, 3, 4, 5, 1, 0] rfl (k_X12_type_b88 hin  hJ  x1 x2 x3 s0 0 _ gx1 gx2 gx3 gs0 rk_0 hF)
set_option maxHeartbeats 4000000 in
set_option maxRecDepth 100000 in
theorem k_X12_type_b57 {l : Launch} {D : va_G} {cy : Nat → ClassId} {ad : Nat → Nat} {Q : Int → MM → Prop} {J : Nat → List (Nat × Value) → List Value → MM → Prop} (hin : jIn ad ksR.length)   (hJ : jOk l D vwCl (tyR cy) cy ad ftR ksR (XtR ad) Om RX12 cX12_type 7 1 ({ frames := 3, cells := 0, slots := 0, locals := 64 } : Room) Q J)  : ∀ (x1 x2 x3 s0 : Int) (M : MM), ri_ x1 → ri_ x2 → rl_ x3 → ri_ s0 → w_X12_type_b57  Q  x1 x2 x3 s0 M → J 57 [(0, .ref (ad 0)), (1, .int (Ii x1)), (2, .int (Ii x2)), (3, .long (Ll x3))] [.int (Ii s0), .ref (ad 0)] M := by
  intro x1 x2 x3 s0 M gx1 gx2 gx3 gs0 hF
  unfold w_X12_type_b57 at hF
  refine j_pi hJ gs0 kR_0 fR_15_0 rfl fp_X12_388 dX12_type_57 (fun M1 eM1 => ?_)
  have hF := hF M1 eM1
  refine j_aload_n hJ dX12_type_60 rfl 0 rfl ?_
  refine j_gi hJ kR_0 fR_15_0 rfl fl_X12_388 dX12_type_61 (fun v2 ev2 gv2 => ?_)
  have hF := hF v2 ev2 gv2
  refine j_if_le hJ 69 gv2 dX12_type_64 (by decide) (fun z3 => ?_) (fun z3 => ?_)
  · have hF := hF.1 z3
    refine j_aload_n hJ dX12_type_69 rfl 0 rfl ?_
    refine j_gi hJ kR_0 fR_15_20 rfl fl_X12_413 dX12_type_70 (fun v4 ev4 gv4 => ?_)
    have hF := hF v4 ev4 gv4
    refine j_bipush hJ dX12_type_73 (by decide) ?_
    refine j_icmp_ne hJ 82 gv4 rk_16 dX12_type_75 (by decide) (fun z5 => ?_) (fun z5 => ?_)
    · have hF := hF.1 z5
      refine j_iconst hJ dX12_type_82 ?_
      exact j_sub hJ [0, 1, 2, 3] rfl (k_X12_type_b83 hin  hJ  x1 x2 x3 0 _ gx1 gx2 gx3 rk_0 hF)
    · have hF := hF.2 z5
      refine j_iconst hJ dX12_type_78 ?_
      refine j_goto hJ 83 dX12_type_79 (by decide) ?_
      exact j_sub hJ [0, 1, 2, 3] rfl (k_X12_type_b83 hin  hJ  x1 x2 x3 1 _ gx1 gx2 gx3 rk_1 hF)
  · have hF := hF.2 z3
    refine j_iconst hJ dX12_type_67 ?_
    exact j_iret hJ rfl rk_0 dX12_type_68 hF
set_option maxHeartbeats 4000000 in
set_option maxRecDepth 100000 in
theorem k_X12_type_b28 {l : Launch} {D : va_G} {cy : Nat → ClassId} {ad : Nat → Nat} {Q : Int → MM → Prop} {J : Nat → List (Nat × Value) → List Value → MM → Prop} (hin : jIn ad ksR.length)   (hJ : jOk l D vwCl (tyR cy) cy ad ftR ksR (XtR ad) Om RX12 cX12_type 7 1 ({ frames := 3, cells := 0, slots := 0, locals := 64 } : Room) Q J)  : ∀ (x1 x2 s0 : Int) (M : MM), ri_ x1 → ri_ x2 → ri_ s0 → w_X12_type_b28  Q  x1 x2 s0 M → J 28 [(0, .ref (ad 0)), (1, .int (Ii x1)), (2, .int (Ii x2))] [.int (Ii s0), .ref (ad 0)] M := by
  intro x1 x2 s0 M gx1 gx2 gs0 hF
  unfold w_X12_type_b28 at hF
  refine j_pi hJ gs0 kR_0 fR_15_0 rfl fp_X12_388 dX12_type_28 (fun M1 eM1 => ?_)
  have hF := hF M1 eM1
  refine j_aload_n hJ dX12_type_31 rfl 0 rfl ?_
  refine j_gi hJ kR_0 fR_15_0 rfl fl_X12_388 dX12_type_32 (fun v2 ev2 gv2 => ?_)
  have hF := hF v2 ev2 gv2
  refine j_if_le hJ 40 gv2 dX12_type_35 (by decide) (fun z3 => ?_) (fun z3 => ?_)
  · have hF := hF.1 z3
    refine j_aload_n hJ dX12_type_40 rfl 0 rfl ?_
    refine j_callVl hJ (c_X12_tapeName (l := l) (D := D) (cy := cy) (ad := ad) hin) rfl om_1053 ⟨rfl, rfl, Nat.le_of_ble_eq_true rfl, Nat.le_of_ble_eq_true rfl⟩ [] mv_X12_419 hd_X12_tapeNamev kR_0 rfl rfl rfl (Nat.le_of_ble_eq_true rfl) dX12_type_41 ⟨rfl, hF⟩ (fun r4 M5 gr4 qM5 => ?_)
    have hF := qM5 gr4
    refine j_lstore_n (lv' := [(3, .long (Ll r4)), (0, .ref (ad 0)), (1, .int (Ii x1)), (2, .int (Ii x2))]) hJ dX12_type_44 rfl (by decide) rfl ?_
    refine j_aload_n hJ dX12_type_45 rfl 1 rfl ?_
    refine j_lload_n hJ dX12_type_46 rfl 0 rfl ?_
    refine j_lconst (x := 0) hJ dX12_type_47 rfl ?_
    refine j_lcmp_ne hJ 56 gr4 lkm_0 dX12_type_48 dX12_type_49 (by decide) (fun z6 => ?_) (fun z6 => ?_)
    · have hF := hF.1 z6
      refine j_iconst hJ dX12_type_56 ?_
      exact j_sub hJ [1, 2, 3, 0] rfl (k_X12_type_b57 hin  hJ  x1 x2 r4 0 _ gx1 gx2 gr4 rk_0 hF)
    · have hF := hF.2 z6
      refine j_iconst hJ dX12_type_52 ?_
      refine j_goto hJ 57 dX12_type_53 (by decide) ?_
      exact j_sub hJ [1, 2, 3, 0] rfl (k_X12_type_b57 hin  hJ  x1 x2 r4 2 _ gx1 gx2 gr4 rk_2 hF)
  · have hF := hF.2 z3
    refine j_iconst hJ dX12_type_38 ?_
    exact j_iret hJ rfl rk_0 dX12_type_39 hF
set_option maxHeartbeats 4000000 in
set_option maxRecDepth 100000 in
theorem k_X12_type_b23 {l : Launch} {D : va_G} {cy : Nat → ClassId} {ad : Nat → Nat} {Q : Int → MM → Prop} {J : Nat → List (Nat × Value) → List Value → MM → Prop} (hin : jIn ad ksR.length)   (hJ : jOk l D vwCl (tyR cy) cy ad ftR ksR (XtR ad) Om RX12 cX12_type 7 1 ({ frames := 3, cells := 0, slots := 0, locals := 64 } : Room) Q J)  : ∀ (x1 x2 : Int) (M : MM), ri_ x1 → ri_ x2 → w_X12_type_b23  Q  x1 x2 M → J 23 [(0, .ref (ad 0)), (1, .int (Ii x1)), (2, .int (Ii x2))] [.ref (ad 0)] M := by
  intro x1 x2 M gx1 gx2 hF
  unfold w_X12_type_b23 at hF
  refine j_iconst hJ dX12_type_23 ?_
  refine j_goto hJ 28 dX12_type_24 (by decide) ?_
  exact j_sub hJ [0, 1, 2] rfl (k_X12_type_b28 hin  hJ  x1 x2 1 _ gx1 gx2 rk_1 hF)
set_option maxHeartbeats 4000000 in
set_option maxRecDepth 100000 in
theorem k_X12_type_b14 {l : Launch} {D : va_G} {cy : Nat → ClassId} {ad : Nat → Nat} {Q : Int → MM → Prop} {J : Nat → List (Nat × Value) → List Value → MM → Prop} (hin : jIn ad ksR.length)   (hJ : jOk l D vwCl (tyR cy) cy ad ftR ksR (XtR ad) Om RX12 cX12_type 7 1 ({ frames := 3, cells := 0, slots := 0, locals := 64 } : Room) Q J)  : ∀ (x1 x2 : Int) (M : MM), ri_ x1 → ri_ x2 → w_X12_type_b14  Q  x1 x2 M → J 14 [(0, .ref (ad 0)), (1, .int (Ii x1)), (2, .int (Ii x2))] [.ref (ad 0)] M := by
  intro x1 x2 M gx1 gx2 hF
  unfold w_X12_type_b14 at hF
  refine j_iload_n hJ dX12_type_14 rfl 2 rfl ?_
  refine j_if_lt hJ 23 gx2 dX12_type_15 (by decide) (fun z1 => ?_) (fun z1 => ?_)
  · have hF := hF.1 z1
    exact j_sub hJ [0, 1, 2] rfl (k_X12_type_b23 hin  hJ  x1 x2 _ gx1 gx2 hF)
  · have hF := hF.2 z1
    refine j_iload_n hJ dX12_type_18 rfl 2 rfl ?_
    refine j_iconst hJ dX12_type_19 ?_
    refine j_icmp_le hJ 27 gx2 rk_3 dX12_type_20 (by decide) (fun z2 => ?_) (fun z2 => ?_)
    · have hF := hF.1 z2
      refine j_iconst hJ dX12_type_27 ?_
      exact j_sub hJ [0, 1, 2] rfl (k_X12_type_b28 hin  hJ  x1 x2 0 _ gx1 gx2 rk_0 hF)
    · have hF := hF.2 z2
      exact j_sub hJ [0, 1, 2] rfl (k_X12_type_b23 hin  hJ  x1 x2 _ gx1 gx2 hF)
set_option maxHeartbeats 4000000 in
set_option maxRecDepth 100000 in
theorem c_X12_type {l : Launch} {D : va_G} {cy : Nat → ClassId} {ad : Nat → Nat} (hin : jIn ad ksR.length) : jCN l D vwCl (tyR cy) cy ad ftR ksR (XtR ad) yX12_type (.code yX12_type cX12_type 7 (some .int) :: Om) ({ frames := 3, cells := 0, slots := 0, locals := 64 } : Room) 1 (W_X12_type ad) := by
  refine jCN_of (y := yX12_type) (cc := cX12_type) (nL := 7) (rk := 1) (rm := ({ frames := 3, cells := 0, slots := 0, locals := 64 } : Room)) (own := RX12) (tyR_ok cy) hin (XtR_ok ad) Om_good (by decide) rfl ?_
  intro Q av M hF
  obtain ⟨p1, p2, rfl, gp1, gp2, hF⟩ := hF
  refine ⟨Nat.le_of_ble_eq_true rfl, fun J hJ => ?_⟩
  show J 0 [(0, .ref (ad 0)), (1, .int (Ii p1)), (2, .int (Ii p2))] [] M
  unfold w_X12_type at hF
  refine j_aload_n hJ dX12_type_0 rfl 0 rfl ?_
  refine j_iload_n hJ dX12_type_1 rfl 1 rfl ?_
  refine j_iconst hJ dX12_type_2 ?_
  refine j_icmp_eq hJ 14 gp1 rk_m1 dX12_type_3 (by decide) (fun z1 => ?_) (fun z1 => ?_)
  · have hF := hF.1 z1
    exact j_sub hJ [0, 1, 2] rfl (k_X12_type_b14 hin  hJ  p1 p2 _ gp1 gp2 hF)
  · have hF := hF.2 z1
    refine j_aload_n hJ dX12_type_6 rfl 0 rfl ?_
    refine j_iload_n hJ dX12_type_7 rfl 1 rfl ?_
    refine j_callVz hJ (c_X12_isClass (l := l) (D := D) (cy := cy) (ad := ad) hin) rfl om_1064 ⟨rfl, rfl, Nat.le_of_ble_eq_true rfl, Nat.le_of_ble_eq_true rfl⟩ [.int (Ii p1)] mv_X12_416 hd_X12_isClassv kR_0 rfl rfl rfl (Nat.le_of_ble_eq_true rfl) dX12_type_8 ⟨p1, rfl, gp1, hF⟩ (fun r2 M3 gr2 qM3 => ?_)
    have hF := qM3 gr2
    refine j_if_eq hJ 23 (jz_ri gr2) dX12_type_11 (by decide) (fun z4 => ?_) (fun z4 => ?_)
    · have hF := hF.1 z4
      exact j_sub hJ [0, 1, 2] rfl (k_X12_type_b23 hin  hJ  p1 p2 _ gp1 gp2 hF)
    · have hF := hF.2 z4
      exact j_sub hJ [0, 1, 2] rfl (k_X12_type_b14 hin  hJ  p1 p2 _ gp1 gp2 hF)
def W_X12_isLinkType (ad : Nat → Nat) (Q : Int → MM → Prop) (av : List Value) (M : MM) : Prop := ∃ (p1 : Int), av = [.ref (ad 0), .int (Ii p1)] ∧ ri_ p1 ∧ w_X12_isLinkType  Q p1 M
set_option maxHeartbeats 4000000 in
set_option maxRecDepth 100000 in
theorem k_X12_isLinkType_b25 {l : Launch} {D : va_G} {cy : Nat → ClassId} {ad : Nat → Nat} {Q : Int → MM → Prop} {J : Nat → List (Nat × Value) → List Value → MM → Prop} (hin : jIn ad ksR.length)   (hJ : jOk l D vwCl (tyR cy) cy ad ftR ksR (XtR ad) Om RX12 cX12_isLinkType 2 3 ({ frames := 1, cells := 0, slots := 0, locals := 21 } : Room) Q J)  : ∀ (x1 : Int) (M : MM), ri_ x1 → w_X12_isLinkType_b25  Q  x1 M → J 25 [(0, .ref (ad 0)), (1, .int (Ii x1))] [] M := by
  intro x1 M gx1 hF
  unfold w_X12_isLinkType_b25 at hF
  refine j_iload_n hJ dX12_isLinkType_25 rfl 1 rfl ?_
  refine j_bipush hJ dX12_isLinkType_26 (by decide) ?_
  refine j_icmp_eq hJ 48 gx1 rk_29 dX12_isLinkType_28 (by decide) (fun z1 => ?_) (fun z1 => ?_)
  · have hF := hF.1 z1
    refine j_iconst hJ dX12_isLinkType_48 ?_
    refine j_goto hJ 53 dX12_isLinkType_49 (by decide) ?_
    exact j_zret hJ rfl (by decide) dX12_isLinkType_53 hF
  · have hF := hF.2 z1
    refine j_iload_n hJ dX12_isLinkType_31 rfl 1 rfl ?_
    refine j_bipush hJ dX12_isLinkType_32 (by decide) ?_
    refine j_icmp_lt hJ 52 gx1 rk_30 dX12_isLinkType_34 (by decide) (fun z2 => ?_) (fun z2 => ?_)
    · have hF := hF.1 z2
      refine j_iconst hJ dX12_isLinkType_52 ?_
      exact j_zret hJ rfl (by decide) dX12_isLinkType_53 hF
    · have hF := hF.2 z2
      refine j_aload_n hJ dX12_isLinkType_37 rfl 0 rfl ?_
      refine j_iload_n hJ dX12_isLinkType_38 rfl 1 rfl ?_
      refine j_bipush hJ dX12_isLinkType_39 (by decide) ?_
      refine j_isub hJ dX12_isLinkType_41 ?_
      have g3 := hF.1; have hF := hF.2
      refine j_callVz hJ (c_X12_isClass (l := l) (D := D) (cy := cy) (ad := ad) hin) rfl om_1064 ⟨rfl, rfl, Nat.le_of_ble_eq_true rfl, Nat.le_of_ble_eq_true rfl⟩ [.int (Ii (x1 - 30))] mv_X12_416 hd_X12_isClassv kR_0 rfl rfl rfl (Nat.le_of_ble_eq_true rfl) dX12_isLinkType_42 ⟨(x1 - 30), rfl, g3, hF⟩ (fun r4 M5 gr4 qM5 => ?_)
      have hF := qM5 gr4
      refine j_if_eq hJ 52 (jz_ri gr4) dX12_isLinkType_45 (by decide) (fun z6 => ?_) (fun z6 => ?_)
      · have hF := hF.1 z6
        refine j_iconst hJ dX12_isLinkType_52 ?_
        exact j_zret hJ rfl (by decide) dX12_isLinkType_53 hF
      · have hF := hF.2 z6
        refine j_iconst hJ dX12_isLinkType_48 ?_
        refine j_goto hJ 53 dX12_isLinkType_49 (by decide) ?_
        exact j_zret hJ rfl (by decide) dX12_isLinkType_53 hF
set_option maxHeartbeats 4000000 in
set_option maxRecDepth 100000 in
theorem c_X12_isLinkType {l : Launch} {D : va_G} {cy : Nat → ClassId} {ad : Nat → Nat} (hin : jIn ad ksR.length) : jCN l D vwCl (tyR cy) cy ad ftR ksR (XtR ad) yX12_isLinkType (.code yX12_isLinkType cX12_isLinkType 2 (some .boolean) :: Om) ({ frames := 1, cells := 0, slots := 0, locals := 21 } : Room) 3 (W_X12_isLinkType ad) := by
  refine jCN_of (y := yX12_isLinkType) (cc := cX12_isLinkType) (nL := 2) (rk := 3) (rm := ({ frames := 1, cells := 0, slots := 0, locals := 21 } : Room)) (own := RX12) (tyR_ok cy) hin (XtR_ok ad) Om_good (by decide) rfl ?_
  intro Q av M hF
  obtain ⟨p1, rfl, gp1, hF⟩ := hF
  refine ⟨Nat.le_of_ble_eq_true rfl, fun J hJ => ?_⟩
  show J 0 [(0, .ref (ad 0)), (1, .int (Ii p1))] [] M
  unfold w_X12_isLinkType at hF
  refine j_iload_n hJ dX12_isLinkType_0 rfl 1 rfl ?_
  refine j_iconst hJ dX12_isLinkType_1 ?_
  refine j_icmp_eq hJ 48 gp1 rk_m1 dX12_isLinkType_2 (by decide) (fun z1 => ?_) (fun z1 => ?_)
  · have hF := hF.1 z1
    refine j_iconst hJ dX12_isLinkType_48 ?_
    refine j_goto hJ 53 dX12_isLinkType_49 (by decide) ?_
    exact j_zret hJ rfl (by decide) dX12_isLinkType_53 hF
  · have hF := hF.2 z1
    refine j_aload_n hJ dX12_isLinkType_5 rfl 0 rfl ?_
    refine j_iload_n hJ dX12_isLinkType_6 rfl 1 rfl ?_
    refine j_callVz hJ (c_X12_isClass (l := l) (D := D) (cy := cy) (ad := ad) hin) rfl om_1064 ⟨rfl, rfl, Nat.le_of_ble_eq_true rfl, Nat.le_of_ble_eq_true rfl⟩ [.int (Ii p1)] mv_X12_416 hd_X12_isClassv kR_0 rfl rfl rfl (Nat.le_of_ble_eq_true rfl) dX12_isLinkType_7 ⟨p1, rfl, gp1, hF⟩ (fun r2 M3 gr2 qM3 => ?_)
    have hF := qM3 gr2
    refine j_if_ne hJ 48 (jz_ri gr2) dX12_isLinkType_10 (by decide) (fun z4 => ?_) (fun z4 => ?_)
    · have hF := hF.1 z4
      refine j_iconst hJ dX12_isLinkType_48 ?_
      refine j_goto hJ 53 dX12_isLinkType_49 (by decide) ?_
      exact j_zret hJ rfl (by decide) dX12_isLinkType_53 hF
    · have hF := hF.2 z4
      refine j_iload_n hJ dX12_isLinkType_13 rfl 1 rfl ?_
      refine j_bipush hJ dX12_isLinkType_14 (by decide) ?_
      refine j_icmp_lt hJ 25 gp1 rk_20 dX12_isLinkType_16 (by decide) (fun z5 => ?_) (fun z5 => ?_)
      · have hF := hF.1 z5
        exact j_sub hJ [0, 1] rfl (k_X12_isLinkType_b25 hin  hJ  p1 _ gp1 hF)
      · have hF := hF.2 z5
        refine j_iload_n hJ dX12_isLinkType_19 rfl 1 rfl ?_
        refine j_bipush hJ dX12_isLinkType_20 (by decide) ?_
        refine j_icmp_le hJ 48 gp1 rk_24 dX12_isLinkType_22 (by decide) (fun z6 => ?_) (fun z6 => ?_)
        · have hF := hF.1 z6
          refine j_iconst hJ dX12_isLinkType_48 ?_
          refine j_goto hJ 53 dX12_isLinkType_49 (by decide) ?_
          exact j_zret hJ rfl (by decide) dX12_isLinkType_53 hF
        · have hF := hF.2 z6
          exact j_sub hJ [0, 1] rfl (k_X12_isLinkType_b25 hin  hJ  p1 _ gp1 hF)
def W_X12_field (ad : Nat → Nat) (Q : Int → MM → Prop) (av : List Value) (M : MM) : Prop := ∃ (p1 : Int) (p2 : Int) (p3 : Int) (p4 : Int), av = [.ref (ad 0), .int (Ii p1), .int (Ii p2), .int (Ii p3), .int (Ii p4)] ∧ ri_ p1 ∧ ri_ p2 ∧ ri_ p3 ∧ (p4 = 0 ∨ p4 = 1) ∧ w_X12_field  Q p1 p2 p3 p4 M
set_option maxHeartbeats 4000000 in
set_option maxRecDepth 100000 in
theorem k_X12_field_b263 {l : Launch} {D : va_G} {cy : Nat → ClassId} {ad : Nat → Nat} {Q : Int → MM → Prop} {J : Nat → List (Nat × Value) → List Value → MM → Prop} (hin : jIn ad ksR.length)   (hJ : jOk l D vwCl (tyR cy) cy ad ftR ksR (XtR ad) Om RX12 cX12_field 9 1 ({ frames := 3, cells := 0, slots := 0, locals := 64 } : Room) Q J)  : ∀ (x1 s0 s1 : Int) (M : MM), ri_ x1 → rl_ s0 → ri_ s1 → w_X12_field_b263  Q  x1 s0 s1 M → J 263 [(0, .ref (ad 0)), (1, .int (Ii x1))] [.long (Ll s0), .int (Ii s1), .ref (ad 6)] M := by
  intro x1 s0 s1 M gx1 gs0 gs1 hF
  unfold w_X12_field_b263 at hF
  refine j_last hJ gs1 gs0 kR_6 hF.1 hF.2.1 dX12_field_263 (fun M1 eM1 => ?_)
  have hF := hF.2.2 M1 eM1
  refine j_aload_n hJ dX12_field_264 rfl 0 rfl ?_
  refine j_iload_n hJ dX12_field_265 rfl 1 rfl ?_
  refine j_callVv hJ (c_X12_layOut (l := l) (D := D) (cy := cy) (ad := ad) hin) rfl om_1060 ⟨rfl, rfl, Nat.le_of_ble_eq_true rfl, Nat.le_of_ble_eq_true rfl⟩ [.int (Ii x1)] mv_X12_423 hd_X12_layOutv kR_0 rfl rfl rfl (Nat.le_of_ble_eq_true rfl) dX12_field_266 ⟨x1, rfl, gx1, hF⟩ (fun M3 qM3 => ?_)
  have hF := qM3
  refine j_aload_n hJ dX12_field_269 rfl 0 rfl ?_
  refine j_iconst hJ dX12_field_270 ?_
  refine j_pi hJ rk_0 kR_0 fR_15_3 rfl fp_X12_391 dX12_field_271 (fun M4 eM4 => ?_)
  have hF := hF M4 eM4
  refine j_aload_n hJ dX12_field_274 rfl 0 rfl ?_
  refine j_gr (e := 9) hJ kR_0 fR_15_10 fl_X12_94 dX12_field_275 rfl ?_
  refine j_iload_n hJ dX12_field_278 rfl 1 rfl ?_
  refine j_iald hJ gx1 kR_9 hF.1 hF.2.1 dX12_field_279 (fun v5 ev5 gv5 => ?_)
  have hF := hF.2.2 v5 ev5 gv5
  refine j_iconst hJ dX12_field_280 ?_
  refine j_isub hJ dX12_field_281 ?_
  have g6 := hF.1; have hF := hF.2
  exact j_iret hJ rfl g6 dX12_field_282 hF
set_option maxHeartbeats 4000000 in
set_option maxRecDepth 100000 in
theorem k_X12_field_b235 {l : Launch} {D : va_G} {cy : Nat → ClassId} {ad : Nat → Nat} {Q : Int → MM → Prop} {J : Nat → List (Nat × Value) → List Value → MM → Prop} (hin : jIn ad ksR.length)   (hJ : jOk l D vwCl (tyR cy) cy ad ftR ksR (XtR ad) Om RX12 cX12_field 9 1 ({ frames := 3, cells := 0, slots := 0, locals := 64 } : Room) Q J)  : ∀ (x1 x2 x4 x8 s0 s1 : Int) (M : MM), ri_ x1 → ri_ x2 → ri_ x4 → ri_ x8 → ri_ s0 → ri_ s1 → w_X12_field_b235  Q  x1 x2 x4 x8 s0 s1 M → J 235 [(0, .ref (ad 0)), (1, .int (Ii x1)), (2, .int (Ii x2)), (4, .int (Ii x4)), (8, .int (Ii x8))] [.int (Ii s0), .int (Ii s1), .ref (ad 13)] M := by
  intro x1 x2 x4 x8 s0 s1 M gx1 gx2 gx4 gx8 gs0 gs1 hF
  unfold w_X12_field_b235 at hF
  refine j_iast hJ gs1 gs0 kR_13 hF.1 hF.2.1 dX12_field_235 (fun M1 eM1 => ?_)
  have hF := hF.2.2 M1 eM1
  refine j_aload_n hJ dX12_field_236 rfl 0 rfl ?_
  refine j_gr (e := 17) hJ kR_0 fR_15_18 fl_X12_119 dX12_field_237 rfl ?_
  refine j_iload hJ dX12_field_240 4 rfl ?_
  refine j_iload hJ dX12_field_242 3 rfl ?_
  refine j_zast hJ gx8 hF.2.2.1 kR_17 hF.1 hF.2.1 dX12_field_244 (fun M2 eM2 => ?_)
  have hF := hF.2.2.2 M2 eM2
  refine j_aload_n hJ dX12_field_245 rfl 0 rfl ?_
  refine j_gr (e := 6) hJ kR_0 fR_15_7 fl_X12_84 dX12_field_246 rfl ?_
  refine j_iload hJ dX12_field_249 4 rfl ?_
  refine j_iload_n hJ dX12_field_251 rfl 2 rfl ?_
  refine j_iconst hJ dX12_field_252 ?_
  refine j_icmp_ne hJ 262 gx2 rk_5 dX12_field_253 (by decide) (fun z3 => ?_) (fun z3 => ?_)
  · have hF := hF.1 z3
    refine j_lconst (x := 0) hJ dX12_field_262 rfl ?_
    exact j_sub hJ [0, 1] rfl (k_X12_field_b263 hin  hJ  x1 0 x8 _ gx1 lkm_0 gx8 hF)
  · have hF := hF.2 z3
    refine j_ldc2 hJ (-1) om_1068 (by decide) dX12_field_256 ?_
    refine j_goto hJ 263 dX12_field_259 (by decide) ?_
    exact j_sub hJ [0, 1] rfl (k_X12_field_b263 hin  hJ  x1 (-1) x8 _ gx1 lk_m1 gx8 hF)
set_option maxHeartbeats 4000000 in
set_option maxRecDepth 100000 in
theorem k_X12_field_b167 {l : Launch} {D : va_G} {cy : Nat → ClassId} {ad : Nat → Nat} {Q : Int → MM → Prop} {J : Nat → List (Nat × Value) → List Value → MM → Prop} (hin : jIn ad ksR.length)   (hJ : jOk l D vwCl (tyR cy) cy ad ftR ksR (XtR ad) Om RX12 cX12_field 9 1 ({ frames := 3, cells := 0, slots := 0, locals := 64 } : Room) Q J)  : ∀ (x1 x2 x3 x4 x5 s0 : Int) (M : MM), ri_ x1 → ri_ x2 → ri_ x3 → ri_ x4 → rl_ x5 → ri_ s0 → w_X12_field_b167  Q  x1 x2 x3 x4 x5 s0 M → J 167 [(0, .ref (ad 0)), (1, .int (Ii x1)), (2, .int (Ii x2)), (3, .int (Ii x3)), (4, .int (Ii x4)), (5, .long (Ll x5))] [.int (Ii s0), .ref (ad 0)] M := by
  intro x1 x2 x3 x4 x5 s0 M gx1 gx2 gx3 gx4 gx5 gs0 hF
  unfold w_X12_field_b167 at hF
  refine j_pi hJ gs0 kR_0 fR_15_0 rfl fp_X12_388 dX12_field_167 (fun M1 eM1 => ?_)
  have hF := hF M1 eM1
  refine j_aload_n hJ dX12_field_170 rfl 0 rfl ?_
  refine j_gi hJ kR_0 fR_15_0 rfl fl_X12_388 dX12_field_171 (fun v2 ev2 gv2 => ?_)
  have hF := hF v2 ev2 gv2
  refine j_if_le hJ 179 gv2 dX12_field_174 (by decide) (fun z3 => ?_) (fun z3 => ?_)
  · have hF := hF.1 z3
    refine j_bipush hJ dX12_field_179 (by decide) ?_
    refine j_iload_n hJ dX12_field_181 rfl 1 rfl ?_
    refine j_imul hJ dX12_field_182 ?_
    have g4 := hF.1; have hF := hF.2
    refine j_aload_n hJ dX12_field_183 rfl 0 rfl ?_
    refine j_gr (e := 9) hJ kR_0 fR_15_10 fl_X12_94 dX12_field_184 rfl ?_
    refine j_iload_n hJ dX12_field_187 rfl 1 rfl ?_
    refine j_iald hJ gx1 kR_9 hF.1 hF.2.1 dX12_field_188 (fun v5 ev5 gv5 => ?_)
    have hF := hF.2.2 v5 ev5 gv5
    refine j_iadd hJ dX12_field_189 ?_
    have g6 := hF.1; have hF := hF.2
    refine j_istore (lv' := [(8, .int (Ii ((6 * x1) + v5))), (0, .ref (ad 0)), (1, .int (Ii x1)), (2, .int (Ii x2)), (3, .int (Ii x3)), (4, .int (Ii x4)), (5, .long (Ll x5))]) hJ dX12_field_190 (by decide) rfl ?_
    refine j_aload_n hJ dX12_field_192 rfl 1 rfl ?_
    refine j_gr (e := 9) hJ kR_0 fR_15_10 fl_X12_94 dX12_field_193 rfl ?_
    refine j_iload_n hJ dX12_field_196 rfl 2 rfl ?_
    refine j_dup2_11 hJ dX12_field_197 rfl rfl ?_
    refine j_iald hJ gx1 kR_9 hF.1 hF.2.1 dX12_field_198 (fun v7 ev7 gv7 => ?_)
    have hF := hF.2.2 v7 ev7 gv7
    refine j_iconst hJ dX12_field_199 ?_
    refine j_iadd hJ dX12_field_200 ?_
    have g8 := hF.1; have hF := hF.2
    refine j_iast hJ gx1 g8 kR_9 hF.1 hF.2.1 dX12_field_201 (fun M9 eM9 => ?_)
    have hF := hF.2.2 M9 eM9
    refine j_aload_n hJ dX12_field_202 rfl 1 rfl ?_
    refine j_gr (e := 5) hJ kR_0 fR_15_6 fl_X12_81 dX12_field_203 rfl ?_
    refine j_iload hJ dX12_field_206 0 rfl ?_
    refine j_lload hJ dX12_field_208 6 rfl ?_
    refine j_last hJ g6 gx5 kR_5 hF.1 hF.2.1 dX12_field_210 (fun M10 eM10 => ?_)
    have hF := hF.2.2 M10 eM10
    refine j_aload_n hJ dX12_field_211 rfl 1 rfl ?_
    refine j_gr (e := 12) hJ kR_0 fR_15_13 fl_X12_103 dX12_field_212 rfl ?_
    refine j_iload hJ dX12_field_215 0 rfl ?_
    refine j_iload_n hJ dX12_field_217 rfl 3 rfl ?_
    refine j_iast hJ g6 gx2 kR_12 hF.1 hF.2.1 dX12_field_218 (fun M11 eM11 => ?_)
    have hF := hF.2.2 M11 eM11
    refine j_aload_n hJ dX12_field_219 rfl 1 rfl ?_
    refine j_gr (e := 13) hJ kR_0 fR_15_14 fl_X12_106 dX12_field_220 rfl ?_
    refine j_iload hJ dX12_field_223 0 rfl ?_
    refine j_iload_n hJ dX12_field_225 rfl 3 rfl ?_
    refine j_iconst hJ dX12_field_226 ?_
    refine j_icmp_ne hJ 234 gx2 rk_5 dX12_field_227 (by decide) (fun z12 => ?_) (fun z12 => ?_)
    · have hF := hF.1 z12
      refine j_iconst hJ dX12_field_234 ?_
      exact j_sub hJ [1, 2, 3, 5, 0] rfl (k_X12_field_b235 hin  hJ  x1 x2 x4 ((6 * x1) + v5) (-1) ((6 * x1) + v5) _ gx1 gx2 gx4 g6 rk_m1 g6 hF)
    · have hF := hF.2 z12
      refine j_iload_n hJ dX12_field_230 rfl 4 rfl ?_
      refine j_goto hJ 235 dX12_field_231 (by decide) ?_
      exact j_sub hJ [1, 2, 3, 5, 0] rfl (k_X12_field_b235 hin  hJ  x1 x2 x4 ((6 * x1) + v5) x3 ((6 * x1) + v5) _ gx1 gx2 gx4 g6 gx3 g6 hF)
  · have hF := hF.2 z3
    refine j_iconst hJ dX12_field_177 ?_
    exact j_iret hJ rfl rk_0 dX12_field_178 hF
set_option maxHeartbeats 4000000 in
set_option maxRecDepth 100000 in
theorem k_X12_field_b148 {l : Launch} {D : va_G} {cy : Nat → ClassId} {ad : Nat → Nat} {Q : Int → MM → Prop} {J : Nat → List (Nat × Value) → List Value → MM → Prop} (hin : jIn ad ksR.length)   (hJ : jOk l D vwCl (tyR cy) cy ad ftR ksR (XtR ad) Om RX12 cX12_field 9 1 ({ frames := 3, cells := 0, slots := 0, locals := 64 } : Room) Q J) {K109 : Int → Int → Int → Int → Int → Int → Int → MM → Prop} (hK109 : ∀ (x1 x2 x3 x4 x5 x7 x8 : Int) (M : MM), ri_ x1 → ri_ x2 → ri_ x3 → ri_ x4 → rl_ x5 → ri_ x7 → ri_ x8 → K109 x1 x2 x3 x4 x5 x7 x8 M → J 109 [(0, .ref (ad 0)), (1, .int (Ii x1)), (2, .int (Ii x2)), (3, .int (Ii x3)), (4, .int (Ii x4)), (5, .long (Ll x5)), (7, .int (Ii x7)), (8, .int (Ii x8))] [] M) : ∀ (x1 x2 x3 x4 x5 x8 s0 : Int) (M : MM), ri_ x1 → ri_ x2 → ri_ x3 → ri_ x4 → rl_ x5 → ri_ x8 → ri_ s0 → w_X12_field_b148  Q K109 x1 x2 x3 x4 x5 x8 s0 M → J 148 [(0, .ref (ad 0)), (1, .int (Ii x1)), (2, .int (Ii x2)), (3, .int (Ii x3)), (4, .int (Ii x4)), (5, .long (Ll x5)), (8, .int (Ii x8))] [.int (Ii s0)] M := by
  intro x1 x2 x3 x4 x5 x8 s0 M gx1 gx2 gx3 gx4 gx5 gx8 gs0 hF
  unfold w_X12_field_b148 at hF
  refine j_istore (lv' := [(7, .int (Ii s0)), (0, .ref (ad 0)), (1, .int (Ii x1)), (2, .int (Ii x2)), (3, .int (Ii x3)), (4, .int (Ii x4)), (5, .long (Ll x5)), (8, .int (Ii x8))]) hJ dX12_field_148 (by decide) rfl ?_
  refine j_iinc (lv' := [(8, .int (Ii (x8 + 1))), (7, .int (Ii s0)), (0, .ref (ad 0)), (1, .int (Ii x1)), (2, .int (Ii x2)), (3, .int (Ii x3)), (4, .int (Ii x4)), (5, .long (Ll x5))]) (k := 7) hJ dX12_field_150 rfl (by decide) rfl ?_
  have g1 := hF.1; have hF := hF.2
  refine j_goto hJ 109 dX12_field_153 (by decide) ?_
  exact j_sub hJ [2, 3, 4, 5, 6, 7, 1, 0] rfl (hK109 x1 x2 x3 x4 x5 s0 (x8 + 1) _ gx1 gx2 gx3 gx4 gx5 gs0 g1 hF)
set_option maxHeartbeats 4000000 in
set_option maxRecDepth 100000 in
theorem k_X12_field_b143 {l : Launch} {D : va_G} {cy : Nat → ClassId} {ad : Nat → Nat} {Q : Int → MM → Prop} {J : Nat → List (Nat × Value) → List Value → MM → Prop} (hin : jIn ad ksR.length)   (hJ : jOk l D vwCl (tyR cy) cy ad ftR ksR (XtR ad) Om RX12 cX12_field 9 1 ({ frames := 3, cells := 0, slots := 0, locals := 64 } : Room) Q J) {K109 : Int → Int → Int → Int → Int → Int → Int → MM → Prop} (hK109 : ∀ (x1 x2 x3 x4 x5 x7 x8 : Int) (M : MM), ri_ x1 → ri_ x2 → ri_ x3 → ri_ x4 → rl_ x5 → ri_ x7 → ri_ x8 → K109 x1 x2 x3 x4 x5 x7 x8 M → J 109 [(0, .ref (ad 0)), (1, .int (Ii x1)), (2, .int (Ii x2)), (3, .int (Ii x3)), (4, .int (Ii x4)), (5, .long (Ll x5)), (7, .int (Ii x7)), (8, .int (Ii x8))] [] M) : ∀ (x1 x2 x3 x4 x5 x8 : Int) (M : MM), ri_ x1 → ri_ x2 → ri_ x3 → ri_ x4 → rl_ x5 → ri_ x8 → w_X12_field_b143  Q K109 x1 x2 x3 x4 x5 x8 M → J 143 [(0, .ref (ad 0)), (1, .int (Ii x1)), (2, .int (Ii x2)), (3, .int (Ii x3)), (4, .int (Ii x4)), (5, .long (Ll x5)), (8, .int (Ii x8))] [] M := by
  intro x1 x2 x3 x4 x5 x8 M gx1 gx2 gx3 gx4 gx5 gx8 hF
  unfold w_X12_field_b143 at hF
  refine j_iconst hJ dX12_field_143 ?_
  refine j_goto hJ 148 dX12_field_144 (by decide) ?_
  exact j_sub hJ [0, 1, 2, 3, 4, 5, 6] rfl (k_X12_field_b148 hin  hJ hK109 x1 x2 x3 x4 x5 x8 1 _ gx1 gx2 gx3 gx4 gx5 gx8 rk_1 hF)
set_option maxHeartbeats 4000000 in
set_option maxRecDepth 100000 in
theorem k_X12_field_b109 {l : Launch} {D : va_G} {cy : Nat → ClassId} {ad : Nat → Nat} {Q : Int → MM → Prop} {J : Nat → List (Nat × Value) → List Value → MM → Prop} (hin : jIn ad ksR.length)   (hJ : jOk l D vwCl (tyR cy) cy ad ftR ksR (XtR ad) Om RX12 cX12_field 9 1 ({ frames := 3, cells := 0, slots := 0, locals := 64 } : Room) Q J)  : ∀ (x1 x2 x3 x4 x5 x7 x8 : Int) (M : MM), ri_ x1 → ri_ x2 → ri_ x3 → ri_ x4 → rl_ x5 → ri_ x7 → ri_ x8 → w_X12_field_b109  Q  x1 x2 x3 x4 x5 x7 x8 M → J 109 [(0, .ref (ad 0)), (1, .int (Ii x1)), (2, .int (Ii x2)), (3, .int (Ii x3)), (4, .int (Ii x4)), (5, .long (Ll x5)), (7, .int (Ii x7)), (8, .int (Ii x8))] [] M := by
  have H9 : ∀ (n : Nat) (x1 x2 x3 x4 x5 x7 x8 : Int) (M : MM), ri_ x1 → ri_ x2 → ri_ x3 → ri_ x4 → rl_ x5 → ri_ x7 → ri_ x8 → jit (fun _ _ _ _ _ _ _ _ => False) (wb_X12_field_b109  Q ) n x1 x2 x3 x4 x5 x7 x8 M → J 109 [(0, .ref (ad 0)), (1, .int (Ii x1)), (2, .int (Ii x2)), (3, .int (Ii x3)), (4, .int (Ii x4)), (5, .long (Ll x5)), (7, .int (Ii x7)), (8, .int (Ii x8))] [] M := by
    intro n
    induction n with
    | zero => intro x1 x2 x3 x4 x5 x7 x8 M gx1 gx2 gx3 gx4 gx5 gx7 gx8 hF; exact False.elim hF
    | succ n ih =>
    intro x1 x2 x3 x4 x5 x7 x8 M gx1 gx2 gx3 gx4 gx5 gx7 gx8 hF
    have hF : wb_X12_field_b109  Q  (jit (fun _ _ _ _ _ _ _ _ => False) (wb_X12_field_b109  Q ) n) x1 x2 x3 x4 x5 x7 x8 M := hF
    unfold wb_X12_field_b109 at hF
    refine j_iload hJ dX12_field_109 7 rfl ?_
    refine j_aload_n hJ dX12_field_111 rfl 0 rfl ?_
    refine j_gr (e := 9) hJ kR_0 fR_15_10 fl_X12_94 dX12_field_112 rfl ?_
    refine j_iload_n hJ dX12_field_115 rfl 1 rfl ?_
    refine j_iald hJ gx1 kR_9 hF.1 hF.2.1 dX12_field_116 (fun v1 ev1 gv1 => ?_)
    have hF := hF.2.2 v1 ev1 gv1
    refine j_icmp_ge hJ 156 gx8 gv1 dX12_field_117 (by decide) (fun z2 => ?_) (fun z2 => ?_)
    · have hF := hF.1 z2
      refine j_aload_n hJ dX12_field_156 rfl 0 rfl ?_
      refine j_iload hJ dX12_field_157 6 rfl ?_
      refine j_if_eq hJ 166 gx7 dX12_field_159 (by decide) (fun z3 => ?_) (fun z3 => ?_)
      · have hF := hF.1 z3
        refine j_iconst hJ dX12_field_166 ?_
        exact j_sub hJ [0, 1, 2, 3, 4, 5] rfl (k_X12_field_b167 hin  hJ  x1 x2 x3 x4 x5 0 _ gx1 gx2 gx3 gx4 gx5 rk_0 hF)
      · have hF := hF.2 z3
        refine j_iconst hJ dX12_field_162 ?_
        refine j_goto hJ 167 dX12_field_163 (by decide) ?_
        exact j_sub hJ [0, 1, 2, 3, 4, 5] rfl (k_X12_field_b167 hin  hJ  x1 x2 x3 x4 x5 3 _ gx1 gx2 gx3 gx4 gx5 rk_3 hF)
    · have hF := hF.2 z2
      refine j_iload hJ dX12_field_120 6 rfl ?_
      refine j_if_ne hJ 143 gx7 dX12_field_122 (by decide) (fun z4 => ?_) (fun z4 => ?_)
      · have hF := hF.1 z4
        exact j_sub hJ [0, 1, 2, 3, 4, 5, 7] rfl (k_X12_field_b143 hin  hJ ih x1 x2 x3 x4 x5 x8 _ gx1 gx2 gx3 gx4 gx5 gx8 hF)
      · have hF := hF.2 z4
        refine j_aload_n hJ dX12_field_125 rfl 0 rfl ?_
        refine j_gr (e := 5) hJ kR_0 fR_15_6 fl_X12_81 dX12_field_126 rfl ?_
        refine j_bipush hJ dX12_field_129 (by decide) ?_
        refine j_iload_n hJ dX12_field_131 rfl 1 rfl ?_
        refine j_imul hJ dX12_field_132 ?_
        have g5 := hF.1; have hF := hF.2
        refine j_iload hJ dX12_field_133 7 rfl ?_
        refine j_iadd hJ dX12_field_135 ?_
        have g6 := hF.1; have hF := hF.2
        refine j_lald hJ g6 kR_5 hF.1 hF.2.1 dX12_field_136 (fun v7 ev7 gv7 => ?_)
        have hF := hF.2.2 v7 ev7 gv7
        refine j_lload hJ dX12_field_137 5 rfl ?_
        refine j_lcmp_ne hJ 147 gv7 gx5 dX12_field_139 dX12_field_140 (by decide) (fun z8 => ?_) (fun z8 => ?_)
        · have hF := hF.1 z8
          refine j_iconst hJ dX12_field_147 ?_
          exact j_sub hJ [0, 1, 2, 3, 4, 5, 7] rfl (k_X12_field_b148 hin  hJ ih x1 x2 x3 x4 x5 x8 0 _ gx1 gx2 gx3 gx4 gx5 gx8 rk_0 hF)
        · have hF := hF.2 z8
          exact j_sub hJ [0, 1, 2, 3, 4, 5, 7] rfl (k_X12_field_b143 hin  hJ ih x1 x2 x3 x4 x5 x8 _ gx1 gx2 gx3 gx4 gx5 gx8 hF)
  intro x1 x2 x3 x4 x5 x7 x8 M gx1 gx2 gx3 gx4 gx5 gx7 gx8 hF
  obtain ⟨n, hF⟩ := hF
  exact H9 n x1 x2 x3 x4 x5 x7 x8 M gx1 gx2 gx3 gx4 gx5 gx7 gx8 hF
set_option maxHeartbeats 4000000 in
set_option maxRecDepth 100000 in
theorem k_X12_field_b104 {l : Launch} {D : va_G} {cy : Nat → ClassId} {ad : Nat → Nat} {Q : Int → MM → Prop} {J : Nat → List (Nat × Value) → List Value → MM → Prop} (hin : jIn ad ksR.length)   (hJ : jOk l D vwCl (tyR cy) cy ad ftR ksR (XtR ad) Om RX12 cX12_field 9 1 ({ frames := 3, cells := 0, slots := 0, locals := 64 } : Room) Q J)  : ∀ (x1 x2 x3 x4 x5 s0 : Int) (M : MM), ri_ x1 → ri_ x2 → ri_ x3 → ri_ x4 → rl_ x5 → ri_ s0 → w_X12_field_b104  Q  x1 x2 x3 x4 x5 s0 M → J 104 [(0, .ref (ad 0)), (1, .int (Ii x1)), (2, .int (Ii x2)), (3, .int (Ii x3)), (4, .int (Ii x4)), (5, .long (Ll x5))] [.int (Ii s0)] M := by
  intro x1 x2 x3 x4 x5 s0 M gx1 gx2 gx3 gx4 gx5 gs0 hF
  unfold w_X12_field_b104 at hF
  refine j_istore (lv' := [(7, .int (Ii s0)), (0, .ref (ad 0)), (1, .int (Ii x1)), (2, .int (Ii x2)), (3, .int (Ii x3)), (4, .int (Ii x4)), (5, .long (Ll x5))]) hJ dX12_field_104 (by decide) rfl ?_
  refine j_iconst hJ dX12_field_106 ?_
  refine j_istore (lv' := [(8, .int (Ii 0)), (7, .int (Ii s0)), (0, .ref (ad 0)), (1, .int (Ii x1)), (2, .int (Ii x2)), (3, .int (Ii x3)), (4, .int (Ii x4)), (5, .long (Ll x5))]) hJ dX12_field_107 (by decide) rfl ?_
  exact j_sub hJ [2, 3, 4, 5, 6, 7, 1, 0] rfl (k_X12_field_b109 hin  hJ  x1 x2 x3 x4 x5 s0 0 _ gx1 gx2 gx3 gx4 gx5 gs0 rk_0 hF)
set_option maxHeartbeats 4000000 in
set_option maxRecDepth 100000 in
theorem k_X12_field_b99 {l : Launch} {D : va_G} {cy : Nat → ClassId} {ad : Nat → Nat} {Q : Int → MM → Prop} {J : Nat → List (Nat × Value) → List Value → MM → Prop} (hin : jIn ad ksR.length)   (hJ : jOk l D vwCl (tyR cy) cy ad ftR ksR (XtR ad) Om RX12 cX12_field 9 1 ({ frames := 3, cells := 0, slots := 0, locals := 64 } : Room) Q J)  : ∀ (x1 x2 x3 x4 x5 : Int) (M : MM), ri_ x1 → ri_ x2 → ri_ x3 → ri_ x4 → rl_ x5 → w_X12_field_b99  Q  x1 x2 x3 x4 x5 M → J 99 [(0, .ref (ad 0)), (1, .int (Ii x1)), (2, .int (Ii x2)), (3, .int (Ii x3)), (4, .int (Ii x4)), (5, .long (Ll x5))] [] M := by
  intro x1 x2 x3 x4 x5 M gx1 gx2 gx3 gx4 gx5 hF
  unfold w_X12_field_b99 at hF
  refine j_iconst hJ dX12_field_99 ?_
  refine j_goto hJ 104 dX12_field_100 (by decide) ?_
  exact j_sub hJ [0, 1, 2, 3, 4, 5] rfl (k_X12_field_b104 hin  hJ  x1 x2 x3 x4 x5 1 _ gx1 gx2 gx3 gx4 gx5 rk_1 hF)
set_option maxHeartbeats 4000000 in
set_option maxRecDepth 100000 in
theorem k_X12_field_b67 {l : Launch} {D : va_G} {cy : Nat → ClassId} {ad : Nat → Nat} {Q : Int → MM → Prop} {J : Nat → List (Nat × Value) → List Value → MM → Prop} (hin : jIn ad ksR.length)   (hJ : jOk l D vwCl (tyR cy) cy ad ftR ksR (XtR ad) Om RX12 cX12_field 9 1 ({ frames := 3, cells := 0, slots := 0, locals := 64 } : Room) Q J)  : ∀ (x1 x2 x3 x4 x5 s0 : Int) (M : MM), ri_ x1 → ri_ x2 → ri_ x3 → ri_ x4 → rl_ x5 → ri_ s0 → w_X12_field_b67  Q  x1 x2 x3 x4 x5 s0 M → J 67 [(0, .ref (ad 0)), (1, .int (Ii x1)), (2, .int (Ii x2)), (3, .int (Ii x3)), (4, .int (Ii x4)), (5, .long (Ll x5))] [.int (Ii s0), .ref (ad 0)] M := by
  intro x1 x2 x3 x4 x5 s0 M gx1 gx2 gx3 gx4 gx5 gs0 hF
  unfold w_X12_field_b67 at hF
  refine j_pi hJ gs0 kR_0 fR_15_0 rfl fp_X12_388 dX12_field_67 (fun M1 eM1 => ?_)
  have hF := hF M1 eM1
  refine j_aload_n hJ dX12_field_70 rfl 0 rfl ?_
  refine j_gi hJ kR_0 fR_15_0 rfl fl_X12_388 dX12_field_71 (fun v2 ev2 gv2 => ?_)
  have hF := hF v2 ev2 gv2
  refine j_if_le hJ 79 gv2 dX12_field_74 (by decide) (fun z3 => ?_) (fun z3 => ?_)
  · have hF := hF.1 z3
    refine j_aload_n hJ dX12_field_79 rfl 0 rfl ?_
    refine j_gr (e := 16) hJ kR_0 fR_15_17 fl_X12_115 dX12_field_80 rfl ?_
    refine j_iload_n hJ dX12_field_83 rfl 1 rfl ?_
    refine j_zald hJ gx1 kR_16 hF.1 hF.2.1 dX12_field_84 (fun v4 ev4 gv4 => ?_)
    have hF := hF.2.2 v4 ev4 gv4
    refine j_if_ne hJ 99 (jz_ri gv4) dX12_field_85 (by decide) (fun z5 => ?_) (fun z5 => ?_)
    · have hF := hF.1 z5
      exact j_sub hJ [0, 1, 2, 3, 4, 5] rfl (k_X12_field_b99 hin  hJ  x1 x2 x3 x4 x5 _ gx1 gx2 gx3 gx4 gx5 hF)
    · have hF := hF.2 z5
      refine j_aload_n hJ dX12_field_88 rfl 0 rfl ?_
      refine j_gr (e := 9) hJ kR_0 fR_15_10 fl_X12_94 dX12_field_89 rfl ?_
      refine j_iload_n hJ dX12_field_92 rfl 1 rfl ?_
      refine j_iald hJ gx1 kR_9 hF.1 hF.2.1 dX12_field_93 (fun v6 ev6 gv6 => ?_)
      have hF := hF.2.2 v6 ev6 gv6
      refine j_bipush hJ dX12_field_94 (by decide) ?_
      refine j_icmp_ne hJ 103 gv6 rk_6 dX12_field_96 (by decide) (fun z7 => ?_) (fun z7 => ?_)
      · have hF := hF.1 z7
        refine j_iconst hJ dX12_field_103 ?_
        exact j_sub hJ [0, 1, 2, 3, 4, 5] rfl (k_X12_field_b104 hin  hJ  x1 x2 x3 x4 x5 0 _ gx1 gx2 gx3 gx4 gx5 rk_0 hF)
      · have hF := hF.2 z7
        exact j_sub hJ [0, 1, 2, 3, 4, 5] rfl (k_X12_field_b99 hin  hJ  x1 x2 x3 x4 x5 _ gx1 gx2 gx3 gx4 gx5 hF)
  · have hF := hF.2 z3
    refine j_iconst hJ dX12_field_77 ?_
    exact j_iret hJ rfl rk_0 dX12_field_78 hF
set_option maxHeartbeats 4000000 in
set_option maxRecDepth 100000 in
theorem k_X12_field_b62 {l : Launch} {D : va_G} {cy : Nat → ClassId} {ad : Nat → Nat} {Q : Int → MM → Prop} {J : Nat → List (Nat × Value) → List Value → MM → Prop} (hin : jIn ad ksR.length)   (hJ : jOk l D vwCl (tyR cy) cy ad ftR ksR (XtR ad) Om RX12 cX12_field 9 1 ({ frames := 3, cells := 0, slots := 0, locals := 64 } : Room) Q J)  : ∀ (x1 x2 x3 x4 x5 : Int) (M : MM), ri_ x1 → ri_ x2 → ri_ x3 → ri_ x4 → rl_ x5 → w_X12_field_b62  Q  x1 x2 x3 x4 x5 M → J 62 [(0, .ref (ad 0)), (1, .int (Ii x1)), (2, .int (Ii x2)), (3, .int (Ii x3)), (4, .int (Ii x4)), (5, .long (Ll x5))] [.ref (ad 0)] M := by
  intro x1 x2 x3 x4 x5 M gx1 gx2 gx3 gx4 gx5 hF
  unfold w_X12_field_b62 at hF
  refine j_iconst hJ dX12_field_62 ?_
  refine j_goto hJ 67 dX12_field_63 (by decide) ?_
  exact j_sub hJ [0, 1, 2, 3, 4, 5] rfl (k_X12_field_b67 hin  hJ  x1 x2 x3 x4 x5 2 _ gx1 gx2 gx3 gx4 gx5 rk_2 hF)
set_option maxHeartbeats 4000000 in
set_option maxRecDepth 100000 in
theorem k_X12_field_b66 {l : Launch} {D : va_G} {cy : Nat → ClassId} {ad : Nat → Nat} {Q : Int → MM → Prop} {J : Nat → List (Nat × Value) → List Value → MM → Prop} (hin : jIn ad ksR.length)   (hJ : jOk l D vwCl (tyR cy) cy ad ftR ksR (XtR ad) Om RX12 cX12_field 9 1 ({ frames := 3, cells := 0, slots := 0, locals := 64 } : Room) Q J)  : ∀ (x1 x2 x3 x4 x5 : Int) (M : MM), ri_ x1 → ri_ x2 → ri_ x3 → ri_ x4 → rl_ x5 → w_X12_field_b66  Q  x1 x2 x3 x4 x5 M → J 66 [(0, .ref (ad 0)), (1, .int (Ii x1)), (2, .int (Ii x2)), (3, .int (Ii x3)), (4, .int (Ii x4)), (5, .long (Ll x5))] [.ref (ad 0)] M := by
  intro x1 x2 x3 x4 x5 M gx1 gx2 gx3 gx4 gx5 hF
  unfold w_X12_field_b66 at hF
  refine j_iconst hJ dX12_field_66 ?_
  exact j_sub hJ [0, 1, 2, 3, 4, 5] rfl (k_X12_field_b67 hin  hJ  x1 x2 x3 x4 x5 0 _ gx1 gx2 gx3 gx4 gx5 rk_0 hF)
set_option maxHeartbeats 4000000 in
set_option maxRecDepth 100000 in
theorem k_X12_field_b14 {l : Launch} {D : va_G} {cy : Nat → ClassId} {ad : Nat → Nat} {Q : Int → MM → Prop} {J : Nat → List (Nat × Value) → List Value → MM → Prop} (hin : jIn ad ksR.length)   (hJ : jOk l D vwCl (tyR cy) cy ad ftR ksR (XtR ad) Om RX12 cX12_field 9 1 ({ frames := 3, cells := 0, slots := 0, locals := 64 } : Room) Q J)  : ∀ (x1 x2 x3 x4 s0 : Int) (M : MM), ri_ x1 → ri_ x2 → ri_ x3 → ri_ x4 → ri_ s0 → w_X12_field_b14  Q  x1 x2 x3 x4 s0 M → J 14 [(0, .ref (ad 0)), (1, .int (Ii x1)), (2, .int (Ii x2)), (3, .int (Ii x3)), (4, .int (Ii x4))] [.int (Ii s0), .ref (ad 0)] M := by
  intro x1 x2 x3 x4 s0 M gx1 gx2 gx3 gx4 gs0 hF
  unfold w_X12_field_b14 at hF
  refine j_pi hJ gs0 kR_0 fR_15_0 rfl fp_X12_388 dX12_field_14 (fun M1 eM1 => ?_)
  have hF := hF M1 eM1
  refine j_aload_n hJ dX12_field_17 rfl 0 rfl ?_
  refine j_gi hJ kR_0 fR_15_0 rfl fl_X12_388 dX12_field_18 (fun v2 ev2 gv2 => ?_)
  have hF := hF v2 ev2 gv2
  refine j_if_le hJ 26 gv2 dX12_field_21 (by decide) (fun z3 => ?_) (fun z3 => ?_)
  · have hF := hF.1 z3
    refine j_aload_n hJ dX12_field_26 rfl 0 rfl ?_
    refine j_callVl hJ (c_X12_tapeName (l := l) (D := D) (cy := cy) (ad := ad) hin) rfl om_1053 ⟨rfl, rfl, Nat.le_of_ble_eq_true rfl, Nat.le_of_ble_eq_true rfl⟩ [] mv_X12_419 hd_X12_tapeNamev kR_0 rfl rfl rfl (Nat.le_of_ble_eq_true rfl) dX12_field_27 ⟨rfl, hF⟩ (fun r4 M5 gr4 qM5 => ?_)
    have hF := qM5 gr4
    refine j_lstore (lv' := [(5, .long (Ll r4)), (0, .ref (ad 0)), (1, .int (Ii x1)), (2, .int (Ii x2)), (3, .int (Ii x3)), (4, .int (Ii x4))]) hJ dX12_field_30 (by decide) rfl ?_
    refine j_aload_n hJ dX12_field_32 rfl 1 rfl ?_
    refine j_lload hJ dX12_field_33 0 rfl ?_
    refine j_lconst (x := 0) hJ dX12_field_35 rfl ?_
    refine j_lcmp_eq hJ 62 gr4 lkm_0 dX12_field_36 dX12_field_37 (by decide) (fun z6 => ?_) (fun z6 => ?_)
    · have hF := hF.1 z6
      exact j_sub hJ [1, 2, 3, 4, 5, 0] rfl (k_X12_field_b62 hin  hJ  x1 x2 x3 x4 r4 _ gx1 gx2 gx3 gx4 gr4 hF)
    · have hF := hF.2 z6
      refine j_iload_n hJ dX12_field_40 rfl 3 rfl ?_
      refine j_if_lt hJ 62 gx2 dX12_field_41 (by decide) (fun z7 => ?_) (fun z7 => ?_)
      · have hF := hF.1 z7
        exact j_sub hJ [1, 2, 3, 4, 5, 0] rfl (k_X12_field_b62 hin  hJ  x1 x2 x3 x4 r4 _ gx1 gx2 gx3 gx4 gr4 hF)
      · have hF := hF.2 z7
        refine j_iload_n hJ dX12_field_44 rfl 3 rfl ?_
        refine j_iconst hJ dX12_field_45 ?_
        refine j_icmp_gt hJ 62 gx2 rk_5 dX12_field_46 (by decide) (fun z8 => ?_) (fun z8 => ?_)
        · have hF := hF.1 z8
          exact j_sub hJ [1, 2, 3, 4, 5, 0] rfl (k_X12_field_b62 hin  hJ  x1 x2 x3 x4 r4 _ gx1 gx2 gx3 gx4 gr4 hF)
        · have hF := hF.2 z8
          refine j_iload_n hJ dX12_field_49 rfl 3 rfl ?_
          refine j_iconst hJ dX12_field_50 ?_
          refine j_icmp_ne hJ 66 gx2 rk_5 dX12_field_51 (by decide) (fun z9 => ?_) (fun z9 => ?_)
          · have hF := hF.1 z9
            exact j_sub hJ [1, 2, 3, 4, 5, 0] rfl (k_X12_field_b66 hin  hJ  x1 x2 x3 x4 r4 _ gx1 gx2 gx3 gx4 gr4 hF)
          · have hF := hF.2 z9
            refine j_aload_n hJ dX12_field_54 rfl 1 rfl ?_
            refine j_iload_n hJ dX12_field_55 rfl 4 rfl ?_
            refine j_callVz hJ (c_X12_isLinkType (l := l) (D := D) (cy := cy) (ad := ad) hin) rfl om_1069 ⟨rfl, rfl, Nat.le_of_ble_eq_true rfl, Nat.le_of_ble_eq_true rfl⟩ [.int (Ii x3)] mv_X12_430 hd_X12_isLinkTypev kR_0 rfl rfl rfl (Nat.le_of_ble_eq_true rfl) dX12_field_56 ⟨x3, rfl, gx3, hF⟩ (fun r10 M11 gr10 qM11 => ?_)
            have hF := qM11 gr10
            refine j_if_ne hJ 66 (jz_ri gr10) dX12_field_59 (by decide) (fun z12 => ?_) (fun z12 => ?_)
            · have hF := hF.1 z12
              exact j_sub hJ [1, 2, 3, 4, 5, 0] rfl (k_X12_field_b66 hin  hJ  x1 x2 x3 x4 r4 _ gx1 gx2 gx3 gx4 gr4 hF)
            · have hF := hF.2 z12
              exact j_sub hJ [1, 2, 3, 4, 5, 0] rfl (k_X12_field_b62 hin  hJ  x1 x2 x3 x4 r4 _ gx1 gx2 gx3 gx4 gr4 hF)
  · have hF := hF.2 z3
    refine j_iconst hJ dX12_field_24 ?_
    exact j_iret hJ rfl rk_0 dX12_field_25 hF
set_option maxHeartbeats 4000000 in
set_option maxRecDepth 100000 in
theorem c_X12_field {l : Launch} {D : va_G} {cy : Nat → ClassId} {ad : Nat → Nat} (hin : jIn ad ksR.length) : jCN l D vwCl (tyR cy) cy ad ftR ksR (XtR ad) yX12_field (.code yX12_field cX12_field 9 (some .int) :: Om) ({ frames := 3, cells := 0, slots := 0, locals := 64 } : Room) 1 (W_X12_field ad) := by
  refine jCN_of (y := yX12_field) (cc := cX12_field) (nL := 9) (rk := 1) (rm := ({ frames := 3, cells := 0, slots := 0, locals := 64 } : Room)) (own := RX12) (tyR_ok cy) hin (XtR_ok ad) Om_good (by decide) rfl ?_
  intro Q av M hF
  obtain ⟨p1, p2, p3, p4, rfl, gp1, gp2, gp3, gp4, hF⟩ := hF
  refine ⟨Nat.le_of_ble_eq_true rfl, fun J hJ => ?_⟩
  show J 0 [(0, .ref (ad 0)), (1, .int (Ii p1)), (2, .int (Ii p2)), (3, .int (Ii p3)), (4, .int (Ii p4))] [] M
  unfold w_X12_field at hF
  refine j_aload_n hJ dX12_field_0 rfl 0 rfl ?_
  refine j_aload_n hJ dX12_field_1 rfl 0 rfl ?_
  refine j_iload_n hJ dX12_field_2 rfl 1 rfl ?_
  refine j_callVz hJ (c_X12_isClass (l := l) (D := D) (cy := cy) (ad := ad) hin) rfl om_1064 ⟨rfl, rfl, Nat.le_of_ble_eq_true rfl, Nat.le_of_ble_eq_true rfl⟩ [.int (Ii p1)] mv_X12_416 hd_X12_isClassv kR_0 rfl rfl rfl (Nat.le_of_ble_eq_true rfl) dX12_field_3 ⟨p1, rfl, gp1, hF⟩ (fun r1 M2 gr1 qM2 => ?_)
  have hF := qM2 gr1
  refine j_if_eq hJ 13 (jz_ri gr1) dX12_field_6 (by decide) (fun z3 => ?_) (fun z3 => ?_)
  · have hF := hF.1 z3
    refine j_iconst hJ dX12_field_13 ?_
    exact j_sub hJ [0, 1, 2, 3, 4] rfl (k_X12_field_b14 hin  hJ  p1 p2 p3 p4 1 _ gp1 gp2 gp3 (jz_ri gp4) rk_1 hF)
  · have hF := hF.2 z3
    refine j_iconst hJ dX12_field_9 ?_
    refine j_goto hJ 14 dX12_field_10 (by decide) ?_
    exact j_sub hJ [0, 1, 2, 3, 4] rfl (k_X12_field_b14 hin  hJ  p1 p2 p3 p4 0 _ gp1 gp2 gp3 (jz_ri gp4) rk_0 hF)
def W_X12_sizeOf (ad : Nat → Nat) (Q : Int → MM → Prop) (av : List Value) (M : MM) : Prop := ∃ (p1 : Int), av = [.ref (ad 0), .int (Ii p1)] ∧ ri_ p1 ∧ w_X12_sizeOf  Q p1 M
set_option maxHeartbeats 4000000 in
set_option maxRecDepth 100000 in
theorem c_X12_sizeOf {l : Launch} {D : va_G} {cy : Nat → ClassId} {ad : Nat → Nat} (hin : jIn ad ksR.length) : jCN l D vwCl (tyR cy) cy ad ftR ksR (XtR ad) yX12_sizeOf (.code yX12_sizeOf cX12_sizeOf 2 (some .int) :: Om) ({ frames := 0, cells := 0, slots := 0, locals := 0 } : Room) 1 (W_X12_sizeOf ad) := by
  refine jCN_of (y := yX12_sizeOf) (cc := cX12_sizeOf) (nL := 2) (rk := 1) (rm := ({ frames := 0, cells := 0, slots := 0, locals := 0 } : Room)) (own := RX12) (tyR_ok cy) hin (XtR_ok ad) Om_good (by decide) rfl ?_
  intro Q av M hF
  obtain ⟨p1, rfl, gp1, hF⟩ := hF
  refine ⟨Nat.le_of_ble_eq_true rfl, fun J hJ => ?_⟩
  show J 0 [(0, .ref (ad 0)), (1, .int (Ii p1))] [] M
  unfold w_X12_sizeOf at hF
  refine j_aload_n hJ dX12_sizeOf_0 rfl 0 rfl ?_
  refine j_gr (e := 11) hJ kR_0 fR_15_12 fl_X12_100 dX12_sizeOf_1 rfl ?_
  refine j_iload_n hJ dX12_sizeOf_4 rfl 1 rfl ?_
  refine j_iald hJ gp1 kR_11 hF.1 hF.2.1 dX12_sizeOf_5 (fun v1 ev1 gv1 => ?_)
  have hF := hF.2.2 v1 ev1 gv1
  refine j_bipush hJ dX12_sizeOf_6 (by decide) ?_
  refine j_iadd hJ dX12_sizeOf_8 ?_
  have g2 := hF.1; have hF := hF.2
  refine j_bipush hJ dX12_sizeOf_9 (by decide) ?_
  refine j_idiv hJ g2 rk_8 (by decide) dX12_sizeOf_11 ?_
  have g3 := hF.1; have hF := hF.2
  refine j_bipush hJ dX12_sizeOf_12 (by decide) ?_
  refine j_imul hJ dX12_sizeOf_14 ?_
  have g4 := hF.1; have hF := hF.2
  exact j_iret hJ rfl g4 dX12_sizeOf_15 hF
def W_X12_typeLook (ad : Nat → Nat) (Q : Int → MM → Prop) (av : List Value) (M : MM) : Prop := ∃ (p1 : Int) (p2 : Int), av = [.ref (ad 0), .int (Ii p1), .int (Ii p2)] ∧ ri_ p1 ∧ ri_ p2 ∧ w_X12_typeLook  Q p1 p2 M
set_option maxHeartbeats 4000000 in
set_option maxRecDepth 100000 in
theorem k_X12_typeLook_b103 {l : Launch} {D : va_G} {cy : Nat → ClassId} {ad : Nat → Nat} {Q : Int → MM → Prop} {J : Nat → List (Nat × Value) → List Value → MM → Prop} (hin : jIn ad ksR.length)   (hJ : jOk l D vwCl (tyR cy) cy ad ftR ksR (XtR ad) Om RX12 cX12_typeLook 6 1 ({ frames := 1, cells := 0, slots := 0, locals := 21 } : Room) Q J) {K66 : Int → Int → Int → Int → Int → MM → Prop} (hK66 : ∀ (x1 x2 x3 x4 x5 : Int) (M : MM), ri_ x1 → ri_ x2 → ri_ x3 → ri_ x4 → ri_ x5 → K66 x1 x2 x3 x4 x5 M → J 66 [(0, .ref (ad 0)), (1, .int (Ii x1)), (2, .int (Ii x2)), (3, .int (Ii x3)), (4, .int (Ii x4)), (5, .int (Ii x5))] [] M) : ∀ (x1 x2 x3 x5 s0 s1 : Int) (M : MM), ri_ x1 → ri_ x2 → ri_ x3 → ri_ x5 → ri_ s0 → ri_ s1 → w_X12_typeLook_b103  Q K66 x1 x2 x3 x5 s0 s1 M → J 103 [(0, .ref (ad 0)), (1, .int (Ii x1)), (2, .int (Ii x2)), (3, .int (Ii x3)), (5, .int (Ii x5))] [.int (Ii s0), .int (Ii s1)] M := by
  intro x1 x2 x3 x5 s0 s1 M gx1 gx2 gx3 gx5 gs0 gs1 hF
  unfold w_X12_typeLook_b103 at hF
  refine j_iadd hJ dX12_typeLook_103 ?_
  have g1 := hF.1; have hF := hF.2
  refine j_istore (lv' := [(4, .int (Ii (s1 + s0))), (0, .ref (ad 0)), (1, .int (Ii x1)), (2, .int (Ii x2)), (3, .int (Ii x3)), (5, .int (Ii x5))]) hJ dX12_typeLook_104 (by decide) rfl ?_
  refine j_iinc (lv' := [(5, .int (Ii (x5 + 1))), (4, .int (Ii (s1 + s0))), (0, .ref (ad 0)), (1, .int (Ii x1)), (2, .int (Ii x2)), (3, .int (Ii x3))]) (k := 5) hJ dX12_typeLook_106 rfl (by decide) rfl ?_
  have g2 := hF.1; have hF := hF.2
  refine j_goto hJ 66 dX12_typeLook_109 (by decide) ?_
  exact j_sub hJ [2, 3, 4, 5, 1, 0] rfl (hK66 x1 x2 x3 (s1 + s0) (x5 + 1) _ gx1 gx2 gx3 g1 g2 hF)
set_option maxHeartbeats 4000000 in
set_option maxRecDepth 100000 in
theorem k_X12_typeLook_b102 {l : Launch} {D : va_G} {cy : Nat → ClassId} {ad : Nat → Nat} {Q : Int → MM → Prop} {J : Nat → List (Nat × Value) → List Value → MM → Prop} (hin : jIn ad ksR.length)   (hJ : jOk l D vwCl (tyR cy) cy ad ftR ksR (XtR ad) Om RX12 cX12_typeLook 6 1 ({ frames := 1, cells := 0, slots := 0, locals := 21 } : Room) Q J) {K66 : Int → Int → Int → Int → Int → MM → Prop} (hK66 : ∀ (x1 x2 x3 x4 x5 : Int) (M : MM), ri_ x1 → ri_ x2 → ri_ x3 → ri_ x4 → ri_ x5 → K66 x1 x2 x3 x4 x5 M → J 66 [(0, .ref (ad 0)), (1, .int (Ii x1)), (2, .int (Ii x2)), (3, .int (Ii x3)), (4, .int (Ii x4)), (5, .int (Ii x5))] [] M) : ∀ (x1 x2 x3 x5 s0 : Int) (M : MM), ri_ x1 → ri_ x2 → ri_ x3 → ri_ x5 → ri_ s0 → w_X12_typeLook_b102  Q K66 x1 x2 x3 x5 s0 M → J 102 [(0, .ref (ad 0)), (1, .int (Ii x1)), (2, .int (Ii x2)), (3, .int (Ii x3)), (5, .int (Ii x5))] [.int (Ii s0)] M := by
  intro x1 x2 x3 x5 s0 M gx1 gx2 gx3 gx5 gs0 hF
  unfold w_X12_typeLook_b102 at hF
  refine j_iconst hJ dX12_typeLook_102 ?_
  exact j_sub hJ [0, 1, 2, 3, 4] rfl (k_X12_typeLook_b103 hin  hJ hK66 x1 x2 x3 x5 0 s0 _ gx1 gx2 gx3 gx5 rk_0 gs0 hF)
set_option maxHeartbeats 4000000 in
set_option maxRecDepth 100000 in
theorem k_X12_typeLook_b66 {l : Launch} {D : va_G} {cy : Nat → ClassId} {ad : Nat → Nat} {Q : Int → MM → Prop} {J : Nat → List (Nat × Value) → List Value → MM → Prop} (hin : jIn ad ksR.length)   (hJ : jOk l D vwCl (tyR cy) cy ad ftR ksR (XtR ad) Om RX12 cX12_typeLook 6 1 ({ frames := 1, cells := 0, slots := 0, locals := 21 } : Room) Q J)  : ∀ (x1 x2 x3 x4 x5 : Int) (M : MM), ri_ x1 → ri_ x2 → ri_ x3 → ri_ x4 → ri_ x5 → w_X12_typeLook_b66  Q  x1 x2 x3 x4 x5 M → J 66 [(0, .ref (ad 0)), (1, .int (Ii x1)), (2, .int (Ii x2)), (3, .int (Ii x3)), (4, .int (Ii x4)), (5, .int (Ii x5))] [] M := by
  have H9 : ∀ (n : Nat) (x1 x2 x3 x4 x5 : Int) (M : MM), ri_ x1 → ri_ x2 → ri_ x3 → ri_ x4 → ri_ x5 → jit (fun _ _ _ _ _ _ => False) (wb_X12_typeLook_b66  Q ) n x1 x2 x3 x4 x5 M → J 66 [(0, .ref (ad 0)), (1, .int (Ii x1)), (2, .int (Ii x2)), (3, .int (Ii x3)), (4, .int (Ii x4)), (5, .int (Ii x5))] [] M := by
    intro n
    induction n with
    | zero => intro x1 x2 x3 x4 x5 M gx1 gx2 gx3 gx4 gx5 hF; exact False.elim hF
    | succ n ih =>
    intro x1 x2 x3 x4 x5 M gx1 gx2 gx3 gx4 gx5 hF
    have hF : wb_X12_typeLook_b66  Q  (jit (fun _ _ _ _ _ _ => False) (wb_X12_typeLook_b66  Q ) n) x1 x2 x3 x4 x5 M := hF
    unfold wb_X12_typeLook_b66 at hF
    refine j_iload hJ dX12_typeLook_66 5 rfl ?_
    refine j_aload_n hJ dX12_typeLook_68 rfl 0 rfl ?_
    refine j_gi hJ kR_0 fR_15_26 rfl fl_X12_435 dX12_typeLook_69 (fun v1 ev1 gv1 => ?_)
    have hF := hF v1 ev1 gv1
    refine j_icmp_ge hJ 112 gx5 gv1 dX12_typeLook_72 (by decide) (fun z2 => ?_) (fun z2 => ?_)
    · have hF := hF.1 z2
      refine j_iload_n hJ dX12_typeLook_112 rfl 2 rfl ?_
      by_cases z3 : x2 = 0
      · refine j_tabIn hJ 47 160 gx2 dX12_typeLook_113 (by omega) (by omega) (by rw [z3]; decide) (by decide) ?_
        have hF := hF.1 z3
        refine j_aload_n hJ dX12_typeLook_160 rfl 0 rfl ?_
        refine j_gr (e := 8) hJ kR_0 fR_15_9 fl_X12_91 dX12_typeLook_161 rfl ?_
        refine j_iload_n hJ dX12_typeLook_164 rfl 1 rfl ?_
        refine j_iald hJ gx1 kR_8 hF.1 hF.2.1 dX12_typeLook_165 (fun v4 ev4 gv4 => ?_)
        have hF := hF.2.2 v4 ev4 gv4
        exact j_iret hJ rfl gv4 dX12_typeLook_166 hF
      by_cases z5 : x2 = 1
      · refine j_tabIn hJ 54 167 gx2 dX12_typeLook_113 (by omega) (by omega) (by rw [z5]; decide) (by decide) ?_
        have hF := hF.2.1 z5
        refine j_aload_n hJ dX12_typeLook_167 rfl 0 rfl ?_
        refine j_gr (e := 7) hJ kR_0 fR_15_8 fl_X12_87 dX12_typeLook_168 rfl ?_
        refine j_iload_n hJ dX12_typeLook_171 rfl 1 rfl ?_
        refine j_iald hJ gx1 kR_7 hF.1 hF.2.1 dX12_typeLook_172 (fun v6 ev6 gv6 => ?_)
        have hF := hF.2.2 v6 ev6 gv6
        exact j_iret hJ rfl gv6 dX12_typeLook_173 hF
      by_cases z7 : x2 = 2
      · refine j_tabIn hJ 61 174 gx2 dX12_typeLook_113 (by omega) (by omega) (by rw [z7]; decide) (by decide) ?_
        have hF := hF.2.2.1 z7
        refine j_aload_n hJ dX12_typeLook_174 rfl 0 rfl ?_
        refine j_gr (e := 9) hJ kR_0 fR_15_10 fl_X12_94 dX12_typeLook_175 rfl ?_
        refine j_iload_n hJ dX12_typeLook_178 rfl 1 rfl ?_
        refine j_iald hJ gx1 kR_9 hF.1 hF.2.1 dX12_typeLook_179 (fun v8 ev8 gv8 => ?_)
        have hF := hF.2.2 v8 ev8 gv8
        exact j_iret hJ rfl gv8 dX12_typeLook_180 hF
      by_cases z9 : x2 = 3
      · refine j_tabIn hJ 68 181 gx2 dX12_typeLook_113 (by omega) (by omega) (by rw [z9]; decide) (by decide) ?_
        have hF := hF.2.2.2.1 z9
        refine j_aload_n hJ dX12_typeLook_181 rfl 0 rfl ?_
        refine j_gr (e := 10) hJ kR_0 fR_15_11 fl_X12_97 dX12_typeLook_182 rfl ?_
        refine j_iload_n hJ dX12_typeLook_185 rfl 1 rfl ?_
        refine j_iald hJ gx1 kR_10 hF.1 hF.2.1 dX12_typeLook_186 (fun v10 ev10 gv10 => ?_)
        have hF := hF.2.2 v10 ev10 gv10
        exact j_iret hJ rfl gv10 dX12_typeLook_187 hF
      by_cases z11 : x2 = 4
      · refine j_tabIn hJ 75 188 gx2 dX12_typeLook_113 (by omega) (by omega) (by rw [z11]; decide) (by decide) ?_
        have hF := hF.2.2.2.2.1 z11
        refine j_aload_n hJ dX12_typeLook_188 rfl 0 rfl ?_
        refine j_iload_n hJ dX12_typeLook_189 rfl 1 rfl ?_
        refine j_callVi hJ (c_X12_sizeOf (l := l) (D := D) (cy := cy) (ad := ad) hin) rfl om_1073 ⟨rfl, rfl, Nat.le_of_ble_eq_true rfl, Nat.le_of_ble_eq_true rfl⟩ [.int (Ii x1)] mv_X12_438 hd_X12_sizeOfv kR_0 rfl rfl rfl (Nat.le_of_ble_eq_true rfl) dX12_typeLook_190 ⟨x1, rfl, gx1, hF⟩ (fun r12 M13 gr12 qM13 => ?_)
        have hF := qM13 gr12
        exact j_iret hJ rfl gr12 dX12_typeLook_193 hF
      by_cases z14 : x2 = 5
      · refine j_tabIn hJ 81 194 gx2 dX12_typeLook_113 (by omega) (by omega) (by rw [z14]; decide) (by decide) ?_
        have hF := hF.2.2.2.2.2.1 z14
        refine j_aload_n hJ dX12_typeLook_194 rfl 0 rfl ?_
        refine j_gr (e := 16) hJ kR_0 fR_15_17 fl_X12_115 dX12_typeLook_195 rfl ?_
        refine j_iload_n hJ dX12_typeLook_198 rfl 1 rfl ?_
        refine j_zald hJ gx1 kR_16 hF.1 hF.2.1 dX12_typeLook_199 (fun v15 ev15 gv15 => ?_)
        have hF := hF.2.2 v15 ev15 gv15
        refine j_if_eq hJ 207 (jz_ri gv15) dX12_typeLook_200 (by decide) (fun z16 => ?_) (fun z16 => ?_)
        · have hF := hF.1 z16
          refine j_iconst hJ dX12_typeLook_207 ?_
          exact j_iret hJ rfl rk_0 dX12_typeLook_208 hF
        · have hF := hF.2 z16
          refine j_iconst hJ dX12_typeLook_203 ?_
          refine j_goto hJ 208 dX12_typeLook_204 (by decide) ?_
          exact j_iret hJ rfl rk_1 dX12_typeLook_208 hF
      by_cases z17 : x2 = 6
      · refine j_tabIn hJ 96 209 gx2 dX12_typeLook_113 (by omega) (by omega) (by rw [z17]; decide) (by decide) ?_
        have hF := hF.2.2.2.2.2.2.1 z17
        refine j_iload_n hJ dX12_typeLook_209 rfl 3 rfl ?_
        exact j_iret hJ rfl gx3 dX12_typeLook_210 hF
      by_cases z18 : x2 = 7
      · refine j_tabIn hJ 98 211 gx2 dX12_typeLook_113 (by omega) (by omega) (by rw [z18]; decide) (by decide) ?_
        have hF := hF.2.2.2.2.2.2.2.1 z18
        refine j_iload hJ dX12_typeLook_211 4 rfl ?_
        exact j_iret hJ rfl gx4 dX12_typeLook_213 hF
      have z19 : ¬ x2 = 0 ∧ ¬ x2 = 1 ∧ ¬ x2 = 2 ∧ ¬ x2 = 3 ∧ ¬ x2 = 4 ∧ ¬ x2 = 5 ∧ ¬ x2 = 6 ∧ ¬ x2 = 7 := ⟨z3, z5, z7, z9, z11, z14, z17, z18⟩
      have hF := hF.2.2.2.2.2.2.2.2 z19
      refine j_tabOut hJ 214 gx2 dX12_typeLook_113 (by omega) (by decide) ?_
      refine j_iconst hJ dX12_typeLook_214 ?_
      exact j_iret hJ rfl rk_m1 dX12_typeLook_215 hF
    · have hF := hF.2 z2
      refine j_iload hJ dX12_typeLook_75 4 rfl ?_
      refine j_aload_n hJ dX12_typeLook_77 rfl 0 rfl ?_
      refine j_gr (e := 22) hJ kR_0 fR_15_24 fl_X12_134 dX12_typeLook_78 rfl ?_
      refine j_iload hJ dX12_typeLook_81 5 rfl ?_
      refine j_zald hJ gx5 kR_22 hF.1 hF.2.1 dX12_typeLook_83 (fun v20 ev20 gv20 => ?_)
      have hF := hF.2.2 v20 ev20 gv20
      refine j_if_eq hJ 102 (jz_ri gv20) dX12_typeLook_84 (by decide) (fun z21 => ?_) (fun z21 => ?_)
      · have hF := hF.1 z21
        exact j_sub hJ [0, 1, 2, 3, 5] rfl (k_X12_typeLook_b102 hin  hJ ih x1 x2 x3 x5 x4 _ gx1 gx2 gx3 gx5 gx4 hF)
      · have hF := hF.2 z21
        refine j_aload_n hJ dX12_typeLook_87 rfl 0 rfl ?_
        refine j_gr (e := 19) hJ kR_0 fR_15_21 fl_X12_125 dX12_typeLook_88 rfl ?_
        refine j_iload hJ dX12_typeLook_91 5 rfl ?_
        refine j_iald hJ gx5 kR_19 hF.1 hF.2.1 dX12_typeLook_93 (fun v22 ev22 gv22 => ?_)
        have hF := hF.2.2 v22 ev22 gv22
        refine j_iload_n hJ dX12_typeLook_94 rfl 1 rfl ?_
        refine j_icmp_ne hJ 102 gv22 gx1 dX12_typeLook_95 (by decide) (fun z23 => ?_) (fun z23 => ?_)
        · have hF := hF.1 z23
          exact j_sub hJ [0, 1, 2, 3, 5] rfl (k_X12_typeLook_b102 hin  hJ ih x1 x2 x3 x5 x4 _ gx1 gx2 gx3 gx5 gx4 hF)
        · have hF := hF.2 z23
          refine j_iconst hJ dX12_typeLook_98 ?_
          refine j_goto hJ 103 dX12_typeLook_99 (by decide) ?_
          exact j_sub hJ [0, 1, 2, 3, 5] rfl (k_X12_typeLook_b103 hin  hJ ih x1 x2 x3 x5 1 x4 _ gx1 gx2 gx3 gx5 rk_1 gx4 hF)
  intro x1 x2 x3 x4 x5 M gx1 gx2 gx3 gx4 gx5 hF
  obtain ⟨n, hF⟩ := hF
  exact H9 n x1 x2 x3 x4 x5 M gx1 gx2 gx3 gx4 gx5 hF
set_option maxHeartbeats 4000000 in
set_option maxRecDepth 100000 in
theorem k_X12_typeLook_b55 {l : Launch} {D : va_G} {cy : Nat → ClassId} {ad : Nat → Nat} {Q : Int → MM → Prop} {J : Nat → List (Nat × Value) → List Value → MM → Prop} (hin : jIn ad ksR.length)   (hJ : jOk l D vwCl (tyR cy) cy ad ftR ksR (XtR ad) Om RX12 cX12_typeLook 6 1 ({ frames := 1, cells := 0, slots := 0, locals := 21 } : Room) Q J) {K23 : Int → Int → Int → Int → Int → MM → Prop} (hK23 : ∀ (x1 x2 x3 x4 x5 : Int) (M : MM), ri_ x1 → ri_ x2 → ri_ x3 → ri_ x4 → ri_ x5 → K23 x1 x2 x3 x4 x5 M → J 23 [(0, .ref (ad 0)), (1, .int (Ii x1)), (2, .int (Ii x2)), (3, .int (Ii x3)), (4, .int (Ii x4)), (5, .int (Ii x5))] [] M) : ∀ (x1 x2 x4 x5 s0 s1 : Int) (M : MM), ri_ x1 → ri_ x2 → ri_ x4 → ri_ x5 → ri_ s0 → ri_ s1 → w_X12_typeLook_b55  Q K23 x1 x2 x4 x5 s0 s1 M → J 55 [(0, .ref (ad 0)), (1, .int (Ii x1)), (2, .int (Ii x2)), (4, .int (Ii x4)), (5, .int (Ii x5))] [.int (Ii s0), .int (Ii s1)] M := by
  intro x1 x2 x4 x5 s0 s1 M gx1 gx2 gx4 gx5 gs0 gs1 hF
  unfold w_X12_typeLook_b55 at hF
  refine j_iadd hJ dX12_typeLook_55 ?_
  have g1 := hF.1; have hF := hF.2
  refine j_istore_n (lv' := [(3, .int (Ii (s1 + s0))), (0, .ref (ad 0)), (1, .int (Ii x1)), (2, .int (Ii x2)), (4, .int (Ii x4)), (5, .int (Ii x5))]) hJ dX12_typeLook_56 rfl (by decide) rfl ?_
  refine j_iinc (lv' := [(5, .int (Ii (x5 + 1))), (3, .int (Ii (s1 + s0))), (0, .ref (ad 0)), (1, .int (Ii x1)), (2, .int (Ii x2)), (4, .int (Ii x4))]) (k := 5) hJ dX12_typeLook_57 rfl (by decide) rfl ?_
  have g2 := hF.1; have hF := hF.2
  refine j_goto hJ 23 dX12_typeLook_60 (by decide) ?_
  exact j_sub hJ [2, 3, 4, 1, 5, 0] rfl (hK23 x1 x2 (s1 + s0) x4 (x5 + 1) _ gx1 gx2 g1 gx4 g2 hF)
set_option maxHeartbeats 4000000 in
set_option maxRecDepth 100000 in
theorem k_X12_typeLook_b23 {l : Launch} {D : va_G} {cy : Nat → ClassId} {ad : Nat → Nat} {Q : Int → MM → Prop} {J : Nat → List (Nat × Value) → List Value → MM → Prop} (hin : jIn ad ksR.length)   (hJ : jOk l D vwCl (tyR cy) cy ad ftR ksR (XtR ad) Om RX12 cX12_typeLook 6 1 ({ frames := 1, cells := 0, slots := 0, locals := 21 } : Room) Q J)  : ∀ (x1 x2 x3 x4 x5 : Int) (M : MM), ri_ x1 → ri_ x2 → ri_ x3 → ri_ x4 → ri_ x5 → w_X12_typeLook_b23  Q  x1 x2 x3 x4 x5 M → J 23 [(0, .ref (ad 0)), (1, .int (Ii x1)), (2, .int (Ii x2)), (3, .int (Ii x3)), (4, .int (Ii x4)), (5, .int (Ii x5))] [] M := by
  have H9 : ∀ (n : Nat) (x1 x2 x3 x4 x5 : Int) (M : MM), ri_ x1 → ri_ x2 → ri_ x3 → ri_ x4 → ri_ x5 → jit (fun _ _ _ _ _ _ => False) (wb_X12_typeLook_b23  Q ) n x1 x2 x3 x4 x5 M → J 23 [(0, .ref (ad 0)), (1, .int (Ii x1)), (2, .int (Ii x2)), (3, .int (Ii x3)), (4, .int (Ii x4)), (5, .int (Ii x5))] [] M := by
    intro n
    induction n with
    | zero => intro x1 x2 x3 x4 x5 M gx1 gx2 gx3 gx4 gx5 hF; exact False.elim hF
    | succ n ih =>
    intro x1 x2 x3 x4 x5 M gx1 gx2 gx3 gx4 gx5 hF
    have hF : wb_X12_typeLook_b23  Q  (jit (fun _ _ _ _ _ _ => False) (wb_X12_typeLook_b23  Q ) n) x1 x2 x3 x4 x5 M := hF
    unfold wb_X12_typeLook_b23 at hF
    refine j_iload hJ dX12_typeLook_23 5 rfl ?_
    refine j_aload_n hJ dX12_typeLook_25 rfl 0 rfl ?_
    refine j_gr (e := 9) hJ kR_0 fR_15_10 fl_X12_94 dX12_typeLook_26 rfl ?_
    refine j_iload_n hJ dX12_typeLook_29 rfl 1 rfl ?_
    refine j_iald hJ gx1 kR_9 hF.1 hF.2.1 dX12_typeLook_30 (fun v1 ev1 gv1 => ?_)
    have hF := hF.2.2 v1 ev1 gv1
    refine j_icmp_ge hJ 63 gx5 gv1 dX12_typeLook_31 (by decide) (fun z2 => ?_) (fun z2 => ?_)
    · have hF := hF.1 z2
      refine j_iconst hJ dX12_typeLook_63 ?_
      refine j_istore (lv' := [(5, .int (Ii 0)), (0, .ref (ad 0)), (1, .int (Ii x1)), (2, .int (Ii x2)), (3, .int (Ii x3)), (4, .int (Ii x4))]) hJ dX12_typeLook_64 (by decide) rfl ?_
      exact j_sub hJ [1, 2, 3, 4, 5, 0] rfl (k_X12_typeLook_b66 hin  hJ  x1 x2 x3 x4 0 _ gx1 gx2 gx3 gx4 rk_0 hF)
    · have hF := hF.2 z2
      refine j_iload_n hJ dX12_typeLook_34 rfl 3 rfl ?_
      refine j_aload_n hJ dX12_typeLook_35 rfl 0 rfl ?_
      refine j_gr (e := 17) hJ kR_0 fR_15_18 fl_X12_119 dX12_typeLook_36 rfl ?_
      refine j_bipush hJ dX12_typeLook_39 (by decide) ?_
      refine j_iload_n hJ dX12_typeLook_41 rfl 1 rfl ?_
      refine j_imul hJ dX12_typeLook_42 ?_
      have g3 := hF.1; have hF := hF.2
      refine j_iload hJ dX12_typeLook_43 5 rfl ?_
      refine j_iadd hJ dX12_typeLook_45 ?_
      have g4 := hF.1; have hF := hF.2
      refine j_zald hJ g4 kR_17 hF.1 hF.2.1 dX12_typeLook_46 (fun v5 ev5 gv5 => ?_)
      have hF := hF.2.2 v5 ev5 gv5
      refine j_if_eq hJ 54 (jz_ri gv5) dX12_typeLook_47 (by decide) (fun z6 => ?_) (fun z6 => ?_)
      · have hF := hF.1 z6
        refine j_iconst hJ dX12_typeLook_54 ?_
        exact j_sub hJ [0, 1, 2, 4, 5] rfl (k_X12_typeLook_b55 hin  hJ ih x1 x2 x4 x5 0 x3 _ gx1 gx2 gx4 gx5 rk_0 gx3 hF)
      · have hF := hF.2 z6
        refine j_iconst hJ dX12_typeLook_50 ?_
        refine j_goto hJ 55 dX12_typeLook_51 (by decide) ?_
        exact j_sub hJ [0, 1, 2, 4, 5] rfl (k_X12_typeLook_b55 hin  hJ ih x1 x2 x4 x5 1 x3 _ gx1 gx2 gx4 gx5 rk_1 gx3 hF)
  intro x1 x2 x3 x4 x5 M gx1 gx2 gx3 gx4 gx5 hF
  obtain ⟨n, hF⟩ := hF
  exact H9 n x1 x2 x3 x4 x5 M gx1 gx2 gx3 gx4 gx5 hF
set_option maxHeartbeats 4000000 in
set_option maxRecDepth 100000 in
theorem c_X12_typeLook {l : Launch} {D : va_G} {cy : Nat → ClassId} {ad : Nat → Nat} (hin : jIn ad ksR.length) : jCN l D vwCl (tyR cy) cy ad ftR ksR (XtR ad) yX12_typeLook (.code yX12_typeLook cX12_typeLook 6 (some .int) :: Om) ({ frames := 1, cells := 0, slots := 0, locals := 21 } : Room) 1 (W_X12_typeLook ad) := by
  refine jCN_of (y := yX12_typeLook) (cc := cX12_typeLook) (nL := 6) (rk := 1) (rm := ({ frames := 1, cells := 0, slots := 0, locals := 21 } : Room)) (own := RX12) (tyR_ok cy) hin (XtR_ok ad) Om_good (by decide) rfl ?_
  intro Q av M hF
  obtain ⟨p1, p2, rfl, gp1, gp2, hF⟩ := hF
  refine ⟨Nat.le_of_ble_eq_true rfl, fun J hJ => ?_⟩
  show J 0 [(0, .ref (ad 0)), (1, .int (Ii p1)), (2, .int (Ii p2))] [] M
  unfold w_X12_typeLook at hF
  refine j_aload_n hJ dX12_typeLook_0 rfl 0 rfl ?_
  refine j_iconst hJ dX12_typeLook_1 ?_
  refine j_pi hJ rk_0 kR_0 fR_15_0 rfl fp_X12_388 dX12_typeLook_2 (fun M1 eM1 => ?_)
  have hF := hF M1 eM1
  refine j_aload_n hJ dX12_typeLook_5 rfl 0 rfl ?_
  refine j_iload_n hJ dX12_typeLook_6 rfl 1 rfl ?_
  refine j_callVz hJ (c_X12_isClass (l := l) (D := D) (cy := cy) (ad := ad) hin) rfl om_1064 ⟨rfl, rfl, Nat.le_of_ble_eq_true rfl, Nat.le_of_ble_eq_true rfl⟩ [.int (Ii p1)] mv_X12_416 hd_X12_isClassv kR_0 rfl rfl rfl (Nat.le_of_ble_eq_true rfl) dX12_typeLook_7 ⟨p1, rfl, gp1, hF⟩ (fun r2 M3 gr2 qM3 => ?_)
  have hF := qM3 gr2
  refine j_if_ne hJ 15 (jz_ri gr2) dX12_typeLook_10 (by decide) (fun z4 => ?_) (fun z4 => ?_)
  · have hF := hF.1 z4
    refine j_iconst hJ dX12_typeLook_15 ?_
    refine j_istore_n (lv' := [(3, .int (Ii 0)), (0, .ref (ad 0)), (1, .int (Ii p1)), (2, .int (Ii p2))]) hJ dX12_typeLook_16 rfl (by decide) rfl ?_
    refine j_iconst hJ dX12_typeLook_17 ?_
    refine j_istore (lv' := [(4, .int (Ii 0)), (3, .int (Ii 0)), (0, .ref (ad 0)), (1, .int (Ii p1)), (2, .int (Ii p2))]) hJ dX12_typeLook_18 (by decide) rfl ?_
    refine j_iconst hJ dX12_typeLook_20 ?_
    refine j_istore (lv' := [(5, .int (Ii 0)), (4, .int (Ii 0)), (3, .int (Ii 0)), (0, .ref (ad 0)), (1, .int (Ii p1)), (2, .int (Ii p2))]) hJ dX12_typeLook_21 (by decide) rfl ?_
    exact j_sub hJ [3, 4, 5, 2, 1, 0] rfl (k_X12_typeLook_b23 hin  hJ  p1 p2 0 0 0 _ gp1 gp2 rk_0 rk_0 rk_0 hF)
  · have hF := hF.2 z4
    refine j_iconst hJ dX12_typeLook_13 ?_
    exact j_iret hJ rfl rk_m1 dX12_typeLook_14 hF
