def W_X5_meetRoot (ad : Nat → Nat) (Q : Int → MM → Prop) (av : List Value) (M : MM) : Prop := ∃ (c : Nat) (p2 : Int) (p3 : Int), av = [.ref (ad c), .ref (ad 26), .long (Ll p2), .int (Ii p3)] ∧ isP c ∧ rl_ p2 ∧ ri_ p3 ∧ w_X5_meetRoot c Q p2 p3 M
set_option maxHeartbeats 4000000 in
set_option maxRecDepth 100000 in
theorem c_X5_meetRoot {l : Launch} {D : va_G} {cy : Nat → ClassId} {ad : Nat → Nat} (hin : jIn ad ksC.length) : jCN l D vwCl (tyC cy) cy ad ftC ksC (XtC ad) yX5_meetRoot (.code yX5_meetRoot cX5_meetRoot 5 none :: Om) ({ frames := 4, cells := 0, slots := 0, locals := 88 } : Room) 0 (W_X5_meetRoot ad) := by
  refine jCN_of (y := yX5_meetRoot) (cc := cX5_meetRoot) (nL := 5) (rk := 0) (rm := ({ frames := 4, cells := 0, slots := 0, locals := 88 } : Room)) (own := RX5) (tyC_ok cy) hin (XtC_ok ad) Om_good (by decide) rfl ?_
  intro Q av M hF
  obtain ⟨c, p2, p3, rfl, hc, gp2, gp3, hF⟩ := hF
  refine ⟨Nat.le_of_ble_eq_true rfl, fun J hJ => ?_⟩
  show J 0 [(0, .ref (ad c)), (1, .ref (ad 26)), (2, .long (Ll p2)), (4, .int (Ii p3))] [] M
  unfold w_X5_meetRoot at hF
  refine j_lload_n hJ dX5_meetRoot_0 rfl 2 rfl ?_
  refine j_ldc2 hJ (-1) om_442 (by decide) dX5_meetRoot_1 ?_
  refine j_lcmp_eq hJ 24 gp2 lk_m1 dX5_meetRoot_4 dX5_meetRoot_5 (by decide) (fun z1 => ?_) (fun z1 => ?_)
  · have hF := hF.1 z1
    exact j_vret hJ rfl dX5_meetRoot_24 hF
  · have hF := hF.2 z1
    refine j_aload_n hJ dX5_meetRoot_8 rfl 0 rfl ?_
    refine j_iload hJ dX5_meetRoot_9 3 rfl ?_
    refine j_aload_n hJ dX5_meetRoot_11 rfl 0 rfl ?_
    refine j_aload_n hJ dX5_meetRoot_12 rfl 1 rfl ?_
    refine j_lload_n hJ dX5_meetRoot_13 rfl 2 rfl ?_
    refine j_l2i hJ dX5_meetRoot_14 ?_
    have g2 := hF.1; have hF := hF.2
    refine j_iconst hJ dX5_meetRoot_15 ?_
    refine j_iload hJ dX5_meetRoot_16 3 rfl ?_
    refine j_callVi hJ (c_X5_meet (l := l) (D := D) (cy := cy) (ad := ad) hin) rfl om_445 ⟨rfl, rfl, Nat.le_of_ble_eq_true rfl, Nat.le_of_ble_eq_true rfl⟩ [.ref (ad 26), .int (Ii p2), .int (Ii (-1)), .int (Ii p3)] mv_X5_130 hd_X5_meetv (kP_0 hc) rfl rfl rfl (Nat.le_of_ble_eq_true rfl) dX5_meetRoot_18 ⟨c, p2, (-1), p3, rfl, hc, g2, rk_m1, gp3, hF⟩ (fun r3 M4 gr3 qM4 => ?_)
    have hF := qM4 gr3
    refine j_callVv hJ (c_X5_addRoot (l := l) (D := D) (cy := cy) (ad := ad) hin) rfl om_97 ⟨rfl, rfl, Nat.le_of_ble_eq_true rfl, Nat.le_of_ble_eq_true rfl⟩ [.int (Ii p3), .int (Ii r3)] mv_X5_134 hd_X5_addRootv (kP_0 hc) rfl rfl rfl (Nat.le_of_ble_eq_true rfl) dX5_meetRoot_21 ⟨c, p3, r3, rfl, hc, gp3, gr3, hF⟩ (fun M6 qM6 => ?_)
    have hF := qM6
    exact j_vret hJ rfl dX5_meetRoot_24 hF
def W_X5_takeFrom (ad : Nat → Nat) (Q : Int → MM → Prop) (av : List Value) (M : MM) : Prop := ∃ (c : Nat), av = [.ref (ad c), .ref (ad 26)] ∧ isP c ∧ w_X5_takeFrom c Q  M
set_option maxHeartbeats 4000000 in
set_option maxRecDepth 100000 in
theorem k_X5_takeFrom_b85 {l : Launch} {D : va_G} {cy : Nat → ClassId} {ad : Nat → Nat} {Q : Int → MM → Prop} {J : Nat → List (Nat × Value) → List Value → MM → Prop} (hin : jIn ad ksC.length) {c : Nat} (hc : isP c) (hJ : jOk l D vwCl (tyC cy) cy ad ftC ksC (XtC ad) Om RX5 cX5_takeFrom 4 0 ({ frames := 5, cells := 0, slots := 0, locals := 116 } : Room) Q J)  : ∀ (x3 : Int) (M : MM), ri_ x3 → w_X5_takeFrom_b85 c Q  x3 M → J 85 [(0, .ref (ad c)), (1, .ref (ad 26)), (3, .int (Ii x3))] [] M := by
  have H9 : ∀ (n : Nat) (x3 : Int) (M : MM), ri_ x3 → jit (fun _ _ => False) (wb_X5_takeFrom_b85 c Q ) n x3 M → J 85 [(0, .ref (ad c)), (1, .ref (ad 26)), (3, .int (Ii x3))] [] M := by
    intro n
    induction n with
    | zero => intro x3 M gx3 hF; exact False.elim hF
    | succ n ih =>
    intro x3 M gx3 hF
    have hF : wb_X5_takeFrom_b85 c Q  (jit (fun _ _ => False) (wb_X5_takeFrom_b85 c Q ) n) x3 M := hF
    unfold wb_X5_takeFrom_b85 at hF
    refine j_iload_n hJ dX5_takeFrom_85 rfl 2 rfl ?_
    refine j_aload_n hJ dX5_takeFrom_86 rfl 0 rfl ?_
    refine j_gi hJ (kP_0 hc) fC_8_0 rfl fl_X5_82 dX5_takeFrom_87 (fun v1 ev1 gv1 => ?_)
    have hF := hF v1 ev1 gv1
    refine j_icmp_ge hJ 112 gx3 gv1 dX5_takeFrom_90 (by decide) (fun z2 => ?_) (fun z2 => ?_)
    · have hF := hF.1 z2
      exact j_vret hJ rfl dX5_takeFrom_112 hF
    · have hF := hF.2 z2
      refine j_iload_n hJ dX5_takeFrom_93 rfl 2 rfl ?_
      refine j_sipush hJ dX5_takeFrom_94 (by decide) ?_
      refine j_icmp_ge hJ 112 gx3 rk_400 dX5_takeFrom_97 (by decide) (fun z3 => ?_) (fun z3 => ?_)
      · have hF := hF.1 z3
        exact j_vret hJ rfl dX5_takeFrom_112 hF
      · have hF := hF.2 z3
        refine j_aload_n hJ dX5_takeFrom_100 rfl 0 rfl ?_
        refine j_aload_n hJ dX5_takeFrom_101 rfl 1 rfl ?_
        refine j_iload_n hJ dX5_takeFrom_102 rfl 2 rfl ?_
        refine j_callVv hJ (c_X5_takeSlots (l := l) (D := D) (cy := cy) (ad := ad) hin) rfl om_449 ⟨rfl, rfl, Nat.le_of_ble_eq_true rfl, Nat.le_of_ble_eq_true rfl⟩ [.ref (ad 26), .int (Ii x3)] mv_X5_124 hd_X5_takeSlotsv (kP_0 hc) rfl rfl rfl (Nat.le_of_ble_eq_true rfl) dX5_takeFrom_103 ⟨c, x3, rfl, hc, gx3, hF⟩ (fun M5 qM5 => ?_)
        have hF := qM5
        refine j_iinc (lv' := [(3, .int (Ii (x3 + 1))), (0, .ref (ad c)), (1, .ref (ad 26))]) (k := 2) hJ dX5_takeFrom_106 rfl (by decide) rfl ?_
        have g6 := hF.1; have hF := hF.2
        refine j_goto hJ 85 dX5_takeFrom_109 (by decide) ?_
        exact j_sub hJ [1, 2, 0] rfl (ih (x3 + 1) _ g6 hF)
  intro x3 M gx3 hF
  obtain ⟨n, hF⟩ := hF
  exact H9 n x3 M gx3 hF
set_option maxHeartbeats 4000000 in
set_option maxRecDepth 100000 in
theorem k_X5_takeFrom_b77 {l : Launch} {D : va_G} {cy : Nat → ClassId} {ad : Nat → Nat} {Q : Int → MM → Prop} {J : Nat → List (Nat × Value) → List Value → MM → Prop} (hin : jIn ad ksC.length) {c : Nat} (hc : isP c) (hJ : jOk l D vwCl (tyC cy) cy ad ftC ksC (XtC ad) Om RX5 cX5_takeFrom 4 0 ({ frames := 5, cells := 0, slots := 0, locals := 116 } : Room) Q J) {K40 : Int → Int → MM → Prop} (hK40 : ∀ (x2 x3 : Int) (M : MM), ri_ x2 → ri_ x3 → K40 x2 x3 M → J 40 [(0, .ref (ad c)), (1, .ref (ad 26)), (2, .int (Ii x2)), (3, .int (Ii x3))] [] M) : ∀ (x2 x3 : Int) (M : MM), ri_ x2 → ri_ x3 → w_X5_takeFrom_b77 c Q K40 x2 x3 M → J 77 [(0, .ref (ad c)), (1, .ref (ad 26)), (2, .int (Ii x2)), (3, .int (Ii x3))] [] M := by
  intro x2 x3 M gx2 gx3 hF
  unfold w_X5_takeFrom_b77 at hF
  refine j_iinc (lv' := [(3, .int (Ii (x3 + 1))), (0, .ref (ad c)), (1, .ref (ad 26)), (2, .int (Ii x2))]) (k := 3) hJ dX5_takeFrom_77 rfl (by decide) rfl ?_
  have g1 := hF.1; have hF := hF.2
  refine j_goto hJ 40 dX5_takeFrom_80 (by decide) ?_
  exact j_sub hJ [1, 2, 3, 0] rfl (hK40 x2 (x3 + 1) _ gx2 g1 hF)
set_option maxHeartbeats 4000000 in
set_option maxRecDepth 100000 in
theorem k_X5_takeFrom_b40 {l : Launch} {D : va_G} {cy : Nat → ClassId} {ad : Nat → Nat} {Q : Int → MM → Prop} {J : Nat → List (Nat × Value) → List Value → MM → Prop} (hin : jIn ad ksC.length) {c : Nat} (hc : isP c) (hJ : jOk l D vwCl (tyC cy) cy ad ftC ksC (XtC ad) Om RX5 cX5_takeFrom 4 0 ({ frames := 5, cells := 0, slots := 0, locals := 116 } : Room) Q J)  : ∀ (x2 x3 : Int) (M : MM), ri_ x2 → ri_ x3 → w_X5_takeFrom_b40 c Q  x2 x3 M → J 40 [(0, .ref (ad c)), (1, .ref (ad 26)), (2, .int (Ii x2)), (3, .int (Ii x3))] [] M := by
  have H9 : ∀ (n : Nat) (x2 x3 : Int) (M : MM), ri_ x2 → ri_ x3 → jit (fun _ _ _ => False) (wb_X5_takeFrom_b40 c Q ) n x2 x3 M → J 40 [(0, .ref (ad c)), (1, .ref (ad 26)), (2, .int (Ii x2)), (3, .int (Ii x3))] [] M := by
    intro n
    induction n with
    | zero => intro x2 x3 M gx2 gx3 hF; exact False.elim hF
    | succ n ih =>
    intro x2 x3 M gx2 gx3 hF
    have hF : wb_X5_takeFrom_b40 c Q  (jit (fun _ _ _ => False) (wb_X5_takeFrom_b40 c Q ) n) x2 x3 M := hF
    unfold wb_X5_takeFrom_b40 at hF
    refine j_iload_n hJ dX5_takeFrom_40 rfl 3 rfl ?_
    refine j_aload_n hJ dX5_takeFrom_41 rfl 1 rfl ?_
    refine j_ga hJ kC_26 fC_5_0 fl_X5_107 dX5_takeFrom_42 ?_
    refine j_callVi hJ (c_X10_ownFields (l := l) (D := D) (cy := cy) (ad := ad) hin) rfl om_198 ⟨rfl, rfl, Nat.le_of_ble_eq_true rfl, Nat.le_of_ble_eq_true rfl⟩ [] mv_X5_111 hd_X10_ownFieldsv kC_8 rfl rfl rfl (Nat.le_of_ble_eq_true rfl) dX5_takeFrom_45 ⟨rfl, hF⟩ (fun r1 M2 gr1 qM2 => ?_)
    have hF := qM2 gr1
    refine j_icmp_ge hJ 83 gx3 gr1 dX5_takeFrom_48 (by decide) (fun z3 => ?_) (fun z3 => ?_)
    · have hF := hF.1 z3
      refine j_iconst hJ dX5_takeFrom_83 ?_
      refine j_istore_n (lv' := [(3, .int (Ii 0)), (0, .ref (ad c)), (1, .ref (ad 26)), (2, .int (Ii x2))]) hJ dX5_takeFrom_84 rfl (by decide) rfl ?_
      exact j_sub hJ [1, 2, 0] rfl (k_X5_takeFrom_b85 hin hc hJ  0 _ rk_0 hF)
    · have hF := hF.2 z3
      refine j_aload_n hJ dX5_takeFrom_51 rfl 1 rfl ?_
      refine j_ga hJ kC_26 fC_5_0 fl_X5_107 dX5_takeFrom_52 ?_
      refine j_iload_n hJ dX5_takeFrom_55 rfl 3 rfl ?_
      refine j_callVz hJ (c_X10_isLinkStatic (l := l) (D := D) (cy := cy) (ad := ad) hin) rfl om_202 ⟨rfl, rfl, Nat.le_of_ble_eq_true rfl, Nat.le_of_ble_eq_true rfl⟩ [.int (Ii x3)] mv_X5_117 hd_X10_isLinkStaticv kC_8 rfl rfl rfl (Nat.le_of_ble_eq_true rfl) dX5_takeFrom_56 ⟨x3, rfl, gx3, hF⟩ (fun r4 M5 gr4 qM5 => ?_)
      have hF := qM5 gr4
      refine j_if_eq hJ 77 (jz_ri gr4) dX5_takeFrom_59 (by decide) (fun z6 => ?_) (fun z6 => ?_)
      · have hF := hF.1 z6
        exact j_sub hJ [0, 1, 2, 3] rfl (k_X5_takeFrom_b77 hin hc hJ ih x2 x3 _ gx2 gx3 hF)
      · have hF := hF.2 z6
        refine j_aload_n hJ dX5_takeFrom_62 rfl 0 rfl ?_
        refine j_aload_n hJ dX5_takeFrom_63 rfl 1 rfl ?_
        refine j_aload_n hJ dX5_takeFrom_64 rfl 1 rfl ?_
        refine j_gr (e := 32) hJ kC_26 fC_5_9 fl_X5_121 dX5_takeFrom_65 rfl ?_
        refine j_iload_n hJ dX5_takeFrom_68 rfl 3 rfl ?_
        refine j_lald hJ gx3 kC_32 hF.1 hF.2.1 dX5_takeFrom_69 (fun v7 ev7 gv7 => ?_)
        have hF := hF.2.2 v7 ev7 gv7
        refine j_iload_n hJ dX5_takeFrom_70 rfl 2 rfl ?_
        refine j_callVv hJ (c_X5_meetRoot (l := l) (D := D) (cy := cy) (ad := ad) hin) rfl om_455 ⟨rfl, rfl, Nat.le_of_ble_eq_true rfl, Nat.le_of_ble_eq_true rfl⟩ [.ref (ad 26), .long (Ll v7), .int (Ii x2)] mv_X5_103 hd_X5_meetRootv (kP_0 hc) rfl rfl rfl (Nat.le_of_ble_eq_true rfl) dX5_takeFrom_71 ⟨c, v7, x2, rfl, hc, gv7, gx2, hF⟩ (fun M9 qM9 => ?_)
        have hF := qM9
        refine j_iinc (lv' := [(2, .int (Ii (x2 + 1))), (0, .ref (ad c)), (1, .ref (ad 26)), (3, .int (Ii x3))]) (k := 2) hJ dX5_takeFrom_74 rfl (by decide) rfl ?_
        have g10 := hF.1; have hF := hF.2
        exact j_sub hJ [1, 2, 0, 3] rfl (k_X5_takeFrom_b77 hin hc hJ ih (x2 + 1) x3 _ g10 gx3 hF)
  intro x2 x3 M gx2 gx3 hF
  obtain ⟨n, hF⟩ := hF
  exact H9 n x2 x3 M gx2 gx3 hF
set_option maxHeartbeats 4000000 in
set_option maxRecDepth 100000 in
theorem k_X5_takeFrom_b6 {l : Launch} {D : va_G} {cy : Nat → ClassId} {ad : Nat → Nat} {Q : Int → MM → Prop} {J : Nat → List (Nat × Value) → List Value → MM → Prop} (hin : jIn ad ksC.length) {c : Nat} (hc : isP c) (hJ : jOk l D vwCl (tyC cy) cy ad ftC ksC (XtC ad) Om RX5 cX5_takeFrom 4 0 ({ frames := 5, cells := 0, slots := 0, locals := 116 } : Room) Q J)  : ∀ (x2 : Int) (M : MM), ri_ x2 → w_X5_takeFrom_b6 c Q  x2 M → J 6 [(0, .ref (ad c)), (1, .ref (ad 26)), (2, .int (Ii x2))] [] M := by
  have H9 : ∀ (n : Nat) (x2 : Int) (M : MM), ri_ x2 → jit (fun _ _ => False) (wb_X5_takeFrom_b6 c Q ) n x2 M → J 6 [(0, .ref (ad c)), (1, .ref (ad 26)), (2, .int (Ii x2))] [] M := by
    intro n
    induction n with
    | zero => intro x2 M gx2 hF; exact False.elim hF
    | succ n ih =>
    intro x2 M gx2 hF
    have hF : wb_X5_takeFrom_b6 c Q  (jit (fun _ _ => False) (wb_X5_takeFrom_b6 c Q ) n) x2 M := hF
    unfold wb_X5_takeFrom_b6 at hF
    refine j_iload_n hJ dX5_takeFrom_6 rfl 2 rfl ?_
    refine j_aload_n hJ dX5_takeFrom_7 rfl 1 rfl ?_
    refine j_gi hJ kC_26 fC_5_11 rfl fl_X5_98 dX5_takeFrom_8 (fun v1 ev1 gv1 => ?_)
    have hF := hF v1 ev1 gv1
    refine j_icmp_ge hJ 33 gx2 gv1 dX5_takeFrom_11 (by decide) (fun z2 => ?_) (fun z2 => ?_)
    · have hF := hF.1 z2
      refine j_aload_n hJ dX5_takeFrom_33 rfl 1 rfl ?_
      refine j_gi hJ kC_26 fC_5_11 rfl fl_X5_98 dX5_takeFrom_34 (fun v3 ev3 gv3 => ?_)
      have hF := hF v3 ev3 gv3
      refine j_istore_n (lv' := [(2, .int (Ii v3)), (0, .ref (ad c)), (1, .ref (ad 26))]) hJ dX5_takeFrom_37 rfl (by decide) rfl ?_
      refine j_iconst hJ dX5_takeFrom_38 ?_
      refine j_istore_n (lv' := [(3, .int (Ii 0)), (2, .int (Ii v3)), (0, .ref (ad c)), (1, .ref (ad 26))]) hJ dX5_takeFrom_39 rfl (by decide) rfl ?_
      exact j_sub hJ [2, 3, 1, 0] rfl (k_X5_takeFrom_b40 hin hc hJ  v3 0 _ gv3 rk_0 hF)
    · have hF := hF.2 z2
      refine j_aload_n hJ dX5_takeFrom_14 rfl 0 rfl ?_
      refine j_aload_n hJ dX5_takeFrom_15 rfl 1 rfl ?_
      refine j_aload_n hJ dX5_takeFrom_16 rfl 1 rfl ?_
      refine j_gr (e := 33) hJ kC_26 fC_5_10 fl_X5_101 dX5_takeFrom_17 rfl ?_
      refine j_iload_n hJ dX5_takeFrom_20 rfl 2 rfl ?_
      refine j_iald hJ gx2 kC_33 hF.1 hF.2.1 dX5_takeFrom_21 (fun v4 ev4 gv4 => ?_)
      have hF := hF.2.2 v4 ev4 gv4
      refine j_i2l hJ gv4 dX5_takeFrom_22 ?_
      refine j_iload_n hJ dX5_takeFrom_23 rfl 2 rfl ?_
      refine j_callVv hJ (c_X5_meetRoot (l := l) (D := D) (cy := cy) (ad := ad) hin) rfl om_455 ⟨rfl, rfl, Nat.le_of_ble_eq_true rfl, Nat.le_of_ble_eq_true rfl⟩ [.ref (ad 26), .long (Ll v4), .int (Ii x2)] mv_X5_103 hd_X5_meetRootv (kP_0 hc) rfl rfl rfl (Nat.le_of_ble_eq_true rfl) dX5_takeFrom_24 ⟨c, v4, x2, rfl, hc, (rl_ri gv4), gx2, hF⟩ (fun M6 qM6 => ?_)
      have hF := qM6
      refine j_iinc (lv' := [(2, .int (Ii (x2 + 1))), (0, .ref (ad c)), (1, .ref (ad 26))]) (k := 2) hJ dX5_takeFrom_27 rfl (by decide) rfl ?_
      have g7 := hF.1; have hF := hF.2
      refine j_goto hJ 6 dX5_takeFrom_30 (by decide) ?_
      exact j_sub hJ [1, 2, 0] rfl (ih (x2 + 1) _ g7 hF)
  intro x2 M gx2 hF
  obtain ⟨n, hF⟩ := hF
  exact H9 n x2 M gx2 hF
set_option maxHeartbeats 4000000 in
set_option maxRecDepth 100000 in
theorem c_X5_takeFrom {l : Launch} {D : va_G} {cy : Nat → ClassId} {ad : Nat → Nat} (hin : jIn ad ksC.length) : jCN l D vwCl (tyC cy) cy ad ftC ksC (XtC ad) yX5_takeFrom (.code yX5_takeFrom cX5_takeFrom 4 none :: Om) ({ frames := 5, cells := 0, slots := 0, locals := 116 } : Room) 0 (W_X5_takeFrom ad) := by
  refine jCN_of (y := yX5_takeFrom) (cc := cX5_takeFrom) (nL := 4) (rk := 0) (rm := ({ frames := 5, cells := 0, slots := 0, locals := 116 } : Room)) (own := RX5) (tyC_ok cy) hin (XtC_ok ad) Om_good (by decide) rfl ?_
  intro Q av M hF
  obtain ⟨c, rfl, hc, hF⟩ := hF
  refine ⟨Nat.le_of_ble_eq_true rfl, fun J hJ => ?_⟩
  show J 0 [(0, .ref (ad c)), (1, .ref (ad 26))] [] M
  unfold w_X5_takeFrom at hF
  refine j_aload_n hJ dX5_takeFrom_0 rfl 0 rfl ?_
  refine j_callVv hJ (c_X5_forget (l := l) (D := D) (cy := cy) (ad := ad) hin) rfl om_18 ⟨rfl, rfl, Nat.le_of_ble_eq_true rfl, Nat.le_of_ble_eq_true rfl⟩ [] mv_X5_95 hd_X5_forgetv (kP_0 hc) rfl rfl rfl (Nat.le_of_ble_eq_true rfl) dX5_takeFrom_1 ⟨c, rfl, hc, hF⟩ (fun M2 qM2 => ?_)
  have hF := qM2
  refine j_iconst hJ dX5_takeFrom_4 ?_
  refine j_istore_n (lv' := [(2, .int (Ii 0)), (0, .ref (ad c)), (1, .ref (ad 26))]) hJ dX5_takeFrom_5 rfl (by decide) rfl ?_
  exact j_sub hJ [1, 2, 0] rfl (k_X5_takeFrom_b6 hin hc hJ  0 _ rk_0 hF)
def W_X5_holdersOf (ad : Nat → Nat) (Q : Int → MM → Prop) (av : List Value) (M : MM) : Prop := ∃ (c : Nat) (p1 : Int), av = [.ref (ad c), .int (Ii p1)] ∧ isP c ∧ ri_ p1 ∧ w_X5_holdersOf c Q p1 M
set_option maxHeartbeats 4000000 in
set_option maxRecDepth 100000 in
theorem c_X5_holdersOf {l : Launch} {D : va_G} {cy : Nat → ClassId} {ad : Nat → Nat} (hin : jIn ad ksC.length) : jCN l D vwCl (tyC cy) cy ad ftC ksC (XtC ad) yX5_holdersOf (.code yX5_holdersOf cX5_holdersOf 2 (some .int) :: Om) ({ frames := 3, cells := 0, slots := 0, locals := 69 } : Room) 1 (W_X5_holdersOf ad) := by
  refine jCN_of (y := yX5_holdersOf) (cc := cX5_holdersOf) (nL := 2) (rk := 1) (rm := ({ frames := 3, cells := 0, slots := 0, locals := 69 } : Room)) (own := RX5) (tyC_ok cy) hin (XtC_ok ad) Om_good (by decide) rfl ?_
  intro Q av M hF
  obtain ⟨c, p1, rfl, hc, gp1, hF⟩ := hF
  refine ⟨Nat.le_of_ble_eq_true rfl, fun J hJ => ?_⟩
  show J 0 [(0, .ref (ad c)), (1, .int (Ii p1))] [] M
  unfold w_X5_holdersOf at hF
  refine j_aload_n hJ dX5_holdersOf_0 rfl 0 rfl ?_
  refine j_gr (e := (c + 18)) hJ (kP_0 hc) fC_8_20 fl_X5_78 dX5_holdersOf_1 rfl ?_
  refine j_aload_n hJ dX5_holdersOf_4 rfl 0 rfl ?_
  refine j_callVv hJ (c_X8_needHolders (l := l) (D := D) (cy := cy) (ad := ad) hin) rfl om_436 ⟨rfl, rfl, Nat.le_of_ble_eq_true rfl, Nat.le_of_ble_eq_true rfl⟩ [.ref (ad c)] mv_X5_155 hd_X8_needHoldersv (kP_18 hc) rfl rfl rfl (Nat.le_of_ble_eq_true rfl) dX5_holdersOf_5 ⟨(c + 18), c, rfl, (isS_P hc), hc, hF⟩ (fun M2 qM2 => ?_)
  have hF := qM2
  refine j_aload_n hJ dX5_holdersOf_8 rfl 0 rfl ?_
  refine j_gr (e := (c + 18)) hJ (kP_0 hc) fC_8_20 fl_X5_78 dX5_holdersOf_9 rfl ?_
  refine j_gr (e := (c + 19)) hJ (kP_18 hc) fC_11_2 fl_X5_159 dX5_holdersOf_12 rfl ?_
  refine j_iload_n hJ dX5_holdersOf_15 rfl 1 rfl ?_
  refine j_iconst hJ dX5_holdersOf_16 ?_
  refine j_iadd hJ dX5_holdersOf_17 ?_
  have g3 := hF.1; have hF := hF.2
  refine j_iald hJ g3 (kP_19 hc) hF.1 hF.2.1 dX5_holdersOf_18 (fun v4 ev4 gv4 => ?_)
  have hF := hF.2.2 v4 ev4 gv4
  refine j_aload_n hJ dX5_holdersOf_19 rfl 0 rfl ?_
  refine j_gr (e := (c + 18)) hJ (kP_0 hc) fC_8_20 fl_X5_78 dX5_holdersOf_20 rfl ?_
  refine j_gr (e := (c + 19)) hJ (kP_18 hc) fC_11_2 fl_X5_159 dX5_holdersOf_23 rfl ?_
  refine j_iload_n hJ dX5_holdersOf_26 rfl 1 rfl ?_
  refine j_iald hJ gp1 (kP_19 hc) hF.1 hF.2.1 dX5_holdersOf_27 (fun v5 ev5 gv5 => ?_)
  have hF := hF.2.2 v5 ev5 gv5
  refine j_isub hJ dX5_holdersOf_28 ?_
  have g6 := hF.1; have hF := hF.2
  exact j_iret hJ rfl g6 dX5_holdersOf_29 hF
def W_X5_needDominators (ad : Nat → Nat) (Q : Int → MM → Prop) (av : List Value) (M : MM) : Prop := ∃ (c : Nat), av = [.ref (ad c)] ∧ isP c ∧ w_X5_needDominators c Q  M
set_option maxHeartbeats 4000000 in
set_option maxRecDepth 100000 in
theorem c_X5_needDominators {l : Launch} {D : va_G} {cy : Nat → ClassId} {ad : Nat → Nat} (hin : jIn ad ksC.length) : jCN l D vwCl (tyC cy) cy ad ftC ksC (XtC ad) yX5_needDominators (.code yX5_needDominators cX5_needDominators 1 none :: Om) ({ frames := 3, cells := 0, slots := 0, locals := 74 } : Room) 0 (W_X5_needDominators ad) := by
  refine jCN_of (y := yX5_needDominators) (cc := cX5_needDominators) (nL := 1) (rk := 0) (rm := ({ frames := 3, cells := 0, slots := 0, locals := 74 } : Room)) (own := RX5) (tyC_ok cy) hin (XtC_ok ad) Om_good (by decide) rfl ?_
  intro Q av M hF
  obtain ⟨c, rfl, hc, hF⟩ := hF
  refine ⟨Nat.le_of_ble_eq_true rfl, fun J hJ => ?_⟩
  show J 0 [(0, .ref (ad c))] [] M
  unfold w_X5_needDominators at hF
  refine j_aload_n hJ dX5_needDominators_0 rfl 0 rfl ?_
  refine j_gr (e := (c + 18)) hJ (kP_0 hc) fC_8_20 fl_X5_78 dX5_needDominators_1 rfl ?_
  refine j_aload_n hJ dX5_needDominators_4 rfl 0 rfl ?_
  refine j_callVv hJ (c_X8_needHolders (l := l) (D := D) (cy := cy) (ad := ad) hin) rfl om_436 ⟨rfl, rfl, Nat.le_of_ble_eq_true rfl, Nat.le_of_ble_eq_true rfl⟩ [.ref (ad c)] mv_X5_155 hd_X8_needHoldersv (kP_18 hc) rfl rfl rfl (Nat.le_of_ble_eq_true rfl) dX5_needDominators_5 ⟨(c + 18), c, rfl, (isS_P hc), hc, hF⟩ (fun M2 qM2 => ?_)
  have hF := qM2
  refine j_aload_n hJ dX5_needDominators_8 rfl 0 rfl ?_
  refine j_gr (e := (c + 18)) hJ (kP_0 hc) fC_8_20 fl_X5_78 dX5_needDominators_9 rfl ?_
  refine j_aload_n hJ dX5_needDominators_12 rfl 0 rfl ?_
  refine j_callVv hJ (c_X8_needDominators (l := l) (D := D) (cy := cy) (ad := ad) hin) rfl om_427 ⟨rfl, rfl, Nat.le_of_ble_eq_true rfl, Nat.le_of_ble_eq_true rfl⟩ [.ref (ad c)] mv_X5_174 hd_X8_needDominatorsv (kP_18 hc) rfl rfl rfl (Nat.le_of_ble_eq_true rfl) dX5_needDominators_13 ⟨(c + 18), c, rfl, (isS_P hc), hc, hF⟩ (fun M4 qM4 => ?_)
  have hF := qM4
  exact j_vret hJ rfl dX5_needDominators_16 hF
def W_X5_dominatorOf (ad : Nat → Nat) (Q : Int → MM → Prop) (av : List Value) (M : MM) : Prop := ∃ (c : Nat) (p1 : Int), av = [.ref (ad c), .int (Ii p1)] ∧ isP c ∧ ri_ p1 ∧ w_X5_dominatorOf c Q p1 M
set_option maxHeartbeats 4000000 in
set_option maxRecDepth 100000 in
theorem c_X5_dominatorOf {l : Launch} {D : va_G} {cy : Nat → ClassId} {ad : Nat → Nat} (hin : jIn ad ksC.length) : jCN l D vwCl (tyC cy) cy ad ftC ksC (XtC ad) yX5_dominatorOf (.code yX5_dominatorOf cX5_dominatorOf 2 (some .int) :: Om) ({ frames := 4, cells := 0, slots := 0, locals := 94 } : Room) 1 (W_X5_dominatorOf ad) := by
  refine jCN_of (y := yX5_dominatorOf) (cc := cX5_dominatorOf) (nL := 2) (rk := 1) (rm := ({ frames := 4, cells := 0, slots := 0, locals := 94 } : Room)) (own := RX5) (tyC_ok cy) hin (XtC_ok ad) Om_good (by decide) rfl ?_
  intro Q av M hF
  obtain ⟨c, p1, rfl, hc, gp1, hF⟩ := hF
  refine ⟨Nat.le_of_ble_eq_true rfl, fun J hJ => ?_⟩
  show J 0 [(0, .ref (ad c)), (1, .int (Ii p1))] [] M
  unfold w_X5_dominatorOf at hF
  refine j_aload_n hJ dX5_dominatorOf_0 rfl 0 rfl ?_
  refine j_callVv hJ (c_X5_needDominators (l := l) (D := D) (cy := cy) (ad := ad) hin) rfl om_461 ⟨rfl, rfl, Nat.le_of_ble_eq_true rfl, Nat.le_of_ble_eq_true rfl⟩ [] mv_X5_162 hd_X5_needDominatorsv (kP_0 hc) rfl rfl rfl (Nat.le_of_ble_eq_true rfl) dX5_dominatorOf_1 ⟨c, rfl, hc, hF⟩ (fun M2 qM2 => ?_)
  have hF := qM2
  refine j_aload_n hJ dX5_dominatorOf_4 rfl 0 rfl ?_
  refine j_gr (e := (c + 18)) hJ (kP_0 hc) fC_8_20 fl_X5_78 dX5_dominatorOf_5 rfl ?_
  refine j_gr (e := (c + 22)) hJ (kP_18 hc) fC_11_5 fl_X5_165 dX5_dominatorOf_8 rfl ?_
  refine j_iload_n hJ dX5_dominatorOf_11 rfl 1 rfl ?_
  refine j_iald hJ gp1 (kP_22 hc) hF.1 hF.2.1 dX5_dominatorOf_12 (fun v3 ev3 gv3 => ?_)
  have hF := hF.2.2 v3 ev3 gv3
  exact j_iret hJ rfl gv3 dX5_dominatorOf_13 hF
def W_X5_keptBy (ad : Nat → Nat) (Q : Int → MM → Prop) (av : List Value) (M : MM) : Prop := ∃ (c : Nat) (p1 : Int), av = [.ref (ad c), .int (Ii p1)] ∧ isP c ∧ ri_ p1 ∧ w_X5_keptBy c Q p1 M
set_option maxHeartbeats 4000000 in
set_option maxRecDepth 100000 in
theorem c_X5_keptBy {l : Launch} {D : va_G} {cy : Nat → ClassId} {ad : Nat → Nat} (hin : jIn ad ksC.length) : jCN l D vwCl (tyC cy) cy ad ftC ksC (XtC ad) yX5_keptBy (.code yX5_keptBy cX5_keptBy 2 (some .int) :: Om) ({ frames := 4, cells := 0, slots := 0, locals := 94 } : Room) 1 (W_X5_keptBy ad) := by
  refine jCN_of (y := yX5_keptBy) (cc := cX5_keptBy) (nL := 2) (rk := 1) (rm := ({ frames := 4, cells := 0, slots := 0, locals := 94 } : Room)) (own := RX5) (tyC_ok cy) hin (XtC_ok ad) Om_good (by decide) rfl ?_
  intro Q av M hF
  obtain ⟨c, p1, rfl, hc, gp1, hF⟩ := hF
  refine ⟨Nat.le_of_ble_eq_true rfl, fun J hJ => ?_⟩
  show J 0 [(0, .ref (ad c)), (1, .int (Ii p1))] [] M
  unfold w_X5_keptBy at hF
  refine j_aload_n hJ dX5_keptBy_0 rfl 0 rfl ?_
  refine j_callVv hJ (c_X5_needDominators (l := l) (D := D) (cy := cy) (ad := ad) hin) rfl om_461 ⟨rfl, rfl, Nat.le_of_ble_eq_true rfl, Nat.le_of_ble_eq_true rfl⟩ [] mv_X5_162 hd_X5_needDominatorsv (kP_0 hc) rfl rfl rfl (Nat.le_of_ble_eq_true rfl) dX5_keptBy_1 ⟨c, rfl, hc, hF⟩ (fun M2 qM2 => ?_)
  have hF := qM2
  refine j_aload_n hJ dX5_keptBy_4 rfl 0 rfl ?_
  refine j_gr (e := (c + 18)) hJ (kP_0 hc) fC_8_20 fl_X5_78 dX5_keptBy_5 rfl ?_
  refine j_gr (e := (c + 23)) hJ (kP_18 hc) fC_11_6 fl_X5_168 dX5_keptBy_8 rfl ?_
  refine j_iload_n hJ dX5_keptBy_11 rfl 1 rfl ?_
  refine j_iald hJ gp1 (kP_23 hc) hF.1 hF.2.1 dX5_keptBy_12 (fun v3 ev3 gv3 => ?_)
  have hF := hF.2.2 v3 ev3 gv3
  exact j_iret hJ rfl gv3 dX5_keptBy_13 hF
def W_X5_dominatedBy (ad : Nat → Nat) (Q : Int → MM → Prop) (av : List Value) (M : MM) : Prop := ∃ (c : Nat) (p1 : Int), av = [.ref (ad c), .int (Ii p1)] ∧ isP c ∧ ri_ p1 ∧ w_X5_dominatedBy c Q p1 M
set_option maxHeartbeats 4000000 in
set_option maxRecDepth 100000 in
theorem c_X5_dominatedBy {l : Launch} {D : va_G} {cy : Nat → ClassId} {ad : Nat → Nat} (hin : jIn ad ksC.length) : jCN l D vwCl (tyC cy) cy ad ftC ksC (XtC ad) yX5_dominatedBy (.code yX5_dominatedBy cX5_dominatedBy 2 (some .int) :: Om) ({ frames := 4, cells := 0, slots := 0, locals := 94 } : Room) 1 (W_X5_dominatedBy ad) := by
  refine jCN_of (y := yX5_dominatedBy) (cc := cX5_dominatedBy) (nL := 2) (rk := 1) (rm := ({ frames := 4, cells := 0, slots := 0, locals := 94 } : Room)) (own := RX5) (tyC_ok cy) hin (XtC_ok ad) Om_good (by decide) rfl ?_
  intro Q av M hF
  obtain ⟨c, p1, rfl, hc, gp1, hF⟩ := hF
  refine ⟨Nat.le_of_ble_eq_true rfl, fun J hJ => ?_⟩
  show J 0 [(0, .ref (ad c)), (1, .int (Ii p1))] [] M
  unfold w_X5_dominatedBy at hF
  refine j_aload_n hJ dX5_dominatedBy_0 rfl 0 rfl ?_
  refine j_callVv hJ (c_X5_needDominators (l := l) (D := D) (cy := cy) (ad := ad) hin) rfl om_461 ⟨rfl, rfl, Nat.le_of_ble_eq_true rfl, Nat.le_of_ble_eq_true rfl⟩ [] mv_X5_162 hd_X5_needDominatorsv (kP_0 hc) rfl rfl rfl (Nat.le_of_ble_eq_true rfl) dX5_dominatedBy_1 ⟨c, rfl, hc, hF⟩ (fun M2 qM2 => ?_)
  have hF := qM2
  refine j_aload_n hJ dX5_dominatedBy_4 rfl 0 rfl ?_
  refine j_gr (e := (c + 18)) hJ (kP_0 hc) fC_8_20 fl_X5_78 dX5_dominatedBy_5 rfl ?_
  refine j_gr (e := (c + 24)) hJ (kP_18 hc) fC_11_7 fl_X5_171 dX5_dominatedBy_8 rfl ?_
  refine j_iload_n hJ dX5_dominatedBy_11 rfl 1 rfl ?_
  refine j_iald hJ gp1 (kP_24 hc) hF.1 hF.2.1 dX5_dominatedBy_12 (fun v3 ev3 gv3 => ?_)
  have hF := hF.2.2 v3 ev3 gv3
  exact j_iret hJ rfl gv3 dX5_dominatedBy_13 hF
def W_X8_linksItself (ad : Nat → Nat) (Q : Int → MM → Prop) (av : List Value) (M : MM) : Prop := ∃ (p1 : Nat) (p2 : Int), av = [.ref (ad p1), .int (Ii p2)] ∧ isP p1 ∧ ri_ p2 ∧ w_X8_linksItself p1 Q p2 M
set_option maxHeartbeats 4000000 in
set_option maxRecDepth 100000 in
theorem k_X8_linksItself_b42 {l : Launch} {D : va_G} {cy : Nat → ClassId} {ad : Nat → Nat} {Q : Int → MM → Prop} {J : Nat → List (Nat × Value) → List Value → MM → Prop} (hin : jIn ad ksC.length) {p1 : Nat} (hp1 : isP p1) (hJ : jOk l D vwCl (tyC cy) cy ad ftC ksC (XtC ad) Om RX8 cX8_linksItself 3 3 ({ frames := 0, cells := 0, slots := 0, locals := 0 } : Room) Q J) {K7 : Int → Int → MM → Prop} (hK7 : ∀ (x1 x2 : Int) (M : MM), ri_ x1 → ri_ x2 → K7 x1 x2 M → J 7 [(0, .ref (ad p1)), (1, .int (Ii x1)), (2, .int (Ii x2))] [] M) : ∀ (x1 x2 : Int) (M : MM), ri_ x1 → ri_ x2 → w_X8_linksItself_b42 p1 Q K7 x1 x2 M → J 42 [(0, .ref (ad p1)), (1, .int (Ii x1)), (2, .int (Ii x2))] [] M := by
  intro x1 x2 M gx1 gx2 hF
  unfold w_X8_linksItself_b42 at hF
  refine j_iinc (lv' := [(2, .int (Ii (x2 + 1))), (0, .ref (ad p1)), (1, .int (Ii x1))]) (k := 2) hJ dX8_linksItself_42 rfl (by decide) rfl ?_
  have g1 := hF.1; have hF := hF.2
  refine j_goto hJ 7 dX8_linksItself_45 (by decide) ?_
  exact j_sub hJ [1, 2, 0] rfl (hK7 x1 (x2 + 1) _ gx1 g1 hF)
set_option maxHeartbeats 4000000 in
set_option maxRecDepth 100000 in
theorem k_X8_linksItself_b7 {l : Launch} {D : va_G} {cy : Nat → ClassId} {ad : Nat → Nat} {Q : Int → MM → Prop} {J : Nat → List (Nat × Value) → List Value → MM → Prop} (hin : jIn ad ksC.length) {p1 : Nat} (hp1 : isP p1) (hJ : jOk l D vwCl (tyC cy) cy ad ftC ksC (XtC ad) Om RX8 cX8_linksItself 3 3 ({ frames := 0, cells := 0, slots := 0, locals := 0 } : Room) Q J)  : ∀ (x1 x2 : Int) (M : MM), ri_ x1 → ri_ x2 → w_X8_linksItself_b7 p1 Q  x1 x2 M → J 7 [(0, .ref (ad p1)), (1, .int (Ii x1)), (2, .int (Ii x2))] [] M := by
  have H9 : ∀ (n : Nat) (x1 x2 : Int) (M : MM), ri_ x1 → ri_ x2 → jit (fun _ _ _ => False) (wb_X8_linksItself_b7 p1 Q ) n x1 x2 M → J 7 [(0, .ref (ad p1)), (1, .int (Ii x1)), (2, .int (Ii x2))] [] M := by
    intro n
    induction n with
    | zero => intro x1 x2 M gx1 gx2 hF; exact False.elim hF
    | succ n ih =>
    intro x1 x2 M gx1 gx2 hF
    have hF : wb_X8_linksItself_b7 p1 Q  (jit (fun _ _ _ => False) (wb_X8_linksItself_b7 p1 Q ) n) x1 x2 M := hF
    unfold wb_X8_linksItself_b7 at hF
    refine j_iload_n hJ dX8_linksItself_7 rfl 2 rfl ?_
    refine j_aload_n hJ dX8_linksItself_8 rfl 0 rfl ?_
    refine j_gr (e := (p1 + 4)) hJ (kP_0 hp1) fC_8_4 fl_X8_79 dX8_linksItself_9 rfl ?_
    refine j_iload_n hJ dX8_linksItself_12 rfl 1 rfl ?_
    refine j_iconst hJ dX8_linksItself_13 ?_
    refine j_iadd hJ dX8_linksItself_14 ?_
    have g1 := hF.1; have hF := hF.2
    refine j_iald hJ g1 (kP_4 hp1) hF.1 hF.2.1 dX8_linksItself_15 (fun v2 ev2 gv2 => ?_)
    have hF := hF.2.2 v2 ev2 gv2
    refine j_icmp_ge hJ 48 gx2 gv2 dX8_linksItself_16 (by decide) (fun z3 => ?_) (fun z3 => ?_)
    · have hF := hF.1 z3
      refine j_iconst hJ dX8_linksItself_48 ?_
      exact j_zret hJ rfl (by decide) dX8_linksItself_49 hF
    · have hF := hF.2 z3
      refine j_aload_n hJ dX8_linksItself_19 rfl 0 rfl ?_
      refine j_gr (e := (p1 + 10)) hJ (kP_0 hp1) fC_8_10 fl_X8_82 dX8_linksItself_20 rfl ?_
      refine j_iload_n hJ dX8_linksItself_23 rfl 2 rfl ?_
      refine j_zald hJ gx2 (kP_10 hp1) hF.1 hF.2.1 dX8_linksItself_24 (fun v4 ev4 gv4 => ?_)
      have hF := hF.2.2 v4 ev4 gv4
      refine j_if_eq hJ 42 (jz_ri gv4) dX8_linksItself_25 (by decide) (fun z5 => ?_) (fun z5 => ?_)
      · have hF := hF.1 z5
        exact j_sub hJ [0, 1, 2] rfl (k_X8_linksItself_b42 hin hp1 hJ ih x1 x2 _ gx1 gx2 hF)
      · have hF := hF.2 z5
        refine j_aload_n hJ dX8_linksItself_28 rfl 0 rfl ?_
        refine j_gr (e := (p1 + 9)) hJ (kP_0 hp1) fC_8_9 fl_X8_86 dX8_linksItself_29 rfl ?_
        refine j_iload_n hJ dX8_linksItself_32 rfl 2 rfl ?_
        refine j_lald hJ gx2 (kP_9 hp1) hF.1 hF.2.1 dX8_linksItself_33 (fun v6 ev6 gv6 => ?_)
        have hF := hF.2.2 v6 ev6 gv6
        refine j_iload_n hJ dX8_linksItself_34 rfl 1 rfl ?_
        refine j_i2l hJ gx1 dX8_linksItself_35 ?_
        refine j_lcmp_ne hJ 42 gv6 (rl_ri gx1) dX8_linksItself_36 dX8_linksItself_37 (by decide) (fun z7 => ?_) (fun z7 => ?_)
        · have hF := hF.1 z7
          exact j_sub hJ [0, 1, 2] rfl (k_X8_linksItself_b42 hin hp1 hJ ih x1 x2 _ gx1 gx2 hF)
        · have hF := hF.2 z7
          refine j_iconst hJ dX8_linksItself_40 ?_
          exact j_zret hJ rfl (by decide) dX8_linksItself_41 hF
  intro x1 x2 M gx1 gx2 hF
  obtain ⟨n, hF⟩ := hF
  exact H9 n x1 x2 M gx1 gx2 hF
set_option maxHeartbeats 4000000 in
set_option maxRecDepth 100000 in
theorem c_X8_linksItself {l : Launch} {D : va_G} {cy : Nat → ClassId} {ad : Nat → Nat} (hin : jIn ad ksC.length) : jCN l D vwCl (tyC cy) cy ad ftC ksC (XtC ad) yX8_linksItself (.code yX8_linksItself cX8_linksItself 3 (some .boolean) :: Om) ({ frames := 0, cells := 0, slots := 0, locals := 0 } : Room) 3 (W_X8_linksItself ad) := by
  refine jCN_of (y := yX8_linksItself) (cc := cX8_linksItself) (nL := 3) (rk := 3) (rm := ({ frames := 0, cells := 0, slots := 0, locals := 0 } : Room)) (own := RX8) (tyC_ok cy) hin (XtC_ok ad) Om_good (by decide) rfl ?_
  intro Q av M hF
  obtain ⟨p1, p2, rfl, hp1, gp2, hF⟩ := hF
  refine ⟨Nat.le_of_ble_eq_true rfl, fun J hJ => ?_⟩
  show J 0 [(0, .ref (ad p1)), (1, .int (Ii p2))] [] M
  unfold w_X8_linksItself at hF
  refine j_aload_n hJ dX8_linksItself_0 rfl 0 rfl ?_
  refine j_gr (e := (p1 + 4)) hJ (kP_0 hp1) fC_8_4 fl_X8_79 dX8_linksItself_1 rfl ?_
  refine j_iload_n hJ dX8_linksItself_4 rfl 1 rfl ?_
  refine j_iald hJ gp2 (kP_4 hp1) hF.1 hF.2.1 dX8_linksItself_5 (fun v1 ev1 gv1 => ?_)
  have hF := hF.2.2 v1 ev1 gv1
  refine j_istore_n (lv' := [(2, .int (Ii v1)), (0, .ref (ad p1)), (1, .int (Ii p2))]) hJ dX8_linksItself_6 rfl (by decide) rfl ?_
  exact j_sub hJ [1, 2, 0] rfl (k_X8_linksItself_b7 hin hp1 hJ  p2 v1 _ gp2 gv1 hF)
def W_X8_numberRings (ad : Nat → Nat) (Q : Int → MM → Prop) (av : List Value) (M : MM) : Prop := ∃ (c : Nat) (p1 : Nat), av = [.ref (ad c), .ref (ad p1)] ∧ isS c ∧ isP p1 ∧ w_X8_numberRings c p1 Q  M
set_option maxHeartbeats 4000000 in
set_option maxRecDepth 100000 in
theorem k_X8_numberRings_b136 {l : Launch} {D : va_G} {cy : Nat → ClassId} {ad : Nat → Nat} {Q : Int → MM → Prop} {J : Nat → List (Nat × Value) → List Value → MM → Prop} (hin : jIn ad ksC.length) {c p1 : Nat} (hc : isS c) (hp1 : isP p1) (hJ : jOk l D vwCl (tyC cy) cy ad ftC ksC (XtC ad) Om RX8 cX8_numberRings 4 0 ({ frames := 2, cells := 0, slots := 0, locals := 46 } : Room) Q J) {K65 : Int → MM → Prop} (hK65 : ∀ (x2 : Int) (M : MM), ri_ x2 → K65 x2 M → J 65 [(0, .ref (ad c)), (1, .ref (ad p1)), (2, .int (Ii x2))] [] M) : ∀ (x2 x3 : Int) (M : MM), ri_ x2 → ri_ x3 → w_X8_numberRings_b136 c p1 Q K65 x2 x3 M → J 136 [(0, .ref (ad c)), (1, .ref (ad p1)), (2, .int (Ii x2)), (3, .int (Ii x3))] [] M := by
  intro x2 x3 M gx2 gx3 hF
  unfold w_X8_numberRings_b136 at hF
  refine j_aload_n hJ dX8_numberRings_136 rfl 0 rfl ?_
  refine j_gr (e := (c + 7)) hJ (kS_0 hc) fC_11_8 fl_X8_36 dX8_numberRings_137 rfl ?_
  refine j_iload_n hJ dX8_numberRings_140 rfl 2 rfl ?_
  refine j_aload_n hJ dX8_numberRings_141 rfl 0 rfl ?_
  refine j_gr (e := (c + 12)) hJ (kS_0 hc) fC_11_15 fl_X8_51 dX8_numberRings_142 rfl ?_
  refine j_iload_n hJ dX8_numberRings_145 rfl 3 rfl ?_
  refine j_iald hJ gx3 (kS_12 hc) hF.1 hF.2.1 dX8_numberRings_146 (fun v1 ev1 gv1 => ?_)
  have hF := hF.2.2 v1 ev1 gv1
  refine j_iast hJ gx2 gv1 (kS_7 hc) hF.1 hF.2.1 dX8_numberRings_147 (fun M2 eM2 => ?_)
  have hF := hF.2.2 M2 eM2
  refine j_iinc (lv' := [(2, .int (Ii (x2 + 1))), (0, .ref (ad c)), (1, .ref (ad p1)), (3, .int (Ii x3))]) (k := 2) hJ dX8_numberRings_148 rfl (by decide) rfl ?_
  have g3 := hF.1; have hF := hF.2
  refine j_goto hJ 65 dX8_numberRings_151 (by decide) ?_
  exact j_sub hJ [1, 2, 0] rfl (hK65 (x2 + 1) _ g3 hF)
set_option maxHeartbeats 4000000 in
set_option maxRecDepth 100000 in
theorem k_X8_numberRings_b116 {l : Launch} {D : va_G} {cy : Nat → ClassId} {ad : Nat → Nat} {Q : Int → MM → Prop} {J : Nat → List (Nat × Value) → List Value → MM → Prop} (hin : jIn ad ksC.length) {c p1 : Nat} (hc : isS c) (hp1 : isP p1) (hJ : jOk l D vwCl (tyC cy) cy ad ftC ksC (XtC ad) Om RX8 cX8_numberRings 4 0 ({ frames := 2, cells := 0, slots := 0, locals := 46 } : Room) Q J) {K65 : Int → MM → Prop} (hK65 : ∀ (x2 : Int) (M : MM), ri_ x2 → K65 x2 M → J 65 [(0, .ref (ad c)), (1, .ref (ad p1)), (2, .int (Ii x2))] [] M) : ∀ (x2 x3 : Int) (M : MM), ri_ x2 → ri_ x3 → w_X8_numberRings_b116 c p1 Q K65 x2 x3 M → J 116 [(0, .ref (ad c)), (1, .ref (ad p1)), (2, .int (Ii x2)), (3, .int (Ii x3))] [] M := by
  intro x2 x3 M gx2 gx3 hF
  unfold w_X8_numberRings_b116 at hF
  refine j_aload_n hJ dX8_numberRings_116 rfl 0 rfl ?_
  refine j_gr (e := (c + 12)) hJ (kS_0 hc) fC_11_15 fl_X8_51 dX8_numberRings_117 rfl ?_
  refine j_iload_n hJ dX8_numberRings_120 rfl 3 rfl ?_
  refine j_aload_n hJ dX8_numberRings_121 rfl 0 rfl ?_
  refine j_gi hJ (kS_0 hc) fC_11_9 rfl fl_X8_142 dX8_numberRings_122 (fun v1 ev1 gv1 => ?_)
  have hF := hF v1 ev1 gv1
  refine j_iast hJ gx3 gv1 (kS_12 hc) hF.1 hF.2.1 dX8_numberRings_125 (fun M2 eM2 => ?_)
  have hF := hF.2.2 M2 eM2
  refine j_aload_n hJ dX8_numberRings_126 rfl 0 rfl ?_
  refine j_dup hJ dX8_numberRings_127 rfl ?_
  refine j_gi hJ (kS_0 hc) fC_11_9 rfl fl_X8_142 dX8_numberRings_128 (fun v3 ev3 gv3 => ?_)
  have hF := hF v3 ev3 gv3
  refine j_iconst hJ dX8_numberRings_131 ?_
  refine j_iadd hJ dX8_numberRings_132 ?_
  have g4 := hF.1; have hF := hF.2
  refine j_pi hJ g4 (kS_0 hc) fC_11_9 rfl fp_X8_142 dX8_numberRings_133 (fun M5 eM5 => ?_)
  have hF := hF M5 eM5
  exact j_sub hJ [0, 1, 2, 3] rfl (k_X8_numberRings_b136 hin hc hp1 hJ hK65 x2 x3 _ gx2 gx3 hF)
set_option maxHeartbeats 4000000 in
set_option maxRecDepth 100000 in
theorem k_X8_numberRings_b65 {l : Launch} {D : va_G} {cy : Nat → ClassId} {ad : Nat → Nat} {Q : Int → MM → Prop} {J : Nat → List (Nat × Value) → List Value → MM → Prop} (hin : jIn ad ksC.length) {c p1 : Nat} (hc : isS c) (hp1 : isP p1) (hJ : jOk l D vwCl (tyC cy) cy ad ftC ksC (XtC ad) Om RX8 cX8_numberRings 4 0 ({ frames := 2, cells := 0, slots := 0, locals := 46 } : Room) Q J)  : ∀ (x2 : Int) (M : MM), ri_ x2 → w_X8_numberRings_b65 c p1 Q  x2 M → J 65 [(0, .ref (ad c)), (1, .ref (ad p1)), (2, .int (Ii x2))] [] M := by
  have H9 : ∀ (n : Nat) (x2 : Int) (M : MM), ri_ x2 → jit (fun _ _ => False) (wb_X8_numberRings_b65 c p1 Q ) n x2 M → J 65 [(0, .ref (ad c)), (1, .ref (ad p1)), (2, .int (Ii x2))] [] M := by
    intro n
    induction n with
    | zero => intro x2 M gx2 hF; exact False.elim hF
    | succ n ih =>
    intro x2 M gx2 hF
    have hF : wb_X8_numberRings_b65 c p1 Q  (jit (fun _ _ => False) (wb_X8_numberRings_b65 c p1 Q ) n) x2 M := hF
    unfold wb_X8_numberRings_b65 at hF
    refine j_iload_n hJ dX8_numberRings_65 rfl 2 rfl ?_
    refine j_aload_n hJ dX8_numberRings_66 rfl 1 rfl ?_
    refine j_gi hJ (kP_0 hp1) fC_8_0 rfl fl_X8_64 dX8_numberRings_67 (fun v1 ev1 gv1 => ?_)
    have hF := hF v1 ev1 gv1
    refine j_icmp_ge hJ 154 gx2 gv1 dX8_numberRings_70 (by decide) (fun z2 => ?_) (fun z2 => ?_)
    · have hF := hF.1 z2
      exact j_vret hJ rfl dX8_numberRings_154 hF
    · have hF := hF.2 z2
      refine j_aload_n hJ dX8_numberRings_73 rfl 0 rfl ?_
      refine j_gr (e := (c + 7)) hJ (kS_0 hc) fC_11_8 fl_X8_36 dX8_numberRings_74 rfl ?_
      refine j_iload_n hJ dX8_numberRings_77 rfl 2 rfl ?_
      refine j_iald hJ gx2 (kS_7 hc) hF.1 hF.2.1 dX8_numberRings_78 (fun v3 ev3 gv3 => ?_)
      have hF := hF.2.2 v3 ev3 gv3
      refine j_istore_n (lv' := [(3, .int (Ii v3)), (0, .ref (ad c)), (1, .ref (ad p1)), (2, .int (Ii x2))]) hJ dX8_numberRings_79 rfl (by decide) rfl ?_
      refine j_aload_n hJ dX8_numberRings_80 rfl 1 rfl ?_
      refine j_gr (e := (c + 12)) hJ (kS_0 hc) fC_11_15 fl_X8_51 dX8_numberRings_81 rfl ?_
      refine j_iload_n hJ dX8_numberRings_84 rfl 0 rfl ?_
      refine j_iald hJ gv3 (kS_12 hc) hF.1 hF.2.1 dX8_numberRings_85 (fun v4 ev4 gv4 => ?_)
      have hF := hF.2.2 v4 ev4 gv4
      refine j_bipush hJ dX8_numberRings_86 (by decide) ?_
      refine j_icmp_ne hJ 136 gv4 rk_m2 dX8_numberRings_88 (by decide) (fun z5 => ?_) (fun z5 => ?_)
      · have hF := hF.1 z5
        exact j_sub hJ [1, 2, 3, 0] rfl (k_X8_numberRings_b136 hin hc hp1 hJ ih x2 v3 _ gx2 gv3 hF)
      · have hF := hF.2 z5
        refine j_aload_n hJ dX8_numberRings_91 rfl 1 rfl ?_
        refine j_gr (e := (c + 12)) hJ (kS_0 hc) fC_11_15 fl_X8_51 dX8_numberRings_92 rfl ?_
        refine j_iload_n hJ dX8_numberRings_95 rfl 0 rfl ?_
        refine j_iconst hJ dX8_numberRings_96 ?_
        refine j_iast hJ gv3 rk_m1 (kS_12 hc) hF.1 hF.2.1 dX8_numberRings_97 (fun M6 eM6 => ?_)
        have hF := hF.2.2 M6 eM6
        refine j_aload_n hJ dX8_numberRings_98 rfl 1 rfl ?_
        refine j_gr (e := (c + 10)) hJ (kS_0 hc) fC_11_13 fl_X8_45 dX8_numberRings_99 rfl ?_
        refine j_iload_n hJ dX8_numberRings_102 rfl 0 rfl ?_
        refine j_iald hJ gv3 (kS_10 hc) hF.1 hF.2.1 dX8_numberRings_103 (fun v7 ev7 gv7 => ?_)
        have hF := hF.2.2 v7 ev7 gv7
        refine j_iconst hJ dX8_numberRings_104 ?_
        refine j_icmp_gt hJ 116 gv7 rk_1 dX8_numberRings_105 (by decide) (fun z8 => ?_) (fun z8 => ?_)
        · have hF := hF.1 z8
          exact j_sub hJ [1, 2, 3, 0] rfl (k_X8_numberRings_b116 hin hc hp1 hJ ih x2 v3 _ gx2 gv3 hF)
        · have hF := hF.2 z8
          refine j_aload_n hJ dX8_numberRings_108 rfl 2 rfl ?_
          refine j_iload_n hJ dX8_numberRings_109 rfl 3 rfl ?_
          refine j_callSz hJ (c_X8_linksItself (l := l) (D := D) (cy := cy) (ad := ad) hin) rfl om_465 ⟨rfl, rfl, Nat.le_of_ble_eq_true rfl, Nat.le_of_ble_eq_true rfl⟩ [.ref (ad p1), .int (Ii x2)] mv_X8_145 hd_X8_linksItself rfl (Nat.le_of_ble_eq_true rfl) dX8_numberRings_110 ⟨p1, x2, rfl, hp1, gx2, hF⟩ (fun r9 M10 gr9 qM10 => ?_)
          have hF := qM10 gr9
          refine j_if_eq hJ 136 (jz_ri gr9) dX8_numberRings_113 (by decide) (fun z11 => ?_) (fun z11 => ?_)
          · have hF := hF.1 z11
            exact j_sub hJ [1, 2, 3, 0] rfl (k_X8_numberRings_b136 hin hc hp1 hJ ih x2 v3 _ gx2 gv3 hF)
          · have hF := hF.2 z11
            exact j_sub hJ [1, 2, 3, 0] rfl (k_X8_numberRings_b116 hin hc hp1 hJ ih x2 v3 _ gx2 gv3 hF)
  intro x2 M gx2 hF
  obtain ⟨n, hF⟩ := hF
  exact H9 n x2 M gx2 hF
set_option maxHeartbeats 4000000 in
set_option maxRecDepth 100000 in
theorem k_X8_numberRings_b29 {l : Launch} {D : va_G} {cy : Nat → ClassId} {ad : Nat → Nat} {Q : Int → MM → Prop} {J : Nat → List (Nat × Value) → List Value → MM → Prop} (hin : jIn ad ksC.length) {c p1 : Nat} (hc : isS c) (hp1 : isP p1) (hJ : jOk l D vwCl (tyC cy) cy ad ftC ksC (XtC ad) Om RX8 cX8_numberRings 4 0 ({ frames := 2, cells := 0, slots := 0, locals := 46 } : Room) Q J)  : ∀ (x2 : Int) (M : MM), ri_ x2 → w_X8_numberRings_b29 c p1 Q  x2 M → J 29 [(0, .ref (ad c)), (1, .ref (ad p1)), (2, .int (Ii x2))] [] M := by
  have H9 : ∀ (n : Nat) (x2 : Int) (M : MM), ri_ x2 → jit (fun _ _ => False) (wb_X8_numberRings_b29 c p1 Q ) n x2 M → J 29 [(0, .ref (ad c)), (1, .ref (ad p1)), (2, .int (Ii x2))] [] M := by
    intro n
    induction n with
    | zero => intro x2 M gx2 hF; exact False.elim hF
    | succ n ih =>
    intro x2 M gx2 hF
    have hF : wb_X8_numberRings_b29 c p1 Q  (jit (fun _ _ => False) (wb_X8_numberRings_b29 c p1 Q ) n) x2 M := hF
    unfold wb_X8_numberRings_b29 at hF
    refine j_iload_n hJ dX8_numberRings_29 rfl 2 rfl ?_
    refine j_aload_n hJ dX8_numberRings_30 rfl 1 rfl ?_
    refine j_gi hJ (kP_0 hp1) fC_8_0 rfl fl_X8_64 dX8_numberRings_31 (fun v1 ev1 gv1 => ?_)
    have hF := hF v1 ev1 gv1
    refine j_icmp_ge hJ 58 gx2 gv1 dX8_numberRings_34 (by decide) (fun z2 => ?_) (fun z2 => ?_)
    · have hF := hF.1 z2
      refine j_aload_n hJ dX8_numberRings_58 rfl 0 rfl ?_
      refine j_iconst hJ dX8_numberRings_59 ?_
      refine j_pi hJ rk_0 (kS_0 hc) fC_11_9 rfl fp_X8_142 dX8_numberRings_60 (fun M3 eM3 => ?_)
      have hF := hF M3 eM3
      refine j_iconst hJ dX8_numberRings_63 ?_
      refine j_istore_n (lv' := [(2, .int (Ii 0)), (0, .ref (ad c)), (1, .ref (ad p1))]) hJ dX8_numberRings_64 rfl (by decide) rfl ?_
      exact j_sub hJ [1, 2, 0] rfl (k_X8_numberRings_b65 hin hc hp1 hJ  0 _ rk_0 hF)
    · have hF := hF.2 z2
      refine j_aload_n hJ dX8_numberRings_37 rfl 0 rfl ?_
      refine j_gr (e := (c + 10)) hJ (kS_0 hc) fC_11_13 fl_X8_45 dX8_numberRings_38 rfl ?_
      refine j_aload_n hJ dX8_numberRings_41 rfl 0 rfl ?_
      refine j_gr (e := (c + 7)) hJ (kS_0 hc) fC_11_8 fl_X8_36 dX8_numberRings_42 rfl ?_
      refine j_iload_n hJ dX8_numberRings_45 rfl 2 rfl ?_
      refine j_iald hJ gx2 (kS_7 hc) hF.1 hF.2.1 dX8_numberRings_46 (fun v4 ev4 gv4 => ?_)
      have hF := hF.2.2 v4 ev4 gv4
      refine j_dup2_11 hJ dX8_numberRings_47 rfl rfl ?_
      refine j_iald hJ gv4 (kS_10 hc) hF.1 hF.2.1 dX8_numberRings_48 (fun v5 ev5 gv5 => ?_)
      have hF := hF.2.2 v5 ev5 gv5
      refine j_iconst hJ dX8_numberRings_49 ?_
      refine j_iadd hJ dX8_numberRings_50 ?_
      have g6 := hF.1; have hF := hF.2
      refine j_iast hJ gv4 g6 (kS_10 hc) hF.1 hF.2.1 dX8_numberRings_51 (fun M7 eM7 => ?_)
      have hF := hF.2.2 M7 eM7
      refine j_iinc (lv' := [(2, .int (Ii (x2 + 1))), (0, .ref (ad c)), (1, .ref (ad p1))]) (k := 2) hJ dX8_numberRings_52 rfl (by decide) rfl ?_
      have g8 := hF.1; have hF := hF.2
      refine j_goto hJ 29 dX8_numberRings_55 (by decide) ?_
      exact j_sub hJ [1, 2, 0] rfl (ih (x2 + 1) _ g8 hF)
  intro x2 M gx2 hF
  obtain ⟨n, hF⟩ := hF
  exact H9 n x2 M gx2 hF
set_option maxHeartbeats 4000000 in
set_option maxRecDepth 100000 in
theorem c_X8_numberRings {l : Launch} {D : va_G} {cy : Nat → ClassId} {ad : Nat → Nat} (hin : jIn ad ksC.length) : jCN l D vwCl (tyC cy) cy ad ftC ksC (XtC ad) yX8_numberRings (.code yX8_numberRings cX8_numberRings 4 none :: Om) ({ frames := 2, cells := 0, slots := 0, locals := 46 } : Room) 0 (W_X8_numberRings ad) := by
  refine jCN_of (y := yX8_numberRings) (cc := cX8_numberRings) (nL := 4) (rk := 0) (rm := ({ frames := 2, cells := 0, slots := 0, locals := 46 } : Room)) (own := RX8) (tyC_ok cy) hin (XtC_ok ad) Om_good (by decide) rfl ?_
  intro Q av M hF
  obtain ⟨c, p1, rfl, hc, hp1, hF⟩ := hF
  refine ⟨Nat.le_of_ble_eq_true rfl, fun J hJ => ?_⟩
  show J 0 [(0, .ref (ad c)), (1, .ref (ad p1))] [] M
  unfold w_X8_numberRings at hF
  refine j_aload_n hJ dX8_numberRings_0 rfl 0 rfl ?_
  refine j_gr (e := (c + 10)) hJ (kS_0 hc) fC_11_13 fl_X8_45 dX8_numberRings_1 rfl ?_
  refine j_iconst hJ dX8_numberRings_4 ?_
  refine j_aload_n hJ dX8_numberRings_5 rfl 1 rfl ?_
  refine j_gi hJ (kP_0 hp1) fC_8_0 rfl fl_X8_64 dX8_numberRings_6 (fun v1 ev1 gv1 => ?_)
  have hF := hF v1 ev1 gv1
  refine j_iconst hJ dX8_numberRings_9 ?_
  refine j_callSv hJ (c_J7_fill_fda19_C (l := l) (D := D) (cy := cy) (ad := ad) hin) rfl om_214 ⟨rfl, rfl, Nat.le_of_ble_eq_true rfl, Nat.le_of_ble_eq_true rfl⟩ [.ref (ad (c + 10)), .int (Ii 0), .int (Ii v1), .int (Ii 0)] mv_X8_67 hd_J7_fill_fda19 rfl (Nat.le_of_ble_eq_true rfl) dX8_numberRings_10 ⟨(c + 10), 400, 0, v1, 0, rfl, (kS_10 hc), (by decide), rk_0, gv1, rk_0, hF⟩ (fun M3 qM3 => ?_)
  have hF := qM3
  refine j_aload_n hJ dX8_numberRings_13 rfl 0 rfl ?_
  refine j_gr (e := (c + 12)) hJ (kS_0 hc) fC_11_15 fl_X8_51 dX8_numberRings_14 rfl ?_
  refine j_iconst hJ dX8_numberRings_17 ?_
  refine j_aload_n hJ dX8_numberRings_18 rfl 1 rfl ?_
  refine j_gi hJ (kP_0 hp1) fC_8_0 rfl fl_X8_64 dX8_numberRings_19 (fun v4 ev4 gv4 => ?_)
  have hF := hF v4 ev4 gv4
  refine j_bipush hJ dX8_numberRings_22 (by decide) ?_
  refine j_callSv hJ (c_J7_fill_fda19_C (l := l) (D := D) (cy := cy) (ad := ad) hin) rfl om_214 ⟨rfl, rfl, Nat.le_of_ble_eq_true rfl, Nat.le_of_ble_eq_true rfl⟩ [.ref (ad (c + 12)), .int (Ii 0), .int (Ii v4), .int (Ii (-2))] mv_X8_67 hd_J7_fill_fda19 rfl (Nat.le_of_ble_eq_true rfl) dX8_numberRings_24 ⟨(c + 12), 400, 0, v4, (-2), rfl, (kS_12 hc), (by decide), rk_0, gv4, rk_m2, hF⟩ (fun M6 qM6 => ?_)
  have hF := qM6
  refine j_iconst hJ dX8_numberRings_27 ?_
  refine j_istore_n (lv' := [(2, .int (Ii 0)), (0, .ref (ad c)), (1, .ref (ad p1))]) hJ dX8_numberRings_28 rfl (by decide) rfl ?_
  exact j_sub hJ [1, 2, 0] rfl (k_X8_numberRings_b29 hin hc hp1 hJ  0 _ rk_0 hF)
def W_X8_enter (ad : Nat → Nat) (Q : Int → MM → Prop) (av : List Value) (M : MM) : Prop := ∃ (c : Nat) (p1 : Int) (p2 : Int), av = [.ref (ad c), .int (Ii p1), .int (Ii p2)] ∧ isS c ∧ ri_ p1 ∧ ri_ p2 ∧ w_X8_enter c Q p1 p2 M
set_option maxHeartbeats 4000000 in
set_option maxRecDepth 100000 in
theorem c_X8_enter {l : Launch} {D : va_G} {cy : Nat → ClassId} {ad : Nat → Nat} (hin : jIn ad ksC.length) : jCN l D vwCl (tyC cy) cy ad ftC ksC (XtC ad) yX8_enter (.code yX8_enter cX8_enter 3 (some .int) :: Om) ({ frames := 0, cells := 0, slots := 0, locals := 0 } : Room) 1 (W_X8_enter ad) := by
  refine jCN_of (y := yX8_enter) (cc := cX8_enter) (nL := 3) (rk := 1) (rm := ({ frames := 0, cells := 0, slots := 0, locals := 0 } : Room)) (own := RX8) (tyC_ok cy) hin (XtC_ok ad) Om_good (by decide) rfl ?_
  intro Q av M hF
  obtain ⟨c, p1, p2, rfl, hc, gp1, gp2, hF⟩ := hF
  refine ⟨Nat.le_of_ble_eq_true rfl, fun J hJ => ?_⟩
  show J 0 [(0, .ref (ad c)), (1, .int (Ii p1)), (2, .int (Ii p2))] [] M
  unfold w_X8_enter at hF
  refine j_aload_n hJ dX8_enter_0 rfl 0 rfl ?_
  refine j_gr (e := (c + 9)) hJ (kS_0 hc) fC_11_12 fl_X8_42 dX8_enter_1 rfl ?_
  refine j_iload_n hJ dX8_enter_4 rfl 1 rfl ?_
  refine j_iload_n hJ dX8_enter_5 rfl 2 rfl ?_
  refine j_iast hJ gp1 gp2 (kS_9 hc) hF.1 hF.2.1 dX8_enter_6 (fun M1 eM1 => ?_)
  have hF := hF.2.2 M1 eM1
  refine j_aload_n hJ dX8_enter_7 rfl 0 rfl ?_
  refine j_gr (e := (c + 10)) hJ (kS_0 hc) fC_11_13 fl_X8_45 dX8_enter_8 rfl ?_
  refine j_iload_n hJ dX8_enter_11 rfl 1 rfl ?_
  refine j_iload_n hJ dX8_enter_12 rfl 2 rfl ?_
  refine j_iast hJ gp1 gp2 (kS_10 hc) hF.1 hF.2.1 dX8_enter_13 (fun M2 eM2 => ?_)
  have hF := hF.2.2 M2 eM2
  refine j_iload_n hJ dX8_enter_14 rfl 2 rfl ?_
  refine j_iconst hJ dX8_enter_15 ?_
  refine j_iadd hJ dX8_enter_16 ?_
  have g3 := hF.1; have hF := hF.2
  exact j_iret hJ rfl g3 dX8_enter_17 hF
def W_X8_nextLink (ad : Nat → Nat) (Q : Int → MM → Prop) (av : List Value) (M : MM) : Prop := ∃ (c : Nat) (p1 : Nat) (p2 : Int), av = [.ref (ad c), .ref (ad p1), .int (Ii p2)] ∧ isS c ∧ isP p1 ∧ ri_ p2 ∧ w_X8_nextLink c p1 Q p2 M
set_option maxHeartbeats 4000000 in
set_option maxRecDepth 100000 in
theorem k_X8_nextLink_b64 {l : Launch} {D : va_G} {cy : Nat → ClassId} {ad : Nat → Nat} {Q : Int → MM → Prop} {J : Nat → List (Nat × Value) → List Value → MM → Prop} (hin : jIn ad ksC.length) {c p1 : Nat} (hc : isS c) (hp1 : isP p1) (hJ : jOk l D vwCl (tyC cy) cy ad ftC ksC (XtC ad) Om RX8 cX8_nextLink 4 1 ({ frames := 0, cells := 0, slots := 0, locals := 0 } : Room) Q J) {K0 : Int → MM → Prop} (hK0 : ∀ (x2 : Int) (M : MM), ri_ x2 → K0 x2 M → J 0 [(0, .ref (ad c)), (1, .ref (ad p1)), (2, .int (Ii x2))] [] M) : ∀ (x2 : Int) (M : MM), ri_ x2 → w_X8_nextLink_b64 c p1 Q K0 x2 M → J 64 [(0, .ref (ad c)), (1, .ref (ad p1)), (2, .int (Ii x2))] [] M := by
  intro x2 M gx2 hF
  unfold w_X8_nextLink_b64 at hF
  refine j_goto hJ 0 dX8_nextLink_64 (by decide) ?_
  exact j_sub hJ [0, 1, 2] rfl (hK0 x2 _ gx2 hF)
set_option maxHeartbeats 4000000 in
set_option maxRecDepth 100000 in
theorem k_X8_nextLink_b0 {l : Launch} {D : va_G} {cy : Nat → ClassId} {ad : Nat → Nat} {Q : Int → MM → Prop} {J : Nat → List (Nat × Value) → List Value → MM → Prop} (hin : jIn ad ksC.length) {c p1 : Nat} (hc : isS c) (hp1 : isP p1) (hJ : jOk l D vwCl (tyC cy) cy ad ftC ksC (XtC ad) Om RX8 cX8_nextLink 4 1 ({ frames := 0, cells := 0, slots := 0, locals := 0 } : Room) Q J)  : ∀ (x2 : Int) (M : MM), ri_ x2 → w_X8_nextLink_b0 c p1 Q  x2 M → J 0 [(0, .ref (ad c)), (1, .ref (ad p1)), (2, .int (Ii x2))] [] M := by
  have H9 : ∀ (n : Nat) (x2 : Int) (M : MM), ri_ x2 → jit (fun _ _ => False) (wb_X8_nextLink_b0 c p1 Q ) n x2 M → J 0 [(0, .ref (ad c)), (1, .ref (ad p1)), (2, .int (Ii x2))] [] M := by
    intro n
    induction n with
    | zero => intro x2 M gx2 hF; exact False.elim hF
    | succ n ih =>
    intro x2 M gx2 hF
    have hF : wb_X8_nextLink_b0 c p1 Q  (jit (fun _ _ => False) (wb_X8_nextLink_b0 c p1 Q ) n) x2 M := hF
    unfold wb_X8_nextLink_b0 at hF
    refine j_aload_n hJ dX8_nextLink_0 rfl 0 rfl ?_
    refine j_gr (e := (c + 13)) hJ (kS_0 hc) fC_11_16 fl_X8_54 dX8_nextLink_1 rfl ?_
    refine j_iload_n hJ dX8_nextLink_4 rfl 2 rfl ?_
    refine j_iald hJ gx2 (kS_13 hc) hF.1 hF.2.1 dX8_nextLink_5 (fun v1 ev1 gv1 => ?_)
    have hF := hF.2.2 v1 ev1 gv1
    refine j_aload_n hJ dX8_nextLink_6 rfl 1 rfl ?_
    refine j_gr (e := (p1 + 4)) hJ (kP_0 hp1) fC_8_4 fl_X8_79 dX8_nextLink_7 rfl ?_
    refine j_iload_n hJ dX8_nextLink_10 rfl 2 rfl ?_
    refine j_iconst hJ dX8_nextLink_11 ?_
    refine j_iadd hJ dX8_nextLink_12 ?_
    have g2 := hF.1; have hF := hF.2
    refine j_iald hJ g2 (kP_4 hp1) hF.1 hF.2.1 dX8_nextLink_13 (fun v3 ev3 gv3 => ?_)
    have hF := hF.2.2 v3 ev3 gv3
    refine j_icmp_ge hJ 67 gv1 gv3 dX8_nextLink_14 (by decide) (fun z4 => ?_) (fun z4 => ?_)
    · have hF := hF.1 z4
      refine j_iconst hJ dX8_nextLink_67 ?_
      exact j_iret hJ rfl rk_m1 dX8_nextLink_68 hF
    · have hF := hF.2 z4
      refine j_aload_n hJ dX8_nextLink_17 rfl 0 rfl ?_
      refine j_gr (e := (c + 13)) hJ (kS_0 hc) fC_11_16 fl_X8_54 dX8_nextLink_18 rfl ?_
      refine j_iload_n hJ dX8_nextLink_21 rfl 2 rfl ?_
      refine j_iald hJ gx2 (kS_13 hc) hF.1 hF.2.1 dX8_nextLink_22 (fun v5 ev5 gv5 => ?_)
      have hF := hF.2.2 v5 ev5 gv5
      refine j_istore_n (lv' := [(3, .int (Ii v5)), (0, .ref (ad c)), (1, .ref (ad p1)), (2, .int (Ii x2))]) hJ dX8_nextLink_23 rfl (by decide) rfl ?_
      refine j_aload_n hJ dX8_nextLink_24 rfl 1 rfl ?_
      refine j_gr (e := (c + 13)) hJ (kS_0 hc) fC_11_16 fl_X8_54 dX8_nextLink_25 rfl ?_
      refine j_iload_n hJ dX8_nextLink_28 rfl 3 rfl ?_
      refine j_dup2_11 hJ dX8_nextLink_29 rfl rfl ?_
      refine j_iald hJ gx2 (kS_13 hc) hF.1 hF.2.1 dX8_nextLink_30 (fun v6 ev6 gv6 => ?_)
      have hF := hF.2.2 v6 ev6 gv6
      refine j_iconst hJ dX8_nextLink_31 ?_
      refine j_iadd hJ dX8_nextLink_32 ?_
      have g7 := hF.1; have hF := hF.2
      refine j_iast hJ gx2 g7 (kS_13 hc) hF.1 hF.2.1 dX8_nextLink_33 (fun M8 eM8 => ?_)
      have hF := hF.2.2 M8 eM8
      refine j_aload_n hJ dX8_nextLink_34 rfl 2 rfl ?_
      refine j_gr (e := (p1 + 10)) hJ (kP_0 hp1) fC_8_10 fl_X8_82 dX8_nextLink_35 rfl ?_
      refine j_iload_n hJ dX8_nextLink_38 rfl 0 rfl ?_
      refine j_zald hJ gv5 (kP_10 hp1) hF.1 hF.2.1 dX8_nextLink_39 (fun v9 ev9 gv9 => ?_)
      have hF := hF.2.2 v9 ev9 gv9
      refine j_if_eq hJ 64 (jz_ri gv9) dX8_nextLink_40 (by decide) (fun z10 => ?_) (fun z10 => ?_)
      · have hF := hF.1 z10
        exact j_sub hJ [1, 2, 3] rfl (k_X8_nextLink_b64 hin hc hp1 hJ ih x2 _ gx2 hF)
      · have hF := hF.2 z10
        refine j_aload_n hJ dX8_nextLink_43 rfl 2 rfl ?_
        refine j_gr (e := (p1 + 9)) hJ (kP_0 hp1) fC_8_9 fl_X8_86 dX8_nextLink_44 rfl ?_
        refine j_iload_n hJ dX8_nextLink_47 rfl 0 rfl ?_
        refine j_lald hJ gv5 (kP_9 hp1) hF.1 hF.2.1 dX8_nextLink_48 (fun v11 ev11 gv11 => ?_)
        have hF := hF.2.2 v11 ev11 gv11
        refine j_ldc2 hJ (-1) om_431 (by decide) dX8_nextLink_49 ?_
        refine j_lcmp_eq hJ 64 gv11 lk_m1 dX8_nextLink_52 dX8_nextLink_53 (by decide) (fun z12 => ?_) (fun z12 => ?_)
        · have hF := hF.1 z12
          exact j_sub hJ [1, 2, 3] rfl (k_X8_nextLink_b64 hin hc hp1 hJ ih x2 _ gx2 hF)
        · have hF := hF.2 z12
          refine j_aload_n hJ dX8_nextLink_56 rfl 2 rfl ?_
          refine j_gr (e := (p1 + 9)) hJ (kP_0 hp1) fC_8_9 fl_X8_86 dX8_nextLink_57 rfl ?_
          refine j_iload_n hJ dX8_nextLink_60 rfl 0 rfl ?_
          refine j_lald hJ gv5 (kP_9 hp1) hF.1 hF.2.1 dX8_nextLink_61 (fun v13 ev13 gv13 => ?_)
          have hF := hF.2.2 v13 ev13 gv13
          refine j_l2i hJ dX8_nextLink_62 ?_
          have g14 := hF.1; have hF := hF.2
          exact j_iret hJ rfl g14 dX8_nextLink_63 hF
  intro x2 M gx2 hF
  obtain ⟨n, hF⟩ := hF
  exact H9 n x2 M gx2 hF
set_option maxHeartbeats 4000000 in
set_option maxRecDepth 100000 in
theorem c_X8_nextLink {l : Launch} {D : va_G} {cy : Nat → ClassId} {ad : Nat → Nat} (hin : jIn ad ksC.length) : jCN l D vwCl (tyC cy) cy ad ftC ksC (XtC ad) yX8_nextLink (.code yX8_nextLink cX8_nextLink 4 (some .int) :: Om) ({ frames := 0, cells := 0, slots := 0, locals := 0 } : Room) 1 (W_X8_nextLink ad) := by
  refine jCN_of (y := yX8_nextLink) (cc := cX8_nextLink) (nL := 4) (rk := 1) (rm := ({ frames := 0, cells := 0, slots := 0, locals := 0 } : Room)) (own := RX8) (tyC_ok cy) hin (XtC_ok ad) Om_good (by decide) rfl ?_
  intro Q av M hF
  obtain ⟨c, p1, p2, rfl, hc, hp1, gp2, hF⟩ := hF
  refine ⟨Nat.le_of_ble_eq_true rfl, fun J hJ => ?_⟩
  show J 0 [(0, .ref (ad c)), (1, .ref (ad p1)), (2, .int (Ii p2))] [] M
  unfold w_X8_nextLink at hF
  exact j_sub hJ [0, 1, 2] rfl (k_X8_nextLink_b0 hin hc hp1 hJ  p2 _ gp2 hF)
def W_X8_closeRing (ad : Nat → Nat) (Q : Int → MM → Prop) (av : List Value) (M : MM) : Prop := ∃ (c : Nat) (p1 : Int) (p2 : Int), av = [.ref (ad c), .int (Ii p1), .int (Ii p2)] ∧ isS c ∧ ri_ p1 ∧ ri_ p2 ∧ w_X8_closeRing c Q p1 p2 M
set_option maxHeartbeats 4000000 in
set_option maxRecDepth 100000 in
theorem k_X8_closeRing_b4 {l : Launch} {D : va_G} {cy : Nat → ClassId} {ad : Nat → Nat} {Q : Int → MM → Prop} {J : Nat → List (Nat × Value) → List Value → MM → Prop} (hin : jIn ad ksC.length) {c : Nat} (hc : isS c) (hJ : jOk l D vwCl (tyC cy) cy ad ftC ksC (XtC ad) Om RX8 cX8_closeRing 4 1 ({ frames := 0, cells := 0, slots := 0, locals := 0 } : Room) Q J)  : ∀ (x1 x3 : Int) (M : MM), ri_ x1 → ri_ x3 → w_X8_closeRing_b4 c Q  x1 x3 M → J 4 [(0, .ref (ad c)), (1, .int (Ii x1)), (3, .int (Ii x3))] [] M := by
  have H9 : ∀ (n : Nat) (x1 x3 : Int) (M : MM), ri_ x1 → ri_ x3 → jit (fun _ _ _ => False) (wb_X8_closeRing_b4 c Q ) n x1 x3 M → J 4 [(0, .ref (ad c)), (1, .int (Ii x1)), (3, .int (Ii x3))] [] M := by
    intro n
    induction n with
    | zero => intro x1 x3 M gx1 gx3 hF; exact False.elim hF
    | succ n ih =>
    intro x1 x3 M gx1 gx3 hF
    have hF : wb_X8_closeRing_b4 c Q  (jit (fun _ _ _ => False) (wb_X8_closeRing_b4 c Q ) n) x1 x3 M := hF
    unfold wb_X8_closeRing_b4 at hF
    refine j_iload_n hJ dX8_closeRing_4 rfl 2 rfl ?_
    refine j_if_lt hJ 38 gx3 dX8_closeRing_5 (by decide) (fun z1 => ?_) (fun z1 => ?_)
    · have hF := hF.1 z1
      refine j_iconst hJ dX8_closeRing_38 ?_
      exact j_iret hJ rfl rk_0 dX8_closeRing_39 hF
    · have hF := hF.2 z1
      refine j_aload_n hJ dX8_closeRing_8 rfl 0 rfl ?_
      refine j_gr (e := (c + 7)) hJ (kS_0 hc) fC_11_8 fl_X8_36 dX8_closeRing_9 rfl ?_
      refine j_aload_n hJ dX8_closeRing_12 rfl 0 rfl ?_
      refine j_gr (e := (c + 11)) hJ (kS_0 hc) fC_11_14 fl_X8_48 dX8_closeRing_13 rfl ?_
      refine j_iload_n hJ dX8_closeRing_16 rfl 2 rfl ?_
      refine j_iald hJ gx3 (kS_11 hc) hF.1 hF.2.1 dX8_closeRing_17 (fun v2 ev2 gv2 => ?_)
      have hF := hF.2.2 v2 ev2 gv2
      refine j_iload_n hJ dX8_closeRing_18 rfl 1 rfl ?_
      refine j_iast hJ gv2 gx1 (kS_7 hc) hF.1 hF.2.1 dX8_closeRing_19 (fun M3 eM3 => ?_)
      have hF := hF.2.2 M3 eM3
      refine j_aload_n hJ dX8_closeRing_20 rfl 0 rfl ?_
      refine j_gr (e := (c + 11)) hJ (kS_0 hc) fC_11_14 fl_X8_48 dX8_closeRing_21 rfl ?_
      refine j_iload_n hJ dX8_closeRing_24 rfl 2 rfl ?_
      refine j_iald hJ gx3 (kS_11 hc) hF.1 hF.2.1 dX8_closeRing_25 (fun v4 ev4 gv4 => ?_)
      have hF := hF.2.2 v4 ev4 gv4
      refine j_iload_n hJ dX8_closeRing_26 rfl 1 rfl ?_
      refine j_icmp_ne hJ 32 gv4 gx1 dX8_closeRing_27 (by decide) (fun z5 => ?_) (fun z5 => ?_)
      · have hF := hF.1 z5
        refine j_iinc (lv' := [(3, .int (Ii (x3 + (-1)))), (0, .ref (ad c)), (1, .int (Ii x1))]) (k := 2) hJ dX8_closeRing_32 rfl (by decide) rfl ?_
        have g6 := hF.1; have hF := hF.2
        refine j_goto hJ 4 dX8_closeRing_35 (by decide) ?_
        exact j_sub hJ [1, 2, 0] rfl (ih x1 (x3 + (-1)) _ gx1 g6 hF)
      · have hF := hF.2 z5
        refine j_iload_n hJ dX8_closeRing_30 rfl 2 rfl ?_
        exact j_iret hJ rfl gx3 dX8_closeRing_31 hF
  intro x1 x3 M gx1 gx3 hF
  obtain ⟨n, hF⟩ := hF
  exact H9 n x1 x3 M gx1 gx3 hF
set_option maxHeartbeats 4000000 in
set_option maxRecDepth 100000 in
theorem c_X8_closeRing {l : Launch} {D : va_G} {cy : Nat → ClassId} {ad : Nat → Nat} (hin : jIn ad ksC.length) : jCN l D vwCl (tyC cy) cy ad ftC ksC (XtC ad) yX8_closeRing (.code yX8_closeRing cX8_closeRing 4 (some .int) :: Om) ({ frames := 0, cells := 0, slots := 0, locals := 0 } : Room) 1 (W_X8_closeRing ad) := by
  refine jCN_of (y := yX8_closeRing) (cc := cX8_closeRing) (nL := 4) (rk := 1) (rm := ({ frames := 0, cells := 0, slots := 0, locals := 0 } : Room)) (own := RX8) (tyC_ok cy) hin (XtC_ok ad) Om_good (by decide) rfl ?_
  intro Q av M hF
  obtain ⟨c, p1, p2, rfl, hc, gp1, gp2, hF⟩ := hF
  refine ⟨Nat.le_of_ble_eq_true rfl, fun J hJ => ?_⟩
  show J 0 [(0, .ref (ad c)), (1, .int (Ii p1)), (2, .int (Ii p2))] [] M
  unfold w_X8_closeRing at hF
  refine j_iload_n hJ dX8_closeRing_0 rfl 2 rfl ?_
  refine j_iconst hJ dX8_closeRing_1 ?_
  refine j_isub hJ dX8_closeRing_2 ?_
  have g1 := hF.1; have hF := hF.2
  refine j_istore_n (lv' := [(3, .int (Ii (p2 - 1))), (0, .ref (ad c)), (1, .int (Ii p1)), (2, .int (Ii p2))]) hJ dX8_closeRing_3 rfl (by decide) rfl ?_
  exact j_sub hJ [1, 2, 0] rfl (k_X8_closeRing_b4 hin hc hJ  p1 (p2 - 1) _ gp1 g1 hF)
def W_X8_explore (ad : Nat → Nat) (Q : Int → MM → Prop) (av : List Value) (M : MM) : Prop := ∃ (c : Nat) (p1 : Nat) (p2 : Int) (p3 : Int), av = [.ref (ad c), .ref (ad p1), .int (Ii p2), .int (Ii p3)] ∧ isS c ∧ isP p1 ∧ ri_ p2 ∧ ri_ p3 ∧ w_X8_explore c p1 Q p2 p3 M
set_option maxHeartbeats 4000000 in
set_option maxRecDepth 100000 in
theorem k_X8_explore_b228 {l : Launch} {D : va_G} {cy : Nat → ClassId} {ad : Nat → Nat} {Q : Int → MM → Prop} {J : Nat → List (Nat × Value) → List Value → MM → Prop} (hin : jIn ad ksC.length) {c p1 : Nat} (hc : isS c) (hp1 : isP p1) (hJ : jOk l D vwCl (tyC cy) cy ad ftC ksC (XtC ad) Om RX8 cX8_explore 10 1 ({ frames := 1, cells := 0, slots := 0, locals := 40 } : Room) Q J) {K31 : Int → Int → Int → Int → MM → Prop} (hK31 : ∀ (x4 x5 x6 x7 : Int) (M : MM), ri_ x4 → ri_ x5 → ri_ x6 → ri_ x7 → K31 x4 x5 x6 x7 M → J 31 [(0, .ref (ad c)), (1, .ref (ad p1)), (4, .int (Ii x4)), (5, .int (Ii x5)), (6, .int (Ii x6)), (7, .int (Ii x7))] [] M) : ∀ (x4 x5 x6 x7 : Int) (M : MM), ri_ x4 → ri_ x5 → ri_ x6 → ri_ x7 → w_X8_explore_b228 c p1 Q K31 x4 x5 x6 x7 M → J 228 [(0, .ref (ad c)), (1, .ref (ad p1)), (4, .int (Ii x4)), (5, .int (Ii x5)), (6, .int (Ii x6)), (7, .int (Ii x7))] [] M := by
  intro x4 x5 x6 x7 M gx4 gx5 gx6 gx7 hF
  unfold w_X8_explore_b228 at hF
  refine j_iinc (lv' := [(7, .int (Ii (x7 + 1))), (0, .ref (ad c)), (1, .ref (ad p1)), (4, .int (Ii x4)), (5, .int (Ii x5)), (6, .int (Ii x6))]) (k := 5) hJ dX8_explore_228 rfl (by decide) rfl ?_
  have g1 := hF.1; have hF := hF.2
  refine j_goto hJ 31 dX8_explore_231 (by decide) ?_
  exact j_sub hJ [1, 2, 3, 4, 5, 0] rfl (hK31 x4 x5 x6 (x7 + 1) _ gx4 gx5 gx6 g1 hF)
set_option maxHeartbeats 4000000 in
set_option maxRecDepth 100000 in
theorem k_X8_explore_b115 {l : Launch} {D : va_G} {cy : Nat → ClassId} {ad : Nat → Nat} {Q : Int → MM → Prop} {J : Nat → List (Nat × Value) → List Value → MM → Prop} (hin : jIn ad ksC.length) {c p1 : Nat} (hc : isS c) (hp1 : isP p1) (hJ : jOk l D vwCl (tyC cy) cy ad ftC ksC (XtC ad) Om RX8 cX8_explore 10 1 ({ frames := 1, cells := 0, slots := 0, locals := 40 } : Room) Q J) {K31 : Int → Int → Int → Int → MM → Prop} (hK31 : ∀ (x4 x5 x6 x7 : Int) (M : MM), ri_ x4 → ri_ x5 → ri_ x6 → ri_ x7 → K31 x4 x5 x6 x7 M → J 31 [(0, .ref (ad c)), (1, .ref (ad p1)), (4, .int (Ii x4)), (5, .int (Ii x5)), (6, .int (Ii x6)), (7, .int (Ii x7))] [] M) : ∀ (x4 x5 x6 x7 x8 : Int) (M : MM), ri_ x4 → ri_ x5 → ri_ x6 → ri_ x7 → ri_ x8 → w_X8_explore_b115 c p1 Q K31 x4 x5 x6 x7 x8 M → J 115 [(0, .ref (ad c)), (1, .ref (ad p1)), (4, .int (Ii x4)), (5, .int (Ii x5)), (6, .int (Ii x6)), (7, .int (Ii x7)), (8, .int (Ii x8))] [] M := by
  intro x4 x5 x6 x7 x8 M gx4 gx5 gx6 gx7 gx8 hF
  unfold w_X8_explore_b115 at hF
  refine j_aload_n hJ dX8_explore_115 rfl 0 rfl ?_
  refine j_gr (e := (c + 10)) hJ (kS_0 hc) fC_11_13 fl_X8_45 dX8_explore_116 rfl ?_
  refine j_iload hJ dX8_explore_119 6 rfl ?_
  refine j_iald hJ gx8 (kS_10 hc) hF.1 hF.2.1 dX8_explore_121 (fun v1 ev1 gv1 => ?_)
  have hF := hF.2.2 v1 ev1 gv1
  refine j_aload_n hJ dX8_explore_122 rfl 0 rfl ?_
  refine j_gr (e := (c + 9)) hJ (kS_0 hc) fC_11_12 fl_X8_42 dX8_explore_123 rfl ?_
  refine j_iload hJ dX8_explore_126 6 rfl ?_
  refine j_iald hJ gx8 (kS_9 hc) hF.1 hF.2.1 dX8_explore_128 (fun v2 ev2 gv2 => ?_)
  have hF := hF.2.2 v2 ev2 gv2
  refine j_icmp_ne hJ 228 gv1 gv2 dX8_explore_129 (by decide) (fun z3 => ?_) (fun z3 => ?_)
  · have hF := hF.1 z3
    exact j_sub hJ [0, 1, 2, 3, 4, 5] rfl (k_X8_explore_b228 hin hc hp1 hJ hK31 x4 x5 x6 x7 _ gx4 gx5 gx6 gx7 hF)
  · have hF := hF.2 z3
    refine j_aload_n hJ dX8_explore_132 rfl 0 rfl ?_
    refine j_iload hJ dX8_explore_133 6 rfl ?_
    refine j_iload hJ dX8_explore_135 4 rfl ?_
    refine j_callVi hJ (c_X8_closeRing (l := l) (D := D) (cy := cy) (ad := ad) hin) rfl om_481 ⟨rfl, rfl, Nat.le_of_ble_eq_true rfl, Nat.le_of_ble_eq_true rfl⟩ [.int (Ii x8), .int (Ii x6)] mv_X8_139 hd_X8_closeRingv (kS_0 hc) rfl rfl rfl (Nat.le_of_ble_eq_true rfl) dX8_explore_137 ⟨c, x8, x6, rfl, hc, gx8, gx6, hF⟩ (fun r4 M5 gr4 qM5 => ?_)
    have hF := qM5 gr4
    refine j_istore (lv' := [(6, .int (Ii r4)), (0, .ref (ad c)), (1, .ref (ad p1)), (4, .int (Ii x4)), (5, .int (Ii x5)), (7, .int (Ii x7)), (8, .int (Ii x8))]) hJ dX8_explore_140 (by decide) rfl ?_
    refine j_goto hJ 228 dX8_explore_142 (by decide) ?_
    exact j_sub hJ [1, 2, 3, 4, 0, 5] rfl (k_X8_explore_b228 hin hc hp1 hJ hK31 x4 x5 r4 x7 _ gx4 gx5 gr4 gx7 hF)
set_option maxHeartbeats 4000000 in
set_option maxRecDepth 100000 in
theorem k_X8_explore_b31 {l : Launch} {D : va_G} {cy : Nat → ClassId} {ad : Nat → Nat} {Q : Int → MM → Prop} {J : Nat → List (Nat × Value) → List Value → MM → Prop} (hin : jIn ad ksC.length) {c p1 : Nat} (hc : isS c) (hp1 : isP p1) (hJ : jOk l D vwCl (tyC cy) cy ad ftC ksC (XtC ad) Om RX8 cX8_explore 10 1 ({ frames := 1, cells := 0, slots := 0, locals := 40 } : Room) Q J)  : ∀ (x4 x5 x6 x7 : Int) (M : MM), ri_ x4 → ri_ x5 → ri_ x6 → ri_ x7 → w_X8_explore_b31 c p1 Q  x4 x5 x6 x7 M → J 31 [(0, .ref (ad c)), (1, .ref (ad p1)), (4, .int (Ii x4)), (5, .int (Ii x5)), (6, .int (Ii x6)), (7, .int (Ii x7))] [] M := by
  have H9 : ∀ (n : Nat) (x4 x5 x6 x7 : Int) (M : MM), ri_ x4 → ri_ x5 → ri_ x6 → ri_ x7 → jit (fun _ _ _ _ _ => False) (wb_X8_explore_b31 c p1 Q ) n x4 x5 x6 x7 M → J 31 [(0, .ref (ad c)), (1, .ref (ad p1)), (4, .int (Ii x4)), (5, .int (Ii x5)), (6, .int (Ii x6)), (7, .int (Ii x7))] [] M := by
    intro n
    induction n with
    | zero => intro x4 x5 x6 x7 M gx4 gx5 gx6 gx7 hF; exact False.elim hF
    | succ n ih =>
    intro x4 x5 x6 x7 M gx4 gx5 gx6 gx7 hF
    have hF : wb_X8_explore_b31 c p1 Q  (jit (fun _ _ _ _ _ => False) (wb_X8_explore_b31 c p1 Q ) n) x4 x5 x6 x7 M := hF
    unfold wb_X8_explore_b31 at hF
    refine j_iload hJ dX8_explore_31 5 rfl ?_
    refine j_ldc hJ 1000000 om_416 (by decide) dX8_explore_33 ?_
    refine j_icmp_ge hJ 234 gx7 rk_1000000 dX8_explore_35 (by decide) (fun z1 => ?_) (fun z1 => ?_)
    · have hF := hF.1 z1
      refine j_iload hJ dX8_explore_234 2 rfl ?_
      exact j_iret hJ rfl gx4 dX8_explore_236 hF
    · have hF := hF.2 z1
      refine j_iload hJ dX8_explore_38 3 rfl ?_
      refine j_if_le hJ 234 gx5 dX8_explore_40 (by decide) (fun z2 => ?_) (fun z2 => ?_)
      · have hF := hF.1 z2
        refine j_iload hJ dX8_explore_234 2 rfl ?_
        exact j_iret hJ rfl gx4 dX8_explore_236 hF
      · have hF := hF.2 z2
        refine j_aload_n hJ dX8_explore_43 rfl 0 rfl ?_
        refine j_gr (e := (c + 12)) hJ (kS_0 hc) fC_11_15 fl_X8_51 dX8_explore_44 rfl ?_
        refine j_iload hJ dX8_explore_47 3 rfl ?_
        refine j_iconst hJ dX8_explore_49 ?_
        refine j_isub hJ dX8_explore_50 ?_
        have g3 := hF.1; have hF := hF.2
        refine j_iald hJ g3 (kS_12 hc) hF.1 hF.2.1 dX8_explore_51 (fun v4 ev4 gv4 => ?_)
        have hF := hF.2.2 v4 ev4 gv4
        refine j_istore (lv' := [(8, .int (Ii v4)), (0, .ref (ad c)), (1, .ref (ad p1)), (4, .int (Ii x4)), (5, .int (Ii x5)), (6, .int (Ii x6)), (7, .int (Ii x7))]) hJ dX8_explore_52 (by decide) rfl ?_
        refine j_aload_n hJ dX8_explore_54 rfl 1 rfl ?_
        refine j_aload_n hJ dX8_explore_55 rfl 2 rfl ?_
        refine j_iload hJ dX8_explore_56 0 rfl ?_
        refine j_callVi hJ (c_X8_nextLink (l := l) (D := D) (cy := cy) (ad := ad) hin) rfl om_476 ⟨rfl, rfl, Nat.le_of_ble_eq_true rfl, Nat.le_of_ble_eq_true rfl⟩ [.ref (ad p1), .int (Ii v4)] mv_X8_130 hd_X8_nextLinkv (kS_0 hc) rfl rfl rfl (Nat.le_of_ble_eq_true rfl) dX8_explore_58 ⟨c, p1, v4, rfl, hc, hp1, gv4, hF⟩ (fun r5 M6 gr5 qM6 => ?_)
        have hF := qM6 gr5
        refine j_istore (lv' := [(9, .int (Ii r5)), (8, .int (Ii v4)), (0, .ref (ad c)), (1, .ref (ad p1)), (4, .int (Ii x4)), (5, .int (Ii x5)), (6, .int (Ii x6)), (7, .int (Ii x7))]) hJ dX8_explore_61 (by decide) rfl ?_
        refine j_iload hJ dX8_explore_63 0 rfl ?_
        refine j_iconst hJ dX8_explore_65 ?_
        refine j_icmp_ne hJ 145 gr5 rk_m1 dX8_explore_66 (by decide) (fun z7 => ?_) (fun z7 => ?_)
        · have hF := hF.1 z7
          refine j_aload_n hJ dX8_explore_145 rfl 2 rfl ?_
          refine j_gr (e := (c + 9)) hJ (kS_0 hc) fC_11_12 fl_X8_42 dX8_explore_146 rfl ?_
          refine j_iload hJ dX8_explore_149 0 rfl ?_
          refine j_iald hJ gr5 (kS_9 hc) hF.1 hF.2.1 dX8_explore_151 (fun v8 ev8 gv8 => ?_)
          have hF := hF.2.2 v8 ev8 gv8
          refine j_iconst hJ dX8_explore_152 ?_
          refine j_icmp_ne hJ 193 gv8 rk_m1 dX8_explore_153 (by decide) (fun z9 => ?_) (fun z9 => ?_)
          · have hF := hF.1 z9
            refine j_aload_n hJ dX8_explore_193 rfl 2 rfl ?_
            refine j_gr (e := (c + 7)) hJ (kS_0 hc) fC_11_8 fl_X8_36 dX8_explore_194 rfl ?_
            refine j_iload hJ dX8_explore_197 0 rfl ?_
            refine j_iald hJ gr5 (kS_7 hc) hF.1 hF.2.1 dX8_explore_199 (fun v10 ev10 gv10 => ?_)
            have hF := hF.2.2 v10 ev10 gv10
            refine j_iconst hJ dX8_explore_200 ?_
            refine j_icmp_ne hJ 228 gv10 rk_m1 dX8_explore_201 (by decide) (fun z11 => ?_) (fun z11 => ?_)
            · have hF := hF.1 z11
              exact j_sub hJ [2, 3, 4, 5, 6, 7] rfl (k_X8_explore_b228 hin hc hp1 hJ ih x4 x5 x6 x7 _ gx4 gx5 gx6 gx7 hF)
            · have hF := hF.2 z11
              refine j_aload_n hJ dX8_explore_204 rfl 2 rfl ?_
              refine j_gr (e := (c + 10)) hJ (kS_0 hc) fC_11_13 fl_X8_45 dX8_explore_205 rfl ?_
              refine j_iload hJ dX8_explore_208 1 rfl ?_
              refine j_aload_n hJ dX8_explore_210 rfl 2 rfl ?_
              refine j_gr (e := (c + 10)) hJ (kS_0 hc) fC_11_13 fl_X8_45 dX8_explore_211 rfl ?_
              refine j_iload hJ dX8_explore_214 1 rfl ?_
              refine j_iald hJ gv4 (kS_10 hc) hF.1 hF.2.1 dX8_explore_216 (fun v12 ev12 gv12 => ?_)
              have hF := hF.2.2 v12 ev12 gv12
              refine j_aload_n hJ dX8_explore_217 rfl 2 rfl ?_
              refine j_gr (e := (c + 9)) hJ (kS_0 hc) fC_11_12 fl_X8_42 dX8_explore_218 rfl ?_
              refine j_iload hJ dX8_explore_221 0 rfl ?_
              refine j_iald hJ gr5 (kS_9 hc) hF.1 hF.2.1 dX8_explore_223 (fun v13 ev13 gv13 => ?_)
              have hF := hF.2.2 v13 ev13 gv13
              refine j_mmin hJ gv12 gv13 ⟨om_480, om_11, om_12, om_13⟩ ⟨Nat.le_of_ble_eq_true rfl, Nat.le_of_ble_eq_true rfl⟩ dX8_explore_224 ?_
              refine j_iast hJ gv4 (ri_min gv12 gv13) (kS_10 hc) hF.1 hF.2.1 dX8_explore_227 (fun M14 eM14 => ?_)
              have hF := hF.2.2 M14 eM14
              exact j_sub hJ [2, 3, 4, 5, 6, 7] rfl (k_X8_explore_b228 hin hc hp1 hJ ih x4 x5 x6 x7 _ gx4 gx5 gx6 gx7 hF)
          · have hF := hF.2 z9
            refine j_aload_n hJ dX8_explore_156 rfl 2 rfl ?_
            refine j_iload hJ dX8_explore_157 0 rfl ?_
            refine j_iload hJ dX8_explore_159 4 rfl ?_
            refine j_callVi hJ (c_X8_enter (l := l) (D := D) (cy := cy) (ad := ad) hin) rfl om_472 ⟨rfl, rfl, Nat.le_of_ble_eq_true rfl, Nat.le_of_ble_eq_true rfl⟩ [.int (Ii r5), .int (Ii x4)] mv_X8_127 hd_X8_enterv (kS_0 hc) rfl rfl rfl (Nat.le_of_ble_eq_true rfl) dX8_explore_161 ⟨c, r5, x4, rfl, hc, gr5, gx4, hF⟩ (fun r15 M16 gr15 qM16 => ?_)
            have hF := qM16 gr15
            refine j_istore (lv' := [(4, .int (Ii r15)), (9, .int (Ii r5)), (8, .int (Ii v4)), (0, .ref (ad c)), (1, .ref (ad p1)), (5, .int (Ii x5)), (6, .int (Ii x6)), (7, .int (Ii x7))]) hJ dX8_explore_164 (by decide) rfl ?_
            refine j_aload_n hJ dX8_explore_166 rfl 3 rfl ?_
            refine j_gr (e := (c + 12)) hJ (kS_0 hc) fC_11_15 fl_X8_51 dX8_explore_167 rfl ?_
            refine j_iload hJ dX8_explore_170 5 rfl ?_
            refine j_iload hJ dX8_explore_172 1 rfl ?_
            refine j_iast hJ gx5 gr5 (kS_12 hc) hF.1 hF.2.1 dX8_explore_174 (fun M17 eM17 => ?_)
            have hF := hF.2.2 M17 eM17
            refine j_iinc (lv' := [(5, .int (Ii (x5 + 1))), (4, .int (Ii r15)), (9, .int (Ii r5)), (8, .int (Ii v4)), (0, .ref (ad c)), (1, .ref (ad p1)), (6, .int (Ii x6)), (7, .int (Ii x7))]) (k := 5) hJ dX8_explore_175 rfl (by decide) rfl ?_
            have g18 := hF.1; have hF := hF.2
            refine j_aload_n hJ dX8_explore_178 rfl 4 rfl ?_
            refine j_gr (e := (c + 11)) hJ (kS_0 hc) fC_11_14 fl_X8_48 dX8_explore_179 rfl ?_
            refine j_iload hJ dX8_explore_182 6 rfl ?_
            refine j_iload hJ dX8_explore_184 2 rfl ?_
            refine j_iast hJ gx6 gr5 (kS_11 hc) hF.1 hF.2.1 dX8_explore_186 (fun M19 eM19 => ?_)
            have hF := hF.2.2 M19 eM19
            refine j_iinc (lv' := [(6, .int (Ii (x6 + 1))), (5, .int (Ii (x5 + 1))), (4, .int (Ii r15)), (9, .int (Ii r5)), (8, .int (Ii v4)), (0, .ref (ad c)), (1, .ref (ad p1)), (7, .int (Ii x7))]) (k := 6) hJ dX8_explore_187 rfl (by decide) rfl ?_
            have g20 := hF.1; have hF := hF.2
            refine j_goto hJ 228 dX8_explore_190 (by decide) ?_
            exact j_sub hJ [5, 6, 2, 1, 0, 7] rfl (k_X8_explore_b228 hin hc hp1 hJ ih r15 (x5 + 1) (x6 + 1) x7 _ gr15 g18 g20 gx7 hF)
        · have hF := hF.2 z7
          refine j_iinc (lv' := [(5, .int (Ii (x5 + (-1)))), (9, .int (Ii r5)), (8, .int (Ii v4)), (0, .ref (ad c)), (1, .ref (ad p1)), (4, .int (Ii x4)), (6, .int (Ii x6)), (7, .int (Ii x7))]) (k := 5) hJ dX8_explore_69 rfl (by decide) rfl ?_
          have g21 := hF.1; have hF := hF.2
          refine j_iload hJ dX8_explore_72 0 rfl ?_
          refine j_if_le hJ 115 g21 dX8_explore_74 (by decide) (fun z22 => ?_) (fun z22 => ?_)
          · have hF := hF.1 z22
            exact j_sub hJ [3, 4, 5, 0, 6, 7, 2] rfl (k_X8_explore_b115 hin hc hp1 hJ ih x4 (x5 + (-1)) x6 x7 v4 _ gx4 g21 gx6 gx7 gv4 hF)
          · have hF := hF.2 z22
            refine j_aload_n hJ dX8_explore_77 rfl 3 rfl ?_
            refine j_gr (e := (c + 10)) hJ (kS_0 hc) fC_11_13 fl_X8_45 dX8_explore_78 rfl ?_
            refine j_aload_n hJ dX8_explore_81 rfl 3 rfl ?_
            refine j_gr (e := (c + 12)) hJ (kS_0 hc) fC_11_15 fl_X8_51 dX8_explore_82 rfl ?_
            refine j_iload hJ dX8_explore_85 0 rfl ?_
            refine j_iconst hJ dX8_explore_87 ?_
            refine j_isub hJ dX8_explore_88 ?_
            have g23 := hF.1; have hF := hF.2
            refine j_iald hJ g23 (kS_12 hc) hF.1 hF.2.1 dX8_explore_89 (fun v24 ev24 gv24 => ?_)
            have hF := hF.2.2 v24 ev24 gv24
            refine j_aload_n hJ dX8_explore_90 rfl 3 rfl ?_
            refine j_gr (e := (c + 10)) hJ (kS_0 hc) fC_11_13 fl_X8_45 dX8_explore_91 rfl ?_
            refine j_aload_n hJ dX8_explore_94 rfl 3 rfl ?_
            refine j_gr (e := (c + 12)) hJ (kS_0 hc) fC_11_15 fl_X8_51 dX8_explore_95 rfl ?_
            refine j_iload hJ dX8_explore_98 0 rfl ?_
            refine j_iconst hJ dX8_explore_100 ?_
            refine j_isub hJ dX8_explore_101 ?_
            have g25 := hF.1; have hF := hF.2
            refine j_iald hJ g25 (kS_12 hc) hF.1 hF.2.1 dX8_explore_102 (fun v26 ev26 gv26 => ?_)
            have hF := hF.2.2 v26 ev26 gv26
            refine j_iald hJ gv26 (kS_10 hc) hF.1 hF.2.1 dX8_explore_103 (fun v27 ev27 gv27 => ?_)
            have hF := hF.2.2 v27 ev27 gv27
            refine j_aload_n hJ dX8_explore_104 rfl 3 rfl ?_
            refine j_gr (e := (c + 10)) hJ (kS_0 hc) fC_11_13 fl_X8_45 dX8_explore_105 rfl ?_
            refine j_iload hJ dX8_explore_108 2 rfl ?_
            refine j_iald hJ gv4 (kS_10 hc) hF.1 hF.2.1 dX8_explore_110 (fun v28 ev28 gv28 => ?_)
            have hF := hF.2.2 v28 ev28 gv28
            refine j_mmin hJ gv27 gv28 ⟨om_480, om_11, om_12, om_13⟩ ⟨Nat.le_of_ble_eq_true rfl, Nat.le_of_ble_eq_true rfl⟩ dX8_explore_111 ?_
            refine j_iast hJ gv24 (ri_min gv27 gv28) (kS_10 hc) hF.1 hF.2.1 dX8_explore_114 (fun M29 eM29 => ?_)
            have hF := hF.2.2 M29 eM29
            exact j_sub hJ [3, 4, 5, 0, 6, 7, 2] rfl (k_X8_explore_b115 hin hc hp1 hJ ih x4 (x5 + (-1)) x6 x7 v4 _ gx4 g21 gx6 gx7 gv4 hF)
  intro x4 x5 x6 x7 M gx4 gx5 gx6 gx7 hF
  obtain ⟨n, hF⟩ := hF
  exact H9 n x4 x5 x6 x7 M gx4 gx5 gx6 gx7 hF
set_option maxHeartbeats 4000000 in
set_option maxRecDepth 100000 in
theorem c_X8_explore {l : Launch} {D : va_G} {cy : Nat → ClassId} {ad : Nat → Nat} (hin : jIn ad ksC.length) : jCN l D vwCl (tyC cy) cy ad ftC ksC (XtC ad) yX8_explore (.code yX8_explore cX8_explore 10 (some .int) :: Om) ({ frames := 1, cells := 0, slots := 0, locals := 40 } : Room) 1 (W_X8_explore ad) := by
  refine jCN_of (y := yX8_explore) (cc := cX8_explore) (nL := 10) (rk := 1) (rm := ({ frames := 1, cells := 0, slots := 0, locals := 40 } : Room)) (own := RX8) (tyC_ok cy) hin (XtC_ok ad) Om_good (by decide) rfl ?_
  intro Q av M hF
  obtain ⟨c, p1, p2, p3, rfl, hc, hp1, gp2, gp3, hF⟩ := hF
  refine ⟨Nat.le_of_ble_eq_true rfl, fun J hJ => ?_⟩
  show J 0 [(0, .ref (ad c)), (1, .ref (ad p1)), (2, .int (Ii p2)), (3, .int (Ii p3))] [] M
  unfold w_X8_explore at hF
  refine j_aload_n hJ dX8_explore_0 rfl 0 rfl ?_
  refine j_iload_n hJ dX8_explore_1 rfl 2 rfl ?_
  refine j_iload_n hJ dX8_explore_2 rfl 3 rfl ?_
  refine j_callVi hJ (c_X8_enter (l := l) (D := D) (cy := cy) (ad := ad) hin) rfl om_472 ⟨rfl, rfl, Nat.le_of_ble_eq_true rfl, Nat.le_of_ble_eq_true rfl⟩ [.int (Ii p2), .int (Ii p3)] mv_X8_127 hd_X8_enterv (kS_0 hc) rfl rfl rfl (Nat.le_of_ble_eq_true rfl) dX8_explore_3 ⟨c, p2, p3, rfl, hc, gp2, gp3, hF⟩ (fun r1 M2 gr1 qM2 => ?_)
  have hF := qM2 gr1
  refine j_istore (lv' := [(4, .int (Ii r1)), (0, .ref (ad c)), (1, .ref (ad p1)), (2, .int (Ii p2)), (3, .int (Ii p3))]) hJ dX8_explore_6 (by decide) rfl ?_
  refine j_iconst hJ dX8_explore_8 ?_
  refine j_istore (lv' := [(5, .int (Ii 1)), (4, .int (Ii r1)), (0, .ref (ad c)), (1, .ref (ad p1)), (2, .int (Ii p2)), (3, .int (Ii p3))]) hJ dX8_explore_9 (by decide) rfl ?_
  refine j_iconst hJ dX8_explore_11 ?_
  refine j_istore (lv' := [(6, .int (Ii 1)), (5, .int (Ii 1)), (4, .int (Ii r1)), (0, .ref (ad c)), (1, .ref (ad p1)), (2, .int (Ii p2)), (3, .int (Ii p3))]) hJ dX8_explore_12 (by decide) rfl ?_
  refine j_aload_n hJ dX8_explore_14 rfl 3 rfl ?_
  refine j_gr (e := (c + 12)) hJ (kS_0 hc) fC_11_15 fl_X8_51 dX8_explore_15 rfl ?_
  refine j_iconst hJ dX8_explore_18 ?_
  refine j_iload_n hJ dX8_explore_19 rfl 5 rfl ?_
  refine j_iast hJ rk_0 gp2 (kS_12 hc) (by decide) (by decide) dX8_explore_20 (fun M3 eM3 => ?_)
  have hF := hF M3 eM3
  refine j_aload_n hJ dX8_explore_21 rfl 3 rfl ?_
  refine j_gr (e := (c + 11)) hJ (kS_0 hc) fC_11_14 fl_X8_48 dX8_explore_22 rfl ?_
  refine j_iconst hJ dX8_explore_25 ?_
  refine j_iload_n hJ dX8_explore_26 rfl 5 rfl ?_
  refine j_iast hJ rk_0 gp2 (kS_11 hc) (by decide) (by decide) dX8_explore_27 (fun M4 eM4 => ?_)
  have hF := hF M4 eM4
  refine j_iconst hJ dX8_explore_28 ?_
  refine j_istore (lv' := [(7, .int (Ii 0)), (6, .int (Ii 1)), (5, .int (Ii 1)), (4, .int (Ii r1)), (0, .ref (ad c)), (1, .ref (ad p1)), (2, .int (Ii p2)), (3, .int (Ii p3))]) hJ dX8_explore_29 (by decide) rfl ?_
  exact j_sub hJ [4, 5, 3, 2, 1, 0] rfl (k_X8_explore_b31 hin hc hp1 hJ  r1 1 1 0 _ gr1 rk_1 rk_1 rk_0 hF)
def W_X8_needRings (ad : Nat → Nat) (Q : Int → MM → Prop) (av : List Value) (M : MM) : Prop := ∃ (c : Nat) (p1 : Nat), av = [.ref (ad c), .ref (ad p1)] ∧ isS c ∧ isP p1 ∧ w_X8_needRings c p1 Q  M
set_option maxHeartbeats 4000000 in
set_option maxRecDepth 100000 in
theorem k_X8_needRings_b92 {l : Launch} {D : va_G} {cy : Nat → ClassId} {ad : Nat → Nat} {Q : Int → MM → Prop} {J : Nat → List (Nat × Value) → List Value → MM → Prop} (hin : jIn ad ksC.length) {c p1 : Nat} (hc : isS c) (hp1 : isP p1) (hJ : jOk l D vwCl (tyC cy) cy ad ftC ksC (XtC ad) Om RX8 cX8_needRings 4 0 ({ frames := 3, cells := 0, slots := 0, locals := 69 } : Room) Q J) {K66 : Int → Int → MM → Prop} (hK66 : ∀ (x2 x3 : Int) (M : MM), ri_ x2 → ri_ x3 → K66 x2 x3 M → J 66 [(0, .ref (ad c)), (1, .ref (ad p1)), (2, .int (Ii x2)), (3, .int (Ii x3))] [] M) : ∀ (x2 x3 : Int) (M : MM), ri_ x2 → ri_ x3 → w_X8_needRings_b92 c p1 Q K66 x2 x3 M → J 92 [(0, .ref (ad c)), (1, .ref (ad p1)), (2, .int (Ii x2)), (3, .int (Ii x3))] [] M := by
  intro x2 x3 M gx2 gx3 hF
  unfold w_X8_needRings_b92 at hF
  refine j_iinc (lv' := [(3, .int (Ii (x3 + 1))), (0, .ref (ad c)), (1, .ref (ad p1)), (2, .int (Ii x2))]) (k := 3) hJ dX8_needRings_92 rfl (by decide) rfl ?_
  have g1 := hF.1; have hF := hF.2
  refine j_goto hJ 66 dX8_needRings_95 (by decide) ?_
  exact j_sub hJ [1, 2, 3, 0] rfl (hK66 x2 (x3 + 1) _ gx2 g1 hF)
set_option maxHeartbeats 4000000 in
set_option maxRecDepth 100000 in
theorem k_X8_needRings_b66 {l : Launch} {D : va_G} {cy : Nat → ClassId} {ad : Nat → Nat} {Q : Int → MM → Prop} {J : Nat → List (Nat × Value) → List Value → MM → Prop} (hin : jIn ad ksC.length) {c p1 : Nat} (hc : isS c) (hp1 : isP p1) (hJ : jOk l D vwCl (tyC cy) cy ad ftC ksC (XtC ad) Om RX8 cX8_needRings 4 0 ({ frames := 3, cells := 0, slots := 0, locals := 69 } : Room) Q J)  : ∀ (x2 x3 : Int) (M : MM), ri_ x2 → ri_ x3 → w_X8_needRings_b66 c p1 Q  x2 x3 M → J 66 [(0, .ref (ad c)), (1, .ref (ad p1)), (2, .int (Ii x2)), (3, .int (Ii x3))] [] M := by
  have H9 : ∀ (n : Nat) (x2 x3 : Int) (M : MM), ri_ x2 → ri_ x3 → jit (fun _ _ _ => False) (wb_X8_needRings_b66 c p1 Q ) n x2 x3 M → J 66 [(0, .ref (ad c)), (1, .ref (ad p1)), (2, .int (Ii x2)), (3, .int (Ii x3))] [] M := by
    intro n
    induction n with
    | zero => intro x2 x3 M gx2 gx3 hF; exact False.elim hF
    | succ n ih =>
    intro x2 x3 M gx2 gx3 hF
    have hF : wb_X8_needRings_b66 c p1 Q  (jit (fun _ _ _ => False) (wb_X8_needRings_b66 c p1 Q ) n) x2 x3 M := hF
    unfold wb_X8_needRings_b66 at hF
    refine j_iload_n hJ dX8_needRings_66 rfl 3 rfl ?_
    refine j_aload_n hJ dX8_needRings_67 rfl 1 rfl ?_
    refine j_gi hJ (kP_0 hp1) fC_8_0 rfl fl_X8_64 dX8_needRings_68 (fun v1 ev1 gv1 => ?_)
    have hF := hF v1 ev1 gv1
    refine j_icmp_ge hJ 98 gx3 gv1 dX8_needRings_71 (by decide) (fun z2 => ?_) (fun z2 => ?_)
    · have hF := hF.1 z2
      refine j_aload_n hJ dX8_needRings_98 rfl 0 rfl ?_
      refine j_aload_n hJ dX8_needRings_99 rfl 1 rfl ?_
      refine j_callVv hJ (c_X8_numberRings (l := l) (D := D) (cy := cy) (ad := ad) hin) rfl om_468 ⟨rfl, rfl, Nat.le_of_ble_eq_true rfl, Nat.le_of_ble_eq_true rfl⟩ [.ref (ad p1)] mv_X8_123 hd_X8_numberRingsv (kS_0 hc) rfl rfl rfl (Nat.le_of_ble_eq_true rfl) dX8_needRings_100 ⟨c, p1, rfl, hc, hp1, hF⟩ (fun M4 qM4 => ?_)
      have hF := qM4
      exact j_vret hJ rfl dX8_needRings_103 hF
    · have hF := hF.2 z2
      refine j_aload_n hJ dX8_needRings_74 rfl 0 rfl ?_
      refine j_gr (e := (c + 9)) hJ (kS_0 hc) fC_11_12 fl_X8_42 dX8_needRings_75 rfl ?_
      refine j_iload_n hJ dX8_needRings_78 rfl 3 rfl ?_
      refine j_iald hJ gx3 (kS_9 hc) hF.1 hF.2.1 dX8_needRings_79 (fun v5 ev5 gv5 => ?_)
      have hF := hF.2.2 v5 ev5 gv5
      refine j_iconst hJ dX8_needRings_80 ?_
      refine j_icmp_ne hJ 92 gv5 rk_m1 dX8_needRings_81 (by decide) (fun z6 => ?_) (fun z6 => ?_)
      · have hF := hF.1 z6
        exact j_sub hJ [0, 1, 2, 3] rfl (k_X8_needRings_b92 hin hc hp1 hJ ih x2 x3 _ gx2 gx3 hF)
      · have hF := hF.2 z6
        refine j_aload_n hJ dX8_needRings_84 rfl 0 rfl ?_
        refine j_aload_n hJ dX8_needRings_85 rfl 1 rfl ?_
        refine j_iload_n hJ dX8_needRings_86 rfl 3 rfl ?_
        refine j_iload_n hJ dX8_needRings_87 rfl 2 rfl ?_
        refine j_callVi hJ (c_X8_explore (l := l) (D := D) (cy := cy) (ad := ad) hin) rfl om_485 ⟨rfl, rfl, Nat.le_of_ble_eq_true rfl, Nat.le_of_ble_eq_true rfl⟩ [.ref (ad p1), .int (Ii x3), .int (Ii x2)] mv_X8_119 hd_X8_explorev (kS_0 hc) rfl rfl rfl (Nat.le_of_ble_eq_true rfl) dX8_needRings_88 ⟨c, p1, x3, x2, rfl, hc, hp1, gx3, gx2, hF⟩ (fun r7 M8 gr7 qM8 => ?_)
        have hF := qM8 gr7
        refine j_istore_n (lv' := [(2, .int (Ii r7)), (0, .ref (ad c)), (1, .ref (ad p1)), (3, .int (Ii x3))]) hJ dX8_needRings_91 rfl (by decide) rfl ?_
        exact j_sub hJ [1, 2, 0, 3] rfl (k_X8_needRings_b92 hin hc hp1 hJ ih r7 x3 _ gr7 gx3 hF)
  intro x2 x3 M gx2 gx3 hF
  obtain ⟨n, hF⟩ := hF
  exact H9 n x2 x3 M gx2 gx3 hF
set_option maxHeartbeats 4000000 in
set_option maxRecDepth 100000 in
theorem k_X8_needRings_b22 {l : Launch} {D : va_G} {cy : Nat → ClassId} {ad : Nat → Nat} {Q : Int → MM → Prop} {J : Nat → List (Nat × Value) → List Value → MM → Prop} (hin : jIn ad ksC.length) {c p1 : Nat} (hc : isS c) (hp1 : isP p1) (hJ : jOk l D vwCl (tyC cy) cy ad ftC ksC (XtC ad) Om RX8 cX8_needRings 4 0 ({ frames := 3, cells := 0, slots := 0, locals := 69 } : Room) Q J)  : ∀ (x2 : Int) (M : MM), ri_ x2 → w_X8_needRings_b22 c p1 Q  x2 M → J 22 [(0, .ref (ad c)), (1, .ref (ad p1)), (2, .int (Ii x2))] [] M := by
  have H9 : ∀ (n : Nat) (x2 : Int) (M : MM), ri_ x2 → jit (fun _ _ => False) (wb_X8_needRings_b22 c p1 Q ) n x2 M → J 22 [(0, .ref (ad c)), (1, .ref (ad p1)), (2, .int (Ii x2))] [] M := by
    intro n
    induction n with
    | zero => intro x2 M gx2 hF; exact False.elim hF
    | succ n ih =>
    intro x2 M gx2 hF
    have hF : wb_X8_needRings_b22 c p1 Q  (jit (fun _ _ => False) (wb_X8_needRings_b22 c p1 Q ) n) x2 M := hF
    unfold wb_X8_needRings_b22 at hF
    refine j_iload_n hJ dX8_needRings_22 rfl 2 rfl ?_
    refine j_aload_n hJ dX8_needRings_23 rfl 1 rfl ?_
    refine j_gi hJ (kP_0 hp1) fC_8_0 rfl fl_X8_64 dX8_needRings_24 (fun v1 ev1 gv1 => ?_)
    have hF := hF v1 ev1 gv1
    refine j_icmp_ge hJ 62 gx2 gv1 dX8_needRings_27 (by decide) (fun z2 => ?_) (fun z2 => ?_)
    · have hF := hF.1 z2
      refine j_iconst hJ dX8_needRings_62 ?_
      refine j_istore_n (lv' := [(2, .int (Ii 0)), (0, .ref (ad c)), (1, .ref (ad p1))]) hJ dX8_needRings_63 rfl (by decide) rfl ?_
      refine j_iconst hJ dX8_needRings_64 ?_
      refine j_istore_n (lv' := [(3, .int (Ii 0)), (2, .int (Ii 0)), (0, .ref (ad c)), (1, .ref (ad p1))]) hJ dX8_needRings_65 rfl (by decide) rfl ?_
      exact j_sub hJ [2, 3, 1, 0] rfl (k_X8_needRings_b66 hin hc hp1 hJ  0 0 _ rk_0 rk_0 hF)
    · have hF := hF.2 z2
      refine j_aload_n hJ dX8_needRings_30 rfl 0 rfl ?_
      refine j_gr (e := (c + 9)) hJ (kS_0 hc) fC_11_12 fl_X8_42 dX8_needRings_31 rfl ?_
      refine j_iload_n hJ dX8_needRings_34 rfl 2 rfl ?_
      refine j_iconst hJ dX8_needRings_35 ?_
      refine j_iast hJ gx2 rk_m1 (kS_9 hc) hF.1 hF.2.1 dX8_needRings_36 (fun M3 eM3 => ?_)
      have hF := hF.2.2 M3 eM3
      refine j_aload_n hJ dX8_needRings_37 rfl 0 rfl ?_
      refine j_gr (e := (c + 7)) hJ (kS_0 hc) fC_11_8 fl_X8_36 dX8_needRings_38 rfl ?_
      refine j_iload_n hJ dX8_needRings_41 rfl 2 rfl ?_
      refine j_iconst hJ dX8_needRings_42 ?_
      refine j_iast hJ gx2 rk_m1 (kS_7 hc) hF.1 hF.2.1 dX8_needRings_43 (fun M4 eM4 => ?_)
      have hF := hF.2.2 M4 eM4
      refine j_aload_n hJ dX8_needRings_44 rfl 0 rfl ?_
      refine j_gr (e := (c + 13)) hJ (kS_0 hc) fC_11_16 fl_X8_54 dX8_needRings_45 rfl ?_
      refine j_iload_n hJ dX8_needRings_48 rfl 2 rfl ?_
      refine j_aload_n hJ dX8_needRings_49 rfl 1 rfl ?_
      refine j_gr (e := (p1 + 4)) hJ (kP_0 hp1) fC_8_4 fl_X8_79 dX8_needRings_50 rfl ?_
      refine j_iload_n hJ dX8_needRings_53 rfl 2 rfl ?_
      refine j_iald hJ gx2 (kP_4 hp1) hF.1 hF.2.1 dX8_needRings_54 (fun v5 ev5 gv5 => ?_)
      have hF := hF.2.2 v5 ev5 gv5
      refine j_iast hJ gx2 gv5 (kS_13 hc) hF.1 hF.2.1 dX8_needRings_55 (fun M6 eM6 => ?_)
      have hF := hF.2.2 M6 eM6
      refine j_iinc (lv' := [(2, .int (Ii (x2 + 1))), (0, .ref (ad c)), (1, .ref (ad p1))]) (k := 2) hJ dX8_needRings_56 rfl (by decide) rfl ?_
      have g7 := hF.1; have hF := hF.2
      refine j_goto hJ 22 dX8_needRings_59 (by decide) ?_
      exact j_sub hJ [1, 2, 0] rfl (ih (x2 + 1) _ g7 hF)
  intro x2 M gx2 hF
  obtain ⟨n, hF⟩ := hF
  exact H9 n x2 M gx2 hF
set_option maxHeartbeats 4000000 in
set_option maxRecDepth 100000 in
theorem c_X8_needRings {l : Launch} {D : va_G} {cy : Nat → ClassId} {ad : Nat → Nat} (hin : jIn ad ksC.length) : jCN l D vwCl (tyC cy) cy ad ftC ksC (XtC ad) yX8_needRings (.code yX8_needRings cX8_needRings 4 none :: Om) ({ frames := 3, cells := 0, slots := 0, locals := 69 } : Room) 0 (W_X8_needRings ad) := by
  refine jCN_of (y := yX8_needRings) (cc := cX8_needRings) (nL := 4) (rk := 0) (rm := ({ frames := 3, cells := 0, slots := 0, locals := 69 } : Room)) (own := RX8) (tyC_ok cy) hin (XtC_ok ad) Om_good (by decide) rfl ?_
  intro Q av M hF
  obtain ⟨c, p1, rfl, hc, hp1, hF⟩ := hF
  refine ⟨Nat.le_of_ble_eq_true rfl, fun J hJ => ?_⟩
  show J 0 [(0, .ref (ad c)), (1, .ref (ad p1))] [] M
  unfold w_X8_needRings at hF
  refine j_aload_n hJ dX8_needRings_0 rfl 0 rfl ?_
  refine j_gi hJ (kS_0 hc) fC_11_1 rfl fl_X8_60 dX8_needRings_1 (fun v1 ev1 gv1 => ?_)
  have hF := hF v1 ev1 gv1
  refine j_iconst hJ dX8_needRings_4 ?_
  refine j_iand hJ dX8_needRings_5 ?_
  refine j_if_eq hJ 10 (ri_of _) dX8_needRings_6 (by decide) (fun z2 => ?_) (fun z2 => ?_)
  · have hF := hF.1 z2
    refine j_aload_n hJ dX8_needRings_10 rfl 0 rfl ?_
    refine j_dup hJ dX8_needRings_11 rfl ?_
    refine j_gi hJ (kS_0 hc) fC_11_1 rfl fl_X8_60 dX8_needRings_12 (fun v3 ev3 gv3 => ?_)
    have hF := hF v3 ev3 gv3
    refine j_iconst hJ dX8_needRings_15 ?_
    refine j_ior hJ dX8_needRings_16 ?_
    refine j_pi hJ (ri_of _) (kS_0 hc) fC_11_1 rfl fp_X8_60 dX8_needRings_17 (fun M4 eM4 => ?_)
    have hF := hF M4 eM4
    refine j_iconst hJ dX8_needRings_20 ?_
    refine j_istore_n (lv' := [(2, .int (Ii 0)), (0, .ref (ad c)), (1, .ref (ad p1))]) hJ dX8_needRings_21 rfl (by decide) rfl ?_
    exact j_sub hJ [1, 2, 0] rfl (k_X8_needRings_b22 hin hc hp1 hJ  0 _ rk_0 hF)
  · have hF := hF.2 z2
    exact j_vret hJ rfl dX8_needRings_9 hF
def W_X5_ringOf (ad : Nat → Nat) (Q : Int → MM → Prop) (av : List Value) (M : MM) : Prop := ∃ (c : Nat) (p1 : Int), av = [.ref (ad c), .int (Ii p1)] ∧ isP c ∧ ri_ p1 ∧ w_X5_ringOf c Q p1 M
set_option maxHeartbeats 4000000 in
set_option maxRecDepth 100000 in
theorem c_X5_ringOf {l : Launch} {D : va_G} {cy : Nat → ClassId} {ad : Nat → Nat} (hin : jIn ad ksC.length) : jCN l D vwCl (tyC cy) cy ad ftC ksC (XtC ad) yX5_ringOf (.code yX5_ringOf cX5_ringOf 2 (some .int) :: Om) ({ frames := 4, cells := 0, slots := 0, locals := 92 } : Room) 1 (W_X5_ringOf ad) := by
  refine jCN_of (y := yX5_ringOf) (cc := cX5_ringOf) (nL := 2) (rk := 1) (rm := ({ frames := 4, cells := 0, slots := 0, locals := 92 } : Room)) (own := RX5) (tyC_ok cy) hin (XtC_ok ad) Om_good (by decide) rfl ?_
  intro Q av M hF
  obtain ⟨c, p1, rfl, hc, gp1, hF⟩ := hF
  refine ⟨Nat.le_of_ble_eq_true rfl, fun J hJ => ?_⟩
  show J 0 [(0, .ref (ad c)), (1, .int (Ii p1))] [] M
  unfold w_X5_ringOf at hF
  refine j_aload_n hJ dX5_ringOf_0 rfl 0 rfl ?_
  refine j_gr (e := (c + 18)) hJ (kP_0 hc) fC_8_20 fl_X5_78 dX5_ringOf_1 rfl ?_
  refine j_aload_n hJ dX5_ringOf_4 rfl 0 rfl ?_
  refine j_callVv hJ (c_X8_needRings (l := l) (D := D) (cy := cy) (ad := ad) hin) rfl om_489 ⟨rfl, rfl, Nat.le_of_ble_eq_true rfl, Nat.le_of_ble_eq_true rfl⟩ [.ref (ad c)] mv_X5_176 hd_X8_needRingsv (kP_18 hc) rfl rfl rfl (Nat.le_of_ble_eq_true rfl) dX5_ringOf_5 ⟨(c + 18), c, rfl, (isS_P hc), hc, hF⟩ (fun M2 qM2 => ?_)
  have hF := qM2
  refine j_aload_n hJ dX5_ringOf_8 rfl 0 rfl ?_
  refine j_gr (e := (c + 18)) hJ (kP_0 hc) fC_8_20 fl_X5_78 dX5_ringOf_9 rfl ?_
  refine j_gr (e := (c + 25)) hJ (kP_18 hc) fC_11_8 fl_X5_179 dX5_ringOf_12 rfl ?_
  refine j_iload_n hJ dX5_ringOf_15 rfl 1 rfl ?_
  refine j_iald hJ gp1 (kP_25 hc) hF.1 hF.2.1 dX5_ringOf_16 (fun v3 ev3 gv3 => ?_)
  have hF := hF.2.2 v3 ev3 gv3
  exact j_iret hJ rfl gv3 dX5_ringOf_17 hF
def W_X5_ringCount (ad : Nat → Nat) (Q : Int → MM → Prop) (av : List Value) (M : MM) : Prop := ∃ (c : Nat), av = [.ref (ad c)] ∧ isP c ∧ w_X5_ringCount c Q  M
set_option maxHeartbeats 4000000 in
set_option maxRecDepth 100000 in
theorem c_X5_ringCount {l : Launch} {D : va_G} {cy : Nat → ClassId} {ad : Nat → Nat} (hin : jIn ad ksC.length) : jCN l D vwCl (tyC cy) cy ad ftC ksC (XtC ad) yX5_ringCount (.code yX5_ringCount cX5_ringCount 1 (some .int) :: Om) ({ frames := 4, cells := 0, slots := 0, locals := 92 } : Room) 1 (W_X5_ringCount ad) := by
  refine jCN_of (y := yX5_ringCount) (cc := cX5_ringCount) (nL := 1) (rk := 1) (rm := ({ frames := 4, cells := 0, slots := 0, locals := 92 } : Room)) (own := RX5) (tyC_ok cy) hin (XtC_ok ad) Om_good (by decide) rfl ?_
  intro Q av M hF
  obtain ⟨c, rfl, hc, hF⟩ := hF
  refine ⟨Nat.le_of_ble_eq_true rfl, fun J hJ => ?_⟩
  show J 0 [(0, .ref (ad c))] [] M
  unfold w_X5_ringCount at hF
  refine j_aload_n hJ dX5_ringCount_0 rfl 0 rfl ?_
  refine j_gr (e := (c + 18)) hJ (kP_0 hc) fC_8_20 fl_X5_78 dX5_ringCount_1 rfl ?_
  refine j_aload_n hJ dX5_ringCount_4 rfl 0 rfl ?_
  refine j_callVv hJ (c_X8_needRings (l := l) (D := D) (cy := cy) (ad := ad) hin) rfl om_489 ⟨rfl, rfl, Nat.le_of_ble_eq_true rfl, Nat.le_of_ble_eq_true rfl⟩ [.ref (ad c)] mv_X5_176 hd_X8_needRingsv (kP_18 hc) rfl rfl rfl (Nat.le_of_ble_eq_true rfl) dX5_ringCount_5 ⟨(c + 18), c, rfl, (isS_P hc), hc, hF⟩ (fun M2 qM2 => ?_)
  have hF := qM2
  refine j_aload_n hJ dX5_ringCount_8 rfl 0 rfl ?_
  refine j_gr (e := (c + 18)) hJ (kP_0 hc) fC_8_20 fl_X5_78 dX5_ringCount_9 rfl ?_
  refine j_gi hJ (kP_18 hc) fC_11_9 rfl fl_X5_182 dX5_ringCount_12 (fun v3 ev3 gv3 => ?_)
  have hF := hF v3 ev3 gv3
  exact j_iret hJ rfl gv3 dX5_ringCount_15 hF
def W_X5_memberOf (ad : Nat → Nat) (Q : Int → MM → Prop) (av : List Value) (M : MM) : Prop := ∃ (c : Nat) (p1 : Nat) (np1 : Nat) (p2 : Int) (p3 : Int), av = [.ref (ad c), .ref (ad p1), .int (Ii p2), .int (Ii p3)] ∧ isP c ∧ ksC[p1]? = some (0, np1) ∧ np1 < 2147483648 ∧ ri_ p2 ∧ ri_ p3 ∧ w_X5_memberOf c p1 np1 Q p2 p3 M
set_option maxHeartbeats 4000000 in
set_option maxRecDepth 100000 in
theorem k_X5_memberOf_b34 {l : Launch} {D : va_G} {cy : Nat → ClassId} {ad : Nat → Nat} {Q : Int → MM → Prop} {J : Nat → List (Nat × Value) → List Value → MM → Prop} (hin : jIn ad ksC.length) {c p1 np1 : Nat} (hc : isP c) (hp1 : ksC[p1]? = some (0, np1)) (lp1 : np1 < 2147483648) (hJ : jOk l D vwCl (tyC cy) cy ad ftC ksC (XtC ad) Om RX5 cX5_memberOf 6 1 ({ frames := 0, cells := 0, slots := 0, locals := 0 } : Room) Q J) {K6 : Int → Int → Int → MM → Prop} (hK6 : ∀ (x2 x4 x5 : Int) (M : MM), ri_ x2 → ri_ x4 → ri_ x5 → K6 x2 x4 x5 M → J 6 [(0, .ref (ad c)), (1, .ref (ad p1)), (2, .int (Ii x2)), (4, .int (Ii x4)), (5, .int (Ii x5))] [] M) : ∀ (x2 x4 x5 : Int) (M : MM), ri_ x2 → ri_ x4 → ri_ x5 → w_X5_memberOf_b34 c p1 np1 Q K6 x2 x4 x5 M → J 34 [(0, .ref (ad c)), (1, .ref (ad p1)), (2, .int (Ii x2)), (4, .int (Ii x4)), (5, .int (Ii x5))] [] M := by
  intro x2 x4 x5 M gx2 gx4 gx5 hF
  unfold w_X5_memberOf_b34 at hF
  refine j_iinc (lv' := [(5, .int (Ii (x5 + 1))), (0, .ref (ad c)), (1, .ref (ad p1)), (2, .int (Ii x2)), (4, .int (Ii x4))]) (k := 4) hJ dX5_memberOf_34 rfl (by decide) rfl ?_
  have g1 := hF.1; have hF := hF.2
  refine j_goto hJ 6 dX5_memberOf_37 (by decide) ?_
  exact j_sub hJ [1, 2, 3, 4, 0] rfl (hK6 x2 x4 (x5 + 1) _ gx2 gx4 g1 hF)
set_option maxHeartbeats 4000000 in
set_option maxRecDepth 100000 in
theorem k_X5_memberOf_b6 {l : Launch} {D : va_G} {cy : Nat → ClassId} {ad : Nat → Nat} {Q : Int → MM → Prop} {J : Nat → List (Nat × Value) → List Value → MM → Prop} (hin : jIn ad ksC.length) {c p1 np1 : Nat} (hc : isP c) (hp1 : ksC[p1]? = some (0, np1)) (lp1 : np1 < 2147483648) (hJ : jOk l D vwCl (tyC cy) cy ad ftC ksC (XtC ad) Om RX5 cX5_memberOf 6 1 ({ frames := 0, cells := 0, slots := 0, locals := 0 } : Room) Q J)  : ∀ (x2 x4 x5 : Int) (M : MM), ri_ x2 → ri_ x4 → ri_ x5 → w_X5_memberOf_b6 c p1 np1 Q  x2 x4 x5 M → J 6 [(0, .ref (ad c)), (1, .ref (ad p1)), (2, .int (Ii x2)), (4, .int (Ii x4)), (5, .int (Ii x5))] [] M := by
  have H9 : ∀ (n : Nat) (x2 x4 x5 : Int) (M : MM), ri_ x2 → ri_ x4 → ri_ x5 → jit (fun _ _ _ _ => False) (wb_X5_memberOf_b6 c p1 np1 Q ) n x2 x4 x5 M → J 6 [(0, .ref (ad c)), (1, .ref (ad p1)), (2, .int (Ii x2)), (4, .int (Ii x4)), (5, .int (Ii x5))] [] M := by
    intro n
    induction n with
    | zero => intro x2 x4 x5 M gx2 gx4 gx5 hF; exact False.elim hF
    | succ n ih =>
    intro x2 x4 x5 M gx2 gx4 gx5 hF
    have hF : wb_X5_memberOf_b6 c p1 np1 Q  (jit (fun _ _ _ _ => False) (wb_X5_memberOf_b6 c p1 np1 Q ) n) x2 x4 x5 M := hF
    unfold wb_X5_memberOf_b6 at hF
    refine j_iload hJ dX5_memberOf_6 4 rfl ?_
    refine j_aload_n hJ dX5_memberOf_8 rfl 0 rfl ?_
    refine j_gi hJ (kP_0 hc) fC_8_0 rfl fl_X5_82 dX5_memberOf_9 (fun v1 ev1 gv1 => ?_)
    have hF := hF v1 ev1 gv1
    refine j_icmp_ge hJ 40 gx5 gv1 dX5_memberOf_12 (by decide) (fun z2 => ?_) (fun z2 => ?_)
    · have hF := hF.1 z2
      refine j_iconst hJ dX5_memberOf_40 ?_
      exact j_iret hJ rfl rk_m1 dX5_memberOf_41 hF
    · have hF := hF.2 z2
      refine j_aload_n hJ dX5_memberOf_15 rfl 1 rfl ?_
      refine j_iload hJ dX5_memberOf_16 4 rfl ?_
      refine j_iald hJ gx5 hp1 hF.1 hF.2.1 dX5_memberOf_18 (fun v3 ev3 gv3 => ?_)
      have hF := hF.2.2 v3 ev3 gv3
      refine j_iload_n hJ dX5_memberOf_19 rfl 2 rfl ?_
      refine j_icmp_ne hJ 34 gv3 gx2 dX5_memberOf_20 (by decide) (fun z4 => ?_) (fun z4 => ?_)
      · have hF := hF.1 z4
        exact j_sub hJ [0, 1, 2, 3, 4] rfl (k_X5_memberOf_b34 hin hc hp1 lp1 hJ ih x2 x4 x5 _ gx2 gx4 gx5 hF)
      · have hF := hF.2 z4
        refine j_iload hJ dX5_memberOf_23 3 rfl ?_
        refine j_if_ne hJ 31 gx4 dX5_memberOf_25 (by decide) (fun z5 => ?_) (fun z5 => ?_)
        · have hF := hF.1 z5
          refine j_iinc (lv' := [(4, .int (Ii (x4 + (-1)))), (0, .ref (ad c)), (1, .ref (ad p1)), (2, .int (Ii x2)), (5, .int (Ii x5))]) (k := 3) hJ dX5_memberOf_31 rfl (by decide) rfl ?_
          have g6 := hF.1; have hF := hF.2
          exact j_sub hJ [1, 2, 3, 0, 4] rfl (k_X5_memberOf_b34 hin hc hp1 lp1 hJ ih x2 (x4 + (-1)) x5 _ gx2 g6 gx5 hF)
        · have hF := hF.2 z5
          refine j_iload hJ dX5_memberOf_28 4 rfl ?_
          exact j_iret hJ rfl gx5 dX5_memberOf_30 hF
  intro x2 x4 x5 M gx2 gx4 gx5 hF
  obtain ⟨n, hF⟩ := hF
  exact H9 n x2 x4 x5 M gx2 gx4 gx5 hF
set_option maxHeartbeats 4000000 in
set_option maxRecDepth 100000 in
theorem c_X5_memberOf {l : Launch} {D : va_G} {cy : Nat → ClassId} {ad : Nat → Nat} (hin : jIn ad ksC.length) : jCN l D vwCl (tyC cy) cy ad ftC ksC (XtC ad) yX5_memberOf (.code yX5_memberOf cX5_memberOf 6 (some .int) :: Om) ({ frames := 0, cells := 0, slots := 0, locals := 0 } : Room) 1 (W_X5_memberOf ad) := by
  refine jCN_of (y := yX5_memberOf) (cc := cX5_memberOf) (nL := 6) (rk := 1) (rm := ({ frames := 0, cells := 0, slots := 0, locals := 0 } : Room)) (own := RX5) (tyC_ok cy) hin (XtC_ok ad) Om_good (by decide) rfl ?_
  intro Q av M hF
  obtain ⟨c, p1, np1, p2, p3, rfl, hc, hp1, lp1, gp2, gp3, hF⟩ := hF
  refine ⟨Nat.le_of_ble_eq_true rfl, fun J hJ => ?_⟩
  show J 0 [(0, .ref (ad c)), (1, .ref (ad p1)), (2, .int (Ii p2)), (3, .int (Ii p3))] [] M
  unfold w_X5_memberOf at hF
  refine j_iload_n hJ dX5_memberOf_0 rfl 3 rfl ?_
  refine j_istore (lv' := [(4, .int (Ii p3)), (0, .ref (ad c)), (1, .ref (ad p1)), (2, .int (Ii p2)), (3, .int (Ii p3))]) hJ dX5_memberOf_1 (by decide) rfl ?_
  refine j_iconst hJ dX5_memberOf_3 ?_
  refine j_istore (lv' := [(5, .int (Ii 0)), (4, .int (Ii p3)), (0, .ref (ad c)), (1, .ref (ad p1)), (2, .int (Ii p2)), (3, .int (Ii p3))]) hJ dX5_memberOf_4 (by decide) rfl ?_
  exact j_sub hJ [2, 3, 4, 1, 0] rfl (k_X5_memberOf_b6 hin hc hp1 lp1 hJ  p2 p3 0 _ gp2 gp3 rk_0 hF)
def W_X5_ringMember (ad : Nat → Nat) (Q : Int → MM → Prop) (av : List Value) (M : MM) : Prop := ∃ (c : Nat) (p1 : Int) (p2 : Int), av = [.ref (ad c), .int (Ii p1), .int (Ii p2)] ∧ isP c ∧ ri_ p1 ∧ ri_ p2 ∧ w_X5_ringMember c Q p1 p2 M
set_option maxHeartbeats 4000000 in
set_option maxRecDepth 100000 in
theorem c_X5_ringMember {l : Launch} {D : va_G} {cy : Nat → ClassId} {ad : Nat → Nat} (hin : jIn ad ksC.length) : jCN l D vwCl (tyC cy) cy ad ftC ksC (XtC ad) yX5_ringMember (.code yX5_ringMember cX5_ringMember 3 (some .int) :: Om) ({ frames := 4, cells := 0, slots := 0, locals := 92 } : Room) 1 (W_X5_ringMember ad) := by
  refine jCN_of (y := yX5_ringMember) (cc := cX5_ringMember) (nL := 3) (rk := 1) (rm := ({ frames := 4, cells := 0, slots := 0, locals := 92 } : Room)) (own := RX5) (tyC_ok cy) hin (XtC_ok ad) Om_good (by decide) rfl ?_
  intro Q av M hF
  obtain ⟨c, p1, p2, rfl, hc, gp1, gp2, hF⟩ := hF
  refine ⟨Nat.le_of_ble_eq_true rfl, fun J hJ => ?_⟩
  show J 0 [(0, .ref (ad c)), (1, .int (Ii p1)), (2, .int (Ii p2))] [] M
  unfold w_X5_ringMember at hF
  refine j_aload_n hJ dX5_ringMember_0 rfl 0 rfl ?_
  refine j_gr (e := (c + 18)) hJ (kP_0 hc) fC_8_20 fl_X5_78 dX5_ringMember_1 rfl ?_
  refine j_aload_n hJ dX5_ringMember_4 rfl 0 rfl ?_
  refine j_callVv hJ (c_X8_needRings (l := l) (D := D) (cy := cy) (ad := ad) hin) rfl om_489 ⟨rfl, rfl, Nat.le_of_ble_eq_true rfl, Nat.le_of_ble_eq_true rfl⟩ [.ref (ad c)] mv_X5_176 hd_X8_needRingsv (kP_18 hc) rfl rfl rfl (Nat.le_of_ble_eq_true rfl) dX5_ringMember_5 ⟨(c + 18), c, rfl, (isS_P hc), hc, hF⟩ (fun M2 qM2 => ?_)
  have hF := qM2
  refine j_aload_n hJ dX5_ringMember_8 rfl 0 rfl ?_
  refine j_aload_n hJ dX5_ringMember_9 rfl 0 rfl ?_
  refine j_gr (e := (c + 18)) hJ (kP_0 hc) fC_8_20 fl_X5_78 dX5_ringMember_10 rfl ?_
  refine j_gr (e := (c + 25)) hJ (kP_18 hc) fC_11_8 fl_X5_179 dX5_ringMember_13 rfl ?_
  refine j_iload_n hJ dX5_ringMember_16 rfl 1 rfl ?_
  refine j_iload_n hJ dX5_ringMember_17 rfl 2 rfl ?_
  refine j_callVi hJ (c_X5_memberOf (l := l) (D := D) (cy := cy) (ad := ad) hin) rfl om_493 ⟨rfl, rfl, Nat.le_of_ble_eq_true rfl, Nat.le_of_ble_eq_true rfl⟩ [.ref (ad (c + 25)), .int (Ii p1), .int (Ii p2)] mv_X5_185 hd_X5_memberOfv (kP_0 hc) rfl rfl rfl (Nat.le_of_ble_eq_true rfl) dX5_ringMember_18 ⟨c, (c + 25), 400, p1, p2, rfl, hc, (kP_25 hc), (by decide), gp1, gp2, hF⟩ (fun r3 M4 gr3 qM4 => ?_)
  have hF := qM4 gr3
  exact j_iret hJ rfl gr3 dX5_ringMember_21 hF
def W_J7_fill_53178_C (ad : Nat → Nat) (Q : Int → MM → Prop) (av : List Value) (M : MM) : Prop := ∃ (p1 : Nat) (np1 : Nat) (p2 : Int), av = [.ref (ad p1), .int (Ii p2)] ∧ ksC[p1]? = some (0, np1) ∧ np1 < 2147483648 ∧ ri_ p2 ∧ w_J7_fill_53178_C p1 np1 Q p2 M
set_option maxHeartbeats 4000000 in
set_option maxRecDepth 100000 in
theorem k_J7_fill_53178_C_b5 {l : Launch} {D : va_G} {cy : Nat → ClassId} {ad : Nat → Nat} {Q : Int → MM → Prop} {J : Nat → List (Nat × Value) → List Value → MM → Prop} (hin : jIn ad ksC.length) {p1 np1 : Nat} (hp1 : ksC[p1]? = some (0, np1)) (lp1 : np1 < 2147483648) (hJ : jOk l D vwCl (tyC cy) cy ad ftC ksC (XtC ad) Om RJ7 cJ7_fill_53178 4 0 ({ frames := 0, cells := 0, slots := 0, locals := 0 } : Room) Q J)  : ∀ (x1 x2 x3 : Int) (M : MM), ri_ x1 → ri_ x2 → ri_ x3 → w_J7_fill_53178_C_b5 p1 np1 Q  x1 x2 x3 M → J 5 [(0, .ref (ad p1)), (1, .int (Ii x1)), (2, .int (Ii x2)), (3, .int (Ii x3))] [] M := by
  have H9 : ∀ (n : Nat) (x1 x2 x3 : Int) (M : MM), ri_ x1 → ri_ x2 → ri_ x3 → jit (fun _ _ _ _ => False) (wb_J7_fill_53178_C_b5 p1 np1 Q ) n x1 x2 x3 M → J 5 [(0, .ref (ad p1)), (1, .int (Ii x1)), (2, .int (Ii x2)), (3, .int (Ii x3))] [] M := by
    intro n
    induction n with
    | zero => intro x1 x2 x3 M gx1 gx2 gx3 hF; exact False.elim hF
    | succ n ih =>
    intro x1 x2 x3 M gx1 gx2 gx3 hF
    have hF : wb_J7_fill_53178_C_b5 p1 np1 Q  (jit (fun _ _ _ _ => False) (wb_J7_fill_53178_C_b5 p1 np1 Q ) n) x1 x2 x3 M := hF
    unfold wb_J7_fill_53178_C_b5 at hF
    refine j_iload_n hJ dJ7_fill_53178_5 rfl 2 rfl ?_
    refine j_iload_n hJ dJ7_fill_53178_6 rfl 3 rfl ?_
    refine j_icmp_ge hJ 20 gx2 gx3 dJ7_fill_53178_7 (by decide) (fun z1 => ?_) (fun z1 => ?_)
    · have hF := hF.1 z1
      exact j_vret hJ rfl dJ7_fill_53178_20 hF
    · have hF := hF.2 z1
      refine j_aload_n hJ dJ7_fill_53178_10 rfl 0 rfl ?_
      refine j_iload_n hJ dJ7_fill_53178_11 rfl 2 rfl ?_
      refine j_iload_n hJ dJ7_fill_53178_12 rfl 1 rfl ?_
      refine j_iast hJ gx2 gx1 hp1 hF.1 hF.2.1 dJ7_fill_53178_13 (fun M2 eM2 => ?_)
      have hF := hF.2.2 M2 eM2
      refine j_iinc (lv' := [(2, .int (Ii (x2 + 1))), (0, .ref (ad p1)), (1, .int (Ii x1)), (3, .int (Ii x3))]) (k := 2) hJ dJ7_fill_53178_14 rfl (by decide) rfl ?_
      have g3 := hF.1; have hF := hF.2
      refine j_goto hJ 5 dJ7_fill_53178_17 (by decide) ?_
      exact j_sub hJ [1, 2, 0, 3] rfl (ih x1 (x2 + 1) x3 _ gx1 g3 gx3 hF)
  intro x1 x2 x3 M gx1 gx2 gx3 hF
  obtain ⟨n, hF⟩ := hF
  exact H9 n x1 x2 x3 M gx1 gx2 gx3 hF
set_option maxHeartbeats 4000000 in
set_option maxRecDepth 100000 in
theorem c_J7_fill_53178_C {l : Launch} {D : va_G} {cy : Nat → ClassId} {ad : Nat → Nat} (hin : jIn ad ksC.length) : jCN l D vwCl (tyC cy) cy ad ftC ksC (XtC ad) yJ7_fill_53178 (.code yJ7_fill_53178 cJ7_fill_53178 4 none :: Om) ({ frames := 0, cells := 0, slots := 0, locals := 0 } : Room) 0 (W_J7_fill_53178_C ad) := by
  refine jCN_of (y := yJ7_fill_53178) (cc := cJ7_fill_53178) (nL := 4) (rk := 0) (rm := ({ frames := 0, cells := 0, slots := 0, locals := 0 } : Room)) (own := RJ7) (tyC_ok cy) hin (XtC_ok ad) Om_good (by decide) rfl ?_
  intro Q av M hF
  obtain ⟨p1, np1, p2, rfl, hp1, lp1, gp2, hF⟩ := hF
  refine ⟨Nat.le_of_ble_eq_true rfl, fun J hJ => ?_⟩
  show J 0 [(0, .ref (ad p1)), (1, .int (Ii p2))] [] M
  unfold w_J7_fill_53178_C at hF
  refine j_iconst hJ dJ7_fill_53178_0 ?_
  refine j_istore_n (lv' := [(2, .int (Ii 0)), (0, .ref (ad p1)), (1, .int (Ii p2))]) hJ dJ7_fill_53178_1 rfl (by decide) rfl ?_
  refine j_aload_n hJ dJ7_fill_53178_2 rfl 1 rfl ?_
  refine j_alen0 hJ hp1 dJ7_fill_53178_3 ?_
  refine j_istore_n (lv' := [(3, .int (Ii (np1 : Int))), (2, .int (Ii 0)), (0, .ref (ad p1)), (1, .int (Ii p2))]) hJ dJ7_fill_53178_4 rfl (by decide) rfl ?_
  exact j_sub hJ [2, 3, 1, 0] rfl (k_J7_fill_53178_C_b5 hin hp1 lp1 hJ  p2 0 (np1 : Int) _ gp2 rk_0 (by unfold ri_; omega) hF)
def W_X8_bucketOf (ad : Nat → Nat) (Q : Int → MM → Prop) (av : List Value) (M : MM) : Prop := ∃ (p1 : Nat) (p2 : Int), av = [.ref (ad p1), .int (Ii p2)] ∧ isP p1 ∧ ri_ p2 ∧ w_X8_bucketOf p1 Q p2 M
set_option maxHeartbeats 4000000 in
set_option maxRecDepth 100000 in
theorem k_X8_bucketOf_b28 {l : Launch} {D : va_G} {cy : Nat → ClassId} {ad : Nat → Nat} {Q : Int → MM → Prop} {J : Nat → List (Nat × Value) → List Value → MM → Prop} (hin : jIn ad ksC.length) {p1 : Nat} (hp1 : isP p1) (hJ : jOk l D vwCl (tyC cy) cy ad ftC ksC (XtC ad) Om RX8 cX8_bucketOf 5 1 ({ frames := 0, cells := 0, slots := 0, locals := 0 } : Room) Q J)  : ∀ (x1 x2 x4 : Int) (M : MM), ri_ x1 → rl_ x2 → ri_ x4 → w_X8_bucketOf_b28 p1 Q  x1 x2 x4 M → J 28 [(0, .ref (ad p1)), (1, .int (Ii x1)), (2, .long (Ll x2)), (4, .int (Ii x4))] [] M := by
  have H9 : ∀ (n : Nat) (x1 x2 x4 : Int) (M : MM), ri_ x1 → rl_ x2 → ri_ x4 → jit (fun _ _ _ _ => False) (wb_X8_bucketOf_b28 p1 Q ) n x1 x2 x4 M → J 28 [(0, .ref (ad p1)), (1, .int (Ii x1)), (2, .long (Ll x2)), (4, .int (Ii x4))] [] M := by
    intro n
    induction n with
    | zero => intro x1 x2 x4 M gx1 gx2 gx4 hF; exact False.elim hF
    | succ n ih =>
    intro x1 x2 x4 M gx1 gx2 gx4 hF
    have hF : wb_X8_bucketOf_b28 p1 Q  (jit (fun _ _ _ _ => False) (wb_X8_bucketOf_b28 p1 Q ) n) x1 x2 x4 M := hF
    unfold wb_X8_bucketOf_b28 at hF
    refine j_iload hJ dX8_bucketOf_28 3 rfl ?_
    refine j_aload_n hJ dX8_bucketOf_30 rfl 0 rfl ?_
    refine j_gr (e := (p1 + 4)) hJ (kP_0 hp1) fC_8_4 fl_X8_79 dX8_bucketOf_31 rfl ?_
    refine j_iload_n hJ dX8_bucketOf_34 rfl 1 rfl ?_
    refine j_iconst hJ dX8_bucketOf_35 ?_
    refine j_iaddw hJ dX8_bucketOf_36 ?_
    refine j_iald hJ (ri_w _) (kP_4 hp1) hF.1 hF.2.1 dX8_bucketOf_37 (fun v1 ev1 gv1 => ?_)
    have hF := hF.2.2 v1 ev1 gv1
    refine j_icmp_ge hJ 61 gx4 gv1 dX8_bucketOf_38 (by decide) (fun z2 => ?_) (fun z2 => ?_)
    · have hF := hF.1 z2
      refine j_lload_n hJ dX8_bucketOf_61 rfl 2 rfl ?_
      refine j_lload_n hJ dX8_bucketOf_62 rfl 2 rfl ?_
      refine j_bipush hJ dX8_bucketOf_63 (by decide) ?_
      refine j_lushr hJ dX8_bucketOf_65 ?_
      refine j_lxor hJ dX8_bucketOf_66 ?_
      refine j_lload_n hJ dX8_bucketOf_67 rfl 2 rfl ?_
      refine j_bipush hJ dX8_bucketOf_68 (by decide) ?_
      refine j_lushr hJ dX8_bucketOf_70 ?_
      refine j_lxor hJ dX8_bucketOf_71 ?_
      refine j_l2iw hJ dX8_bucketOf_72 ?_
      refine j_sipush hJ dX8_bucketOf_73 (by decide) ?_
      refine j_iand hJ dX8_bucketOf_76 ?_
      exact j_iret hJ rfl (ri_of _) dX8_bucketOf_77 hF
    · have hF := hF.2 z2
      refine j_lload_n hJ dX8_bucketOf_41 rfl 2 rfl ?_
      refine j_ldc2 hJ 31 om_501 (by decide) dX8_bucketOf_42 ?_
      refine j_lmulw hJ dX8_bucketOf_45 ?_
      refine j_aload_n hJ dX8_bucketOf_46 rfl 0 rfl ?_
      refine j_gr (e := (p1 + 9)) hJ (kP_0 hp1) fC_8_9 fl_X8_86 dX8_bucketOf_47 rfl ?_
      refine j_iload hJ dX8_bucketOf_50 3 rfl ?_
      refine j_lald hJ gx4 (kP_9 hp1) hF.1 hF.2.1 dX8_bucketOf_52 (fun v3 ev3 gv3 => ?_)
      have hF := hF.2.2 v3 ev3 gv3
      refine j_laddw hJ dX8_bucketOf_53 ?_
      refine j_lstore_n (lv' := [(2, .long (Ll (w64 ((w64 (x2 * 31)) + v3)))), (0, .ref (ad p1)), (1, .int (Ii x1)), (4, .int (Ii x4))]) hJ dX8_bucketOf_54 rfl (by decide) rfl ?_
      refine j_iinc (lv' := [(4, .int (Ii (x4 + 1))), (2, .long (Ll (w64 ((w64 (x2 * 31)) + v3)))), (0, .ref (ad p1)), (1, .int (Ii x1))]) (k := 3) hJ dX8_bucketOf_55 rfl (by decide) rfl ?_
      have g4 := hF.1; have hF := hF.2
      refine j_goto hJ 28 dX8_bucketOf_58 (by decide) ?_
      exact j_sub hJ [2, 3, 1, 0] rfl (ih x1 (w64 ((w64 (x2 * 31)) + v3)) (x4 + 1) _ gx1 (rl_w _) g4 hF)
  intro x1 x2 x4 M gx1 gx2 gx4 hF
  obtain ⟨n, hF⟩ := hF
  exact H9 n x1 x2 x4 M gx1 gx2 gx4 hF
set_option maxHeartbeats 4000000 in
set_option maxRecDepth 100000 in
theorem c_X8_bucketOf {l : Launch} {D : va_G} {cy : Nat → ClassId} {ad : Nat → Nat} (hin : jIn ad ksC.length) : jCN l D vwCl (tyC cy) cy ad ftC ksC (XtC ad) yX8_bucketOf (.code yX8_bucketOf cX8_bucketOf 5 (some .int) :: Om) ({ frames := 0, cells := 0, slots := 0, locals := 0 } : Room) 1 (W_X8_bucketOf ad) := by
  refine jCN_of (y := yX8_bucketOf) (cc := cX8_bucketOf) (nL := 5) (rk := 1) (rm := ({ frames := 0, cells := 0, slots := 0, locals := 0 } : Room)) (own := RX8) (tyC_ok cy) hin (XtC_ok ad) Om_good (by decide) rfl ?_
  intro Q av M hF
  obtain ⟨p1, p2, rfl, hp1, gp2, hF⟩ := hF
  refine ⟨Nat.le_of_ble_eq_true rfl, fun J hJ => ?_⟩
  show J 0 [(0, .ref (ad p1)), (1, .int (Ii p2))] [] M
  unfold w_X8_bucketOf at hF
  refine j_aload_n hJ dX8_bucketOf_0 rfl 0 rfl ?_
  refine j_gr (e := (p1 + 2)) hJ (kP_0 hp1) fC_8_2 fl_X8_104 dX8_bucketOf_1 rfl ?_
  refine j_iload_n hJ dX8_bucketOf_4 rfl 1 rfl ?_
  refine j_iald hJ gp2 (kP_2 hp1) hF.1 hF.2.1 dX8_bucketOf_5 (fun v1 ev1 gv1 => ?_)
  have hF := hF.2.2 v1 ev1 gv1
  refine j_i2l hJ gv1 dX8_bucketOf_6 ?_
  refine j_ldc2 hJ 61 om_500 (by decide) dX8_bucketOf_7 ?_
  refine j_lmulw hJ dX8_bucketOf_10 ?_
  refine j_aload_n hJ dX8_bucketOf_11 rfl 0 rfl ?_
  refine j_gr (e := (p1 + 3)) hJ (kP_0 hp1) fC_8_3 fl_X8_107 dX8_bucketOf_12 rfl ?_
  refine j_iload_n hJ dX8_bucketOf_15 rfl 1 rfl ?_
  refine j_iald hJ gp2 (kP_3 hp1) hF.1 hF.2.1 dX8_bucketOf_16 (fun v2 ev2 gv2 => ?_)
  have hF := hF.2.2 v2 ev2 gv2
  refine j_i2l hJ gv2 dX8_bucketOf_17 ?_
  refine j_laddw hJ dX8_bucketOf_18 ?_
  refine j_lstore_n (lv' := [(2, .long (Ll (w64 ((w64 (v1 * 61)) + v2)))), (0, .ref (ad p1)), (1, .int (Ii p2))]) hJ dX8_bucketOf_19 rfl (by decide) rfl ?_
  refine j_aload_n hJ dX8_bucketOf_20 rfl 1 rfl ?_
  refine j_gr (e := (p1 + 4)) hJ (kP_0 hp1) fC_8_4 fl_X8_79 dX8_bucketOf_21 rfl ?_
  refine j_iload_n hJ dX8_bucketOf_24 rfl 2 rfl ?_
  refine j_iald hJ gp2 (kP_4 hp1) hF.1 hF.2.1 dX8_bucketOf_25 (fun v3 ev3 gv3 => ?_)
  have hF := hF.2.2 v3 ev3 gv3
  refine j_istore (lv' := [(4, .int (Ii v3)), (2, .long (Ll (w64 ((w64 (v1 * 61)) + v2)))), (0, .ref (ad p1)), (1, .int (Ii p2))]) hJ dX8_bucketOf_26 (by decide) rfl ?_
  exact j_sub hJ [2, 3, 1, 0] rfl (k_X8_bucketOf_b28 hin hp1 hJ  p2 (w64 ((w64 (v1 * 61)) + v2)) v3 _ gp2 (rl_w _) gv3 hF)
def W_X8_isTwin (ad : Nat → Nat) (Q : Int → MM → Prop) (av : List Value) (M : MM) : Prop := ∃ (p1 : Nat) (p2 : Int) (p3 : Int), av = [.ref (ad p1), .int (Ii p2), .int (Ii p3)] ∧ isP p1 ∧ ri_ p2 ∧ ri_ p3 ∧ w_X8_isTwin p1 Q p2 p3 M
set_option maxHeartbeats 4000000 in
set_option maxRecDepth 100000 in
theorem k_X8_isTwin_b54 {l : Launch} {D : va_G} {cy : Nat → ClassId} {ad : Nat → Nat} {Q : Int → MM → Prop} {J : Nat → List (Nat × Value) → List Value → MM → Prop} (hin : jIn ad ksC.length) {p1 : Nat} (hp1 : isP p1) (hJ : jOk l D vwCl (tyC cy) cy ad ftC ksC (XtC ad) Om RX8 cX8_isTwin 5 3 ({ frames := 0, cells := 0, slots := 0, locals := 0 } : Room) Q J)  : ∀ (x1 x3 x4 : Int) (M : MM), ri_ x1 → ri_ x3 → ri_ x4 → w_X8_isTwin_b54 p1 Q  x1 x3 x4 M → J 54 [(0, .ref (ad p1)), (1, .int (Ii x1)), (3, .int (Ii x3)), (4, .int (Ii x4))] [] M := by
  have H9 : ∀ (n : Nat) (x1 x3 x4 : Int) (M : MM), ri_ x1 → ri_ x3 → ri_ x4 → jit (fun _ _ _ _ => False) (wb_X8_isTwin_b54 p1 Q ) n x1 x3 x4 M → J 54 [(0, .ref (ad p1)), (1, .int (Ii x1)), (3, .int (Ii x3)), (4, .int (Ii x4))] [] M := by
    intro n
    induction n with
    | zero => intro x1 x3 x4 M gx1 gx3 gx4 hF; exact False.elim hF
    | succ n ih =>
    intro x1 x3 x4 M gx1 gx3 gx4 hF
    have hF : wb_X8_isTwin_b54 p1 Q  (jit (fun _ _ _ _ => False) (wb_X8_isTwin_b54 p1 Q ) n) x1 x3 x4 M := hF
    unfold wb_X8_isTwin_b54 at hF
    refine j_iload hJ dX8_isTwin_54 3 rfl ?_
    refine j_aload_n hJ dX8_isTwin_56 rfl 0 rfl ?_
    refine j_gr (e := (p1 + 4)) hJ (kP_0 hp1) fC_8_4 fl_X8_79 dX8_isTwin_57 rfl ?_
    refine j_iload_n hJ dX8_isTwin_60 rfl 1 rfl ?_
    refine j_iconst hJ dX8_isTwin_61 ?_
    refine j_iadd hJ dX8_isTwin_62 ?_
    have g1 := hF.1; have hF := hF.2
    refine j_iald hJ g1 (kP_4 hp1) hF.1 hF.2.1 dX8_isTwin_63 (fun v2 ev2 gv2 => ?_)
    have hF := hF.2.2 v2 ev2 gv2
    refine j_icmp_ge hJ 95 gx4 gv2 dX8_isTwin_64 (by decide) (fun z3 => ?_) (fun z3 => ?_)
    · have hF := hF.1 z3
      refine j_iconst hJ dX8_isTwin_95 ?_
      exact j_zret hJ rfl (by decide) dX8_isTwin_96 hF
    · have hF := hF.2 z3
      refine j_aload_n hJ dX8_isTwin_67 rfl 0 rfl ?_
      refine j_gr (e := (p1 + 9)) hJ (kP_0 hp1) fC_8_9 fl_X8_86 dX8_isTwin_68 rfl ?_
      refine j_iload hJ dX8_isTwin_71 3 rfl ?_
      refine j_lald hJ gx4 (kP_9 hp1) hF.1 hF.2.1 dX8_isTwin_73 (fun v4 ev4 gv4 => ?_)
      have hF := hF.2.2 v4 ev4 gv4
      refine j_aload_n hJ dX8_isTwin_74 rfl 0 rfl ?_
      refine j_gr (e := (p1 + 9)) hJ (kP_0 hp1) fC_8_9 fl_X8_86 dX8_isTwin_75 rfl ?_
      refine j_iload hJ dX8_isTwin_78 3 rfl ?_
      refine j_iload_n hJ dX8_isTwin_80 rfl 2 rfl ?_
      refine j_iadd hJ dX8_isTwin_81 ?_
      have g5 := hF.1; have hF := hF.2
      refine j_lald hJ g5 (kP_9 hp1) hF.1 hF.2.1 dX8_isTwin_82 (fun v6 ev6 gv6 => ?_)
      have hF := hF.2.2 v6 ev6 gv6
      refine j_lcmp_eq hJ 89 gv4 gv6 dX8_isTwin_83 dX8_isTwin_84 (by decide) (fun z7 => ?_) (fun z7 => ?_)
      · have hF := hF.1 z7
        refine j_iinc (lv' := [(4, .int (Ii (x4 + 1))), (0, .ref (ad p1)), (1, .int (Ii x1)), (3, .int (Ii x3))]) (k := 3) hJ dX8_isTwin_89 rfl (by decide) rfl ?_
        have g8 := hF.1; have hF := hF.2
        refine j_goto hJ 54 dX8_isTwin_92 (by decide) ?_
        exact j_sub hJ [1, 2, 3, 0] rfl (ih x1 x3 (x4 + 1) _ gx1 gx3 g8 hF)
      · have hF := hF.2 z7
        refine j_iconst hJ dX8_isTwin_87 ?_
        exact j_zret hJ rfl (by decide) dX8_isTwin_88 hF
  intro x1 x3 x4 M gx1 gx3 gx4 hF
  obtain ⟨n, hF⟩ := hF
  exact H9 n x1 x3 x4 M gx1 gx3 gx4 hF
set_option maxHeartbeats 4000000 in
set_option maxRecDepth 100000 in
theorem c_X8_isTwin {l : Launch} {D : va_G} {cy : Nat → ClassId} {ad : Nat → Nat} (hin : jIn ad ksC.length) : jCN l D vwCl (tyC cy) cy ad ftC ksC (XtC ad) yX8_isTwin (.code yX8_isTwin cX8_isTwin 5 (some .boolean) :: Om) ({ frames := 0, cells := 0, slots := 0, locals := 0 } : Room) 3 (W_X8_isTwin ad) := by
  refine jCN_of (y := yX8_isTwin) (cc := cX8_isTwin) (nL := 5) (rk := 3) (rm := ({ frames := 0, cells := 0, slots := 0, locals := 0 } : Room)) (own := RX8) (tyC_ok cy) hin (XtC_ok ad) Om_good (by decide) rfl ?_
  intro Q av M hF
  obtain ⟨p1, p2, p3, rfl, hp1, gp2, gp3, hF⟩ := hF
  refine ⟨Nat.le_of_ble_eq_true rfl, fun J hJ => ?_⟩
  show J 0 [(0, .ref (ad p1)), (1, .int (Ii p2)), (2, .int (Ii p3))] [] M
  unfold w_X8_isTwin at hF
  refine j_aload_n hJ dX8_isTwin_0 rfl 0 rfl ?_
  refine j_gr (e := (p1 + 2)) hJ (kP_0 hp1) fC_8_2 fl_X8_104 dX8_isTwin_1 rfl ?_
  refine j_iload_n hJ dX8_isTwin_4 rfl 1 rfl ?_
  refine j_iald hJ gp2 (kP_2 hp1) hF.1 hF.2.1 dX8_isTwin_5 (fun v1 ev1 gv1 => ?_)
  have hF := hF.2.2 v1 ev1 gv1
  refine j_aload_n hJ dX8_isTwin_6 rfl 0 rfl ?_
  refine j_gr (e := (p1 + 2)) hJ (kP_0 hp1) fC_8_2 fl_X8_104 dX8_isTwin_7 rfl ?_
  refine j_iload_n hJ dX8_isTwin_10 rfl 2 rfl ?_
  refine j_iald hJ gp3 (kP_2 hp1) hF.1 hF.2.1 dX8_isTwin_11 (fun v2 ev2 gv2 => ?_)
  have hF := hF.2.2 v2 ev2 gv2
  refine j_icmp_ne hJ 30 gv1 gv2 dX8_isTwin_12 (by decide) (fun z3 => ?_) (fun z3 => ?_)
  · have hF := hF.1 z3
    refine j_iconst hJ dX8_isTwin_30 ?_
    exact j_zret hJ rfl (by decide) dX8_isTwin_31 hF
  · have hF := hF.2 z3
    refine j_aload_n hJ dX8_isTwin_15 rfl 0 rfl ?_
    refine j_gr (e := (p1 + 3)) hJ (kP_0 hp1) fC_8_3 fl_X8_107 dX8_isTwin_16 rfl ?_
    refine j_iload_n hJ dX8_isTwin_19 rfl 1 rfl ?_
    refine j_iald hJ gp2 (kP_3 hp1) hF.1 hF.2.1 dX8_isTwin_20 (fun v4 ev4 gv4 => ?_)
    have hF := hF.2.2 v4 ev4 gv4
    refine j_aload_n hJ dX8_isTwin_21 rfl 0 rfl ?_
    refine j_gr (e := (p1 + 3)) hJ (kP_0 hp1) fC_8_3 fl_X8_107 dX8_isTwin_22 rfl ?_
    refine j_iload_n hJ dX8_isTwin_25 rfl 2 rfl ?_
    refine j_iald hJ gp3 (kP_3 hp1) hF.1 hF.2.1 dX8_isTwin_26 (fun v5 ev5 gv5 => ?_)
    have hF := hF.2.2 v5 ev5 gv5
    refine j_icmp_eq hJ 32 gv4 gv5 dX8_isTwin_27 (by decide) (fun z6 => ?_) (fun z6 => ?_)
    · have hF := hF.1 z6
      refine j_aload_n hJ dX8_isTwin_32 rfl 0 rfl ?_
      refine j_gr (e := (p1 + 4)) hJ (kP_0 hp1) fC_8_4 fl_X8_79 dX8_isTwin_33 rfl ?_
      refine j_iload_n hJ dX8_isTwin_36 rfl 2 rfl ?_
      refine j_iald hJ gp3 (kP_4 hp1) hF.1 hF.2.1 dX8_isTwin_37 (fun v7 ev7 gv7 => ?_)
      have hF := hF.2.2 v7 ev7 gv7
      refine j_aload_n hJ dX8_isTwin_38 rfl 0 rfl ?_
      refine j_gr (e := (p1 + 4)) hJ (kP_0 hp1) fC_8_4 fl_X8_79 dX8_isTwin_39 rfl ?_
      refine j_iload_n hJ dX8_isTwin_42 rfl 1 rfl ?_
      refine j_iald hJ gp2 (kP_4 hp1) hF.1 hF.2.1 dX8_isTwin_43 (fun v8 ev8 gv8 => ?_)
      have hF := hF.2.2 v8 ev8 gv8
      refine j_isub hJ dX8_isTwin_44 ?_
      have g9 := hF.1; have hF := hF.2
      refine j_istore_n (lv' := [(3, .int (Ii (v7 - v8))), (0, .ref (ad p1)), (1, .int (Ii p2)), (2, .int (Ii p3))]) hJ dX8_isTwin_45 rfl (by decide) rfl ?_
      refine j_aload_n hJ dX8_isTwin_46 rfl 1 rfl ?_
      refine j_gr (e := (p1 + 4)) hJ (kP_0 hp1) fC_8_4 fl_X8_79 dX8_isTwin_47 rfl ?_
      refine j_iload_n hJ dX8_isTwin_50 rfl 2 rfl ?_
      refine j_iald hJ gp2 (kP_4 hp1) hF.1 hF.2.1 dX8_isTwin_51 (fun v10 ev10 gv10 => ?_)
      have hF := hF.2.2 v10 ev10 gv10
      refine j_istore (lv' := [(4, .int (Ii v10)), (3, .int (Ii (v7 - v8))), (0, .ref (ad p1)), (1, .int (Ii p2)), (2, .int (Ii p3))]) hJ dX8_isTwin_52 (by decide) rfl ?_
      exact j_sub hJ [2, 3, 1, 0] rfl (k_X8_isTwin_b54 hin hp1 hJ  p2 (v7 - v8) v10 _ gp2 g9 gv10 hF)
    · have hF := hF.2 z6
      refine j_iconst hJ dX8_isTwin_30 ?_
      exact j_zret hJ rfl (by decide) dX8_isTwin_31 hF
def W_X8_needTwins (ad : Nat → Nat) (Q : Int → MM → Prop) (av : List Value) (M : MM) : Prop := ∃ (c : Nat) (p1 : Nat), av = [.ref (ad c), .ref (ad p1)] ∧ isS c ∧ isP p1 ∧ w_X8_needTwins c p1 Q  M
set_option maxHeartbeats 4000000 in
set_option maxRecDepth 100000 in
theorem k_X8_needTwins_b232 {l : Launch} {D : va_G} {cy : Nat → ClassId} {ad : Nat → Nat} {Q : Int → MM → Prop} {J : Nat → List (Nat × Value) → List Value → MM → Prop} (hin : jIn ad ksC.length) {c p1 : Nat} (hc : isS c) (hp1 : isP p1) (hJ : jOk l D vwCl (tyC cy) cy ad ftC ksC (XtC ad) Om RX8 cX8_needTwins 6 0 ({ frames := 1, cells := 0, slots := 0, locals := 24 } : Room) Q J) {K164 : Int → MM → Prop} (hK164 : ∀ (x2 : Int) (M : MM), ri_ x2 → K164 x2 M → J 164 [(0, .ref (ad c)), (1, .ref (ad p1)), (2, .int (Ii x2))] [] M) : ∀ (x2 x3 : Int) (M : MM), ri_ x2 → ri_ x3 → w_X8_needTwins_b232 c p1 Q K164 x2 x3 M → J 232 [(0, .ref (ad c)), (1, .ref (ad p1)), (2, .int (Ii x2)), (3, .int (Ii x3))] [] M := by
  intro x2 x3 M gx2 gx3 hF
  unfold w_X8_needTwins_b232 at hF
  refine j_aload_n hJ dX8_needTwins_232 rfl 0 rfl ?_
  refine j_gr (e := (c + 8)) hJ (kS_0 hc) fC_11_10 fl_X8_39 dX8_needTwins_233 rfl ?_
  refine j_iload_n hJ dX8_needTwins_236 rfl 2 rfl ?_
  refine j_aload_n hJ dX8_needTwins_237 rfl 0 rfl ?_
  refine j_gr (e := (c + 12)) hJ (kS_0 hc) fC_11_15 fl_X8_51 dX8_needTwins_238 rfl ?_
  refine j_iload_n hJ dX8_needTwins_241 rfl 3 rfl ?_
  refine j_iald hJ gx3 (kS_12 hc) hF.1 hF.2.1 dX8_needTwins_242 (fun v1 ev1 gv1 => ?_)
  have hF := hF.2.2 v1 ev1 gv1
  refine j_iast hJ gx2 gv1 (kS_8 hc) hF.1 hF.2.1 dX8_needTwins_243 (fun M2 eM2 => ?_)
  have hF := hF.2.2 M2 eM2
  refine j_iinc (lv' := [(2, .int (Ii (x2 + 1))), (0, .ref (ad c)), (1, .ref (ad p1)), (3, .int (Ii x3))]) (k := 2) hJ dX8_needTwins_244 rfl (by decide) rfl ?_
  have g3 := hF.1; have hF := hF.2
  refine j_goto hJ 164 dX8_needTwins_247 (by decide) ?_
  exact j_sub hJ [1, 2, 0] rfl (hK164 (x2 + 1) _ g3 hF)
set_option maxHeartbeats 4000000 in
set_option maxRecDepth 100000 in
theorem k_X8_needTwins_b228 {l : Launch} {D : va_G} {cy : Nat → ClassId} {ad : Nat → Nat} {Q : Int → MM → Prop} {J : Nat → List (Nat × Value) → List Value → MM → Prop} (hin : jIn ad ksC.length) {c p1 : Nat} (hc : isS c) (hp1 : isP p1) (hJ : jOk l D vwCl (tyC cy) cy ad ftC ksC (XtC ad) Om RX8 cX8_needTwins 6 0 ({ frames := 1, cells := 0, slots := 0, locals := 24 } : Room) Q J) {K164 : Int → MM → Prop} (hK164 : ∀ (x2 : Int) (M : MM), ri_ x2 → K164 x2 M → J 164 [(0, .ref (ad c)), (1, .ref (ad p1)), (2, .int (Ii x2))] [] M) : ∀ (x2 x3 s0 s1 : Int) (M : MM), ri_ x2 → ri_ x3 → ri_ s0 → ri_ s1 → w_X8_needTwins_b228 c p1 Q K164 x2 x3 s0 s1 M → J 228 [(0, .ref (ad c)), (1, .ref (ad p1)), (2, .int (Ii x2)), (3, .int (Ii x3))] [.int (Ii s0), .int (Ii s1), .ref (ad c)] M := by
  intro x2 x3 s0 s1 M gx2 gx3 gs0 gs1 hF
  unfold w_X8_needTwins_b228 at hF
  refine j_iadd hJ dX8_needTwins_228 ?_
  have g1 := hF.1; have hF := hF.2
  refine j_pi hJ g1 (kS_0 hc) fC_11_11 rfl fp_X8_159 dX8_needTwins_229 (fun M2 eM2 => ?_)
  have hF := hF M2 eM2
  exact j_sub hJ [0, 1, 2, 3] rfl (k_X8_needTwins_b232 hin hc hp1 hJ hK164 x2 x3 _ gx2 gx3 hF)
set_option maxHeartbeats 4000000 in
set_option maxRecDepth 100000 in
theorem k_X8_needTwins_b207 {l : Launch} {D : va_G} {cy : Nat → ClassId} {ad : Nat → Nat} {Q : Int → MM → Prop} {J : Nat → List (Nat × Value) → List Value → MM → Prop} (hin : jIn ad ksC.length) {c p1 : Nat} (hc : isS c) (hp1 : isP p1) (hJ : jOk l D vwCl (tyC cy) cy ad ftC ksC (XtC ad) Om RX8 cX8_needTwins 6 0 ({ frames := 1, cells := 0, slots := 0, locals := 24 } : Room) Q J) {K164 : Int → MM → Prop} (hK164 : ∀ (x2 : Int) (M : MM), ri_ x2 → K164 x2 M → J 164 [(0, .ref (ad c)), (1, .ref (ad p1)), (2, .int (Ii x2))] [] M) : ∀ (x2 x3 s0 s1 : Int) (M : MM), ri_ x2 → ri_ x3 → ri_ s0 → ri_ s1 → w_X8_needTwins_b207 c p1 Q K164 x2 x3 s0 s1 M → J 207 [(0, .ref (ad c)), (1, .ref (ad p1)), (2, .int (Ii x2)), (3, .int (Ii x3))] [.int (Ii s0), .int (Ii s1), .ref (ad (c + 12))] M := by
  intro x2 x3 s0 s1 M gx2 gx3 gs0 gs1 hF
  unfold w_X8_needTwins_b207 at hF
  refine j_iast hJ gs1 gs0 (kS_12 hc) hF.1 hF.2.1 dX8_needTwins_207 (fun M1 eM1 => ?_)
  have hF := hF.2.2 M1 eM1
  refine j_aload_n hJ dX8_needTwins_208 rfl 0 rfl ?_
  refine j_dup hJ dX8_needTwins_209 rfl ?_
  refine j_gi hJ (kS_0 hc) fC_11_11 rfl fl_X8_159 dX8_needTwins_210 (fun v2 ev2 gv2 => ?_)
  have hF := hF v2 ev2 gv2
  refine j_aload_n hJ dX8_needTwins_213 rfl 0 rfl ?_
  refine j_gr (e := (c + 10)) hJ (kS_0 hc) fC_11_13 fl_X8_45 dX8_needTwins_214 rfl ?_
  refine j_iload_n hJ dX8_needTwins_217 rfl 2 rfl ?_
  refine j_iald hJ gx2 (kS_10 hc) hF.1 hF.2.1 dX8_needTwins_218 (fun v3 ev3 gv3 => ?_)
  have hF := hF.2.2 v3 ev3 gv3
  refine j_iconst hJ dX8_needTwins_219 ?_
  refine j_icmp_le hJ 227 gv3 rk_1 dX8_needTwins_220 (by decide) (fun z4 => ?_) (fun z4 => ?_)
  · have hF := hF.1 z4
    refine j_iconst hJ dX8_needTwins_227 ?_
    exact j_sub hJ [0, 1, 2, 3] rfl (k_X8_needTwins_b228 hin hc hp1 hJ hK164 x2 x3 0 v2 _ gx2 gx3 rk_0 gv2 hF)
  · have hF := hF.2 z4
    refine j_iconst hJ dX8_needTwins_223 ?_
    refine j_goto hJ 228 dX8_needTwins_224 (by decide) ?_
    exact j_sub hJ [0, 1, 2, 3] rfl (k_X8_needTwins_b228 hin hc hp1 hJ hK164 x2 x3 1 v2 _ gx2 gx3 rk_1 gv2 hF)
set_option maxHeartbeats 4000000 in
set_option maxRecDepth 100000 in
theorem k_X8_needTwins_b164 {l : Launch} {D : va_G} {cy : Nat → ClassId} {ad : Nat → Nat} {Q : Int → MM → Prop} {J : Nat → List (Nat × Value) → List Value → MM → Prop} (hin : jIn ad ksC.length) {c p1 : Nat} (hc : isS c) (hp1 : isP p1) (hJ : jOk l D vwCl (tyC cy) cy ad ftC ksC (XtC ad) Om RX8 cX8_needTwins 6 0 ({ frames := 1, cells := 0, slots := 0, locals := 24 } : Room) Q J)  : ∀ (x2 : Int) (M : MM), ri_ x2 → w_X8_needTwins_b164 c p1 Q  x2 M → J 164 [(0, .ref (ad c)), (1, .ref (ad p1)), (2, .int (Ii x2))] [] M := by
  have H9 : ∀ (n : Nat) (x2 : Int) (M : MM), ri_ x2 → jit (fun _ _ => False) (wb_X8_needTwins_b164 c p1 Q ) n x2 M → J 164 [(0, .ref (ad c)), (1, .ref (ad p1)), (2, .int (Ii x2))] [] M := by
    intro n
    induction n with
    | zero => intro x2 M gx2 hF; exact False.elim hF
    | succ n ih =>
    intro x2 M gx2 hF
    have hF : wb_X8_needTwins_b164 c p1 Q  (jit (fun _ _ => False) (wb_X8_needTwins_b164 c p1 Q ) n) x2 M := hF
    unfold wb_X8_needTwins_b164 at hF
    refine j_iload_n hJ dX8_needTwins_164 rfl 2 rfl ?_
    refine j_aload_n hJ dX8_needTwins_165 rfl 1 rfl ?_
    refine j_gi hJ (kP_0 hp1) fC_8_0 rfl fl_X8_64 dX8_needTwins_166 (fun v1 ev1 gv1 => ?_)
    have hF := hF v1 ev1 gv1
    refine j_icmp_ge hJ 250 gx2 gv1 dX8_needTwins_169 (by decide) (fun z2 => ?_) (fun z2 => ?_)
    · have hF := hF.1 z2
      exact j_vret hJ rfl dX8_needTwins_250 hF
    · have hF := hF.2 z2
      refine j_aload_n hJ dX8_needTwins_172 rfl 0 rfl ?_
      refine j_gr (e := (c + 8)) hJ (kS_0 hc) fC_11_10 fl_X8_39 dX8_needTwins_173 rfl ?_
      refine j_iload_n hJ dX8_needTwins_176 rfl 2 rfl ?_
      refine j_iald hJ gx2 (kS_8 hc) hF.1 hF.2.1 dX8_needTwins_177 (fun v3 ev3 gv3 => ?_)
      have hF := hF.2.2 v3 ev3 gv3
      refine j_istore_n (lv' := [(3, .int (Ii v3)), (0, .ref (ad c)), (1, .ref (ad p1)), (2, .int (Ii x2))]) hJ dX8_needTwins_178 rfl (by decide) rfl ?_
      refine j_iload_n hJ dX8_needTwins_179 rfl 0 rfl ?_
      refine j_iload_n hJ dX8_needTwins_180 rfl 3 rfl ?_
      refine j_icmp_ne hJ 232 gv3 gx2 dX8_needTwins_181 (by decide) (fun z4 => ?_) (fun z4 => ?_)
      · have hF := hF.1 z4
        exact j_sub hJ [1, 2, 3, 0] rfl (k_X8_needTwins_b232 hin hc hp1 hJ ih x2 v3 _ gx2 gv3 hF)
      · have hF := hF.2 z4
        refine j_aload_n hJ dX8_needTwins_184 rfl 1 rfl ?_
        refine j_gr (e := (c + 12)) hJ (kS_0 hc) fC_11_15 fl_X8_51 dX8_needTwins_185 rfl ?_
        refine j_iload_n hJ dX8_needTwins_188 rfl 3 rfl ?_
        refine j_aload_n hJ dX8_needTwins_189 rfl 1 rfl ?_
        refine j_gr (e := (c + 10)) hJ (kS_0 hc) fC_11_13 fl_X8_45 dX8_needTwins_190 rfl ?_
        refine j_iload_n hJ dX8_needTwins_193 rfl 3 rfl ?_
        refine j_iald hJ gx2 (kS_10 hc) hF.1 hF.2.1 dX8_needTwins_194 (fun v5 ev5 gv5 => ?_)
        have hF := hF.2.2 v5 ev5 gv5
        refine j_iconst hJ dX8_needTwins_195 ?_
        refine j_icmp_le hJ 206 gv5 rk_1 dX8_needTwins_196 (by decide) (fun z6 => ?_) (fun z6 => ?_)
        · have hF := hF.1 z6
          refine j_iconst hJ dX8_needTwins_206 ?_
          exact j_sub hJ [1, 2, 3, 0] rfl (k_X8_needTwins_b207 hin hc hp1 hJ ih x2 v3 (-1) x2 _ gx2 gv3 rk_m1 gx2 hF)
        · have hF := hF.2 z6
          refine j_aload_n hJ dX8_needTwins_199 rfl 1 rfl ?_
          refine j_gi hJ (kS_0 hc) fC_11_11 rfl fl_X8_159 dX8_needTwins_200 (fun v7 ev7 gv7 => ?_)
          have hF := hF v7 ev7 gv7
          refine j_goto hJ 207 dX8_needTwins_203 (by decide) ?_
          exact j_sub hJ [1, 2, 3, 0] rfl (k_X8_needTwins_b207 hin hc hp1 hJ ih x2 v3 v7 x2 _ gx2 gv3 gv7 gx2 hF)
  intro x2 M gx2 hF
  obtain ⟨n, hF⟩ := hF
  exact H9 n x2 M gx2 hF
set_option maxHeartbeats 4000000 in
set_option maxRecDepth 100000 in
theorem k_X8_needTwins_b132 {l : Launch} {D : va_G} {cy : Nat → ClassId} {ad : Nat → Nat} {Q : Int → MM → Prop} {J : Nat → List (Nat × Value) → List Value → MM → Prop} (hin : jIn ad ksC.length) {c p1 : Nat} (hc : isS c) (hp1 : isP p1) (hJ : jOk l D vwCl (tyC cy) cy ad ftC ksC (XtC ad) Om RX8 cX8_needTwins 6 0 ({ frames := 1, cells := 0, slots := 0, locals := 24 } : Room) Q J) {K32 : Int → MM → Prop} (hK32 : ∀ (x2 : Int) (M : MM), ri_ x2 → K32 x2 M → J 32 [(0, .ref (ad c)), (1, .ref (ad p1)), (2, .int (Ii x2))] [] M) : ∀ (x2 x4 : Int) (M : MM), ri_ x2 → ri_ x4 → w_X8_needTwins_b132 c p1 Q K32 x2 x4 M → J 132 [(0, .ref (ad c)), (1, .ref (ad p1)), (2, .int (Ii x2)), (4, .int (Ii x4))] [] M := by
  intro x2 x4 M gx2 gx4 hF
  unfold w_X8_needTwins_b132 at hF
  refine j_aload_n hJ dX8_needTwins_132 rfl 0 rfl ?_
  refine j_gr (e := (c + 8)) hJ (kS_0 hc) fC_11_10 fl_X8_39 dX8_needTwins_133 rfl ?_
  refine j_iload_n hJ dX8_needTwins_136 rfl 2 rfl ?_
  refine j_iload hJ dX8_needTwins_137 3 rfl ?_
  refine j_iast hJ gx2 gx4 (kS_8 hc) hF.1 hF.2.1 dX8_needTwins_139 (fun M1 eM1 => ?_)
  have hF := hF.2.2 M1 eM1
  refine j_aload_n hJ dX8_needTwins_140 rfl 0 rfl ?_
  refine j_gr (e := (c + 10)) hJ (kS_0 hc) fC_11_13 fl_X8_45 dX8_needTwins_141 rfl ?_
  refine j_iload hJ dX8_needTwins_144 3 rfl ?_
  refine j_dup2_11 hJ dX8_needTwins_146 rfl rfl ?_
  refine j_iald hJ gx4 (kS_10 hc) hF.1 hF.2.1 dX8_needTwins_147 (fun v2 ev2 gv2 => ?_)
  have hF := hF.2.2 v2 ev2 gv2
  refine j_iconst hJ dX8_needTwins_148 ?_
  refine j_iadd hJ dX8_needTwins_149 ?_
  have g3 := hF.1; have hF := hF.2
  refine j_iast hJ gx4 g3 (kS_10 hc) hF.1 hF.2.1 dX8_needTwins_150 (fun M4 eM4 => ?_)
  have hF := hF.2.2 M4 eM4
  refine j_iinc (lv' := [(2, .int (Ii (x2 + 1))), (0, .ref (ad c)), (1, .ref (ad p1)), (4, .int (Ii x4))]) (k := 2) hJ dX8_needTwins_151 rfl (by decide) rfl ?_
  have g5 := hF.1; have hF := hF.2
  refine j_goto hJ 32 dX8_needTwins_154 (by decide) ?_
  exact j_sub hJ [1, 2, 0] rfl (hK32 (x2 + 1) _ g5 hF)
set_option maxHeartbeats 4000000 in
set_option maxRecDepth 100000 in
theorem k_X8_needTwins_b97 {l : Launch} {D : va_G} {cy : Nat → ClassId} {ad : Nat → Nat} {Q : Int → MM → Prop} {J : Nat → List (Nat × Value) → List Value → MM → Prop} (hin : jIn ad ksC.length) {c p1 : Nat} (hc : isS c) (hp1 : isP p1) (hJ : jOk l D vwCl (tyC cy) cy ad ftC ksC (XtC ad) Om RX8 cX8_needTwins 6 0 ({ frames := 1, cells := 0, slots := 0, locals := 24 } : Room) Q J) {K32 : Int → MM → Prop} (hK32 : ∀ (x2 : Int) (M : MM), ri_ x2 → K32 x2 M → J 32 [(0, .ref (ad c)), (1, .ref (ad p1)), (2, .int (Ii x2))] [] M) : ∀ (x2 x3 x4 : Int) (M : MM), ri_ x2 → ri_ x3 → ri_ x4 → w_X8_needTwins_b97 c p1 Q K32 x2 x3 x4 M → J 97 [(0, .ref (ad c)), (1, .ref (ad p1)), (2, .int (Ii x2)), (3, .int (Ii x3)), (4, .int (Ii x4))] [] M := by
  intro x2 x3 x4 M gx2 gx3 gx4 hF
  unfold w_X8_needTwins_b97 at hF
  refine j_iload hJ dX8_needTwins_97 4 rfl ?_
  refine j_iconst hJ dX8_needTwins_99 ?_
  refine j_icmp_ne hJ 132 gx4 rk_m1 dX8_needTwins_100 (by decide) (fun z1 => ?_) (fun z1 => ?_)
  · have hF := hF.1 z1
    exact j_sub hJ [0, 1, 2, 4] rfl (k_X8_needTwins_b132 hin hc hp1 hJ hK32 x2 x4 _ gx2 gx4 hF)
  · have hF := hF.2 z1
    refine j_iload_n hJ dX8_needTwins_103 rfl 2 rfl ?_
    refine j_istore (lv' := [(4, .int (Ii x2)), (0, .ref (ad c)), (1, .ref (ad p1)), (2, .int (Ii x2)), (3, .int (Ii x3))]) hJ dX8_needTwins_104 (by decide) rfl ?_
    refine j_aload_n hJ dX8_needTwins_106 rfl 1 rfl ?_
    refine j_gr (e := (c + 13)) hJ (kS_0 hc) fC_11_16 fl_X8_54 dX8_needTwins_107 rfl ?_
    refine j_iload_n hJ dX8_needTwins_110 rfl 3 rfl ?_
    refine j_aload_n hJ dX8_needTwins_111 rfl 1 rfl ?_
    refine j_gr (e := (c + 14)) hJ (kS_0 hc) fC_11_17 fl_X8_57 dX8_needTwins_112 rfl ?_
    refine j_iload_n hJ dX8_needTwins_115 rfl 4 rfl ?_
    refine j_iald hJ gx3 (kS_14 hc) hF.1 hF.2.1 dX8_needTwins_116 (fun v2 ev2 gv2 => ?_)
    have hF := hF.2.2 v2 ev2 gv2
    refine j_iast hJ gx2 gv2 (kS_13 hc) hF.1 hF.2.1 dX8_needTwins_117 (fun M3 eM3 => ?_)
    have hF := hF.2.2 M3 eM3
    refine j_aload_n hJ dX8_needTwins_118 rfl 1 rfl ?_
    refine j_gr (e := (c + 14)) hJ (kS_0 hc) fC_11_17 fl_X8_57 dX8_needTwins_119 rfl ?_
    refine j_iload_n hJ dX8_needTwins_122 rfl 4 rfl ?_
    refine j_iload_n hJ dX8_needTwins_123 rfl 3 rfl ?_
    refine j_iast hJ gx3 gx2 (kS_14 hc) hF.1 hF.2.1 dX8_needTwins_124 (fun M4 eM4 => ?_)
    have hF := hF.2.2 M4 eM4
    refine j_aload_n hJ dX8_needTwins_125 rfl 1 rfl ?_
    refine j_gr (e := (c + 10)) hJ (kS_0 hc) fC_11_13 fl_X8_45 dX8_needTwins_126 rfl ?_
    refine j_iload_n hJ dX8_needTwins_129 rfl 3 rfl ?_
    refine j_iconst hJ dX8_needTwins_130 ?_
    refine j_iast hJ gx2 rk_0 (kS_10 hc) hF.1 hF.2.1 dX8_needTwins_131 (fun M5 eM5 => ?_)
    have hF := hF.2.2 M5 eM5
    exact j_sub hJ [1, 2, 3, 0] rfl (k_X8_needTwins_b132 hin hc hp1 hJ hK32 x2 x2 _ gx2 gx2 hF)
set_option maxHeartbeats 4000000 in
set_option maxRecDepth 100000 in
theorem k_X8_needTwins_b57 {l : Launch} {D : va_G} {cy : Nat → ClassId} {ad : Nat → Nat} {Q : Int → MM → Prop} {J : Nat → List (Nat × Value) → List Value → MM → Prop} (hin : jIn ad ksC.length) {c p1 : Nat} (hc : isS c) (hp1 : isP p1) (hJ : jOk l D vwCl (tyC cy) cy ad ftC ksC (XtC ad) Om RX8 cX8_needTwins 6 0 ({ frames := 1, cells := 0, slots := 0, locals := 24 } : Room) Q J) {K32 : Int → MM → Prop} (hK32 : ∀ (x2 : Int) (M : MM), ri_ x2 → K32 x2 M → J 32 [(0, .ref (ad c)), (1, .ref (ad p1)), (2, .int (Ii x2))] [] M) : ∀ (x2 x3 x4 x5 : Int) (M : MM), ri_ x2 → ri_ x3 → ri_ x4 → ri_ x5 → w_X8_needTwins_b57 c p1 Q K32 x2 x3 x4 x5 M → J 57 [(0, .ref (ad c)), (1, .ref (ad p1)), (2, .int (Ii x2)), (3, .int (Ii x3)), (4, .int (Ii x4)), (5, .int (Ii x5))] [] M := by
  have H9 : ∀ (n : Nat) (x2 x3 x4 x5 : Int) (M : MM), ri_ x2 → ri_ x3 → ri_ x4 → ri_ x5 → jit (fun _ _ _ _ _ => False) (wb_X8_needTwins_b57 c p1 Q K32) n x2 x3 x4 x5 M → J 57 [(0, .ref (ad c)), (1, .ref (ad p1)), (2, .int (Ii x2)), (3, .int (Ii x3)), (4, .int (Ii x4)), (5, .int (Ii x5))] [] M := by
    intro n
    induction n with
    | zero => intro x2 x3 x4 x5 M gx2 gx3 gx4 gx5 hF; exact False.elim hF
    | succ n ih =>
    intro x2 x3 x4 x5 M gx2 gx3 gx4 gx5 hF
    have hF : wb_X8_needTwins_b57 c p1 Q K32 (jit (fun _ _ _ _ _ => False) (wb_X8_needTwins_b57 c p1 Q K32) n) x2 x3 x4 x5 M := hF
    unfold wb_X8_needTwins_b57 at hF
    refine j_iload hJ dX8_needTwins_57 5 rfl ?_
    refine j_aload_n hJ dX8_needTwins_59 rfl 1 rfl ?_
    refine j_gi hJ (kP_0 hp1) fC_8_0 rfl fl_X8_64 dX8_needTwins_60 (fun v1 ev1 gv1 => ?_)
    have hF := hF v1 ev1 gv1
    refine j_icmp_ge hJ 97 gx5 gv1 dX8_needTwins_63 (by decide) (fun z2 => ?_) (fun z2 => ?_)
    · have hF := hF.1 z2
      exact j_sub hJ [0, 1, 2, 3, 4] rfl (k_X8_needTwins_b97 hin hc hp1 hJ hK32 x2 x3 x4 _ gx2 gx3 gx4 hF)
    · have hF := hF.2 z2
      refine j_iload hJ dX8_needTwins_66 4 rfl ?_
      refine j_iconst hJ dX8_needTwins_68 ?_
      refine j_icmp_eq hJ 97 gx4 rk_m1 dX8_needTwins_69 (by decide) (fun z3 => ?_) (fun z3 => ?_)
      · have hF := hF.1 z3
        exact j_sub hJ [0, 1, 2, 3, 4] rfl (k_X8_needTwins_b97 hin hc hp1 hJ hK32 x2 x3 x4 _ gx2 gx3 gx4 hF)
      · have hF := hF.2 z3
        refine j_aload_n hJ dX8_needTwins_72 rfl 1 rfl ?_
        refine j_iload hJ dX8_needTwins_73 4 rfl ?_
        refine j_iload_n hJ dX8_needTwins_75 rfl 2 rfl ?_
        refine j_callSz hJ (c_X8_isTwin (l := l) (D := D) (cy := cy) (ad := ad) hin) rfl om_505 ⟨rfl, rfl, Nat.le_of_ble_eq_true rfl, Nat.le_of_ble_eq_true rfl⟩ [.ref (ad p1), .int (Ii x4), .int (Ii x2)] mv_X8_155 hd_X8_isTwin rfl (Nat.le_of_ble_eq_true rfl) dX8_needTwins_76 ⟨p1, x4, x2, rfl, hp1, gx4, gx2, hF⟩ (fun r4 M5 gr4 qM5 => ?_)
        have hF := qM5 gr4
        refine j_if_ne hJ 97 (jz_ri gr4) dX8_needTwins_79 (by decide) (fun z6 => ?_) (fun z6 => ?_)
        · have hF := hF.1 z6
          exact j_sub hJ [0, 1, 2, 3, 4] rfl (k_X8_needTwins_b97 hin hc hp1 hJ hK32 x2 x3 x4 _ gx2 gx3 gx4 hF)
        · have hF := hF.2 z6
          refine j_aload_n hJ dX8_needTwins_82 rfl 0 rfl ?_
          refine j_gr (e := (c + 13)) hJ (kS_0 hc) fC_11_16 fl_X8_54 dX8_needTwins_83 rfl ?_
          refine j_iload hJ dX8_needTwins_86 4 rfl ?_
          refine j_iald hJ gx4 (kS_13 hc) hF.1 hF.2.1 dX8_needTwins_88 (fun v7 ev7 gv7 => ?_)
          have hF := hF.2.2 v7 ev7 gv7
          refine j_istore (lv' := [(4, .int (Ii v7)), (0, .ref (ad c)), (1, .ref (ad p1)), (2, .int (Ii x2)), (3, .int (Ii x3)), (5, .int (Ii x5))]) hJ dX8_needTwins_89 (by decide) rfl ?_
          refine j_iinc (lv' := [(5, .int (Ii (x5 + 1))), (4, .int (Ii v7)), (0, .ref (ad c)), (1, .ref (ad p1)), (2, .int (Ii x2)), (3, .int (Ii x3))]) (k := 5) hJ dX8_needTwins_91 rfl (by decide) rfl ?_
          have g8 := hF.1; have hF := hF.2
          refine j_goto hJ 57 dX8_needTwins_94 (by decide) ?_
          exact j_sub hJ [2, 3, 4, 5, 1, 0] rfl (ih x2 x3 v7 (x5 + 1) _ gx2 gx3 gv7 g8 hF)
  intro x2 x3 x4 x5 M gx2 gx3 gx4 gx5 hF
  obtain ⟨n, hF⟩ := hF
  exact H9 n x2 x3 x4 x5 M gx2 gx3 gx4 gx5 hF
set_option maxHeartbeats 4000000 in
set_option maxRecDepth 100000 in
theorem k_X8_needTwins_b32 {l : Launch} {D : va_G} {cy : Nat → ClassId} {ad : Nat → Nat} {Q : Int → MM → Prop} {J : Nat → List (Nat × Value) → List Value → MM → Prop} (hin : jIn ad ksC.length) {c p1 : Nat} (hc : isS c) (hp1 : isP p1) (hJ : jOk l D vwCl (tyC cy) cy ad ftC ksC (XtC ad) Om RX8 cX8_needTwins 6 0 ({ frames := 1, cells := 0, slots := 0, locals := 24 } : Room) Q J)  : ∀ (x2 : Int) (M : MM), ri_ x2 → w_X8_needTwins_b32 c p1 Q  x2 M → J 32 [(0, .ref (ad c)), (1, .ref (ad p1)), (2, .int (Ii x2))] [] M := by
  have H9 : ∀ (n : Nat) (x2 : Int) (M : MM), ri_ x2 → jit (fun _ _ => False) (wb_X8_needTwins_b32 c p1 Q ) n x2 M → J 32 [(0, .ref (ad c)), (1, .ref (ad p1)), (2, .int (Ii x2))] [] M := by
    intro n
    induction n with
    | zero => intro x2 M gx2 hF; exact False.elim hF
    | succ n ih =>
    intro x2 M gx2 hF
    have hF : wb_X8_needTwins_b32 c p1 Q  (jit (fun _ _ => False) (wb_X8_needTwins_b32 c p1 Q ) n) x2 M := hF
    unfold wb_X8_needTwins_b32 at hF
    refine j_iload_n hJ dX8_needTwins_32 rfl 2 rfl ?_
    refine j_aload_n hJ dX8_needTwins_33 rfl 1 rfl ?_
    refine j_gi hJ (kP_0 hp1) fC_8_0 rfl fl_X8_64 dX8_needTwins_34 (fun v1 ev1 gv1 => ?_)
    have hF := hF v1 ev1 gv1
    refine j_icmp_ge hJ 157 gx2 gv1 dX8_needTwins_37 (by decide) (fun z2 => ?_) (fun z2 => ?_)
    · have hF := hF.1 z2
      refine j_aload_n hJ dX8_needTwins_157 rfl 0 rfl ?_
      refine j_iconst hJ dX8_needTwins_158 ?_
      refine j_pi hJ rk_0 (kS_0 hc) fC_11_11 rfl fp_X8_159 dX8_needTwins_159 (fun M3 eM3 => ?_)
      have hF := hF M3 eM3
      refine j_iconst hJ dX8_needTwins_162 ?_
      refine j_istore_n (lv' := [(2, .int (Ii 0)), (0, .ref (ad c)), (1, .ref (ad p1))]) hJ dX8_needTwins_163 rfl (by decide) rfl ?_
      exact j_sub hJ [1, 2, 0] rfl (k_X8_needTwins_b164 hin hc hp1 hJ  0 _ rk_0 hF)
    · have hF := hF.2 z2
      refine j_aload_n hJ dX8_needTwins_40 rfl 1 rfl ?_
      refine j_iload_n hJ dX8_needTwins_41 rfl 2 rfl ?_
      refine j_callSi hJ (c_X8_bucketOf (l := l) (D := D) (cy := cy) (ad := ad) hin) rfl om_502 ⟨rfl, rfl, Nat.le_of_ble_eq_true rfl, Nat.le_of_ble_eq_true rfl⟩ [.ref (ad p1), .int (Ii x2)] mv_X8_152 hd_X8_bucketOf rfl (Nat.le_of_ble_eq_true rfl) dX8_needTwins_42 ⟨p1, x2, rfl, hp1, gx2, hF⟩ (fun r4 M5 gr4 qM5 => ?_)
      have hF := qM5 gr4
      refine j_istore_n (lv' := [(3, .int (Ii r4)), (0, .ref (ad c)), (1, .ref (ad p1)), (2, .int (Ii x2))]) hJ dX8_needTwins_45 rfl (by decide) rfl ?_
      refine j_aload_n hJ dX8_needTwins_46 rfl 1 rfl ?_
      refine j_gr (e := (c + 14)) hJ (kS_0 hc) fC_11_17 fl_X8_57 dX8_needTwins_47 rfl ?_
      refine j_iload_n hJ dX8_needTwins_50 rfl 0 rfl ?_
      refine j_iald hJ gr4 (kS_14 hc) hF.1 hF.2.1 dX8_needTwins_51 (fun v6 ev6 gv6 => ?_)
      have hF := hF.2.2 v6 ev6 gv6
      refine j_istore (lv' := [(4, .int (Ii v6)), (3, .int (Ii r4)), (0, .ref (ad c)), (1, .ref (ad p1)), (2, .int (Ii x2))]) hJ dX8_needTwins_52 (by decide) rfl ?_
      refine j_iconst hJ dX8_needTwins_54 ?_
      refine j_istore (lv' := [(5, .int (Ii 0)), (4, .int (Ii v6)), (3, .int (Ii r4)), (0, .ref (ad c)), (1, .ref (ad p1)), (2, .int (Ii x2))]) hJ dX8_needTwins_55 (by decide) rfl ?_
      exact j_sub hJ [3, 4, 5, 2, 1, 0] rfl (k_X8_needTwins_b57 hin hc hp1 hJ ih x2 r4 v6 0 _ gx2 gr4 gv6 rk_0 hF)
  intro x2 M gx2 hF
  obtain ⟨n, hF⟩ := hF
  exact H9 n x2 M gx2 hF
set_option maxHeartbeats 4000000 in
set_option maxRecDepth 100000 in
theorem c_X8_needTwins {l : Launch} {D : va_G} {cy : Nat → ClassId} {ad : Nat → Nat} (hin : jIn ad ksC.length) : jCN l D vwCl (tyC cy) cy ad ftC ksC (XtC ad) yX8_needTwins (.code yX8_needTwins cX8_needTwins 6 none :: Om) ({ frames := 1, cells := 0, slots := 0, locals := 24 } : Room) 0 (W_X8_needTwins ad) := by
  refine jCN_of (y := yX8_needTwins) (cc := cX8_needTwins) (nL := 6) (rk := 0) (rm := ({ frames := 1, cells := 0, slots := 0, locals := 24 } : Room)) (own := RX8) (tyC_ok cy) hin (XtC_ok ad) Om_good (by decide) rfl ?_
  intro Q av M hF
  obtain ⟨c, p1, rfl, hc, hp1, hF⟩ := hF
  refine ⟨Nat.le_of_ble_eq_true rfl, fun J hJ => ?_⟩
  show J 0 [(0, .ref (ad c)), (1, .ref (ad p1))] [] M
  unfold w_X8_needTwins at hF
  refine j_aload_n hJ dX8_needTwins_0 rfl 0 rfl ?_
  refine j_gi hJ (kS_0 hc) fC_11_1 rfl fl_X8_60 dX8_needTwins_1 (fun v1 ev1 gv1 => ?_)
  have hF := hF v1 ev1 gv1
  refine j_bipush hJ dX8_needTwins_4 (by decide) ?_
  refine j_iand hJ dX8_needTwins_6 ?_
  refine j_if_eq hJ 11 (ri_of _) dX8_needTwins_7 (by decide) (fun z2 => ?_) (fun z2 => ?_)
  · have hF := hF.1 z2
    refine j_aload_n hJ dX8_needTwins_11 rfl 0 rfl ?_
    refine j_dup hJ dX8_needTwins_12 rfl ?_
    refine j_gi hJ (kS_0 hc) fC_11_1 rfl fl_X8_60 dX8_needTwins_13 (fun v3 ev3 gv3 => ?_)
    have hF := hF v3 ev3 gv3
    refine j_bipush hJ dX8_needTwins_16 (by decide) ?_
    refine j_ior hJ dX8_needTwins_18 ?_
    refine j_pi hJ (ri_of _) (kS_0 hc) fC_11_1 rfl fp_X8_60 dX8_needTwins_19 (fun M4 eM4 => ?_)
    have hF := hF M4 eM4
    refine j_aload_n hJ dX8_needTwins_22 rfl 0 rfl ?_
    refine j_gr (e := (c + 14)) hJ (kS_0 hc) fC_11_17 fl_X8_57 dX8_needTwins_23 rfl ?_
    refine j_iconst hJ dX8_needTwins_26 ?_
    refine j_callSv hJ (c_J7_fill_53178_C (l := l) (D := D) (cy := cy) (ad := ad) hin) rfl om_497 ⟨rfl, rfl, Nat.le_of_ble_eq_true rfl, Nat.le_of_ble_eq_true rfl⟩ [.ref (ad (c + 14)), .int (Ii (-1))] mv_X8_149 hd_J7_fill_53178 rfl (Nat.le_of_ble_eq_true rfl) dX8_needTwins_27 ⟨(c + 14), 512, (-1), rfl, (kS_14 hc), (by decide), rk_m1, hF⟩ (fun M6 qM6 => ?_)
    have hF := qM6
    refine j_iconst hJ dX8_needTwins_30 ?_
    refine j_istore_n (lv' := [(2, .int (Ii 0)), (0, .ref (ad c)), (1, .ref (ad p1))]) hJ dX8_needTwins_31 rfl (by decide) rfl ?_
    exact j_sub hJ [1, 2, 0] rfl (k_X8_needTwins_b32 hin hc hp1 hJ  0 _ rk_0 hF)
  · have hF := hF.2 z2
    exact j_vret hJ rfl dX8_needTwins_10 hF
def W_X5_twinOf (ad : Nat → Nat) (Q : Int → MM → Prop) (av : List Value) (M : MM) : Prop := ∃ (c : Nat) (p1 : Int), av = [.ref (ad c), .int (Ii p1)] ∧ isP c ∧ ri_ p1 ∧ w_X5_twinOf c Q p1 M
set_option maxHeartbeats 4000000 in
set_option maxRecDepth 100000 in
theorem c_X5_twinOf {l : Launch} {D : va_G} {cy : Nat → ClassId} {ad : Nat → Nat} (hin : jIn ad ksC.length) : jCN l D vwCl (tyC cy) cy ad ftC ksC (XtC ad) yX5_twinOf (.code yX5_twinOf cX5_twinOf 2 (some .int) :: Om) ({ frames := 2, cells := 0, slots := 0, locals := 49 } : Room) 1 (W_X5_twinOf ad) := by
  refine jCN_of (y := yX5_twinOf) (cc := cX5_twinOf) (nL := 2) (rk := 1) (rm := ({ frames := 2, cells := 0, slots := 0, locals := 49 } : Room)) (own := RX5) (tyC_ok cy) hin (XtC_ok ad) Om_good (by decide) rfl ?_
  intro Q av M hF
  obtain ⟨c, p1, rfl, hc, gp1, hF⟩ := hF
  refine ⟨Nat.le_of_ble_eq_true rfl, fun J hJ => ?_⟩
  show J 0 [(0, .ref (ad c)), (1, .int (Ii p1))] [] M
  unfold w_X5_twinOf at hF
  refine j_aload_n hJ dX5_twinOf_0 rfl 0 rfl ?_
  refine j_gr (e := (c + 18)) hJ (kP_0 hc) fC_8_20 fl_X5_78 dX5_twinOf_1 rfl ?_
  refine j_aload_n hJ dX5_twinOf_4 rfl 0 rfl ?_
  refine j_callVv hJ (c_X8_needTwins (l := l) (D := D) (cy := cy) (ad := ad) hin) rfl om_508 ⟨rfl, rfl, Nat.le_of_ble_eq_true rfl, Nat.le_of_ble_eq_true rfl⟩ [.ref (ad c)] mv_X5_189 hd_X8_needTwinsv (kP_18 hc) rfl rfl rfl (Nat.le_of_ble_eq_true rfl) dX5_twinOf_5 ⟨(c + 18), c, rfl, (isS_P hc), hc, hF⟩ (fun M2 qM2 => ?_)
  have hF := qM2
  refine j_aload_n hJ dX5_twinOf_8 rfl 0 rfl ?_
  refine j_gr (e := (c + 18)) hJ (kP_0 hc) fC_8_20 fl_X5_78 dX5_twinOf_9 rfl ?_
  refine j_gr (e := (c + 26)) hJ (kP_18 hc) fC_11_10 fl_X5_192 dX5_twinOf_12 rfl ?_
  refine j_iload_n hJ dX5_twinOf_15 rfl 1 rfl ?_
  refine j_iald hJ gp1 (kP_26 hc) hF.1 hF.2.1 dX5_twinOf_16 (fun v3 ev3 gv3 => ?_)
  have hF := hF.2.2 v3 ev3 gv3
  exact j_iret hJ rfl gv3 dX5_twinOf_17 hF
def W_X5_twinCount (ad : Nat → Nat) (Q : Int → MM → Prop) (av : List Value) (M : MM) : Prop := ∃ (c : Nat), av = [.ref (ad c)] ∧ isP c ∧ w_X5_twinCount c Q  M
set_option maxHeartbeats 4000000 in
set_option maxRecDepth 100000 in
theorem c_X5_twinCount {l : Launch} {D : va_G} {cy : Nat → ClassId} {ad : Nat → Nat} (hin : jIn ad ksC.length) : jCN l D vwCl (tyC cy) cy ad ftC ksC (XtC ad) yX5_twinCount (.code yX5_twinCount cX5_twinCount 1 (some .int) :: Om) ({ frames := 2, cells := 0, slots := 0, locals := 49 } : Room) 1 (W_X5_twinCount ad) := by
  refine jCN_of (y := yX5_twinCount) (cc := cX5_twinCount) (nL := 1) (rk := 1) (rm := ({ frames := 2, cells := 0, slots := 0, locals := 49 } : Room)) (own := RX5) (tyC_ok cy) hin (XtC_ok ad) Om_good (by decide) rfl ?_
  intro Q av M hF
  obtain ⟨c, rfl, hc, hF⟩ := hF
  refine ⟨Nat.le_of_ble_eq_true rfl, fun J hJ => ?_⟩
  show J 0 [(0, .ref (ad c))] [] M
  unfold w_X5_twinCount at hF
  refine j_aload_n hJ dX5_twinCount_0 rfl 0 rfl ?_
  refine j_gr (e := (c + 18)) hJ (kP_0 hc) fC_8_20 fl_X5_78 dX5_twinCount_1 rfl ?_
  refine j_aload_n hJ dX5_twinCount_4 rfl 0 rfl ?_
  refine j_callVv hJ (c_X8_needTwins (l := l) (D := D) (cy := cy) (ad := ad) hin) rfl om_508 ⟨rfl, rfl, Nat.le_of_ble_eq_true rfl, Nat.le_of_ble_eq_true rfl⟩ [.ref (ad c)] mv_X5_189 hd_X8_needTwinsv (kP_18 hc) rfl rfl rfl (Nat.le_of_ble_eq_true rfl) dX5_twinCount_5 ⟨(c + 18), c, rfl, (isS_P hc), hc, hF⟩ (fun M2 qM2 => ?_)
  have hF := qM2
  refine j_aload_n hJ dX5_twinCount_8 rfl 0 rfl ?_
  refine j_gr (e := (c + 18)) hJ (kP_0 hc) fC_8_20 fl_X5_78 dX5_twinCount_9 rfl ?_
  refine j_gi hJ (kP_18 hc) fC_11_11 rfl fl_X5_195 dX5_twinCount_12 (fun v3 ev3 gv3 => ?_)
  have hF := hF v3 ev3 gv3
  exact j_iret hJ rfl gv3 dX5_twinCount_15 hF
def W_X5_twinMember (ad : Nat → Nat) (Q : Int → MM → Prop) (av : List Value) (M : MM) : Prop := ∃ (c : Nat) (p1 : Int) (p2 : Int), av = [.ref (ad c), .int (Ii p1), .int (Ii p2)] ∧ isP c ∧ ri_ p1 ∧ ri_ p2 ∧ w_X5_twinMember c Q p1 p2 M
set_option maxHeartbeats 4000000 in
set_option maxRecDepth 100000 in
theorem c_X5_twinMember {l : Launch} {D : va_G} {cy : Nat → ClassId} {ad : Nat → Nat} (hin : jIn ad ksC.length) : jCN l D vwCl (tyC cy) cy ad ftC ksC (XtC ad) yX5_twinMember (.code yX5_twinMember cX5_twinMember 3 (some .int) :: Om) ({ frames := 2, cells := 0, slots := 0, locals := 49 } : Room) 1 (W_X5_twinMember ad) := by
  refine jCN_of (y := yX5_twinMember) (cc := cX5_twinMember) (nL := 3) (rk := 1) (rm := ({ frames := 2, cells := 0, slots := 0, locals := 49 } : Room)) (own := RX5) (tyC_ok cy) hin (XtC_ok ad) Om_good (by decide) rfl ?_
  intro Q av M hF
  obtain ⟨c, p1, p2, rfl, hc, gp1, gp2, hF⟩ := hF
  refine ⟨Nat.le_of_ble_eq_true rfl, fun J hJ => ?_⟩
  show J 0 [(0, .ref (ad c)), (1, .int (Ii p1)), (2, .int (Ii p2))] [] M
  unfold w_X5_twinMember at hF
  refine j_aload_n hJ dX5_twinMember_0 rfl 0 rfl ?_
  refine j_gr (e := (c + 18)) hJ (kP_0 hc) fC_8_20 fl_X5_78 dX5_twinMember_1 rfl ?_
  refine j_aload_n hJ dX5_twinMember_4 rfl 0 rfl ?_
  refine j_callVv hJ (c_X8_needTwins (l := l) (D := D) (cy := cy) (ad := ad) hin) rfl om_508 ⟨rfl, rfl, Nat.le_of_ble_eq_true rfl, Nat.le_of_ble_eq_true rfl⟩ [.ref (ad c)] mv_X5_189 hd_X8_needTwinsv (kP_18 hc) rfl rfl rfl (Nat.le_of_ble_eq_true rfl) dX5_twinMember_5 ⟨(c + 18), c, rfl, (isS_P hc), hc, hF⟩ (fun M2 qM2 => ?_)
  have hF := qM2
  refine j_aload_n hJ dX5_twinMember_8 rfl 0 rfl ?_
  refine j_aload_n hJ dX5_twinMember_9 rfl 0 rfl ?_
  refine j_gr (e := (c + 18)) hJ (kP_0 hc) fC_8_20 fl_X5_78 dX5_twinMember_10 rfl ?_
  refine j_gr (e := (c + 26)) hJ (kP_18 hc) fC_11_10 fl_X5_192 dX5_twinMember_13 rfl ?_
  refine j_iload_n hJ dX5_twinMember_16 rfl 1 rfl ?_
  refine j_iload_n hJ dX5_twinMember_17 rfl 2 rfl ?_
  refine j_callVi hJ (c_X5_memberOf (l := l) (D := D) (cy := cy) (ad := ad) hin) rfl om_493 ⟨rfl, rfl, Nat.le_of_ble_eq_true rfl, Nat.le_of_ble_eq_true rfl⟩ [.ref (ad (c + 26)), .int (Ii p1), .int (Ii p2)] mv_X5_185 hd_X5_memberOfv (kP_0 hc) rfl rfl rfl (Nat.le_of_ble_eq_true rfl) dX5_twinMember_18 ⟨c, (c + 26), 400, p1, p2, rfl, hc, (kP_26 hc), (by decide), gp1, gp2, hF⟩ (fun r3 M4 gr3 qM4 => ?_)
  have hF := qM4 gr3
  exact j_iret hJ rfl gr3 dX5_twinMember_21 hF
def W_X5_allSizes (ad : Nat → Nat) (Q : Int → MM → Prop) (av : List Value) (M : MM) : Prop := ∃ (c : Nat), av = [.ref (ad c), .ref (ad 8)] ∧ isP c ∧ w_X5_allSizes c Q  M
set_option maxHeartbeats 4000000 in
set_option maxRecDepth 100000 in
theorem k_X5_allSizes_b4 {l : Launch} {D : va_G} {cy : Nat → ClassId} {ad : Nat → Nat} {Q : Int → MM → Prop} {J : Nat → List (Nat × Value) → List Value → MM → Prop} (hin : jIn ad ksC.length) {c : Nat} (hc : isP c) (hJ : jOk l D vwCl (tyC cy) cy ad ftC ksC (XtC ad) Om RX5 cX5_allSizes 4 1 ({ frames := 2, cells := 0, slots := 0, locals := 45 } : Room) Q J)  : ∀ (x2 x3 : Int) (M : MM), ri_ x2 → ri_ x3 → w_X5_allSizes_b4 c Q  x2 x3 M → J 4 [(0, .ref (ad c)), (1, .ref (ad 8)), (2, .int (Ii x2)), (3, .int (Ii x3))] [] M := by
  have H9 : ∀ (n : Nat) (x2 x3 : Int) (M : MM), ri_ x2 → ri_ x3 → jit (fun _ _ _ => False) (wb_X5_allSizes_b4 c Q ) n x2 x3 M → J 4 [(0, .ref (ad c)), (1, .ref (ad 8)), (2, .int (Ii x2)), (3, .int (Ii x3))] [] M := by
    intro n
    induction n with
    | zero => intro x2 x3 M gx2 gx3 hF; exact False.elim hF
    | succ n ih =>
    intro x2 x3 M gx2 gx3 hF
    have hF : wb_X5_allSizes_b4 c Q  (jit (fun _ _ _ => False) (wb_X5_allSizes_b4 c Q ) n) x2 x3 M := hF
    unfold wb_X5_allSizes_b4 at hF
    refine j_iload_n hJ dX5_allSizes_4 rfl 3 rfl ?_
    refine j_aload_n hJ dX5_allSizes_5 rfl 0 rfl ?_
    refine j_gi hJ (kP_0 hc) fC_8_0 rfl fl_X5_82 dX5_allSizes_6 (fun v1 ev1 gv1 => ?_)
    have hF := hF v1 ev1 gv1
    refine j_icmp_ge hJ 37 gx3 gv1 dX5_allSizes_9 (by decide) (fun z2 => ?_) (fun z2 => ?_)
    · have hF := hF.1 z2
      refine j_iload_n hJ dX5_allSizes_37 rfl 2 rfl ?_
      exact j_iret hJ rfl gx2 dX5_allSizes_38 hF
    · have hF := hF.2 z2
      refine j_iload_n hJ dX5_allSizes_12 rfl 2 rfl ?_
      refine j_aload_n hJ dX5_allSizes_13 rfl 1 rfl ?_
      refine j_aload_n hJ dX5_allSizes_14 rfl 0 rfl ?_
      refine j_gr (e := (c + 2)) hJ (kP_0 hc) fC_8_2 fl_X5_15 dX5_allSizes_15 rfl ?_
      refine j_iload_n hJ dX5_allSizes_18 rfl 3 rfl ?_
      refine j_iald hJ gx3 (kP_2 hc) hF.1 hF.2.1 dX5_allSizes_19 (fun v3 ev3 gv3 => ?_)
      have hF := hF.2.2 v3 ev3 gv3
      refine j_aload_n hJ dX5_allSizes_20 rfl 0 rfl ?_
      refine j_gr (e := (c + 3)) hJ (kP_0 hc) fC_8_3 fl_X5_18 dX5_allSizes_21 rfl ?_
      refine j_iload_n hJ dX5_allSizes_24 rfl 3 rfl ?_
      refine j_iald hJ gx3 (kP_3 hc) hF.1 hF.2.1 dX5_allSizes_25 (fun v4 ev4 gv4 => ?_)
      have hF := hF.2.2 v4 ev4 gv4
      refine j_callVi hJ (c_X10_sizeOf (l := l) (D := D) (cy := cy) (ad := ad) hin) rfl om_387 ⟨rfl, rfl, Nat.le_of_ble_eq_true rfl, Nat.le_of_ble_eq_true rfl⟩ [.int (Ii v3), .int (Ii v4)] mv_X5_198 hd_X10_sizeOfv kC_8 rfl rfl rfl (Nat.le_of_ble_eq_true rfl) dX5_allSizes_26 ⟨v3, v4, rfl, gv3, gv4, hF⟩ (fun r5 M6 gr5 qM6 => ?_)
      have hF := qM6 gr5
      refine j_iadd hJ dX5_allSizes_29 ?_
      have g7 := hF.1; have hF := hF.2
      refine j_istore_n (lv' := [(2, .int (Ii (x2 + r5))), (0, .ref (ad c)), (1, .ref (ad 8)), (3, .int (Ii x3))]) hJ dX5_allSizes_30 rfl (by decide) rfl ?_
      refine j_iinc (lv' := [(3, .int (Ii (x3 + 1))), (2, .int (Ii (x2 + r5))), (0, .ref (ad c)), (1, .ref (ad 8))]) (k := 3) hJ dX5_allSizes_31 rfl (by decide) rfl ?_
      have g8 := hF.1; have hF := hF.2
      refine j_goto hJ 4 dX5_allSizes_34 (by decide) ?_
      exact j_sub hJ [2, 3, 1, 0] rfl (ih (x2 + r5) (x3 + 1) _ g7 g8 hF)
  intro x2 x3 M gx2 gx3 hF
  obtain ⟨n, hF⟩ := hF
  exact H9 n x2 x3 M gx2 gx3 hF
set_option maxHeartbeats 4000000 in
set_option maxRecDepth 100000 in
theorem c_X5_allSizes {l : Launch} {D : va_G} {cy : Nat → ClassId} {ad : Nat → Nat} (hin : jIn ad ksC.length) : jCN l D vwCl (tyC cy) cy ad ftC ksC (XtC ad) yX5_allSizes (.code yX5_allSizes cX5_allSizes 4 (some .int) :: Om) ({ frames := 2, cells := 0, slots := 0, locals := 45 } : Room) 1 (W_X5_allSizes ad) := by
  refine jCN_of (y := yX5_allSizes) (cc := cX5_allSizes) (nL := 4) (rk := 1) (rm := ({ frames := 2, cells := 0, slots := 0, locals := 45 } : Room)) (own := RX5) (tyC_ok cy) hin (XtC_ok ad) Om_good (by decide) rfl ?_
  intro Q av M hF
  obtain ⟨c, rfl, hc, hF⟩ := hF
  refine ⟨Nat.le_of_ble_eq_true rfl, fun J hJ => ?_⟩
  show J 0 [(0, .ref (ad c)), (1, .ref (ad 8))] [] M
  unfold w_X5_allSizes at hF
  refine j_iconst hJ dX5_allSizes_0 ?_
  refine j_istore_n (lv' := [(2, .int (Ii 0)), (0, .ref (ad c)), (1, .ref (ad 8))]) hJ dX5_allSizes_1 rfl (by decide) rfl ?_
  refine j_iconst hJ dX5_allSizes_2 ?_
  refine j_istore_n (lv' := [(3, .int (Ii 0)), (2, .int (Ii 0)), (0, .ref (ad c)), (1, .ref (ad 8))]) hJ dX5_allSizes_3 rfl (by decide) rfl ?_
  exact j_sub hJ [2, 3, 1, 0] rfl (k_X5_allSizes_b4 hin hc hJ  0 0 _ rk_0 rk_0 hF)
