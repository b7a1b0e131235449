def W_X2_walkToCopy (ad : Nat → Nat) (Q : Int → MM → Prop) (av : List Value) (M : MM) : Prop := ∃ (p1 : Int) (p2 : Int), av = [.ref (ad 26), .int (Ii p1), .int (Ii p2)] ∧ ri_ p1 ∧ ri_ p2 ∧ w_X2_walkToCopy  Q p1 p2 M
set_option maxHeartbeats 4000000 in
set_option maxRecDepth 100000 in
theorem k_X2_walkToCopy_b146 {l : Launch} {D : va_G} {cy : Nat → ClassId} {ad : Nat → Nat} {Q : Int → MM → Prop} {J : Nat → List (Nat × Value) → List Value → MM → Prop} (hin : jIn ad ksC.length)   (hJ : jOk l D vwCl (tyC cy) cy ad ftC ksC (XtC ad) Om RX2 cX2_walkToCopy 7 1 ({ frames := 3, cells := 0, slots := 0, locals := 66 } : Room) Q J) {K15 : Int → Int → Int → MM → Prop} (hK15 : ∀ (x2 x3 x4 : Int) (M : MM), ri_ x2 → ri_ x3 → ri_ x4 → K15 x2 x3 x4 M → J 15 [(0, .ref (ad 26)), (2, .int (Ii x2)), (3, .int (Ii x3)), (4, .int (Ii x4))] [] M) {K74 : Int → Int → Int → Int → Int → MM → Prop} (hK74 : ∀ (x2 x3 x4 x5 x6 : Int) (M : MM), ri_ x2 → ri_ x3 → ri_ x4 → ri_ x5 → ri_ x6 → K74 x2 x3 x4 x5 x6 M → J 74 [(0, .ref (ad 26)), (2, .int (Ii x2)), (3, .int (Ii x3)), (4, .int (Ii x4)), (5, .int (Ii x5)), (6, .int (Ii x6))] [] M) : ∀ (x2 x3 x4 x5 x6 : Int) (M : MM), ri_ x2 → ri_ x3 → ri_ x4 → ri_ x5 → ri_ x6 → w_X2_walkToCopy_b146  Q K15 K74 x2 x3 x4 x5 x6 M → J 146 [(0, .ref (ad 26)), (2, .int (Ii x2)), (3, .int (Ii x3)), (4, .int (Ii x4)), (5, .int (Ii x5)), (6, .int (Ii x6))] [] M := by
  intro x2 x3 x4 x5 x6 M gx2 gx3 gx4 gx5 gx6 hF
  unfold w_X2_walkToCopy_b146 at hF
  refine j_iinc (lv' := [(6, .int (Ii (x6 + 1))), (0, .ref (ad 26)), (2, .int (Ii x2)), (3, .int (Ii x3)), (4, .int (Ii x4)), (5, .int (Ii x5))]) (k := 5) hJ dX2_walkToCopy_146 rfl (by decide) rfl ?_
  have g1 := hF.1; have hF := hF.2
  refine j_goto hJ 74 dX2_walkToCopy_149 (by decide) ?_
  exact j_sub hJ [1, 2, 3, 4, 5, 0] rfl (hK74 x2 x3 x4 x5 (x6 + 1) _ gx2 gx3 gx4 gx5 g1 hF)
set_option maxHeartbeats 4000000 in
set_option maxRecDepth 100000 in
theorem k_X2_walkToCopy_b133 {l : Launch} {D : va_G} {cy : Nat → ClassId} {ad : Nat → Nat} {Q : Int → MM → Prop} {J : Nat → List (Nat × Value) → List Value → MM → Prop} (hin : jIn ad ksC.length)   (hJ : jOk l D vwCl (tyC cy) cy ad ftC ksC (XtC ad) Om RX2 cX2_walkToCopy 7 1 ({ frames := 3, cells := 0, slots := 0, locals := 66 } : Room) Q J) {K15 : Int → Int → Int → MM → Prop} (hK15 : ∀ (x2 x3 x4 : Int) (M : MM), ri_ x2 → ri_ x3 → ri_ x4 → K15 x2 x3 x4 M → J 15 [(0, .ref (ad 26)), (2, .int (Ii x2)), (3, .int (Ii x3)), (4, .int (Ii x4))] [] M) {K74 : Int → Int → Int → Int → Int → MM → Prop} (hK74 : ∀ (x2 x3 x4 x5 x6 : Int) (M : MM), ri_ x2 → ri_ x3 → ri_ x4 → ri_ x5 → ri_ x6 → K74 x2 x3 x4 x5 x6 M → J 74 [(0, .ref (ad 26)), (2, .int (Ii x2)), (3, .int (Ii x3)), (4, .int (Ii x4)), (5, .int (Ii x5)), (6, .int (Ii x6))] [] M) : ∀ (x2 x3 x4 x5 x6 : Int) (M : MM), ri_ x2 → ri_ x3 → ri_ x4 → ri_ x5 → ri_ x6 → w_X2_walkToCopy_b133  Q K15 K74 x2 x3 x4 x5 x6 M → J 133 [(0, .ref (ad 26)), (2, .int (Ii x2)), (3, .int (Ii x3)), (4, .int (Ii x4)), (5, .int (Ii x5)), (6, .int (Ii x6))] [] M := by
  intro x2 x3 x4 x5 x6 M gx2 gx3 gx4 gx5 gx6 hF
  unfold w_X2_walkToCopy_b133 at hF
  refine j_aload_n hJ dX2_walkToCopy_133 rfl 0 rfl ?_
  refine j_aload_n hJ dX2_walkToCopy_134 rfl 0 rfl ?_
  refine j_gr (e := 30) hJ kC_26 fC_5_7 fl_X2_25 dX2_walkToCopy_135 rfl ?_
  refine j_iload hJ dX2_walkToCopy_138 5 rfl ?_
  refine j_lald hJ gx6 kC_30 hF.1 hF.2.1 dX2_walkToCopy_140 (fun v1 ev1 gv1 => ?_)
  have hF := hF.2.2 v1 ev1 gv1
  refine j_iload_n hJ dX2_walkToCopy_141 rfl 2 rfl ?_
  refine j_callVi hJ (c_X2_meet (l := l) (D := D) (cy := cy) (ad := ad) hin) rfl om_217 ⟨rfl, rfl, Nat.le_of_ble_eq_true rfl, Nat.le_of_ble_eq_true rfl⟩ [.long (Ll v1), .int (Ii x3)] mv_X2_115 hd_X2_meetv kC_26 rfl rfl rfl (Nat.le_of_ble_eq_true rfl) dX2_walkToCopy_142 ⟨v1, x3, rfl, gv1, gx3, hF⟩ (fun r2 M3 gr2 qM3 => ?_)
  have hF := qM3 gr2
  refine j_istore_n (lv' := [(3, .int (Ii r2)), (0, .ref (ad 26)), (2, .int (Ii x2)), (4, .int (Ii x4)), (5, .int (Ii x5)), (6, .int (Ii x6))]) hJ dX2_walkToCopy_145 rfl (by decide) rfl ?_
  exact j_sub hJ [1, 2, 0, 3, 4, 5] rfl (k_X2_walkToCopy_b146 hin  hJ hK15 hK74 x2 r2 x4 x5 x6 _ gx2 gr2 gx4 gx5 gx6 hF)
set_option maxHeartbeats 4000000 in
set_option maxRecDepth 100000 in
theorem k_X2_walkToCopy_b74 {l : Launch} {D : va_G} {cy : Nat → ClassId} {ad : Nat → Nat} {Q : Int → MM → Prop} {J : Nat → List (Nat × Value) → List Value → MM → Prop} (hin : jIn ad ksC.length)   (hJ : jOk l D vwCl (tyC cy) cy ad ftC ksC (XtC ad) Om RX2 cX2_walkToCopy 7 1 ({ frames := 3, cells := 0, slots := 0, locals := 66 } : Room) Q J) {K15 : Int → Int → Int → MM → Prop} (hK15 : ∀ (x2 x3 x4 : Int) (M : MM), ri_ x2 → ri_ x3 → ri_ x4 → K15 x2 x3 x4 M → J 15 [(0, .ref (ad 26)), (2, .int (Ii x2)), (3, .int (Ii x3)), (4, .int (Ii x4))] [] M) : ∀ (x2 x3 x4 x5 x6 : Int) (M : MM), ri_ x2 → ri_ x3 → ri_ x4 → ri_ x5 → ri_ x6 → w_X2_walkToCopy_b74  Q K15 x2 x3 x4 x5 x6 M → J 74 [(0, .ref (ad 26)), (2, .int (Ii x2)), (3, .int (Ii x3)), (4, .int (Ii x4)), (5, .int (Ii x5)), (6, .int (Ii x6))] [] M := by
  have H9 : ∀ (n : Nat) (x2 x3 x4 x5 x6 : Int) (M : MM), ri_ x2 → ri_ x3 → ri_ x4 → ri_ x5 → ri_ x6 → jit (fun _ _ _ _ _ _ => False) (wb_X2_walkToCopy_b74  Q K15) n x2 x3 x4 x5 x6 M → J 74 [(0, .ref (ad 26)), (2, .int (Ii x2)), (3, .int (Ii x3)), (4, .int (Ii x4)), (5, .int (Ii x5)), (6, .int (Ii x6))] [] M := by
    intro n
    induction n with
    | zero => intro x2 x3 x4 x5 x6 M gx2 gx3 gx4 gx5 gx6 hF; exact False.elim hF
    | succ n ih =>
    intro x2 x3 x4 x5 x6 M gx2 gx3 gx4 gx5 gx6 hF
    have hF : wb_X2_walkToCopy_b74  Q K15 (jit (fun _ _ _ _ _ _ => False) (wb_X2_walkToCopy_b74  Q K15) n) x2 x3 x4 x5 x6 M := hF
    unfold wb_X2_walkToCopy_b74 at hF
    refine j_iload hJ dX2_walkToCopy_74 5 rfl ?_
    refine j_iload hJ dX2_walkToCopy_76 4 rfl ?_
    refine j_icmp_ge hJ 152 gx6 gx5 dX2_walkToCopy_78 (by decide) (fun z1 => ?_) (fun z1 => ?_)
    · have hF := hF.1 z1
      refine j_iinc (lv' := [(4, .int (Ii (x4 + 1))), (0, .ref (ad 26)), (2, .int (Ii x2)), (3, .int (Ii x3)), (5, .int (Ii x5)), (6, .int (Ii x6))]) (k := 3) hJ dX2_walkToCopy_152 rfl (by decide) rfl ?_
      have g2 := hF.1; have hF := hF.2
      refine j_goto hJ 15 dX2_walkToCopy_155 (by decide) ?_
      exact j_sub hJ [1, 2, 3, 0] rfl (hK15 x2 x3 (x4 + 1) _ gx2 gx3 g2 hF)
    · have hF := hF.2 z1
      refine j_aload_n hJ dX2_walkToCopy_81 rfl 0 rfl ?_
      refine j_gr (e := 31) hJ kC_26 fC_5_8 fl_X2_29 dX2_walkToCopy_82 rfl ?_
      refine j_iload hJ dX2_walkToCopy_85 5 rfl ?_
      refine j_zald hJ gx6 kC_31 hF.1 hF.2.1 dX2_walkToCopy_87 (fun v3 ev3 gv3 => ?_)
      have hF := hF.2.2 v3 ev3 gv3
      refine j_if_eq hJ 146 (jz_ri gv3) dX2_walkToCopy_88 (by decide) (fun z4 => ?_) (fun z4 => ?_)
      · have hF := hF.1 z4
        exact j_sub hJ [0, 1, 2, 3, 4, 5] rfl (k_X2_walkToCopy_b146 hin  hJ hK15 ih x2 x3 x4 x5 x6 _ gx2 gx3 gx4 gx5 gx6 hF)
      · have hF := hF.2 z4
        refine j_aload_n hJ dX2_walkToCopy_91 rfl 0 rfl ?_
        refine j_gr (e := 30) hJ kC_26 fC_5_7 fl_X2_25 dX2_walkToCopy_92 rfl ?_
        refine j_iload hJ dX2_walkToCopy_95 5 rfl ?_
        refine j_lald hJ gx6 kC_30 hF.1 hF.2.1 dX2_walkToCopy_97 (fun v5 ev5 gv5 => ?_)
        have hF := hF.2.2 v5 ev5 gv5
        refine j_ldc2 hJ (-1) om_186 (by decide) dX2_walkToCopy_98 ?_
        refine j_lcmp_eq hJ 146 gv5 lk_m1 dX2_walkToCopy_101 dX2_walkToCopy_102 (by decide) (fun z6 => ?_) (fun z6 => ?_)
        · have hF := hF.1 z6
          exact j_sub hJ [0, 1, 2, 3, 4, 5] rfl (k_X2_walkToCopy_b146 hin  hJ hK15 ih x2 x3 x4 x5 x6 _ gx2 gx3 gx4 gx5 gx6 hF)
        · have hF := hF.2 z6
          refine j_iload_n hJ dX2_walkToCopy_105 rfl 1 rfl ?_
          refine j_iconst hJ dX2_walkToCopy_106 ?_
          refine j_icmp_ne hJ 133 gx2 rk_2 dX2_walkToCopy_107 (by decide) (fun z7 => ?_) (fun z7 => ?_)
          · have hF := hF.1 z7
            exact j_sub hJ [0, 1, 2, 3, 4, 5] rfl (k_X2_walkToCopy_b133 hin  hJ hK15 ih x2 x3 x4 x5 x6 _ gx2 gx3 gx4 gx5 gx6 hF)
          · have hF := hF.2 z7
            refine j_aload_n hJ dX2_walkToCopy_110 rfl 0 rfl ?_
            refine j_ga hJ kC_26 fC_5_0 fl_X2_9 dX2_walkToCopy_111 ?_
            refine j_aload_n hJ dX2_walkToCopy_114 rfl 0 rfl ?_
            refine j_gr (e := 27) hJ kC_26 fC_5_4 fl_X2_15 dX2_walkToCopy_115 rfl ?_
            refine j_aload_n hJ dX2_walkToCopy_118 rfl 0 rfl ?_
            refine j_gr (e := 30) hJ kC_26 fC_5_7 fl_X2_25 dX2_walkToCopy_119 rfl ?_
            refine j_iload hJ dX2_walkToCopy_122 5 rfl ?_
            refine j_lald hJ gx6 kC_30 hF.1 hF.2.1 dX2_walkToCopy_124 (fun v8 ev8 gv8 => ?_)
            have hF := hF.2.2 v8 ev8 gv8
            refine j_l2i hJ dX2_walkToCopy_125 ?_
            have g9 := hF.1; have hF := hF.2
            refine j_iald hJ g9 kC_27 hF.1 hF.2.1 dX2_walkToCopy_126 (fun v10 ev10 gv10 => ?_)
            have hF := hF.2.2 v10 ev10 gv10
            refine j_callVz hJ (c_X10_isApart (l := l) (D := D) (cy := cy) (ad := ad) hin) rfl om_237 ⟨rfl, rfl, Nat.le_of_ble_eq_true rfl, Nat.le_of_ble_eq_true rfl⟩ [.int (Ii v10)] mv_X2_144 hd_X10_isApartv kC_8 rfl rfl rfl (Nat.le_of_ble_eq_true rfl) dX2_walkToCopy_127 ⟨v10, rfl, gv10, hF⟩ (fun r11 M12 gr11 qM12 => ?_)
            have hF := qM12 gr11
            refine j_if_ne hJ 146 (jz_ri gr11) dX2_walkToCopy_130 (by decide) (fun z13 => ?_) (fun z13 => ?_)
            · have hF := hF.1 z13
              exact j_sub hJ [0, 1, 2, 3, 4, 5] rfl (k_X2_walkToCopy_b146 hin  hJ hK15 ih x2 x3 x4 x5 x6 _ gx2 gx3 gx4 gx5 gx6 hF)
            · have hF := hF.2 z13
              exact j_sub hJ [0, 1, 2, 3, 4, 5] rfl (k_X2_walkToCopy_b133 hin  hJ hK15 ih x2 x3 x4 x5 x6 _ gx2 gx3 gx4 gx5 gx6 hF)
  intro x2 x3 x4 x5 x6 M gx2 gx3 gx4 gx5 gx6 hF
  obtain ⟨n, hF⟩ := hF
  exact H9 n x2 x3 x4 x5 x6 M gx2 gx3 gx4 gx5 gx6 hF
set_option maxHeartbeats 4000000 in
set_option maxRecDepth 100000 in
theorem k_X2_walkToCopy_b15 {l : Launch} {D : va_G} {cy : Nat → ClassId} {ad : Nat → Nat} {Q : Int → MM → Prop} {J : Nat → List (Nat × Value) → List Value → MM → Prop} (hin : jIn ad ksC.length)   (hJ : jOk l D vwCl (tyC cy) cy ad ftC ksC (XtC ad) Om RX2 cX2_walkToCopy 7 1 ({ frames := 3, cells := 0, slots := 0, locals := 66 } : Room) Q J)  : ∀ (x2 x3 x4 : Int) (M : MM), ri_ x2 → ri_ x3 → ri_ x4 → w_X2_walkToCopy_b15  Q  x2 x3 x4 M → J 15 [(0, .ref (ad 26)), (2, .int (Ii x2)), (3, .int (Ii x3)), (4, .int (Ii x4))] [] M := by
  have H9 : ∀ (n : Nat) (x2 x3 x4 : Int) (M : MM), ri_ x2 → ri_ x3 → ri_ x4 → jit (fun _ _ _ _ => False) (wb_X2_walkToCopy_b15  Q ) n x2 x3 x4 M → J 15 [(0, .ref (ad 26)), (2, .int (Ii x2)), (3, .int (Ii x3)), (4, .int (Ii x4))] [] M := by
    intro n
    induction n with
    | zero => intro x2 x3 x4 M gx2 gx3 gx4 hF; exact False.elim hF
    | succ n ih =>
    intro x2 x3 x4 M gx2 gx3 gx4 hF
    have hF : wb_X2_walkToCopy_b15  Q  (jit (fun _ _ _ _ => False) (wb_X2_walkToCopy_b15  Q ) n) x2 x3 x4 M := hF
    unfold wb_X2_walkToCopy_b15 at hF
    refine j_iload hJ dX2_walkToCopy_15 3 rfl ?_
    refine j_iload_n hJ dX2_walkToCopy_17 rfl 2 rfl ?_
    refine j_icmp_ge hJ 158 gx4 gx3 dX2_walkToCopy_18 (by decide) (fun z1 => ?_) (fun z1 => ?_)
    · have hF := hF.1 z1
      refine j_iload_n hJ dX2_walkToCopy_158 rfl 2 rfl ?_
      exact j_iret hJ rfl gx3 dX2_walkToCopy_159 hF
    · have hF := hF.2 z1
      refine j_iload hJ dX2_walkToCopy_21 3 rfl ?_
      refine j_aload_n hJ dX2_walkToCopy_23 rfl 0 rfl ?_
      refine j_gi hJ kC_26 fC_5_1 rfl fl_X2_47 dX2_walkToCopy_24 (fun v2 ev2 gv2 => ?_)
      have hF := hF v2 ev2 gv2
      refine j_icmp_ge hJ 158 gx4 gv2 dX2_walkToCopy_27 (by decide) (fun z3 => ?_) (fun z3 => ?_)
      · have hF := hF.1 z3
        refine j_iload_n hJ dX2_walkToCopy_158 rfl 2 rfl ?_
        exact j_iret hJ rfl gx3 dX2_walkToCopy_159 hF
      · have hF := hF.2 z3
        refine j_iload_n hJ dX2_walkToCopy_30 rfl 1 rfl ?_
        refine j_if_eq hJ 158 gx2 dX2_walkToCopy_31 (by decide) (fun z4 => ?_) (fun z4 => ?_)
        · have hF := hF.1 z4
          refine j_iload_n hJ dX2_walkToCopy_158 rfl 2 rfl ?_
          exact j_iret hJ rfl gx3 dX2_walkToCopy_159 hF
        · have hF := hF.2 z4
          refine j_aload_n hJ dX2_walkToCopy_34 rfl 0 rfl ?_
          refine j_gr (e := 29) hJ kC_26 fC_5_6 fl_X2_22 dX2_walkToCopy_35 rfl ?_
          refine j_aload_n hJ dX2_walkToCopy_38 rfl 0 rfl ?_
          refine j_gr (e := 34) hJ kC_26 fC_5_12 fl_X2_41 dX2_walkToCopy_39 rfl ?_
          refine j_iload hJ dX2_walkToCopy_42 3 rfl ?_
          refine j_iald hJ gx4 kC_34 hF.1 hF.2.1 dX2_walkToCopy_44 (fun v5 ev5 gv5 => ?_)
          have hF := hF.2.2 v5 ev5 gv5
          refine j_iald hJ gv5 kC_29 hF.1 hF.2.1 dX2_walkToCopy_45 (fun v6 ev6 gv6 => ?_)
          have hF := hF.2.2 v6 ev6 gv6
          refine j_aload_n hJ dX2_walkToCopy_46 rfl 0 rfl ?_
          refine j_aload_n hJ dX2_walkToCopy_47 rfl 0 rfl ?_
          refine j_gr (e := 34) hJ kC_26 fC_5_12 fl_X2_41 dX2_walkToCopy_48 rfl ?_
          refine j_iload hJ dX2_walkToCopy_51 3 rfl ?_
          refine j_iald hJ gx4 kC_34 hF.1 hF.2.1 dX2_walkToCopy_53 (fun v7 ev7 gv7 => ?_)
          have hF := hF.2.2 v7 ev7 gv7
          refine j_callVi hJ (c_X2_slotsOf (l := l) (D := D) (cy := cy) (ad := ad) hin) rfl om_182 ⟨rfl, rfl, Nat.le_of_ble_eq_true rfl, Nat.le_of_ble_eq_true rfl⟩ [.int (Ii v7)] mv_X2_59 hd_X2_slotsOfv kC_26 rfl rfl rfl (Nat.le_of_ble_eq_true rfl) dX2_walkToCopy_54 ⟨v7, rfl, gv7, hF⟩ (fun r8 M9 gr8 qM9 => ?_)
          have hF := qM9 gr8
          refine j_iadd hJ dX2_walkToCopy_57 ?_
          have g10 := hF.1; have hF := hF.2
          refine j_istore (lv' := [(5, .int (Ii (v6 + r8))), (0, .ref (ad 26)), (2, .int (Ii x2)), (3, .int (Ii x3)), (4, .int (Ii x4))]) hJ dX2_walkToCopy_58 (by decide) rfl ?_
          refine j_aload_n hJ dX2_walkToCopy_60 rfl 1 rfl ?_
          refine j_gr (e := 29) hJ kC_26 fC_5_6 fl_X2_22 dX2_walkToCopy_61 rfl ?_
          refine j_aload_n hJ dX2_walkToCopy_64 rfl 1 rfl ?_
          refine j_gr (e := 34) hJ kC_26 fC_5_12 fl_X2_41 dX2_walkToCopy_65 rfl ?_
          refine j_iload hJ dX2_walkToCopy_68 4 rfl ?_
          refine j_iald hJ gx4 kC_34 hF.1 hF.2.1 dX2_walkToCopy_70 (fun v11 ev11 gv11 => ?_)
          have hF := hF.2.2 v11 ev11 gv11
          refine j_iald hJ gv11 kC_29 hF.1 hF.2.1 dX2_walkToCopy_71 (fun v12 ev12 gv12 => ?_)
          have hF := hF.2.2 v12 ev12 gv12
          refine j_istore (lv' := [(6, .int (Ii v12)), (5, .int (Ii (v6 + r8))), (0, .ref (ad 26)), (2, .int (Ii x2)), (3, .int (Ii x3)), (4, .int (Ii x4))]) hJ dX2_walkToCopy_72 (by decide) rfl ?_
          exact j_sub hJ [2, 3, 4, 5, 1, 0] rfl (k_X2_walkToCopy_b74 hin  hJ ih x2 x3 x4 (v6 + r8) v12 _ gx2 gx3 gx4 g10 gv12 hF)
  intro x2 x3 x4 M gx2 gx3 gx4 hF
  obtain ⟨n, hF⟩ := hF
  exact H9 n x2 x3 x4 M gx2 gx3 gx4 hF
set_option maxHeartbeats 4000000 in
set_option maxRecDepth 100000 in
theorem c_X2_walkToCopy {l : Launch} {D : va_G} {cy : Nat → ClassId} {ad : Nat → Nat} (hin : jIn ad ksC.length) : jCN l D vwCl (tyC cy) cy ad ftC ksC (XtC ad) yX2_walkToCopy (.code yX2_walkToCopy cX2_walkToCopy 7 (some .int) :: Om) ({ frames := 3, cells := 0, slots := 0, locals := 66 } : Room) 1 (W_X2_walkToCopy ad) := by
  refine jCN_of (y := yX2_walkToCopy) (cc := cX2_walkToCopy) (nL := 7) (rk := 1) (rm := ({ frames := 3, cells := 0, slots := 0, locals := 66 } : Room)) (own := RX2) (tyC_ok cy) hin (XtC_ok ad) Om_good (by decide) rfl ?_
  intro Q av M hF
  obtain ⟨p1, p2, rfl, gp1, gp2, hF⟩ := hF
  refine ⟨Nat.le_of_ble_eq_true rfl, fun J hJ => ?_⟩
  show J 0 [(0, .ref (ad 26)), (1, .int (Ii p1)), (2, .int (Ii p2))] [] M
  unfold w_X2_walkToCopy at hF
  refine j_aload_n hJ dX2_walkToCopy_0 rfl 0 rfl ?_
  refine j_callVv hJ (c_X2_clearMarks (l := l) (D := D) (cy := cy) (ad := ad) hin) rfl om_221 ⟨rfl, rfl, Nat.le_of_ble_eq_true rfl, Nat.le_of_ble_eq_true rfl⟩ [] mv_X2_119 hd_X2_clearMarksv kC_26 rfl rfl rfl (Nat.le_of_ble_eq_true rfl) dX2_walkToCopy_1 ⟨rfl, hF⟩ (fun M2 qM2 => ?_)
  have hF := qM2
  refine j_aload_n hJ dX2_walkToCopy_4 rfl 0 rfl ?_
  refine j_iload_n hJ dX2_walkToCopy_5 rfl 1 rfl ?_
  refine j_i2l hJ gp1 dX2_walkToCopy_6 ?_
  refine j_iconst hJ dX2_walkToCopy_7 ?_
  refine j_callVi hJ (c_X2_meet (l := l) (D := D) (cy := cy) (ad := ad) hin) rfl om_217 ⟨rfl, rfl, Nat.le_of_ble_eq_true rfl, Nat.le_of_ble_eq_true rfl⟩ [.long (Ll p1), .int (Ii 0)] mv_X2_115 hd_X2_meetv kC_26 rfl rfl rfl (Nat.le_of_ble_eq_true rfl) dX2_walkToCopy_8 ⟨p1, 0, rfl, (rl_ri gp1), rk_0, hF⟩ (fun r3 M4 gr3 qM4 => ?_)
  have hF := qM4 gr3
  refine j_istore_n (lv' := [(3, .int (Ii r3)), (0, .ref (ad 26)), (1, .int (Ii p1)), (2, .int (Ii p2))]) hJ dX2_walkToCopy_11 rfl (by decide) rfl ?_
  refine j_iconst hJ dX2_walkToCopy_12 ?_
  refine j_istore (lv' := [(4, .int (Ii 0)), (3, .int (Ii r3)), (0, .ref (ad 26)), (1, .int (Ii p1)), (2, .int (Ii p2))]) hJ dX2_walkToCopy_13 (by decide) rfl ?_
  exact j_sub hJ [2, 4, 1, 0] rfl (k_X2_walkToCopy_b15 hin  hJ  p2 r3 0 _ gp2 gr3 rk_0 hF)
def W_X2_copySlots (ad : Nat → Nat) (Q : Int → MM → Prop) (av : List Value) (M : MM) : Prop := ∃ (p1 : Int) (p2 : Int) (p3 : Int), av = [.ref (ad 26), .int (Ii p1), .int (Ii p2), .int (Ii p3)] ∧ ri_ p1 ∧ ri_ p2 ∧ ri_ p3 ∧ w_X2_copySlots  Q p1 p2 p3 M
set_option maxHeartbeats 4000000 in
set_option maxRecDepth 100000 in
theorem k_X2_copySlots_b112 {l : Launch} {D : va_G} {cy : Nat → ClassId} {ad : Nat → Nat} {Q : Int → MM → Prop} {J : Nat → List (Nat × Value) → List Value → MM → Prop} (hin : jIn ad ksC.length)   (hJ : jOk l D vwCl (tyC cy) cy ad ftC ksC (XtC ad) Om RX2 cX2_copySlots 9 0 ({ frames := 3, cells := 0, slots := 0, locals := 63 } : Room) Q J) {K10 : Int → Int → Int → Int → Int → MM → Prop} (hK10 : ∀ (x1 x2 x3 x4 x5 : Int) (M : MM), ri_ x1 → ri_ x2 → ri_ x3 → ri_ x4 → ri_ x5 → K10 x1 x2 x3 x4 x5 M → J 10 [(0, .ref (ad 26)), (1, .int (Ii x1)), (2, .int (Ii x2)), (3, .int (Ii x3)), (4, .int (Ii x4)), (5, .int (Ii x5))] [] M) : ∀ (x1 x2 x3 x4 x5 s0 s1 : Int) (M : MM), ri_ x1 → ri_ x2 → ri_ x3 → ri_ x4 → ri_ x5 → rl_ s0 → ri_ s1 → w_X2_copySlots_b112  Q K10 x1 x2 x3 x4 x5 s0 s1 M → J 112 [(0, .ref (ad 26)), (1, .int (Ii x1)), (2, .int (Ii x2)), (3, .int (Ii x3)), (4, .int (Ii x4)), (5, .int (Ii x5))] [.long (Ll s0), .int (Ii s1), .ref (ad 30)] M := by
  intro x1 x2 x3 x4 x5 s0 s1 M gx1 gx2 gx3 gx4 gx5 gs0 gs1 hF
  unfold w_X2_copySlots_b112 at hF
  refine j_last hJ gs1 gs0 kC_30 hF.1 hF.2.1 dX2_copySlots_112 (fun M1 eM1 => ?_)
  have hF := hF.2.2 M1 eM1
  refine j_iinc (lv' := [(5, .int (Ii (x5 + 1))), (0, .ref (ad 26)), (1, .int (Ii x1)), (2, .int (Ii x2)), (3, .int (Ii x3)), (4, .int (Ii x4))]) (k := 5) hJ dX2_copySlots_113 rfl (by decide) rfl ?_
  have g2 := hF.1; have hF := hF.2
  refine j_goto hJ 10 dX2_copySlots_116 (by decide) ?_
  exact j_sub hJ [1, 2, 3, 4, 5, 0] rfl (hK10 x1 x2 x3 x4 (x5 + 1) _ gx1 gx2 gx3 gx4 g2 hF)
set_option maxHeartbeats 4000000 in
set_option maxRecDepth 100000 in
theorem k_X2_copySlots_b76 {l : Launch} {D : va_G} {cy : Nat → ClassId} {ad : Nat → Nat} {Q : Int → MM → Prop} {J : Nat → List (Nat × Value) → List Value → MM → Prop} (hin : jIn ad ksC.length)   (hJ : jOk l D vwCl (tyC cy) cy ad ftC ksC (XtC ad) Om RX2 cX2_copySlots 9 0 ({ frames := 3, cells := 0, slots := 0, locals := 63 } : Room) Q J) {K10 : Int → Int → Int → Int → Int → MM → Prop} (hK10 : ∀ (x1 x2 x3 x4 x5 : Int) (M : MM), ri_ x1 → ri_ x2 → ri_ x3 → ri_ x4 → ri_ x5 → K10 x1 x2 x3 x4 x5 M → J 10 [(0, .ref (ad 26)), (1, .int (Ii x1)), (2, .int (Ii x2)), (3, .int (Ii x3)), (4, .int (Ii x4)), (5, .int (Ii x5))] [] M) : ∀ (x1 x2 x3 x4 x5 x6 s0 : Int) (M : MM), ri_ x1 → ri_ x2 → ri_ x3 → ri_ x4 → ri_ x5 → rl_ x6 → ri_ s0 → w_X2_copySlots_b76  Q K10 x1 x2 x3 x4 x5 x6 s0 M → J 76 [(0, .ref (ad 26)), (1, .int (Ii x1)), (2, .int (Ii x2)), (3, .int (Ii x3)), (4, .int (Ii x4)), (5, .int (Ii x5)), (6, .long (Ll x6))] [.int (Ii s0)] M := by
  intro x1 x2 x3 x4 x5 x6 s0 M gx1 gx2 gx3 gx4 gx5 gx6 gs0 hF
  unfold w_X2_copySlots_b76 at hF
  refine j_istore (lv' := [(8, .int (Ii s0)), (0, .ref (ad 26)), (1, .int (Ii x1)), (2, .int (Ii x2)), (3, .int (Ii x3)), (4, .int (Ii x4)), (5, .int (Ii x5)), (6, .long (Ll x6))]) hJ dX2_copySlots_76 (by decide) rfl ?_
  refine j_aload_n hJ dX2_copySlots_78 rfl 1 rfl ?_
  refine j_gr (e := 30) hJ kC_26 fC_5_7 fl_X2_25 dX2_copySlots_79 rfl ?_
  refine j_aload_n hJ dX2_copySlots_82 rfl 1 rfl ?_
  refine j_gr (e := 29) hJ kC_26 fC_5_6 fl_X2_22 dX2_copySlots_83 rfl ?_
  refine j_iload_n hJ dX2_copySlots_86 rfl 3 rfl ?_
  refine j_iald hJ gx2 kC_29 hF.1 hF.2.1 dX2_copySlots_87 (fun v1 ev1 gv1 => ?_)
  have hF := hF.2.2 v1 ev1 gv1
  refine j_iload hJ dX2_copySlots_88 6 rfl ?_
  refine j_iadd hJ dX2_copySlots_90 ?_
  have g2 := hF.1; have hF := hF.2
  refine j_iload hJ dX2_copySlots_91 0 rfl ?_
  refine j_if_eq hJ 110 gs0 dX2_copySlots_93 (by decide) (fun z3 => ?_) (fun z3 => ?_)
  · have hF := hF.1 z3
    refine j_lload hJ dX2_copySlots_110 7 rfl ?_
    exact j_sub hJ [1, 2, 3, 4, 5, 6] rfl (k_X2_copySlots_b112 hin  hJ hK10 x1 x2 x3 x4 x5 x6 (v1 + x5) _ gx1 gx2 gx3 gx4 gx5 gx6 g2 hF)
  · have hF := hF.2 z3
    refine j_iload_n hJ dX2_copySlots_96 rfl 4 rfl ?_
    refine j_aload_n hJ dX2_copySlots_97 rfl 1 rfl ?_
    refine j_gr (e := 35) hJ kC_26 fC_5_13 fl_X2_44 dX2_copySlots_98 rfl ?_
    refine j_lload hJ dX2_copySlots_101 7 rfl ?_
    refine j_l2i hJ dX2_copySlots_103 ?_
    have g4 := hF.1; have hF := hF.2
    refine j_iald hJ g4 kC_35 hF.1 hF.2.1 dX2_copySlots_104 (fun v5 ev5 gv5 => ?_)
    have hF := hF.2.2 v5 ev5 gv5
    refine j_iadd hJ dX2_copySlots_105 ?_
    have g6 := hF.1; have hF := hF.2
    refine j_i2l hJ g6 dX2_copySlots_106 ?_
    refine j_goto hJ 112 dX2_copySlots_107 (by decide) ?_
    exact j_sub hJ [1, 2, 3, 4, 5, 6] rfl (k_X2_copySlots_b112 hin  hJ hK10 x1 x2 x3 x4 x5 (x3 + v5) (v1 + x5) _ gx1 gx2 gx3 gx4 gx5 (rl_ri g6) g2 hF)
set_option maxHeartbeats 4000000 in
set_option maxRecDepth 100000 in
theorem k_X2_copySlots_b75 {l : Launch} {D : va_G} {cy : Nat → ClassId} {ad : Nat → Nat} {Q : Int → MM → Prop} {J : Nat → List (Nat × Value) → List Value → MM → Prop} (hin : jIn ad ksC.length)   (hJ : jOk l D vwCl (tyC cy) cy ad ftC ksC (XtC ad) Om RX2 cX2_copySlots 9 0 ({ frames := 3, cells := 0, slots := 0, locals := 63 } : Room) Q J) {K10 : Int → Int → Int → Int → Int → MM → Prop} (hK10 : ∀ (x1 x2 x3 x4 x5 : Int) (M : MM), ri_ x1 → ri_ x2 → ri_ x3 → ri_ x4 → ri_ x5 → K10 x1 x2 x3 x4 x5 M → J 10 [(0, .ref (ad 26)), (1, .int (Ii x1)), (2, .int (Ii x2)), (3, .int (Ii x3)), (4, .int (Ii x4)), (5, .int (Ii x5))] [] M) : ∀ (x1 x2 x3 x4 x5 x6 : Int) (M : MM), ri_ x1 → ri_ x2 → ri_ x3 → ri_ x4 → ri_ x5 → rl_ x6 → w_X2_copySlots_b75  Q K10 x1 x2 x3 x4 x5 x6 M → J 75 [(0, .ref (ad 26)), (1, .int (Ii x1)), (2, .int (Ii x2)), (3, .int (Ii x3)), (4, .int (Ii x4)), (5, .int (Ii x5)), (6, .long (Ll x6))] [] M := by
  intro x1 x2 x3 x4 x5 x6 M gx1 gx2 gx3 gx4 gx5 gx6 hF
  unfold w_X2_copySlots_b75 at hF
  refine j_iconst hJ dX2_copySlots_75 ?_
  exact j_sub hJ [0, 1, 2, 3, 4, 5, 6] rfl (k_X2_copySlots_b76 hin  hJ hK10 x1 x2 x3 x4 x5 x6 0 _ gx1 gx2 gx3 gx4 gx5 gx6 rk_0 hF)
set_option maxHeartbeats 4000000 in
set_option maxRecDepth 100000 in
theorem k_X2_copySlots_b10 {l : Launch} {D : va_G} {cy : Nat → ClassId} {ad : Nat → Nat} {Q : Int → MM → Prop} {J : Nat → List (Nat × Value) → List Value → MM → Prop} (hin : jIn ad ksC.length)   (hJ : jOk l D vwCl (tyC cy) cy ad ftC ksC (XtC ad) Om RX2 cX2_copySlots 9 0 ({ frames := 3, cells := 0, slots := 0, locals := 63 } : Room) Q J)  : ∀ (x1 x2 x3 x4 x5 : Int) (M : MM), ri_ x1 → ri_ x2 → ri_ x3 → ri_ x4 → ri_ x5 → w_X2_copySlots_b10  Q  x1 x2 x3 x4 x5 M → J 10 [(0, .ref (ad 26)), (1, .int (Ii x1)), (2, .int (Ii x2)), (3, .int (Ii x3)), (4, .int (Ii x4)), (5, .int (Ii x5))] [] M := by
  have H9 : ∀ (n : Nat) (x1 x2 x3 x4 x5 : Int) (M : MM), ri_ x1 → ri_ x2 → ri_ x3 → ri_ x4 → ri_ x5 → jit (fun _ _ _ _ _ _ => False) (wb_X2_copySlots_b10  Q ) n x1 x2 x3 x4 x5 M → J 10 [(0, .ref (ad 26)), (1, .int (Ii x1)), (2, .int (Ii x2)), (3, .int (Ii x3)), (4, .int (Ii x4)), (5, .int (Ii x5))] [] M := by
    intro n
    induction n with
    | zero => intro x1 x2 x3 x4 x5 M gx1 gx2 gx3 gx4 gx5 hF; exact False.elim hF
    | succ n ih =>
    intro x1 x2 x3 x4 x5 M gx1 gx2 gx3 gx4 gx5 hF
    have hF : wb_X2_copySlots_b10  Q  (jit (fun _ _ _ _ _ _ => False) (wb_X2_copySlots_b10  Q ) n) x1 x2 x3 x4 x5 M := hF
    unfold wb_X2_copySlots_b10 at hF
    refine j_iload hJ dX2_copySlots_10 5 rfl ?_
    refine j_iload hJ dX2_copySlots_12 4 rfl ?_
    refine j_icmp_ge hJ 119 gx5 gx4 dX2_copySlots_14 (by decide) (fun z1 => ?_) (fun z1 => ?_)
    · have hF := hF.1 z1
      exact j_vret hJ rfl dX2_copySlots_119 hF
    · have hF := hF.2 z1
      refine j_aload_n hJ dX2_copySlots_17 rfl 0 rfl ?_
      refine j_gr (e := 30) hJ kC_26 fC_5_7 fl_X2_25 dX2_copySlots_18 rfl ?_
      refine j_aload_n hJ dX2_copySlots_21 rfl 0 rfl ?_
      refine j_gr (e := 29) hJ kC_26 fC_5_6 fl_X2_22 dX2_copySlots_22 rfl ?_
      refine j_iload_n hJ dX2_copySlots_25 rfl 1 rfl ?_
      refine j_iald hJ gx1 kC_29 hF.1 hF.2.1 dX2_copySlots_26 (fun v2 ev2 gv2 => ?_)
      have hF := hF.2.2 v2 ev2 gv2
      refine j_iload hJ dX2_copySlots_27 5 rfl ?_
      refine j_iadd hJ dX2_copySlots_29 ?_
      have g3 := hF.1; have hF := hF.2
      refine j_lald hJ g3 kC_30 hF.1 hF.2.1 dX2_copySlots_30 (fun v4 ev4 gv4 => ?_)
      have hF := hF.2.2 v4 ev4 gv4
      refine j_lstore (lv' := [(6, .long (Ll v4)), (0, .ref (ad 26)), (1, .int (Ii x1)), (2, .int (Ii x2)), (3, .int (Ii x3)), (4, .int (Ii x4)), (5, .int (Ii x5))]) hJ dX2_copySlots_31 (by decide) rfl ?_
      refine j_aload_n hJ dX2_copySlots_33 rfl 1 rfl ?_
      refine j_gr (e := 31) hJ kC_26 fC_5_8 fl_X2_29 dX2_copySlots_34 rfl ?_
      refine j_aload_n hJ dX2_copySlots_37 rfl 1 rfl ?_
      refine j_gr (e := 29) hJ kC_26 fC_5_6 fl_X2_22 dX2_copySlots_38 rfl ?_
      refine j_iload_n hJ dX2_copySlots_41 rfl 2 rfl ?_
      refine j_iald hJ gx1 kC_29 hF.1 hF.2.1 dX2_copySlots_42 (fun v5 ev5 gv5 => ?_)
      have hF := hF.2.2 v5 ev5 gv5
      refine j_iload hJ dX2_copySlots_43 6 rfl ?_
      refine j_iadd hJ dX2_copySlots_45 ?_
      have g6 := hF.1; have hF := hF.2
      refine j_zald hJ g6 kC_31 hF.1 hF.2.1 dX2_copySlots_46 (fun v7 ev7 gv7 => ?_)
      have hF := hF.2.2 v7 ev7 gv7
      refine j_if_eq hJ 75 (jz_ri gv7) dX2_copySlots_47 (by decide) (fun z8 => ?_) (fun z8 => ?_)
      · have hF := hF.1 z8
        exact j_sub hJ [1, 2, 3, 4, 5, 6, 0] rfl (k_X2_copySlots_b75 hin  hJ ih x1 x2 x3 x4 x5 v4 _ gx1 gx2 gx3 gx4 gx5 gv4 hF)
      · have hF := hF.2 z8
        refine j_lload hJ dX2_copySlots_50 0 rfl ?_
        refine j_ldc2 hJ (-1) om_186 (by decide) dX2_copySlots_52 ?_
        refine j_lcmp_eq hJ 75 gv4 lk_m1 dX2_copySlots_55 dX2_copySlots_56 (by decide) (fun z9 => ?_) (fun z9 => ?_)
        · have hF := hF.1 z9
          exact j_sub hJ [1, 2, 3, 4, 5, 6, 0] rfl (k_X2_copySlots_b75 hin  hJ ih x1 x2 x3 x4 x5 v4 _ gx1 gx2 gx3 gx4 gx5 gv4 hF)
        · have hF := hF.2 z9
          refine j_aload_n hJ dX2_copySlots_59 rfl 1 rfl ?_
          refine j_gr (e := 35) hJ kC_26 fC_5_13 fl_X2_44 dX2_copySlots_60 rfl ?_
          refine j_lload hJ dX2_copySlots_63 0 rfl ?_
          refine j_l2i hJ dX2_copySlots_65 ?_
          have g10 := hF.1; have hF := hF.2
          refine j_iald hJ g10 kC_35 hF.1 hF.2.1 dX2_copySlots_66 (fun v11 ev11 gv11 => ?_)
          have hF := hF.2.2 v11 ev11 gv11
          refine j_iconst hJ dX2_copySlots_67 ?_
          refine j_icmp_eq hJ 75 gv11 rk_m1 dX2_copySlots_68 (by decide) (fun z12 => ?_) (fun z12 => ?_)
          · have hF := hF.1 z12
            exact j_sub hJ [1, 2, 3, 4, 5, 6, 0] rfl (k_X2_copySlots_b75 hin  hJ ih x1 x2 x3 x4 x5 v4 _ gx1 gx2 gx3 gx4 gx5 gv4 hF)
          · have hF := hF.2 z12
            refine j_iconst hJ dX2_copySlots_71 ?_
            refine j_goto hJ 76 dX2_copySlots_72 (by decide) ?_
            exact j_sub hJ [1, 2, 3, 4, 5, 6, 0] rfl (k_X2_copySlots_b76 hin  hJ ih x1 x2 x3 x4 x5 v4 1 _ gx1 gx2 gx3 gx4 gx5 gv4 rk_1 hF)
  intro x1 x2 x3 x4 x5 M gx1 gx2 gx3 gx4 gx5 hF
  obtain ⟨n, hF⟩ := hF
  exact H9 n x1 x2 x3 x4 x5 M gx1 gx2 gx3 gx4 gx5 hF
set_option maxHeartbeats 4000000 in
set_option maxRecDepth 100000 in
theorem c_X2_copySlots {l : Launch} {D : va_G} {cy : Nat → ClassId} {ad : Nat → Nat} (hin : jIn ad ksC.length) : jCN l D vwCl (tyC cy) cy ad ftC ksC (XtC ad) yX2_copySlots (.code yX2_copySlots cX2_copySlots 9 none :: Om) ({ frames := 3, cells := 0, slots := 0, locals := 63 } : Room) 0 (W_X2_copySlots ad) := by
  refine jCN_of (y := yX2_copySlots) (cc := cX2_copySlots) (nL := 9) (rk := 0) (rm := ({ frames := 3, cells := 0, slots := 0, locals := 63 } : Room)) (own := RX2) (tyC_ok cy) hin (XtC_ok ad) Om_good (by decide) rfl ?_
  intro Q av M hF
  obtain ⟨p1, p2, p3, rfl, gp1, gp2, gp3, hF⟩ := hF
  refine ⟨Nat.le_of_ble_eq_true rfl, fun J hJ => ?_⟩
  show J 0 [(0, .ref (ad 26)), (1, .int (Ii p1)), (2, .int (Ii p2)), (3, .int (Ii p3))] [] M
  unfold w_X2_copySlots at hF
  refine j_aload_n hJ dX2_copySlots_0 rfl 0 rfl ?_
  refine j_iload_n hJ dX2_copySlots_1 rfl 1 rfl ?_
  refine j_callVi hJ (c_X2_slotsOf (l := l) (D := D) (cy := cy) (ad := ad) hin) rfl om_182 ⟨rfl, rfl, Nat.le_of_ble_eq_true rfl, Nat.le_of_ble_eq_true rfl⟩ [.int (Ii p1)] mv_X2_59 hd_X2_slotsOfv kC_26 rfl rfl rfl (Nat.le_of_ble_eq_true rfl) dX2_copySlots_2 ⟨p1, rfl, gp1, hF⟩ (fun r1 M2 gr1 qM2 => ?_)
  have hF := qM2 gr1
  refine j_istore (lv' := [(4, .int (Ii r1)), (0, .ref (ad 26)), (1, .int (Ii p1)), (2, .int (Ii p2)), (3, .int (Ii p3))]) hJ dX2_copySlots_5 (by decide) rfl ?_
  refine j_iconst hJ dX2_copySlots_7 ?_
  refine j_istore (lv' := [(5, .int (Ii 0)), (4, .int (Ii r1)), (0, .ref (ad 26)), (1, .int (Ii p1)), (2, .int (Ii p2)), (3, .int (Ii p3))]) hJ dX2_copySlots_8 (by decide) rfl ?_
  exact j_sub hJ [2, 3, 4, 5, 1, 0] rfl (k_X2_copySlots_b10 hin  hJ  p1 p2 p3 r1 0 _ gp1 gp2 gp3 gr1 rk_0 hF)
def W_X2_duplicate (ad : Nat → Nat) (Q : Int → MM → Prop) (av : List Value) (M : MM) : Prop := ∃ (p1 : Int) (p2 : Int), av = [.ref (ad 26), .int (Ii p1), .int (Ii p2)] ∧ ri_ p1 ∧ ri_ p2 ∧ w_X2_duplicate  Q p1 p2 M
set_option maxHeartbeats 4000000 in
set_option maxRecDepth 100000 in
theorem k_X2_duplicate_b106 {l : Launch} {D : va_G} {cy : Nat → ClassId} {ad : Nat → Nat} {Q : Int → MM → Prop} {J : Nat → List (Nat × Value) → List Value → MM → Prop} (hin : jIn ad ksC.length)   (hJ : jOk l D vwCl (tyC cy) cy ad ftC ksC (XtC ad) Om RX2 cX2_duplicate 7 1 ({ frames := 4, cells := 0, slots := 0, locals := 92 } : Room) Q J)  : ∀ (x3 x5 x6 : Int) (M : MM), ri_ x3 → ri_ x5 → ri_ x6 → w_X2_duplicate_b106  Q  x3 x5 x6 M → J 106 [(0, .ref (ad 26)), (3, .int (Ii x3)), (5, .int (Ii x5)), (6, .int (Ii x6))] [] M := by
  have H9 : ∀ (n : Nat) (x3 x5 x6 : Int) (M : MM), ri_ x3 → ri_ x5 → ri_ x6 → jit (fun _ _ _ _ => False) (wb_X2_duplicate_b106  Q ) n x3 x5 x6 M → J 106 [(0, .ref (ad 26)), (3, .int (Ii x3)), (5, .int (Ii x5)), (6, .int (Ii x6))] [] M := by
    intro n
    induction n with
    | zero => intro x3 x5 x6 M gx3 gx5 gx6 hF; exact False.elim hF
    | succ n ih =>
    intro x3 x5 x6 M gx3 gx5 gx6 hF
    have hF : wb_X2_duplicate_b106  Q  (jit (fun _ _ _ _ => False) (wb_X2_duplicate_b106  Q ) n) x3 x5 x6 M := hF
    unfold wb_X2_duplicate_b106 at hF
    refine j_iload hJ dX2_duplicate_106 3 rfl ?_
    refine j_iload_n hJ dX2_duplicate_108 rfl 1 rfl ?_
    refine j_icmp_ge hJ 136 gx6 gx3 dX2_duplicate_109 (by decide) (fun z1 => ?_) (fun z1 => ?_)
    · have hF := hF.1 z1
      refine j_iload hJ dX2_duplicate_136 2 rfl ?_
      exact j_iret hJ rfl gx5 dX2_duplicate_138 hF
    · have hF := hF.2 z1
      refine j_aload_n hJ dX2_duplicate_112 rfl 0 rfl ?_
      refine j_aload_n hJ dX2_duplicate_113 rfl 0 rfl ?_
      refine j_gr (e := 34) hJ kC_26 fC_5_12 fl_X2_41 dX2_duplicate_114 rfl ?_
      refine j_iload hJ dX2_duplicate_117 3 rfl ?_
      refine j_iald hJ gx6 kC_34 hF.1 hF.2.1 dX2_duplicate_119 (fun v2 ev2 gv2 => ?_)
      have hF := hF.2.2 v2 ev2 gv2
      refine j_iload hJ dX2_duplicate_120 2 rfl ?_
      refine j_iload hJ dX2_duplicate_122 3 rfl ?_
      refine j_iadd hJ dX2_duplicate_124 ?_
      have g3 := hF.1; have hF := hF.2
      refine j_iload hJ dX2_duplicate_125 2 rfl ?_
      refine j_callVv hJ (c_X2_copySlots (l := l) (D := D) (cy := cy) (ad := ad) hin) rfl om_249 ⟨rfl, rfl, Nat.le_of_ble_eq_true rfl, Nat.le_of_ble_eq_true rfl⟩ [.int (Ii v2), .int (Ii (x5 + x6)), .int (Ii x5)] mv_X2_141 hd_X2_copySlotsv kC_26 rfl rfl rfl (Nat.le_of_ble_eq_true rfl) dX2_duplicate_127 ⟨v2, (x5 + x6), x5, rfl, gv2, g3, gx5, hF⟩ (fun M5 qM5 => ?_)
      have hF := qM5
      refine j_iinc (lv' := [(6, .int (Ii (x6 + 1))), (0, .ref (ad 26)), (3, .int (Ii x3)), (5, .int (Ii x5))]) (k := 3) hJ dX2_duplicate_130 rfl (by decide) rfl ?_
      have g6 := hF.1; have hF := hF.2
      refine j_goto hJ 106 dX2_duplicate_133 (by decide) ?_
      exact j_sub hJ [1, 2, 3, 0] rfl (ih x3 x5 (x6 + 1) _ gx3 gx5 g6 hF)
  intro x3 x5 x6 M gx3 gx5 gx6 hF
  obtain ⟨n, hF⟩ := hF
  exact H9 n x3 x5 x6 M gx3 gx5 gx6 hF
set_option maxHeartbeats 4000000 in
set_option maxRecDepth 100000 in
theorem k_X2_duplicate_b62 {l : Launch} {D : va_G} {cy : Nat → ClassId} {ad : Nat → Nat} {Q : Int → MM → Prop} {J : Nat → List (Nat × Value) → List Value → MM → Prop} (hin : jIn ad ksC.length)   (hJ : jOk l D vwCl (tyC cy) cy ad ftC ksC (XtC ad) Om RX2 cX2_duplicate 7 1 ({ frames := 4, cells := 0, slots := 0, locals := 92 } : Room) Q J)  : ∀ (x3 x5 x6 : Int) (M : MM), ri_ x3 → ri_ x5 → ri_ x6 → w_X2_duplicate_b62  Q  x3 x5 x6 M → J 62 [(0, .ref (ad 26)), (3, .int (Ii x3)), (5, .int (Ii x5)), (6, .int (Ii x6))] [] M := by
  have H9 : ∀ (n : Nat) (x3 x5 x6 : Int) (M : MM), ri_ x3 → ri_ x5 → ri_ x6 → jit (fun _ _ _ _ => False) (wb_X2_duplicate_b62  Q ) n x3 x5 x6 M → J 62 [(0, .ref (ad 26)), (3, .int (Ii x3)), (5, .int (Ii x5)), (6, .int (Ii x6))] [] M := by
    intro n
    induction n with
    | zero => intro x3 x5 x6 M gx3 gx5 gx6 hF; exact False.elim hF
    | succ n ih =>
    intro x3 x5 x6 M gx3 gx5 gx6 hF
    have hF : wb_X2_duplicate_b62  Q  (jit (fun _ _ _ _ => False) (wb_X2_duplicate_b62  Q ) n) x3 x5 x6 M := hF
    unfold wb_X2_duplicate_b62 at hF
    refine j_iload hJ dX2_duplicate_62 3 rfl ?_
    refine j_iload_n hJ dX2_duplicate_64 rfl 1 rfl ?_
    refine j_icmp_ge hJ 103 gx6 gx3 dX2_duplicate_65 (by decide) (fun z1 => ?_) (fun z1 => ?_)
    · have hF := hF.1 z1
      refine j_iconst hJ dX2_duplicate_103 ?_
      refine j_istore (lv' := [(6, .int (Ii 0)), (0, .ref (ad 26)), (3, .int (Ii x3)), (5, .int (Ii x5))]) hJ dX2_duplicate_104 (by decide) rfl ?_
      exact j_sub hJ [1, 2, 3, 0] rfl (k_X2_duplicate_b106 hin  hJ  x3 x5 0 _ gx3 gx5 rk_0 hF)
    · have hF := hF.2 z1
      refine j_aload_n hJ dX2_duplicate_68 rfl 0 rfl ?_
      refine j_aload_n hJ dX2_duplicate_69 rfl 0 rfl ?_
      refine j_gr (e := 27) hJ kC_26 fC_5_4 fl_X2_15 dX2_duplicate_70 rfl ?_
      refine j_aload_n hJ dX2_duplicate_73 rfl 0 rfl ?_
      refine j_gr (e := 34) hJ kC_26 fC_5_12 fl_X2_41 dX2_duplicate_74 rfl ?_
      refine j_iload hJ dX2_duplicate_77 3 rfl ?_
      refine j_iald hJ gx6 kC_34 hF.1 hF.2.1 dX2_duplicate_79 (fun v2 ev2 gv2 => ?_)
      have hF := hF.2.2 v2 ev2 gv2
      refine j_iald hJ gv2 kC_27 hF.1 hF.2.1 dX2_duplicate_80 (fun v3 ev3 gv3 => ?_)
      have hF := hF.2.2 v3 ev3 gv3
      refine j_aload_n hJ dX2_duplicate_81 rfl 0 rfl ?_
      refine j_gr (e := 28) hJ kC_26 fC_5_5 fl_X2_19 dX2_duplicate_82 rfl ?_
      refine j_aload_n hJ dX2_duplicate_85 rfl 0 rfl ?_
      refine j_gr (e := 34) hJ kC_26 fC_5_12 fl_X2_41 dX2_duplicate_86 rfl ?_
      refine j_iload hJ dX2_duplicate_89 3 rfl ?_
      refine j_iald hJ gx6 kC_34 hF.1 hF.2.1 dX2_duplicate_91 (fun v4 ev4 gv4 => ?_)
      have hF := hF.2.2 v4 ev4 gv4
      refine j_iald hJ gv4 kC_28 hF.1 hF.2.1 dX2_duplicate_92 (fun v5 ev5 gv5 => ?_)
      have hF := hF.2.2 v5 ev5 gv5
      refine j_callVi hJ (c_X2_create (l := l) (D := D) (cy := cy) (ad := ad) hin) rfl om_253 ⟨rfl, rfl, Nat.le_of_ble_eq_true rfl, Nat.le_of_ble_eq_true rfl⟩ [.int (Ii v3), .int (Ii v5)] mv_X2_138 hd_X2_createv kC_26 rfl rfl rfl (Nat.le_of_ble_eq_true rfl) dX2_duplicate_93 ⟨v3, v5, rfl, gv3, gv5, hF⟩ (fun r6 M7 gr6 qM7 => ?_)
      have hF := qM7 gr6
      refine j_pop hJ dX2_duplicate_96 rfl ?_
      refine j_iinc (lv' := [(6, .int (Ii (x6 + 1))), (0, .ref (ad 26)), (3, .int (Ii x3)), (5, .int (Ii x5))]) (k := 3) hJ dX2_duplicate_97 rfl (by decide) rfl ?_
      have g8 := hF.1; have hF := hF.2
      refine j_goto hJ 62 dX2_duplicate_100 (by decide) ?_
      exact j_sub hJ [1, 2, 3, 0] rfl (ih x3 x5 (x6 + 1) _ gx3 gx5 g8 hF)
  intro x3 x5 x6 M gx3 gx5 gx6 hF
  obtain ⟨n, hF⟩ := hF
  exact H9 n x3 x5 x6 M gx3 gx5 gx6 hF
set_option maxHeartbeats 4000000 in
set_option maxRecDepth 100000 in
theorem k_X2_duplicate_b13 {l : Launch} {D : va_G} {cy : Nat → ClassId} {ad : Nat → Nat} {Q : Int → MM → Prop} {J : Nat → List (Nat × Value) → List Value → MM → Prop} (hin : jIn ad ksC.length)   (hJ : jOk l D vwCl (tyC cy) cy ad ftC ksC (XtC ad) Om RX2 cX2_duplicate 7 1 ({ frames := 4, cells := 0, slots := 0, locals := 92 } : Room) Q J)  : ∀ (x3 x4 x5 : Int) (M : MM), ri_ x3 → ri_ x4 → ri_ x5 → w_X2_duplicate_b13  Q  x3 x4 x5 M → J 13 [(0, .ref (ad 26)), (3, .int (Ii x3)), (4, .int (Ii x4)), (5, .int (Ii x5))] [] M := by
  have H9 : ∀ (n : Nat) (x3 x4 x5 : Int) (M : MM), ri_ x3 → ri_ x4 → ri_ x5 → jit (fun _ _ _ _ => False) (wb_X2_duplicate_b13  Q ) n x3 x4 x5 M → J 13 [(0, .ref (ad 26)), (3, .int (Ii x3)), (4, .int (Ii x4)), (5, .int (Ii x5))] [] M := by
    intro n
    induction n with
    | zero => intro x3 x4 x5 M gx3 gx4 gx5 hF; exact False.elim hF
    | succ n ih =>
    intro x3 x4 x5 M gx3 gx4 gx5 hF
    have hF : wb_X2_duplicate_b13  Q  (jit (fun _ _ _ _ => False) (wb_X2_duplicate_b13  Q ) n) x3 x4 x5 M := hF
    unfold wb_X2_duplicate_b13 at hF
    refine j_iload hJ dX2_duplicate_13 3 rfl ?_
    refine j_iload_n hJ dX2_duplicate_15 rfl 1 rfl ?_
    refine j_icmp_ge hJ 41 gx5 gx3 dX2_duplicate_16 (by decide) (fun z1 => ?_) (fun z1 => ?_)
    · have hF := hF.1 z1
      refine j_aload_n hJ dX2_duplicate_41 rfl 0 rfl ?_
      refine j_iload_n hJ dX2_duplicate_42 rfl 1 rfl ?_
      refine j_iload hJ dX2_duplicate_43 2 rfl ?_
      refine j_callVz hJ (c_X2_hasRoom (l := l) (D := D) (cy := cy) (ad := ad) hin) rfl om_245 ⟨rfl, rfl, Nat.le_of_ble_eq_true rfl, Nat.le_of_ble_eq_true rfl⟩ [.int (Ii x3), .int (Ii x4)] mv_X2_135 hd_X2_hasRoomv kC_26 rfl rfl rfl (Nat.le_of_ble_eq_true rfl) dX2_duplicate_45 ⟨x3, x4, rfl, gx3, gx4, hF⟩ (fun r2 M3 gr2 qM3 => ?_)
      have hF := qM3 gr2
      refine j_if_ne hJ 53 (jz_ri gr2) dX2_duplicate_48 (by decide) (fun z4 => ?_) (fun z4 => ?_)
      · have hF := hF.1 z4
        refine j_aload_n hJ dX2_duplicate_53 rfl 0 rfl ?_
        refine j_gi hJ kC_26 fC_5_1 rfl fl_X2_47 dX2_duplicate_54 (fun v5 ev5 gv5 => ?_)
        have hF := hF v5 ev5 gv5
        refine j_istore (lv' := [(5, .int (Ii v5)), (0, .ref (ad 26)), (3, .int (Ii x3)), (4, .int (Ii x4))]) hJ dX2_duplicate_57 (by decide) rfl ?_
        refine j_iconst hJ dX2_duplicate_59 ?_
        refine j_istore (lv' := [(6, .int (Ii 0)), (5, .int (Ii v5)), (0, .ref (ad 26)), (3, .int (Ii x3)), (4, .int (Ii x4))]) hJ dX2_duplicate_60 (by decide) rfl ?_
        exact j_sub hJ [2, 3, 1, 0] rfl (k_X2_duplicate_b62 hin  hJ  x3 v5 0 _ gx3 gv5 rk_0 hF)
      · have hF := hF.2 z4
        refine j_iconst hJ dX2_duplicate_51 ?_
        exact j_iret hJ rfl rk_m1 dX2_duplicate_52 hF
    · have hF := hF.2 z1
      refine j_iload hJ dX2_duplicate_19 2 rfl ?_
      refine j_aload_n hJ dX2_duplicate_21 rfl 0 rfl ?_
      refine j_aload_n hJ dX2_duplicate_22 rfl 0 rfl ?_
      refine j_gr (e := 34) hJ kC_26 fC_5_12 fl_X2_41 dX2_duplicate_23 rfl ?_
      refine j_iload hJ dX2_duplicate_26 3 rfl ?_
      refine j_iald hJ gx5 kC_34 hF.1 hF.2.1 dX2_duplicate_28 (fun v6 ev6 gv6 => ?_)
      have hF := hF.2.2 v6 ev6 gv6
      refine j_callVi hJ (c_X2_slotsOf (l := l) (D := D) (cy := cy) (ad := ad) hin) rfl om_182 ⟨rfl, rfl, Nat.le_of_ble_eq_true rfl, Nat.le_of_ble_eq_true rfl⟩ [.int (Ii v6)] mv_X2_59 hd_X2_slotsOfv kC_26 rfl rfl rfl (Nat.le_of_ble_eq_true rfl) dX2_duplicate_29 ⟨v6, rfl, gv6, hF⟩ (fun r7 M8 gr7 qM8 => ?_)
      have hF := qM8 gr7
      refine j_iadd hJ dX2_duplicate_32 ?_
      have g9 := hF.1; have hF := hF.2
      refine j_istore (lv' := [(4, .int (Ii (x4 + r7))), (0, .ref (ad 26)), (3, .int (Ii x3)), (5, .int (Ii x5))]) hJ dX2_duplicate_33 (by decide) rfl ?_
      refine j_iinc (lv' := [(5, .int (Ii (x5 + 1))), (4, .int (Ii (x4 + r7))), (0, .ref (ad 26)), (3, .int (Ii x3))]) (k := 3) hJ dX2_duplicate_35 rfl (by decide) rfl ?_
      have g10 := hF.1; have hF := hF.2
      refine j_goto hJ 13 dX2_duplicate_38 (by decide) ?_
      exact j_sub hJ [2, 3, 1, 0] rfl (ih x3 (x4 + r7) (x5 + 1) _ gx3 g9 g10 hF)
  intro x3 x4 x5 M gx3 gx4 gx5 hF
  obtain ⟨n, hF⟩ := hF
  exact H9 n x3 x4 x5 M gx3 gx4 gx5 hF
set_option maxHeartbeats 4000000 in
set_option maxRecDepth 100000 in
theorem c_X2_duplicate {l : Launch} {D : va_G} {cy : Nat → ClassId} {ad : Nat → Nat} (hin : jIn ad ksC.length) : jCN l D vwCl (tyC cy) cy ad ftC ksC (XtC ad) yX2_duplicate (.code yX2_duplicate cX2_duplicate 7 (some .int) :: Om) ({ frames := 4, cells := 0, slots := 0, locals := 92 } : Room) 1 (W_X2_duplicate ad) := by
  refine jCN_of (y := yX2_duplicate) (cc := cX2_duplicate) (nL := 7) (rk := 1) (rm := ({ frames := 4, cells := 0, slots := 0, locals := 92 } : Room)) (own := RX2) (tyC_ok cy) hin (XtC_ok ad) Om_good (by decide) rfl ?_
  intro Q av M hF
  obtain ⟨p1, p2, rfl, gp1, gp2, hF⟩ := hF
  refine ⟨Nat.le_of_ble_eq_true rfl, fun J hJ => ?_⟩
  show J 0 [(0, .ref (ad 26)), (1, .int (Ii p1)), (2, .int (Ii p2))] [] M
  unfold w_X2_duplicate at hF
  refine j_aload_n hJ dX2_duplicate_0 rfl 0 rfl ?_
  refine j_iload_n hJ dX2_duplicate_1 rfl 1 rfl ?_
  refine j_iload_n hJ dX2_duplicate_2 rfl 2 rfl ?_
  refine j_callVi hJ (c_X2_walkToCopy (l := l) (D := D) (cy := cy) (ad := ad) hin) rfl om_241 ⟨rfl, rfl, Nat.le_of_ble_eq_true rfl, Nat.le_of_ble_eq_true rfl⟩ [.int (Ii p1), .int (Ii p2)] mv_X2_132 hd_X2_walkToCopyv kC_26 rfl rfl rfl (Nat.le_of_ble_eq_true rfl) dX2_duplicate_3 ⟨p1, p2, rfl, gp1, gp2, hF⟩ (fun r1 M2 gr1 qM2 => ?_)
  have hF := qM2 gr1
  refine j_istore_n (lv' := [(3, .int (Ii r1)), (0, .ref (ad 26)), (1, .int (Ii p1)), (2, .int (Ii p2))]) hJ dX2_duplicate_6 rfl (by decide) rfl ?_
  refine j_iconst hJ dX2_duplicate_7 ?_
  refine j_istore (lv' := [(4, .int (Ii 0)), (3, .int (Ii r1)), (0, .ref (ad 26)), (1, .int (Ii p1)), (2, .int (Ii p2))]) hJ dX2_duplicate_8 (by decide) rfl ?_
  refine j_iconst hJ dX2_duplicate_10 ?_
  refine j_istore (lv' := [(5, .int (Ii 0)), (4, .int (Ii 0)), (3, .int (Ii r1)), (0, .ref (ad 26)), (1, .int (Ii p1)), (2, .int (Ii p2))]) hJ dX2_duplicate_11 (by decide) rfl ?_
  exact j_sub hJ [3, 2, 1, 0] rfl (k_X2_duplicate_b13 hin  hJ  r1 0 0 _ gr1 rk_0 rk_0 hF)
def W_X3_remember (ad : Nat → Nat) (Q : Int → MM → Prop) (av : List Value) (M : MM) : Prop := ∃ (p1 : Int) (p2 : Int), av = [.ref (ad 36), .int (Ii p1), .long (Ll p2)] ∧ ri_ p1 ∧ rl_ p2 ∧ w_X3_remember  Q p1 p2 M
set_option maxHeartbeats 4000000 in
set_option maxRecDepth 100000 in
theorem c_X3_remember {l : Launch} {D : va_G} {cy : Nat → ClassId} {ad : Nat → Nat} (hin : jIn ad ksC.length) : jCN l D vwCl (tyC cy) cy ad ftC ksC (XtC ad) yX3_remember (.code yX3_remember cX3_remember 5 none :: Om) ({ frames := 0, cells := 0, slots := 0, locals := 0 } : Room) 0 (W_X3_remember ad) := by
  refine jCN_of (y := yX3_remember) (cc := cX3_remember) (nL := 5) (rk := 0) (rm := ({ frames := 0, cells := 0, slots := 0, locals := 0 } : Room)) (own := RX3) (tyC_ok cy) hin (XtC_ok ad) Om_good (by decide) rfl ?_
  intro Q av M hF
  obtain ⟨p1, p2, rfl, gp1, gp2, hF⟩ := hF
  refine ⟨Nat.le_of_ble_eq_true rfl, fun J hJ => ?_⟩
  show J 0 [(0, .ref (ad 36)), (1, .int (Ii p1)), (2, .long (Ll p2))] [] M
  unfold w_X3_remember at hF
  refine j_aload_n hJ dX3_remember_0 rfl 0 rfl ?_
  refine j_gi hJ kC_36 fC_6_5 rfl fl_X3_116 dX3_remember_1 (fun v1 ev1 gv1 => ?_)
  have hF := hF v1 ev1 gv1
  refine j_aload_n hJ dX3_remember_4 rfl 0 rfl ?_
  refine j_gi hJ kC_36 fC_6_6 rfl fl_X3_119 dX3_remember_5 (fun v2 ev2 gv2 => ?_)
  have hF := hF v2 ev2 gv2
  refine j_iadd hJ dX3_remember_8 ?_
  have g3 := hF.1; have hF := hF.2
  refine j_bipush hJ dX3_remember_9 (by decide) ?_
  refine j_irem hJ g3 rk_100 (by decide) dX3_remember_11 ?_
  have g4 := hF.1; have hF := hF.2
  refine j_istore (lv' := [(4, .int (Ii ((v1 + v2) - (Int.tdiv (v1 + v2) 100) * 100))), (0, .ref (ad 36)), (1, .int (Ii p1)), (2, .long (Ll p2))]) hJ dX3_remember_12 (by decide) rfl ?_
  refine j_aload_n hJ dX3_remember_14 rfl 1 rfl ?_
  refine j_gr (e := 37) hJ kC_36 fC_6_2 fl_X3_15 dX3_remember_15 rfl ?_
  refine j_iload hJ dX3_remember_18 0 rfl ?_
  refine j_aload_n hJ dX3_remember_20 rfl 1 rfl ?_
  refine j_gi hJ kC_36 fC_6_1 rfl fl_X3_85 dX3_remember_21 (fun v5 ev5 gv5 => ?_)
  have hF := hF v5 ev5 gv5
  refine j_iast hJ g4 gv5 kC_37 hF.1 hF.2.1 dX3_remember_24 (fun M6 eM6 => ?_)
  have hF := hF.2.2 M6 eM6
  refine j_aload_n hJ dX3_remember_25 rfl 1 rfl ?_
  refine j_gr (e := 38) hJ kC_36 fC_6_3 fl_X3_19 dX3_remember_26 rfl ?_
  refine j_iload hJ dX3_remember_29 0 rfl ?_
  refine j_iload_n hJ dX3_remember_31 rfl 2 rfl ?_
  refine j_iast hJ g4 gp1 kC_38 hF.1 hF.2.1 dX3_remember_32 (fun M7 eM7 => ?_)
  have hF := hF.2.2 M7 eM7
  refine j_aload_n hJ dX3_remember_33 rfl 1 rfl ?_
  refine j_gr (e := 39) hJ kC_36 fC_6_4 fl_X3_22 dX3_remember_34 rfl ?_
  refine j_iload hJ dX3_remember_37 0 rfl ?_
  refine j_lload_n hJ dX3_remember_39 rfl 3 rfl ?_
  refine j_last hJ g4 gp2 kC_39 hF.1 hF.2.1 dX3_remember_40 (fun M8 eM8 => ?_)
  have hF := hF.2.2 M8 eM8
  refine j_aload_n hJ dX3_remember_41 rfl 1 rfl ?_
  refine j_gi hJ kC_36 fC_6_6 rfl fl_X3_119 dX3_remember_42 (fun v9 ev9 gv9 => ?_)
  have hF := hF v9 ev9 gv9
  refine j_bipush hJ dX3_remember_45 (by decide) ?_
  refine j_icmp_ge hJ 63 gv9 rk_100 dX3_remember_47 (by decide) (fun z10 => ?_) (fun z10 => ?_)
  · have hF := hF.1 z10
    refine j_aload_n hJ dX3_remember_63 rfl 1 rfl ?_
    refine j_aload_n hJ dX3_remember_64 rfl 1 rfl ?_
    refine j_gi hJ kC_36 fC_6_5 rfl fl_X3_116 dX3_remember_65 (fun v11 ev11 gv11 => ?_)
    have hF := hF v11 ev11 gv11
    refine j_iconst hJ dX3_remember_68 ?_
    refine j_iadd hJ dX3_remember_69 ?_
    have g12 := hF.1; have hF := hF.2
    refine j_bipush hJ dX3_remember_70 (by decide) ?_
    refine j_irem hJ g12 rk_100 (by decide) dX3_remember_72 ?_
    have g13 := hF.1; have hF := hF.2
    refine j_pi hJ g13 kC_36 fC_6_5 rfl fp_X3_116 dX3_remember_73 (fun M14 eM14 => ?_)
    have hF := hF M14 eM14
    exact j_vret hJ rfl dX3_remember_76 hF
  · have hF := hF.2 z10
    refine j_aload_n hJ dX3_remember_50 rfl 1 rfl ?_
    refine j_dup hJ dX3_remember_51 rfl ?_
    refine j_gi hJ kC_36 fC_6_6 rfl fl_X3_119 dX3_remember_52 (fun v15 ev15 gv15 => ?_)
    have hF := hF v15 ev15 gv15
    refine j_iconst hJ dX3_remember_55 ?_
    refine j_iadd hJ dX3_remember_56 ?_
    have g16 := hF.1; have hF := hF.2
    refine j_pi hJ g16 kC_36 fC_6_6 rfl fp_X3_119 dX3_remember_57 (fun M17 eM17 => ?_)
    have hF := hF M17 eM17
    refine j_goto hJ 76 dX3_remember_60 (by decide) ?_
    exact j_vret hJ rfl dX3_remember_76 hF
def W_X3_isCase (ad : Nat → Nat) (Q : Int → MM → Prop) (av : List Value) (M : MM) : Prop := ∃ (p1 : Int) (p2 : Int) (p3 : Int), av = [.ref (ad 36), .int (Ii p1), .long (Ll p2), .long (Ll p3)] ∧ ri_ p1 ∧ rl_ p2 ∧ rl_ p3 ∧ w_X3_isCase  Q p1 p2 p3 M
set_option maxHeartbeats 4000000 in
set_option maxRecDepth 100000 in
theorem c_X3_isCase {l : Launch} {D : va_G} {cy : Nat → ClassId} {ad : Nat → Nat} (hin : jIn ad ksC.length) : jCN l D vwCl (tyC cy) cy ad ftC ksC (XtC ad) yX3_isCase (.code yX3_isCase cX3_isCase 9 (some .boolean) :: Om) ({ frames := 1, cells := 0, slots := 0, locals := 20 } : Room) 3 (W_X3_isCase ad) := by
  refine jCN_of (y := yX3_isCase) (cc := cX3_isCase) (nL := 9) (rk := 3) (rm := ({ frames := 1, cells := 0, slots := 0, locals := 20 } : Room)) (own := RX3) (tyC_ok cy) hin (XtC_ok ad) Om_good (by decide) rfl ?_
  intro Q av M hF
  obtain ⟨p1, p2, p3, rfl, gp1, gp2, gp3, hF⟩ := hF
  refine ⟨Nat.le_of_ble_eq_true rfl, fun J hJ => ?_⟩
  show J 0 [(0, .ref (ad 36)), (1, .int (Ii p1)), (2, .long (Ll p2)), (4, .long (Ll p3))] [] M
  unfold w_X3_isCase at hF
  refine j_aload_n hJ dX3_isCase_0 rfl 0 rfl ?_
  refine j_ga hJ kC_36 fC_6_0 fl_X3_9 dX3_isCase_1 ?_
  refine j_gr (e := 19) hJ kC_8 fC_13_11 fl_X3_122 dX3_isCase_4 rfl ?_
  refine j_aload_n hJ dX3_isCase_7 rfl 0 rfl ?_
  refine j_gr (e := 40) hJ kC_36 fC_6_8 fl_X3_26 dX3_isCase_8 rfl ?_
  refine j_iload_n hJ dX3_isCase_11 rfl 1 rfl ?_
  refine j_iald hJ gp1 kC_40 hF.1 hF.2.1 dX3_isCase_12 (fun v1 ev1 gv1 => ?_)
  have hF := hF.2.2 v1 ev1 gv1
  refine j_bipush hJ dX3_isCase_13 (by decide) ?_
  refine j_imul hJ dX3_isCase_15 ?_
  have g2 := hF.1; have hF := hF.2
  refine j_aload_n hJ dX3_isCase_16 rfl 0 rfl ?_
  refine j_gr (e := 41) hJ kC_36 fC_6_9 fl_X3_29 dX3_isCase_17 rfl ?_
  refine j_iload_n hJ dX3_isCase_20 rfl 1 rfl ?_
  refine j_iald hJ gp1 kC_41 hF.1 hF.2.1 dX3_isCase_21 (fun v3 ev3 gv3 => ?_)
  have hF := hF.2.2 v3 ev3 gv3
  refine j_iadd hJ dX3_isCase_22 ?_
  have g4 := hF.1; have hF := hF.2
  refine j_iald hJ g4 kC_19 hF.1 hF.2.1 dX3_isCase_23 (fun v5 ev5 gv5 => ?_)
  have hF := hF.2.2 v5 ev5 gv5
  refine j_istore (lv' := [(6, .int (Ii v5)), (0, .ref (ad 36)), (1, .int (Ii p1)), (2, .long (Ll p2)), (4, .long (Ll p3))]) hJ dX3_isCase_24 (by decide) rfl ?_
  refine j_iload hJ dX3_isCase_26 0 rfl ?_
  refine j_callSl hJ (c_X10_firstValue (l := l) (D := D) (cy := cy) (ad := ad) hin) rfl om_195 ⟨rfl, rfl, Nat.le_of_ble_eq_true rfl, Nat.le_of_ble_eq_true rfl⟩ [.int (Ii v5)] mv_X3_125 hd_X10_firstValue rfl (Nat.le_of_ble_eq_true rfl) dX3_isCase_28 ⟨v5, rfl, gv5, hF⟩ (fun r6 M7 gr6 qM7 => ?_)
  have hF := qM7 gr6
  refine j_lstore (lv' := [(7, .long (Ll r6)), (6, .int (Ii v5)), (0, .ref (ad 36)), (1, .int (Ii p1)), (2, .long (Ll p2)), (4, .long (Ll p3))]) hJ dX3_isCase_31 (by decide) rfl ?_
  refine j_aload_n hJ dX3_isCase_33 rfl 2 rfl ?_
  refine j_gr (e := 42) hJ kC_36 fC_6_10 fl_X3_32 dX3_isCase_34 rfl ?_
  refine j_iload_n hJ dX3_isCase_37 rfl 3 rfl ?_
  refine j_iald hJ gp1 kC_42 hF.1 hF.2.1 dX3_isCase_38 (fun v8 ev8 gv8 => ?_)
  have hF := hF.2.2 v8 ev8 gv8
  by_cases z9 : v8 = 1
  · refine j_tabIn hJ 25 64 gv8 dX3_isCase_39 (by omega) (by omega) (by rw [z9]; decide) (by decide) ?_
    have hF := hF.1 z9
    refine j_lload_n hJ dX3_isCase_64 rfl 4 rfl ?_
    refine j_lload hJ dX3_isCase_65 5 rfl ?_
    refine j_lcmp_eq hJ 75 gp2 gp3 dX3_isCase_67 dX3_isCase_68 (by decide) (fun z10 => ?_) (fun z10 => ?_)
    · have hF := hF.1 z10
      refine j_iconst hJ dX3_isCase_75 ?_
      exact j_zret hJ rfl (by decide) dX3_isCase_76 hF
    · have hF := hF.2 z10
      refine j_iconst hJ dX3_isCase_71 ?_
      refine j_goto hJ 76 dX3_isCase_72 (by decide) ?_
      exact j_zret hJ rfl (by decide) dX3_isCase_76 hF
  by_cases z11 : v8 = 2
  · refine j_tabIn hJ 38 77 gv8 dX3_isCase_39 (by omega) (by omega) (by rw [z11]; decide) (by decide) ?_
    have hF := hF.2.1 z11
    refine j_lload hJ dX3_isCase_77 5 rfl ?_
    refine j_lload hJ dX3_isCase_79 0 rfl ?_
    refine j_lcmp_ne hJ 96 gp3 gr6 dX3_isCase_81 dX3_isCase_82 (by decide) (fun z12 => ?_) (fun z12 => ?_)
    · have hF := hF.1 z12
      refine j_iconst hJ dX3_isCase_96 ?_
      exact j_zret hJ rfl (by decide) dX3_isCase_97 hF
    · have hF := hF.2 z12
      refine j_lload_n hJ dX3_isCase_85 rfl 4 rfl ?_
      refine j_lload hJ dX3_isCase_86 0 rfl ?_
      refine j_lcmp_eq hJ 96 gp2 gr6 dX3_isCase_88 dX3_isCase_89 (by decide) (fun z13 => ?_) (fun z13 => ?_)
      · have hF := hF.1 z13
        refine j_iconst hJ dX3_isCase_96 ?_
        exact j_zret hJ rfl (by decide) dX3_isCase_97 hF
      · have hF := hF.2 z13
        refine j_iconst hJ dX3_isCase_92 ?_
        refine j_goto hJ 97 dX3_isCase_93 (by decide) ?_
        exact j_zret hJ rfl (by decide) dX3_isCase_97 hF
  by_cases z14 : v8 = 3
  · refine j_tabIn hJ 59 98 gv8 dX3_isCase_39 (by omega) (by omega) (by rw [z14]; decide) (by decide) ?_
    have hF := hF.2.2.1 z14
    refine j_iload hJ dX3_isCase_98 1 rfl ?_
    refine j_iconst hJ dX3_isCase_100 ?_
    refine j_icmp_ne hJ 129 gv5 rk_5 dX3_isCase_101 (by decide) (fun z15 => ?_) (fun z15 => ?_)
    · have hF := hF.1 z15
      refine j_lload hJ dX3_isCase_129 5 rfl ?_
      refine j_lload_n hJ dX3_isCase_131 rfl 4 rfl ?_
      refine j_lcmp_le hJ 140 gp3 gp2 dX3_isCase_132 dX3_isCase_133 (by decide) (fun z16 => ?_) (fun z16 => ?_)
      · have hF := hF.1 z16
        refine j_iconst hJ dX3_isCase_140 ?_
        exact j_zret hJ rfl (by decide) dX3_isCase_141 hF
      · have hF := hF.2 z16
        refine j_iconst hJ dX3_isCase_136 ?_
        refine j_goto hJ 141 dX3_isCase_137 (by decide) ?_
        exact j_zret hJ rfl (by decide) dX3_isCase_141 hF
    · have hF := hF.2 z15
      refine j_lload_n hJ dX3_isCase_104 rfl 4 rfl ?_
      refine j_ldc2 hJ (-1) om_263 (by decide) dX3_isCase_105 ?_
      refine j_lcmp_ne hJ 125 gp2 lk_m1 dX3_isCase_108 dX3_isCase_109 (by decide) (fun z17 => ?_) (fun z17 => ?_)
      · have hF := hF.1 z17
        refine j_iconst hJ dX3_isCase_125 ?_
        refine j_goto hJ 141 dX3_isCase_126 (by decide) ?_
        exact j_zret hJ rfl (by decide) dX3_isCase_141 hF
      · have hF := hF.2 z17
        refine j_lload hJ dX3_isCase_112 5 rfl ?_
        refine j_ldc2 hJ (-1) om_263 (by decide) dX3_isCase_114 ?_
        refine j_lcmp_eq hJ 125 gp3 lk_m1 dX3_isCase_117 dX3_isCase_118 (by decide) (fun z18 => ?_) (fun z18 => ?_)
        · have hF := hF.1 z18
          refine j_iconst hJ dX3_isCase_125 ?_
          refine j_goto hJ 141 dX3_isCase_126 (by decide) ?_
          exact j_zret hJ rfl (by decide) dX3_isCase_141 hF
        · have hF := hF.2 z18
          refine j_iconst hJ dX3_isCase_121 ?_
          refine j_goto hJ 141 dX3_isCase_122 (by decide) ?_
          exact j_zret hJ rfl (by decide) dX3_isCase_141 hF
  have z19 : ¬ v8 = 1 ∧ ¬ v8 = 2 ∧ ¬ v8 = 3 := ⟨z9, z11, z14⟩
  have hF := hF.2.2.2 z19
  refine j_tabOut hJ 142 gv8 dX3_isCase_39 (by omega) (by decide) ?_
  refine j_iconst hJ dX3_isCase_142 ?_
  exact j_zret hJ rfl (by decide) dX3_isCase_143 hF
def W_X3_addRow (ad : Nat → Nat) (Q : Int → MM → Prop) (av : List Value) (M : MM) : Prop := ∃ (p1 : Int) (p2 : Int) (p3 : Int) (p4 : Int), av = [.ref (ad 36), .int (Ii p1), .int (Ii p2), .long (Ll p3), .long (Ll p4)] ∧ ri_ p1 ∧ ri_ p2 ∧ rl_ p3 ∧ rl_ p4 ∧ w_X3_addRow  Q p1 p2 p3 p4 M
set_option maxHeartbeats 4000000 in
set_option maxRecDepth 100000 in
theorem k_X3_addRow_b65 {l : Launch} {D : va_G} {cy : Nat → ClassId} {ad : Nat → Nat} {Q : Int → MM → Prop} {J : Nat → List (Nat × Value) → List Value → MM → Prop} (hin : jIn ad ksC.length)   (hJ : jOk l D vwCl (tyC cy) cy ad ftC ksC (XtC ad) Om RX3 cX3_addRow 9 0 ({ frames := 0, cells := 0, slots := 0, locals := 0 } : Room) Q J)  : ∀ (x1 x2 x3 x5 x7 : Int) (M : MM), ri_ x1 → ri_ x2 → rl_ x3 → rl_ x5 → ri_ x7 → w_X3_addRow_b65  Q  x1 x2 x3 x5 x7 M → J 65 [(0, .ref (ad 36)), (1, .int (Ii x1)), (2, .int (Ii x2)), (3, .long (Ll x3)), (5, .long (Ll x5)), (7, .int (Ii x7))] [] M := by
  intro x1 x2 x3 x5 x7 M gx1 gx2 gx3 gx5 gx7 hF
  unfold w_X3_addRow_b65 at hF
  refine j_iload hJ dX3_addRow_65 5 rfl ?_
  refine j_aload_n hJ dX3_addRow_67 rfl 0 rfl ?_
  refine j_gr (e := 43) hJ kC_36 fC_6_11 fl_X3_35 dX3_addRow_68 rfl ?_
  refine j_iload_n hJ dX3_addRow_71 rfl 1 rfl ?_
  refine j_iald hJ gx1 kC_43 hF.1 hF.2.1 dX3_addRow_72 (fun v1 ev1 gv1 => ?_)
  have hF := hF.2.2 v1 ev1 gv1
  refine j_iconst hJ dX3_addRow_73 ?_
  refine j_imul hJ dX3_addRow_74 ?_
  have g2 := hF.1; have hF := hF.2
  refine j_iadd hJ dX3_addRow_75 ?_
  have g3 := hF.1; have hF := hF.2
  refine j_istore (lv' := [(8, .int (Ii (x7 + (v1 * 4)))), (0, .ref (ad 36)), (1, .int (Ii x1)), (2, .int (Ii x2)), (3, .long (Ll x3)), (5, .long (Ll x5)), (7, .int (Ii x7))]) hJ dX3_addRow_76 (by decide) rfl ?_
  refine j_aload_n hJ dX3_addRow_78 rfl 1 rfl ?_
  refine j_gr (e := 44) hJ kC_36 fC_6_12 fl_X3_38 dX3_addRow_79 rfl ?_
  refine j_iload hJ dX3_addRow_82 0 rfl ?_
  refine j_aload_n hJ dX3_addRow_84 rfl 1 rfl ?_
  refine j_gi hJ kC_36 fC_6_1 rfl fl_X3_85 dX3_addRow_85 (fun v4 ev4 gv4 => ?_)
  have hF := hF v4 ev4 gv4
  refine j_i2l hJ gv4 dX3_addRow_88 ?_
  refine j_last hJ g3 (rl_ri gv4) kC_44 hF.1 hF.2.1 dX3_addRow_89 (fun M5 eM5 => ?_)
  have hF := hF.2.2 M5 eM5
  refine j_aload_n hJ dX3_addRow_90 rfl 1 rfl ?_
  refine j_gr (e := 44) hJ kC_36 fC_6_12 fl_X3_38 dX3_addRow_91 rfl ?_
  refine j_iload hJ dX3_addRow_94 0 rfl ?_
  refine j_iconst hJ dX3_addRow_96 ?_
  refine j_iadd hJ dX3_addRow_97 ?_
  have g6 := hF.1; have hF := hF.2
  refine j_iload_n hJ dX3_addRow_98 rfl 3 rfl ?_
  refine j_i2l hJ gx2 dX3_addRow_99 ?_
  refine j_last hJ g6 (rl_ri gx2) kC_44 hF.1 hF.2.1 dX3_addRow_100 (fun M7 eM7 => ?_)
  have hF := hF.2.2 M7 eM7
  refine j_aload_n hJ dX3_addRow_101 rfl 1 rfl ?_
  refine j_gr (e := 44) hJ kC_36 fC_6_12 fl_X3_38 dX3_addRow_102 rfl ?_
  refine j_iload hJ dX3_addRow_105 0 rfl ?_
  refine j_iconst hJ dX3_addRow_107 ?_
  refine j_iadd hJ dX3_addRow_108 ?_
  have g8 := hF.1; have hF := hF.2
  refine j_lload_n hJ dX3_addRow_109 rfl 4 rfl ?_
  refine j_last hJ g8 gx3 kC_44 hF.1 hF.2.1 dX3_addRow_110 (fun M9 eM9 => ?_)
  have hF := hF.2.2 M9 eM9
  refine j_aload_n hJ dX3_addRow_111 rfl 1 rfl ?_
  refine j_gr (e := 44) hJ kC_36 fC_6_12 fl_X3_38 dX3_addRow_112 rfl ?_
  refine j_iload hJ dX3_addRow_115 0 rfl ?_
  refine j_iconst hJ dX3_addRow_117 ?_
  refine j_iadd hJ dX3_addRow_118 ?_
  have g10 := hF.1; have hF := hF.2
  refine j_lload hJ dX3_addRow_119 5 rfl ?_
  refine j_last hJ g10 gx5 kC_44 hF.1 hF.2.1 dX3_addRow_121 (fun M11 eM11 => ?_)
  have hF := hF.2.2 M11 eM11
  refine j_aload_n hJ dX3_addRow_122 rfl 1 rfl ?_
  refine j_gr (e := 43) hJ kC_36 fC_6_11 fl_X3_35 dX3_addRow_123 rfl ?_
  refine j_iload_n hJ dX3_addRow_126 rfl 2 rfl ?_
  refine j_dup2_11 hJ dX3_addRow_127 rfl rfl ?_
  refine j_iald hJ gx1 kC_43 hF.1 hF.2.1 dX3_addRow_128 (fun v12 ev12 gv12 => ?_)
  have hF := hF.2.2 v12 ev12 gv12
  refine j_iconst hJ dX3_addRow_129 ?_
  refine j_iadd hJ dX3_addRow_130 ?_
  have g13 := hF.1; have hF := hF.2
  refine j_iast hJ gx1 g13 kC_43 hF.1 hF.2.1 dX3_addRow_131 (fun M14 eM14 => ?_)
  have hF := hF.2.2 M14 eM14
  exact j_vret hJ rfl dX3_addRow_132 hF
set_option maxHeartbeats 4000000 in
set_option maxRecDepth 100000 in
theorem k_X3_addRow_b23 {l : Launch} {D : va_G} {cy : Nat → ClassId} {ad : Nat → Nat} {Q : Int → MM → Prop} {J : Nat → List (Nat × Value) → List Value → MM → Prop} (hin : jIn ad ksC.length)   (hJ : jOk l D vwCl (tyC cy) cy ad ftC ksC (XtC ad) Om RX3 cX3_addRow 9 0 ({ frames := 0, cells := 0, slots := 0, locals := 0 } : Room) Q J)  : ∀ (x1 x2 x3 x5 x7 x8 : Int) (M : MM), ri_ x1 → ri_ x2 → rl_ x3 → rl_ x5 → ri_ x7 → ri_ x8 → w_X3_addRow_b23  Q  x1 x2 x3 x5 x7 x8 M → J 23 [(0, .ref (ad 36)), (1, .int (Ii x1)), (2, .int (Ii x2)), (3, .long (Ll x3)), (5, .long (Ll x5)), (7, .int (Ii x7)), (8, .int (Ii x8))] [] M := by
  have H9 : ∀ (n : Nat) (x1 x2 x3 x5 x7 x8 : Int) (M : MM), ri_ x1 → ri_ x2 → rl_ x3 → rl_ x5 → ri_ x7 → ri_ x8 → jit (fun _ _ _ _ _ _ _ => False) (wb_X3_addRow_b23  Q ) n x1 x2 x3 x5 x7 x8 M → J 23 [(0, .ref (ad 36)), (1, .int (Ii x1)), (2, .int (Ii x2)), (3, .long (Ll x3)), (5, .long (Ll x5)), (7, .int (Ii x7)), (8, .int (Ii x8))] [] M := by
    intro n
    induction n with
    | zero => intro x1 x2 x3 x5 x7 x8 M gx1 gx2 gx3 gx5 gx7 gx8 hF; exact False.elim hF
    | succ n ih =>
    intro x1 x2 x3 x5 x7 x8 M gx1 gx2 gx3 gx5 gx7 gx8 hF
    have hF : wb_X3_addRow_b23  Q  (jit (fun _ _ _ _ _ _ _ => False) (wb_X3_addRow_b23  Q ) n) x1 x2 x3 x5 x7 x8 M := hF
    unfold wb_X3_addRow_b23 at hF
    refine j_iload hJ dX3_addRow_23 6 rfl ?_
    refine j_iload hJ dX3_addRow_25 5 rfl ?_
    refine j_bipush hJ dX3_addRow_27 (by decide) ?_
    refine j_iadd hJ dX3_addRow_29 ?_
    have g1 := hF.1; have hF := hF.2
    refine j_icmp_ge hJ 55 gx8 g1 dX3_addRow_30 (by decide) (fun z2 => ?_) (fun z2 => ?_)
    · have hF := hF.1 z2
      refine j_aload_n hJ dX3_addRow_55 rfl 0 rfl ?_
      refine j_gr (e := 43) hJ kC_36 fC_6_11 fl_X3_35 dX3_addRow_56 rfl ?_
      refine j_iload_n hJ dX3_addRow_59 rfl 1 rfl ?_
      refine j_dup2_11 hJ dX3_addRow_60 rfl rfl ?_
      refine j_iald hJ gx1 kC_43 hF.1 hF.2.1 dX3_addRow_61 (fun v3 ev3 gv3 => ?_)
      have hF := hF.2.2 v3 ev3 gv3
      refine j_iconst hJ dX3_addRow_62 ?_
      refine j_isub hJ dX3_addRow_63 ?_
      have g4 := hF.1; have hF := hF.2
      refine j_iast hJ gx1 g4 kC_43 hF.1 hF.2.1 dX3_addRow_64 (fun M5 eM5 => ?_)
      have hF := hF.2.2 M5 eM5
      exact j_sub hJ [0, 1, 2, 3, 4, 5] rfl (k_X3_addRow_b65 hin  hJ  x1 x2 x3 x5 x7 _ gx1 gx2 gx3 gx5 gx7 hF)
    · have hF := hF.2 z2
      refine j_aload_n hJ dX3_addRow_33 rfl 0 rfl ?_
      refine j_gr (e := 44) hJ kC_36 fC_6_12 fl_X3_38 dX3_addRow_34 rfl ?_
      refine j_iload hJ dX3_addRow_37 6 rfl ?_
      refine j_aload_n hJ dX3_addRow_39 rfl 0 rfl ?_
      refine j_gr (e := 44) hJ kC_36 fC_6_12 fl_X3_38 dX3_addRow_40 rfl ?_
      refine j_iload hJ dX3_addRow_43 6 rfl ?_
      refine j_iconst hJ dX3_addRow_45 ?_
      refine j_iadd hJ dX3_addRow_46 ?_
      have g6 := hF.1; have hF := hF.2
      refine j_lald hJ g6 kC_44 hF.1 hF.2.1 dX3_addRow_47 (fun v7 ev7 gv7 => ?_)
      have hF := hF.2.2 v7 ev7 gv7
      refine j_last hJ gx8 gv7 kC_44 hF.1 hF.2.1 dX3_addRow_48 (fun M8 eM8 => ?_)
      have hF := hF.2.2 M8 eM8
      refine j_iinc (lv' := [(8, .int (Ii (x8 + 1))), (0, .ref (ad 36)), (1, .int (Ii x1)), (2, .int (Ii x2)), (3, .long (Ll x3)), (5, .long (Ll x5)), (7, .int (Ii x7))]) (k := 6) hJ dX3_addRow_49 rfl (by decide) rfl ?_
      have g9 := hF.1; have hF := hF.2
      refine j_goto hJ 23 dX3_addRow_52 (by decide) ?_
      exact j_sub hJ [1, 2, 3, 4, 5, 6, 0] rfl (ih x1 x2 x3 x5 x7 (x8 + 1) _ gx1 gx2 gx3 gx5 gx7 g9 hF)
  intro x1 x2 x3 x5 x7 x8 M gx1 gx2 gx3 gx5 gx7 gx8 hF
  obtain ⟨n, hF⟩ := hF
  exact H9 n x1 x2 x3 x5 x7 x8 M gx1 gx2 gx3 gx5 gx7 gx8 hF
set_option maxHeartbeats 4000000 in
set_option maxRecDepth 100000 in
theorem c_X3_addRow {l : Launch} {D : va_G} {cy : Nat → ClassId} {ad : Nat → Nat} (hin : jIn ad ksC.length) : jCN l D vwCl (tyC cy) cy ad ftC ksC (XtC ad) yX3_addRow (.code yX3_addRow cX3_addRow 9 none :: Om) ({ frames := 0, cells := 0, slots := 0, locals := 0 } : Room) 0 (W_X3_addRow ad) := by
  refine jCN_of (y := yX3_addRow) (cc := cX3_addRow) (nL := 9) (rk := 0) (rm := ({ frames := 0, cells := 0, slots := 0, locals := 0 } : Room)) (own := RX3) (tyC_ok cy) hin (XtC_ok ad) Om_good (by decide) rfl ?_
  intro Q av M hF
  obtain ⟨p1, p2, p3, p4, rfl, gp1, gp2, gp3, gp4, hF⟩ := hF
  refine ⟨Nat.le_of_ble_eq_true rfl, fun J hJ => ?_⟩
  show J 0 [(0, .ref (ad 36)), (1, .int (Ii p1)), (2, .int (Ii p2)), (3, .long (Ll p3)), (5, .long (Ll p4))] [] M
  unfold w_X3_addRow at hF
  refine j_iload_n hJ dX3_addRow_0 rfl 1 rfl ?_
  refine j_bipush hJ dX3_addRow_1 (by decide) ?_
  refine j_imul hJ dX3_addRow_3 ?_
  have g1 := hF.1; have hF := hF.2
  refine j_iconst hJ dX3_addRow_4 ?_
  refine j_imul hJ dX3_addRow_5 ?_
  have g2 := hF.1; have hF := hF.2
  refine j_istore (lv' := [(7, .int (Ii ((p1 * 6) * 4))), (0, .ref (ad 36)), (1, .int (Ii p1)), (2, .int (Ii p2)), (3, .long (Ll p3)), (5, .long (Ll p4))]) hJ dX3_addRow_6 (by decide) rfl ?_
  refine j_aload_n hJ dX3_addRow_8 rfl 1 rfl ?_
  refine j_gr (e := 43) hJ kC_36 fC_6_11 fl_X3_35 dX3_addRow_9 rfl ?_
  refine j_iload_n hJ dX3_addRow_12 rfl 2 rfl ?_
  refine j_iald hJ gp1 kC_43 hF.1 hF.2.1 dX3_addRow_13 (fun v3 ev3 gv3 => ?_)
  have hF := hF.2.2 v3 ev3 gv3
  refine j_bipush hJ dX3_addRow_14 (by decide) ?_
  refine j_icmp_ne hJ 65 gv3 rk_6 dX3_addRow_16 (by decide) (fun z4 => ?_) (fun z4 => ?_)
  · have hF := hF.1 z4
    exact j_sub hJ [1, 2, 3, 4, 5, 0] rfl (k_X3_addRow_b65 hin  hJ  p1 p2 p3 p4 ((p1 * 6) * 4) _ gp1 gp2 gp3 gp4 g2 hF)
  · have hF := hF.2 z4
    refine j_iload hJ dX3_addRow_19 0 rfl ?_
    refine j_istore (lv' := [(8, .int (Ii ((p1 * 6) * 4))), (7, .int (Ii ((p1 * 6) * 4))), (0, .ref (ad 36)), (1, .int (Ii p1)), (2, .int (Ii p2)), (3, .long (Ll p3)), (5, .long (Ll p4))]) hJ dX3_addRow_21 (by decide) rfl ?_
    exact j_sub hJ [2, 3, 4, 5, 6, 1, 0] rfl (k_X3_addRow_b23 hin  hJ  p1 p2 p3 p4 ((p1 * 6) * 4) ((p1 * 6) * 4) _ gp1 gp2 gp3 gp4 g2 g2 hF)
def W_X3_writeSlot (ad : Nat → Nat) (Q : Int → MM → Prop) (av : List Value) (M : MM) : Prop := ∃ (p2 : Int) (p3 : Int) (p4 : Int), av = [.ref (ad 36), .ref (ad 26), .int (Ii p2), .int (Ii p3), .long (Ll p4)] ∧ ri_ p2 ∧ ri_ p3 ∧ rl_ p4 ∧ w_X3_writeSlot  Q p2 p3 p4 M
set_option maxHeartbeats 4000000 in
set_option maxRecDepth 100000 in
theorem k_X3_writeSlot_b166 {l : Launch} {D : va_G} {cy : Nat → ClassId} {ad : Nat → Nat} {Q : Int → MM → Prop} {J : Nat → List (Nat × Value) → List Value → MM → Prop} (hin : jIn ad ksC.length)   (hJ : jOk l D vwCl (tyC cy) cy ad ftC ksC (XtC ad) Om RX3 cX3_writeSlot 12 1 ({ frames := 2, cells := 0, slots := 0, locals := 48 } : Room) Q J) {K39 : Int → Int → Int → Int → Int → MM → Prop} (hK39 : ∀ (x2 x3 x4 x7 x9 : Int) (M : MM), ri_ x2 → ri_ x3 → rl_ x4 → rl_ x7 → ri_ x9 → K39 x2 x3 x4 x7 x9 M → J 39 [(0, .ref (ad 36)), (1, .ref (ad 26)), (2, .int (Ii x2)), (3, .int (Ii x3)), (4, .long (Ll x4)), (7, .long (Ll x7)), (9, .int (Ii x9))] [] M) : ∀ (x2 x3 x4 x7 x9 : Int) (M : MM), ri_ x2 → ri_ x3 → rl_ x4 → rl_ x7 → ri_ x9 → w_X3_writeSlot_b166  Q K39 x2 x3 x4 x7 x9 M → J 166 [(0, .ref (ad 36)), (1, .ref (ad 26)), (2, .int (Ii x2)), (3, .int (Ii x3)), (4, .long (Ll x4)), (7, .long (Ll x7)), (9, .int (Ii x9))] [] M := by
  intro x2 x3 x4 x7 x9 M gx2 gx3 gx4 gx7 gx9 hF
  unfold w_X3_writeSlot_b166 at hF
  refine j_iinc (lv' := [(9, .int (Ii (x9 + 1))), (0, .ref (ad 36)), (1, .ref (ad 26)), (2, .int (Ii x2)), (3, .int (Ii x3)), (4, .long (Ll x4)), (7, .long (Ll x7))]) (k := 6) hJ dX3_writeSlot_166 rfl (by decide) rfl ?_
  have g1 := hF.1; have hF := hF.2
  refine j_goto hJ 39 dX3_writeSlot_169 (by decide) ?_
  exact j_sub hJ [1, 2, 3, 4, 5, 6, 0] rfl (hK39 x2 x3 x4 x7 (x9 + 1) _ gx2 gx3 gx4 gx7 g1 hF)
set_option maxHeartbeats 4000000 in
set_option maxRecDepth 100000 in
theorem k_X3_writeSlot_b135 {l : Launch} {D : va_G} {cy : Nat → ClassId} {ad : Nat → Nat} {Q : Int → MM → Prop} {J : Nat → List (Nat × Value) → List Value → MM → Prop} (hin : jIn ad ksC.length)   (hJ : jOk l D vwCl (tyC cy) cy ad ftC ksC (XtC ad) Om RX3 cX3_writeSlot 12 1 ({ frames := 2, cells := 0, slots := 0, locals := 48 } : Room) Q J) {K39 : Int → Int → Int → Int → Int → MM → Prop} (hK39 : ∀ (x2 x3 x4 x7 x9 : Int) (M : MM), ri_ x2 → ri_ x3 → rl_ x4 → rl_ x7 → ri_ x9 → K39 x2 x3 x4 x7 x9 M → J 39 [(0, .ref (ad 36)), (1, .ref (ad 26)), (2, .int (Ii x2)), (3, .int (Ii x3)), (4, .long (Ll x4)), (7, .long (Ll x7)), (9, .int (Ii x9))] [] M) : ∀ (x2 x3 x4 x7 x9 s0 : Int) (M : MM), ri_ x2 → ri_ x3 → rl_ x4 → rl_ x7 → ri_ x9 → ri_ s0 → w_X3_writeSlot_b135  Q K39 x2 x3 x4 x7 x9 s0 M → J 135 [(0, .ref (ad 36)), (1, .ref (ad 26)), (2, .int (Ii x2)), (3, .int (Ii x3)), (4, .long (Ll x4)), (7, .long (Ll x7)), (9, .int (Ii x9))] [.int (Ii s0)] M := by
  intro x2 x3 x4 x7 x9 s0 M gx2 gx3 gx4 gx7 gx9 gs0 hF
  unfold w_X3_writeSlot_b135 at hF
  refine j_istore (lv' := [(11, .int (Ii s0)), (0, .ref (ad 36)), (1, .ref (ad 26)), (2, .int (Ii x2)), (3, .int (Ii x3)), (4, .long (Ll x4)), (7, .long (Ll x7)), (9, .int (Ii x9))]) hJ dX3_writeSlot_135 (by decide) rfl ?_
  refine j_iload hJ dX3_writeSlot_137 0 rfl ?_
  refine j_if_eq hJ 166 gs0 dX3_writeSlot_139 (by decide) (fun z1 => ?_) (fun z1 => ?_)
  · have hF := hF.1 z1
    exact j_sub hJ [1, 2, 3, 4, 5, 6, 7] rfl (k_X3_writeSlot_b166 hin  hJ hK39 x2 x3 x4 x7 x9 _ gx2 gx3 gx4 gx7 gx9 hF)
  · have hF := hF.2 z1
    refine j_aload_n hJ dX3_writeSlot_142 rfl 1 rfl ?_
    refine j_iload hJ dX3_writeSlot_143 7 rfl ?_
    refine j_lload hJ dX3_writeSlot_145 6 rfl ?_
    refine j_lload hJ dX3_writeSlot_147 5 rfl ?_
    refine j_callVz hJ (c_X3_isCase (l := l) (D := D) (cy := cy) (ad := ad) hin) rfl om_264 ⟨rfl, rfl, Nat.le_of_ble_eq_true rfl, Nat.le_of_ble_eq_true rfl⟩ [.int (Ii x9), .long (Ll x7), .long (Ll x4)] mv_X3_77 hd_X3_isCasev kC_36 rfl rfl rfl (Nat.le_of_ble_eq_true rfl) dX3_writeSlot_149 ⟨x9, x7, x4, rfl, gx9, gx7, gx4, hF⟩ (fun r2 M3 gr2 qM3 => ?_)
    have hF := qM3 gr2
    refine j_if_eq hJ 166 (jz_ri gr2) dX3_writeSlot_152 (by decide) (fun z4 => ?_) (fun z4 => ?_)
    · have hF := hF.1 z4
      exact j_sub hJ [1, 2, 3, 4, 5, 6, 7] rfl (k_X3_writeSlot_b166 hin  hJ hK39 x2 x3 x4 x7 x9 _ gx2 gx3 gx4 gx7 gx9 hF)
    · have hF := hF.2 z4
      refine j_aload_n hJ dX3_writeSlot_155 rfl 1 rfl ?_
      refine j_iload hJ dX3_writeSlot_156 7 rfl ?_
      refine j_iload_n hJ dX3_writeSlot_158 rfl 3 rfl ?_
      refine j_lload hJ dX3_writeSlot_159 6 rfl ?_
      refine j_lload hJ dX3_writeSlot_161 5 rfl ?_
      refine j_callVv hJ (c_X3_addRow (l := l) (D := D) (cy := cy) (ad := ad) hin) rfl om_268 ⟨rfl, rfl, Nat.le_of_ble_eq_true rfl, Nat.le_of_ble_eq_true rfl⟩ [.int (Ii x9), .int (Ii x2), .long (Ll x7), .long (Ll x4)] mv_X3_81 hd_X3_addRowv kC_36 rfl rfl rfl (Nat.le_of_ble_eq_true rfl) dX3_writeSlot_163 ⟨x9, x2, x7, x4, rfl, gx9, gx2, gx7, gx4, hF⟩ (fun M6 qM6 => ?_)
      have hF := qM6
      exact j_sub hJ [1, 2, 3, 4, 5, 6, 7] rfl (k_X3_writeSlot_b166 hin  hJ hK39 x2 x3 x4 x7 x9 _ gx2 gx3 gx4 gx7 gx9 hF)
set_option maxHeartbeats 4000000 in
set_option maxRecDepth 100000 in
theorem k_X3_writeSlot_b134 {l : Launch} {D : va_G} {cy : Nat → ClassId} {ad : Nat → Nat} {Q : Int → MM → Prop} {J : Nat → List (Nat × Value) → List Value → MM → Prop} (hin : jIn ad ksC.length)   (hJ : jOk l D vwCl (tyC cy) cy ad ftC ksC (XtC ad) Om RX3 cX3_writeSlot 12 1 ({ frames := 2, cells := 0, slots := 0, locals := 48 } : Room) Q J) {K39 : Int → Int → Int → Int → Int → MM → Prop} (hK39 : ∀ (x2 x3 x4 x7 x9 : Int) (M : MM), ri_ x2 → ri_ x3 → rl_ x4 → rl_ x7 → ri_ x9 → K39 x2 x3 x4 x7 x9 M → J 39 [(0, .ref (ad 36)), (1, .ref (ad 26)), (2, .int (Ii x2)), (3, .int (Ii x3)), (4, .long (Ll x4)), (7, .long (Ll x7)), (9, .int (Ii x9))] [] M) : ∀ (x2 x3 x4 x7 x9 : Int) (M : MM), ri_ x2 → ri_ x3 → rl_ x4 → rl_ x7 → ri_ x9 → w_X3_writeSlot_b134  Q K39 x2 x3 x4 x7 x9 M → J 134 [(0, .ref (ad 36)), (1, .ref (ad 26)), (2, .int (Ii x2)), (3, .int (Ii x3)), (4, .long (Ll x4)), (7, .long (Ll x7)), (9, .int (Ii x9))] [] M := by
  intro x2 x3 x4 x7 x9 M gx2 gx3 gx4 gx7 gx9 hF
  unfold w_X3_writeSlot_b134 at hF
  refine j_iconst hJ dX3_writeSlot_134 ?_
  exact j_sub hJ [0, 1, 2, 3, 4, 5, 6] rfl (k_X3_writeSlot_b135 hin  hJ hK39 x2 x3 x4 x7 x9 0 _ gx2 gx3 gx4 gx7 gx9 rk_0 hF)
set_option maxHeartbeats 4000000 in
set_option maxRecDepth 100000 in
theorem k_X3_writeSlot_b39 {l : Launch} {D : va_G} {cy : Nat → ClassId} {ad : Nat → Nat} {Q : Int → MM → Prop} {J : Nat → List (Nat × Value) → List Value → MM → Prop} (hin : jIn ad ksC.length)   (hJ : jOk l D vwCl (tyC cy) cy ad ftC ksC (XtC ad) Om RX3 cX3_writeSlot 12 1 ({ frames := 2, cells := 0, slots := 0, locals := 48 } : Room) Q J)  : ∀ (x2 x3 x4 x7 x9 : Int) (M : MM), ri_ x2 → ri_ x3 → rl_ x4 → rl_ x7 → ri_ x9 → w_X3_writeSlot_b39  Q  x2 x3 x4 x7 x9 M → J 39 [(0, .ref (ad 36)), (1, .ref (ad 26)), (2, .int (Ii x2)), (3, .int (Ii x3)), (4, .long (Ll x4)), (7, .long (Ll x7)), (9, .int (Ii x9))] [] M := by
  have H9 : ∀ (n : Nat) (x2 x3 x4 x7 x9 : Int) (M : MM), ri_ x2 → ri_ x3 → rl_ x4 → rl_ x7 → ri_ x9 → jit (fun _ _ _ _ _ _ => False) (wb_X3_writeSlot_b39  Q ) n x2 x3 x4 x7 x9 M → J 39 [(0, .ref (ad 36)), (1, .ref (ad 26)), (2, .int (Ii x2)), (3, .int (Ii x3)), (4, .long (Ll x4)), (7, .long (Ll x7)), (9, .int (Ii x9))] [] M := by
    intro n
    induction n with
    | zero => intro x2 x3 x4 x7 x9 M gx2 gx3 gx4 gx7 gx9 hF; exact False.elim hF
    | succ n ih =>
    intro x2 x3 x4 x7 x9 M gx2 gx3 gx4 gx7 gx9 hF
    have hF : wb_X3_writeSlot_b39  Q  (jit (fun _ _ _ _ _ _ => False) (wb_X3_writeSlot_b39  Q ) n) x2 x3 x4 x7 x9 M := hF
    unfold wb_X3_writeSlot_b39 at hF
    refine j_iload hJ dX3_writeSlot_39 6 rfl ?_
    refine j_aload_n hJ dX3_writeSlot_41 rfl 0 rfl ?_
    refine j_gi hJ kC_36 fC_6_7 rfl fl_X3_53 dX3_writeSlot_42 (fun v1 ev1 gv1 => ?_)
    have hF := hF v1 ev1 gv1
    refine j_icmp_ge hJ 172 gx9 gv1 dX3_writeSlot_45 (by decide) (fun z2 => ?_) (fun z2 => ?_)
    · have hF := hF.1 z2
      refine j_aload_n hJ dX3_writeSlot_172 rfl 0 rfl ?_
      refine j_dup hJ dX3_writeSlot_173 rfl ?_
      refine j_gi hJ kC_36 fC_6_1 rfl fl_X3_85 dX3_writeSlot_174 (fun v3 ev3 gv3 => ?_)
      have hF := hF v3 ev3 gv3
      refine j_iconst hJ dX3_writeSlot_177 ?_
      refine j_iadd hJ dX3_writeSlot_178 ?_
      have g4 := hF.1; have hF := hF.2
      refine j_pi hJ g4 kC_36 fC_6_1 rfl fp_X3_85 dX3_writeSlot_179 (fun M5 eM5 => ?_)
      have hF := hF M5 eM5
      refine j_aload_n hJ dX3_writeSlot_182 rfl 0 rfl ?_
      refine j_gi hJ kC_36 fC_6_1 rfl fl_X3_85 dX3_writeSlot_183 (fun v6 ev6 gv6 => ?_)
      have hF := hF v6 ev6 gv6
      refine j_iconst hJ dX3_writeSlot_186 ?_
      refine j_isub hJ dX3_writeSlot_187 ?_
      have g7 := hF.1; have hF := hF.2
      exact j_iret hJ rfl g7 dX3_writeSlot_188 hF
    · have hF := hF.2 z2
      refine j_aload_n hJ dX3_writeSlot_48 rfl 0 rfl ?_
      refine j_gr (e := 40) hJ kC_36 fC_6_8 fl_X3_26 dX3_writeSlot_49 rfl ?_
      refine j_iload hJ dX3_writeSlot_52 6 rfl ?_
      refine j_iald hJ gx9 kC_40 hF.1 hF.2.1 dX3_writeSlot_54 (fun v8 ev8 gv8 => ?_)
      have hF := hF.2.2 v8 ev8 gv8
      refine j_bipush hJ dX3_writeSlot_55 (by decide) ?_
      refine j_imul hJ dX3_writeSlot_57 ?_
      have g9 := hF.1; have hF := hF.2
      refine j_aload_n hJ dX3_writeSlot_58 rfl 0 rfl ?_
      refine j_gr (e := 41) hJ kC_36 fC_6_9 fl_X3_29 dX3_writeSlot_59 rfl ?_
      refine j_iload hJ dX3_writeSlot_62 6 rfl ?_
      refine j_iald hJ gx9 kC_41 hF.1 hF.2.1 dX3_writeSlot_64 (fun v10 ev10 gv10 => ?_)
      have hF := hF.2.2 v10 ev10 gv10
      refine j_iadd hJ dX3_writeSlot_65 ?_
      have g11 := hF.1; have hF := hF.2
      refine j_istore (lv' := [(10, .int (Ii ((v8 * 6) + v10))), (0, .ref (ad 36)), (1, .ref (ad 26)), (2, .int (Ii x2)), (3, .int (Ii x3)), (4, .long (Ll x4)), (7, .long (Ll x7)), (9, .int (Ii x9))]) hJ dX3_writeSlot_66 (by decide) rfl ?_
      refine j_aload_n hJ dX3_writeSlot_68 rfl 1 rfl ?_
      refine j_ga hJ kC_36 fC_6_0 fl_X3_9 dX3_writeSlot_69 ?_
      refine j_gr (e := 21) hJ kC_8 fC_13_13 fl_X3_59 dX3_writeSlot_72 rfl ?_
      refine j_iload hJ dX3_writeSlot_75 0 rfl ?_
      refine j_zald hJ g11 kC_21 hF.1 hF.2.1 dX3_writeSlot_77 (fun v12 ev12 gv12 => ?_)
      have hF := hF.2.2 v12 ev12 gv12
      refine j_if_ne hJ 134 (jz_ri gv12) dX3_writeSlot_78 (by decide) (fun z13 => ?_) (fun z13 => ?_)
      · have hF := hF.1 z13
        exact j_sub hJ [1, 2, 3, 4, 5, 6, 7] rfl (k_X3_writeSlot_b134 hin  hJ ih x2 x3 x4 x7 x9 _ gx2 gx3 gx4 gx7 gx9 hF)
      · have hF := hF.2 z13
        refine j_aload_n hJ dX3_writeSlot_81 rfl 1 rfl ?_
        refine j_ga hJ kC_36 fC_6_0 fl_X3_9 dX3_writeSlot_82 ?_
        refine j_gr (e := 22) hJ kC_8 fC_13_14 fl_X3_63 dX3_writeSlot_85 rfl ?_
        refine j_iload hJ dX3_writeSlot_88 0 rfl ?_
        refine j_iald hJ g11 kC_22 hF.1 hF.2.1 dX3_writeSlot_90 (fun v14 ev14 gv14 => ?_)
        have hF := hF.2.2 v14 ev14 gv14
        refine j_iload_n hJ dX3_writeSlot_91 rfl 4 rfl ?_
        refine j_icmp_ne hJ 134 gv14 gx3 dX3_writeSlot_92 (by decide) (fun z15 => ?_) (fun z15 => ?_)
        · have hF := hF.1 z15
          exact j_sub hJ [1, 2, 3, 4, 5, 6, 7] rfl (k_X3_writeSlot_b134 hin  hJ ih x2 x3 x4 x7 x9 _ gx2 gx3 gx4 gx7 gx9 hF)
        · have hF := hF.2 z15
          refine j_aload_n hJ dX3_writeSlot_95 rfl 2 rfl ?_
          refine j_gr (e := 27) hJ kC_26 fC_5_4 fl_X3_66 dX3_writeSlot_96 rfl ?_
          refine j_iload_n hJ dX3_writeSlot_99 rfl 3 rfl ?_
          refine j_iald hJ gx2 kC_27 hF.1 hF.2.1 dX3_writeSlot_100 (fun v16 ev16 gv16 => ?_)
          have hF := hF.2.2 v16 ev16 gv16
          refine j_callSz hJ (c_X10_isArray (l := l) (D := D) (cy := cy) (ad := ad) hin) rfl om_39 ⟨rfl, rfl, Nat.le_of_ble_eq_true rfl, Nat.le_of_ble_eq_true rfl⟩ [.int (Ii v16)] mv_X3_69 hd_X10_isArray rfl (Nat.le_of_ble_eq_true rfl) dX3_writeSlot_101 ⟨v16, rfl, gv16, hF⟩ (fun r17 M18 gr17 qM18 => ?_)
          have hF := qM18 gr17
          refine j_if_ne hJ 134 (jz_ri gr17) dX3_writeSlot_104 (by decide) (fun z19 => ?_) (fun z19 => ?_)
          · have hF := hF.1 z19
            exact j_sub hJ [1, 2, 3, 4, 5, 6, 7] rfl (k_X3_writeSlot_b134 hin  hJ ih x2 x3 x4 x7 x9 _ gx2 gx3 gx4 gx7 gx9 hF)
          · have hF := hF.2 z19
            refine j_aload_n hJ dX3_writeSlot_107 rfl 1 rfl ?_
            refine j_ga hJ kC_36 fC_6_0 fl_X3_9 dX3_writeSlot_108 ?_
            refine j_aload_n hJ dX3_writeSlot_111 rfl 2 rfl ?_
            refine j_gr (e := 27) hJ kC_26 fC_5_4 fl_X3_66 dX3_writeSlot_112 rfl ?_
            refine j_iload_n hJ dX3_writeSlot_115 rfl 3 rfl ?_
            refine j_iald hJ gx2 kC_27 hF.1 hF.2.1 dX3_writeSlot_116 (fun v20 ev20 gv20 => ?_)
            have hF := hF.2.2 v20 ev20 gv20
            refine j_aload_n hJ dX3_writeSlot_117 rfl 1 rfl ?_
            refine j_gr (e := 40) hJ kC_36 fC_6_8 fl_X3_26 dX3_writeSlot_118 rfl ?_
            refine j_iload hJ dX3_writeSlot_121 7 rfl ?_
            refine j_iald hJ gx9 kC_40 hF.1 hF.2.1 dX3_writeSlot_123 (fun v21 ev21 gv21 => ?_)
            have hF := hF.2.2 v21 ev21 gv21
            refine j_callVz hJ (c_X10_isHeir (l := l) (D := D) (cy := cy) (ad := ad) hin) rfl om_84 ⟨rfl, rfl, Nat.le_of_ble_eq_true rfl, Nat.le_of_ble_eq_true rfl⟩ [.int (Ii v20), .int (Ii v21)] mv_X3_73 hd_X10_isHeirv kC_8 rfl rfl rfl (Nat.le_of_ble_eq_true rfl) dX3_writeSlot_124 ⟨v20, v21, rfl, gv20, gv21, hF⟩ (fun r22 M23 gr22 qM23 => ?_)
            have hF := qM23 gr22
            refine j_if_eq hJ 134 (jz_ri gr22) dX3_writeSlot_127 (by decide) (fun z24 => ?_) (fun z24 => ?_)
            · have hF := hF.1 z24
              exact j_sub hJ [1, 2, 3, 4, 5, 6, 7] rfl (k_X3_writeSlot_b134 hin  hJ ih x2 x3 x4 x7 x9 _ gx2 gx3 gx4 gx7 gx9 hF)
            · have hF := hF.2 z24
              refine j_iconst hJ dX3_writeSlot_130 ?_
              refine j_goto hJ 135 dX3_writeSlot_131 (by decide) ?_
              exact j_sub hJ [1, 2, 3, 4, 5, 6, 7] rfl (k_X3_writeSlot_b135 hin  hJ ih x2 x3 x4 x7 x9 1 _ gx2 gx3 gx4 gx7 gx9 rk_1 hF)
  intro x2 x3 x4 x7 x9 M gx2 gx3 gx4 gx7 gx9 hF
  obtain ⟨n, hF⟩ := hF
  exact H9 n x2 x3 x4 x7 x9 M gx2 gx3 gx4 gx7 gx9 hF
set_option maxHeartbeats 4000000 in
set_option maxRecDepth 100000 in
theorem c_X3_writeSlot {l : Launch} {D : va_G} {cy : Nat → ClassId} {ad : Nat → Nat} (hin : jIn ad ksC.length) : jCN l D vwCl (tyC cy) cy ad ftC ksC (XtC ad) yX3_writeSlot (.code yX3_writeSlot cX3_writeSlot 12 (some .int) :: Om) ({ frames := 2, cells := 0, slots := 0, locals := 48 } : Room) 1 (W_X3_writeSlot ad) := by
  refine jCN_of (y := yX3_writeSlot) (cc := cX3_writeSlot) (nL := 12) (rk := 1) (rm := ({ frames := 2, cells := 0, slots := 0, locals := 48 } : Room)) (own := RX3) (tyC_ok cy) hin (XtC_ok ad) Om_good (by decide) rfl ?_
  intro Q av M hF
  obtain ⟨p2, p3, p4, rfl, gp2, gp3, gp4, hF⟩ := hF
  refine ⟨Nat.le_of_ble_eq_true rfl, fun J hJ => ?_⟩
  show J 0 [(0, .ref (ad 36)), (1, .ref (ad 26)), (2, .int (Ii p2)), (3, .int (Ii p3)), (4, .long (Ll p4))] [] M
  unfold w_X3_writeSlot at hF
  refine j_aload_n hJ dX3_writeSlot_0 rfl 1 rfl ?_
  refine j_gr (e := 29) hJ kC_26 fC_5_6 fl_X3_41 dX3_writeSlot_1 rfl ?_
  refine j_iload_n hJ dX3_writeSlot_4 rfl 2 rfl ?_
  refine j_iald hJ gp2 kC_29 hF.1 hF.2.1 dX3_writeSlot_5 (fun v1 ev1 gv1 => ?_)
  have hF := hF.2.2 v1 ev1 gv1
  refine j_iload_n hJ dX3_writeSlot_6 rfl 3 rfl ?_
  refine j_iadd hJ dX3_writeSlot_7 ?_
  have g2 := hF.1; have hF := hF.2
  refine j_istore (lv' := [(6, .int (Ii (v1 + p3))), (0, .ref (ad 36)), (1, .ref (ad 26)), (2, .int (Ii p2)), (3, .int (Ii p3)), (4, .long (Ll p4))]) hJ dX3_writeSlot_8 (by decide) rfl ?_
  refine j_aload_n hJ dX3_writeSlot_10 rfl 2 rfl ?_
  refine j_gr (e := 30) hJ kC_26 fC_5_7 fl_X3_46 dX3_writeSlot_11 rfl ?_
  refine j_iload hJ dX3_writeSlot_14 0 rfl ?_
  refine j_lald hJ g2 kC_30 hF.1 hF.2.1 dX3_writeSlot_16 (fun v3 ev3 gv3 => ?_)
  have hF := hF.2.2 v3 ev3 gv3
  refine j_lstore (lv' := [(7, .long (Ll v3)), (6, .int (Ii (v1 + p3))), (0, .ref (ad 36)), (1, .ref (ad 26)), (2, .int (Ii p2)), (3, .int (Ii p3)), (4, .long (Ll p4))]) hJ dX3_writeSlot_17 (by decide) rfl ?_
  refine j_aload_n hJ dX3_writeSlot_19 rfl 3 rfl ?_
  refine j_gr (e := 30) hJ kC_26 fC_5_7 fl_X3_46 dX3_writeSlot_20 rfl ?_
  refine j_iload hJ dX3_writeSlot_23 1 rfl ?_
  refine j_lload hJ dX3_writeSlot_25 6 rfl ?_
  refine j_last hJ g2 gp4 kC_30 hF.1 hF.2.1 dX3_writeSlot_27 (fun M4 eM4 => ?_)
  have hF := hF.2.2 M4 eM4
  refine j_aload_n hJ dX3_writeSlot_28 rfl 2 rfl ?_
  refine j_iload hJ dX3_writeSlot_29 1 rfl ?_
  refine j_lload hJ dX3_writeSlot_31 0 rfl ?_
  refine j_callVv hJ (c_X3_remember (l := l) (D := D) (cy := cy) (ad := ad) hin) rfl om_257 ⟨rfl, rfl, Nat.le_of_ble_eq_true rfl, Nat.le_of_ble_eq_true rfl⟩ [.int (Ii (v1 + p3)), .long (Ll v3)] mv_X3_49 hd_X3_rememberv kC_36 rfl rfl rfl (Nat.le_of_ble_eq_true rfl) dX3_writeSlot_33 ⟨(v1 + p3), v3, rfl, g2, gv3, hF⟩ (fun M6 qM6 => ?_)
  have hF := qM6
  refine j_iconst hJ dX3_writeSlot_36 ?_
  refine j_istore (lv' := [(9, .int (Ii 0)), (7, .long (Ll v3)), (6, .int (Ii (v1 + p3))), (0, .ref (ad 36)), (1, .ref (ad 26)), (2, .int (Ii p2)), (3, .int (Ii p3)), (4, .long (Ll p4))]) hJ dX3_writeSlot_37 (by decide) rfl ?_
  exact j_sub hJ [3, 4, 5, 6, 7, 1, 0] rfl (k_X3_writeSlot_b39 hin  hJ  p2 p3 p4 v3 0 _ gp2 gp3 gp4 gv3 rk_0 hF)
def W_X3_writeStatic (ad : Nat → Nat) (Q : Int → MM → Prop) (av : List Value) (M : MM) : Prop := ∃ (p2 : Int) (p3 : Int), av = [.ref (ad 36), .ref (ad 26), .int (Ii p2), .long (Ll p3)] ∧ ri_ p2 ∧ rl_ p3 ∧ w_X3_writeStatic  Q p2 p3 M
set_option maxHeartbeats 4000000 in
set_option maxRecDepth 100000 in
theorem k_X3_writeStatic_b80 {l : Launch} {D : va_G} {cy : Nat → ClassId} {ad : Nat → Nat} {Q : Int → MM → Prop} {J : Nat → List (Nat × Value) → List Value → MM → Prop} (hin : jIn ad ksC.length)   (hJ : jOk l D vwCl (tyC cy) cy ad ftC ksC (XtC ad) Om RX3 cX3_writeStatic 8 1 ({ frames := 2, cells := 0, slots := 0, locals := 48 } : Room) Q J) {K27 : Int → Int → Int → Int → MM → Prop} (hK27 : ∀ (x2 x3 x5 x7 : Int) (M : MM), ri_ x2 → rl_ x3 → rl_ x5 → ri_ x7 → K27 x2 x3 x5 x7 M → J 27 [(0, .ref (ad 36)), (2, .int (Ii x2)), (3, .long (Ll x3)), (5, .long (Ll x5)), (7, .int (Ii x7))] [] M) : ∀ (x2 x3 x5 x7 : Int) (M : MM), ri_ x2 → rl_ x3 → rl_ x5 → ri_ x7 → w_X3_writeStatic_b80  Q K27 x2 x3 x5 x7 M → J 80 [(0, .ref (ad 36)), (2, .int (Ii x2)), (3, .long (Ll x3)), (5, .long (Ll x5)), (7, .int (Ii x7))] [] M := by
  intro x2 x3 x5 x7 M gx2 gx3 gx5 gx7 hF
  unfold w_X3_writeStatic_b80 at hF
  refine j_iinc (lv' := [(7, .int (Ii (x7 + 1))), (0, .ref (ad 36)), (2, .int (Ii x2)), (3, .long (Ll x3)), (5, .long (Ll x5))]) (k := 4) hJ dX3_writeStatic_80 rfl (by decide) rfl ?_
  have g1 := hF.1; have hF := hF.2
  refine j_goto hJ 27 dX3_writeStatic_83 (by decide) ?_
  exact j_sub hJ [1, 2, 3, 4, 0] rfl (hK27 x2 x3 x5 (x7 + 1) _ gx2 gx3 gx5 g1 hF)
set_option maxHeartbeats 4000000 in
set_option maxRecDepth 100000 in
theorem k_X3_writeStatic_b27 {l : Launch} {D : va_G} {cy : Nat → ClassId} {ad : Nat → Nat} {Q : Int → MM → Prop} {J : Nat → List (Nat × Value) → List Value → MM → Prop} (hin : jIn ad ksC.length)   (hJ : jOk l D vwCl (tyC cy) cy ad ftC ksC (XtC ad) Om RX3 cX3_writeStatic 8 1 ({ frames := 2, cells := 0, slots := 0, locals := 48 } : Room) Q J)  : ∀ (x2 x3 x5 x7 : Int) (M : MM), ri_ x2 → rl_ x3 → rl_ x5 → ri_ x7 → w_X3_writeStatic_b27  Q  x2 x3 x5 x7 M → J 27 [(0, .ref (ad 36)), (2, .int (Ii x2)), (3, .long (Ll x3)), (5, .long (Ll x5)), (7, .int (Ii x7))] [] M := by
  have H9 : ∀ (n : Nat) (x2 x3 x5 x7 : Int) (M : MM), ri_ x2 → rl_ x3 → rl_ x5 → ri_ x7 → jit (fun _ _ _ _ _ => False) (wb_X3_writeStatic_b27  Q ) n x2 x3 x5 x7 M → J 27 [(0, .ref (ad 36)), (2, .int (Ii x2)), (3, .long (Ll x3)), (5, .long (Ll x5)), (7, .int (Ii x7))] [] M := by
    intro n
    induction n with
    | zero => intro x2 x3 x5 x7 M gx2 gx3 gx5 gx7 hF; exact False.elim hF
    | succ n ih =>
    intro x2 x3 x5 x7 M gx2 gx3 gx5 gx7 hF
    have hF : wb_X3_writeStatic_b27  Q  (jit (fun _ _ _ _ _ => False) (wb_X3_writeStatic_b27  Q ) n) x2 x3 x5 x7 M := hF
    unfold wb_X3_writeStatic_b27 at hF
    refine j_iload hJ dX3_writeStatic_27 4 rfl ?_
    refine j_aload_n hJ dX3_writeStatic_29 rfl 0 rfl ?_
    refine j_gi hJ kC_36 fC_6_7 rfl fl_X3_53 dX3_writeStatic_30 (fun v1 ev1 gv1 => ?_)
    have hF := hF v1 ev1 gv1
    refine j_icmp_ge hJ 86 gx7 gv1 dX3_writeStatic_33 (by decide) (fun z2 => ?_) (fun z2 => ?_)
    · have hF := hF.1 z2
      refine j_aload_n hJ dX3_writeStatic_86 rfl 0 rfl ?_
      refine j_dup hJ dX3_writeStatic_87 rfl ?_
      refine j_gi hJ kC_36 fC_6_1 rfl fl_X3_85 dX3_writeStatic_88 (fun v3 ev3 gv3 => ?_)
      have hF := hF v3 ev3 gv3
      refine j_iconst hJ dX3_writeStatic_91 ?_
      refine j_iadd hJ dX3_writeStatic_92 ?_
      have g4 := hF.1; have hF := hF.2
      refine j_pi hJ g4 kC_36 fC_6_1 rfl fp_X3_85 dX3_writeStatic_93 (fun M5 eM5 => ?_)
      have hF := hF M5 eM5
      refine j_aload_n hJ dX3_writeStatic_96 rfl 0 rfl ?_
      refine j_gi hJ kC_36 fC_6_1 rfl fl_X3_85 dX3_writeStatic_97 (fun v6 ev6 gv6 => ?_)
      have hF := hF v6 ev6 gv6
      refine j_iconst hJ dX3_writeStatic_100 ?_
      refine j_isub hJ dX3_writeStatic_101 ?_
      have g7 := hF.1; have hF := hF.2
      exact j_iret hJ rfl g7 dX3_writeStatic_102 hF
    · have hF := hF.2 z2
      refine j_aload_n hJ dX3_writeStatic_36 rfl 0 rfl ?_
      refine j_gr (e := 40) hJ kC_36 fC_6_8 fl_X3_26 dX3_writeStatic_37 rfl ?_
      refine j_iload hJ dX3_writeStatic_40 4 rfl ?_
      refine j_iald hJ gx7 kC_40 hF.1 hF.2.1 dX3_writeStatic_42 (fun v8 ev8 gv8 => ?_)
      have hF := hF.2.2 v8 ev8 gv8
      refine j_bipush hJ dX3_writeStatic_43 (by decide) ?_
      refine j_imul hJ dX3_writeStatic_45 ?_
      have g9 := hF.1; have hF := hF.2
      refine j_aload_n hJ dX3_writeStatic_46 rfl 0 rfl ?_
      refine j_gr (e := 41) hJ kC_36 fC_6_9 fl_X3_29 dX3_writeStatic_47 rfl ?_
      refine j_iload hJ dX3_writeStatic_50 4 rfl ?_
      refine j_iald hJ gx7 kC_41 hF.1 hF.2.1 dX3_writeStatic_52 (fun v10 ev10 gv10 => ?_)
      have hF := hF.2.2 v10 ev10 gv10
      refine j_iadd hJ dX3_writeStatic_53 ?_
      have g11 := hF.1; have hF := hF.2
      refine j_iload_n hJ dX3_writeStatic_54 rfl 1 rfl ?_
      refine j_icmp_ne hJ 80 g11 gx2 dX3_writeStatic_55 (by decide) (fun z12 => ?_) (fun z12 => ?_)
      · have hF := hF.1 z12
        exact j_sub hJ [0, 1, 2, 3, 4] rfl (k_X3_writeStatic_b80 hin  hJ ih x2 x3 x5 x7 _ gx2 gx3 gx5 gx7 hF)
      · have hF := hF.2 z12
        refine j_aload_n hJ dX3_writeStatic_58 rfl 0 rfl ?_
        refine j_iload hJ dX3_writeStatic_59 4 rfl ?_
        refine j_lload hJ dX3_writeStatic_61 3 rfl ?_
        refine j_lload_n hJ dX3_writeStatic_63 rfl 2 rfl ?_
        refine j_callVz hJ (c_X3_isCase (l := l) (D := D) (cy := cy) (ad := ad) hin) rfl om_264 ⟨rfl, rfl, Nat.le_of_ble_eq_true rfl, Nat.le_of_ble_eq_true rfl⟩ [.int (Ii x7), .long (Ll x5), .long (Ll x3)] mv_X3_77 hd_X3_isCasev kC_36 rfl rfl rfl (Nat.le_of_ble_eq_true rfl) dX3_writeStatic_64 ⟨x7, x5, x3, rfl, gx7, gx5, gx3, hF⟩ (fun r13 M14 gr13 qM14 => ?_)
        have hF := qM14 gr13
        refine j_if_eq hJ 80 (jz_ri gr13) dX3_writeStatic_67 (by decide) (fun z15 => ?_) (fun z15 => ?_)
        · have hF := hF.1 z15
          exact j_sub hJ [0, 1, 2, 3, 4] rfl (k_X3_writeStatic_b80 hin  hJ ih x2 x3 x5 x7 _ gx2 gx3 gx5 gx7 hF)
        · have hF := hF.2 z15
          refine j_aload_n hJ dX3_writeStatic_70 rfl 0 rfl ?_
          refine j_iload hJ dX3_writeStatic_71 4 rfl ?_
          refine j_iconst hJ dX3_writeStatic_73 ?_
          refine j_lload hJ dX3_writeStatic_74 3 rfl ?_
          refine j_lload_n hJ dX3_writeStatic_76 rfl 2 rfl ?_
          refine j_callVv hJ (c_X3_addRow (l := l) (D := D) (cy := cy) (ad := ad) hin) rfl om_268 ⟨rfl, rfl, Nat.le_of_ble_eq_true rfl, Nat.le_of_ble_eq_true rfl⟩ [.int (Ii x7), .int (Ii (-1)), .long (Ll x5), .long (Ll x3)] mv_X3_81 hd_X3_addRowv kC_36 rfl rfl rfl (Nat.le_of_ble_eq_true rfl) dX3_writeStatic_77 ⟨x7, (-1), x5, x3, rfl, gx7, rk_m1, gx5, gx3, hF⟩ (fun M17 qM17 => ?_)
          have hF := qM17
          exact j_sub hJ [0, 1, 2, 3, 4] rfl (k_X3_writeStatic_b80 hin  hJ ih x2 x3 x5 x7 _ gx2 gx3 gx5 gx7 hF)
  intro x2 x3 x5 x7 M gx2 gx3 gx5 gx7 hF
  obtain ⟨n, hF⟩ := hF
  exact H9 n x2 x3 x5 x7 M gx2 gx3 gx5 gx7 hF
set_option maxHeartbeats 4000000 in
set_option maxRecDepth 100000 in
theorem c_X3_writeStatic {l : Launch} {D : va_G} {cy : Nat → ClassId} {ad : Nat → Nat} (hin : jIn ad ksC.length) : jCN l D vwCl (tyC cy) cy ad ftC ksC (XtC ad) yX3_writeStatic (.code yX3_writeStatic cX3_writeStatic 8 (some .int) :: Om) ({ frames := 2, cells := 0, slots := 0, locals := 48 } : Room) 1 (W_X3_writeStatic ad) := by
  refine jCN_of (y := yX3_writeStatic) (cc := cX3_writeStatic) (nL := 8) (rk := 1) (rm := ({ frames := 2, cells := 0, slots := 0, locals := 48 } : Room)) (own := RX3) (tyC_ok cy) hin (XtC_ok ad) Om_good (by decide) rfl ?_
  intro Q av M hF
  obtain ⟨p2, p3, rfl, gp2, gp3, hF⟩ := hF
  refine ⟨Nat.le_of_ble_eq_true rfl, fun J hJ => ?_⟩
  show J 0 [(0, .ref (ad 36)), (1, .ref (ad 26)), (2, .int (Ii p2)), (3, .long (Ll p3))] [] M
  unfold w_X3_writeStatic at hF
  refine j_aload_n hJ dX3_writeStatic_0 rfl 1 rfl ?_
  refine j_gr (e := 32) hJ kC_26 fC_5_9 fl_X3_88 dX3_writeStatic_1 rfl ?_
  refine j_iload_n hJ dX3_writeStatic_4 rfl 2 rfl ?_
  refine j_lald hJ gp2 kC_32 hF.1 hF.2.1 dX3_writeStatic_5 (fun v1 ev1 gv1 => ?_)
  have hF := hF.2.2 v1 ev1 gv1
  refine j_lstore (lv' := [(5, .long (Ll v1)), (0, .ref (ad 36)), (1, .ref (ad 26)), (2, .int (Ii p2)), (3, .long (Ll p3))]) hJ dX3_writeStatic_6 (by decide) rfl ?_
  refine j_aload_n hJ dX3_writeStatic_8 rfl 2 rfl ?_
  refine j_gr (e := 32) hJ kC_26 fC_5_9 fl_X3_88 dX3_writeStatic_9 rfl ?_
  refine j_iload_n hJ dX3_writeStatic_12 rfl 3 rfl ?_
  refine j_lload_n hJ dX3_writeStatic_13 rfl 4 rfl ?_
  refine j_last hJ gp2 gp3 kC_32 hF.1 hF.2.1 dX3_writeStatic_14 (fun M2 eM2 => ?_)
  have hF := hF.2.2 M2 eM2
  refine j_aload_n hJ dX3_writeStatic_15 rfl 1 rfl ?_
  refine j_iconst hJ dX3_writeStatic_16 ?_
  refine j_iload_n hJ dX3_writeStatic_17 rfl 3 rfl ?_
  refine j_isub hJ dX3_writeStatic_18 ?_
  have g3 := hF.1; have hF := hF.2
  refine j_lload hJ dX3_writeStatic_19 0 rfl ?_
  refine j_callVv hJ (c_X3_remember (l := l) (D := D) (cy := cy) (ad := ad) hin) rfl om_257 ⟨rfl, rfl, Nat.le_of_ble_eq_true rfl, Nat.le_of_ble_eq_true rfl⟩ [.int (Ii ((-1) - p2)), .long (Ll v1)] mv_X3_49 hd_X3_rememberv kC_36 rfl rfl rfl (Nat.le_of_ble_eq_true rfl) dX3_writeStatic_21 ⟨((-1) - p2), v1, rfl, g3, gv1, hF⟩ (fun M5 qM5 => ?_)
  have hF := qM5
  refine j_iconst hJ dX3_writeStatic_24 ?_
  refine j_istore (lv' := [(7, .int (Ii 0)), (5, .long (Ll v1)), (0, .ref (ad 36)), (1, .ref (ad 26)), (2, .int (Ii p2)), (3, .long (Ll p3))]) hJ dX3_writeStatic_25 (by decide) rfl ?_
  exact j_sub hJ [2, 4, 5, 1, 0] rfl (k_X3_writeStatic_b27 hin  hJ  p2 p3 v1 0 _ gp2 gp3 gv1 rk_0 hF)
def W_X3_swapSlots (ad : Nat → Nat) (Q : Int → MM → Prop) (av : List Value) (M : MM) : Prop := ∃ (p2 : Int) (p3 : Int), av = [.ref (ad 36), .ref (ad 26), .int (Ii p2), .int (Ii p3)] ∧ ri_ p2 ∧ ri_ p3 ∧ w_X3_swapSlots  Q p2 p3 M
set_option maxHeartbeats 4000000 in
set_option maxRecDepth 100000 in
theorem k_X3_swapSlots_b129 {l : Launch} {D : va_G} {cy : Nat → ClassId} {ad : Nat → Nat} {Q : Int → MM → Prop} {J : Nat → List (Nat × Value) → List Value → MM → Prop} (hin : jIn ad ksC.length)   (hJ : jOk l D vwCl (tyC cy) cy ad ftC ksC (XtC ad) Om RX3 cX3_swapSlots 9 1 ({ frames := 3, cells := 0, slots := 0, locals := 79 } : Room) Q J) {K6 : Int → Int → Int → Int → MM → Prop} (hK6 : ∀ (x2 x3 x4 x5 : Int) (M : MM), ri_ x2 → ri_ x3 → ri_ x4 → ri_ x5 → K6 x2 x3 x4 x5 M → J 6 [(0, .ref (ad 36)), (1, .ref (ad 26)), (2, .int (Ii x2)), (3, .int (Ii x3)), (4, .int (Ii x4)), (5, .int (Ii x5))] [] M) {K41 : Int → Int → Int → Int → Int → Int → MM → Prop} (hK41 : ∀ (x2 x3 x4 x5 x6 x7 : Int) (M : MM), ri_ x2 → ri_ x3 → ri_ x4 → ri_ x5 → ri_ x6 → ri_ x7 → K41 x2 x3 x4 x5 x6 x7 M → J 41 [(0, .ref (ad 36)), (1, .ref (ad 26)), (2, .int (Ii x2)), (3, .int (Ii x3)), (4, .int (Ii x4)), (5, .int (Ii x5)), (6, .int (Ii x6)), (7, .int (Ii x7))] [] M) : ∀ (x2 x3 x4 x5 x6 x7 : Int) (M : MM), ri_ x2 → ri_ x3 → ri_ x4 → ri_ x5 → ri_ x6 → ri_ x7 → w_X3_swapSlots_b129  Q K6 K41 x2 x3 x4 x5 x6 x7 M → J 129 [(0, .ref (ad 36)), (1, .ref (ad 26)), (2, .int (Ii x2)), (3, .int (Ii x3)), (4, .int (Ii x4)), (5, .int (Ii x5)), (6, .int (Ii x6)), (7, .int (Ii x7))] [] M := by
  intro x2 x3 x4 x5 x6 x7 M gx2 gx3 gx4 gx5 gx6 gx7 hF
  unfold w_X3_swapSlots_b129 at hF
  refine j_iinc (lv' := [(7, .int (Ii (x7 + 1))), (0, .ref (ad 36)), (1, .ref (ad 26)), (2, .int (Ii x2)), (3, .int (Ii x3)), (4, .int (Ii x4)), (5, .int (Ii x5)), (6, .int (Ii x6))]) (k := 7) hJ dX3_swapSlots_129 rfl (by decide) rfl ?_
  have g1 := hF.1; have hF := hF.2
  refine j_goto hJ 41 dX3_swapSlots_132 (by decide) ?_
  exact j_sub hJ [1, 2, 3, 4, 5, 6, 7, 0] rfl (hK41 x2 x3 x4 x5 x6 (x7 + 1) _ gx2 gx3 gx4 gx5 gx6 g1 hF)
set_option maxHeartbeats 4000000 in
set_option maxRecDepth 100000 in
theorem k_X3_swapSlots_b122 {l : Launch} {D : va_G} {cy : Nat → ClassId} {ad : Nat → Nat} {Q : Int → MM → Prop} {J : Nat → List (Nat × Value) → List Value → MM → Prop} (hin : jIn ad ksC.length)   (hJ : jOk l D vwCl (tyC cy) cy ad ftC ksC (XtC ad) Om RX3 cX3_swapSlots 9 1 ({ frames := 3, cells := 0, slots := 0, locals := 79 } : Room) Q J) {K6 : Int → Int → Int → Int → MM → Prop} (hK6 : ∀ (x2 x3 x4 x5 : Int) (M : MM), ri_ x2 → ri_ x3 → ri_ x4 → ri_ x5 → K6 x2 x3 x4 x5 M → J 6 [(0, .ref (ad 36)), (1, .ref (ad 26)), (2, .int (Ii x2)), (3, .int (Ii x3)), (4, .int (Ii x4)), (5, .int (Ii x5))] [] M) {K41 : Int → Int → Int → Int → Int → Int → MM → Prop} (hK41 : ∀ (x2 x3 x4 x5 x6 x7 : Int) (M : MM), ri_ x2 → ri_ x3 → ri_ x4 → ri_ x5 → ri_ x6 → ri_ x7 → K41 x2 x3 x4 x5 x6 x7 M → J 41 [(0, .ref (ad 36)), (1, .ref (ad 26)), (2, .int (Ii x2)), (3, .int (Ii x3)), (4, .int (Ii x4)), (5, .int (Ii x5)), (6, .int (Ii x6)), (7, .int (Ii x7))] [] M) : ∀ (x2 x3 x4 x5 x6 x7 s0 s1 s2 : Int) (M : MM), ri_ x2 → ri_ x3 → ri_ x4 → ri_ x5 → ri_ x6 → ri_ x7 → rl_ s0 → ri_ s1 → ri_ s2 → w_X3_swapSlots_b122  Q K6 K41 x2 x3 x4 x5 x6 x7 s0 s1 s2 M → J 122 [(0, .ref (ad 36)), (1, .ref (ad 26)), (2, .int (Ii x2)), (3, .int (Ii x3)), (4, .int (Ii x4)), (5, .int (Ii x5)), (6, .int (Ii x6)), (7, .int (Ii x7))] [.long (Ll s0), .int (Ii s1), .int (Ii s2), .ref (ad 26), .ref (ad 36)] M := by
  intro x2 x3 x4 x5 x6 x7 s0 s1 s2 M gx2 gx3 gx4 gx5 gx6 gx7 gs0 gs1 gs2 hF
  unfold w_X3_swapSlots_b122 at hF
  refine j_callVi hJ (c_X3_writeSlot (l := l) (D := D) (cy := cy) (ad := ad) hin) rfl om_275 ⟨rfl, rfl, Nat.le_of_ble_eq_true rfl, Nat.le_of_ble_eq_true rfl⟩ [.ref (ad 26), .int (Ii s2), .int (Ii s1), .long (Ll s0)] mv_X3_101 hd_X3_writeSlotv kC_36 rfl rfl rfl (Nat.le_of_ble_eq_true rfl) dX3_swapSlots_122 ⟨s2, s1, s0, rfl, gs2, gs1, gs0, hF⟩ (fun r1 M2 gr1 qM2 => ?_)
  have hF := qM2 gr1
  refine j_pop hJ dX3_swapSlots_125 rfl ?_
  refine j_iinc (lv' := [(4, .int (Ii (x4 + 1))), (0, .ref (ad 36)), (1, .ref (ad 26)), (2, .int (Ii x2)), (3, .int (Ii x3)), (5, .int (Ii x5)), (6, .int (Ii x6)), (7, .int (Ii x7))]) (k := 4) hJ dX3_swapSlots_126 rfl (by decide) rfl ?_
  have g3 := hF.1; have hF := hF.2
  exact j_sub hJ [1, 2, 3, 4, 0, 5, 6, 7] rfl (k_X3_swapSlots_b129 hin  hJ hK6 hK41 x2 x3 (x4 + 1) x5 x6 x7 _ gx2 gx3 g3 gx5 gx6 gx7 hF)
set_option maxHeartbeats 4000000 in
set_option maxRecDepth 100000 in
theorem k_X3_swapSlots_b96 {l : Launch} {D : va_G} {cy : Nat → ClassId} {ad : Nat → Nat} {Q : Int → MM → Prop} {J : Nat → List (Nat × Value) → List Value → MM → Prop} (hin : jIn ad ksC.length)   (hJ : jOk l D vwCl (tyC cy) cy ad ftC ksC (XtC ad) Om RX3 cX3_swapSlots 9 1 ({ frames := 3, cells := 0, slots := 0, locals := 79 } : Room) Q J) {K6 : Int → Int → Int → Int → MM → Prop} (hK6 : ∀ (x2 x3 x4 x5 : Int) (M : MM), ri_ x2 → ri_ x3 → ri_ x4 → ri_ x5 → K6 x2 x3 x4 x5 M → J 6 [(0, .ref (ad 36)), (1, .ref (ad 26)), (2, .int (Ii x2)), (3, .int (Ii x3)), (4, .int (Ii x4)), (5, .int (Ii x5))] [] M) {K41 : Int → Int → Int → Int → Int → Int → MM → Prop} (hK41 : ∀ (x2 x3 x4 x5 x6 x7 : Int) (M : MM), ri_ x2 → ri_ x3 → ri_ x4 → ri_ x5 → ri_ x6 → ri_ x7 → K41 x2 x3 x4 x5 x6 x7 M → J 41 [(0, .ref (ad 36)), (1, .ref (ad 26)), (2, .int (Ii x2)), (3, .int (Ii x3)), (4, .int (Ii x4)), (5, .int (Ii x5)), (6, .int (Ii x6)), (7, .int (Ii x7))] [] M) : ∀ (x2 x3 x4 x5 x6 x7 x8 : Int) (M : MM), ri_ x2 → ri_ x3 → ri_ x4 → ri_ x5 → ri_ x6 → ri_ x7 → ri_ x8 → w_X3_swapSlots_b96  Q K6 K41 x2 x3 x4 x5 x6 x7 x8 M → J 96 [(0, .ref (ad 36)), (1, .ref (ad 26)), (2, .int (Ii x2)), (3, .int (Ii x3)), (4, .int (Ii x4)), (5, .int (Ii x5)), (6, .int (Ii x6)), (7, .int (Ii x7)), (8, .int (Ii x8))] [] M := by
  intro x2 x3 x4 x5 x6 x7 x8 M gx2 gx3 gx4 gx5 gx6 gx7 gx8 hF
  unfold w_X3_swapSlots_b96 at hF
  refine j_aload_n hJ dX3_swapSlots_96 rfl 0 rfl ?_
  refine j_aload_n hJ dX3_swapSlots_97 rfl 1 rfl ?_
  refine j_iload hJ dX3_swapSlots_98 5 rfl ?_
  refine j_iload hJ dX3_swapSlots_100 7 rfl ?_
  refine j_aload_n hJ dX3_swapSlots_102 rfl 1 rfl ?_
  refine j_gr (e := 30) hJ kC_26 fC_5_7 fl_X3_46 dX3_swapSlots_103 rfl ?_
  refine j_iload hJ dX3_swapSlots_106 8 rfl ?_
  refine j_lald hJ gx8 kC_30 hF.1 hF.2.1 dX3_swapSlots_108 (fun v1 ev1 gv1 => ?_)
  have hF := hF.2.2 v1 ev1 gv1
  refine j_iload_n hJ dX3_swapSlots_109 rfl 2 rfl ?_
  refine j_i2l hJ gx2 dX3_swapSlots_110 ?_
  refine j_lcmp_ne hJ 120 gv1 (rl_ri gx2) dX3_swapSlots_111 dX3_swapSlots_112 (by decide) (fun z2 => ?_) (fun z2 => ?_)
  · have hF := hF.1 z2
    refine j_iload_n hJ dX3_swapSlots_120 rfl 2 rfl ?_
    refine j_i2l hJ gx2 dX3_swapSlots_121 ?_
    exact j_sub hJ [0, 1, 2, 3, 4, 5, 6, 7] rfl (k_X3_swapSlots_b122 hin  hJ hK6 hK41 x2 x3 x4 x5 x6 x7 x2 x7 x5 _ gx2 gx3 gx4 gx5 gx6 gx7 (rl_ri gx2) gx7 gx5 hF)
  · have hF := hF.2 z2
    refine j_iload_n hJ dX3_swapSlots_115 rfl 3 rfl ?_
    refine j_i2l hJ gx3 dX3_swapSlots_116 ?_
    refine j_goto hJ 122 dX3_swapSlots_117 (by decide) ?_
    exact j_sub hJ [0, 1, 2, 3, 4, 5, 6, 7] rfl (k_X3_swapSlots_b122 hin  hJ hK6 hK41 x2 x3 x4 x5 x6 x7 x3 x7 x5 _ gx2 gx3 gx4 gx5 gx6 gx7 (rl_ri gx3) gx7 gx5 hF)
set_option maxHeartbeats 4000000 in
set_option maxRecDepth 100000 in
theorem k_X3_swapSlots_b41 {l : Launch} {D : va_G} {cy : Nat → ClassId} {ad : Nat → Nat} {Q : Int → MM → Prop} {J : Nat → List (Nat × Value) → List Value → MM → Prop} (hin : jIn ad ksC.length)   (hJ : jOk l D vwCl (tyC cy) cy ad ftC ksC (XtC ad) Om RX3 cX3_swapSlots 9 1 ({ frames := 3, cells := 0, slots := 0, locals := 79 } : Room) Q J) {K6 : Int → Int → Int → Int → MM → Prop} (hK6 : ∀ (x2 x3 x4 x5 : Int) (M : MM), ri_ x2 → ri_ x3 → ri_ x4 → ri_ x5 → K6 x2 x3 x4 x5 M → J 6 [(0, .ref (ad 36)), (1, .ref (ad 26)), (2, .int (Ii x2)), (3, .int (Ii x3)), (4, .int (Ii x4)), (5, .int (Ii x5))] [] M) : ∀ (x2 x3 x4 x5 x6 x7 : Int) (M : MM), ri_ x2 → ri_ x3 → ri_ x4 → ri_ x5 → ri_ x6 → ri_ x7 → w_X3_swapSlots_b41  Q K6 x2 x3 x4 x5 x6 x7 M → J 41 [(0, .ref (ad 36)), (1, .ref (ad 26)), (2, .int (Ii x2)), (3, .int (Ii x3)), (4, .int (Ii x4)), (5, .int (Ii x5)), (6, .int (Ii x6)), (7, .int (Ii x7))] [] M := by
  have H9 : ∀ (n : Nat) (x2 x3 x4 x5 x6 x7 : Int) (M : MM), ri_ x2 → ri_ x3 → ri_ x4 → ri_ x5 → ri_ x6 → ri_ x7 → jit (fun _ _ _ _ _ _ _ => False) (wb_X3_swapSlots_b41  Q K6) n x2 x3 x4 x5 x6 x7 M → J 41 [(0, .ref (ad 36)), (1, .ref (ad 26)), (2, .int (Ii x2)), (3, .int (Ii x3)), (4, .int (Ii x4)), (5, .int (Ii x5)), (6, .int (Ii x6)), (7, .int (Ii x7))] [] M := by
    intro n
    induction n with
    | zero => intro x2 x3 x4 x5 x6 x7 M gx2 gx3 gx4 gx5 gx6 gx7 hF; exact False.elim hF
    | succ n ih =>
    intro x2 x3 x4 x5 x6 x7 M gx2 gx3 gx4 gx5 gx6 gx7 hF
    have hF : wb_X3_swapSlots_b41  Q K6 (jit (fun _ _ _ _ _ _ _ => False) (wb_X3_swapSlots_b41  Q K6) n) x2 x3 x4 x5 x6 x7 M := hF
    unfold wb_X3_swapSlots_b41 at hF
    refine j_iload hJ dX3_swapSlots_41 7 rfl ?_
    refine j_iload hJ dX3_swapSlots_43 6 rfl ?_
    refine j_icmp_ge hJ 135 gx7 gx6 dX3_swapSlots_45 (by decide) (fun z1 => ?_) (fun z1 => ?_)
    · have hF := hF.1 z1
      refine j_iinc (lv' := [(5, .int (Ii (x5 + 1))), (0, .ref (ad 36)), (1, .ref (ad 26)), (2, .int (Ii x2)), (3, .int (Ii x3)), (4, .int (Ii x4)), (6, .int (Ii x6)), (7, .int (Ii x7))]) (k := 5) hJ dX3_swapSlots_135 rfl (by decide) rfl ?_
      have g2 := hF.1; have hF := hF.2
      refine j_goto hJ 6 dX3_swapSlots_138 (by decide) ?_
      exact j_sub hJ [1, 2, 3, 4, 5, 0] rfl (hK6 x2 x3 x4 (x5 + 1) _ gx2 gx3 gx4 g2 hF)
    · have hF := hF.2 z1
      refine j_aload_n hJ dX3_swapSlots_48 rfl 1 rfl ?_
      refine j_gr (e := 29) hJ kC_26 fC_5_6 fl_X3_41 dX3_swapSlots_49 rfl ?_
      refine j_iload hJ dX3_swapSlots_52 5 rfl ?_
      refine j_iald hJ gx5 kC_29 hF.1 hF.2.1 dX3_swapSlots_54 (fun v3 ev3 gv3 => ?_)
      have hF := hF.2.2 v3 ev3 gv3
      refine j_iload hJ dX3_swapSlots_55 7 rfl ?_
      refine j_iadd hJ dX3_swapSlots_57 ?_
      have g4 := hF.1; have hF := hF.2
      refine j_istore (lv' := [(8, .int (Ii (v3 + x7))), (0, .ref (ad 36)), (1, .ref (ad 26)), (2, .int (Ii x2)), (3, .int (Ii x3)), (4, .int (Ii x4)), (5, .int (Ii x5)), (6, .int (Ii x6)), (7, .int (Ii x7))]) hJ dX3_swapSlots_58 (by decide) rfl ?_
      refine j_aload_n hJ dX3_swapSlots_60 rfl 2 rfl ?_
      refine j_gr (e := 31) hJ kC_26 fC_5_8 fl_X3_98 dX3_swapSlots_61 rfl ?_
      refine j_iload hJ dX3_swapSlots_64 0 rfl ?_
      refine j_zald hJ g4 kC_31 hF.1 hF.2.1 dX3_swapSlots_66 (fun v5 ev5 gv5 => ?_)
      have hF := hF.2.2 v5 ev5 gv5
      refine j_if_eq hJ 129 (jz_ri gv5) dX3_swapSlots_67 (by decide) (fun z6 => ?_) (fun z6 => ?_)
      · have hF := hF.1 z6
        exact j_sub hJ [1, 2, 3, 4, 5, 6, 7, 8] rfl (k_X3_swapSlots_b129 hin  hJ hK6 ih x2 x3 x4 x5 x6 x7 _ gx2 gx3 gx4 gx5 gx6 gx7 hF)
      · have hF := hF.2 z6
        refine j_aload_n hJ dX3_swapSlots_70 rfl 2 rfl ?_
        refine j_gr (e := 30) hJ kC_26 fC_5_7 fl_X3_46 dX3_swapSlots_71 rfl ?_
        refine j_iload hJ dX3_swapSlots_74 0 rfl ?_
        refine j_lald hJ g4 kC_30 hF.1 hF.2.1 dX3_swapSlots_76 (fun v7 ev7 gv7 => ?_)
        have hF := hF.2.2 v7 ev7 gv7
        refine j_iload_n hJ dX3_swapSlots_77 rfl 3 rfl ?_
        refine j_i2l hJ gx2 dX3_swapSlots_78 ?_
        refine j_lcmp_eq hJ 96 gv7 (rl_ri gx2) dX3_swapSlots_79 dX3_swapSlots_80 (by decide) (fun z8 => ?_) (fun z8 => ?_)
        · have hF := hF.1 z8
          exact j_sub hJ [1, 2, 3, 4, 5, 6, 7, 8, 0] rfl (k_X3_swapSlots_b96 hin  hJ hK6 ih x2 x3 x4 x5 x6 x7 (v3 + x7) _ gx2 gx3 gx4 gx5 gx6 gx7 g4 hF)
        · have hF := hF.2 z8
          refine j_aload_n hJ dX3_swapSlots_83 rfl 2 rfl ?_
          refine j_gr (e := 30) hJ kC_26 fC_5_7 fl_X3_46 dX3_swapSlots_84 rfl ?_
          refine j_iload hJ dX3_swapSlots_87 0 rfl ?_
          refine j_lald hJ g4 kC_30 hF.1 hF.2.1 dX3_swapSlots_89 (fun v9 ev9 gv9 => ?_)
          have hF := hF.2.2 v9 ev9 gv9
          refine j_iload_n hJ dX3_swapSlots_90 rfl 4 rfl ?_
          refine j_i2l hJ gx3 dX3_swapSlots_91 ?_
          refine j_lcmp_ne hJ 129 gv9 (rl_ri gx3) dX3_swapSlots_92 dX3_swapSlots_93 (by decide) (fun z10 => ?_) (fun z10 => ?_)
          · have hF := hF.1 z10
            exact j_sub hJ [1, 2, 3, 4, 5, 6, 7, 8] rfl (k_X3_swapSlots_b129 hin  hJ hK6 ih x2 x3 x4 x5 x6 x7 _ gx2 gx3 gx4 gx5 gx6 gx7 hF)
          · have hF := hF.2 z10
            exact j_sub hJ [1, 2, 3, 4, 5, 6, 7, 8, 0] rfl (k_X3_swapSlots_b96 hin  hJ hK6 ih x2 x3 x4 x5 x6 x7 (v3 + x7) _ gx2 gx3 gx4 gx5 gx6 gx7 g4 hF)
  intro x2 x3 x4 x5 x6 x7 M gx2 gx3 gx4 gx5 gx6 gx7 hF
  obtain ⟨n, hF⟩ := hF
  exact H9 n x2 x3 x4 x5 x6 x7 M gx2 gx3 gx4 gx5 gx6 gx7 hF
set_option maxHeartbeats 4000000 in
set_option maxRecDepth 100000 in
theorem k_X3_swapSlots_b36 {l : Launch} {D : va_G} {cy : Nat → ClassId} {ad : Nat → Nat} {Q : Int → MM → Prop} {J : Nat → List (Nat × Value) → List Value → MM → Prop} (hin : jIn ad ksC.length)   (hJ : jOk l D vwCl (tyC cy) cy ad ftC ksC (XtC ad) Om RX3 cX3_swapSlots 9 1 ({ frames := 3, cells := 0, slots := 0, locals := 79 } : Room) Q J) {K6 : Int → Int → Int → Int → MM → Prop} (hK6 : ∀ (x2 x3 x4 x5 : Int) (M : MM), ri_ x2 → ri_ x3 → ri_ x4 → ri_ x5 → K6 x2 x3 x4 x5 M → J 6 [(0, .ref (ad 36)), (1, .ref (ad 26)), (2, .int (Ii x2)), (3, .int (Ii x3)), (4, .int (Ii x4)), (5, .int (Ii x5))] [] M) : ∀ (x2 x3 x4 x5 s0 : Int) (M : MM), ri_ x2 → ri_ x3 → ri_ x4 → ri_ x5 → ri_ s0 → w_X3_swapSlots_b36  Q K6 x2 x3 x4 x5 s0 M → J 36 [(0, .ref (ad 36)), (1, .ref (ad 26)), (2, .int (Ii x2)), (3, .int (Ii x3)), (4, .int (Ii x4)), (5, .int (Ii x5))] [.int (Ii s0)] M := by
  intro x2 x3 x4 x5 s0 M gx2 gx3 gx4 gx5 gs0 hF
  unfold w_X3_swapSlots_b36 at hF
  refine j_istore (lv' := [(6, .int (Ii s0)), (0, .ref (ad 36)), (1, .ref (ad 26)), (2, .int (Ii x2)), (3, .int (Ii x3)), (4, .int (Ii x4)), (5, .int (Ii x5))]) hJ dX3_swapSlots_36 (by decide) rfl ?_
  refine j_iconst hJ dX3_swapSlots_38 ?_
  refine j_istore (lv' := [(7, .int (Ii 0)), (6, .int (Ii s0)), (0, .ref (ad 36)), (1, .ref (ad 26)), (2, .int (Ii x2)), (3, .int (Ii x3)), (4, .int (Ii x4)), (5, .int (Ii x5))]) hJ dX3_swapSlots_39 (by decide) rfl ?_
  exact j_sub hJ [2, 3, 4, 5, 6, 7, 1, 0] rfl (k_X3_swapSlots_b41 hin  hJ hK6 x2 x3 x4 x5 s0 0 _ gx2 gx3 gx4 gx5 gs0 rk_0 hF)
set_option maxHeartbeats 4000000 in
set_option maxRecDepth 100000 in
theorem k_X3_swapSlots_b6 {l : Launch} {D : va_G} {cy : Nat → ClassId} {ad : Nat → Nat} {Q : Int → MM → Prop} {J : Nat → List (Nat × Value) → List Value → MM → Prop} (hin : jIn ad ksC.length)   (hJ : jOk l D vwCl (tyC cy) cy ad ftC ksC (XtC ad) Om RX3 cX3_swapSlots 9 1 ({ frames := 3, cells := 0, slots := 0, locals := 79 } : Room) Q J)  : ∀ (x2 x3 x4 x5 : Int) (M : MM), ri_ x2 → ri_ x3 → ri_ x4 → ri_ x5 → w_X3_swapSlots_b6  Q  x2 x3 x4 x5 M → J 6 [(0, .ref (ad 36)), (1, .ref (ad 26)), (2, .int (Ii x2)), (3, .int (Ii x3)), (4, .int (Ii x4)), (5, .int (Ii x5))] [] M := by
  have H9 : ∀ (n : Nat) (x2 x3 x4 x5 : Int) (M : MM), ri_ x2 → ri_ x3 → ri_ x4 → ri_ x5 → jit (fun _ _ _ _ _ => False) (wb_X3_swapSlots_b6  Q ) n x2 x3 x4 x5 M → J 6 [(0, .ref (ad 36)), (1, .ref (ad 26)), (2, .int (Ii x2)), (3, .int (Ii x3)), (4, .int (Ii x4)), (5, .int (Ii x5))] [] M := by
    intro n
    induction n with
    | zero => intro x2 x3 x4 x5 M gx2 gx3 gx4 gx5 hF; exact False.elim hF
    | succ n ih =>
    intro x2 x3 x4 x5 M gx2 gx3 gx4 gx5 hF
    have hF : wb_X3_swapSlots_b6  Q  (jit (fun _ _ _ _ _ => False) (wb_X3_swapSlots_b6  Q ) n) x2 x3 x4 x5 M := hF
    unfold wb_X3_swapSlots_b6 at hF
    refine j_iload hJ dX3_swapSlots_6 5 rfl ?_
    refine j_aload_n hJ dX3_swapSlots_8 rfl 1 rfl ?_
    refine j_gi hJ kC_26 fC_5_1 rfl fl_X3_91 dX3_swapSlots_9 (fun v1 ev1 gv1 => ?_)
    have hF := hF v1 ev1 gv1
    refine j_icmp_ge hJ 141 gx5 gv1 dX3_swapSlots_12 (by decide) (fun z2 => ?_) (fun z2 => ?_)
    · have hF := hF.1 z2
      refine j_iload hJ dX3_swapSlots_141 4 rfl ?_
      exact j_iret hJ rfl gx4 dX3_swapSlots_143 hF
    · have hF := hF.2 z2
      refine j_aload_n hJ dX3_swapSlots_15 rfl 1 rfl ?_
      refine j_gr (e := 27) hJ kC_26 fC_5_4 fl_X3_66 dX3_swapSlots_16 rfl ?_
      refine j_iload hJ dX3_swapSlots_19 5 rfl ?_
      refine j_iald hJ gx5 kC_27 hF.1 hF.2.1 dX3_swapSlots_21 (fun v3 ev3 gv3 => ?_)
      have hF := hF.2.2 v3 ev3 gv3
      refine j_iconst hJ dX3_swapSlots_22 ?_
      refine j_icmp_ne hJ 30 gv3 rk_m1 dX3_swapSlots_23 (by decide) (fun z4 => ?_) (fun z4 => ?_)
      · have hF := hF.1 z4
        refine j_aload_n hJ dX3_swapSlots_30 rfl 1 rfl ?_
        refine j_iload hJ dX3_swapSlots_31 5 rfl ?_
        refine j_callVi hJ (c_X2_slotsOf (l := l) (D := D) (cy := cy) (ad := ad) hin) rfl om_182 ⟨rfl, rfl, Nat.le_of_ble_eq_true rfl, Nat.le_of_ble_eq_true rfl⟩ [.int (Ii x5)] mv_X3_94 hd_X2_slotsOfv kC_26 rfl rfl rfl (Nat.le_of_ble_eq_true rfl) dX3_swapSlots_33 ⟨x5, rfl, gx5, hF⟩ (fun r5 M6 gr5 qM6 => ?_)
        have hF := qM6 gr5
        exact j_sub hJ [0, 1, 2, 3, 4, 5] rfl (k_X3_swapSlots_b36 hin  hJ ih x2 x3 x4 x5 r5 _ gx2 gx3 gx4 gx5 gr5 hF)
      · have hF := hF.2 z4
        refine j_iconst hJ dX3_swapSlots_26 ?_
        refine j_goto hJ 36 dX3_swapSlots_27 (by decide) ?_
        exact j_sub hJ [0, 1, 2, 3, 4, 5] rfl (k_X3_swapSlots_b36 hin  hJ ih x2 x3 x4 x5 0 _ gx2 gx3 gx4 gx5 rk_0 hF)
  intro x2 x3 x4 x5 M gx2 gx3 gx4 gx5 hF
  obtain ⟨n, hF⟩ := hF
  exact H9 n x2 x3 x4 x5 M gx2 gx3 gx4 gx5 hF
set_option maxHeartbeats 4000000 in
set_option maxRecDepth 100000 in
theorem c_X3_swapSlots {l : Launch} {D : va_G} {cy : Nat → ClassId} {ad : Nat → Nat} (hin : jIn ad ksC.length) : jCN l D vwCl (tyC cy) cy ad ftC ksC (XtC ad) yX3_swapSlots (.code yX3_swapSlots cX3_swapSlots 9 (some .int) :: Om) ({ frames := 3, cells := 0, slots := 0, locals := 79 } : Room) 1 (W_X3_swapSlots ad) := by
  refine jCN_of (y := yX3_swapSlots) (cc := cX3_swapSlots) (nL := 9) (rk := 1) (rm := ({ frames := 3, cells := 0, slots := 0, locals := 79 } : Room)) (own := RX3) (tyC_ok cy) hin (XtC_ok ad) Om_good (by decide) rfl ?_
  intro Q av M hF
  obtain ⟨p2, p3, rfl, gp2, gp3, hF⟩ := hF
  refine ⟨Nat.le_of_ble_eq_true rfl, fun J hJ => ?_⟩
  show J 0 [(0, .ref (ad 36)), (1, .ref (ad 26)), (2, .int (Ii p2)), (3, .int (Ii p3))] [] M
  unfold w_X3_swapSlots at hF
  refine j_iconst hJ dX3_swapSlots_0 ?_
  refine j_istore (lv' := [(4, .int (Ii 0)), (0, .ref (ad 36)), (1, .ref (ad 26)), (2, .int (Ii p2)), (3, .int (Ii p3))]) hJ dX3_swapSlots_1 (by decide) rfl ?_
  refine j_iconst hJ dX3_swapSlots_3 ?_
  refine j_istore (lv' := [(5, .int (Ii 0)), (4, .int (Ii 0)), (0, .ref (ad 36)), (1, .ref (ad 26)), (2, .int (Ii p2)), (3, .int (Ii p3))]) hJ dX3_swapSlots_4 (by decide) rfl ?_
  exact j_sub hJ [2, 3, 4, 5, 1, 0] rfl (k_X3_swapSlots_b6 hin  hJ  p2 p3 0 0 _ gp2 gp3 rk_0 rk_0 hF)
def W_X3_swapStatics (ad : Nat → Nat) (Q : Int → MM → Prop) (av : List Value) (M : MM) : Prop := ∃ (p2 : Int) (p3 : Int), av = [.ref (ad 36), .ref (ad 26), .int (Ii p2), .int (Ii p3)] ∧ ri_ p2 ∧ ri_ p3 ∧ w_X3_swapStatics  Q p2 p3 M
set_option maxHeartbeats 4000000 in
set_option maxRecDepth 100000 in
theorem k_X3_swapStatics_b87 {l : Launch} {D : va_G} {cy : Nat → ClassId} {ad : Nat → Nat} {Q : Int → MM → Prop} {J : Nat → List (Nat × Value) → List Value → MM → Prop} (hin : jIn ad ksC.length)   (hJ : jOk l D vwCl (tyC cy) cy ad ftC ksC (XtC ad) Om RX3 cX3_swapStatics 6 1 ({ frames := 3, cells := 0, slots := 0, locals := 75 } : Room) Q J) {K6 : Int → Int → Int → Int → MM → Prop} (hK6 : ∀ (x2 x3 x4 x5 : Int) (M : MM), ri_ x2 → ri_ x3 → ri_ x4 → ri_ x5 → K6 x2 x3 x4 x5 M → J 6 [(0, .ref (ad 36)), (1, .ref (ad 26)), (2, .int (Ii x2)), (3, .int (Ii x3)), (4, .int (Ii x4)), (5, .int (Ii x5))] [] M) : ∀ (x2 x3 x4 x5 : Int) (M : MM), ri_ x2 → ri_ x3 → ri_ x4 → ri_ x5 → w_X3_swapStatics_b87  Q K6 x2 x3 x4 x5 M → J 87 [(0, .ref (ad 36)), (1, .ref (ad 26)), (2, .int (Ii x2)), (3, .int (Ii x3)), (4, .int (Ii x4)), (5, .int (Ii x5))] [] M := by
  intro x2 x3 x4 x5 M gx2 gx3 gx4 gx5 hF
  unfold w_X3_swapStatics_b87 at hF
  refine j_iinc (lv' := [(5, .int (Ii (x5 + 1))), (0, .ref (ad 36)), (1, .ref (ad 26)), (2, .int (Ii x2)), (3, .int (Ii x3)), (4, .int (Ii x4))]) (k := 5) hJ dX3_swapStatics_87 rfl (by decide) rfl ?_
  have g1 := hF.1; have hF := hF.2
  refine j_goto hJ 6 dX3_swapStatics_90 (by decide) ?_
  exact j_sub hJ [1, 2, 3, 4, 5, 0] rfl (hK6 x2 x3 x4 (x5 + 1) _ gx2 gx3 gx4 g1 hF)
set_option maxHeartbeats 4000000 in
set_option maxRecDepth 100000 in
theorem k_X3_swapStatics_b80 {l : Launch} {D : va_G} {cy : Nat → ClassId} {ad : Nat → Nat} {Q : Int → MM → Prop} {J : Nat → List (Nat × Value) → List Value → MM → Prop} (hin : jIn ad ksC.length)   (hJ : jOk l D vwCl (tyC cy) cy ad ftC ksC (XtC ad) Om RX3 cX3_swapStatics 6 1 ({ frames := 3, cells := 0, slots := 0, locals := 75 } : Room) Q J) {K6 : Int → Int → Int → Int → MM → Prop} (hK6 : ∀ (x2 x3 x4 x5 : Int) (M : MM), ri_ x2 → ri_ x3 → ri_ x4 → ri_ x5 → K6 x2 x3 x4 x5 M → J 6 [(0, .ref (ad 36)), (1, .ref (ad 26)), (2, .int (Ii x2)), (3, .int (Ii x3)), (4, .int (Ii x4)), (5, .int (Ii x5))] [] M) : ∀ (x2 x3 x4 x5 s0 s1 : Int) (M : MM), ri_ x2 → ri_ x3 → ri_ x4 → ri_ x5 → rl_ s0 → ri_ s1 → w_X3_swapStatics_b80  Q K6 x2 x3 x4 x5 s0 s1 M → J 80 [(0, .ref (ad 36)), (1, .ref (ad 26)), (2, .int (Ii x2)), (3, .int (Ii x3)), (4, .int (Ii x4)), (5, .int (Ii x5))] [.long (Ll s0), .int (Ii s1), .ref (ad 26), .ref (ad 36)] M := by
  intro x2 x3 x4 x5 s0 s1 M gx2 gx3 gx4 gx5 gs0 gs1 hF
  unfold w_X3_swapStatics_b80 at hF
  refine j_callVi hJ (c_X3_writeStatic (l := l) (D := D) (cy := cy) (ad := ad) hin) rfl om_281 ⟨rfl, rfl, Nat.le_of_ble_eq_true rfl, Nat.le_of_ble_eq_true rfl⟩ [.ref (ad 26), .int (Ii s1), .long (Ll s0)] mv_X3_112 hd_X3_writeStaticv kC_36 rfl rfl rfl (Nat.le_of_ble_eq_true rfl) dX3_swapStatics_80 ⟨s1, s0, rfl, gs1, gs0, hF⟩ (fun r1 M2 gr1 qM2 => ?_)
  have hF := qM2 gr1
  refine j_pop hJ dX3_swapStatics_83 rfl ?_
  refine j_iinc (lv' := [(4, .int (Ii (x4 + 1))), (0, .ref (ad 36)), (1, .ref (ad 26)), (2, .int (Ii x2)), (3, .int (Ii x3)), (5, .int (Ii x5))]) (k := 4) hJ dX3_swapStatics_84 rfl (by decide) rfl ?_
  have g3 := hF.1; have hF := hF.2
  exact j_sub hJ [1, 2, 3, 4, 0, 5] rfl (k_X3_swapStatics_b87 hin  hJ hK6 x2 x3 (x4 + 1) x5 _ gx2 gx3 g3 gx5 hF)
set_option maxHeartbeats 4000000 in
set_option maxRecDepth 100000 in
theorem k_X3_swapStatics_b56 {l : Launch} {D : va_G} {cy : Nat → ClassId} {ad : Nat → Nat} {Q : Int → MM → Prop} {J : Nat → List (Nat × Value) → List Value → MM → Prop} (hin : jIn ad ksC.length)   (hJ : jOk l D vwCl (tyC cy) cy ad ftC ksC (XtC ad) Om RX3 cX3_swapStatics 6 1 ({ frames := 3, cells := 0, slots := 0, locals := 75 } : Room) Q J) {K6 : Int → Int → Int → Int → MM → Prop} (hK6 : ∀ (x2 x3 x4 x5 : Int) (M : MM), ri_ x2 → ri_ x3 → ri_ x4 → ri_ x5 → K6 x2 x3 x4 x5 M → J 6 [(0, .ref (ad 36)), (1, .ref (ad 26)), (2, .int (Ii x2)), (3, .int (Ii x3)), (4, .int (Ii x4)), (5, .int (Ii x5))] [] M) : ∀ (x2 x3 x4 x5 : Int) (M : MM), ri_ x2 → ri_ x3 → ri_ x4 → ri_ x5 → w_X3_swapStatics_b56  Q K6 x2 x3 x4 x5 M → J 56 [(0, .ref (ad 36)), (1, .ref (ad 26)), (2, .int (Ii x2)), (3, .int (Ii x3)), (4, .int (Ii x4)), (5, .int (Ii x5))] [] M := by
  intro x2 x3 x4 x5 M gx2 gx3 gx4 gx5 hF
  unfold w_X3_swapStatics_b56 at hF
  refine j_aload_n hJ dX3_swapStatics_56 rfl 0 rfl ?_
  refine j_aload_n hJ dX3_swapStatics_57 rfl 1 rfl ?_
  refine j_iload hJ dX3_swapStatics_58 5 rfl ?_
  refine j_aload_n hJ dX3_swapStatics_60 rfl 1 rfl ?_
  refine j_gr (e := 32) hJ kC_26 fC_5_9 fl_X3_88 dX3_swapStatics_61 rfl ?_
  refine j_iload hJ dX3_swapStatics_64 5 rfl ?_
  refine j_lald hJ gx5 kC_32 hF.1 hF.2.1 dX3_swapStatics_66 (fun v1 ev1 gv1 => ?_)
  have hF := hF.2.2 v1 ev1 gv1
  refine j_iload_n hJ dX3_swapStatics_67 rfl 2 rfl ?_
  refine j_i2l hJ gx2 dX3_swapStatics_68 ?_
  refine j_lcmp_ne hJ 78 gv1 (rl_ri gx2) dX3_swapStatics_69 dX3_swapStatics_70 (by decide) (fun z2 => ?_) (fun z2 => ?_)
  · have hF := hF.1 z2
    refine j_iload_n hJ dX3_swapStatics_78 rfl 2 rfl ?_
    refine j_i2l hJ gx2 dX3_swapStatics_79 ?_
    exact j_sub hJ [0, 1, 2, 3, 4, 5] rfl (k_X3_swapStatics_b80 hin  hJ hK6 x2 x3 x4 x5 x2 x5 _ gx2 gx3 gx4 gx5 (rl_ri gx2) gx5 hF)
  · have hF := hF.2 z2
    refine j_iload_n hJ dX3_swapStatics_73 rfl 3 rfl ?_
    refine j_i2l hJ gx3 dX3_swapStatics_74 ?_
    refine j_goto hJ 80 dX3_swapStatics_75 (by decide) ?_
    exact j_sub hJ [0, 1, 2, 3, 4, 5] rfl (k_X3_swapStatics_b80 hin  hJ hK6 x2 x3 x4 x5 x3 x5 _ gx2 gx3 gx4 gx5 (rl_ri gx3) gx5 hF)
set_option maxHeartbeats 4000000 in
set_option maxRecDepth 100000 in
theorem k_X3_swapStatics_b6 {l : Launch} {D : va_G} {cy : Nat → ClassId} {ad : Nat → Nat} {Q : Int → MM → Prop} {J : Nat → List (Nat × Value) → List Value → MM → Prop} (hin : jIn ad ksC.length)   (hJ : jOk l D vwCl (tyC cy) cy ad ftC ksC (XtC ad) Om RX3 cX3_swapStatics 6 1 ({ frames := 3, cells := 0, slots := 0, locals := 75 } : Room) Q J)  : ∀ (x2 x3 x4 x5 : Int) (M : MM), ri_ x2 → ri_ x3 → ri_ x4 → ri_ x5 → w_X3_swapStatics_b6  Q  x2 x3 x4 x5 M → J 6 [(0, .ref (ad 36)), (1, .ref (ad 26)), (2, .int (Ii x2)), (3, .int (Ii x3)), (4, .int (Ii x4)), (5, .int (Ii x5))] [] M := by
  have H9 : ∀ (n : Nat) (x2 x3 x4 x5 : Int) (M : MM), ri_ x2 → ri_ x3 → ri_ x4 → ri_ x5 → jit (fun _ _ _ _ _ => False) (wb_X3_swapStatics_b6  Q ) n x2 x3 x4 x5 M → J 6 [(0, .ref (ad 36)), (1, .ref (ad 26)), (2, .int (Ii x2)), (3, .int (Ii x3)), (4, .int (Ii x4)), (5, .int (Ii x5))] [] M := by
    intro n
    induction n with
    | zero => intro x2 x3 x4 x5 M gx2 gx3 gx4 gx5 hF; exact False.elim hF
    | succ n ih =>
    intro x2 x3 x4 x5 M gx2 gx3 gx4 gx5 hF
    have hF : wb_X3_swapStatics_b6  Q  (jit (fun _ _ _ _ _ => False) (wb_X3_swapStatics_b6  Q ) n) x2 x3 x4 x5 M := hF
    unfold wb_X3_swapStatics_b6 at hF
    refine j_iload hJ dX3_swapStatics_6 5 rfl ?_
    refine j_aload_n hJ dX3_swapStatics_8 rfl 0 rfl ?_
    refine j_ga hJ kC_36 fC_6_0 fl_X3_9 dX3_swapStatics_9 ?_
    refine j_callVi hJ (c_X10_ownFields (l := l) (D := D) (cy := cy) (ad := ad) hin) rfl om_198 ⟨rfl, rfl, Nat.le_of_ble_eq_true rfl, Nat.le_of_ble_eq_true rfl⟩ [] mv_X3_105 hd_X10_ownFieldsv kC_8 rfl rfl rfl (Nat.le_of_ble_eq_true rfl) dX3_swapStatics_12 ⟨rfl, hF⟩ (fun r1 M2 gr1 qM2 => ?_)
    have hF := qM2 gr1
    refine j_icmp_ge hJ 93 gx5 gr1 dX3_swapStatics_15 (by decide) (fun z3 => ?_) (fun z3 => ?_)
    · have hF := hF.1 z3
      refine j_iload hJ dX3_swapStatics_93 4 rfl ?_
      exact j_iret hJ rfl gx4 dX3_swapStatics_95 hF
    · have hF := hF.2 z3
      refine j_aload_n hJ dX3_swapStatics_18 rfl 0 rfl ?_
      refine j_ga hJ kC_36 fC_6_0 fl_X3_9 dX3_swapStatics_19 ?_
      refine j_iload hJ dX3_swapStatics_22 5 rfl ?_
      refine j_callVz hJ (c_X10_isLinkStatic (l := l) (D := D) (cy := cy) (ad := ad) hin) rfl om_202 ⟨rfl, rfl, Nat.le_of_ble_eq_true rfl, Nat.le_of_ble_eq_true rfl⟩ [.int (Ii x5)] mv_X3_109 hd_X10_isLinkStaticv kC_8 rfl rfl rfl (Nat.le_of_ble_eq_true rfl) dX3_swapStatics_24 ⟨x5, rfl, gx5, hF⟩ (fun r4 M5 gr4 qM5 => ?_)
      have hF := qM5 gr4
      refine j_if_eq hJ 87 (jz_ri gr4) dX3_swapStatics_27 (by decide) (fun z6 => ?_) (fun z6 => ?_)
      · have hF := hF.1 z6
        exact j_sub hJ [0, 1, 2, 3, 4, 5] rfl (k_X3_swapStatics_b87 hin  hJ ih x2 x3 x4 x5 _ gx2 gx3 gx4 gx5 hF)
      · have hF := hF.2 z6
        refine j_aload_n hJ dX3_swapStatics_30 rfl 1 rfl ?_
        refine j_gr (e := 32) hJ kC_26 fC_5_9 fl_X3_88 dX3_swapStatics_31 rfl ?_
        refine j_iload hJ dX3_swapStatics_34 5 rfl ?_
        refine j_lald hJ gx5 kC_32 hF.1 hF.2.1 dX3_swapStatics_36 (fun v7 ev7 gv7 => ?_)
        have hF := hF.2.2 v7 ev7 gv7
        refine j_iload_n hJ dX3_swapStatics_37 rfl 2 rfl ?_
        refine j_i2l hJ gx2 dX3_swapStatics_38 ?_
        refine j_lcmp_eq hJ 56 gv7 (rl_ri gx2) dX3_swapStatics_39 dX3_swapStatics_40 (by decide) (fun z8 => ?_) (fun z8 => ?_)
        · have hF := hF.1 z8
          exact j_sub hJ [0, 1, 2, 3, 4, 5] rfl (k_X3_swapStatics_b56 hin  hJ ih x2 x3 x4 x5 _ gx2 gx3 gx4 gx5 hF)
        · have hF := hF.2 z8
          refine j_aload_n hJ dX3_swapStatics_43 rfl 1 rfl ?_
          refine j_gr (e := 32) hJ kC_26 fC_5_9 fl_X3_88 dX3_swapStatics_44 rfl ?_
          refine j_iload hJ dX3_swapStatics_47 5 rfl ?_
          refine j_lald hJ gx5 kC_32 hF.1 hF.2.1 dX3_swapStatics_49 (fun v9 ev9 gv9 => ?_)
          have hF := hF.2.2 v9 ev9 gv9
          refine j_iload_n hJ dX3_swapStatics_50 rfl 3 rfl ?_
          refine j_i2l hJ gx3 dX3_swapStatics_51 ?_
          refine j_lcmp_ne hJ 87 gv9 (rl_ri gx3) dX3_swapStatics_52 dX3_swapStatics_53 (by decide) (fun z10 => ?_) (fun z10 => ?_)
          · have hF := hF.1 z10
            exact j_sub hJ [0, 1, 2, 3, 4, 5] rfl (k_X3_swapStatics_b87 hin  hJ ih x2 x3 x4 x5 _ gx2 gx3 gx4 gx5 hF)
          · have hF := hF.2 z10
            exact j_sub hJ [0, 1, 2, 3, 4, 5] rfl (k_X3_swapStatics_b56 hin  hJ ih x2 x3 x4 x5 _ gx2 gx3 gx4 gx5 hF)
  intro x2 x3 x4 x5 M gx2 gx3 gx4 gx5 hF
  obtain ⟨n, hF⟩ := hF
  exact H9 n x2 x3 x4 x5 M gx2 gx3 gx4 gx5 hF
set_option maxHeartbeats 4000000 in
set_option maxRecDepth 100000 in
theorem c_X3_swapStatics {l : Launch} {D : va_G} {cy : Nat → ClassId} {ad : Nat → Nat} (hin : jIn ad ksC.length) : jCN l D vwCl (tyC cy) cy ad ftC ksC (XtC ad) yX3_swapStatics (.code yX3_swapStatics cX3_swapStatics 6 (some .int) :: Om) ({ frames := 3, cells := 0, slots := 0, locals := 75 } : Room) 1 (W_X3_swapStatics ad) := by
  refine jCN_of (y := yX3_swapStatics) (cc := cX3_swapStatics) (nL := 6) (rk := 1) (rm := ({ frames := 3, cells := 0, slots := 0, locals := 75 } : Room)) (own := RX3) (tyC_ok cy) hin (XtC_ok ad) Om_good (by decide) rfl ?_
  intro Q av M hF
  obtain ⟨p2, p3, rfl, gp2, gp3, hF⟩ := hF
  refine ⟨Nat.le_of_ble_eq_true rfl, fun J hJ => ?_⟩
  show J 0 [(0, .ref (ad 36)), (1, .ref (ad 26)), (2, .int (Ii p2)), (3, .int (Ii p3))] [] M
  unfold w_X3_swapStatics at hF
  refine j_iconst hJ dX3_swapStatics_0 ?_
  refine j_istore (lv' := [(4, .int (Ii 0)), (0, .ref (ad 36)), (1, .ref (ad 26)), (2, .int (Ii p2)), (3, .int (Ii p3))]) hJ dX3_swapStatics_1 (by decide) rfl ?_
  refine j_iconst hJ dX3_swapStatics_3 ?_
  refine j_istore (lv' := [(5, .int (Ii 0)), (4, .int (Ii 0)), (0, .ref (ad 36)), (1, .ref (ad 26)), (2, .int (Ii p2)), (3, .int (Ii p3))]) hJ dX3_swapStatics_4 (by decide) rfl ?_
  exact j_sub hJ [2, 3, 4, 5, 1, 0] rfl (k_X3_swapStatics_b6 hin  hJ  p2 p3 0 0 _ gp2 gp3 rk_0 rk_0 hF)
def W_X3_forgetUndo (ad : Nat → Nat) (Q : Int → MM → Prop) (av : List Value) (M : MM) : Prop := av = [.ref (ad 36)] ∧ w_X3_forgetUndo  Q  M
set_option maxHeartbeats 4000000 in
set_option maxRecDepth 100000 in
theorem c_X3_forgetUndo {l : Launch} {D : va_G} {cy : Nat → ClassId} {ad : Nat → Nat} (hin : jIn ad ksC.length) : jCN l D vwCl (tyC cy) cy ad ftC ksC (XtC ad) yX3_forgetUndo (.code yX3_forgetUndo cX3_forgetUndo 1 none :: Om) ({ frames := 0, cells := 0, slots := 0, locals := 0 } : Room) 0 (W_X3_forgetUndo ad) := by
  refine jCN_of (y := yX3_forgetUndo) (cc := cX3_forgetUndo) (nL := 1) (rk := 0) (rm := ({ frames := 0, cells := 0, slots := 0, locals := 0 } : Room)) (own := RX3) (tyC_ok cy) hin (XtC_ok ad) Om_good (by decide) rfl ?_
  intro Q av M hF
  obtain ⟨rfl, hF⟩ := hF
  refine ⟨Nat.le_of_ble_eq_true rfl, fun J hJ => ?_⟩
  show J 0 [(0, .ref (ad 36))] [] M
  unfold w_X3_forgetUndo at hF
  refine j_aload_n hJ dX3_forgetUndo_0 rfl 0 rfl ?_
  refine j_iconst hJ dX3_forgetUndo_1 ?_
  refine j_pi hJ rk_0 kC_36 fC_6_6 rfl fp_X3_119 dX3_forgetUndo_2 (fun M1 eM1 => ?_)
  have hF := hF M1 eM1
  exact j_vret hJ rfl dX3_forgetUndo_5 hF
def W_X3_takeBack (ad : Nat → Nat) (Q : Int → MM → Prop) (av : List Value) (M : MM) : Prop := av = [.ref (ad 36), .ref (ad 26)] ∧ w_X3_takeBack  Q  M
set_option maxHeartbeats 4000000 in
set_option maxRecDepth 100000 in
theorem k_X3_takeBack_b80 {l : Launch} {D : va_G} {cy : Nat → ClassId} {ad : Nat → Nat} {Q : Int → MM → Prop} {J : Nat → List (Nat × Value) → List Value → MM → Prop} (hin : jIn ad ksC.length)   (hJ : jOk l D vwCl (tyC cy) cy ad ftC ksC (XtC ad) Om RX3 cX3_takeBack 3 1 ({ frames := 0, cells := 0, slots := 0, locals := 0 } : Room) Q J)  : ∀ (x2 : Int) (M : MM), ri_ x2 → w_X3_takeBack_b80  Q  x2 M → J 80 [(0, .ref (ad 36)), (2, .int (Ii x2))] [] M := by
  intro x2 M gx2 hF
  unfold w_X3_takeBack_b80 at hF
  refine j_aload_n hJ dX3_takeBack_80 rfl 0 rfl ?_
  refine j_gr (e := 37) hJ kC_36 fC_6_2 fl_X3_15 dX3_takeBack_81 rfl ?_
  refine j_iload_n hJ dX3_takeBack_84 rfl 1 rfl ?_
  refine j_iald hJ gx2 kC_37 hF.1 hF.2.1 dX3_takeBack_85 (fun v1 ev1 gv1 => ?_)
  have hF := hF.2.2 v1 ev1 gv1
  exact j_iret hJ rfl gv1 dX3_takeBack_86 hF
set_option maxHeartbeats 4000000 in
set_option maxRecDepth 100000 in
theorem c_X3_takeBack {l : Launch} {D : va_G} {cy : Nat → ClassId} {ad : Nat → Nat} (hin : jIn ad ksC.length) : jCN l D vwCl (tyC cy) cy ad ftC ksC (XtC ad) yX3_takeBack (.code yX3_takeBack cX3_takeBack 3 (some .int) :: Om) ({ frames := 0, cells := 0, slots := 0, locals := 0 } : Room) 1 (W_X3_takeBack ad) := by
  refine jCN_of (y := yX3_takeBack) (cc := cX3_takeBack) (nL := 3) (rk := 1) (rm := ({ frames := 0, cells := 0, slots := 0, locals := 0 } : Room)) (own := RX3) (tyC_ok cy) hin (XtC_ok ad) Om_good (by decide) rfl ?_
  intro Q av M hF
  obtain ⟨rfl, hF⟩ := hF
  refine ⟨Nat.le_of_ble_eq_true rfl, fun J hJ => ?_⟩
  show J 0 [(0, .ref (ad 36)), (1, .ref (ad 26))] [] M
  unfold w_X3_takeBack at hF
  refine j_aload_n hJ dX3_takeBack_0 rfl 0 rfl ?_
  refine j_gi hJ kC_36 fC_6_6 rfl fl_X3_119 dX3_takeBack_1 (fun v1 ev1 gv1 => ?_)
  have hF := hF v1 ev1 gv1
  refine j_if_ne hJ 9 gv1 dX3_takeBack_4 (by decide) (fun z2 => ?_) (fun z2 => ?_)
  · have hF := hF.1 z2
    refine j_aload_n hJ dX3_takeBack_9 rfl 0 rfl ?_
    refine j_dup hJ dX3_takeBack_10 rfl ?_
    refine j_gi hJ kC_36 fC_6_6 rfl fl_X3_119 dX3_takeBack_11 (fun v3 ev3 gv3 => ?_)
    have hF := hF v3 ev3 gv3
    refine j_iconst hJ dX3_takeBack_14 ?_
    refine j_isub hJ dX3_takeBack_15 ?_
    have g4 := hF.1; have hF := hF.2
    refine j_pi hJ g4 kC_36 fC_6_6 rfl fp_X3_119 dX3_takeBack_16 (fun M5 eM5 => ?_)
    have hF := hF M5 eM5
    refine j_aload_n hJ dX3_takeBack_19 rfl 0 rfl ?_
    refine j_gi hJ kC_36 fC_6_5 rfl fl_X3_116 dX3_takeBack_20 (fun v6 ev6 gv6 => ?_)
    have hF := hF v6 ev6 gv6
    refine j_aload_n hJ dX3_takeBack_23 rfl 0 rfl ?_
    refine j_gi hJ kC_36 fC_6_6 rfl fl_X3_119 dX3_takeBack_24 (fun v7 ev7 gv7 => ?_)
    have hF := hF v7 ev7 gv7
    refine j_iadd hJ dX3_takeBack_27 ?_
    have g8 := hF.1; have hF := hF.2
    refine j_bipush hJ dX3_takeBack_28 (by decide) ?_
    refine j_irem hJ g8 rk_100 (by decide) dX3_takeBack_30 ?_
    have g9 := hF.1; have hF := hF.2
    refine j_istore_n (lv' := [(2, .int (Ii ((v6 + v7) - (Int.tdiv (v6 + v7) 100) * 100))), (0, .ref (ad 36)), (1, .ref (ad 26))]) hJ dX3_takeBack_31 rfl (by decide) rfl ?_
    refine j_aload_n hJ dX3_takeBack_32 rfl 1 rfl ?_
    refine j_gr (e := 38) hJ kC_36 fC_6_3 fl_X3_19 dX3_takeBack_33 rfl ?_
    refine j_iload_n hJ dX3_takeBack_36 rfl 0 rfl ?_
    refine j_iald hJ g9 kC_38 hF.1 hF.2.1 dX3_takeBack_37 (fun v10 ev10 gv10 => ?_)
    have hF := hF.2.2 v10 ev10 gv10
    refine j_if_lt hJ 61 gv10 dX3_takeBack_38 (by decide) (fun z11 => ?_) (fun z11 => ?_)
    · have hF := hF.1 z11
      refine j_aload_n hJ dX3_takeBack_61 rfl 2 rfl ?_
      refine j_gr (e := 32) hJ kC_26 fC_5_9 fl_X3_88 dX3_takeBack_62 rfl ?_
      refine j_iconst hJ dX3_takeBack_65 ?_
      refine j_aload_n hJ dX3_takeBack_66 rfl 1 rfl ?_
      refine j_gr (e := 38) hJ kC_36 fC_6_3 fl_X3_19 dX3_takeBack_67 rfl ?_
      refine j_iload_n hJ dX3_takeBack_70 rfl 0 rfl ?_
      refine j_iald hJ g9 kC_38 hF.1 hF.2.1 dX3_takeBack_71 (fun v12 ev12 gv12 => ?_)
      have hF := hF.2.2 v12 ev12 gv12
      refine j_isub hJ dX3_takeBack_72 ?_
      have g13 := hF.1; have hF := hF.2
      refine j_aload_n hJ dX3_takeBack_73 rfl 1 rfl ?_
      refine j_gr (e := 39) hJ kC_36 fC_6_4 fl_X3_22 dX3_takeBack_74 rfl ?_
      refine j_iload_n hJ dX3_takeBack_77 rfl 0 rfl ?_
      refine j_lald hJ g9 kC_39 hF.1 hF.2.1 dX3_takeBack_78 (fun v14 ev14 gv14 => ?_)
      have hF := hF.2.2 v14 ev14 gv14
      refine j_last hJ g13 gv14 kC_32 hF.1 hF.2.1 dX3_takeBack_79 (fun M15 eM15 => ?_)
      have hF := hF.2.2 M15 eM15
      exact j_sub hJ [1, 0] rfl (k_X3_takeBack_b80 hin  hJ  ((v6 + v7) - (Int.tdiv (v6 + v7) 100) * 100) _ g9 hF)
    · have hF := hF.2 z11
      refine j_aload_n hJ dX3_takeBack_41 rfl 2 rfl ?_
      refine j_gr (e := 30) hJ kC_26 fC_5_7 fl_X3_46 dX3_takeBack_42 rfl ?_
      refine j_aload_n hJ dX3_takeBack_45 rfl 1 rfl ?_
      refine j_gr (e := 38) hJ kC_36 fC_6_3 fl_X3_19 dX3_takeBack_46 rfl ?_
      refine j_iload_n hJ dX3_takeBack_49 rfl 0 rfl ?_
      refine j_iald hJ g9 kC_38 hF.1 hF.2.1 dX3_takeBack_50 (fun v16 ev16 gv16 => ?_)
      have hF := hF.2.2 v16 ev16 gv16
      refine j_aload_n hJ dX3_takeBack_51 rfl 1 rfl ?_
      refine j_gr (e := 39) hJ kC_36 fC_6_4 fl_X3_22 dX3_takeBack_52 rfl ?_
      refine j_iload_n hJ dX3_takeBack_55 rfl 0 rfl ?_
      refine j_lald hJ g9 kC_39 hF.1 hF.2.1 dX3_takeBack_56 (fun v17 ev17 gv17 => ?_)
      have hF := hF.2.2 v17 ev17 gv17
      refine j_last hJ gv16 gv17 kC_30 hF.1 hF.2.1 dX3_takeBack_57 (fun M18 eM18 => ?_)
      have hF := hF.2.2 M18 eM18
      refine j_goto hJ 80 dX3_takeBack_58 (by decide) ?_
      exact j_sub hJ [1, 0] rfl (k_X3_takeBack_b80 hin  hJ  ((v6 + v7) - (Int.tdiv (v6 + v7) 100) * 100) _ g9 hF)
  · have hF := hF.2 z2
    refine j_iconst hJ dX3_takeBack_7 ?_
    exact j_iret hJ rfl rk_m1 dX3_takeBack_8 hF
def W_X3_addWatch (ad : Nat → Nat) (Q : Int → MM → Prop) (av : List Value) (M : MM) : Prop := ∃ (p1 : Int) (p2 : Int) (p3 : Int), av = [.ref (ad 36), .int (Ii p1), .int (Ii p2), .int (Ii p3)] ∧ ri_ p1 ∧ ri_ p2 ∧ ri_ p3 ∧ w_X3_addWatch  Q p1 p2 p3 M
set_option maxHeartbeats 4000000 in
set_option maxRecDepth 100000 in
theorem c_X3_addWatch {l : Launch} {D : va_G} {cy : Nat → ClassId} {ad : Nat → Nat} (hin : jIn ad ksC.length) : jCN l D vwCl (tyC cy) cy ad ftC ksC (XtC ad) yX3_addWatch (.code yX3_addWatch cX3_addWatch 4 (some .int) :: Om) ({ frames := 0, cells := 0, slots := 0, locals := 0 } : Room) 1 (W_X3_addWatch ad) := by
  refine jCN_of (y := yX3_addWatch) (cc := cX3_addWatch) (nL := 4) (rk := 1) (rm := ({ frames := 0, cells := 0, slots := 0, locals := 0 } : Room)) (own := RX3) (tyC_ok cy) hin (XtC_ok ad) Om_good (by decide) rfl ?_
  intro Q av M hF
  obtain ⟨p1, p2, p3, rfl, gp1, gp2, gp3, hF⟩ := hF
  refine ⟨Nat.le_of_ble_eq_true rfl, fun J hJ => ?_⟩
  show J 0 [(0, .ref (ad 36)), (1, .int (Ii p1)), (2, .int (Ii p2)), (3, .int (Ii p3))] [] M
  unfold w_X3_addWatch at hF
  refine j_aload_n hJ dX3_addWatch_0 rfl 0 rfl ?_
  refine j_gr (e := 40) hJ kC_36 fC_6_8 fl_X3_26 dX3_addWatch_1 rfl ?_
  refine j_aload_n hJ dX3_addWatch_4 rfl 0 rfl ?_
  refine j_gi hJ kC_36 fC_6_7 rfl fl_X3_53 dX3_addWatch_5 (fun v1 ev1 gv1 => ?_)
  have hF := hF v1 ev1 gv1
  refine j_iload_n hJ dX3_addWatch_8 rfl 1 rfl ?_
  refine j_iast hJ gv1 gp1 kC_40 hF.1 hF.2.1 dX3_addWatch_9 (fun M2 eM2 => ?_)
  have hF := hF.2.2 M2 eM2
  refine j_aload_n hJ dX3_addWatch_10 rfl 0 rfl ?_
  refine j_gr (e := 41) hJ kC_36 fC_6_9 fl_X3_29 dX3_addWatch_11 rfl ?_
  refine j_aload_n hJ dX3_addWatch_14 rfl 0 rfl ?_
  refine j_gi hJ kC_36 fC_6_7 rfl fl_X3_53 dX3_addWatch_15 (fun v3 ev3 gv3 => ?_)
  have hF := hF v3 ev3 gv3
  refine j_iload_n hJ dX3_addWatch_18 rfl 2 rfl ?_
  refine j_iast hJ gv3 gp2 kC_41 hF.1 hF.2.1 dX3_addWatch_19 (fun M4 eM4 => ?_)
  have hF := hF.2.2 M4 eM4
  refine j_aload_n hJ dX3_addWatch_20 rfl 0 rfl ?_
  refine j_gr (e := 42) hJ kC_36 fC_6_10 fl_X3_32 dX3_addWatch_21 rfl ?_
  refine j_aload_n hJ dX3_addWatch_24 rfl 0 rfl ?_
  refine j_gi hJ kC_36 fC_6_7 rfl fl_X3_53 dX3_addWatch_25 (fun v5 ev5 gv5 => ?_)
  have hF := hF v5 ev5 gv5
  refine j_iload_n hJ dX3_addWatch_28 rfl 3 rfl ?_
  refine j_iast hJ gv5 gp3 kC_42 hF.1 hF.2.1 dX3_addWatch_29 (fun M6 eM6 => ?_)
  have hF := hF.2.2 M6 eM6
  refine j_aload_n hJ dX3_addWatch_30 rfl 0 rfl ?_
  refine j_dup hJ dX3_addWatch_31 rfl ?_
  refine j_gi hJ kC_36 fC_6_7 rfl fl_X3_53 dX3_addWatch_32 (fun v7 ev7 gv7 => ?_)
  have hF := hF v7 ev7 gv7
  refine j_iconst hJ dX3_addWatch_35 ?_
  refine j_iadd hJ dX3_addWatch_36 ?_
  have g8 := hF.1; have hF := hF.2
  refine j_pi hJ g8 kC_36 fC_6_7 rfl fp_X3_53 dX3_addWatch_37 (fun M9 eM9 => ?_)
  have hF := hF M9 eM9
  refine j_aload_n hJ dX3_addWatch_40 rfl 0 rfl ?_
  refine j_gi hJ kC_36 fC_6_7 rfl fl_X3_53 dX3_addWatch_41 (fun v10 ev10 gv10 => ?_)
  have hF := hF v10 ev10 gv10
  refine j_iconst hJ dX3_addWatch_44 ?_
  refine j_isub hJ dX3_addWatch_45 ?_
  have g11 := hF.1; have hF := hF.2
  exact j_iret hJ rfl g11 dX3_addWatch_46 hF
def W_X3_rowPart (ad : Nat → Nat) (Q : Int → MM → Prop) (av : List Value) (M : MM) : Prop := ∃ (p1 : Int) (p2 : Int) (p3 : Int), av = [.ref (ad 36), .int (Ii p1), .int (Ii p2), .int (Ii p3)] ∧ ri_ p1 ∧ ri_ p2 ∧ ri_ p3 ∧ w_X3_rowPart  Q p1 p2 p3 M
set_option maxHeartbeats 4000000 in
set_option maxRecDepth 100000 in
theorem c_X3_rowPart {l : Launch} {D : va_G} {cy : Nat → ClassId} {ad : Nat → Nat} (hin : jIn ad ksC.length) : jCN l D vwCl (tyC cy) cy ad ftC ksC (XtC ad) yX3_rowPart (.code yX3_rowPart cX3_rowPart 4 (some .long) :: Om) ({ frames := 0, cells := 0, slots := 0, locals := 0 } : Room) 2 (W_X3_rowPart ad) := by
  refine jCN_of (y := yX3_rowPart) (cc := cX3_rowPart) (nL := 4) (rk := 2) (rm := ({ frames := 0, cells := 0, slots := 0, locals := 0 } : Room)) (own := RX3) (tyC_ok cy) hin (XtC_ok ad) Om_good (by decide) rfl ?_
  intro Q av M hF
  obtain ⟨p1, p2, p3, rfl, gp1, gp2, gp3, hF⟩ := hF
  refine ⟨Nat.le_of_ble_eq_true rfl, fun J hJ => ?_⟩
  show J 0 [(0, .ref (ad 36)), (1, .int (Ii p1)), (2, .int (Ii p2)), (3, .int (Ii p3))] [] M
  unfold w_X3_rowPart at hF
  refine j_aload_n hJ dX3_rowPart_0 rfl 0 rfl ?_
  refine j_gr (e := 44) hJ kC_36 fC_6_12 fl_X3_38 dX3_rowPart_1 rfl ?_
  refine j_iload_n hJ dX3_rowPart_4 rfl 1 rfl ?_
  refine j_bipush hJ dX3_rowPart_5 (by decide) ?_
  refine j_imul hJ dX3_rowPart_7 ?_
  have g1 := hF.1; have hF := hF.2
  refine j_iload_n hJ dX3_rowPart_8 rfl 2 rfl ?_
  refine j_iadd hJ dX3_rowPart_9 ?_
  have g2 := hF.1; have hF := hF.2
  refine j_iconst hJ dX3_rowPart_10 ?_
  refine j_imul hJ dX3_rowPart_11 ?_
  have g3 := hF.1; have hF := hF.2
  refine j_iload_n hJ dX3_rowPart_12 rfl 3 rfl ?_
  refine j_iadd hJ dX3_rowPart_13 ?_
  have g4 := hF.1; have hF := hF.2
  refine j_lald hJ g4 kC_44 hF.1 hF.2.1 dX3_rowPart_14 (fun v5 ev5 gv5 => ?_)
  have hF := hF.2.2 v5 ev5 gv5
  exact j_lret hJ rfl gv5 dX3_rowPart_15 hF
def W_X4_isTrue (ad : Nat → Nat) (Q : Int → MM → Prop) (av : List Value) (M : MM) : Prop := ∃ (p1 : Int), av = [.ref (ad 219), .int (Ii p1)] ∧ ri_ p1 ∧ w_X4_isTrue  Q p1 M
set_option maxHeartbeats 4000000 in
set_option maxRecDepth 100000 in
theorem c_X4_isTrue {l : Launch} {D : va_G} {cy : Nat → ClassId} {ad : Nat → Nat} (hin : jIn ad ksC.length) : jCN l D vwCl (tyC cy) cy ad ftC ksC (XtC ad) yX4_isTrue (.code yX4_isTrue cX4_isTrue 2 (some .boolean) :: Om) ({ frames := 0, cells := 0, slots := 0, locals := 0 } : Room) 3 (W_X4_isTrue ad) := by
  refine jCN_of (y := yX4_isTrue) (cc := cX4_isTrue) (nL := 2) (rk := 3) (rm := ({ frames := 0, cells := 0, slots := 0, locals := 0 } : Room)) (own := RX4) (tyC_ok cy) hin (XtC_ok ad) Om_good (by decide) rfl ?_
  intro Q av M hF
  obtain ⟨p1, rfl, gp1, hF⟩ := hF
  refine ⟨Nat.le_of_ble_eq_true rfl, fun J hJ => ?_⟩
  show J 0 [(0, .ref (ad 219)), (1, .int (Ii p1))] [] M
  unfold w_X4_isTrue at hF
  refine j_iload_n hJ dX4_isTrue_0 rfl 1 rfl ?_
  refine j_if_lt hJ 29 gp1 dX4_isTrue_1 (by decide) (fun z1 => ?_) (fun z1 => ?_)
  · have hF := hF.1 z1
    refine j_iconst hJ dX4_isTrue_29 ?_
    exact j_zret hJ rfl (by decide) dX4_isTrue_30 hF
  · have hF := hF.2 z1
    refine j_aload_n hJ dX4_isTrue_4 rfl 0 rfl ?_
    refine j_gr (e := 220) hJ kC_219 fC_7_4 fl_X4_19 dX4_isTrue_5 rfl ?_
    refine j_iload_n hJ dX4_isTrue_8 rfl 1 rfl ?_
    refine j_iald hJ gp1 kC_220 hF.1 hF.2.1 dX4_isTrue_9 (fun v2 ev2 gv2 => ?_)
    have hF := hF.2.2 v2 ev2 gv2
    refine j_iconst hJ dX4_isTrue_10 ?_
    refine j_icmp_ne hJ 29 gv2 rk_1 dX4_isTrue_11 (by decide) (fun z3 => ?_) (fun z3 => ?_)
    · have hF := hF.1 z3
      refine j_iconst hJ dX4_isTrue_29 ?_
      exact j_zret hJ rfl (by decide) dX4_isTrue_30 hF
    · have hF := hF.2 z3
      refine j_aload_n hJ dX4_isTrue_14 rfl 0 rfl ?_
      refine j_gr (e := 221) hJ kC_219 fC_7_5 fl_X4_23 dX4_isTrue_15 rfl ?_
      refine j_iload_n hJ dX4_isTrue_18 rfl 1 rfl ?_
      refine j_lald hJ gp1 kC_221 hF.1 hF.2.1 dX4_isTrue_19 (fun v4 ev4 gv4 => ?_)
      have hF := hF.2.2 v4 ev4 gv4
      refine j_lconst (x := 1) hJ dX4_isTrue_20 rfl ?_
      refine j_lcmp_ne hJ 29 gv4 lk_1 dX4_isTrue_21 dX4_isTrue_22 (by decide) (fun z5 => ?_) (fun z5 => ?_)
      · have hF := hF.1 z5
        refine j_iconst hJ dX4_isTrue_29 ?_
        exact j_zret hJ rfl (by decide) dX4_isTrue_30 hF
      · have hF := hF.2 z5
        refine j_iconst hJ dX4_isTrue_25 ?_
        refine j_goto hJ 30 dX4_isTrue_26 (by decide) ?_
        exact j_zret hJ rfl (by decide) dX4_isTrue_30 hF
def W_X4_saysTrue (ad : Nat → Nat) (Q : Int → MM → Prop) (av : List Value) (M : MM) : Prop := av = [.ref (ad 219)] ∧ w_X4_saysTrue  Q  M
set_option maxHeartbeats 4000000 in
set_option maxRecDepth 100000 in
theorem c_X4_saysTrue {l : Launch} {D : va_G} {cy : Nat → ClassId} {ad : Nat → Nat} (hin : jIn ad ksC.length) : jCN l D vwCl (tyC cy) cy ad ftC ksC (XtC ad) yX4_saysTrue (.code yX4_saysTrue cX4_saysTrue 1 (some .boolean) :: Om) ({ frames := 1, cells := 0, slots := 0, locals := 21 } : Room) 3 (W_X4_saysTrue ad) := by
  refine jCN_of (y := yX4_saysTrue) (cc := cX4_saysTrue) (nL := 1) (rk := 3) (rm := ({ frames := 1, cells := 0, slots := 0, locals := 21 } : Room)) (own := RX4) (tyC_ok cy) hin (XtC_ok ad) Om_good (by decide) rfl ?_
  intro Q av M hF
  obtain ⟨rfl, hF⟩ := hF
  refine ⟨Nat.le_of_ble_eq_true rfl, fun J hJ => ?_⟩
  show J 0 [(0, .ref (ad 219))] [] M
  unfold w_X4_saysTrue at hF
  refine j_aload_n hJ dX4_saysTrue_0 rfl 0 rfl ?_
  refine j_gi hJ kC_219 fC_7_6 rfl fl_X4_67 dX4_saysTrue_1 (fun v1 ev1 gv1 => ?_)
  have hF := hF v1 ev1 gv1
  refine j_iconst hJ dX4_saysTrue_4 ?_
  refine j_icmp_ne hJ 20 gv1 rk_1 dX4_saysTrue_5 (by decide) (fun z2 => ?_) (fun z2 => ?_)
  · have hF := hF.1 z2
    refine j_iconst hJ dX4_saysTrue_20 ?_
    exact j_zret hJ rfl (by decide) dX4_saysTrue_21 hF
  · have hF := hF.2 z2
    refine j_aload_n hJ dX4_saysTrue_8 rfl 0 rfl ?_
    refine j_iconst hJ dX4_saysTrue_9 ?_
    refine j_callVz hJ (c_X4_isTrue (l := l) (D := D) (cy := cy) (ad := ad) hin) rfl om_285 ⟨rfl, rfl, Nat.le_of_ble_eq_true rfl, Nat.le_of_ble_eq_true rfl⟩ [.int (Ii 0)] mv_X4_71 hd_X4_isTruev kC_219 rfl rfl rfl (Nat.le_of_ble_eq_true rfl) dX4_saysTrue_10 ⟨0, rfl, rk_0, hF⟩ (fun r3 M4 gr3 qM4 => ?_)
    have hF := qM4 gr3
    refine j_if_eq hJ 20 (jz_ri gr3) dX4_saysTrue_13 (by decide) (fun z5 => ?_) (fun z5 => ?_)
    · have hF := hF.1 z5
      refine j_iconst hJ dX4_saysTrue_20 ?_
      exact j_zret hJ rfl (by decide) dX4_saysTrue_21 hF
    · have hF := hF.2 z5
      refine j_iconst hJ dX4_saysTrue_16 ?_
      refine j_goto hJ 21 dX4_saysTrue_17 (by decide) ?_
      exact j_zret hJ rfl (by decide) dX4_saysTrue_21 hF
def W_X4_push (ad : Nat → Nat) (Q : Int → MM → Prop) (av : List Value) (M : MM) : Prop := ∃ (p1 : Int) (p2 : Int), av = [.ref (ad 219), .int (Ii p1), .long (Ll p2)] ∧ ri_ p1 ∧ rl_ p2 ∧ w_X4_push  Q p1 p2 M
set_option maxHeartbeats 4000000 in
set_option maxRecDepth 100000 in
theorem c_X4_push {l : Launch} {D : va_G} {cy : Nat → ClassId} {ad : Nat → Nat} (hin : jIn ad ksC.length) : jCN l D vwCl (tyC cy) cy ad ftC ksC (XtC ad) yX4_push (.code yX4_push cX4_push 4 none :: Om) ({ frames := 0, cells := 0, slots := 0, locals := 0 } : Room) 0 (W_X4_push ad) := by
  refine jCN_of (y := yX4_push) (cc := cX4_push) (nL := 4) (rk := 0) (rm := ({ frames := 0, cells := 0, slots := 0, locals := 0 } : Room)) (own := RX4) (tyC_ok cy) hin (XtC_ok ad) Om_good (by decide) rfl ?_
  intro Q av M hF
  obtain ⟨p1, p2, rfl, gp1, gp2, hF⟩ := hF
  refine ⟨Nat.le_of_ble_eq_true rfl, fun J hJ => ?_⟩
  show J 0 [(0, .ref (ad 219)), (1, .int (Ii p1)), (2, .long (Ll p2))] [] M
  unfold w_X4_push at hF
  refine j_aload_n hJ dX4_push_0 rfl 0 rfl ?_
  refine j_gi hJ kC_219 fC_7_6 rfl fl_X4_67 dX4_push_1 (fun v1 ev1 gv1 => ?_)
  have hF := hF v1 ev1 gv1
  refine j_aload_n hJ dX4_push_4 rfl 0 rfl ?_
  refine j_gr (e := 220) hJ kC_219 fC_7_4 fl_X4_19 dX4_push_5 rfl ?_
  refine j_alen0 hJ kC_220 dX4_push_8 ?_
  refine j_icmp_ge hJ 42 gv1 (by unfold ri_; omega) dX4_push_9 (by decide) (fun z2 => ?_) (fun z2 => ?_)
  · have hF := hF.1 z2
    exact j_vret hJ rfl dX4_push_42 hF
  · have hF := hF.2 z2
    refine j_aload_n hJ dX4_push_12 rfl 0 rfl ?_
    refine j_gr (e := 220) hJ kC_219 fC_7_4 fl_X4_19 dX4_push_13 rfl ?_
    refine j_aload_n hJ dX4_push_16 rfl 0 rfl ?_
    refine j_gi hJ kC_219 fC_7_6 rfl fl_X4_67 dX4_push_17 (fun v3 ev3 gv3 => ?_)
    have hF := hF v3 ev3 gv3
    refine j_iload_n hJ dX4_push_20 rfl 1 rfl ?_
    refine j_iast hJ gv3 gp1 kC_220 hF.1 hF.2.1 dX4_push_21 (fun M4 eM4 => ?_)
    have hF := hF.2.2 M4 eM4
    refine j_aload_n hJ dX4_push_22 rfl 0 rfl ?_
    refine j_gr (e := 221) hJ kC_219 fC_7_5 fl_X4_23 dX4_push_23 rfl ?_
    refine j_aload_n hJ dX4_push_26 rfl 0 rfl ?_
    refine j_gi hJ kC_219 fC_7_6 rfl fl_X4_67 dX4_push_27 (fun v5 ev5 gv5 => ?_)
    have hF := hF v5 ev5 gv5
    refine j_lload_n hJ dX4_push_30 rfl 2 rfl ?_
    refine j_last hJ gv5 gp2 kC_221 hF.1 hF.2.1 dX4_push_31 (fun M6 eM6 => ?_)
    have hF := hF.2.2 M6 eM6
    refine j_aload_n hJ dX4_push_32 rfl 0 rfl ?_
    refine j_dup hJ dX4_push_33 rfl ?_
    refine j_gi hJ kC_219 fC_7_6 rfl fl_X4_67 dX4_push_34 (fun v7 ev7 gv7 => ?_)
    have hF := hF v7 ev7 gv7
    refine j_iconst hJ dX4_push_37 ?_
    refine j_iadd hJ dX4_push_38 ?_
    have g8 := hF.1; have hF := hF.2
    refine j_pi hJ g8 kC_219 fC_7_6 rfl fp_X4_67 dX4_push_39 (fun M9 eM9 => ?_)
    have hF := hF M9 eM9
    exact j_vret hJ rfl dX4_push_42 hF
def W_X4_decide (ad : Nat → Nat) (Q : Int → MM → Prop) (av : List Value) (M : MM) : Prop := ∃ (p1 : Int) (p2 : Int), av = [.ref (ad 219), .int (Ii p1), .long (Ll p2)] ∧ ri_ p1 ∧ rl_ p2 ∧ w_X4_decide  Q p1 p2 M
set_option maxHeartbeats 4000000 in
set_option maxRecDepth 100000 in
theorem c_X4_decide {l : Launch} {D : va_G} {cy : Nat → ClassId} {ad : Nat → Nat} (hin : jIn ad ksC.length) : jCN l D vwCl (tyC cy) cy ad ftC ksC (XtC ad) yX4_decide (.code yX4_decide cX4_decide 4 (some .int) :: Om) ({ frames := 1, cells := 0, slots := 0, locals := 23 } : Room) 1 (W_X4_decide ad) := by
  refine jCN_of (y := yX4_decide) (cc := cX4_decide) (nL := 4) (rk := 1) (rm := ({ frames := 1, cells := 0, slots := 0, locals := 23 } : Room)) (own := RX4) (tyC_ok cy) hin (XtC_ok ad) Om_good (by decide) rfl ?_
  intro Q av M hF
  obtain ⟨p1, p2, rfl, gp1, gp2, hF⟩ := hF
  refine ⟨Nat.le_of_ble_eq_true rfl, fun J hJ => ?_⟩
  show J 0 [(0, .ref (ad 219)), (1, .int (Ii p1)), (2, .long (Ll p2))] [] M
  unfold w_X4_decide at hF
  refine j_aload_n hJ dX4_decide_0 rfl 0 rfl ?_
  refine j_gi hJ kC_219 fC_7_6 rfl fl_X4_67 dX4_decide_1 (fun v1 ev1 gv1 => ?_)
  have hF := hF v1 ev1 gv1
  refine j_if_ne hJ 11 gv1 dX4_decide_4 (by decide) (fun z2 => ?_) (fun z2 => ?_)
  · have hF := hF.1 z2
    refine j_aload_n hJ dX4_decide_11 rfl 0 rfl ?_
    refine j_gr (e := 220) hJ kC_219 fC_7_4 fl_X4_19 dX4_decide_12 rfl ?_
    refine j_aload_n hJ dX4_decide_15 rfl 0 rfl ?_
    refine j_gi hJ kC_219 fC_7_6 rfl fl_X4_67 dX4_decide_16 (fun v3 ev3 gv3 => ?_)
    have hF := hF v3 ev3 gv3
    refine j_iconst hJ dX4_decide_19 ?_
    refine j_isub hJ dX4_decide_20 ?_
    have g4 := hF.1; have hF := hF.2
    refine j_iald hJ g4 kC_220 hF.1 hF.2.1 dX4_decide_21 (fun v5 ev5 gv5 => ?_)
    have hF := hF.2.2 v5 ev5 gv5
    refine j_iconst hJ dX4_decide_22 ?_
    refine j_icmp_eq hJ 52 gv5 rk_1 dX4_decide_23 (by decide) (fun z6 => ?_) (fun z6 => ?_)
    · have hF := hF.1 z6
      refine j_aload_n hJ dX4_decide_52 rfl 0 rfl ?_
      refine j_gr (e := 221) hJ kC_219 fC_7_5 fl_X4_23 dX4_decide_53 rfl ?_
      refine j_aload_n hJ dX4_decide_56 rfl 0 rfl ?_
      refine j_gi hJ kC_219 fC_7_6 rfl fl_X4_67 dX4_decide_57 (fun v7 ev7 gv7 => ?_)
      have hF := hF v7 ev7 gv7
      refine j_iconst hJ dX4_decide_60 ?_
      refine j_isub hJ dX4_decide_61 ?_
      have g8 := hF.1; have hF := hF.2
      refine j_lald hJ g8 kC_221 hF.1 hF.2.1 dX4_decide_62 (fun v9 ev9 gv9 => ?_)
      have hF := hF.2.2 v9 ev9 gv9
      refine j_lload_n hJ dX4_decide_63 rfl 2 rfl ?_
      refine j_lcmp_ne hJ 78 gv9 gp2 dX4_decide_64 dX4_decide_65 (by decide) (fun z10 => ?_) (fun z10 => ?_)
      · have hF := hF.1 z10
        refine j_aload_n hJ dX4_decide_78 rfl 0 rfl ?_
        refine j_dup hJ dX4_decide_79 rfl ?_
        refine j_gi hJ kC_219 fC_7_6 rfl fl_X4_67 dX4_decide_80 (fun v11 ev11 gv11 => ?_)
        have hF := hF v11 ev11 gv11
        refine j_iconst hJ dX4_decide_83 ?_
        refine j_isub hJ dX4_decide_84 ?_
        have g12 := hF.1; have hF := hF.2
        refine j_pi hJ g12 kC_219 fC_7_6 rfl fp_X4_67 dX4_decide_85 (fun M13 eM13 => ?_)
        have hF := hF M13 eM13
        refine j_iload_n hJ dX4_decide_88 rfl 1 rfl ?_
        refine j_iconst hJ dX4_decide_89 ?_
        refine j_iadd hJ dX4_decide_90 ?_
        have g14 := hF.1; have hF := hF.2
        exact j_iret hJ rfl g14 dX4_decide_91 hF
      · have hF := hF.2 z10
        refine j_aload_n hJ dX4_decide_68 rfl 0 rfl ?_
        obtain ⟨c15, ec15, hc15, hF⟩ := hF
        refine j_gq hJ kC_219 fC_7_2 rfl fl_X4_75 dX4_decide_69 ec15 ?_
        refine j_gr (e := (c15 + 3)) hJ (kG_0 hc15) fC_9_3 fl_X4_260 dX4_decide_72 rfl ?_
        refine j_iload_n hJ dX4_decide_75 rfl 1 rfl ?_
        refine j_iald hJ gp1 (kG_3 hc15) hF.1 hF.2.1 dX4_decide_76 (fun v16 ev16 gv16 => ?_)
        have hF := hF.2.2 v16 ev16 gv16
        exact j_iret hJ rfl gv16 dX4_decide_77 hF
    · have hF := hF.2 z6
      refine j_aload_n hJ dX4_decide_26 rfl 0 rfl ?_
      refine j_dup hJ dX4_decide_27 rfl ?_
      refine j_gi hJ kC_219 fC_7_6 rfl fl_X4_67 dX4_decide_28 (fun v17 ev17 gv17 => ?_)
      have hF := hF v17 ev17 gv17
      refine j_iconst hJ dX4_decide_31 ?_
      refine j_isub hJ dX4_decide_32 ?_
      have g18 := hF.1; have hF := hF.2
      refine j_pi hJ g18 kC_219 fC_7_6 rfl fp_X4_67 dX4_decide_33 (fun M19 eM19 => ?_)
      have hF := hF M19 eM19
      refine j_aload_n hJ dX4_decide_36 rfl 0 rfl ?_
      refine j_iconst hJ dX4_decide_37 ?_
      refine j_lconst (x := 0) hJ dX4_decide_38 rfl ?_
      refine j_callVv hJ (c_X4_push (l := l) (D := D) (cy := cy) (ad := ad) hin) rfl om_291 ⟨rfl, rfl, Nat.le_of_ble_eq_true rfl, Nat.le_of_ble_eq_true rfl⟩ [.int (Ii 4), .long (Ll 0)] mv_X4_139 hd_X4_pushv kC_219 rfl rfl rfl (Nat.le_of_ble_eq_true rfl) dX4_decide_39 ⟨4, 0, rfl, rk_4, lkm_0, hF⟩ (fun M21 qM21 => ?_)
      have hF := qM21
      refine j_aload_n hJ dX4_decide_42 rfl 0 rfl ?_
      obtain ⟨c22, ec22, hc22, hF⟩ := hF
      refine j_gq hJ kC_219 fC_7_2 rfl fl_X4_75 dX4_decide_43 ec22 ?_
      refine j_gr (e := (c22 + 3)) hJ (kG_0 hc22) fC_9_3 fl_X4_260 dX4_decide_46 rfl ?_
      refine j_iload_n hJ dX4_decide_49 rfl 1 rfl ?_
      refine j_iald hJ gp1 (kG_3 hc22) hF.1 hF.2.1 dX4_decide_50 (fun v23 ev23 gv23 => ?_)
      have hF := hF.2.2 v23 ev23 gv23
      exact j_iret hJ rfl gv23 dX4_decide_51 hF
  · have hF := hF.2 z2
    refine j_iload_n hJ dX4_decide_7 rfl 1 rfl ?_
    refine j_iconst hJ dX4_decide_8 ?_
    refine j_iadd hJ dX4_decide_9 ?_
    have g24 := hF.1; have hF := hF.2
    exact j_iret hJ rfl g24 dX4_decide_10 hF
def W_X4_giveAt (ad : Nat → Nat) (Q : Int → MM → Prop) (av : List Value) (M : MM) : Prop := ∃ (p1 : Int) (p2 : Int), av = [.ref (ad 219), .int (Ii p1), .int (Ii p2)] ∧ ri_ p1 ∧ ri_ p2 ∧ w_X4_giveAt  Q p1 p2 M
set_option maxHeartbeats 4000000 in
set_option maxRecDepth 100000 in
theorem c_X4_giveAt {l : Launch} {D : va_G} {cy : Nat → ClassId} {ad : Nat → Nat} (hin : jIn ad ksC.length) : jCN l D vwCl (tyC cy) cy ad ftC ksC (XtC ad) yX4_giveAt (.code yX4_giveAt cX4_giveAt 4 (some .int) :: Om) ({ frames := 0, cells := 0, slots := 0, locals := 0 } : Room) 1 (W_X4_giveAt ad) := by
  refine jCN_of (y := yX4_giveAt) (cc := cX4_giveAt) (nL := 4) (rk := 1) (rm := ({ frames := 0, cells := 0, slots := 0, locals := 0 } : Room)) (own := RX4) (tyC_ok cy) hin (XtC_ok ad) Om_good (by decide) rfl ?_
  intro Q av M hF
  obtain ⟨p1, p2, rfl, gp1, gp2, hF⟩ := hF
  refine ⟨Nat.le_of_ble_eq_true rfl, fun J hJ => ?_⟩
  show J 0 [(0, .ref (ad 219)), (1, .int (Ii p1)), (2, .int (Ii p2))] [] M
  unfold w_X4_giveAt at hF
  refine j_aload_n hJ dX4_giveAt_0 rfl 0 rfl ?_
  refine j_gr (e := 222) hJ kC_219 fC_7_7 fl_X4_27 dX4_giveAt_1 rfl ?_
  refine j_iload_n hJ dX4_giveAt_4 rfl 1 rfl ?_
  refine j_iald hJ gp1 kC_222 hF.1 hF.2.1 dX4_giveAt_5 (fun v1 ev1 gv1 => ?_)
  have hF := hF.2.2 v1 ev1 gv1
  by_cases z2 : v1 = 29
  · refine j_tabIn hJ 26 32 gv1 dX4_giveAt_6 (by omega) (by omega) (by rw [z2]; decide) (by decide) ?_
    have hF := hF.1 z2
    refine j_iload_n hJ dX4_giveAt_32 rfl 2 rfl ?_
    exact j_iret hJ rfl gp2 dX4_giveAt_33 hF
  by_cases z3 : v1 = 30
  · refine j_tabIn hJ 28 34 gv1 dX4_giveAt_6 (by omega) (by omega) (by rw [z3]; decide) (by decide) ?_
    have hF := hF.2.1 z3
    refine j_aload_n hJ dX4_giveAt_34 rfl 0 rfl ?_
    obtain ⟨c4, ec4, hc4, hF⟩ := hF
    refine j_gq hJ kC_219 fC_7_1 rfl fl_X4_79 dX4_giveAt_35 ec4 ?_
    refine j_gr (e := (c4 + 10)) hJ (kP_0 hc4) fC_8_10 fl_X4_194 dX4_giveAt_38 rfl ?_
    refine j_iload_n hJ dX4_giveAt_41 rfl 2 rfl ?_
    refine j_zald hJ gp2 (kP_10 hc4) hF.1 hF.2.1 dX4_giveAt_42 (fun v5 ev5 gv5 => ?_)
    have hF := hF.2.2 v5 ev5 gv5
    refine j_if_eq hJ 59 (jz_ri gv5) dX4_giveAt_43 (by decide) (fun z6 => ?_) (fun z6 => ?_)
    · have hF := hF.1 z6
      refine j_iconst hJ dX4_giveAt_59 ?_
      exact j_iret hJ rfl rk_m1 dX4_giveAt_60 hF
    · have hF := hF.2 z6
      refine j_aload_n hJ dX4_giveAt_46 rfl 0 rfl ?_
      obtain ⟨c7, ec7, hc7, hF⟩ := hF
      refine j_gq hJ kC_219 fC_7_1 rfl fl_X4_79 dX4_giveAt_47 ec7 ?_
      refine j_gr (e := (c7 + 9)) hJ (kP_0 hc7) fC_8_9 fl_X4_197 dX4_giveAt_50 rfl ?_
      refine j_iload_n hJ dX4_giveAt_53 rfl 2 rfl ?_
      refine j_lald hJ gp2 (kP_9 hc7) hF.1 hF.2.1 dX4_giveAt_54 (fun v8 ev8 gv8 => ?_)
      have hF := hF.2.2 v8 ev8 gv8
      refine j_l2i hJ dX4_giveAt_55 ?_
      have g9 := hF.1; have hF := hF.2
      refine j_goto hJ 60 dX4_giveAt_56 (by decide) ?_
      exact j_iret hJ rfl g9 dX4_giveAt_60 hF
  by_cases z10 : v1 = 31
  · refine j_tabIn hJ 55 61 gv1 dX4_giveAt_6 (by omega) (by omega) (by rw [z10]; decide) (by decide) ?_
    have hF := hF.2.2.1 z10
    refine j_aload_n hJ dX4_giveAt_61 rfl 0 rfl ?_
    obtain ⟨c11, ec11, hc11, hF⟩ := hF
    refine j_gq hJ kC_219 fC_7_1 rfl fl_X4_79 dX4_giveAt_62 ec11 ?_
    refine j_gr (e := (c11 + 18)) hJ (kP_0 hc11) fC_8_20 fl_X4_90 dX4_giveAt_65 rfl ?_
    refine j_gr (e := (c11 + 20)) hJ (kP_18 hc11) fC_11_3 fl_X4_245 dX4_giveAt_68 rfl ?_
    refine j_iload_n hJ dX4_giveAt_71 rfl 2 rfl ?_
    refine j_iald hJ gp2 (kP_20 hc11) hF.1 hF.2.1 dX4_giveAt_72 (fun v12 ev12 gv12 => ?_)
    have hF := hF.2.2 v12 ev12 gv12
    exact j_iret hJ rfl gv12 dX4_giveAt_73 hF
  have z13 : ¬ v1 = 29 ∧ ¬ v1 = 30 ∧ ¬ v1 = 31 := ⟨z2, z3, z10⟩
  have hF := hF.2.2.2 z13
  refine j_tabOut hJ 74 gv1 dX4_giveAt_6 (by omega) (by decide) ?_
  refine j_aload_n hJ dX4_giveAt_74 rfl 0 rfl ?_
  obtain ⟨c14, ec14, hc14, hF⟩ := hF
  refine j_gq hJ kC_219 fC_7_1 rfl fl_X4_79 dX4_giveAt_75 ec14 ?_
  refine j_gr (e := (c14 + 2)) hJ (kP_0 hc14) fC_8_2 fl_X4_160 dX4_giveAt_78 rfl ?_
  refine j_iload_n hJ dX4_giveAt_81 rfl 2 rfl ?_
  refine j_iald hJ gp2 (kP_2 hc14) hF.1 hF.2.1 dX4_giveAt_82 (fun v15 ev15 gv15 => ?_)
  have hF := hF.2.2 v15 ev15 gv15
  refine j_istore_n (lv' := [(3, .int (Ii v15)), (0, .ref (ad 219)), (1, .int (Ii p1)), (2, .int (Ii p2))]) hJ dX4_giveAt_83 rfl (by decide) rfl ?_
  refine j_iload_n hJ dX4_giveAt_84 rfl 0 rfl ?_
  refine j_bipush hJ dX4_giveAt_85 (by decide) ?_
  refine j_icmp_ge hJ 107 gv15 rk_20 dX4_giveAt_87 (by decide) (fun z16 => ?_) (fun z16 => ?_)
  · have hF := hF.1 z16
    refine j_iconst hJ dX4_giveAt_107 ?_
    exact j_iret hJ rfl rk_m1 dX4_giveAt_108 hF
  · have hF := hF.2 z16
    refine j_aload_n hJ dX4_giveAt_90 rfl 1 rfl ?_
    refine j_gr (e := 223) hJ kC_219 fC_7_8 fl_X4_30 dX4_giveAt_91 rfl ?_
    refine j_iload_n hJ dX4_giveAt_94 rfl 2 rfl ?_
    refine j_iald hJ gp1 kC_223 hF.1 hF.2.1 dX4_giveAt_95 (fun v17 ev17 gv17 => ?_)
    have hF := hF.2.2 v17 ev17 gv17
    refine j_iload_n hJ dX4_giveAt_96 rfl 0 rfl ?_
    refine j_ishr hJ dX4_giveAt_97 ?_
    refine j_iconst hJ dX4_giveAt_98 ?_
    refine j_iand hJ dX4_giveAt_99 ?_
    refine j_if_eq hJ 107 (ri_of _) dX4_giveAt_100 (by decide) (fun z18 => ?_) (fun z18 => ?_)
    · have hF := hF.1 z18
      refine j_iconst hJ dX4_giveAt_107 ?_
      exact j_iret hJ rfl rk_m1 dX4_giveAt_108 hF
    · have hF := hF.2 z18
      refine j_iload_n hJ dX4_giveAt_103 rfl 3 rfl ?_
      refine j_goto hJ 108 dX4_giveAt_104 (by decide) ?_
      exact j_iret hJ rfl gp2 dX4_giveAt_108 hF
