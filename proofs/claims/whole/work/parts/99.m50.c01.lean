def W_X0_readRoots (ad : Nat → Nat) (Q : Int → MM → Prop) (av : List Value) (M : MM) : Prop := ∃ (p1 : Nat), av = [.ref (ad 280), .ref (ad p1)] ∧ isP p1 ∧ w_X0_readRoots p1 Q  M
set_option maxHeartbeats 4000000 in
set_option maxRecDepth 100000 in
theorem k_X0_readRoots_b68 {l : Launch} {D : va_G} {cy : Nat → ClassId} {ad : Nat → Nat} {Q : Int → MM → Prop} {J : Nat → List (Nat × Value) → List Value → MM → Prop} (hin : jIn ad ksC.length) {p1 : Nat} (hp1 : isP p1) (hJ : jOk l D vwCl (tyC cy) cy ad ftC ksC (XtC ad) Om RX0 cX0_readRoots 7 3 ({ frames := 3, cells := 0, slots := 0, locals := 69 } : Room) Q J) {K12 : Int → Int → Int → MM → Prop} (hK12 : ∀ (x2 x3 x4 : Int) (M : MM), ri_ x2 → ri_ x3 → ri_ x4 → K12 x2 x3 x4 M → J 12 [(0, .ref (ad 280)), (1, .ref (ad p1)), (2, .int (Ii x2)), (3, .int (Ii x3)), (4, .int (Ii x4))] [] M) : ∀ (x2 x4 x5 s0 : Int) (M : MM), ri_ x2 → ri_ x4 → ri_ x5 → ri_ s0 → w_X0_readRoots_b68 p1 Q K12 x2 x4 x5 s0 M → J 68 [(0, .ref (ad 280)), (1, .ref (ad p1)), (2, .int (Ii x2)), (4, .int (Ii x4)), (5, .int (Ii x5))] [.int (Ii s0)] M := by
  intro x2 x4 x5 s0 M gx2 gx4 gx5 gs0 hF
  unfold w_X0_readRoots_b68 at hF
  refine j_istore (lv' := [(6, .int (Ii s0)), (0, .ref (ad 280)), (1, .ref (ad p1)), (2, .int (Ii x2)), (4, .int (Ii x4)), (5, .int (Ii x5))]) hJ dX0_readRoots_68 (by decide) rfl ?_
  refine j_iload hJ dX0_readRoots_70 0 rfl ?_
  refine j_iconst hJ dX0_readRoots_72 ?_
  refine j_icmp_ne hJ 78 gs0 rk_m1 dX0_readRoots_73 (by decide) (fun z1 => ?_) (fun z1 => ?_)
  · have hF := hF.1 z1
    refine j_iload hJ dX0_readRoots_78 5 rfl ?_
    refine j_istore_n (lv' := [(3, .int (Ii x5)), (6, .int (Ii s0)), (0, .ref (ad 280)), (1, .ref (ad p1)), (2, .int (Ii x2)), (4, .int (Ii x4)), (5, .int (Ii x5))]) hJ dX0_readRoots_80 rfl (by decide) rfl ?_
    refine j_aload_n hJ dX0_readRoots_81 rfl 3 rfl ?_
    refine j_iload hJ dX0_readRoots_82 6 rfl ?_
    refine j_iload hJ dX0_readRoots_84 1 rfl ?_
    refine j_callVv hJ (c_X5_addRoot (l := l) (D := D) (cy := cy) (ad := ad) hin) rfl om_97 ⟨rfl, rfl, Nat.le_of_ble_eq_true rfl, Nat.le_of_ble_eq_true rfl⟩ [.int (Ii x5), .int (Ii s0)] mv_X0_189 hd_X5_addRootv (kP_0 hp1) rfl rfl rfl (Nat.le_of_ble_eq_true rfl) dX0_readRoots_86 ⟨p1, x5, s0, rfl, hp1, gx5, gs0, hF⟩ (fun M3 qM3 => ?_)
    have hF := qM3
    refine j_iinc (lv' := [(4, .int (Ii (x4 + 1))), (3, .int (Ii x5)), (6, .int (Ii s0)), (0, .ref (ad 280)), (1, .ref (ad p1)), (2, .int (Ii x2)), (5, .int (Ii x5))]) (k := 5) hJ dX0_readRoots_89 rfl (by decide) rfl ?_
    have g4 := hF.1; have hF := hF.2
    refine j_goto hJ 12 dX0_readRoots_92 (by decide) ?_
    exact j_sub hJ [3, 4, 5, 1, 0] rfl (hK12 x2 x5 (x4 + 1) _ gx2 gx5 g4 hF)
  · have hF := hF.2 z1
    refine j_iconst hJ dX0_readRoots_76 ?_
    exact j_zret hJ rfl (by decide) dX0_readRoots_77 hF
set_option maxHeartbeats 4000000 in
set_option maxRecDepth 100000 in
theorem k_X0_readRoots_b48 {l : Launch} {D : va_G} {cy : Nat → ClassId} {ad : Nat → Nat} {Q : Int → MM → Prop} {J : Nat → List (Nat × Value) → List Value → MM → Prop} (hin : jIn ad ksC.length) {p1 : Nat} (hp1 : isP p1) (hJ : jOk l D vwCl (tyC cy) cy ad ftC ksC (XtC ad) Om RX0 cX0_readRoots 7 3 ({ frames := 3, cells := 0, slots := 0, locals := 69 } : Room) Q J) {K12 : Int → Int → Int → MM → Prop} (hK12 : ∀ (x2 x3 x4 : Int) (M : MM), ri_ x2 → ri_ x3 → ri_ x4 → K12 x2 x3 x4 M → J 12 [(0, .ref (ad 280)), (1, .ref (ad p1)), (2, .int (Ii x2)), (3, .int (Ii x3)), (4, .int (Ii x4))] [] M) : ∀ (x2 x4 x5 : Int) (M : MM), ri_ x2 → ri_ x4 → ri_ x5 → w_X0_readRoots_b48 p1 Q K12 x2 x4 x5 M → J 48 [(0, .ref (ad 280)), (1, .ref (ad p1)), (2, .int (Ii x2)), (4, .int (Ii x4)), (5, .int (Ii x5))] [] M := by
  intro x2 x4 x5 M gx2 gx4 gx5 hF
  unfold w_X0_readRoots_b48 at hF
  refine j_iload hJ dX0_readRoots_48 4 rfl ?_
  refine j_iconst hJ dX0_readRoots_50 ?_
  refine j_icmp_ne hJ 58 gx5 rk_m1 dX0_readRoots_51 (by decide) (fun z1 => ?_) (fun z1 => ?_)
  · have hF := hF.1 z1
    refine j_aload_n hJ dX0_readRoots_58 rfl 0 rfl ?_
    refine j_aload_n hJ dX0_readRoots_59 rfl 1 rfl ?_
    refine j_gi hJ (kP_0 hp1) fC_8_0 rfl fl_X0_43 dX0_readRoots_60 (fun v2 ev2 gv2 => ?_)
    have hF := hF v2 ev2 gv2
    refine j_iconst hJ dX0_readRoots_63 ?_
    refine j_isub hJ dX0_readRoots_64 ?_
    have g3 := hF.1; have hF := hF.2
    refine j_callVi hJ (c_X0_readUpTo (l := l) (D := D) (cy := cy) (ad := ad) hin) rfl om_35 ⟨rfl, rfl, Nat.le_of_ble_eq_true rfl, Nat.le_of_ble_eq_true rfl⟩ [.int (Ii (v2 - 1))] mv_X0_141 hd_X0_readUpTov kC_280 rfl rfl rfl (Nat.le_of_ble_eq_true rfl) dX0_readRoots_65 ⟨(v2 - 1), rfl, g3, hF⟩ (fun r4 M5 gr4 qM5 => ?_)
    have hF := qM5 gr4
    exact j_sub hJ [0, 1, 2, 3, 4] rfl (k_X0_readRoots_b68 hin hp1 hJ hK12 x2 x4 x5 r4 _ gx2 gx4 gx5 gr4 hF)
  · have hF := hF.2 z1
    refine j_iconst hJ dX0_readRoots_54 ?_
    refine j_goto hJ 68 dX0_readRoots_55 (by decide) ?_
    exact j_sub hJ [0, 1, 2, 3, 4] rfl (k_X0_readRoots_b68 hin hp1 hJ hK12 x2 x4 x5 (-1) _ gx2 gx4 gx5 rk_m1 hF)
set_option maxHeartbeats 4000000 in
set_option maxRecDepth 100000 in
theorem k_X0_readRoots_b12 {l : Launch} {D : va_G} {cy : Nat → ClassId} {ad : Nat → Nat} {Q : Int → MM → Prop} {J : Nat → List (Nat × Value) → List Value → MM → Prop} (hin : jIn ad ksC.length) {p1 : Nat} (hp1 : isP p1) (hJ : jOk l D vwCl (tyC cy) cy ad ftC ksC (XtC ad) Om RX0 cX0_readRoots 7 3 ({ frames := 3, cells := 0, slots := 0, locals := 69 } : Room) Q J)  : ∀ (x2 x3 x4 : Int) (M : MM), ri_ x2 → ri_ x3 → ri_ x4 → w_X0_readRoots_b12 p1 Q  x2 x3 x4 M → J 12 [(0, .ref (ad 280)), (1, .ref (ad p1)), (2, .int (Ii x2)), (3, .int (Ii x3)), (4, .int (Ii x4))] [] M := by
  have H9 : ∀ (n : Nat) (x2 x3 x4 : Int) (M : MM), ri_ x2 → ri_ x3 → ri_ x4 → jit (fun _ _ _ _ => False) (wb_X0_readRoots_b12 p1 Q ) n x2 x3 x4 M → J 12 [(0, .ref (ad 280)), (1, .ref (ad p1)), (2, .int (Ii x2)), (3, .int (Ii x3)), (4, .int (Ii x4))] [] M := by
    intro n
    induction n with
    | zero => intro x2 x3 x4 M gx2 gx3 gx4 hF; exact False.elim hF
    | succ n ih =>
    intro x2 x3 x4 M gx2 gx3 gx4 hF
    have hF : wb_X0_readRoots_b12 p1 Q  (jit (fun _ _ _ _ => False) (wb_X0_readRoots_b12 p1 Q ) n) x2 x3 x4 M := hF
    unfold wb_X0_readRoots_b12 at hF
    refine j_iload hJ dX0_readRoots_12 4 rfl ?_
    refine j_iload_n hJ dX0_readRoots_14 rfl 2 rfl ?_
    refine j_icmp_ge hJ 95 gx4 gx2 dX0_readRoots_15 (by decide) (fun z1 => ?_) (fun z1 => ?_)
    · have hF := hF.1 z1
      refine j_aload_n hJ dX0_readRoots_95 rfl 0 rfl ?_
      refine j_gi hJ kC_280 fC_3_13 rfl fl_X0_101 dX0_readRoots_96 (fun v2 ev2 gv2 => ?_)
      have hF := hF v2 ev2 gv2
      refine j_if_ne hJ 106 gv2 dX0_readRoots_99 (by decide) (fun z3 => ?_) (fun z3 => ?_)
      · have hF := hF.1 z3
        refine j_iconst hJ dX0_readRoots_106 ?_
        exact j_zret hJ rfl (by decide) dX0_readRoots_107 hF
      · have hF := hF.2 z3
        refine j_iconst hJ dX0_readRoots_102 ?_
        refine j_goto hJ 107 dX0_readRoots_103 (by decide) ?_
        exact j_zret hJ rfl (by decide) dX0_readRoots_107 hF
    · have hF := hF.2 z1
      refine j_aload_n hJ dX0_readRoots_18 rfl 0 rfl ?_
      refine j_bipush hJ dX0_readRoots_19 (by decide) ?_
      refine j_callVi hJ (c_X0_readUpTo (l := l) (D := D) (cy := cy) (ad := ad) hin) rfl om_35 ⟨rfl, rfl, Nat.le_of_ble_eq_true rfl, Nat.le_of_ble_eq_true rfl⟩ [.int (Ii 107)] mv_X0_141 hd_X0_readUpTov kC_280 rfl rfl rfl (Nat.le_of_ble_eq_true rfl) dX0_readRoots_21 ⟨107, rfl, rk_107, hF⟩ (fun r4 M5 gr4 qM5 => ?_)
      have hF := qM5 gr4
      refine j_istore (lv' := [(5, .int (Ii r4)), (0, .ref (ad 280)), (1, .ref (ad p1)), (2, .int (Ii x2)), (3, .int (Ii x3)), (4, .int (Ii x4))]) hJ dX0_readRoots_24 (by decide) rfl ?_
      refine j_iload hJ dX0_readRoots_26 0 rfl ?_
      refine j_iconst hJ dX0_readRoots_28 ?_
      refine j_icmp_eq hJ 48 gr4 rk_m1 dX0_readRoots_29 (by decide) (fun z6 => ?_) (fun z6 => ?_)
      · have hF := hF.1 z6
        exact j_sub hJ [1, 2, 3, 5, 0] rfl (k_X0_readRoots_b48 hin hp1 hJ ih x2 x4 r4 _ gx2 gx4 gr4 hF)
      · have hF := hF.2 z6
        refine j_iload hJ dX0_readRoots_32 0 rfl ?_
        refine j_iload_n hJ dX0_readRoots_34 rfl 4 rfl ?_
        refine j_icmp_gt hJ 48 gr4 gx3 dX0_readRoots_35 (by decide) (fun z7 => ?_) (fun z7 => ?_)
        · have hF := hF.1 z7
          exact j_sub hJ [1, 2, 3, 5, 0] rfl (k_X0_readRoots_b48 hin hp1 hJ ih x2 x4 r4 _ gx2 gx4 gr4 hF)
        · have hF := hF.2 z7
          refine j_aload_n hJ dX0_readRoots_38 rfl 1 rfl ?_
          refine j_iconst hJ dX0_readRoots_39 ?_
          refine j_aload_n hJ dX0_readRoots_40 rfl 1 rfl ?_
          refine j_gi hJ kC_280 fC_3_10 rfl fl_X0_134 dX0_readRoots_41 (fun v8 ev8 gv8 => ?_)
          have hF := hF v8 ev8 gv8
          refine j_callVz hJ (c_X0_fail (l := l) (D := D) (cy := cy) (ad := ad) hin) rfl om_23 ⟨rfl, rfl, Nat.le_of_ble_eq_true rfl, Nat.le_of_ble_eq_true rfl⟩ [.int (Ii 4), .int (Ii v8)] mv_X0_130 hd_X0_failv kC_280 rfl rfl rfl (Nat.le_of_ble_eq_true rfl) dX0_readRoots_44 ⟨4, v8, rfl, rk_4, gv8, hF⟩ (fun r9 M10 gr9 qM10 => ?_)
          have hF := qM10 gr9
          exact j_zret hJ rfl gr9 dX0_readRoots_47 hF
  intro x2 x3 x4 M gx2 gx3 gx4 hF
  obtain ⟨n, hF⟩ := hF
  exact H9 n x2 x3 x4 M gx2 gx3 gx4 hF
set_option maxHeartbeats 4000000 in
set_option maxRecDepth 100000 in
theorem c_X0_readRoots {l : Launch} {D : va_G} {cy : Nat → ClassId} {ad : Nat → Nat} (hin : jIn ad ksC.length) : jCN l D vwCl (tyC cy) cy ad ftC ksC (XtC ad) yX0_readRoots (.code yX0_readRoots cX0_readRoots 7 (some .boolean) :: Om) ({ frames := 3, cells := 0, slots := 0, locals := 69 } : Room) 3 (W_X0_readRoots ad) := by
  refine jCN_of (y := yX0_readRoots) (cc := cX0_readRoots) (nL := 7) (rk := 3) (rm := ({ frames := 3, cells := 0, slots := 0, locals := 69 } : Room)) (own := RX0) (tyC_ok cy) hin (XtC_ok ad) Om_good (by decide) rfl ?_
  intro Q av M hF
  obtain ⟨p1, rfl, hp1, hF⟩ := hF
  refine ⟨Nat.le_of_ble_eq_true rfl, fun J hJ => ?_⟩
  show J 0 [(0, .ref (ad 280)), (1, .ref (ad p1))] [] M
  unfold w_X0_readRoots at hF
  refine j_aload_n hJ dX0_readRoots_0 rfl 0 rfl ?_
  refine j_bipush hJ dX0_readRoots_1 (by decide) ?_
  refine j_callVi hJ (c_X0_readUpTo (l := l) (D := D) (cy := cy) (ad := ad) hin) rfl om_35 ⟨rfl, rfl, Nat.le_of_ble_eq_true rfl, Nat.le_of_ble_eq_true rfl⟩ [.int (Ii 108)] mv_X0_141 hd_X0_readUpTov kC_280 rfl rfl rfl (Nat.le_of_ble_eq_true rfl) dX0_readRoots_3 ⟨108, rfl, rk_108, hF⟩ (fun r1 M2 gr1 qM2 => ?_)
  have hF := qM2 gr1
  refine j_istore_n (lv' := [(2, .int (Ii r1)), (0, .ref (ad 280)), (1, .ref (ad p1))]) hJ dX0_readRoots_6 rfl (by decide) rfl ?_
  refine j_iconst hJ dX0_readRoots_7 ?_
  refine j_istore_n (lv' := [(3, .int (Ii (-1))), (2, .int (Ii r1)), (0, .ref (ad 280)), (1, .ref (ad p1))]) hJ dX0_readRoots_8 rfl (by decide) rfl ?_
  refine j_iconst hJ dX0_readRoots_9 ?_
  refine j_istore (lv' := [(4, .int (Ii 0)), (3, .int (Ii (-1))), (2, .int (Ii r1)), (0, .ref (ad 280)), (1, .ref (ad p1))]) hJ dX0_readRoots_10 (by decide) rfl ?_
  exact j_sub hJ [3, 4, 2, 1, 0] rfl (k_X0_readRoots_b12 hin hp1 hJ  r1 (-1) 0 _ gr1 rk_m1 rk_0 hF)
def W_X0_readCheck (ad : Nat → Nat) (Q : Int → MM → Prop) (av : List Value) (M : MM) : Prop := av = [.ref (ad 280)] ∧ w_X0_readCheck  Q  M
set_option maxHeartbeats 4000000 in
set_option maxRecDepth 100000 in
theorem k_X0_readCheck_b41 {l : Launch} {D : va_G} {cy : Nat → ClassId} {ad : Nat → Nat} {Q : Int → MM → Prop} {J : Nat → List (Nat × Value) → List Value → MM → Prop} (hin : jIn ad ksC.length)   (hJ : jOk l D vwCl (tyC cy) cy ad ftC ksC (XtC ad) Om RX0 cX0_readCheck 3 3 ({ frames := 1, cells := 0, slots := 0, locals := 24 } : Room) Q J)  : ∀ (x1 x2 : Int) (M : MM), ri_ x1 → ri_ x2 → w_X0_readCheck_b41  Q  x1 x2 M → J 41 [(0, .ref (ad 280)), (1, .int (Ii x1)), (2, .int (Ii x2))] [] M := by
  have H9 : ∀ (n : Nat) (x1 x2 : Int) (M : MM), ri_ x1 → ri_ x2 → jit (fun _ _ _ => False) (wb_X0_readCheck_b41  Q ) n x1 x2 M → J 41 [(0, .ref (ad 280)), (1, .int (Ii x1)), (2, .int (Ii x2))] [] M := by
    intro n
    induction n with
    | zero => intro x1 x2 M gx1 gx2 hF; exact False.elim hF
    | succ n ih =>
    intro x1 x2 M gx1 gx2 hF
    have hF : wb_X0_readCheck_b41  Q  (jit (fun _ _ _ => False) (wb_X0_readCheck_b41  Q ) n) x1 x2 M := hF
    unfold wb_X0_readCheck_b41 at hF
    refine j_iload_n hJ dX0_readCheck_41 rfl 2 rfl ?_
    refine j_iconst hJ dX0_readCheck_42 ?_
    refine j_icmp_ge hJ 86 gx2 rk_4 dX0_readCheck_43 (by decide) (fun z1 => ?_) (fun z1 => ?_)
    · have hF := hF.1 z1
      refine j_aload_n hJ dX0_readCheck_86 rfl 0 rfl ?_
      refine j_gi hJ kC_280 fC_3_9 rfl fl_X0_98 dX0_readCheck_87 (fun v2 ev2 gv2 => ?_)
      have hF := hF v2 ev2 gv2
      refine j_iconst hJ dX0_readCheck_90 ?_
      refine j_iadd hJ dX0_readCheck_91 ?_
      have g3 := hF.1; have hF := hF.2
      refine j_aload_n hJ dX0_readCheck_92 rfl 0 rfl ?_
      refine j_gi hJ kC_280 fC_3_8 rfl fl_X0_95 dX0_readCheck_93 (fun v4 ev4 gv4 => ?_)
      have hF := hF v4 ev4 gv4
      refine j_icmp_eq hJ 114 g3 gv4 dX0_readCheck_96 (by decide) (fun z5 => ?_) (fun z5 => ?_)
      · have hF := hF.1 z5
        refine j_iconst hJ dX0_readCheck_114 ?_
        refine j_goto hJ 119 dX0_readCheck_115 (by decide) ?_
        exact j_zret hJ rfl (by decide) dX0_readCheck_119 hF
      · have hF := hF.2 z5
        refine j_aload_n hJ dX0_readCheck_99 rfl 0 rfl ?_
        refine j_bipush hJ dX0_readCheck_100 (by decide) ?_
        refine j_aload_n hJ dX0_readCheck_102 rfl 0 rfl ?_
        refine j_gi hJ kC_280 fC_3_9 rfl fl_X0_98 dX0_readCheck_103 (fun v6 ev6 gv6 => ?_)
        have hF := hF v6 ev6 gv6
        refine j_iconst hJ dX0_readCheck_106 ?_
        refine j_iadd hJ dX0_readCheck_107 ?_
        have g7 := hF.1; have hF := hF.2
        refine j_callVz hJ (c_X0_fail (l := l) (D := D) (cy := cy) (ad := ad) hin) rfl om_23 ⟨rfl, rfl, Nat.le_of_ble_eq_true rfl, Nat.le_of_ble_eq_true rfl⟩ [.int (Ii 6), .int (Ii (v6 + 4))] mv_X0_130 hd_X0_failv kC_280 rfl rfl rfl (Nat.le_of_ble_eq_true rfl) dX0_readCheck_108 ⟨6, (v6 + 4), rfl, rk_6, g7, hF⟩ (fun r8 M9 gr8 qM9 => ?_)
        have hF := qM9 gr8
        refine j_if_eq hJ 118 (jz_ri gr8) dX0_readCheck_111 (by decide) (fun z10 => ?_) (fun z10 => ?_)
        · have hF := hF.1 z10
          refine j_iconst hJ dX0_readCheck_118 ?_
          exact j_zret hJ rfl (by decide) dX0_readCheck_119 hF
        · have hF := hF.2 z10
          refine j_iconst hJ dX0_readCheck_114 ?_
          refine j_goto hJ 119 dX0_readCheck_115 (by decide) ?_
          exact j_zret hJ rfl (by decide) dX0_readCheck_119 hF
    · have hF := hF.2 z1
      refine j_aload_n hJ dX0_readCheck_46 rfl 0 rfl ?_
      obtain ⟨c11, nc11, ec11, hc11, lc11, hF⟩ := hF
      refine j_gq hJ kC_280 fC_3_6 rfl fl_X0_26 dX0_readCheck_47 ec11 ?_
      refine j_aload_n hJ dX0_readCheck_50 rfl 0 rfl ?_
      refine j_gi hJ kC_280 fC_3_9 rfl fl_X0_98 dX0_readCheck_51 (fun v12 ev12 gv12 => ?_)
      have hF := hF v12 ev12 gv12
      refine j_iload_n hJ dX0_readCheck_54 rfl 2 rfl ?_
      refine j_iadd hJ dX0_readCheck_55 ?_
      have g13 := hF.1; have hF := hF.2
      refine j_iald hJ g13 hc11 hF.1 hF.2.1 dX0_readCheck_56 (fun v14 ev14 gv14 => ?_)
      have hF := hF.2.2 v14 ev14 gv14
      refine j_iload_n hJ dX0_readCheck_57 rfl 1 rfl ?_
      refine j_bipush hJ dX0_readCheck_58 (by decide) ?_
      refine j_iload_n hJ dX0_readCheck_60 rfl 2 rfl ?_
      refine j_imul hJ dX0_readCheck_61 ?_
      have g15 := hF.1; have hF := hF.2
      refine j_iushr hJ dX0_readCheck_62 ?_
      refine j_sipush hJ dX0_readCheck_63 (by decide) ?_
      refine j_iand hJ dX0_readCheck_66 ?_
      refine j_icmp_eq hJ 80 gv14 (ri_of _) dX0_readCheck_67 (by decide) (fun z16 => ?_) (fun z16 => ?_)
      · have hF := hF.1 z16
        refine j_iinc (lv' := [(2, .int (Ii (x2 + 1))), (0, .ref (ad 280)), (1, .int (Ii x1))]) (k := 2) hJ dX0_readCheck_80 rfl (by decide) rfl ?_
        have g17 := hF.1; have hF := hF.2
        refine j_goto hJ 41 dX0_readCheck_83 (by decide) ?_
        exact j_sub hJ [1, 2, 0] rfl (ih x1 (x2 + 1) _ gx1 g17 hF)
      · have hF := hF.2 z16
        refine j_aload_n hJ dX0_readCheck_70 rfl 0 rfl ?_
        refine j_iconst hJ dX0_readCheck_71 ?_
        refine j_aload_n hJ dX0_readCheck_72 rfl 0 rfl ?_
        refine j_gi hJ kC_280 fC_3_9 rfl fl_X0_98 dX0_readCheck_73 (fun v18 ev18 gv18 => ?_)
        have hF := hF v18 ev18 gv18
        refine j_callVz hJ (c_X0_fail (l := l) (D := D) (cy := cy) (ad := ad) hin) rfl om_23 ⟨rfl, rfl, Nat.le_of_ble_eq_true rfl, Nat.le_of_ble_eq_true rfl⟩ [.int (Ii 5), .int (Ii v18)] mv_X0_130 hd_X0_failv kC_280 rfl rfl rfl (Nat.le_of_ble_eq_true rfl) dX0_readCheck_76 ⟨5, v18, rfl, rk_5, gv18, hF⟩ (fun r19 M20 gr19 qM20 => ?_)
        have hF := qM20 gr19
        exact j_zret hJ rfl gr19 dX0_readCheck_79 hF
  intro x1 x2 M gx1 gx2 hF
  obtain ⟨n, hF⟩ := hF
  exact H9 n x1 x2 M gx1 gx2 hF
set_option maxHeartbeats 4000000 in
set_option maxRecDepth 100000 in
theorem c_X0_readCheck {l : Launch} {D : va_G} {cy : Nat → ClassId} {ad : Nat → Nat} (hin : jIn ad ksC.length) : jCN l D vwCl (tyC cy) cy ad ftC ksC (XtC ad) yX0_readCheck (.code yX0_readCheck cX0_readCheck 3 (some .boolean) :: Om) ({ frames := 1, cells := 0, slots := 0, locals := 24 } : Room) 3 (W_X0_readCheck ad) := by
  refine jCN_of (y := yX0_readCheck) (cc := cX0_readCheck) (nL := 3) (rk := 3) (rm := ({ frames := 1, cells := 0, slots := 0, locals := 24 } : Room)) (own := RX0) (tyC_ok cy) hin (XtC_ok ad) Om_good (by decide) rfl ?_
  intro Q av M hF
  obtain ⟨rfl, hF⟩ := hF
  refine ⟨Nat.le_of_ble_eq_true rfl, fun J hJ => ?_⟩
  show J 0 [(0, .ref (ad 280))] [] M
  unfold w_X0_readCheck at hF
  refine j_aload_n hJ dX0_readCheck_0 rfl 0 rfl ?_
  refine j_gi hJ kC_280 fC_3_8 rfl fl_X0_95 dX0_readCheck_1 (fun v1 ev1 gv1 => ?_)
  have hF := hF v1 ev1 gv1
  refine j_aload_n hJ dX0_readCheck_4 rfl 0 rfl ?_
  refine j_gi hJ kC_280 fC_3_9 rfl fl_X0_98 dX0_readCheck_5 (fun v2 ev2 gv2 => ?_)
  have hF := hF v2 ev2 gv2
  refine j_isub hJ dX0_readCheck_8 ?_
  have g3 := hF.1; have hF := hF.2
  refine j_iconst hJ dX0_readCheck_9 ?_
  refine j_icmp_ge hJ 23 g3 rk_4 dX0_readCheck_10 (by decide) (fun z4 => ?_) (fun z4 => ?_)
  · have hF := hF.1 z4
    refine j_aload_n hJ dX0_readCheck_23 rfl 0 rfl ?_
    obtain ⟨c5, nc5, ec5, hc5, lc5, hF⟩ := hF
    refine j_gq hJ kC_280 fC_3_6 rfl fl_X0_26 dX0_readCheck_24 ec5 ?_
    refine j_aload_n hJ dX0_readCheck_27 rfl 0 rfl ?_
    refine j_gi hJ kC_280 fC_3_7 rfl fl_X0_92 dX0_readCheck_28 (fun v6 ev6 gv6 => ?_)
    have hF := hF v6 ev6 gv6
    refine j_aload_n hJ dX0_readCheck_31 rfl 0 rfl ?_
    refine j_gi hJ kC_280 fC_3_9 rfl fl_X0_98 dX0_readCheck_32 (fun v7 ev7 gv7 => ?_)
    have hF := hF v7 ev7 gv7
    refine j_callSi hJ (c_X0_checkOf (l := l) (D := D) (cy := cy) (ad := ad) hin) rfl om_15 ⟨rfl, rfl, Nat.le_of_ble_eq_true rfl, Nat.le_of_ble_eq_true rfl⟩ [.ref (ad c5), .int (Ii v6), .int (Ii v7)] mv_X0_85 hd_X0_checkOf rfl (Nat.le_of_ble_eq_true rfl) dX0_readCheck_35 ⟨c5, nc5, v6, v7, rfl, hc5, lc5, gv6, gv7, hF⟩ (fun r8 M9 gr8 qM9 => ?_)
    have hF := qM9 gr8
    refine j_istore_n (lv' := [(1, .int (Ii r8)), (0, .ref (ad 280))]) hJ dX0_readCheck_38 rfl (by decide) rfl ?_
    refine j_iconst hJ dX0_readCheck_39 ?_
    refine j_istore_n (lv' := [(2, .int (Ii 0)), (1, .int (Ii r8)), (0, .ref (ad 280))]) hJ dX0_readCheck_40 rfl (by decide) rfl ?_
    exact j_sub hJ [2, 1, 0] rfl (k_X0_readCheck_b41 hin  hJ  r8 0 _ gr8 rk_0 hF)
  · have hF := hF.2 z4
    refine j_aload_n hJ dX0_readCheck_13 rfl 0 rfl ?_
    refine j_iconst hJ dX0_readCheck_14 ?_
    refine j_aload_n hJ dX0_readCheck_15 rfl 0 rfl ?_
    refine j_gi hJ kC_280 fC_3_8 rfl fl_X0_95 dX0_readCheck_16 (fun v10 ev10 gv10 => ?_)
    have hF := hF v10 ev10 gv10
    refine j_callVz hJ (c_X0_fail (l := l) (D := D) (cy := cy) (ad := ad) hin) rfl om_23 ⟨rfl, rfl, Nat.le_of_ble_eq_true rfl, Nat.le_of_ble_eq_true rfl⟩ [.int (Ii 1), .int (Ii v10)] mv_X0_130 hd_X0_failv kC_280 rfl rfl rfl (Nat.le_of_ble_eq_true rfl) dX0_readCheck_19 ⟨1, v10, rfl, rk_1, gv10, hF⟩ (fun r11 M12 gr11 qM12 => ?_)
    have hF := qM12 gr11
    exact j_zret hJ rfl gr11 dX0_readCheck_22 hF
def W_X5_setWay (ad : Nat → Nat) (Q : Int → MM → Prop) (av : List Value) (M : MM) : Prop := ∃ (c : Nat) (p1 : Int) (p2 : Int) (p3 : Int), av = [.ref (ad c), .int (Ii p1), .int (Ii p2), .int (Ii p3)] ∧ isP c ∧ ri_ p1 ∧ ri_ p2 ∧ ri_ p3 ∧ w_X5_setWay c Q p1 p2 p3 M
set_option maxHeartbeats 4000000 in
set_option maxRecDepth 100000 in
theorem k_X5_setWay_b36 {l : Launch} {D : va_G} {cy : Nat → ClassId} {ad : Nat → Nat} {Q : Int → MM → Prop} {J : Nat → List (Nat × Value) → List Value → MM → Prop} (hin : jIn ad ksC.length) {c : Nat} (hc : isP c) (hJ : jOk l D vwCl (tyC cy) cy ad ftC ksC (XtC ad) Om RX5 cX5_setWay 4 0 ({ frames := 0, cells := 0, slots := 0, locals := 0 } : Room) Q J)  : ∀ (s0 s1 : Int) (M : MM), ri_ s0 → ri_ s1 → w_X5_setWay_b36 c Q  s0 s1 M → J 36 [] [.int (Ii s0), .int (Ii s1), .ref (ad (c + 5))] M := by
  intro s0 s1 M gs0 gs1 hF
  unfold w_X5_setWay_b36 at hF
  refine j_iast hJ gs1 gs0 (kP_5 hc) hF.1 hF.2.1 dX5_setWay_36 (fun M1 eM1 => ?_)
  have hF := hF.2.2 M1 eM1
  exact j_vret hJ rfl dX5_setWay_37 hF
set_option maxHeartbeats 4000000 in
set_option maxRecDepth 100000 in
theorem c_X5_setWay {l : Launch} {D : va_G} {cy : Nat → ClassId} {ad : Nat → Nat} (hin : jIn ad ksC.length) : jCN l D vwCl (tyC cy) cy ad ftC ksC (XtC ad) yX5_setWay (.code yX5_setWay cX5_setWay 4 none :: Om) ({ frames := 0, cells := 0, slots := 0, locals := 0 } : Room) 0 (W_X5_setWay ad) := by
  refine jCN_of (y := yX5_setWay) (cc := cX5_setWay) (nL := 4) (rk := 0) (rm := ({ frames := 0, cells := 0, slots := 0, locals := 0 } : Room)) (own := RX5) (tyC_ok cy) hin (XtC_ok ad) Om_good (by decide) rfl ?_
  intro Q av M hF
  obtain ⟨c, p1, p2, p3, rfl, hc, gp1, gp2, gp3, hF⟩ := hF
  refine ⟨Nat.le_of_ble_eq_true rfl, fun J hJ => ?_⟩
  show J 0 [(0, .ref (ad c)), (1, .int (Ii p1)), (2, .int (Ii p2)), (3, .int (Ii p3))] [] M
  unfold w_X5_setWay at hF
  refine j_aload_n hJ dX5_setWay_0 rfl 0 rfl ?_
  refine j_gr (e := (c + 6)) hJ (kP_0 hc) fC_8_6 fl_X5_27 dX5_setWay_1 rfl ?_
  refine j_iload_n hJ dX5_setWay_4 rfl 1 rfl ?_
  refine j_iload_n hJ dX5_setWay_5 rfl 2 rfl ?_
  refine j_iast hJ gp1 gp2 (kP_6 hc) hF.1 hF.2.1 dX5_setWay_6 (fun M1 eM1 => ?_)
  have hF := hF.2.2 M1 eM1
  refine j_aload_n hJ dX5_setWay_7 rfl 0 rfl ?_
  refine j_gr (e := (c + 7)) hJ (kP_0 hc) fC_8_7 fl_X5_30 dX5_setWay_8 rfl ?_
  refine j_iload_n hJ dX5_setWay_11 rfl 1 rfl ?_
  refine j_iload_n hJ dX5_setWay_12 rfl 3 rfl ?_
  refine j_iast hJ gp1 gp3 (kP_7 hc) hF.1 hF.2.1 dX5_setWay_13 (fun M2 eM2 => ?_)
  have hF := hF.2.2 M2 eM2
  refine j_aload_n hJ dX5_setWay_14 rfl 0 rfl ?_
  refine j_gr (e := (c + 5)) hJ (kP_0 hc) fC_8_5 fl_X5_24 dX5_setWay_15 rfl ?_
  refine j_iload_n hJ dX5_setWay_18 rfl 1 rfl ?_
  refine j_iload_n hJ dX5_setWay_19 rfl 2 rfl ?_
  refine j_iconst hJ dX5_setWay_20 ?_
  refine j_icmp_ne hJ 28 gp2 rk_m1 dX5_setWay_21 (by decide) (fun z3 => ?_) (fun z3 => ?_)
  · have hF := hF.1 z3
    refine j_aload_n hJ dX5_setWay_28 rfl 0 rfl ?_
    refine j_gr (e := (c + 5)) hJ (kP_0 hc) fC_8_5 fl_X5_24 dX5_setWay_29 rfl ?_
    refine j_iload_n hJ dX5_setWay_32 rfl 2 rfl ?_
    refine j_iald hJ gp2 (kP_5 hc) hF.1 hF.2.1 dX5_setWay_33 (fun v4 ev4 gv4 => ?_)
    have hF := hF.2.2 v4 ev4 gv4
    refine j_iconst hJ dX5_setWay_34 ?_
    refine j_iadd hJ dX5_setWay_35 ?_
    have g5 := hF.1; have hF := hF.2
    exact j_sub hJ [] rfl (k_X5_setWay_b36 hin hc hJ  (v4 + 1) p1 _ g5 gp1 hF)
  · have hF := hF.2 z3
    refine j_iconst hJ dX5_setWay_24 ?_
    refine j_goto hJ 36 dX5_setWay_25 (by decide) ?_
    exact j_sub hJ [] rfl (k_X5_setWay_b36 hin hc hJ  0 p1 _ rk_0 gp1 hF)
def W_X5_findWays (ad : Nat → Nat) (Q : Int → MM → Prop) (av : List Value) (M : MM) : Prop := ∃ (c : Nat), av = [.ref (ad c)] ∧ isP c ∧ w_X5_findWays c Q  M
set_option maxHeartbeats 4000000 in
set_option maxRecDepth 100000 in
theorem k_X5_findWays_b150 {l : Launch} {D : va_G} {cy : Nat → ClassId} {ad : Nat → Nat} {Q : Int → MM → Prop} {J : Nat → List (Nat × Value) → List Value → MM → Prop} (hin : jIn ad ksC.length) {c : Nat} (hc : isP c) (hJ : jOk l D vwCl (tyC cy) cy ad ftC ksC (XtC ad) Om RX5 cX5_findWays 4 1 ({ frames := 1, cells := 0, slots := 0, locals := 23 } : Room) Q J) {K57 : Int → Int → MM → Prop} (hK57 : ∀ (x1 x2 : Int) (M : MM), ri_ x1 → ri_ x2 → K57 x1 x2 M → J 57 [(0, .ref (ad c)), (1, .int (Ii x1)), (2, .int (Ii x2))] [] M) {K77 : Int → Int → Int → MM → Prop} (hK77 : ∀ (x1 x2 x3 : Int) (M : MM), ri_ x1 → ri_ x2 → ri_ x3 → K77 x1 x2 x3 M → J 77 [(0, .ref (ad c)), (1, .int (Ii x1)), (2, .int (Ii x2)), (3, .int (Ii x3))] [] M) : ∀ (x1 x2 x3 : Int) (M : MM), ri_ x1 → ri_ x2 → ri_ x3 → w_X5_findWays_b150 c Q K57 K77 x1 x2 x3 M → J 150 [(0, .ref (ad c)), (1, .int (Ii x1)), (2, .int (Ii x2)), (3, .int (Ii x3))] [] M := by
  intro x1 x2 x3 M gx1 gx2 gx3 hF
  unfold w_X5_findWays_b150 at hF
  refine j_iinc (lv' := [(3, .int (Ii (x3 + 1))), (0, .ref (ad c)), (1, .int (Ii x1)), (2, .int (Ii x2))]) (k := 3) hJ dX5_findWays_150 rfl (by decide) rfl ?_
  have g1 := hF.1; have hF := hF.2
  refine j_goto hJ 77 dX5_findWays_153 (by decide) ?_
  exact j_sub hJ [1, 2, 3, 0] rfl (hK77 x1 x2 (x3 + 1) _ gx1 gx2 g1 hF)
set_option maxHeartbeats 4000000 in
set_option maxRecDepth 100000 in
theorem k_X5_findWays_b112 {l : Launch} {D : va_G} {cy : Nat → ClassId} {ad : Nat → Nat} {Q : Int → MM → Prop} {J : Nat → List (Nat × Value) → List Value → MM → Prop} (hin : jIn ad ksC.length) {c : Nat} (hc : isP c) (hJ : jOk l D vwCl (tyC cy) cy ad ftC ksC (XtC ad) Om RX5 cX5_findWays 4 1 ({ frames := 1, cells := 0, slots := 0, locals := 23 } : Room) Q J) {K57 : Int → Int → MM → Prop} (hK57 : ∀ (x1 x2 : Int) (M : MM), ri_ x1 → ri_ x2 → K57 x1 x2 M → J 57 [(0, .ref (ad c)), (1, .int (Ii x1)), (2, .int (Ii x2))] [] M) {K77 : Int → Int → Int → MM → Prop} (hK77 : ∀ (x1 x2 x3 : Int) (M : MM), ri_ x1 → ri_ x2 → ri_ x3 → K77 x1 x2 x3 M → J 77 [(0, .ref (ad c)), (1, .int (Ii x1)), (2, .int (Ii x2)), (3, .int (Ii x3))] [] M) : ∀ (x1 x2 x3 : Int) (M : MM), ri_ x1 → ri_ x2 → ri_ x3 → w_X5_findWays_b112 c Q K57 K77 x1 x2 x3 M → J 112 [(0, .ref (ad c)), (1, .int (Ii x1)), (2, .int (Ii x2)), (3, .int (Ii x3))] [] M := by
  intro x1 x2 x3 M gx1 gx2 gx3 hF
  unfold w_X5_findWays_b112 at hF
  refine j_aload_n hJ dX5_findWays_112 rfl 0 rfl ?_
  refine j_gr (e := (c + 10)) hJ (kP_0 hc) fC_8_10 fl_X5_48 dX5_findWays_113 rfl ?_
  refine j_iload_n hJ dX5_findWays_116 rfl 3 rfl ?_
  refine j_zald hJ gx3 (kP_10 hc) hF.1 hF.2.1 dX5_findWays_117 (fun v1 ev1 gv1 => ?_)
  have hF := hF.2.2 v1 ev1 gv1
  refine j_if_eq hJ 150 (jz_ri gv1) dX5_findWays_118 (by decide) (fun z2 => ?_) (fun z2 => ?_)
  · have hF := hF.1 z2
    exact j_sub hJ [0, 1, 2, 3] rfl (k_X5_findWays_b150 hin hc hJ hK57 hK77 x1 x2 x3 _ gx1 gx2 gx3 hF)
  · have hF := hF.2 z2
    refine j_aload_n hJ dX5_findWays_121 rfl 0 rfl ?_
    refine j_gr (e := (c + 9)) hJ (kP_0 hc) fC_8_9 fl_X5_44 dX5_findWays_122 rfl ?_
    refine j_iload_n hJ dX5_findWays_125 rfl 3 rfl ?_
    refine j_lald hJ gx3 (kP_9 hc) hF.1 hF.2.1 dX5_findWays_126 (fun v3 ev3 gv3 => ?_)
    have hF := hF.2.2 v3 ev3 gv3
    refine j_iload_n hJ dX5_findWays_127 rfl 1 rfl ?_
    refine j_i2l hJ gx1 dX5_findWays_128 ?_
    refine j_lcmp_ne hJ 150 gv3 (rl_ri gx1) dX5_findWays_129 dX5_findWays_130 (by decide) (fun z4 => ?_) (fun z4 => ?_)
    · have hF := hF.1 z4
      exact j_sub hJ [0, 1, 2, 3] rfl (k_X5_findWays_b150 hin hc hJ hK57 hK77 x1 x2 x3 _ gx1 gx2 gx3 hF)
    · have hF := hF.2 z4
      refine j_aload_n hJ dX5_findWays_133 rfl 0 rfl ?_
      refine j_iload_n hJ dX5_findWays_134 rfl 1 rfl ?_
      refine j_iload_n hJ dX5_findWays_135 rfl 2 rfl ?_
      refine j_iload_n hJ dX5_findWays_136 rfl 3 rfl ?_
      refine j_aload_n hJ dX5_findWays_137 rfl 0 rfl ?_
      refine j_gr (e := (c + 4)) hJ (kP_0 hc) fC_8_4 fl_X5_21 dX5_findWays_138 rfl ?_
      refine j_iload_n hJ dX5_findWays_141 rfl 2 rfl ?_
      refine j_iald hJ gx2 (kP_4 hc) hF.1 hF.2.1 dX5_findWays_142 (fun v5 ev5 gv5 => ?_)
      have hF := hF.2.2 v5 ev5 gv5
      refine j_isub hJ dX5_findWays_143 ?_
      have g6 := hF.1; have hF := hF.2
      refine j_callVv hJ (c_X5_setWay (l := l) (D := D) (cy := cy) (ad := ad) hin) rfl om_109 ⟨rfl, rfl, Nat.le_of_ble_eq_true rfl, Nat.le_of_ble_eq_true rfl⟩ [.int (Ii x1), .int (Ii x2), .int (Ii (x3 - v5))] mv_X5_148 hd_X5_setWayv (kP_0 hc) rfl rfl rfl (Nat.le_of_ble_eq_true rfl) dX5_findWays_144 ⟨c, x1, x2, (x3 - v5), rfl, hc, gx1, gx2, g6, hF⟩ (fun M8 qM8 => ?_)
      have hF := qM8
      refine j_iinc (lv' := [(1, .int (Ii (x1 + 1))), (0, .ref (ad c)), (2, .int (Ii x2)), (3, .int (Ii x3))]) (k := 1) hJ dX5_findWays_147 rfl (by decide) rfl ?_
      have g9 := hF.1; have hF := hF.2
      exact j_sub hJ [1, 0, 2, 3] rfl (k_X5_findWays_b150 hin hc hJ hK57 hK77 (x1 + 1) x2 x3 _ g9 gx2 gx3 hF)
set_option maxHeartbeats 4000000 in
set_option maxRecDepth 100000 in
theorem k_X5_findWays_b77 {l : Launch} {D : va_G} {cy : Nat → ClassId} {ad : Nat → Nat} {Q : Int → MM → Prop} {J : Nat → List (Nat × Value) → List Value → MM → Prop} (hin : jIn ad ksC.length) {c : Nat} (hc : isP c) (hJ : jOk l D vwCl (tyC cy) cy ad ftC ksC (XtC ad) Om RX5 cX5_findWays 4 1 ({ frames := 1, cells := 0, slots := 0, locals := 23 } : Room) Q J) {K57 : Int → Int → MM → Prop} (hK57 : ∀ (x1 x2 : Int) (M : MM), ri_ x1 → ri_ x2 → K57 x1 x2 M → J 57 [(0, .ref (ad c)), (1, .int (Ii x1)), (2, .int (Ii x2))] [] M) : ∀ (x1 x2 x3 : Int) (M : MM), ri_ x1 → ri_ x2 → ri_ x3 → w_X5_findWays_b77 c Q K57 x1 x2 x3 M → J 77 [(0, .ref (ad c)), (1, .int (Ii x1)), (2, .int (Ii x2)), (3, .int (Ii x3))] [] M := by
  have H9 : ∀ (n : Nat) (x1 x2 x3 : Int) (M : MM), ri_ x1 → ri_ x2 → ri_ x3 → jit (fun _ _ _ _ => False) (wb_X5_findWays_b77 c Q K57) n x1 x2 x3 M → J 77 [(0, .ref (ad c)), (1, .int (Ii x1)), (2, .int (Ii x2)), (3, .int (Ii x3))] [] M := by
    intro n
    induction n with
    | zero => intro x1 x2 x3 M gx1 gx2 gx3 hF; exact False.elim hF
    | succ n ih =>
    intro x1 x2 x3 M gx1 gx2 gx3 hF
    have hF : wb_X5_findWays_b77 c Q K57 (jit (fun _ _ _ _ => False) (wb_X5_findWays_b77 c Q K57) n) x1 x2 x3 M := hF
    unfold wb_X5_findWays_b77 at hF
    refine j_iload_n hJ dX5_findWays_77 rfl 3 rfl ?_
    refine j_aload_n hJ dX5_findWays_78 rfl 0 rfl ?_
    refine j_gr (e := (c + 4)) hJ (kP_0 hc) fC_8_4 fl_X5_21 dX5_findWays_79 rfl ?_
    refine j_iload_n hJ dX5_findWays_82 rfl 2 rfl ?_
    refine j_iconst hJ dX5_findWays_83 ?_
    refine j_iadd hJ dX5_findWays_84 ?_
    have g1 := hF.1; have hF := hF.2
    refine j_iald hJ g1 (kP_4 hc) hF.1 hF.2.1 dX5_findWays_85 (fun v2 ev2 gv2 => ?_)
    have hF := hF.2.2 v2 ev2 gv2
    refine j_icmp_ge hJ 156 gx3 gv2 dX5_findWays_86 (by decide) (fun z3 => ?_) (fun z3 => ?_)
    · have hF := hF.1 z3
      refine j_iinc (lv' := [(2, .int (Ii (x2 + 1))), (0, .ref (ad c)), (1, .int (Ii x1)), (3, .int (Ii x3))]) (k := 2) hJ dX5_findWays_156 rfl (by decide) rfl ?_
      have g4 := hF.1; have hF := hF.2
      refine j_goto hJ 57 dX5_findWays_159 (by decide) ?_
      exact j_sub hJ [1, 2, 0] rfl (hK57 x1 (x2 + 1) _ gx1 g4 hF)
    · have hF := hF.2 z3
      refine j_aload_n hJ dX5_findWays_89 rfl 0 rfl ?_
      refine j_gr (e := (c + 10)) hJ (kP_0 hc) fC_8_10 fl_X5_48 dX5_findWays_90 rfl ?_
      refine j_iload_n hJ dX5_findWays_93 rfl 3 rfl ?_
      refine j_zald hJ gx3 (kP_10 hc) hF.1 hF.2.1 dX5_findWays_94 (fun v5 ev5 gv5 => ?_)
      have hF := hF.2.2 v5 ev5 gv5
      refine j_if_eq hJ 112 (jz_ri gv5) dX5_findWays_95 (by decide) (fun z6 => ?_) (fun z6 => ?_)
      · have hF := hF.1 z6
        exact j_sub hJ [0, 1, 2, 3] rfl (k_X5_findWays_b112 hin hc hJ hK57 ih x1 x2 x3 _ gx1 gx2 gx3 hF)
      · have hF := hF.2 z6
        refine j_aload_n hJ dX5_findWays_98 rfl 0 rfl ?_
        refine j_gr (e := (c + 9)) hJ (kP_0 hc) fC_8_9 fl_X5_44 dX5_findWays_99 rfl ?_
        refine j_iload_n hJ dX5_findWays_102 rfl 3 rfl ?_
        refine j_lald hJ gx3 (kP_9 hc) hF.1 hF.2.1 dX5_findWays_103 (fun v7 ev7 gv7 => ?_)
        have hF := hF.2.2 v7 ev7 gv7
        refine j_iload_n hJ dX5_findWays_104 rfl 1 rfl ?_
        refine j_i2l hJ gx1 dX5_findWays_105 ?_
        refine j_lcmp_le hJ 112 gv7 (rl_ri gx1) dX5_findWays_106 dX5_findWays_107 (by decide) (fun z8 => ?_) (fun z8 => ?_)
        · have hF := hF.1 z8
          exact j_sub hJ [0, 1, 2, 3] rfl (k_X5_findWays_b112 hin hc hJ hK57 ih x1 x2 x3 _ gx1 gx2 gx3 hF)
        · have hF := hF.2 z8
          refine j_iload_n hJ dX5_findWays_110 rfl 1 rfl ?_
          exact j_iret hJ rfl gx1 dX5_findWays_111 hF
  intro x1 x2 x3 M gx1 gx2 gx3 hF
  obtain ⟨n, hF⟩ := hF
  exact H9 n x1 x2 x3 M gx1 gx2 gx3 hF
set_option maxHeartbeats 4000000 in
set_option maxRecDepth 100000 in
theorem k_X5_findWays_b57 {l : Launch} {D : va_G} {cy : Nat → ClassId} {ad : Nat → Nat} {Q : Int → MM → Prop} {J : Nat → List (Nat × Value) → List Value → MM → Prop} (hin : jIn ad ksC.length) {c : Nat} (hc : isP c) (hJ : jOk l D vwCl (tyC cy) cy ad ftC ksC (XtC ad) Om RX5 cX5_findWays 4 1 ({ frames := 1, cells := 0, slots := 0, locals := 23 } : Room) Q J)  : ∀ (x1 x2 : Int) (M : MM), ri_ x1 → ri_ x2 → w_X5_findWays_b57 c Q  x1 x2 M → J 57 [(0, .ref (ad c)), (1, .int (Ii x1)), (2, .int (Ii x2))] [] M := by
  have H9 : ∀ (n : Nat) (x1 x2 : Int) (M : MM), ri_ x1 → ri_ x2 → jit (fun _ _ _ => False) (wb_X5_findWays_b57 c Q ) n x1 x2 M → J 57 [(0, .ref (ad c)), (1, .int (Ii x1)), (2, .int (Ii x2))] [] M := by
    intro n
    induction n with
    | zero => intro x1 x2 M gx1 gx2 hF; exact False.elim hF
    | succ n ih =>
    intro x1 x2 M gx1 gx2 hF
    have hF : wb_X5_findWays_b57 c Q  (jit (fun _ _ _ => False) (wb_X5_findWays_b57 c Q ) n) x1 x2 M := hF
    unfold wb_X5_findWays_b57 at hF
    refine j_iload_n hJ dX5_findWays_57 rfl 2 rfl ?_
    refine j_iload_n hJ dX5_findWays_58 rfl 1 rfl ?_
    refine j_icmp_ge hJ 162 gx2 gx1 dX5_findWays_59 (by decide) (fun z1 => ?_) (fun z1 => ?_)
    · have hF := hF.1 z1
      refine j_iload_n hJ dX5_findWays_162 rfl 1 rfl ?_
      exact j_iret hJ rfl gx1 dX5_findWays_163 hF
    · have hF := hF.2 z1
      refine j_iload_n hJ dX5_findWays_62 rfl 2 rfl ?_
      refine j_aload_n hJ dX5_findWays_63 rfl 0 rfl ?_
      refine j_gi hJ (kP_0 hc) fC_8_0 rfl fl_X5_82 dX5_findWays_64 (fun v2 ev2 gv2 => ?_)
      have hF := hF v2 ev2 gv2
      refine j_icmp_ge hJ 162 gx2 gv2 dX5_findWays_67 (by decide) (fun z3 => ?_) (fun z3 => ?_)
      · have hF := hF.1 z3
        refine j_iload_n hJ dX5_findWays_162 rfl 1 rfl ?_
        exact j_iret hJ rfl gx1 dX5_findWays_163 hF
      · have hF := hF.2 z3
        refine j_aload_n hJ dX5_findWays_70 rfl 0 rfl ?_
        refine j_gr (e := (c + 4)) hJ (kP_0 hc) fC_8_4 fl_X5_21 dX5_findWays_71 rfl ?_
        refine j_iload_n hJ dX5_findWays_74 rfl 2 rfl ?_
        refine j_iald hJ gx2 (kP_4 hc) hF.1 hF.2.1 dX5_findWays_75 (fun v4 ev4 gv4 => ?_)
        have hF := hF.2.2 v4 ev4 gv4
        refine j_istore_n (lv' := [(3, .int (Ii v4)), (0, .ref (ad c)), (1, .int (Ii x1)), (2, .int (Ii x2))]) hJ dX5_findWays_76 rfl (by decide) rfl ?_
        exact j_sub hJ [1, 2, 3, 0] rfl (k_X5_findWays_b77 hin hc hJ ih x1 x2 v4 _ gx1 gx2 gv4 hF)
  intro x1 x2 M gx1 gx2 hF
  obtain ⟨n, hF⟩ := hF
  exact H9 n x1 x2 M gx1 gx2 hF
set_option maxHeartbeats 4000000 in
set_option maxRecDepth 100000 in
theorem k_X5_findWays_b49 {l : Launch} {D : va_G} {cy : Nat → ClassId} {ad : Nat → Nat} {Q : Int → MM → Prop} {J : Nat → List (Nat × Value) → List Value → MM → Prop} (hin : jIn ad ksC.length) {c : Nat} (hc : isP c) (hJ : jOk l D vwCl (tyC cy) cy ad ftC ksC (XtC ad) Om RX5 cX5_findWays 4 1 ({ frames := 1, cells := 0, slots := 0, locals := 23 } : Room) Q J) {K4 : Int → Int → MM → Prop} (hK4 : ∀ (x1 x2 : Int) (M : MM), ri_ x1 → ri_ x2 → K4 x1 x2 M → J 4 [(0, .ref (ad c)), (1, .int (Ii x1)), (2, .int (Ii x2))] [] M) : ∀ (x1 x2 : Int) (M : MM), ri_ x1 → ri_ x2 → w_X5_findWays_b49 c Q K4 x1 x2 M → J 49 [(0, .ref (ad c)), (1, .int (Ii x1)), (2, .int (Ii x2))] [] M := by
  intro x1 x2 M gx1 gx2 hF
  unfold w_X5_findWays_b49 at hF
  refine j_iinc (lv' := [(2, .int (Ii (x2 + 1))), (0, .ref (ad c)), (1, .int (Ii x1))]) (k := 2) hJ dX5_findWays_49 rfl (by decide) rfl ?_
  have g1 := hF.1; have hF := hF.2
  refine j_goto hJ 4 dX5_findWays_52 (by decide) ?_
  exact j_sub hJ [1, 2, 0] rfl (hK4 x1 (x2 + 1) _ gx1 g1 hF)
set_option maxHeartbeats 4000000 in
set_option maxRecDepth 100000 in
theorem k_X5_findWays_b4 {l : Launch} {D : va_G} {cy : Nat → ClassId} {ad : Nat → Nat} {Q : Int → MM → Prop} {J : Nat → List (Nat × Value) → List Value → MM → Prop} (hin : jIn ad ksC.length) {c : Nat} (hc : isP c) (hJ : jOk l D vwCl (tyC cy) cy ad ftC ksC (XtC ad) Om RX5 cX5_findWays 4 1 ({ frames := 1, cells := 0, slots := 0, locals := 23 } : Room) Q J)  : ∀ (x1 x2 : Int) (M : MM), ri_ x1 → ri_ x2 → w_X5_findWays_b4 c Q  x1 x2 M → J 4 [(0, .ref (ad c)), (1, .int (Ii x1)), (2, .int (Ii x2))] [] M := by
  have H9 : ∀ (n : Nat) (x1 x2 : Int) (M : MM), ri_ x1 → ri_ x2 → jit (fun _ _ _ => False) (wb_X5_findWays_b4 c Q ) n x1 x2 M → J 4 [(0, .ref (ad c)), (1, .int (Ii x1)), (2, .int (Ii x2))] [] M := by
    intro n
    induction n with
    | zero => intro x1 x2 M gx1 gx2 hF; exact False.elim hF
    | succ n ih =>
    intro x1 x2 M gx1 gx2 hF
    have hF : wb_X5_findWays_b4 c Q  (jit (fun _ _ _ => False) (wb_X5_findWays_b4 c Q ) n) x1 x2 M := hF
    unfold wb_X5_findWays_b4 at hF
    refine j_iload_n hJ dX5_findWays_4 rfl 2 rfl ?_
    refine j_aload_n hJ dX5_findWays_5 rfl 0 rfl ?_
    refine j_gi hJ (kP_0 hc) fC_8_11 rfl fl_X5_86 dX5_findWays_6 (fun v1 ev1 gv1 => ?_)
    have hF := hF v1 ev1 gv1
    refine j_icmp_ge hJ 55 gx2 gv1 dX5_findWays_9 (by decide) (fun z2 => ?_) (fun z2 => ?_)
    · have hF := hF.1 z2
      refine j_iconst hJ dX5_findWays_55 ?_
      refine j_istore_n (lv' := [(2, .int (Ii 0)), (0, .ref (ad c)), (1, .int (Ii x1))]) hJ dX5_findWays_56 rfl (by decide) rfl ?_
      exact j_sub hJ [1, 2, 0] rfl (k_X5_findWays_b57 hin hc hJ  x1 0 _ gx1 rk_0 hF)
    · have hF := hF.2 z2
      refine j_aload_n hJ dX5_findWays_12 rfl 0 rfl ?_
      refine j_gr (e := (c + 12)) hJ (kP_0 hc) fC_8_13 fl_X5_55 dX5_findWays_13 rfl ?_
      refine j_iload_n hJ dX5_findWays_16 rfl 2 rfl ?_
      refine j_iald hJ gx2 (kP_12 hc) hF.1 hF.2.1 dX5_findWays_17 (fun v3 ev3 gv3 => ?_)
      have hF := hF.2.2 v3 ev3 gv3
      refine j_iload_n hJ dX5_findWays_18 rfl 1 rfl ?_
      refine j_icmp_le hJ 24 gv3 gx1 dX5_findWays_19 (by decide) (fun z4 => ?_) (fun z4 => ?_)
      · have hF := hF.1 z4
        refine j_aload_n hJ dX5_findWays_24 rfl 0 rfl ?_
        refine j_gr (e := (c + 12)) hJ (kP_0 hc) fC_8_13 fl_X5_55 dX5_findWays_25 rfl ?_
        refine j_iload_n hJ dX5_findWays_28 rfl 2 rfl ?_
        refine j_iald hJ gx2 (kP_12 hc) hF.1 hF.2.1 dX5_findWays_29 (fun v5 ev5 gv5 => ?_)
        have hF := hF.2.2 v5 ev5 gv5
        refine j_iload_n hJ dX5_findWays_30 rfl 1 rfl ?_
        refine j_icmp_ne hJ 49 gv5 gx1 dX5_findWays_31 (by decide) (fun z6 => ?_) (fun z6 => ?_)
        · have hF := hF.1 z6
          exact j_sub hJ [0, 1, 2] rfl (k_X5_findWays_b49 hin hc hJ ih x1 x2 _ gx1 gx2 hF)
        · have hF := hF.2 z6
          refine j_aload_n hJ dX5_findWays_34 rfl 0 rfl ?_
          refine j_iload_n hJ dX5_findWays_35 rfl 1 rfl ?_
          refine j_iconst hJ dX5_findWays_36 ?_
          refine j_aload_n hJ dX5_findWays_37 rfl 0 rfl ?_
          refine j_gr (e := (c + 11)) hJ (kP_0 hc) fC_8_12 fl_X5_52 dX5_findWays_38 rfl ?_
          refine j_iload_n hJ dX5_findWays_41 rfl 2 rfl ?_
          refine j_iald hJ gx2 (kP_11 hc) hF.1 hF.2.1 dX5_findWays_42 (fun v7 ev7 gv7 => ?_)
          have hF := hF.2.2 v7 ev7 gv7
          refine j_callVv hJ (c_X5_setWay (l := l) (D := D) (cy := cy) (ad := ad) hin) rfl om_109 ⟨rfl, rfl, Nat.le_of_ble_eq_true rfl, Nat.le_of_ble_eq_true rfl⟩ [.int (Ii x1), .int (Ii (-1)), .int (Ii v7)] mv_X5_148 hd_X5_setWayv (kP_0 hc) rfl rfl rfl (Nat.le_of_ble_eq_true rfl) dX5_findWays_43 ⟨c, x1, (-1), v7, rfl, hc, gx1, rk_m1, gv7, hF⟩ (fun M9 qM9 => ?_)
          have hF := qM9
          refine j_iinc (lv' := [(1, .int (Ii (x1 + 1))), (0, .ref (ad c)), (2, .int (Ii x2))]) (k := 1) hJ dX5_findWays_46 rfl (by decide) rfl ?_
          have g10 := hF.1; have hF := hF.2
          exact j_sub hJ [1, 0, 2] rfl (k_X5_findWays_b49 hin hc hJ ih (x1 + 1) x2 _ g10 gx2 hF)
      · have hF := hF.2 z4
        refine j_iload_n hJ dX5_findWays_22 rfl 1 rfl ?_
        exact j_iret hJ rfl gx1 dX5_findWays_23 hF
  intro x1 x2 M gx1 gx2 hF
  obtain ⟨n, hF⟩ := hF
  exact H9 n x1 x2 M gx1 gx2 hF
set_option maxHeartbeats 4000000 in
set_option maxRecDepth 100000 in
theorem c_X5_findWays {l : Launch} {D : va_G} {cy : Nat → ClassId} {ad : Nat → Nat} (hin : jIn ad ksC.length) : jCN l D vwCl (tyC cy) cy ad ftC ksC (XtC ad) yX5_findWays (.code yX5_findWays cX5_findWays 4 (some .int) :: Om) ({ frames := 1, cells := 0, slots := 0, locals := 23 } : Room) 1 (W_X5_findWays ad) := by
  refine jCN_of (y := yX5_findWays) (cc := cX5_findWays) (nL := 4) (rk := 1) (rm := ({ frames := 1, cells := 0, slots := 0, locals := 23 } : Room)) (own := RX5) (tyC_ok cy) hin (XtC_ok ad) Om_good (by decide) rfl ?_
  intro Q av M hF
  obtain ⟨c, rfl, hc, hF⟩ := hF
  refine ⟨Nat.le_of_ble_eq_true rfl, fun J hJ => ?_⟩
  show J 0 [(0, .ref (ad c))] [] M
  unfold w_X5_findWays at hF
  refine j_iconst hJ dX5_findWays_0 ?_
  refine j_istore_n (lv' := [(1, .int (Ii 0)), (0, .ref (ad c))]) hJ dX5_findWays_1 rfl (by decide) rfl ?_
  refine j_iconst hJ dX5_findWays_2 ?_
  refine j_istore_n (lv' := [(2, .int (Ii 0)), (1, .int (Ii 0)), (0, .ref (ad c))]) hJ dX5_findWays_3 rfl (by decide) rfl ?_
  exact j_sub hJ [2, 1, 0] rfl (k_X5_findWays_b4 hin hc hJ  0 0 _ rk_0 rk_0 hF)
def W_X0_checkWalk (ad : Nat → Nat) (Q : Int → MM → Prop) (av : List Value) (M : MM) : Prop := ∃ (p1 : Nat), av = [.ref (ad 280), .ref (ad p1)] ∧ isP p1 ∧ w_X0_checkWalk p1 Q  M
set_option maxHeartbeats 4000000 in
set_option maxRecDepth 100000 in
theorem c_X0_checkWalk {l : Launch} {D : va_G} {cy : Nat → ClassId} {ad : Nat → Nat} (hin : jIn ad ksC.length) : jCN l D vwCl (tyC cy) cy ad ftC ksC (XtC ad) yX0_checkWalk (.code yX0_checkWalk cX0_checkWalk 3 (some .boolean) :: Om) ({ frames := 2, cells := 0, slots := 0, locals := 46 } : Room) 3 (W_X0_checkWalk ad) := by
  refine jCN_of (y := yX0_checkWalk) (cc := cX0_checkWalk) (nL := 3) (rk := 3) (rm := ({ frames := 2, cells := 0, slots := 0, locals := 46 } : Room)) (own := RX0) (tyC_ok cy) hin (XtC_ok ad) Om_good (by decide) rfl ?_
  intro Q av M hF
  obtain ⟨p1, rfl, hp1, hF⟩ := hF
  refine ⟨Nat.le_of_ble_eq_true rfl, fun J hJ => ?_⟩
  show J 0 [(0, .ref (ad 280)), (1, .ref (ad p1))] [] M
  unfold w_X0_checkWalk at hF
  refine j_aload_n hJ dX0_checkWalk_0 rfl 1 rfl ?_
  refine j_callVi hJ (c_X5_findWays (l := l) (D := D) (cy := cy) (ad := ad) hin) rfl om_113 ⟨rfl, rfl, Nat.le_of_ble_eq_true rfl, Nat.le_of_ble_eq_true rfl⟩ [] mv_X0_193 hd_X5_findWaysv (kP_0 hp1) rfl rfl rfl (Nat.le_of_ble_eq_true rfl) dX0_checkWalk_1 ⟨p1, rfl, hp1, hF⟩ (fun r1 M2 gr1 qM2 => ?_)
  have hF := qM2 gr1
  refine j_istore_n (lv' := [(2, .int (Ii r1)), (0, .ref (ad 280)), (1, .ref (ad p1))]) hJ dX0_checkWalk_4 rfl (by decide) rfl ?_
  refine j_iload_n hJ dX0_checkWalk_5 rfl 0 rfl ?_
  refine j_aload_n hJ dX0_checkWalk_6 rfl 2 rfl ?_
  refine j_gi hJ (kP_0 hp1) fC_8_0 rfl fl_X0_43 dX0_checkWalk_7 (fun v3 ev3 gv3 => ?_)
  have hF := hF v3 ev3 gv3
  refine j_icmp_eq hJ 28 gr1 gv3 dX0_checkWalk_10 (by decide) (fun z4 => ?_) (fun z4 => ?_)
  · have hF := hF.1 z4
    refine j_iconst hJ dX0_checkWalk_28 ?_
    refine j_goto hJ 33 dX0_checkWalk_29 (by decide) ?_
    exact j_zret hJ rfl (by decide) dX0_checkWalk_33 hF
  · have hF := hF.2 z4
    refine j_aload_n hJ dX0_checkWalk_13 rfl 1 rfl ?_
    refine j_bipush hJ dX0_checkWalk_14 (by decide) ?_
    refine j_aload_n hJ dX0_checkWalk_16 rfl 1 rfl ?_
    refine j_gr (e := 283) hJ kC_280 fC_3_11 fl_X0_29 dX0_checkWalk_17 rfl ?_
    refine j_iload_n hJ dX0_checkWalk_20 rfl 0 rfl ?_
    refine j_iald hJ gr1 kC_283 hF.1 hF.2.1 dX0_checkWalk_21 (fun v5 ev5 gv5 => ?_)
    have hF := hF.2.2 v5 ev5 gv5
    refine j_callVz hJ (c_X0_fail (l := l) (D := D) (cy := cy) (ad := ad) hin) rfl om_23 ⟨rfl, rfl, Nat.le_of_ble_eq_true rfl, Nat.le_of_ble_eq_true rfl⟩ [.int (Ii 7), .int (Ii v5)] mv_X0_130 hd_X0_failv kC_280 rfl rfl rfl (Nat.le_of_ble_eq_true rfl) dX0_checkWalk_22 ⟨7, v5, rfl, rk_7, gv5, hF⟩ (fun r6 M7 gr6 qM7 => ?_)
    have hF := qM7 gr6
    refine j_if_eq hJ 32 (jz_ri gr6) dX0_checkWalk_25 (by decide) (fun z8 => ?_) (fun z8 => ?_)
    · have hF := hF.1 z8
      refine j_iconst hJ dX0_checkWalk_32 ?_
      exact j_zret hJ rfl (by decide) dX0_checkWalk_33 hF
    · have hF := hF.2 z8
      refine j_iconst hJ dX0_checkWalk_28 ?_
      refine j_goto hJ 33 dX0_checkWalk_29 (by decide) ?_
      exact j_zret hJ rfl (by decide) dX0_checkWalk_33 hF
def W_X0_decode (ad : Nat → Nat) (Q : Int → MM → Prop) (av : List Value) (M : MM) : Prop := ∃ (p1 : Nat) (np1 : Nat) (p2 : Int) (p3 : Int) (p4 : Nat), av = [.ref (ad 280), .ref (ad p1), .int (Ii p2), .int (Ii p3), .ref (ad p4)] ∧ ksC[p1]? = some (0, np1) ∧ np1 < 2147483648 ∧ ri_ p2 ∧ ri_ p3 ∧ isP p4 ∧ w_X0_decode p1 np1 p4 Q p2 p3 M
set_option maxHeartbeats 4000000 in
set_option maxRecDepth 100000 in
theorem c_X0_decode {l : Launch} {D : va_G} {cy : Nat → ClassId} {ad : Nat → Nat} (hin : jIn ad ksC.length) : jCN l D vwCl (tyC cy) cy ad ftC ksC (XtC ad) yX0_decode (.code yX0_decode cX0_decode 5 (some .boolean) :: Om) ({ frames := 5, cells := 0, slots := 0, locals := 119 } : Room) 3 (W_X0_decode ad) := by
  refine jCN_of (y := yX0_decode) (cc := cX0_decode) (nL := 5) (rk := 3) (rm := ({ frames := 5, cells := 0, slots := 0, locals := 119 } : Room)) (own := RX0) (tyC_ok cy) hin (XtC_ok ad) Om_good (by decide) rfl ?_
  intro Q av M hF
  obtain ⟨p1, np1, p2, p3, p4, rfl, hp1, lp1, gp2, gp3, hp4, hF⟩ := hF
  refine ⟨Nat.le_of_ble_eq_true rfl, fun J hJ => ?_⟩
  show J 0 [(0, .ref (ad 280)), (1, .ref (ad p1)), (2, .int (Ii p2)), (3, .int (Ii p3)), (4, .ref (ad p4))] [] M
  unfold w_X0_decode at hF
  refine j_aload_n hJ dX0_decode_0 rfl 0 rfl ?_
  refine j_aload_n hJ dX0_decode_1 rfl 1 rfl ?_
  refine j_pqa hJ (ri_kC hp1) kC_280 fC_3_6 rfl fp_X0_26 dX0_decode_2 (fun M1 eM1 => ?_)
  have hF := hF M1 eM1
  refine j_aload_n hJ dX0_decode_5 rfl 0 rfl ?_
  refine j_iload_n hJ dX0_decode_6 rfl 2 rfl ?_
  refine j_pi hJ gp2 kC_280 fC_3_7 rfl fp_X0_92 dX0_decode_7 (fun M2 eM2 => ?_)
  have hF := hF M2 eM2
  refine j_aload_n hJ dX0_decode_10 rfl 0 rfl ?_
  refine j_iload_n hJ dX0_decode_11 rfl 3 rfl ?_
  refine j_pi hJ gp3 kC_280 fC_3_8 rfl fp_X0_95 dX0_decode_12 (fun M3 eM3 => ?_)
  have hF := hF M3 eM3
  refine j_aload_n hJ dX0_decode_15 rfl 0 rfl ?_
  refine j_iload_n hJ dX0_decode_16 rfl 2 rfl ?_
  refine j_pi hJ gp2 kC_280 fC_3_9 rfl fp_X0_98 dX0_decode_17 (fun M4 eM4 => ?_)
  have hF := hF M4 eM4
  refine j_aload_n hJ dX0_decode_20 rfl 0 rfl ?_
  refine j_iconst hJ dX0_decode_21 ?_
  refine j_pi hJ rk_0 kC_280 fC_3_13 rfl fp_X0_101 dX0_decode_22 (fun M5 eM5 => ?_)
  have hF := hF M5 eM5
  refine j_aload_n hJ dX0_decode_25 rfl 0 rfl ?_
  refine j_iconst hJ dX0_decode_26 ?_
  refine j_pi hJ rk_m1 kC_280 fC_3_14 rfl fp_X0_104 dX0_decode_27 (fun M6 eM6 => ?_)
  have hF := hF M6 eM6
  refine j_aload hJ dX0_decode_30 4 rfl ?_
  refine j_callVv hJ (c_X5_forget (l := l) (D := D) (cy := cy) (ad := ad) hin) rfl om_18 ⟨rfl, rfl, Nat.le_of_ble_eq_true rfl, Nat.le_of_ble_eq_true rfl⟩ [] mv_X0_107 hd_X5_forgetv (kP_0 hp4) rfl rfl rfl (Nat.le_of_ble_eq_true rfl) dX0_decode_32 ⟨p4, rfl, hp4, hF⟩ (fun M8 qM8 => ?_)
  have hF := qM8
  refine j_aload_n hJ dX0_decode_35 rfl 0 rfl ?_
  refine j_callVz hJ (c_X0_readMarks (l := l) (D := D) (cy := cy) (ad := ad) hin) rfl om_27 ⟨rfl, rfl, Nat.le_of_ble_eq_true rfl, Nat.le_of_ble_eq_true rfl⟩ [] mv_X0_110 hd_X0_readMarksv kC_280 rfl rfl rfl (Nat.le_of_ble_eq_true rfl) dX0_decode_36 ⟨rfl, hF⟩ (fun r9 M10 gr9 qM10 => ?_)
  have hF := qM10 gr9
  refine j_if_eq hJ 89 (jz_ri gr9) dX0_decode_39 (by decide) (fun z11 => ?_) (fun z11 => ?_)
  · have hF := hF.1 z11
    refine j_iconst hJ dX0_decode_89 ?_
    exact j_zret hJ rfl (by decide) dX0_decode_90 hF
  · have hF := hF.2 z11
    refine j_aload_n hJ dX0_decode_42 rfl 0 rfl ?_
    refine j_aload hJ dX0_decode_43 4 rfl ?_
    refine j_callVz hJ (c_X0_readThings (l := l) (D := D) (cy := cy) (ad := ad) hin) rfl om_76 ⟨rfl, rfl, Nat.le_of_ble_eq_true rfl, Nat.le_of_ble_eq_true rfl⟩ [.ref (ad p4)] mv_X0_114 hd_X0_readThingsv kC_280 rfl rfl rfl (Nat.le_of_ble_eq_true rfl) dX0_decode_45 ⟨p4, rfl, hp4, hF⟩ (fun r12 M13 gr12 qM13 => ?_)
    have hF := qM13 gr12
    refine j_if_eq hJ 89 (jz_ri gr12) dX0_decode_48 (by decide) (fun z14 => ?_) (fun z14 => ?_)
    · have hF := hF.1 z14
      refine j_iconst hJ dX0_decode_89 ?_
      exact j_zret hJ rfl (by decide) dX0_decode_90 hF
    · have hF := hF.2 z14
      refine j_aload_n hJ dX0_decode_51 rfl 0 rfl ?_
      refine j_aload hJ dX0_decode_52 4 rfl ?_
      refine j_callVz hJ (c_X0_checkLinks (l := l) (D := D) (cy := cy) (ad := ad) hin) rfl om_93 ⟨rfl, rfl, Nat.le_of_ble_eq_true rfl, Nat.le_of_ble_eq_true rfl⟩ [.ref (ad p4)] mv_X0_118 hd_X0_checkLinksv kC_280 rfl rfl rfl (Nat.le_of_ble_eq_true rfl) dX0_decode_54 ⟨p4, rfl, hp4, hF⟩ (fun r15 M16 gr15 qM16 => ?_)
      have hF := qM16 gr15
      refine j_if_eq hJ 89 (jz_ri gr15) dX0_decode_57 (by decide) (fun z17 => ?_) (fun z17 => ?_)
      · have hF := hF.1 z17
        refine j_iconst hJ dX0_decode_89 ?_
        exact j_zret hJ rfl (by decide) dX0_decode_90 hF
      · have hF := hF.2 z17
        refine j_aload_n hJ dX0_decode_60 rfl 0 rfl ?_
        refine j_aload hJ dX0_decode_61 4 rfl ?_
        refine j_callVz hJ (c_X0_readRoots (l := l) (D := D) (cy := cy) (ad := ad) hin) rfl om_101 ⟨rfl, rfl, Nat.le_of_ble_eq_true rfl, Nat.le_of_ble_eq_true rfl⟩ [.ref (ad p4)] mv_X0_121 hd_X0_readRootsv kC_280 rfl rfl rfl (Nat.le_of_ble_eq_true rfl) dX0_decode_63 ⟨p4, rfl, hp4, hF⟩ (fun r18 M19 gr18 qM19 => ?_)
        have hF := qM19 gr18
        refine j_if_eq hJ 89 (jz_ri gr18) dX0_decode_66 (by decide) (fun z20 => ?_) (fun z20 => ?_)
        · have hF := hF.1 z20
          refine j_iconst hJ dX0_decode_89 ?_
          exact j_zret hJ rfl (by decide) dX0_decode_90 hF
        · have hF := hF.2 z20
          refine j_aload_n hJ dX0_decode_69 rfl 0 rfl ?_
          refine j_callVz hJ (c_X0_readCheck (l := l) (D := D) (cy := cy) (ad := ad) hin) rfl om_105 ⟨rfl, rfl, Nat.le_of_ble_eq_true rfl, Nat.le_of_ble_eq_true rfl⟩ [] mv_X0_124 hd_X0_readCheckv kC_280 rfl rfl rfl (Nat.le_of_ble_eq_true rfl) dX0_decode_70 ⟨rfl, hF⟩ (fun r21 M22 gr21 qM22 => ?_)
          have hF := qM22 gr21
          refine j_if_eq hJ 89 (jz_ri gr21) dX0_decode_73 (by decide) (fun z23 => ?_) (fun z23 => ?_)
          · have hF := hF.1 z23
            refine j_iconst hJ dX0_decode_89 ?_
            exact j_zret hJ rfl (by decide) dX0_decode_90 hF
          · have hF := hF.2 z23
            refine j_aload_n hJ dX0_decode_76 rfl 0 rfl ?_
            refine j_aload hJ dX0_decode_77 4 rfl ?_
            refine j_callVz hJ (c_X0_checkWalk (l := l) (D := D) (cy := cy) (ad := ad) hin) rfl om_117 ⟨rfl, rfl, Nat.le_of_ble_eq_true rfl, Nat.le_of_ble_eq_true rfl⟩ [.ref (ad p4)] mv_X0_127 hd_X0_checkWalkv kC_280 rfl rfl rfl (Nat.le_of_ble_eq_true rfl) dX0_decode_79 ⟨p4, rfl, hp4, hF⟩ (fun r24 M25 gr24 qM25 => ?_)
            have hF := qM25 gr24
            refine j_if_eq hJ 89 (jz_ri gr24) dX0_decode_82 (by decide) (fun z26 => ?_) (fun z26 => ?_)
            · have hF := hF.1 z26
              refine j_iconst hJ dX0_decode_89 ?_
              exact j_zret hJ rfl (by decide) dX0_decode_90 hF
            · have hF := hF.2 z26
              refine j_iconst hJ dX0_decode_85 ?_
              refine j_goto hJ 90 dX0_decode_86 (by decide) ?_
              exact j_zret hJ rfl (by decide) dX0_decode_90 hF
def W_X0_append (ad : Nat → Nat) (Q : Int → MM → Prop) (av : List Value) (M : MM) : Prop := ∃ (p1 : Int), av = [.ref (ad 280), .int (Ii p1)] ∧ ri_ p1 ∧ w_X0_append  Q p1 M
set_option maxHeartbeats 4000000 in
set_option maxRecDepth 100000 in
theorem c_X0_append {l : Launch} {D : va_G} {cy : Nat → ClassId} {ad : Nat → Nat} (hin : jIn ad ksC.length) : jCN l D vwCl (tyC cy) cy ad ftC ksC (XtC ad) yX0_append (.code yX0_append cX0_append 2 (some .boolean) :: Om) ({ frames := 1, cells := 0, slots := 0, locals := 60 } : Room) 3 (W_X0_append ad) := by
  refine jCN_of (y := yX0_append) (cc := cX0_append) (nL := 2) (rk := 3) (rm := ({ frames := 1, cells := 0, slots := 0, locals := 60 } : Room)) (own := RX0) (tyC_ok cy) hin (XtC_ok ad) Om_good (by decide) rfl ?_
  intro Q av M hF
  obtain ⟨p1, rfl, gp1, hF⟩ := hF
  refine ⟨Nat.le_of_ble_eq_true rfl, fun J hJ => ?_⟩
  show J 0 [(0, .ref (ad 280)), (1, .int (Ii p1))] [] M
  unfold w_X0_append at hF
  refine j_aload_n hJ dX0_append_0 rfl 0 rfl ?_
  refine j_gi hJ kC_280 fC_3_4 rfl fl_X0_197 dX0_append_1 (fun v1 ev1 gv1 => ?_)
  have hF := hF v1 ev1 gv1
  refine j_iconst hJ dX0_append_4 ?_
  refine j_iadd hJ dX0_append_5 ?_
  have g2 := hF.1; have hF := hF.2
  refine j_iload_n hJ dX0_append_6 rfl 1 rfl ?_
  refine j_iadd hJ dX0_append_7 ?_
  have g3 := hF.1; have hF := hF.2
  refine j_sipush hJ dX0_append_8 (by decide) ?_
  refine j_icmp_le hJ 16 g3 rk_8000 dX0_append_11 (by decide) (fun z4 => ?_) (fun z4 => ?_)
  · have hF := hF.1 z4
    refine j_aload_n hJ dX0_append_16 rfl 0 rfl ?_
    refine j_gr (e := 282) hJ kC_280 fC_3_3 fl_X0_23 dX0_append_17 rfl ?_
    refine j_aload_n hJ dX0_append_20 rfl 0 rfl ?_
    refine j_gi hJ kC_280 fC_3_4 rfl fl_X0_197 dX0_append_21 (fun v5 ev5 gv5 => ?_)
    have hF := hF v5 ev5 gv5
    refine j_iload_n hJ dX0_append_24 rfl 1 rfl ?_
    refine j_sipush hJ dX0_append_25 (by decide) ?_
    refine j_iand hJ dX0_append_28 ?_
    refine j_iast hJ gv5 (ri_of _) kC_282 hF.1 hF.2.1 dX0_append_29 (fun M6 eM6 => ?_)
    have hF := hF.2.2 M6 eM6
    refine j_aload_n hJ dX0_append_30 rfl 0 rfl ?_
    refine j_gr (e := 282) hJ kC_280 fC_3_3 fl_X0_23 dX0_append_31 rfl ?_
    refine j_aload_n hJ dX0_append_34 rfl 0 rfl ?_
    refine j_gi hJ kC_280 fC_3_4 rfl fl_X0_197 dX0_append_35 (fun v7 ev7 gv7 => ?_)
    have hF := hF v7 ev7 gv7
    refine j_iconst hJ dX0_append_38 ?_
    refine j_iadd hJ dX0_append_39 ?_
    have g8 := hF.1; have hF := hF.2
    refine j_iload_n hJ dX0_append_40 rfl 1 rfl ?_
    refine j_bipush hJ dX0_append_41 (by decide) ?_
    refine j_ishr hJ dX0_append_43 ?_
    refine j_iast hJ g8 (ri_of _) kC_282 hF.1 hF.2.1 dX0_append_44 (fun M9 eM9 => ?_)
    have hF := hF.2.2 M9 eM9
    refine j_aload_n hJ dX0_append_45 rfl 0 rfl ?_
    refine j_gr (e := 281) hJ kC_280 fC_3_1 fl_X0_19 dX0_append_46 rfl ?_
    refine j_iconst hJ dX0_append_49 ?_
    refine j_aload_n hJ dX0_append_50 rfl 0 rfl ?_
    refine j_gr (e := 282) hJ kC_280 fC_3_3 fl_X0_23 dX0_append_51 rfl ?_
    refine j_aload_n hJ dX0_append_54 rfl 0 rfl ?_
    refine j_gi hJ kC_280 fC_3_4 rfl fl_X0_197 dX0_append_55 (fun v10 ev10 gv10 => ?_)
    have hF := hF v10 ev10 gv10
    refine j_iconst hJ dX0_append_58 ?_
    refine j_iadd hJ dX0_append_59 ?_
    have g11 := hF.1; have hF := hF.2
    refine j_iload_n hJ dX0_append_60 rfl 1 rfl ?_
    refine j_copyi hJ rk_0 g11 gp1 kC_281 kC_282 (by decide) hF.1 hF.2.1 hF.2.2.1 hF.2.2.2.1 ⟨om_121, om_122, om_123, om_124⟩ ⟨Nat.le_of_ble_eq_true rfl, Nat.le_of_ble_eq_true rfl⟩ dX0_append_61 (fun M12 eM12 => ?_)
    have hF := hF.2.2.2.2 M12 eM12
    refine j_aload_n hJ dX0_append_64 rfl 0 rfl ?_
    refine j_dup hJ dX0_append_65 rfl ?_
    refine j_gi hJ kC_280 fC_3_4 rfl fl_X0_197 dX0_append_66 (fun v13 ev13 gv13 => ?_)
    have hF := hF v13 ev13 gv13
    refine j_iconst hJ dX0_append_69 ?_
    refine j_iload_n hJ dX0_append_70 rfl 1 rfl ?_
    refine j_iadd hJ dX0_append_71 ?_
    have g14 := hF.1; have hF := hF.2
    refine j_iadd hJ dX0_append_72 ?_
    have g15 := hF.1; have hF := hF.2
    refine j_pi hJ g15 kC_280 fC_3_4 rfl fp_X0_197 dX0_append_73 (fun M16 eM16 => ?_)
    have hF := hF M16 eM16
    refine j_aload_n hJ dX0_append_76 rfl 0 rfl ?_
    refine j_dup hJ dX0_append_77 rfl ?_
    refine j_gi hJ kC_280 fC_3_5 rfl fl_X0_206 dX0_append_78 (fun v17 ev17 gv17 => ?_)
    have hF := hF v17 ev17 gv17
    refine j_iconst hJ dX0_append_81 ?_
    refine j_iadd hJ dX0_append_82 ?_
    have g18 := hF.1; have hF := hF.2
    refine j_pi hJ g18 kC_280 fC_3_5 rfl fp_X0_206 dX0_append_83 (fun M19 eM19 => ?_)
    have hF := hF M19 eM19
    refine j_iconst hJ dX0_append_86 ?_
    exact j_zret hJ rfl (by decide) dX0_append_87 hF
  · have hF := hF.2 z4
    refine j_iconst hJ dX0_append_14 ?_
    exact j_zret hJ rfl (by decide) dX0_append_15 hF
def W_X0_recordEnd (ad : Nat → Nat) (Q : Int → MM → Prop) (av : List Value) (M : MM) : Prop := ∃ (p1 : Int), av = [.ref (ad 280), .int (Ii p1)] ∧ ri_ p1 ∧ w_X0_recordEnd  Q p1 M
set_option maxHeartbeats 4000000 in
set_option maxRecDepth 100000 in
theorem c_X0_recordEnd {l : Launch} {D : va_G} {cy : Nat → ClassId} {ad : Nat → Nat} (hin : jIn ad ksC.length) : jCN l D vwCl (tyC cy) cy ad ftC ksC (XtC ad) yX0_recordEnd (.code yX0_recordEnd cX0_recordEnd 3 (some .int) :: Om) ({ frames := 0, cells := 0, slots := 0, locals := 0 } : Room) 1 (W_X0_recordEnd ad) := by
  refine jCN_of (y := yX0_recordEnd) (cc := cX0_recordEnd) (nL := 3) (rk := 1) (rm := ({ frames := 0, cells := 0, slots := 0, locals := 0 } : Room)) (own := RX0) (tyC_ok cy) hin (XtC_ok ad) Om_good (by decide) rfl ?_
  intro Q av M hF
  obtain ⟨p1, rfl, gp1, hF⟩ := hF
  refine ⟨Nat.le_of_ble_eq_true rfl, fun J hJ => ?_⟩
  show J 0 [(0, .ref (ad 280)), (1, .int (Ii p1))] [] M
  unfold w_X0_recordEnd at hF
  refine j_iload_n hJ dX0_recordEnd_0 rfl 1 rfl ?_
  refine j_iconst hJ dX0_recordEnd_1 ?_
  refine j_iadd hJ dX0_recordEnd_2 ?_
  have g1 := hF.1; have hF := hF.2
  refine j_aload_n hJ dX0_recordEnd_3 rfl 0 rfl ?_
  refine j_gi hJ kC_280 fC_3_4 rfl fl_X0_197 dX0_recordEnd_4 (fun v2 ev2 gv2 => ?_)
  have hF := hF v2 ev2 gv2
  refine j_icmp_le hJ 12 g1 gv2 dX0_recordEnd_7 (by decide) (fun z3 => ?_) (fun z3 => ?_)
  · have hF := hF.1 z3
    refine j_iload_n hJ dX0_recordEnd_12 rfl 1 rfl ?_
    refine j_iconst hJ dX0_recordEnd_13 ?_
    refine j_iadd hJ dX0_recordEnd_14 ?_
    have g4 := hF.1; have hF := hF.2
    refine j_aload_n hJ dX0_recordEnd_15 rfl 0 rfl ?_
    refine j_gr (e := 282) hJ kC_280 fC_3_3 fl_X0_23 dX0_recordEnd_16 rfl ?_
    refine j_iload_n hJ dX0_recordEnd_19 rfl 1 rfl ?_
    refine j_iald hJ gp1 kC_282 hF.1 hF.2.1 dX0_recordEnd_20 (fun v5 ev5 gv5 => ?_)
    have hF := hF.2.2 v5 ev5 gv5
    refine j_iadd hJ dX0_recordEnd_21 ?_
    have g6 := hF.1; have hF := hF.2
    refine j_sipush hJ dX0_recordEnd_22 (by decide) ?_
    refine j_aload_n hJ dX0_recordEnd_25 rfl 0 rfl ?_
    refine j_gr (e := 282) hJ kC_280 fC_3_3 fl_X0_23 dX0_recordEnd_26 rfl ?_
    refine j_iload_n hJ dX0_recordEnd_29 rfl 1 rfl ?_
    refine j_iconst hJ dX0_recordEnd_30 ?_
    refine j_iadd hJ dX0_recordEnd_31 ?_
    have g7 := hF.1; have hF := hF.2
    refine j_iald hJ g7 kC_282 hF.1 hF.2.1 dX0_recordEnd_32 (fun v8 ev8 gv8 => ?_)
    have hF := hF.2.2 v8 ev8 gv8
    refine j_imul hJ dX0_recordEnd_33 ?_
    have g9 := hF.1; have hF := hF.2
    refine j_iadd hJ dX0_recordEnd_34 ?_
    have g10 := hF.1; have hF := hF.2
    refine j_istore_n (lv' := [(2, .int (Ii (((p1 + 2) + v5) + (256 * v8)))), (0, .ref (ad 280)), (1, .int (Ii p1))]) hJ dX0_recordEnd_35 rfl (by decide) rfl ?_
    refine j_iload_n hJ dX0_recordEnd_36 rfl 0 rfl ?_
    refine j_aload_n hJ dX0_recordEnd_37 rfl 1 rfl ?_
    refine j_gi hJ kC_280 fC_3_4 rfl fl_X0_197 dX0_recordEnd_38 (fun v11 ev11 gv11 => ?_)
    have hF := hF v11 ev11 gv11
    refine j_icmp_gt hJ 48 g10 gv11 dX0_recordEnd_41 (by decide) (fun z12 => ?_) (fun z12 => ?_)
    · have hF := hF.1 z12
      refine j_iconst hJ dX0_recordEnd_48 ?_
      exact j_iret hJ rfl rk_m1 dX0_recordEnd_49 hF
    · have hF := hF.2 z12
      refine j_iload_n hJ dX0_recordEnd_44 rfl 0 rfl ?_
      refine j_goto hJ 49 dX0_recordEnd_45 (by decide) ?_
      exact j_iret hJ rfl g10 dX0_recordEnd_49 hF
  · have hF := hF.2 z3
    refine j_iconst hJ dX0_recordEnd_10 ?_
    exact j_iret hJ rfl rk_m1 dX0_recordEnd_11 hF
def W_X0_reopenAt (ad : Nat → Nat) (Q : Int → MM → Prop) (av : List Value) (M : MM) : Prop := ∃ (p1 : Int) (p2 : Nat), av = [.ref (ad 280), .int (Ii p1), .ref (ad p2)] ∧ ri_ p1 ∧ isP p2 ∧ w_X0_reopenAt p2 Q p1 M
set_option maxHeartbeats 4000000 in
set_option maxRecDepth 100000 in
theorem k_X0_reopenAt_b86 {l : Launch} {D : va_G} {cy : Nat → ClassId} {ad : Nat → Nat} {Q : Int → MM → Prop} {J : Nat → List (Nat × Value) → List Value → MM → Prop} (hin : jIn ad ksC.length) {p2 : Nat} (hp2 : isP p2) (hJ : jOk l D vwCl (tyC cy) cy ad ftC ksC (XtC ad) Om RX0 cX0_reopenAt 6 1 ({ frames := 6, cells := 0, slots := 0, locals := 143 } : Room) Q J)  : ∀ (x3 : Int) (M : MM), ri_ x3 → w_X0_reopenAt_b86 p2 Q  x3 M → J 86 [(0, .ref (ad 280)), (3, .int (Ii x3))] [] M := by
  intro x3 M gx3 hF
  unfold w_X0_reopenAt_b86 at hF
  refine j_aload_n hJ dX0_reopenAt_86 rfl 0 rfl ?_
  refine j_iload_n hJ dX0_reopenAt_87 rfl 1 rfl ?_
  refine j_pi hJ gx3 kC_280 fC_3_4 rfl fp_X0_197 dX0_reopenAt_88 (fun M1 eM1 => ?_)
  have hF := hF M1 eM1
  refine j_aload_n hJ dX0_reopenAt_91 rfl 0 rfl ?_
  refine j_gi hJ kC_280 fC_3_5 rfl fl_X0_206 dX0_reopenAt_92 (fun v2 ev2 gv2 => ?_)
  have hF := hF v2 ev2 gv2
  exact j_iret hJ rfl gv2 dX0_reopenAt_95 hF
set_option maxHeartbeats 4000000 in
set_option maxRecDepth 100000 in
theorem k_X0_reopenAt_b26 {l : Launch} {D : va_G} {cy : Nat → ClassId} {ad : Nat → Nat} {Q : Int → MM → Prop} {J : Nat → List (Nat × Value) → List Value → MM → Prop} (hin : jIn ad ksC.length) {p2 : Nat} (hp2 : isP p2) (hJ : jOk l D vwCl (tyC cy) cy ad ftC ksC (XtC ad) Om RX0 cX0_reopenAt 6 1 ({ frames := 6, cells := 0, slots := 0, locals := 143 } : Room) Q J)  : ∀ (x3 x4 : Int) (M : MM), ri_ x3 → ri_ x4 → w_X0_reopenAt_b26 p2 Q  x3 x4 M → J 26 [(0, .ref (ad 280)), (2, .ref (ad p2)), (3, .int (Ii x3)), (4, .int (Ii x4))] [] M := by
  have H9 : ∀ (n : Nat) (x3 x4 : Int) (M : MM), ri_ x3 → ri_ x4 → jit (fun _ _ _ => False) (wb_X0_reopenAt_b26 p2 Q ) n x3 x4 M → J 26 [(0, .ref (ad 280)), (2, .ref (ad p2)), (3, .int (Ii x3)), (4, .int (Ii x4))] [] M := by
    intro n
    induction n with
    | zero => intro x3 x4 M gx3 gx4 hF; exact False.elim hF
    | succ n ih =>
    intro x3 x4 M gx3 gx4 hF
    have hF : wb_X0_reopenAt_b26 p2 Q  (jit (fun _ _ _ => False) (wb_X0_reopenAt_b26 p2 Q ) n) x3 x4 M := hF
    unfold wb_X0_reopenAt_b26 at hF
    refine j_iload hJ dX0_reopenAt_26 3 rfl ?_
    refine j_sipush hJ dX0_reopenAt_28 (by decide) ?_
    refine j_icmp_ge hJ 86 gx4 rk_1000 dX0_reopenAt_31 (by decide) (fun z1 => ?_) (fun z1 => ?_)
    · have hF := hF.1 z1
      exact j_sub hJ [0, 2] rfl (k_X0_reopenAt_b86 hin hp2 hJ  x3 _ gx3 hF)
    · have hF := hF.2 z1
      refine j_aload_n hJ dX0_reopenAt_34 rfl 0 rfl ?_
      refine j_iload_n hJ dX0_reopenAt_35 rfl 2 rfl ?_
      refine j_callVi hJ (c_X0_recordEnd (l := l) (D := D) (cy := cy) (ad := ad) hin) rfl om_128 ⟨rfl, rfl, Nat.le_of_ble_eq_true rfl, Nat.le_of_ble_eq_true rfl⟩ [.int (Ii x3)] mv_X0_212 hd_X0_recordEndv kC_280 rfl rfl rfl (Nat.le_of_ble_eq_true rfl) dX0_reopenAt_36 ⟨x3, rfl, gx3, hF⟩ (fun r2 M3 gr2 qM3 => ?_)
      have hF := qM3 gr2
      refine j_istore (lv' := [(5, .int (Ii r2)), (0, .ref (ad 280)), (2, .ref (ad p2)), (3, .int (Ii x3)), (4, .int (Ii x4))]) hJ dX0_reopenAt_39 (by decide) rfl ?_
      refine j_iload hJ dX0_reopenAt_41 0 rfl ?_
      refine j_iconst hJ dX0_reopenAt_43 ?_
      refine j_icmp_eq hJ 86 gr2 rk_m1 dX0_reopenAt_44 (by decide) (fun z4 => ?_) (fun z4 => ?_)
      · have hF := hF.1 z4
        exact j_sub hJ [1, 3] rfl (k_X0_reopenAt_b86 hin hp2 hJ  x3 _ gx3 hF)
      · have hF := hF.2 z4
        refine j_aload_n hJ dX0_reopenAt_47 rfl 1 rfl ?_
        refine j_aload_n hJ dX0_reopenAt_48 rfl 1 rfl ?_
        refine j_gr (e := 282) hJ kC_280 fC_3_3 fl_X0_23 dX0_reopenAt_49 rfl ?_
        refine j_iload_n hJ dX0_reopenAt_52 rfl 3 rfl ?_
        refine j_iconst hJ dX0_reopenAt_53 ?_
        refine j_iadd hJ dX0_reopenAt_54 ?_
        have g5 := hF.1; have hF := hF.2
        refine j_iload hJ dX0_reopenAt_55 0 rfl ?_
        refine j_aload_n hJ dX0_reopenAt_57 rfl 2 rfl ?_
        refine j_callVz hJ (c_X0_decode (l := l) (D := D) (cy := cy) (ad := ad) hin) rfl om_132 ⟨rfl, rfl, Nat.le_of_ble_eq_true rfl, Nat.le_of_ble_eq_true rfl⟩ [.ref (ad 282), .int (Ii (x3 + 2)), .int (Ii r2), .ref (ad p2)] mv_X0_215 hd_X0_decodev kC_280 rfl rfl rfl (Nat.le_of_ble_eq_true rfl) dX0_reopenAt_58 ⟨282, 8000, (x3 + 2), r2, p2, rfl, kC_282, (by decide), g5, gr2, hp2, hF⟩ (fun r6 M7 gr6 qM7 => ?_)
        have hF := qM7 gr6
        refine j_if_ne hJ 67 (jz_ri gr6) dX0_reopenAt_61 (by decide) (fun z8 => ?_) (fun z8 => ?_)
        · have hF := hF.1 z8
          refine j_iload hJ dX0_reopenAt_67 0 rfl ?_
          refine j_istore_n (lv' := [(3, .int (Ii r2)), (5, .int (Ii r2)), (0, .ref (ad 280)), (2, .ref (ad p2)), (4, .int (Ii x4))]) hJ dX0_reopenAt_69 rfl (by decide) rfl ?_
          refine j_aload_n hJ dX0_reopenAt_70 rfl 2 rfl ?_
          refine j_dup hJ dX0_reopenAt_71 rfl ?_
          refine j_gi hJ kC_280 fC_3_5 rfl fl_X0_206 dX0_reopenAt_72 (fun v9 ev9 gv9 => ?_)
          have hF := hF v9 ev9 gv9
          refine j_iconst hJ dX0_reopenAt_75 ?_
          refine j_iadd hJ dX0_reopenAt_76 ?_
          have g10 := hF.1; have hF := hF.2
          refine j_pi hJ g10 kC_280 fC_3_5 rfl fp_X0_206 dX0_reopenAt_77 (fun M11 eM11 => ?_)
          have hF := hF M11 eM11
          refine j_iinc (lv' := [(4, .int (Ii (x4 + 1))), (3, .int (Ii r2)), (5, .int (Ii r2)), (0, .ref (ad 280)), (2, .ref (ad p2))]) (k := 4) hJ dX0_reopenAt_80 rfl (by decide) rfl ?_
          have g12 := hF.1; have hF := hF.2
          refine j_goto hJ 26 dX0_reopenAt_83 (by decide) ?_
          exact j_sub hJ [3, 4, 1, 0] rfl (ih r2 (x4 + 1) _ gr2 g12 hF)
        · have hF := hF.2 z8
          refine j_goto hJ 86 dX0_reopenAt_64 (by decide) ?_
          exact j_sub hJ [1, 3] rfl (k_X0_reopenAt_b86 hin hp2 hJ  x3 _ gx3 hF)
  intro x3 x4 M gx3 gx4 hF
  obtain ⟨n, hF⟩ := hF
  exact H9 n x3 x4 M gx3 gx4 hF
set_option maxHeartbeats 4000000 in
set_option maxRecDepth 100000 in
theorem c_X0_reopenAt {l : Launch} {D : va_G} {cy : Nat → ClassId} {ad : Nat → Nat} (hin : jIn ad ksC.length) : jCN l D vwCl (tyC cy) cy ad ftC ksC (XtC ad) yX0_reopenAt (.code yX0_reopenAt cX0_reopenAt 6 (some .int) :: Om) ({ frames := 6, cells := 0, slots := 0, locals := 143 } : Room) 1 (W_X0_reopenAt ad) := by
  refine jCN_of (y := yX0_reopenAt) (cc := cX0_reopenAt) (nL := 6) (rk := 1) (rm := ({ frames := 6, cells := 0, slots := 0, locals := 143 } : Room)) (own := RX0) (tyC_ok cy) hin (XtC_ok ad) Om_good (by decide) rfl ?_
  intro Q av M hF
  obtain ⟨p1, p2, rfl, gp1, hp2, hF⟩ := hF
  refine ⟨Nat.le_of_ble_eq_true rfl, fun J hJ => ?_⟩
  show J 0 [(0, .ref (ad 280)), (1, .int (Ii p1)), (2, .ref (ad p2))] [] M
  unfold w_X0_reopenAt at hF
  refine j_aload_n hJ dX0_reopenAt_0 rfl 0 rfl ?_
  refine j_iconst hJ dX0_reopenAt_1 ?_
  refine j_iload_n hJ dX0_reopenAt_2 rfl 1 rfl ?_
  refine j_aload_n hJ dX0_reopenAt_3 rfl 0 rfl ?_
  refine j_gi hJ kC_280 fC_3_4 rfl fl_X0_197 dX0_reopenAt_4 (fun v1 ev1 gv1 => ?_)
  have hF := hF v1 ev1 gv1
  refine j_mmin hJ gp1 gv1 ⟨om_10, om_11, om_12, om_13⟩ ⟨Nat.le_of_ble_eq_true rfl, Nat.le_of_ble_eq_true rfl⟩ dX0_reopenAt_7 ?_
  refine j_mmax hJ rk_0 (ri_min gp1 gv1) ⟨om_125, om_126, om_12, om_127⟩ ⟨Nat.le_of_ble_eq_true rfl, Nat.le_of_ble_eq_true rfl⟩ dX0_reopenAt_10 ?_
  refine j_pi hJ (ri_max rk_0 (ri_min gp1 gv1)) kC_280 fC_3_4 rfl fp_X0_197 dX0_reopenAt_13 (fun M2 eM2 => ?_)
  have hF := hF M2 eM2
  refine j_aload_n hJ dX0_reopenAt_16 rfl 0 rfl ?_
  refine j_iconst hJ dX0_reopenAt_17 ?_
  refine j_pi hJ rk_0 kC_280 fC_3_5 rfl fp_X0_206 dX0_reopenAt_18 (fun M3 eM3 => ?_)
  have hF := hF M3 eM3
  refine j_iconst hJ dX0_reopenAt_21 ?_
  refine j_istore_n (lv' := [(3, .int (Ii 0)), (0, .ref (ad 280)), (1, .int (Ii p1)), (2, .ref (ad p2))]) hJ dX0_reopenAt_22 rfl (by decide) rfl ?_
  refine j_iconst hJ dX0_reopenAt_23 ?_
  refine j_istore (lv' := [(4, .int (Ii 0)), (3, .int (Ii 0)), (0, .ref (ad 280)), (1, .int (Ii p1)), (2, .ref (ad p2))]) hJ dX0_reopenAt_24 (by decide) rfl ?_
  exact j_sub hJ [2, 4, 1, 0] rfl (k_X0_reopenAt_b26 hin hp2 hJ  0 0 _ rk_0 rk_0 hF)
def W_X0_readRecord (ad : Nat → Nat) (Q : Int → MM → Prop) (av : List Value) (M : MM) : Prop := ∃ (p1 : Int) (p2 : Nat), av = [.ref (ad 280), .int (Ii p1), .ref (ad p2)] ∧ ri_ p1 ∧ isP p2 ∧ w_X0_readRecord p2 Q p1 M
set_option maxHeartbeats 4000000 in
set_option maxRecDepth 100000 in
theorem k_X0_readRecord_b42 {l : Launch} {D : va_G} {cy : Nat → ClassId} {ad : Nat → Nat} {Q : Int → MM → Prop} {J : Nat → List (Nat × Value) → List Value → MM → Prop} (hin : jIn ad ksC.length) {p2 : Nat} (hp2 : isP p2) (hJ : jOk l D vwCl (tyC cy) cy ad ftC ksC (XtC ad) Om RX0 cX0_readRecord 5 3 ({ frames := 6, cells := 0, slots := 0, locals := 143 } : Room) Q J)  : ∀ (x3 s0 : Int) (M : MM), ri_ x3 → ri_ s0 → w_X0_readRecord_b42 p2 Q  x3 s0 M → J 42 [(0, .ref (ad 280)), (2, .ref (ad p2)), (3, .int (Ii x3))] [.int (Ii s0)] M := by
  intro x3 s0 M gx3 gs0 hF
  unfold w_X0_readRecord_b42 at hF
  refine j_istore (lv' := [(4, .int (Ii s0)), (0, .ref (ad 280)), (2, .ref (ad p2)), (3, .int (Ii x3))]) hJ dX0_readRecord_42 (by decide) rfl ?_
  refine j_iload hJ dX0_readRecord_44 0 rfl ?_
  refine j_iconst hJ dX0_readRecord_46 ?_
  refine j_icmp_eq hJ 71 gs0 rk_m1 dX0_readRecord_47 (by decide) (fun z1 => ?_) (fun z1 => ?_)
  · have hF := hF.1 z1
    refine j_iconst hJ dX0_readRecord_71 ?_
    exact j_zret hJ rfl (by decide) dX0_readRecord_72 hF
  · have hF := hF.2 z1
    refine j_aload_n hJ dX0_readRecord_50 rfl 1 rfl ?_
    refine j_aload_n hJ dX0_readRecord_51 rfl 1 rfl ?_
    refine j_gr (e := 282) hJ kC_280 fC_3_3 fl_X0_23 dX0_readRecord_52 rfl ?_
    refine j_iload_n hJ dX0_readRecord_55 rfl 3 rfl ?_
    refine j_iconst hJ dX0_readRecord_56 ?_
    refine j_iadd hJ dX0_readRecord_57 ?_
    have g2 := hF.1; have hF := hF.2
    refine j_iload hJ dX0_readRecord_58 0 rfl ?_
    refine j_aload_n hJ dX0_readRecord_60 rfl 2 rfl ?_
    refine j_callVz hJ (c_X0_decode (l := l) (D := D) (cy := cy) (ad := ad) hin) rfl om_132 ⟨rfl, rfl, Nat.le_of_ble_eq_true rfl, Nat.le_of_ble_eq_true rfl⟩ [.ref (ad 282), .int (Ii (x3 + 2)), .int (Ii s0), .ref (ad p2)] mv_X0_215 hd_X0_decodev kC_280 rfl rfl rfl (Nat.le_of_ble_eq_true rfl) dX0_readRecord_61 ⟨282, 8000, (x3 + 2), s0, p2, rfl, kC_282, (by decide), g2, gs0, hp2, hF⟩ (fun r3 M4 gr3 qM4 => ?_)
    have hF := qM4 gr3
    refine j_if_eq hJ 71 (jz_ri gr3) dX0_readRecord_64 (by decide) (fun z5 => ?_) (fun z5 => ?_)
    · have hF := hF.1 z5
      refine j_iconst hJ dX0_readRecord_71 ?_
      exact j_zret hJ rfl (by decide) dX0_readRecord_72 hF
    · have hF := hF.2 z5
      refine j_iconst hJ dX0_readRecord_67 ?_
      refine j_goto hJ 72 dX0_readRecord_68 (by decide) ?_
      exact j_zret hJ rfl (by decide) dX0_readRecord_72 hF
set_option maxHeartbeats 4000000 in
set_option maxRecDepth 100000 in
theorem k_X0_readRecord_b28 {l : Launch} {D : va_G} {cy : Nat → ClassId} {ad : Nat → Nat} {Q : Int → MM → Prop} {J : Nat → List (Nat × Value) → List Value → MM → Prop} (hin : jIn ad ksC.length) {p2 : Nat} (hp2 : isP p2) (hJ : jOk l D vwCl (tyC cy) cy ad ftC ksC (XtC ad) Om RX0 cX0_readRecord 5 3 ({ frames := 6, cells := 0, slots := 0, locals := 143 } : Room) Q J)  : ∀ (x3 : Int) (M : MM), ri_ x3 → w_X0_readRecord_b28 p2 Q  x3 M → J 28 [(0, .ref (ad 280)), (2, .ref (ad p2)), (3, .int (Ii x3))] [] M := by
  intro x3 M gx3 hF
  unfold w_X0_readRecord_b28 at hF
  refine j_iload_n hJ dX0_readRecord_28 rfl 2 rfl ?_
  refine j_iconst hJ dX0_readRecord_29 ?_
  refine j_icmp_ne hJ 37 gx3 rk_m1 dX0_readRecord_30 (by decide) (fun z1 => ?_) (fun z1 => ?_)
  · have hF := hF.1 z1
    refine j_aload_n hJ dX0_readRecord_37 rfl 0 rfl ?_
    refine j_iload_n hJ dX0_readRecord_38 rfl 2 rfl ?_
    refine j_callVi hJ (c_X0_recordEnd (l := l) (D := D) (cy := cy) (ad := ad) hin) rfl om_128 ⟨rfl, rfl, Nat.le_of_ble_eq_true rfl, Nat.le_of_ble_eq_true rfl⟩ [.int (Ii x3)] mv_X0_212 hd_X0_recordEndv kC_280 rfl rfl rfl (Nat.le_of_ble_eq_true rfl) dX0_readRecord_39 ⟨x3, rfl, gx3, hF⟩ (fun r2 M3 gr2 qM3 => ?_)
    have hF := qM3 gr2
    exact j_sub hJ [0, 1, 2] rfl (k_X0_readRecord_b42 hin hp2 hJ  x3 r2 _ gx3 gr2 hF)
  · have hF := hF.2 z1
    refine j_iconst hJ dX0_readRecord_33 ?_
    refine j_goto hJ 42 dX0_readRecord_34 (by decide) ?_
    exact j_sub hJ [0, 1, 2] rfl (k_X0_readRecord_b42 hin hp2 hJ  x3 (-1) _ gx3 rk_m1 hF)
set_option maxHeartbeats 4000000 in
set_option maxRecDepth 100000 in
theorem k_X0_readRecord_b5 {l : Launch} {D : va_G} {cy : Nat → ClassId} {ad : Nat → Nat} {Q : Int → MM → Prop} {J : Nat → List (Nat × Value) → List Value → MM → Prop} (hin : jIn ad ksC.length) {p2 : Nat} (hp2 : isP p2) (hJ : jOk l D vwCl (tyC cy) cy ad ftC ksC (XtC ad) Om RX0 cX0_readRecord 5 3 ({ frames := 6, cells := 0, slots := 0, locals := 143 } : Room) Q J)  : ∀ (x1 x3 x4 : Int) (M : MM), ri_ x1 → ri_ x3 → ri_ x4 → w_X0_readRecord_b5 p2 Q  x1 x3 x4 M → J 5 [(0, .ref (ad 280)), (1, .int (Ii x1)), (2, .ref (ad p2)), (3, .int (Ii x3)), (4, .int (Ii x4))] [] M := by
  have H9 : ∀ (n : Nat) (x1 x3 x4 : Int) (M : MM), ri_ x1 → ri_ x3 → ri_ x4 → jit (fun _ _ _ _ => False) (wb_X0_readRecord_b5 p2 Q ) n x1 x3 x4 M → J 5 [(0, .ref (ad 280)), (1, .int (Ii x1)), (2, .ref (ad p2)), (3, .int (Ii x3)), (4, .int (Ii x4))] [] M := by
    intro n
    induction n with
    | zero => intro x1 x3 x4 M gx1 gx3 gx4 hF; exact False.elim hF
    | succ n ih =>
    intro x1 x3 x4 M gx1 gx3 gx4 hF
    have hF : wb_X0_readRecord_b5 p2 Q  (jit (fun _ _ _ _ => False) (wb_X0_readRecord_b5 p2 Q ) n) x1 x3 x4 M := hF
    unfold wb_X0_readRecord_b5 at hF
    refine j_iload hJ dX0_readRecord_5 4 rfl ?_
    refine j_iload_n hJ dX0_readRecord_7 rfl 1 rfl ?_
    refine j_icmp_ge hJ 28 gx4 gx1 dX0_readRecord_8 (by decide) (fun z1 => ?_) (fun z1 => ?_)
    · have hF := hF.1 z1
      exact j_sub hJ [0, 2, 3] rfl (k_X0_readRecord_b28 hin hp2 hJ  x3 _ gx3 hF)
    · have hF := hF.2 z1
      refine j_iload_n hJ dX0_readRecord_11 rfl 3 rfl ?_
      refine j_iconst hJ dX0_readRecord_12 ?_
      refine j_icmp_eq hJ 28 gx3 rk_m1 dX0_readRecord_13 (by decide) (fun z2 => ?_) (fun z2 => ?_)
      · have hF := hF.1 z2
        exact j_sub hJ [0, 2, 3] rfl (k_X0_readRecord_b28 hin hp2 hJ  x3 _ gx3 hF)
      · have hF := hF.2 z2
        refine j_aload_n hJ dX0_readRecord_16 rfl 0 rfl ?_
        refine j_iload_n hJ dX0_readRecord_17 rfl 3 rfl ?_
        refine j_callVi hJ (c_X0_recordEnd (l := l) (D := D) (cy := cy) (ad := ad) hin) rfl om_128 ⟨rfl, rfl, Nat.le_of_ble_eq_true rfl, Nat.le_of_ble_eq_true rfl⟩ [.int (Ii x3)] mv_X0_212 hd_X0_recordEndv kC_280 rfl rfl rfl (Nat.le_of_ble_eq_true rfl) dX0_readRecord_18 ⟨x3, rfl, gx3, hF⟩ (fun r3 M4 gr3 qM4 => ?_)
        have hF := qM4 gr3
        refine j_istore_n (lv' := [(3, .int (Ii r3)), (0, .ref (ad 280)), (1, .int (Ii x1)), (2, .ref (ad p2)), (4, .int (Ii x4))]) hJ dX0_readRecord_21 rfl (by decide) rfl ?_
        refine j_iinc (lv' := [(4, .int (Ii (x4 + 1))), (3, .int (Ii r3)), (0, .ref (ad 280)), (1, .int (Ii x1)), (2, .ref (ad p2))]) (k := 4) hJ dX0_readRecord_22 rfl (by decide) rfl ?_
        have g5 := hF.1; have hF := hF.2
        refine j_goto hJ 5 dX0_readRecord_25 (by decide) ?_
        exact j_sub hJ [2, 3, 4, 1, 0] rfl (ih x1 r3 (x4 + 1) _ gx1 gr3 g5 hF)
  intro x1 x3 x4 M gx1 gx3 gx4 hF
  obtain ⟨n, hF⟩ := hF
  exact H9 n x1 x3 x4 M gx1 gx3 gx4 hF
set_option maxHeartbeats 4000000 in
set_option maxRecDepth 100000 in
theorem c_X0_readRecord {l : Launch} {D : va_G} {cy : Nat → ClassId} {ad : Nat → Nat} (hin : jIn ad ksC.length) : jCN l D vwCl (tyC cy) cy ad ftC ksC (XtC ad) yX0_readRecord (.code yX0_readRecord cX0_readRecord 5 (some .boolean) :: Om) ({ frames := 6, cells := 0, slots := 0, locals := 143 } : Room) 3 (W_X0_readRecord ad) := by
  refine jCN_of (y := yX0_readRecord) (cc := cX0_readRecord) (nL := 5) (rk := 3) (rm := ({ frames := 6, cells := 0, slots := 0, locals := 143 } : Room)) (own := RX0) (tyC_ok cy) hin (XtC_ok ad) Om_good (by decide) rfl ?_
  intro Q av M hF
  obtain ⟨p1, p2, rfl, gp1, hp2, hF⟩ := hF
  refine ⟨Nat.le_of_ble_eq_true rfl, fun J hJ => ?_⟩
  show J 0 [(0, .ref (ad 280)), (1, .int (Ii p1)), (2, .ref (ad p2))] [] M
  unfold w_X0_readRecord at hF
  refine j_iconst hJ dX0_readRecord_0 ?_
  refine j_istore_n (lv' := [(3, .int (Ii 0)), (0, .ref (ad 280)), (1, .int (Ii p1)), (2, .ref (ad p2))]) hJ dX0_readRecord_1 rfl (by decide) rfl ?_
  refine j_iconst hJ dX0_readRecord_2 ?_
  refine j_istore (lv' := [(4, .int (Ii 0)), (3, .int (Ii 0)), (0, .ref (ad 280)), (1, .int (Ii p1)), (2, .ref (ad p2))]) hJ dX0_readRecord_3 (by decide) rfl ?_
  exact j_sub hJ [2, 3, 4, 1, 0] rfl (k_X0_readRecord_b5 hin hp2 hJ  p1 0 0 _ gp1 rk_0 rk_0 hF)
def W_J7_fill_d0a16_C (ad : Nat → Nat) (Q : Int → MM → Prop) (av : List Value) (M : MM) : Prop := ∃ (p1 : Nat) (np1 : Nat) (p2 : Int), av = [.ref (ad p1), .long (Ll p2)] ∧ ksC[p1]? = some (1, np1) ∧ np1 < 2147483648 ∧ rl_ p2 ∧ w_J7_fill_d0a16_C p1 np1 Q p2 M
set_option maxHeartbeats 4000000 in
set_option maxRecDepth 100000 in
theorem k_J7_fill_d0a16_C_b6 {l : Launch} {D : va_G} {cy : Nat → ClassId} {ad : Nat → Nat} {Q : Int → MM → Prop} {J : Nat → List (Nat × Value) → List Value → MM → Prop} (hin : jIn ad ksC.length) {p1 np1 : Nat} (hp1 : ksC[p1]? = some (1, np1)) (lp1 : np1 < 2147483648) (hJ : jOk l D vwCl (tyC cy) cy ad ftC ksC (XtC ad) Om RJ7 cJ7_fill_d0a16 5 0 ({ frames := 0, cells := 0, slots := 0, locals := 0 } : Room) Q J)  : ∀ (x1 x3 x4 : Int) (M : MM), rl_ x1 → ri_ x3 → ri_ x4 → w_J7_fill_d0a16_C_b6 p1 np1 Q  x1 x3 x4 M → J 6 [(0, .ref (ad p1)), (1, .long (Ll x1)), (3, .int (Ii x3)), (4, .int (Ii x4))] [] M := by
  have H9 : ∀ (n : Nat) (x1 x3 x4 : Int) (M : MM), rl_ x1 → ri_ x3 → ri_ x4 → jit (fun _ _ _ _ => False) (wb_J7_fill_d0a16_C_b6 p1 np1 Q ) n x1 x3 x4 M → J 6 [(0, .ref (ad p1)), (1, .long (Ll x1)), (3, .int (Ii x3)), (4, .int (Ii x4))] [] M := by
    intro n
    induction n with
    | zero => intro x1 x3 x4 M gx1 gx3 gx4 hF; exact False.elim hF
    | succ n ih =>
    intro x1 x3 x4 M gx1 gx3 gx4 hF
    have hF : wb_J7_fill_d0a16_C_b6 p1 np1 Q  (jit (fun _ _ _ _ => False) (wb_J7_fill_d0a16_C_b6 p1 np1 Q ) n) x1 x3 x4 M := hF
    unfold wb_J7_fill_d0a16_C_b6 at hF
    refine j_iload_n hJ dJ7_fill_d0a16_6 rfl 2 rfl ?_
    refine j_iload hJ dJ7_fill_d0a16_7 3 rfl ?_
    refine j_icmp_ge hJ 22 gx3 gx4 dJ7_fill_d0a16_9 (by decide) (fun z1 => ?_) (fun z1 => ?_)
    · have hF := hF.1 z1
      exact j_vret hJ rfl dJ7_fill_d0a16_22 hF
    · have hF := hF.2 z1
      refine j_aload_n hJ dJ7_fill_d0a16_12 rfl 0 rfl ?_
      refine j_iload_n hJ dJ7_fill_d0a16_13 rfl 2 rfl ?_
      refine j_lload_n hJ dJ7_fill_d0a16_14 rfl 1 rfl ?_
      refine j_last hJ gx3 gx1 hp1 hF.1 hF.2.1 dJ7_fill_d0a16_15 (fun M2 eM2 => ?_)
      have hF := hF.2.2 M2 eM2
      refine j_iinc (lv' := [(3, .int (Ii (x3 + 1))), (0, .ref (ad p1)), (1, .long (Ll x1)), (4, .int (Ii x4))]) (k := 2) hJ dJ7_fill_d0a16_16 rfl (by decide) rfl ?_
      have g3 := hF.1; have hF := hF.2
      refine j_goto hJ 6 dJ7_fill_d0a16_19 (by decide) ?_
      exact j_sub hJ [1, 2, 0, 3] rfl (ih x1 (x3 + 1) x4 _ gx1 g3 gx4 hF)
  intro x1 x3 x4 M gx1 gx3 gx4 hF
  obtain ⟨n, hF⟩ := hF
  exact H9 n x1 x3 x4 M gx1 gx3 gx4 hF
set_option maxHeartbeats 4000000 in
set_option maxRecDepth 100000 in
theorem c_J7_fill_d0a16_C {l : Launch} {D : va_G} {cy : Nat → ClassId} {ad : Nat → Nat} (hin : jIn ad ksC.length) : jCN l D vwCl (tyC cy) cy ad ftC ksC (XtC ad) yJ7_fill_d0a16 (.code yJ7_fill_d0a16 cJ7_fill_d0a16 5 none :: Om) ({ frames := 0, cells := 0, slots := 0, locals := 0 } : Room) 0 (W_J7_fill_d0a16_C ad) := by
  refine jCN_of (y := yJ7_fill_d0a16) (cc := cJ7_fill_d0a16) (nL := 5) (rk := 0) (rm := ({ frames := 0, cells := 0, slots := 0, locals := 0 } : Room)) (own := RJ7) (tyC_ok cy) hin (XtC_ok ad) Om_good (by decide) rfl ?_
  intro Q av M hF
  obtain ⟨p1, np1, p2, rfl, hp1, lp1, gp2, hF⟩ := hF
  refine ⟨Nat.le_of_ble_eq_true rfl, fun J hJ => ?_⟩
  show J 0 [(0, .ref (ad p1)), (1, .long (Ll p2))] [] M
  unfold w_J7_fill_d0a16_C at hF
  refine j_iconst hJ dJ7_fill_d0a16_0 ?_
  refine j_istore_n (lv' := [(3, .int (Ii 0)), (0, .ref (ad p1)), (1, .long (Ll p2))]) hJ dJ7_fill_d0a16_1 rfl (by decide) rfl ?_
  refine j_aload_n hJ dJ7_fill_d0a16_2 rfl 1 rfl ?_
  refine j_alen1 hJ hp1 dJ7_fill_d0a16_3 ?_
  refine j_istore (lv' := [(4, .int (Ii (np1 : Int))), (3, .int (Ii 0)), (0, .ref (ad p1)), (1, .long (Ll p2))]) hJ dJ7_fill_d0a16_4 (by decide) rfl ?_
  exact j_sub hJ [2, 3, 1, 0] rfl (k_J7_fill_d0a16_C_b6 hin hp1 lp1 hJ  p2 0 (np1 : Int) _ gp2 rk_0 (by unfold ri_; omega) hF)
def W_X1_addFact (ad : Nat → Nat) (Q : Int → MM → Prop) (av : List Value) (M : MM) : Prop := ∃ (p1 : Int) (p2 : Int) (p3 : Int), av = [.ref (ad 274), .int (Ii p1), .int (Ii p2), .int (Ii p3)] ∧ ri_ p1 ∧ ri_ p2 ∧ ri_ p3 ∧ w_X1_addFact  Q p1 p2 p3 M
set_option maxHeartbeats 4000000 in
set_option maxRecDepth 100000 in
theorem k_X1_addFact_b72 {l : Launch} {D : va_G} {cy : Nat → ClassId} {ad : Nat → Nat} {Q : Int → MM → Prop} {J : Nat → List (Nat × Value) → List Value → MM → Prop} (hin : jIn ad ksC.length)   (hJ : jOk l D vwCl (tyC cy) cy ad ftC ksC (XtC ad) Om RX1 cX1_addFact 5 0 ({ frames := 0, cells := 0, slots := 0, locals := 0 } : Room) Q J)  : ∀ (M : MM), w_X1_addFact_b72  Q   M → J 72 [(0, .ref (ad 274))] [] M := by
  intro  M  hF
  unfold w_X1_addFact_b72 at hF
  refine j_aload_n hJ dX1_addFact_72 rfl 0 rfl ?_
  refine j_iconst hJ dX1_addFact_73 ?_
  refine j_pz hJ (by decide) kC_274 fC_4_9 rfl fp_X1_68 dX1_addFact_74 (fun M1 eM1 => ?_)
  have hF := hF M1 eM1
  exact j_vret hJ rfl dX1_addFact_77 hF
set_option maxHeartbeats 4000000 in
set_option maxRecDepth 100000 in
theorem c_X1_addFact {l : Launch} {D : va_G} {cy : Nat → ClassId} {ad : Nat → Nat} (hin : jIn ad ksC.length) : jCN l D vwCl (tyC cy) cy ad ftC ksC (XtC ad) yX1_addFact (.code yX1_addFact cX1_addFact 5 none :: Om) ({ frames := 0, cells := 0, slots := 0, locals := 0 } : Room) 0 (W_X1_addFact ad) := by
  refine jCN_of (y := yX1_addFact) (cc := cX1_addFact) (nL := 5) (rk := 0) (rm := ({ frames := 0, cells := 0, slots := 0, locals := 0 } : Room)) (own := RX1) (tyC_ok cy) hin (XtC_ok ad) Om_good (by decide) rfl ?_
  intro Q av M hF
  obtain ⟨p1, p2, p3, rfl, gp1, gp2, gp3, hF⟩ := hF
  refine ⟨Nat.le_of_ble_eq_true rfl, fun J hJ => ?_⟩
  show J 0 [(0, .ref (ad 274)), (1, .int (Ii p1)), (2, .int (Ii p2)), (3, .int (Ii p3))] [] M
  unfold w_X1_addFact at hF
  refine j_iload_n hJ dX1_addFact_0 rfl 1 rfl ?_
  refine j_bipush hJ dX1_addFact_1 (by decide) ?_
  refine j_imul hJ dX1_addFact_3 ?_
  have g1 := hF.1; have hF := hF.2
  refine j_istore (lv' := [(4, .int (Ii (p1 * 40))), (0, .ref (ad 274)), (1, .int (Ii p1)), (2, .int (Ii p2)), (3, .int (Ii p3))]) hJ dX1_addFact_4 (by decide) rfl ?_
  refine j_aload_n hJ dX1_addFact_6 rfl 1 rfl ?_
  refine j_gr (e := 275) hJ kC_274 fC_4_3 fl_X1_15 dX1_addFact_7 rfl ?_
  refine j_iload hJ dX1_addFact_10 0 rfl ?_
  refine j_iload_n hJ dX1_addFact_12 rfl 3 rfl ?_
  refine j_iadd hJ dX1_addFact_13 ?_
  have g2 := hF.1; have hF := hF.2
  refine j_lald hJ g2 kC_275 hF.1 hF.2.1 dX1_addFact_14 (fun v3 ev3 gv3 => ?_)
  have hF := hF.2.2 v3 ev3 gv3
  refine j_iload_n hJ dX1_addFact_15 rfl 4 rfl ?_
  refine j_lshr hJ dX1_addFact_16 ?_
  refine j_lconst (x := 1) hJ dX1_addFact_17 rfl ?_
  refine j_land hJ dX1_addFact_18 ?_
  refine j_lconst (x := 0) hJ dX1_addFact_19 rfl ?_
  refine j_lcmp_eq hJ 25 (rl_of _) lkm_0 dX1_addFact_20 dX1_addFact_21 (by decide) (fun z4 => ?_) (fun z4 => ?_)
  · have hF := hF.1 z4
    refine j_aload_n hJ dX1_addFact_25 rfl 1 rfl ?_
    refine j_gr (e := 275) hJ kC_274 fC_4_3 fl_X1_15 dX1_addFact_26 rfl ?_
    refine j_iload hJ dX1_addFact_29 0 rfl ?_
    refine j_iload_n hJ dX1_addFact_31 rfl 3 rfl ?_
    refine j_iadd hJ dX1_addFact_32 ?_
    have g5 := hF.1; have hF := hF.2
    refine j_dup2_11 hJ dX1_addFact_33 rfl rfl ?_
    refine j_lald hJ g5 kC_275 hF.1 hF.2.1 dX1_addFact_34 (fun v6 ev6 gv6 => ?_)
    have hF := hF.2.2 v6 ev6 gv6
    refine j_lconst (x := 1) hJ dX1_addFact_35 rfl ?_
    refine j_iload_n hJ dX1_addFact_36 rfl 4 rfl ?_
    refine j_lshl hJ dX1_addFact_37 ?_
    refine j_lor hJ dX1_addFact_38 ?_
    refine j_last hJ g5 (rl_of _) kC_275 hF.1 hF.2.1 dX1_addFact_39 (fun M7 eM7 => ?_)
    have hF := hF.2.2 M7 eM7
    refine j_aload_n hJ dX1_addFact_40 rfl 1 rfl ?_
    refine j_gr (e := 276) hJ kC_274 fC_4_4 fl_X1_19 dX1_addFact_41 rfl ?_
    refine j_iload hJ dX1_addFact_44 0 rfl ?_
    refine j_iload_n hJ dX1_addFact_46 rfl 4 rfl ?_
    refine j_iadd hJ dX1_addFact_47 ?_
    have g8 := hF.1; have hF := hF.2
    refine j_dup2_11 hJ dX1_addFact_48 rfl rfl ?_
    refine j_lald hJ g8 kC_276 hF.1 hF.2.1 dX1_addFact_49 (fun v9 ev9 gv9 => ?_)
    have hF := hF.2.2 v9 ev9 gv9
    refine j_lconst (x := 1) hJ dX1_addFact_50 rfl ?_
    refine j_iload_n hJ dX1_addFact_51 rfl 3 rfl ?_
    refine j_lshl hJ dX1_addFact_52 ?_
    refine j_lor hJ dX1_addFact_53 ?_
    refine j_last hJ g8 (rl_of _) kC_276 hF.1 hF.2.1 dX1_addFact_54 (fun M10 eM10 => ?_)
    have hF := hF.2.2 M10 eM10
    refine j_iload_n hJ dX1_addFact_55 rfl 3 rfl ?_
    refine j_iload_n hJ dX1_addFact_56 rfl 4 rfl ?_
    refine j_icmp_ne hJ 72 gp2 gp3 dX1_addFact_57 (by decide) (fun z11 => ?_) (fun z11 => ?_)
    · have hF := hF.1 z11
      exact j_sub hJ [1] rfl (k_X1_addFact_b72 hin  hJ   _  hF)
    · have hF := hF.2 z11
      refine j_aload_n hJ dX1_addFact_60 rfl 1 rfl ?_
      refine j_gr (e := 277) hJ kC_274 fC_4_5 fl_X1_22 dX1_addFact_61 rfl ?_
      refine j_iload_n hJ dX1_addFact_64 rfl 2 rfl ?_
      refine j_dup2_11 hJ dX1_addFact_65 rfl rfl ?_
      refine j_lald hJ gp1 kC_277 hF.1 hF.2.1 dX1_addFact_66 (fun v12 ev12 gv12 => ?_)
      have hF := hF.2.2 v12 ev12 gv12
      refine j_lconst (x := 1) hJ dX1_addFact_67 rfl ?_
      refine j_iload_n hJ dX1_addFact_68 rfl 3 rfl ?_
      refine j_lshl hJ dX1_addFact_69 ?_
      refine j_lor hJ dX1_addFact_70 ?_
      refine j_last hJ gp1 (rl_of _) kC_277 hF.1 hF.2.1 dX1_addFact_71 (fun M13 eM13 => ?_)
      have hF := hF.2.2 M13 eM13
      exact j_sub hJ [1] rfl (k_X1_addFact_b72 hin  hJ   _  hF)
  · have hF := hF.2 z4
    exact j_vret hJ rfl dX1_addFact_24 hF
def W_X1_addGiven (ad : Nat → Nat) (Q : Int → MM → Prop) (av : List Value) (M : MM) : Prop := ∃ (p1 : Nat), av = [.ref (ad 274), .ref (ad p1)] ∧ isP p1 ∧ w_X1_addGiven p1 Q  M
set_option maxHeartbeats 4000000 in
set_option maxRecDepth 100000 in
theorem k_X1_addGiven_b94 {l : Launch} {D : va_G} {cy : Nat → ClassId} {ad : Nat → Nat} {Q : Int → MM → Prop} {J : Nat → List (Nat × Value) → List Value → MM → Prop} (hin : jIn ad ksC.length) {p1 : Nat} (hp1 : isP p1) (hJ : jOk l D vwCl (tyC cy) cy ad ftC ksC (XtC ad) Om RX1 cX1_addGiven 4 0 ({ frames := 1, cells := 0, slots := 0, locals := 24 } : Room) Q J) {K2 : Int → MM → Prop} (hK2 : ∀ (x2 : Int) (M : MM), ri_ x2 → K2 x2 M → J 2 [(0, .ref (ad 274)), (1, .ref (ad p1)), (2, .int (Ii x2))] [] M) {K73 : Int → Int → MM → Prop} (hK73 : ∀ (x2 x3 : Int) (M : MM), ri_ x2 → ri_ x3 → K73 x2 x3 M → J 73 [(0, .ref (ad 274)), (1, .ref (ad p1)), (2, .int (Ii x2)), (3, .int (Ii x3))] [] M) : ∀ (x2 x3 s0 : Int) (M : MM), ri_ x2 → ri_ x3 → ri_ s0 → w_X1_addGiven_b94 p1 Q K2 K73 x2 x3 s0 M → J 94 [(0, .ref (ad 274)), (1, .ref (ad p1)), (2, .int (Ii x2)), (3, .int (Ii x3))] [.int (Ii s0), .ref (ad 274)] M := by
  intro x2 x3 s0 M gx2 gx3 gs0 hF
  unfold w_X1_addGiven_b94 at hF
  refine j_iload_n hJ dX1_addGiven_94 rfl 2 rfl ?_
  refine j_iload_n hJ dX1_addGiven_95 rfl 3 rfl ?_
  refine j_callVv hJ (c_X1_addFact (l := l) (D := D) (cy := cy) (ad := ad) hin) rfl om_141 ⟨rfl, rfl, Nat.le_of_ble_eq_true rfl, Nat.le_of_ble_eq_true rfl⟩ [.int (Ii s0), .int (Ii x2), .int (Ii x3)] mv_X1_92 hd_X1_addFactv kC_274 rfl rfl rfl (Nat.le_of_ble_eq_true rfl) dX1_addGiven_96 ⟨s0, x2, x3, rfl, gs0, gx2, gx3, hF⟩ (fun M2 qM2 => ?_)
  have hF := qM2
  refine j_iinc (lv' := [(3, .int (Ii (x3 + 1))), (0, .ref (ad 274)), (1, .ref (ad p1)), (2, .int (Ii x2))]) (k := 3) hJ dX1_addGiven_99 rfl (by decide) rfl ?_
  have g3 := hF.1; have hF := hF.2
  refine j_goto hJ 73 dX1_addGiven_102 (by decide) ?_
  exact j_sub hJ [1, 2, 3, 0] rfl (hK73 x2 (x3 + 1) _ gx2 g3 hF)
set_option maxHeartbeats 4000000 in
set_option maxRecDepth 100000 in
theorem k_X1_addGiven_b73 {l : Launch} {D : va_G} {cy : Nat → ClassId} {ad : Nat → Nat} {Q : Int → MM → Prop} {J : Nat → List (Nat × Value) → List Value → MM → Prop} (hin : jIn ad ksC.length) {p1 : Nat} (hp1 : isP p1) (hJ : jOk l D vwCl (tyC cy) cy ad ftC ksC (XtC ad) Om RX1 cX1_addGiven 4 0 ({ frames := 1, cells := 0, slots := 0, locals := 24 } : Room) Q J) {K2 : Int → MM → Prop} (hK2 : ∀ (x2 : Int) (M : MM), ri_ x2 → K2 x2 M → J 2 [(0, .ref (ad 274)), (1, .ref (ad p1)), (2, .int (Ii x2))] [] M) : ∀ (x2 x3 : Int) (M : MM), ri_ x2 → ri_ x3 → w_X1_addGiven_b73 p1 Q K2 x2 x3 M → J 73 [(0, .ref (ad 274)), (1, .ref (ad p1)), (2, .int (Ii x2)), (3, .int (Ii x3))] [] M := by
  have H9 : ∀ (n : Nat) (x2 x3 : Int) (M : MM), ri_ x2 → ri_ x3 → jit (fun _ _ _ => False) (wb_X1_addGiven_b73 p1 Q K2) n x2 x3 M → J 73 [(0, .ref (ad 274)), (1, .ref (ad p1)), (2, .int (Ii x2)), (3, .int (Ii x3))] [] M := by
    intro n
    induction n with
    | zero => intro x2 x3 M gx2 gx3 hF; exact False.elim hF
    | succ n ih =>
    intro x2 x3 M gx2 gx3 hF
    have hF : wb_X1_addGiven_b73 p1 Q K2 (jit (fun _ _ _ => False) (wb_X1_addGiven_b73 p1 Q K2) n) x2 x3 M := hF
    unfold wb_X1_addGiven_b73 at hF
    refine j_iload_n hJ dX1_addGiven_73 rfl 3 rfl ?_
    refine j_aload_n hJ dX1_addGiven_74 rfl 0 rfl ?_
    refine j_gi hJ kC_274 fC_4_1 rfl fl_X1_50 dX1_addGiven_75 (fun v1 ev1 gv1 => ?_)
    have hF := hF v1 ev1 gv1
    refine j_icmp_ge hJ 105 gx3 gv1 dX1_addGiven_78 (by decide) (fun z2 => ?_) (fun z2 => ?_)
    · have hF := hF.1 z2
      refine j_iinc (lv' := [(2, .int (Ii (x2 + 1))), (0, .ref (ad 274)), (1, .ref (ad p1)), (3, .int (Ii x3))]) (k := 2) hJ dX1_addGiven_105 rfl (by decide) rfl ?_
      have g3 := hF.1; have hF := hF.2
      refine j_goto hJ 2 dX1_addGiven_108 (by decide) ?_
      exact j_sub hJ [1, 2, 0] rfl (hK2 (x2 + 1) _ g3 hF)
    · have hF := hF.2 z2
      refine j_aload_n hJ dX1_addGiven_81 rfl 0 rfl ?_
      refine j_iload_n hJ dX1_addGiven_82 rfl 2 rfl ?_
      refine j_iload_n hJ dX1_addGiven_83 rfl 3 rfl ?_
      refine j_icmp_ne hJ 92 gx2 gx3 dX1_addGiven_84 (by decide) (fun z4 => ?_) (fun z4 => ?_)
      · have hF := hF.1 z4
        refine j_bipush hJ dX1_addGiven_92 (by decide) ?_
        exact j_sub hJ [0, 1, 2, 3] rfl (k_X1_addGiven_b94 hin hp1 hJ hK2 ih x2 x3 8 _ gx2 gx3 rk_8 hF)
      · have hF := hF.2 z4
        refine j_bipush hJ dX1_addGiven_87 (by decide) ?_
        refine j_goto hJ 94 dX1_addGiven_89 (by decide) ?_
        exact j_sub hJ [0, 1, 2, 3] rfl (k_X1_addGiven_b94 hin hp1 hJ hK2 ih x2 x3 7 _ gx2 gx3 rk_7 hF)
  intro x2 x3 M gx2 gx3 hF
  obtain ⟨n, hF⟩ := hF
  exact H9 n x2 x3 M gx2 gx3 hF
set_option maxHeartbeats 4000000 in
set_option maxRecDepth 100000 in
theorem k_X1_addGiven_b65 {l : Launch} {D : va_G} {cy : Nat → ClassId} {ad : Nat → Nat} {Q : Int → MM → Prop} {J : Nat → List (Nat × Value) → List Value → MM → Prop} (hin : jIn ad ksC.length) {p1 : Nat} (hp1 : isP p1) (hJ : jOk l D vwCl (tyC cy) cy ad ftC ksC (XtC ad) Om RX1 cX1_addGiven 4 0 ({ frames := 1, cells := 0, slots := 0, locals := 24 } : Room) Q J) {K2 : Int → MM → Prop} (hK2 : ∀ (x2 : Int) (M : MM), ri_ x2 → K2 x2 M → J 2 [(0, .ref (ad 274)), (1, .ref (ad p1)), (2, .int (Ii x2))] [] M) {K17 : Int → Int → MM → Prop} (hK17 : ∀ (x2 x3 : Int) (M : MM), ri_ x2 → ri_ x3 → K17 x2 x3 M → J 17 [(0, .ref (ad 274)), (1, .ref (ad p1)), (2, .int (Ii x2)), (3, .int (Ii x3))] [] M) : ∀ (x2 x3 : Int) (M : MM), ri_ x2 → ri_ x3 → w_X1_addGiven_b65 p1 Q K2 K17 x2 x3 M → J 65 [(0, .ref (ad 274)), (1, .ref (ad p1)), (2, .int (Ii x2)), (3, .int (Ii x3))] [] M := by
  intro x2 x3 M gx2 gx3 hF
  unfold w_X1_addGiven_b65 at hF
  refine j_iinc (lv' := [(3, .int (Ii (x3 + 1))), (0, .ref (ad 274)), (1, .ref (ad p1)), (2, .int (Ii x2))]) (k := 3) hJ dX1_addGiven_65 rfl (by decide) rfl ?_
  have g1 := hF.1; have hF := hF.2
  refine j_goto hJ 17 dX1_addGiven_68 (by decide) ?_
  exact j_sub hJ [1, 2, 3, 0] rfl (hK17 x2 (x3 + 1) _ gx2 g1 hF)
set_option maxHeartbeats 4000000 in
set_option maxRecDepth 100000 in
theorem k_X1_addGiven_b17 {l : Launch} {D : va_G} {cy : Nat → ClassId} {ad : Nat → Nat} {Q : Int → MM → Prop} {J : Nat → List (Nat × Value) → List Value → MM → Prop} (hin : jIn ad ksC.length) {p1 : Nat} (hp1 : isP p1) (hJ : jOk l D vwCl (tyC cy) cy ad ftC ksC (XtC ad) Om RX1 cX1_addGiven 4 0 ({ frames := 1, cells := 0, slots := 0, locals := 24 } : Room) Q J) {K2 : Int → MM → Prop} (hK2 : ∀ (x2 : Int) (M : MM), ri_ x2 → K2 x2 M → J 2 [(0, .ref (ad 274)), (1, .ref (ad p1)), (2, .int (Ii x2))] [] M) : ∀ (x2 x3 : Int) (M : MM), ri_ x2 → ri_ x3 → w_X1_addGiven_b17 p1 Q K2 x2 x3 M → J 17 [(0, .ref (ad 274)), (1, .ref (ad p1)), (2, .int (Ii x2)), (3, .int (Ii x3))] [] M := by
  have H9 : ∀ (n : Nat) (x2 x3 : Int) (M : MM), ri_ x2 → ri_ x3 → jit (fun _ _ _ => False) (wb_X1_addGiven_b17 p1 Q K2) n x2 x3 M → J 17 [(0, .ref (ad 274)), (1, .ref (ad p1)), (2, .int (Ii x2)), (3, .int (Ii x3))] [] M := by
    intro n
    induction n with
    | zero => intro x2 x3 M gx2 gx3 hF; exact False.elim hF
    | succ n ih =>
    intro x2 x3 M gx2 gx3 hF
    have hF : wb_X1_addGiven_b17 p1 Q K2 (jit (fun _ _ _ => False) (wb_X1_addGiven_b17 p1 Q K2) n) x2 x3 M := hF
    unfold wb_X1_addGiven_b17 at hF
    refine j_iload_n hJ dX1_addGiven_17 rfl 3 rfl ?_
    refine j_aload_n hJ dX1_addGiven_18 rfl 1 rfl ?_
    refine j_gr (e := (p1 + 4)) hJ (kP_0 hp1) fC_8_4 fl_X1_80 dX1_addGiven_19 rfl ?_
    refine j_iload_n hJ dX1_addGiven_22 rfl 2 rfl ?_
    refine j_iconst hJ dX1_addGiven_23 ?_
    refine j_iadd hJ dX1_addGiven_24 ?_
    have g1 := hF.1; have hF := hF.2
    refine j_iald hJ g1 (kP_4 hp1) hF.1 hF.2.1 dX1_addGiven_25 (fun v2 ev2 gv2 => ?_)
    have hF := hF.2.2 v2 ev2 gv2
    refine j_icmp_ge hJ 71 gx3 gv2 dX1_addGiven_26 (by decide) (fun z3 => ?_) (fun z3 => ?_)
    · have hF := hF.1 z3
      refine j_iconst hJ dX1_addGiven_71 ?_
      refine j_istore_n (lv' := [(3, .int (Ii 0)), (0, .ref (ad 274)), (1, .ref (ad p1)), (2, .int (Ii x2))]) hJ dX1_addGiven_72 rfl (by decide) rfl ?_
      exact j_sub hJ [1, 2, 3, 0] rfl (k_X1_addGiven_b73 hin hp1 hJ hK2 x2 0 _ gx2 rk_0 hF)
    · have hF := hF.2 z3
      refine j_aload_n hJ dX1_addGiven_29 rfl 1 rfl ?_
      refine j_gr (e := (p1 + 10)) hJ (kP_0 hp1) fC_8_10 fl_X1_83 dX1_addGiven_30 rfl ?_
      refine j_iload_n hJ dX1_addGiven_33 rfl 3 rfl ?_
      refine j_zald hJ gx3 (kP_10 hp1) hF.1 hF.2.1 dX1_addGiven_34 (fun v4 ev4 gv4 => ?_)
      have hF := hF.2.2 v4 ev4 gv4
      refine j_if_eq hJ 65 (jz_ri gv4) dX1_addGiven_35 (by decide) (fun z5 => ?_) (fun z5 => ?_)
      · have hF := hF.1 z5
        exact j_sub hJ [0, 1, 2, 3] rfl (k_X1_addGiven_b65 hin hp1 hJ hK2 ih x2 x3 _ gx2 gx3 hF)
      · have hF := hF.2 z5
        refine j_aload_n hJ dX1_addGiven_38 rfl 1 rfl ?_
        refine j_gr (e := (p1 + 9)) hJ (kP_0 hp1) fC_8_9 fl_X1_87 dX1_addGiven_39 rfl ?_
        refine j_iload_n hJ dX1_addGiven_42 rfl 3 rfl ?_
        refine j_lald hJ gx3 (kP_9 hp1) hF.1 hF.2.1 dX1_addGiven_43 (fun v6 ev6 gv6 => ?_)
        have hF := hF.2.2 v6 ev6 gv6
        refine j_ldc2 hJ (-1) om_146 (by decide) dX1_addGiven_44 ?_
        refine j_lcmp_eq hJ 65 gv6 lk_m1 dX1_addGiven_47 dX1_addGiven_48 (by decide) (fun z7 => ?_) (fun z7 => ?_)
        · have hF := hF.1 z7
          exact j_sub hJ [0, 1, 2, 3] rfl (k_X1_addGiven_b65 hin hp1 hJ hK2 ih x2 x3 _ gx2 gx3 hF)
        · have hF := hF.2 z7
          refine j_aload_n hJ dX1_addGiven_51 rfl 0 rfl ?_
          refine j_bipush hJ dX1_addGiven_52 (by decide) ?_
          refine j_iload_n hJ dX1_addGiven_54 rfl 2 rfl ?_
          refine j_aload_n hJ dX1_addGiven_55 rfl 1 rfl ?_
          refine j_gr (e := (p1 + 9)) hJ (kP_0 hp1) fC_8_9 fl_X1_87 dX1_addGiven_56 rfl ?_
          refine j_iload_n hJ dX1_addGiven_59 rfl 3 rfl ?_
          refine j_lald hJ gx3 (kP_9 hp1) hF.1 hF.2.1 dX1_addGiven_60 (fun v8 ev8 gv8 => ?_)
          have hF := hF.2.2 v8 ev8 gv8
          refine j_l2i hJ dX1_addGiven_61 ?_
          have g9 := hF.1; have hF := hF.2
          refine j_callVv hJ (c_X1_addFact (l := l) (D := D) (cy := cy) (ad := ad) hin) rfl om_141 ⟨rfl, rfl, Nat.le_of_ble_eq_true rfl, Nat.le_of_ble_eq_true rfl⟩ [.int (Ii 6), .int (Ii x2), .int (Ii v8)] mv_X1_92 hd_X1_addFactv kC_274 rfl rfl rfl (Nat.le_of_ble_eq_true rfl) dX1_addGiven_62 ⟨6, x2, v8, rfl, rk_6, gx2, g9, hF⟩ (fun M11 qM11 => ?_)
          have hF := qM11
          exact j_sub hJ [0, 1, 2, 3] rfl (k_X1_addGiven_b65 hin hp1 hJ hK2 ih x2 x3 _ gx2 gx3 hF)
  intro x2 x3 M gx2 gx3 hF
  obtain ⟨n, hF⟩ := hF
  exact H9 n x2 x3 M gx2 gx3 hF
set_option maxHeartbeats 4000000 in
set_option maxRecDepth 100000 in
theorem k_X1_addGiven_b2 {l : Launch} {D : va_G} {cy : Nat → ClassId} {ad : Nat → Nat} {Q : Int → MM → Prop} {J : Nat → List (Nat × Value) → List Value → MM → Prop} (hin : jIn ad ksC.length) {p1 : Nat} (hp1 : isP p1) (hJ : jOk l D vwCl (tyC cy) cy ad ftC ksC (XtC ad) Om RX1 cX1_addGiven 4 0 ({ frames := 1, cells := 0, slots := 0, locals := 24 } : Room) Q J)  : ∀ (x2 : Int) (M : MM), ri_ x2 → w_X1_addGiven_b2 p1 Q  x2 M → J 2 [(0, .ref (ad 274)), (1, .ref (ad p1)), (2, .int (Ii x2))] [] M := by
  have H9 : ∀ (n : Nat) (x2 : Int) (M : MM), ri_ x2 → jit (fun _ _ => False) (wb_X1_addGiven_b2 p1 Q ) n x2 M → J 2 [(0, .ref (ad 274)), (1, .ref (ad p1)), (2, .int (Ii x2))] [] M := by
    intro n
    induction n with
    | zero => intro x2 M gx2 hF; exact False.elim hF
    | succ n ih =>
    intro x2 M gx2 hF
    have hF : wb_X1_addGiven_b2 p1 Q  (jit (fun _ _ => False) (wb_X1_addGiven_b2 p1 Q ) n) x2 M := hF
    unfold wb_X1_addGiven_b2 at hF
    refine j_iload_n hJ dX1_addGiven_2 rfl 2 rfl ?_
    refine j_aload_n hJ dX1_addGiven_3 rfl 0 rfl ?_
    refine j_gi hJ kC_274 fC_4_1 rfl fl_X1_50 dX1_addGiven_4 (fun v1 ev1 gv1 => ?_)
    have hF := hF v1 ev1 gv1
    refine j_icmp_ge hJ 111 gx2 gv1 dX1_addGiven_7 (by decide) (fun z2 => ?_) (fun z2 => ?_)
    · have hF := hF.1 z2
      exact j_vret hJ rfl dX1_addGiven_111 hF
    · have hF := hF.2 z2
      refine j_aload_n hJ dX1_addGiven_10 rfl 1 rfl ?_
      refine j_gr (e := (p1 + 4)) hJ (kP_0 hp1) fC_8_4 fl_X1_80 dX1_addGiven_11 rfl ?_
      refine j_iload_n hJ dX1_addGiven_14 rfl 2 rfl ?_
      refine j_iald hJ gx2 (kP_4 hp1) hF.1 hF.2.1 dX1_addGiven_15 (fun v3 ev3 gv3 => ?_)
      have hF := hF.2.2 v3 ev3 gv3
      refine j_istore_n (lv' := [(3, .int (Ii v3)), (0, .ref (ad 274)), (1, .ref (ad p1)), (2, .int (Ii x2))]) hJ dX1_addGiven_16 rfl (by decide) rfl ?_
      exact j_sub hJ [1, 2, 3, 0] rfl (k_X1_addGiven_b17 hin hp1 hJ ih x2 v3 _ gx2 gv3 hF)
  intro x2 M gx2 hF
  obtain ⟨n, hF⟩ := hF
  exact H9 n x2 M gx2 hF
set_option maxHeartbeats 4000000 in
set_option maxRecDepth 100000 in
theorem c_X1_addGiven {l : Launch} {D : va_G} {cy : Nat → ClassId} {ad : Nat → Nat} (hin : jIn ad ksC.length) : jCN l D vwCl (tyC cy) cy ad ftC ksC (XtC ad) yX1_addGiven (.code yX1_addGiven cX1_addGiven 4 none :: Om) ({ frames := 1, cells := 0, slots := 0, locals := 24 } : Room) 0 (W_X1_addGiven ad) := by
  refine jCN_of (y := yX1_addGiven) (cc := cX1_addGiven) (nL := 4) (rk := 0) (rm := ({ frames := 1, cells := 0, slots := 0, locals := 24 } : Room)) (own := RX1) (tyC_ok cy) hin (XtC_ok ad) Om_good (by decide) rfl ?_
  intro Q av M hF
  obtain ⟨p1, rfl, hp1, hF⟩ := hF
  refine ⟨Nat.le_of_ble_eq_true rfl, fun J hJ => ?_⟩
  show J 0 [(0, .ref (ad 274)), (1, .ref (ad p1))] [] M
  unfold w_X1_addGiven at hF
  refine j_iconst hJ dX1_addGiven_0 ?_
  refine j_istore_n (lv' := [(2, .int (Ii 0)), (0, .ref (ad 274)), (1, .ref (ad p1))]) hJ dX1_addGiven_1 rfl (by decide) rfl ?_
  exact j_sub hJ [1, 2, 0] rfl (k_X1_addGiven_b2 hin hp1 hJ  0 _ rk_0 hF)
def W_X10_isNamed (ad : Nat → Nat) (Q : Int → MM → Prop) (av : List Value) (M : MM) : Prop := ∃ (p1 : Int) (p2 : Int), av = [.ref (ad 8), .int (Ii p1), .long (Ll p2)] ∧ ri_ p1 ∧ rl_ p2 ∧ w_X10_isNamed  Q p1 p2 M
set_option maxHeartbeats 4000000 in
set_option maxRecDepth 100000 in
theorem k_X10_isNamed_b17 {l : Launch} {D : va_G} {cy : Nat → ClassId} {ad : Nat → Nat} {Q : Int → MM → Prop} {J : Nat → List (Nat × Value) → List Value → MM → Prop} (hin : jIn ad ksC.length)   (hJ : jOk l D vwCl (tyC cy) cy ad ftC ksC (XtC ad) Om RX10 cX10_isNamed 6 3 ({ frames := 1, cells := 0, slots := 0, locals := 20 } : Room) Q J)  : ∀ (x2 x4 x5 : Int) (M : MM), rl_ x2 → ri_ x4 → ri_ x5 → w_X10_isNamed_b17  Q  x2 x4 x5 M → J 17 [(0, .ref (ad 8)), (2, .long (Ll x2)), (4, .int (Ii x4)), (5, .int (Ii x5))] [] M := by
  have H9 : ∀ (n : Nat) (x2 x4 x5 : Int) (M : MM), rl_ x2 → ri_ x4 → ri_ x5 → jit (fun _ _ _ _ => False) (wb_X10_isNamed_b17  Q ) n x2 x4 x5 M → J 17 [(0, .ref (ad 8)), (2, .long (Ll x2)), (4, .int (Ii x4)), (5, .int (Ii x5))] [] M := by
    intro n
    induction n with
    | zero => intro x2 x4 x5 M gx2 gx4 gx5 hF; exact False.elim hF
    | succ n ih =>
    intro x2 x4 x5 M gx2 gx4 gx5 hF
    have hF : wb_X10_isNamed_b17  Q  (jit (fun _ _ _ _ => False) (wb_X10_isNamed_b17  Q ) n) x2 x4 x5 M := hF
    unfold wb_X10_isNamed_b17 at hF
    refine j_iload hJ dX10_isNamed_17 3 rfl ?_
    refine j_bipush hJ dX10_isNamed_19 (by decide) ?_
    refine j_icmp_ge hJ 59 gx5 rk_16 dX10_isNamed_21 (by decide) (fun z1 => ?_) (fun z1 => ?_)
    · have hF := hF.1 z1
      refine j_iconst hJ dX10_isNamed_59 ?_
      exact j_zret hJ rfl (by decide) dX10_isNamed_60 hF
    · have hF := hF.2 z1
      refine j_iload hJ dX10_isNamed_24 2 rfl ?_
      refine j_iconst hJ dX10_isNamed_26 ?_
      refine j_icmp_eq hJ 59 gx4 rk_m1 dX10_isNamed_27 (by decide) (fun z2 => ?_) (fun z2 => ?_)
      · have hF := hF.1 z2
        refine j_iconst hJ dX10_isNamed_59 ?_
        exact j_zret hJ rfl (by decide) dX10_isNamed_60 hF
      · have hF := hF.2 z2
        refine j_aload_n hJ dX10_isNamed_30 rfl 0 rfl ?_
        refine j_gr (e := 9) hJ kC_8 fC_13_1 fl_X10_11 dX10_isNamed_31 rfl ?_
        refine j_iload hJ dX10_isNamed_34 2 rfl ?_
        refine j_lald hJ gx4 kC_9 hF.1 hF.2.1 dX10_isNamed_36 (fun v3 ev3 gv3 => ?_)
        have hF := hF.2.2 v3 ev3 gv3
        refine j_lload_n hJ dX10_isNamed_37 rfl 1 rfl ?_
        refine j_lcmp_ne hJ 44 gv3 gx2 dX10_isNamed_38 dX10_isNamed_39 (by decide) (fun z4 => ?_) (fun z4 => ?_)
        · have hF := hF.1 z4
          refine j_aload_n hJ dX10_isNamed_44 rfl 0 rfl ?_
          refine j_gr (e := 11) hJ kC_8 fC_13_3 fl_X10_19 dX10_isNamed_45 rfl ?_
          refine j_iload hJ dX10_isNamed_48 2 rfl ?_
          refine j_iald hJ gx4 kC_11 hF.1 hF.2.1 dX10_isNamed_50 (fun v5 ev5 gv5 => ?_)
          have hF := hF.2.2 v5 ev5 gv5
          refine j_istore (lv' := [(4, .int (Ii v5)), (0, .ref (ad 8)), (2, .long (Ll x2)), (5, .int (Ii x5))]) hJ dX10_isNamed_51 (by decide) rfl ?_
          refine j_iinc (lv' := [(5, .int (Ii (x5 + 1))), (4, .int (Ii v5)), (0, .ref (ad 8)), (2, .long (Ll x2))]) (k := 3) hJ dX10_isNamed_53 rfl (by decide) rfl ?_
          have g6 := hF.1; have hF := hF.2
          refine j_goto hJ 17 dX10_isNamed_56 (by decide) ?_
          exact j_sub hJ [2, 3, 1, 0] rfl (ih x2 v5 (x5 + 1) _ gx2 gv5 g6 hF)
        · have hF := hF.2 z4
          refine j_iconst hJ dX10_isNamed_42 ?_
          exact j_zret hJ rfl (by decide) dX10_isNamed_43 hF
  intro x2 x4 x5 M gx2 gx4 gx5 hF
  obtain ⟨n, hF⟩ := hF
  exact H9 n x2 x4 x5 M gx2 gx4 gx5 hF
set_option maxHeartbeats 4000000 in
set_option maxRecDepth 100000 in
theorem k_X10_isNamed_b12 {l : Launch} {D : va_G} {cy : Nat → ClassId} {ad : Nat → Nat} {Q : Int → MM → Prop} {J : Nat → List (Nat × Value) → List Value → MM → Prop} (hin : jIn ad ksC.length)   (hJ : jOk l D vwCl (tyC cy) cy ad ftC ksC (XtC ad) Om RX10 cX10_isNamed 6 3 ({ frames := 1, cells := 0, slots := 0, locals := 20 } : Room) Q J)  : ∀ (x2 s0 : Int) (M : MM), rl_ x2 → ri_ s0 → w_X10_isNamed_b12  Q  x2 s0 M → J 12 [(0, .ref (ad 8)), (2, .long (Ll x2))] [.int (Ii s0)] M := by
  intro x2 s0 M gx2 gs0 hF
  unfold w_X10_isNamed_b12 at hF
  refine j_istore (lv' := [(4, .int (Ii s0)), (0, .ref (ad 8)), (2, .long (Ll x2))]) hJ dX10_isNamed_12 (by decide) rfl ?_
  refine j_iconst hJ dX10_isNamed_14 ?_
  refine j_istore (lv' := [(5, .int (Ii 0)), (4, .int (Ii s0)), (0, .ref (ad 8)), (2, .long (Ll x2))]) hJ dX10_isNamed_15 (by decide) rfl ?_
  exact j_sub hJ [2, 3, 1, 0] rfl (k_X10_isNamed_b17 hin  hJ  x2 s0 0 _ gx2 gs0 rk_0 hF)
set_option maxHeartbeats 4000000 in
set_option maxRecDepth 100000 in
theorem c_X10_isNamed {l : Launch} {D : va_G} {cy : Nat → ClassId} {ad : Nat → Nat} (hin : jIn ad ksC.length) : jCN l D vwCl (tyC cy) cy ad ftC ksC (XtC ad) yX10_isNamed (.code yX10_isNamed cX10_isNamed 6 (some .boolean) :: Om) ({ frames := 1, cells := 0, slots := 0, locals := 20 } : Room) 3 (W_X10_isNamed ad) := by
  refine jCN_of (y := yX10_isNamed) (cc := cX10_isNamed) (nL := 6) (rk := 3) (rm := ({ frames := 1, cells := 0, slots := 0, locals := 20 } : Room)) (own := RX10) (tyC_ok cy) hin (XtC_ok ad) Om_good (by decide) rfl ?_
  intro Q av M hF
  obtain ⟨p1, p2, rfl, gp1, gp2, hF⟩ := hF
  refine ⟨Nat.le_of_ble_eq_true rfl, fun J hJ => ?_⟩
  show J 0 [(0, .ref (ad 8)), (1, .int (Ii p1)), (2, .long (Ll p2))] [] M
  unfold w_X10_isNamed at hF
  refine j_iload_n hJ dX10_isNamed_0 rfl 1 rfl ?_
  refine j_callSz hJ (c_X10_isArray (l := l) (D := D) (cy := cy) (ad := ad) hin) rfl om_39 ⟨rfl, rfl, Nat.le_of_ble_eq_true rfl, Nat.le_of_ble_eq_true rfl⟩ [.int (Ii p1)] mv_X10_86 hd_X10_isArray rfl (Nat.le_of_ble_eq_true rfl) dX10_isNamed_1 ⟨p1, rfl, gp1, hF⟩ (fun r1 M2 gr1 qM2 => ?_)
  have hF := qM2 gr1
  refine j_if_eq hJ 11 (jz_ri gr1) dX10_isNamed_4 (by decide) (fun z3 => ?_) (fun z3 => ?_)
  · have hF := hF.1 z3
    refine j_iload_n hJ dX10_isNamed_11 rfl 1 rfl ?_
    exact j_sub hJ [0, 2] rfl (k_X10_isNamed_b12 hin  hJ  p2 p1 _ gp2 gp1 hF)
  · have hF := hF.2 z3
    refine j_iconst hJ dX10_isNamed_7 ?_
    refine j_goto hJ 12 dX10_isNamed_8 (by decide) ?_
    exact j_sub hJ [0, 2] rfl (k_X10_isNamed_b12 hin  hJ  p2 (-1) _ gp2 rk_m1 hF)
def W_X1_findClasses (ad : Nat → Nat) (Q : Int → MM → Prop) (av : List Value) (M : MM) : Prop := ∃ (p1 : Nat), av = [.ref (ad 274), .ref (ad p1)] ∧ isP p1 ∧ w_X1_findClasses p1 Q  M
set_option maxHeartbeats 4000000 in
set_option maxRecDepth 100000 in
theorem k_X1_findClasses_b117 {l : Launch} {D : va_G} {cy : Nat → ClassId} {ad : Nat → Nat} {Q : Int → MM → Prop} {J : Nat → List (Nat × Value) → List Value → MM → Prop} (hin : jIn ad ksC.length) {p1 : Nat} (hp1 : isP p1) (hJ : jOk l D vwCl (tyC cy) cy ad ftC ksC (XtC ad) Om RX1 cX1_findClasses 6 0 ({ frames := 2, cells := 0, slots := 0, locals := 45 } : Room) Q J) {K2 : Int → MM → Prop} (hK2 : ∀ (x2 : Int) (M : MM), ri_ x2 → K2 x2 M → J 2 [(0, .ref (ad 274)), (1, .ref (ad p1)), (2, .int (Ii x2))] [] M) {K15 : Int → Int → MM → Prop} (hK15 : ∀ (x2 x3 : Int) (M : MM), ri_ x2 → ri_ x3 → K15 x2 x3 M → J 15 [(0, .ref (ad 274)), (1, .ref (ad p1)), (2, .int (Ii x2)), (3, .int (Ii x3))] [] M) : ∀ (x2 x3 : Int) (M : MM), ri_ x2 → ri_ x3 → w_X1_findClasses_b117 p1 Q K2 K15 x2 x3 M → J 117 [(0, .ref (ad 274)), (1, .ref (ad p1)), (2, .int (Ii x2)), (3, .int (Ii x3))] [] M := by
  intro x2 x3 M gx2 gx3 hF
  unfold w_X1_findClasses_b117 at hF
  refine j_iinc (lv' := [(3, .int (Ii (x3 + 1))), (0, .ref (ad 274)), (1, .ref (ad p1)), (2, .int (Ii x2))]) (k := 3) hJ dX1_findClasses_117 rfl (by decide) rfl ?_
  have g1 := hF.1; have hF := hF.2
  refine j_goto hJ 15 dX1_findClasses_120 (by decide) ?_
  exact j_sub hJ [1, 2, 3, 0] rfl (hK15 x2 (x3 + 1) _ gx2 g1 hF)
set_option maxHeartbeats 4000000 in
set_option maxRecDepth 100000 in
theorem k_X1_findClasses_b111 {l : Launch} {D : va_G} {cy : Nat → ClassId} {ad : Nat → Nat} {Q : Int → MM → Prop} {J : Nat → List (Nat × Value) → List Value → MM → Prop} (hin : jIn ad ksC.length) {p1 : Nat} (hp1 : isP p1) (hJ : jOk l D vwCl (tyC cy) cy ad ftC ksC (XtC ad) Om RX1 cX1_findClasses 6 0 ({ frames := 2, cells := 0, slots := 0, locals := 45 } : Room) Q J) {K2 : Int → MM → Prop} (hK2 : ∀ (x2 : Int) (M : MM), ri_ x2 → K2 x2 M → J 2 [(0, .ref (ad 274)), (1, .ref (ad p1)), (2, .int (Ii x2))] [] M) {K15 : Int → Int → MM → Prop} (hK15 : ∀ (x2 x3 : Int) (M : MM), ri_ x2 → ri_ x3 → K15 x2 x3 M → J 15 [(0, .ref (ad 274)), (1, .ref (ad p1)), (2, .int (Ii x2)), (3, .int (Ii x3))] [] M) {K46 : Int → Int → Int → Int → MM → Prop} (hK46 : ∀ (x2 x3 x4 x5 : Int) (M : MM), ri_ x2 → ri_ x3 → ri_ x4 → ri_ x5 → K46 x2 x3 x4 x5 M → J 46 [(0, .ref (ad 274)), (1, .ref (ad p1)), (2, .int (Ii x2)), (3, .int (Ii x3)), (4, .int (Ii x4)), (5, .int (Ii x5))] [] M) : ∀ (x2 x3 x4 x5 : Int) (M : MM), ri_ x2 → ri_ x3 → ri_ x4 → ri_ x5 → w_X1_findClasses_b111 p1 Q K2 K15 K46 x2 x3 x4 x5 M → J 111 [(0, .ref (ad 274)), (1, .ref (ad p1)), (2, .int (Ii x2)), (3, .int (Ii x3)), (4, .int (Ii x4)), (5, .int (Ii x5))] [] M := by
  intro x2 x3 x4 x5 M gx2 gx3 gx4 gx5 hF
  unfold w_X1_findClasses_b111 at hF
  refine j_iinc (lv' := [(5, .int (Ii (x5 + 1))), (0, .ref (ad 274)), (1, .ref (ad p1)), (2, .int (Ii x2)), (3, .int (Ii x3)), (4, .int (Ii x4))]) (k := 5) hJ dX1_findClasses_111 rfl (by decide) rfl ?_
  have g1 := hF.1; have hF := hF.2
  refine j_goto hJ 46 dX1_findClasses_114 (by decide) ?_
  exact j_sub hJ [1, 2, 3, 4, 5, 0] rfl (hK46 x2 x3 x4 (x5 + 1) _ gx2 gx3 gx4 g1 hF)
set_option maxHeartbeats 4000000 in
set_option maxRecDepth 100000 in
theorem k_X1_findClasses_b46 {l : Launch} {D : va_G} {cy : Nat → ClassId} {ad : Nat → Nat} {Q : Int → MM → Prop} {J : Nat → List (Nat × Value) → List Value → MM → Prop} (hin : jIn ad ksC.length) {p1 : Nat} (hp1 : isP p1) (hJ : jOk l D vwCl (tyC cy) cy ad ftC ksC (XtC ad) Om RX1 cX1_findClasses 6 0 ({ frames := 2, cells := 0, slots := 0, locals := 45 } : Room) Q J) {K2 : Int → MM → Prop} (hK2 : ∀ (x2 : Int) (M : MM), ri_ x2 → K2 x2 M → J 2 [(0, .ref (ad 274)), (1, .ref (ad p1)), (2, .int (Ii x2))] [] M) {K15 : Int → Int → MM → Prop} (hK15 : ∀ (x2 x3 : Int) (M : MM), ri_ x2 → ri_ x3 → K15 x2 x3 M → J 15 [(0, .ref (ad 274)), (1, .ref (ad p1)), (2, .int (Ii x2)), (3, .int (Ii x3))] [] M) : ∀ (x2 x3 x4 x5 : Int) (M : MM), ri_ x2 → ri_ x3 → ri_ x4 → ri_ x5 → w_X1_findClasses_b46 p1 Q K2 K15 x2 x3 x4 x5 M → J 46 [(0, .ref (ad 274)), (1, .ref (ad p1)), (2, .int (Ii x2)), (3, .int (Ii x3)), (4, .int (Ii x4)), (5, .int (Ii x5))] [] M := by
  have H9 : ∀ (n : Nat) (x2 x3 x4 x5 : Int) (M : MM), ri_ x2 → ri_ x3 → ri_ x4 → ri_ x5 → jit (fun _ _ _ _ _ => False) (wb_X1_findClasses_b46 p1 Q K2 K15) n x2 x3 x4 x5 M → J 46 [(0, .ref (ad 274)), (1, .ref (ad p1)), (2, .int (Ii x2)), (3, .int (Ii x3)), (4, .int (Ii x4)), (5, .int (Ii x5))] [] M := by
    intro n
    induction n with
    | zero => intro x2 x3 x4 x5 M gx2 gx3 gx4 gx5 hF; exact False.elim hF
    | succ n ih =>
    intro x2 x3 x4 x5 M gx2 gx3 gx4 gx5 hF
    have hF : wb_X1_findClasses_b46 p1 Q K2 K15 (jit (fun _ _ _ _ _ => False) (wb_X1_findClasses_b46 p1 Q K2 K15) n) x2 x3 x4 x5 M := hF
    unfold wb_X1_findClasses_b46 at hF
    refine j_iload hJ dX1_findClasses_46 5 rfl ?_
    refine j_aload_n hJ dX1_findClasses_48 rfl 0 rfl ?_
    refine j_gi hJ kC_274 fC_4_1 rfl fl_X1_50 dX1_findClasses_49 (fun v1 ev1 gv1 => ?_)
    have hF := hF v1 ev1 gv1
    refine j_icmp_ge hJ 117 gx5 gv1 dX1_findClasses_52 (by decide) (fun z2 => ?_) (fun z2 => ?_)
    · have hF := hF.1 z2
      exact j_sub hJ [0, 1, 2, 3] rfl (k_X1_findClasses_b117 hin hp1 hJ hK2 hK15 x2 x3 _ gx2 gx3 hF)
    · have hF := hF.2 z2
      refine j_aload_n hJ dX1_findClasses_55 rfl 0 rfl ?_
      have ec3 := hF.1; have hF := hF.2
      refine j_gq (v := 261) hJ kC_274 fC_4_8 rfl fl_X1_34 dX1_findClasses_56 ec3 ?_
      refine j_gr (e := 267) hJ kC_261 fC_10_9 fl_X1_99 dX1_findClasses_59 rfl ?_
      refine j_iload hJ dX1_findClasses_62 4 rfl ?_
      refine j_iald hJ gx4 kC_267 hF.1 hF.2.1 dX1_findClasses_64 (fun v4 ev4 gv4 => ?_)
      have hF := hF.2.2 v4 ev4 gv4
      refine j_bipush hJ dX1_findClasses_65 (by decide) ?_
      refine j_icmp_ne hJ 117 gv4 rk_9 dX1_findClasses_67 (by decide) (fun z5 => ?_) (fun z5 => ?_)
      · have hF := hF.1 z5
        exact j_sub hJ [0, 1, 2, 3] rfl (k_X1_findClasses_b117 hin hp1 hJ hK2 hK15 x2 x3 _ gx2 gx3 hF)
      · have hF := hF.2 z5
        refine j_aload_n hJ dX1_findClasses_70 rfl 0 rfl ?_
        refine j_ga hJ kC_274 fC_4_0 fl_X1_9 dX1_findClasses_71 ?_
        refine j_aload_n hJ dX1_findClasses_74 rfl 1 rfl ?_
        refine j_gr (e := (p1 + 2)) hJ (kP_0 hp1) fC_8_2 fl_X1_102 dX1_findClasses_75 rfl ?_
        refine j_iload hJ dX1_findClasses_78 5 rfl ?_
        refine j_iald hJ gx5 (kP_2 hp1) hF.1 hF.2.1 dX1_findClasses_80 (fun v6 ev6 gv6 => ?_)
        have hF := hF.2.2 v6 ev6 gv6
        refine j_aload_n hJ dX1_findClasses_81 rfl 0 rfl ?_
        have ec7 := hF.1; have hF := hF.2
        refine j_gq (v := 261) hJ kC_274 fC_4_8 rfl fl_X1_34 dX1_findClasses_82 ec7 ?_
        refine j_gr (e := 270) hJ kC_261 fC_10_12 fl_X1_105 dX1_findClasses_85 rfl ?_
        refine j_iload hJ dX1_findClasses_88 4 rfl ?_
        refine j_lald hJ gx4 kC_270 hF.1 hF.2.1 dX1_findClasses_90 (fun v8 ev8 gv8 => ?_)
        have hF := hF.2.2 v8 ev8 gv8
        refine j_callVz hJ (c_X10_isNamed (l := l) (D := D) (cy := cy) (ad := ad) hin) rfl om_151 ⟨rfl, rfl, Nat.le_of_ble_eq_true rfl, Nat.le_of_ble_eq_true rfl⟩ [.int (Ii v6), .long (Ll v8)] mv_X1_108 hd_X10_isNamedv kC_8 rfl rfl rfl (Nat.le_of_ble_eq_true rfl) dX1_findClasses_91 ⟨v6, v8, rfl, gv6, gv8, hF⟩ (fun r9 M10 gr9 qM10 => ?_)
        have hF := qM10 gr9
        refine j_if_eq hJ 111 (jz_ri gr9) dX1_findClasses_94 (by decide) (fun z11 => ?_) (fun z11 => ?_)
        · have hF := hF.1 z11
          exact j_sub hJ [0, 1, 2, 3, 4, 5] rfl (k_X1_findClasses_b111 hin hp1 hJ hK2 hK15 ih x2 x3 x4 x5 _ gx2 gx3 gx4 gx5 hF)
        · have hF := hF.2 z11
          refine j_aload_n hJ dX1_findClasses_97 rfl 0 rfl ?_
          refine j_gr (e := 278) hJ kC_274 fC_4_6 fl_X1_27 dX1_findClasses_98 rfl ?_
          refine j_iload hJ dX1_findClasses_101 4 rfl ?_
          refine j_dup2_11 hJ dX1_findClasses_103 rfl rfl ?_
          refine j_lald hJ gx4 kC_278 hF.1 hF.2.1 dX1_findClasses_104 (fun v12 ev12 gv12 => ?_)
          have hF := hF.2.2 v12 ev12 gv12
          refine j_lconst (x := 1) hJ dX1_findClasses_105 rfl ?_
          refine j_iload hJ dX1_findClasses_106 5 rfl ?_
          refine j_lshl hJ dX1_findClasses_108 ?_
          refine j_lor hJ dX1_findClasses_109 ?_
          refine j_last hJ gx4 (rl_of _) kC_278 hF.1 hF.2.1 dX1_findClasses_110 (fun M13 eM13 => ?_)
          have hF := hF.2.2 M13 eM13
          exact j_sub hJ [0, 1, 2, 3, 4, 5] rfl (k_X1_findClasses_b111 hin hp1 hJ hK2 hK15 ih x2 x3 x4 x5 _ gx2 gx3 gx4 gx5 hF)
  intro x2 x3 x4 x5 M gx2 gx3 gx4 gx5 hF
  obtain ⟨n, hF⟩ := hF
  exact H9 n x2 x3 x4 x5 M gx2 gx3 gx4 gx5 hF
set_option maxHeartbeats 4000000 in
set_option maxRecDepth 100000 in
theorem k_X1_findClasses_b15 {l : Launch} {D : va_G} {cy : Nat → ClassId} {ad : Nat → Nat} {Q : Int → MM → Prop} {J : Nat → List (Nat × Value) → List Value → MM → Prop} (hin : jIn ad ksC.length) {p1 : Nat} (hp1 : isP p1) (hJ : jOk l D vwCl (tyC cy) cy ad ftC ksC (XtC ad) Om RX1 cX1_findClasses 6 0 ({ frames := 2, cells := 0, slots := 0, locals := 45 } : Room) Q J) {K2 : Int → MM → Prop} (hK2 : ∀ (x2 : Int) (M : MM), ri_ x2 → K2 x2 M → J 2 [(0, .ref (ad 274)), (1, .ref (ad p1)), (2, .int (Ii x2))] [] M) : ∀ (x2 x3 : Int) (M : MM), ri_ x2 → ri_ x3 → w_X1_findClasses_b15 p1 Q K2 x2 x3 M → J 15 [(0, .ref (ad 274)), (1, .ref (ad p1)), (2, .int (Ii x2)), (3, .int (Ii x3))] [] M := by
  have H9 : ∀ (n : Nat) (x2 x3 : Int) (M : MM), ri_ x2 → ri_ x3 → jit (fun _ _ _ => False) (wb_X1_findClasses_b15 p1 Q K2) n x2 x3 M → J 15 [(0, .ref (ad 274)), (1, .ref (ad p1)), (2, .int (Ii x2)), (3, .int (Ii x3))] [] M := by
    intro n
    induction n with
    | zero => intro x2 x3 M gx2 gx3 hF; exact False.elim hF
    | succ n ih =>
    intro x2 x3 M gx2 gx3 hF
    have hF : wb_X1_findClasses_b15 p1 Q K2 (jit (fun _ _ _ => False) (wb_X1_findClasses_b15 p1 Q K2) n) x2 x3 M := hF
    unfold wb_X1_findClasses_b15 at hF
    refine j_iload_n hJ dX1_findClasses_15 rfl 3 rfl ?_
    refine j_aload_n hJ dX1_findClasses_16 rfl 0 rfl ?_
    have ec1 := hF.1; have hF := hF.2
    refine j_gq (v := 261) hJ kC_274 fC_4_8 rfl fl_X1_34 dX1_findClasses_17 ec1 ?_
    refine j_gr (e := 266) hJ kC_261 fC_10_8 fl_X1_96 dX1_findClasses_20 rfl ?_
    refine j_iload_n hJ dX1_findClasses_23 rfl 2 rfl ?_
    refine j_iald hJ gx2 kC_266 hF.1 hF.2.1 dX1_findClasses_24 (fun v2 ev2 gv2 => ?_)
    have hF := hF.2.2 v2 ev2 gv2
    refine j_icmp_ge hJ 123 gx3 gv2 dX1_findClasses_25 (by decide) (fun z3 => ?_) (fun z3 => ?_)
    · have hF := hF.1 z3
      refine j_iinc (lv' := [(2, .int (Ii (x2 + 1))), (0, .ref (ad 274)), (1, .ref (ad p1)), (3, .int (Ii x3))]) (k := 2) hJ dX1_findClasses_123 rfl (by decide) rfl ?_
      have g4 := hF.1; have hF := hF.2
      refine j_goto hJ 2 dX1_findClasses_126 (by decide) ?_
      exact j_sub hJ [1, 2, 0] rfl (hK2 (x2 + 1) _ g4 hF)
    · have hF := hF.2 z3
      refine j_iload_n hJ dX1_findClasses_28 rfl 2 rfl ?_
      refine j_iconst hJ dX1_findClasses_29 ?_
      refine j_imul hJ dX1_findClasses_30 ?_
      have g5 := hF.1; have hF := hF.2
      refine j_iload_n hJ dX1_findClasses_31 rfl 3 rfl ?_
      refine j_iadd hJ dX1_findClasses_32 ?_
      have g6 := hF.1; have hF := hF.2
      refine j_istore (lv' := [(4, .int (Ii ((x2 * 4) + x3))), (0, .ref (ad 274)), (1, .ref (ad p1)), (2, .int (Ii x2)), (3, .int (Ii x3))]) hJ dX1_findClasses_33 (by decide) rfl ?_
      refine j_aload_n hJ dX1_findClasses_35 rfl 1 rfl ?_
      refine j_gr (e := 278) hJ kC_274 fC_4_6 fl_X1_27 dX1_findClasses_36 rfl ?_
      refine j_iload hJ dX1_findClasses_39 0 rfl ?_
      refine j_lconst (x := 0) hJ dX1_findClasses_41 rfl ?_
      refine j_last hJ g6 lkm_0 kC_278 hF.1 hF.2.1 dX1_findClasses_42 (fun M7 eM7 => ?_)
      have hF := hF.2.2 M7 eM7
      refine j_iconst hJ dX1_findClasses_43 ?_
      refine j_istore (lv' := [(5, .int (Ii 0)), (4, .int (Ii ((x2 * 4) + x3))), (0, .ref (ad 274)), (1, .ref (ad p1)), (2, .int (Ii x2)), (3, .int (Ii x3))]) hJ dX1_findClasses_44 (by decide) rfl ?_
      exact j_sub hJ [2, 3, 4, 5, 1, 0] rfl (k_X1_findClasses_b46 hin hp1 hJ hK2 ih x2 x3 ((x2 * 4) + x3) 0 _ gx2 gx3 g6 rk_0 hF)
  intro x2 x3 M gx2 gx3 hF
  obtain ⟨n, hF⟩ := hF
  exact H9 n x2 x3 M gx2 gx3 hF
set_option maxHeartbeats 4000000 in
set_option maxRecDepth 100000 in
theorem k_X1_findClasses_b2 {l : Launch} {D : va_G} {cy : Nat → ClassId} {ad : Nat → Nat} {Q : Int → MM → Prop} {J : Nat → List (Nat × Value) → List Value → MM → Prop} (hin : jIn ad ksC.length) {p1 : Nat} (hp1 : isP p1) (hJ : jOk l D vwCl (tyC cy) cy ad ftC ksC (XtC ad) Om RX1 cX1_findClasses 6 0 ({ frames := 2, cells := 0, slots := 0, locals := 45 } : Room) Q J)  : ∀ (x2 : Int) (M : MM), ri_ x2 → w_X1_findClasses_b2 p1 Q  x2 M → J 2 [(0, .ref (ad 274)), (1, .ref (ad p1)), (2, .int (Ii x2))] [] M := by
  have H9 : ∀ (n : Nat) (x2 : Int) (M : MM), ri_ x2 → jit (fun _ _ => False) (wb_X1_findClasses_b2 p1 Q ) n x2 M → J 2 [(0, .ref (ad 274)), (1, .ref (ad p1)), (2, .int (Ii x2))] [] M := by
    intro n
    induction n with
    | zero => intro x2 M gx2 hF; exact False.elim hF
    | succ n ih =>
    intro x2 M gx2 hF
    have hF : wb_X1_findClasses_b2 p1 Q  (jit (fun _ _ => False) (wb_X1_findClasses_b2 p1 Q ) n) x2 M := hF
    unfold wb_X1_findClasses_b2 at hF
    refine j_iload_n hJ dX1_findClasses_2 rfl 2 rfl ?_
    refine j_aload_n hJ dX1_findClasses_3 rfl 0 rfl ?_
    have ec1 := hF.1; have hF := hF.2
    refine j_gq (v := 261) hJ kC_274 fC_4_8 rfl fl_X1_34 dX1_findClasses_4 ec1 ?_
    refine j_gi hJ kC_261 fC_10_3 rfl fl_X1_73 dX1_findClasses_7 (fun v2 ev2 gv2 => ?_)
    have hF := hF v2 ev2 gv2
    refine j_icmp_ge hJ 129 gx2 gv2 dX1_findClasses_10 (by decide) (fun z3 => ?_) (fun z3 => ?_)
    · have hF := hF.1 z3
      exact j_vret hJ rfl dX1_findClasses_129 hF
    · have hF := hF.2 z3
      refine j_iconst hJ dX1_findClasses_13 ?_
      refine j_istore_n (lv' := [(3, .int (Ii 0)), (0, .ref (ad 274)), (1, .ref (ad p1)), (2, .int (Ii x2))]) hJ dX1_findClasses_14 rfl (by decide) rfl ?_
      exact j_sub hJ [1, 2, 3, 0] rfl (k_X1_findClasses_b15 hin hp1 hJ ih x2 0 _ gx2 rk_0 hF)
  intro x2 M gx2 hF
  obtain ⟨n, hF⟩ := hF
  exact H9 n x2 M gx2 hF
set_option maxHeartbeats 4000000 in
set_option maxRecDepth 100000 in
theorem c_X1_findClasses {l : Launch} {D : va_G} {cy : Nat → ClassId} {ad : Nat → Nat} (hin : jIn ad ksC.length) : jCN l D vwCl (tyC cy) cy ad ftC ksC (XtC ad) yX1_findClasses (.code yX1_findClasses cX1_findClasses 6 none :: Om) ({ frames := 2, cells := 0, slots := 0, locals := 45 } : Room) 0 (W_X1_findClasses ad) := by
  refine jCN_of (y := yX1_findClasses) (cc := cX1_findClasses) (nL := 6) (rk := 0) (rm := ({ frames := 2, cells := 0, slots := 0, locals := 45 } : Room)) (own := RX1) (tyC_ok cy) hin (XtC_ok ad) Om_good (by decide) rfl ?_
  intro Q av M hF
  obtain ⟨p1, rfl, hp1, hF⟩ := hF
  refine ⟨Nat.le_of_ble_eq_true rfl, fun J hJ => ?_⟩
  show J 0 [(0, .ref (ad 274)), (1, .ref (ad p1))] [] M
  unfold w_X1_findClasses at hF
  refine j_iconst hJ dX1_findClasses_0 ?_
  refine j_istore_n (lv' := [(2, .int (Ii 0)), (0, .ref (ad 274)), (1, .ref (ad p1))]) hJ dX1_findClasses_1 rfl (by decide) rfl ?_
  exact j_sub hJ [1, 2, 0] rfl (k_X1_findClasses_b2 hin hp1 hJ  0 _ rk_0 hF)
def W_X1_candidates (ad : Nat → Nat) (Q : Int → MM → Prop) (av : List Value) (M : MM) : Prop := ∃ (p1 : Int) (p2 : Int), av = [.ref (ad 274), .int (Ii p1), .int (Ii p2)] ∧ ri_ p1 ∧ ri_ p2 ∧ w_X1_candidates  Q p1 p2 M
set_option maxHeartbeats 4000000 in
set_option maxRecDepth 100000 in
theorem k_X1_candidates_b184 {l : Launch} {D : va_G} {cy : Nat → ClassId} {ad : Nat → Nat} {Q : Int → MM → Prop} {J : Nat → List (Nat × Value) → List Value → MM → Prop} (hin : jIn ad ksC.length)   (hJ : jOk l D vwCl (tyC cy) cy ad ftC ksC (XtC ad) Om RX1 cX1_candidates 10 2 ({ frames := 1, cells := 0, slots := 0, locals := 40 } : Room) Q J) {K8 : Int → Int → Int → Int → MM → Prop} (hK8 : ∀ (x1 x2 x3 x5 : Int) (M : MM), ri_ x1 → ri_ x2 → rl_ x3 → ri_ x5 → K8 x1 x2 x3 x5 M → J 8 [(0, .ref (ad 274)), (1, .int (Ii x1)), (2, .int (Ii x2)), (3, .long (Ll x3)), (5, .int (Ii x5))] [] M) : ∀ (x1 x2 x3 x5 : Int) (M : MM), ri_ x1 → ri_ x2 → rl_ x3 → ri_ x5 → w_X1_candidates_b184  Q K8 x1 x2 x3 x5 M → J 184 [(0, .ref (ad 274)), (1, .int (Ii x1)), (2, .int (Ii x2)), (3, .long (Ll x3)), (5, .int (Ii x5))] [] M := by
  intro x1 x2 x3 x5 M gx1 gx2 gx3 gx5 hF
  unfold w_X1_candidates_b184 at hF
  refine j_iinc (lv' := [(5, .int (Ii (x5 + 1))), (0, .ref (ad 274)), (1, .int (Ii x1)), (2, .int (Ii x2)), (3, .long (Ll x3))]) (k := 4) hJ dX1_candidates_184 rfl (by decide) rfl ?_
  have g1 := hF.1; have hF := hF.2
  refine j_goto hJ 8 dX1_candidates_187 (by decide) ?_
  exact j_sub hJ [1, 2, 3, 4, 0] rfl (hK8 x1 x2 x3 (x5 + 1) _ gx1 gx2 gx3 g1 hF)
set_option maxHeartbeats 4000000 in
set_option maxRecDepth 100000 in
theorem k_X1_candidates_b8 {l : Launch} {D : va_G} {cy : Nat → ClassId} {ad : Nat → Nat} {Q : Int → MM → Prop} {J : Nat → List (Nat × Value) → List Value → MM → Prop} (hin : jIn ad ksC.length)   (hJ : jOk l D vwCl (tyC cy) cy ad ftC ksC (XtC ad) Om RX1 cX1_candidates 10 2 ({ frames := 1, cells := 0, slots := 0, locals := 40 } : Room) Q J)  : ∀ (x1 x2 x3 x5 : Int) (M : MM), ri_ x1 → ri_ x2 → rl_ x3 → ri_ x5 → w_X1_candidates_b8  Q  x1 x2 x3 x5 M → J 8 [(0, .ref (ad 274)), (1, .int (Ii x1)), (2, .int (Ii x2)), (3, .long (Ll x3)), (5, .int (Ii x5))] [] M := by
  have H9 : ∀ (n : Nat) (x1 x2 x3 x5 : Int) (M : MM), ri_ x1 → ri_ x2 → rl_ x3 → ri_ x5 → jit (fun _ _ _ _ _ => False) (wb_X1_candidates_b8  Q ) n x1 x2 x3 x5 M → J 8 [(0, .ref (ad 274)), (1, .int (Ii x1)), (2, .int (Ii x2)), (3, .long (Ll x3)), (5, .int (Ii x5))] [] M := by
    intro n
    induction n with
    | zero => intro x1 x2 x3 x5 M gx1 gx2 gx3 gx5 hF; exact False.elim hF
    | succ n ih =>
    intro x1 x2 x3 x5 M gx1 gx2 gx3 gx5 hF
    have hF : wb_X1_candidates_b8  Q  (jit (fun _ _ _ _ _ => False) (wb_X1_candidates_b8  Q ) n) x1 x2 x3 x5 M := hF
    unfold wb_X1_candidates_b8 at hF
    refine j_iload hJ dX1_candidates_8 4 rfl ?_
    refine j_aload_n hJ dX1_candidates_10 rfl 0 rfl ?_
    have ec1 := hF.1; have hF := hF.2
    refine j_gq (v := 261) hJ kC_274 fC_4_8 rfl fl_X1_34 dX1_candidates_11 ec1 ?_
    refine j_gr (e := 266) hJ kC_261 fC_10_8 fl_X1_96 dX1_candidates_14 rfl ?_
    refine j_iload_n hJ dX1_candidates_17 rfl 1 rfl ?_
    refine j_iald hJ gx1 kC_266 hF.1 hF.2.1 dX1_candidates_18 (fun v2 ev2 gv2 => ?_)
    have hF := hF.2.2 v2 ev2 gv2
    refine j_icmp_ge hJ 190 gx5 gv2 dX1_candidates_19 (by decide) (fun z3 => ?_) (fun z3 => ?_)
    · have hF := hF.1 z3
      refine j_lload_n hJ dX1_candidates_190 rfl 3 rfl ?_
      exact j_lret hJ rfl gx3 dX1_candidates_191 hF
    · have hF := hF.2 z3
      refine j_iload_n hJ dX1_candidates_22 rfl 1 rfl ?_
      refine j_iconst hJ dX1_candidates_23 ?_
      refine j_imul hJ dX1_candidates_24 ?_
      have g4 := hF.1; have hF := hF.2
      refine j_iload hJ dX1_candidates_25 4 rfl ?_
      refine j_iadd hJ dX1_candidates_27 ?_
      have g5 := hF.1; have hF := hF.2
      refine j_istore (lv' := [(6, .int (Ii ((x1 * 4) + x5))), (0, .ref (ad 274)), (1, .int (Ii x1)), (2, .int (Ii x2)), (3, .long (Ll x3)), (5, .int (Ii x5))]) hJ dX1_candidates_28 (by decide) rfl ?_
      refine j_aload_n hJ dX1_candidates_30 rfl 1 rfl ?_
      have ec6 := hF.1; have hF := hF.2
      refine j_gq (v := 261) hJ kC_274 fC_4_8 rfl fl_X1_34 dX1_candidates_31 ec6 ?_
      refine j_gr (e := 268) hJ kC_261 fC_10_10 fl_X1_130 dX1_candidates_34 rfl ?_
      refine j_iload hJ dX1_candidates_37 0 rfl ?_
      refine j_iald hJ g5 kC_268 hF.1 hF.2.1 dX1_candidates_39 (fun v7 ev7 gv7 => ?_)
      have hF := hF.2.2 v7 ev7 gv7
      refine j_istore (lv' := [(7, .int (Ii v7)), (6, .int (Ii ((x1 * 4) + x5))), (0, .ref (ad 274)), (1, .int (Ii x1)), (2, .int (Ii x2)), (3, .long (Ll x3)), (5, .int (Ii x5))]) hJ dX1_candidates_40 (by decide) rfl ?_
      refine j_aload_n hJ dX1_candidates_42 rfl 2 rfl ?_
      have ec8 := hF.1; have hF := hF.2
      refine j_gq (v := 261) hJ kC_274 fC_4_8 rfl fl_X1_34 dX1_candidates_43 ec8 ?_
      refine j_gr (e := 269) hJ kC_261 fC_10_11 fl_X1_133 dX1_candidates_46 rfl ?_
      refine j_iload hJ dX1_candidates_49 1 rfl ?_
      refine j_iald hJ g5 kC_269 hF.1 hF.2.1 dX1_candidates_51 (fun v9 ev9 gv9 => ?_)
      have hF := hF.2.2 v9 ev9 gv9
      refine j_istore (lv' := [(8, .int (Ii v9)), (7, .int (Ii v7)), (6, .int (Ii ((x1 * 4) + x5))), (0, .ref (ad 274)), (1, .int (Ii x1)), (2, .int (Ii x2)), (3, .long (Ll x3)), (5, .int (Ii x5))]) hJ dX1_candidates_52 (by decide) rfl ?_
      refine j_aload_n hJ dX1_candidates_54 rfl 3 rfl ?_
      have ec10 := hF.1; have hF := hF.2
      refine j_gq (v := 261) hJ kC_274 fC_4_8 rfl fl_X1_34 dX1_candidates_55 ec10 ?_
      refine j_gr (e := 267) hJ kC_261 fC_10_9 fl_X1_99 dX1_candidates_58 rfl ?_
      refine j_iload hJ dX1_candidates_61 2 rfl ?_
      refine j_iald hJ g5 kC_267 hF.1 hF.2.1 dX1_candidates_63 (fun v11 ev11 gv11 => ?_)
      have hF := hF.2.2 v11 ev11 gv11
      refine j_bipush hJ dX1_candidates_64 (by decide) ?_
      refine j_imul hJ dX1_candidates_66 ?_
      have g12 := hF.1; have hF := hF.2
      refine j_istore (lv' := [(9, .int (Ii (v11 * 40))), (8, .int (Ii v9)), (7, .int (Ii v7)), (6, .int (Ii ((x1 * 4) + x5))), (0, .ref (ad 274)), (1, .int (Ii x1)), (2, .int (Ii x2)), (3, .long (Ll x3)), (5, .int (Ii x5))]) hJ dX1_candidates_67 (by decide) rfl ?_
      refine j_iload hJ dX1_candidates_69 2 rfl ?_
      refine j_iload hJ dX1_candidates_71 1 rfl ?_
      refine j_mmax hJ gv7 gv9 ⟨om_160, om_126, om_12, om_127⟩ ⟨Nat.le_of_ble_eq_true rfl, Nat.le_of_ble_eq_true rfl⟩ dX1_candidates_73 ?_
      refine j_iload_n hJ dX1_candidates_76 rfl 6 rfl ?_
      refine j_icmp_eq hJ 83 (ri_max gv7 gv9) gx2 dX1_candidates_77 (by decide) (fun z13 => ?_) (fun z13 => ?_)
      · have hF := hF.1 z13
        refine j_aload_n hJ dX1_candidates_83 rfl 4 rfl ?_
        have ec14 := hF.1; have hF := hF.2
        refine j_gq (v := 261) hJ kC_274 fC_4_8 rfl fl_X1_34 dX1_candidates_84 ec14 ?_
        refine j_gr (e := 267) hJ kC_261 fC_10_9 fl_X1_99 dX1_candidates_87 rfl ?_
        refine j_iload hJ dX1_candidates_90 3 rfl ?_
        refine j_iald hJ g5 kC_267 hF.1 hF.2.1 dX1_candidates_92 (fun v15 ev15 gv15 => ?_)
        have hF := hF.2.2 v15 ev15 gv15
        refine j_bipush hJ dX1_candidates_93 (by decide) ?_
        refine j_icmp_ne hJ 111 gv15 rk_9 dX1_candidates_95 (by decide) (fun z16 => ?_) (fun z16 => ?_)
        · have hF := hF.1 z16
          refine j_iload hJ dX1_candidates_111 2 rfl ?_
          refine j_iload hJ dX1_candidates_113 1 rfl ?_
          refine j_icmp_ne hJ 139 gv7 gv9 dX1_candidates_115 (by decide) (fun z17 => ?_) (fun z17 => ?_)
          · have hF := hF.1 z17
            refine j_iload hJ dX1_candidates_139 2 rfl ?_
            refine j_iload_n hJ dX1_candidates_141 rfl 6 rfl ?_
            refine j_icmp_ne hJ 166 gv7 gx2 dX1_candidates_142 (by decide) (fun z18 => ?_) (fun z18 => ?_)
            · have hF := hF.1 z18
              refine j_lload_n hJ dX1_candidates_166 rfl 7 rfl ?_
              refine j_aload_n hJ dX1_candidates_167 rfl 4 rfl ?_
              refine j_gr (e := 275) hJ kC_274 fC_4_3 fl_X1_15 dX1_candidates_168 rfl ?_
              refine j_iload hJ dX1_candidates_171 0 rfl ?_
              refine j_aload_n hJ dX1_candidates_173 rfl 4 rfl ?_
              refine j_gr (e := 279) hJ kC_274 fC_4_7 fl_X1_30 dX1_candidates_174 rfl ?_
              refine j_iload hJ dX1_candidates_177 2 rfl ?_
              refine j_iald hJ gv7 kC_279 hF.1 hF.2.1 dX1_candidates_179 (fun v19 ev19 gv19 => ?_)
              have hF := hF.2.2 v19 ev19 gv19
              refine j_iadd hJ dX1_candidates_180 ?_
              have g20 := hF.1; have hF := hF.2
              refine j_lald hJ g20 kC_275 hF.1 hF.2.1 dX1_candidates_181 (fun v21 ev21 gv21 => ?_)
              have hF := hF.2.2 v21 ev21 gv21
              refine j_land hJ dX1_candidates_182 ?_
              refine j_lstore_n (lv' := [(3, .long (Ll (jland x3 v21))), (9, .int (Ii (v11 * 40))), (8, .int (Ii v9)), (7, .int (Ii v7)), (6, .int (Ii ((x1 * 4) + x5))), (0, .ref (ad 274)), (1, .int (Ii x1)), (2, .int (Ii x2)), (5, .int (Ii x5))]) hJ dX1_candidates_183 rfl (by decide) rfl ?_
              exact j_sub hJ [5, 6, 7, 0, 8] rfl (k_X1_candidates_b184 hin  hJ ih x1 x2 (jland x3 v21) x5 _ gx1 gx2 (rl_of _) gx5 hF)
            · have hF := hF.2 z18
              refine j_lload_n hJ dX1_candidates_145 rfl 7 rfl ?_
              refine j_aload_n hJ dX1_candidates_146 rfl 4 rfl ?_
              refine j_gr (e := 276) hJ kC_274 fC_4_4 fl_X1_19 dX1_candidates_147 rfl ?_
              refine j_iload hJ dX1_candidates_150 0 rfl ?_
              refine j_aload_n hJ dX1_candidates_152 rfl 4 rfl ?_
              refine j_gr (e := 279) hJ kC_274 fC_4_7 fl_X1_30 dX1_candidates_153 rfl ?_
              refine j_iload hJ dX1_candidates_156 1 rfl ?_
              refine j_iald hJ gv9 kC_279 hF.1 hF.2.1 dX1_candidates_158 (fun v22 ev22 gv22 => ?_)
              have hF := hF.2.2 v22 ev22 gv22
              refine j_iadd hJ dX1_candidates_159 ?_
              have g23 := hF.1; have hF := hF.2
              refine j_lald hJ g23 kC_276 hF.1 hF.2.1 dX1_candidates_160 (fun v24 ev24 gv24 => ?_)
              have hF := hF.2.2 v24 ev24 gv24
              refine j_land hJ dX1_candidates_161 ?_
              refine j_lstore_n (lv' := [(3, .long (Ll (jland x3 v24))), (9, .int (Ii (v11 * 40))), (8, .int (Ii v9)), (7, .int (Ii v7)), (6, .int (Ii ((x1 * 4) + x5))), (0, .ref (ad 274)), (1, .int (Ii x1)), (2, .int (Ii x2)), (5, .int (Ii x5))]) hJ dX1_candidates_162 rfl (by decide) rfl ?_
              refine j_goto hJ 184 dX1_candidates_163 (by decide) ?_
              exact j_sub hJ [5, 6, 7, 0, 8] rfl (k_X1_candidates_b184 hin  hJ ih x1 x2 (jland x3 v24) x5 _ gx1 gx2 (rl_of _) gx5 hF)
          · have hF := hF.2 z17
            refine j_lload_n hJ dX1_candidates_118 rfl 7 rfl ?_
            refine j_aload_n hJ dX1_candidates_119 rfl 4 rfl ?_
            refine j_gr (e := 277) hJ kC_274 fC_4_5 fl_X1_22 dX1_candidates_120 rfl ?_
            refine j_aload_n hJ dX1_candidates_123 rfl 4 rfl ?_
            have ec25 := hF.1; have hF := hF.2
            refine j_gq (v := 261) hJ kC_274 fC_4_8 rfl fl_X1_34 dX1_candidates_124 ec25 ?_
            refine j_gr (e := 267) hJ kC_261 fC_10_9 fl_X1_99 dX1_candidates_127 rfl ?_
            refine j_iload hJ dX1_candidates_130 3 rfl ?_
            refine j_iald hJ g5 kC_267 hF.1 hF.2.1 dX1_candidates_132 (fun v26 ev26 gv26 => ?_)
            have hF := hF.2.2 v26 ev26 gv26
            refine j_lald hJ gv26 kC_277 hF.1 hF.2.1 dX1_candidates_133 (fun v27 ev27 gv27 => ?_)
            have hF := hF.2.2 v27 ev27 gv27
            refine j_land hJ dX1_candidates_134 ?_
            refine j_lstore_n (lv' := [(3, .long (Ll (jland x3 v27))), (9, .int (Ii (v11 * 40))), (8, .int (Ii v9)), (7, .int (Ii v7)), (6, .int (Ii ((x1 * 4) + x5))), (0, .ref (ad 274)), (1, .int (Ii x1)), (2, .int (Ii x2)), (5, .int (Ii x5))]) hJ dX1_candidates_135 rfl (by decide) rfl ?_
            refine j_goto hJ 184 dX1_candidates_136 (by decide) ?_
            exact j_sub hJ [5, 6, 7, 0, 8] rfl (k_X1_candidates_b184 hin  hJ ih x1 x2 (jland x3 v27) x5 _ gx1 gx2 (rl_of _) gx5 hF)
        · have hF := hF.2 z16
          refine j_lload_n hJ dX1_candidates_98 rfl 7 rfl ?_
          refine j_aload_n hJ dX1_candidates_99 rfl 4 rfl ?_
          refine j_gr (e := 278) hJ kC_274 fC_4_6 fl_X1_27 dX1_candidates_100 rfl ?_
          refine j_iload hJ dX1_candidates_103 3 rfl ?_
          refine j_lald hJ g5 kC_278 hF.1 hF.2.1 dX1_candidates_105 (fun v28 ev28 gv28 => ?_)
          have hF := hF.2.2 v28 ev28 gv28
          refine j_land hJ dX1_candidates_106 ?_
          refine j_lstore_n (lv' := [(3, .long (Ll (jland x3 v28))), (9, .int (Ii (v11 * 40))), (8, .int (Ii v9)), (7, .int (Ii v7)), (6, .int (Ii ((x1 * 4) + x5))), (0, .ref (ad 274)), (1, .int (Ii x1)), (2, .int (Ii x2)), (5, .int (Ii x5))]) hJ dX1_candidates_107 rfl (by decide) rfl ?_
          refine j_goto hJ 184 dX1_candidates_108 (by decide) ?_
          exact j_sub hJ [5, 6, 7, 0, 8] rfl (k_X1_candidates_b184 hin  hJ ih x1 x2 (jland x3 v28) x5 _ gx1 gx2 (rl_of _) gx5 hF)
      · have hF := hF.2 z13
        refine j_goto hJ 184 dX1_candidates_80 (by decide) ?_
        exact j_sub hJ [4, 5, 6, 7, 8] rfl (k_X1_candidates_b184 hin  hJ ih x1 x2 x3 x5 _ gx1 gx2 gx3 gx5 hF)
  intro x1 x2 x3 x5 M gx1 gx2 gx3 gx5 hF
  obtain ⟨n, hF⟩ := hF
  exact H9 n x1 x2 x3 x5 M gx1 gx2 gx3 gx5 hF
set_option maxHeartbeats 4000000 in
set_option maxRecDepth 100000 in
theorem c_X1_candidates {l : Launch} {D : va_G} {cy : Nat → ClassId} {ad : Nat → Nat} (hin : jIn ad ksC.length) : jCN l D vwCl (tyC cy) cy ad ftC ksC (XtC ad) yX1_candidates (.code yX1_candidates cX1_candidates 10 (some .long) :: Om) ({ frames := 1, cells := 0, slots := 0, locals := 40 } : Room) 2 (W_X1_candidates ad) := by
  refine jCN_of (y := yX1_candidates) (cc := cX1_candidates) (nL := 10) (rk := 2) (rm := ({ frames := 1, cells := 0, slots := 0, locals := 40 } : Room)) (own := RX1) (tyC_ok cy) hin (XtC_ok ad) Om_good (by decide) rfl ?_
  intro Q av M hF
  obtain ⟨p1, p2, rfl, gp1, gp2, hF⟩ := hF
  refine ⟨Nat.le_of_ble_eq_true rfl, fun J hJ => ?_⟩
  show J 0 [(0, .ref (ad 274)), (1, .int (Ii p1)), (2, .int (Ii p2))] [] M
  unfold w_X1_candidates at hF
  refine j_aload_n hJ dX1_candidates_0 rfl 0 rfl ?_
  refine j_gl hJ kC_274 fC_4_2 rfl fl_X1_51 dX1_candidates_1 (fun v1 ev1 gv1 => ?_)
  have hF := hF v1 ev1 gv1
  refine j_lstore_n (lv' := [(3, .long (Ll v1)), (0, .ref (ad 274)), (1, .int (Ii p1)), (2, .int (Ii p2))]) hJ dX1_candidates_4 rfl (by decide) rfl ?_
  refine j_iconst hJ dX1_candidates_5 ?_
  refine j_istore (lv' := [(5, .int (Ii 0)), (3, .long (Ll v1)), (0, .ref (ad 274)), (1, .int (Ii p1)), (2, .int (Ii p2))]) hJ dX1_candidates_6 (by decide) rfl ?_
  exact j_sub hJ [2, 3, 4, 1, 0] rfl (k_X1_candidates_b8 hin  hJ  p1 p2 v1 0 _ gp1 gp2 gv1 rk_0 hF)
def rm_gt_ (dp : Nat) : Room := { frames := 2 + dp, cells := 0, slots := 0, locals := 69 + 27 * dp }
def W_X1_tryThings (dp : Nat) (ad : Nat → Nat) (Q : Int → MM → Prop) (av : List Value) (M : MM) : Prop := ∃ (p1 : Int) (p2 : Int), av = [.ref (ad 274), .int (Ii p1), .int (Ii p2)] ∧ ri_ p1 ∧ ri_ p2 ∧ gt_  dp 0 Q [p1, p2] M
set_option maxHeartbeats 4000000 in
set_option maxRecDepth 100000 in
theorem k_X1_tryThings_b183 {l : Launch} {D : va_G} {cy : Nat → ClassId} {ad : Nat → Nat} {dp : Nat} {Q : Int → MM → Prop} {J : Nat → List (Nat × Value) → List Value → MM → Prop} (hin : jIn ad ksC.length)   (hg0 : jCN l D vwCl (tyC cy) cy ad ftC ksC (XtC ad) yX1_tryThings (.code yX1_tryThings cX1_tryThings 8 none :: Om) (rm_gt_ dp) 0 (W_X1_tryThings dp ad)) (hJ : jOk l D vwCl (tyC cy) cy ad ftC ksC (XtC ad) Om RX1 cX1_tryThings 8 0 (rm_gt_ (dp + 1)) Q J) {K65 : Int → Int → Int → Int → Int → Int → MM → Prop} (hK65 : ∀ (x1 x2 x3 x5 x6 x7 : Int) (M : MM), ri_ x1 → ri_ x2 → rl_ x3 → ri_ x5 → ri_ x6 → ri_ x7 → K65 x1 x2 x3 x5 x6 x7 M → J 65 [(0, .ref (ad 274)), (1, .int (Ii x1)), (2, .int (Ii x2)), (3, .long (Ll x3)), (5, .int (Ii x5)), (6, .int (Ii x6)), (7, .int (Ii x7))] [] M) : ∀ (x1 x2 x3 x5 x6 x7 : Int) (M : MM), ri_ x1 → ri_ x2 → rl_ x3 → ri_ x5 → ri_ x6 → ri_ x7 → w_X1_tryThings_b183  (gt_  dp) Q K65 x1 x2 x3 x5 x6 x7 M → J 183 [(0, .ref (ad 274)), (1, .int (Ii x1)), (2, .int (Ii x2)), (3, .long (Ll x3)), (5, .int (Ii x5)), (6, .int (Ii x6)), (7, .int (Ii x7))] [] M := by
  intro x1 x2 x3 x5 x6 x7 M gx1 gx2 gx3 gx5 gx6 gx7 hF
  unfold w_X1_tryThings_b183 at hF
  refine j_iinc (lv' := [(7, .int (Ii (x7 + 1))), (0, .ref (ad 274)), (1, .int (Ii x1)), (2, .int (Ii x2)), (3, .long (Ll x3)), (5, .int (Ii x5)), (6, .int (Ii x6))]) (k := 6) hJ dX1_tryThings_183 rfl (by decide) rfl ?_
  have g1 := hF.1; have hF := hF.2
  refine j_goto hJ 65 dX1_tryThings_186 (by decide) ?_
  exact j_sub hJ [1, 2, 3, 4, 5, 6, 0] rfl (hK65 x1 x2 x3 x5 x6 (x7 + 1) _ gx1 gx2 gx3 gx5 gx6 g1 hF)
set_option maxHeartbeats 4000000 in
set_option maxRecDepth 100000 in
theorem k_X1_tryThings_b136 {l : Launch} {D : va_G} {cy : Nat → ClassId} {ad : Nat → Nat} {dp : Nat} {Q : Int → MM → Prop} {J : Nat → List (Nat × Value) → List Value → MM → Prop} (hin : jIn ad ksC.length)   (hg0 : jCN l D vwCl (tyC cy) cy ad ftC ksC (XtC ad) yX1_tryThings (.code yX1_tryThings cX1_tryThings 8 none :: Om) (rm_gt_ dp) 0 (W_X1_tryThings dp ad)) (hJ : jOk l D vwCl (tyC cy) cy ad ftC ksC (XtC ad) Om RX1 cX1_tryThings 8 0 (rm_gt_ (dp + 1)) Q J) {K65 : Int → Int → Int → Int → Int → Int → MM → Prop} (hK65 : ∀ (x1 x2 x3 x5 x6 x7 : Int) (M : MM), ri_ x1 → ri_ x2 → rl_ x3 → ri_ x5 → ri_ x6 → ri_ x7 → K65 x1 x2 x3 x5 x6 x7 M → J 65 [(0, .ref (ad 274)), (1, .int (Ii x1)), (2, .int (Ii x2)), (3, .long (Ll x3)), (5, .int (Ii x5)), (6, .int (Ii x6)), (7, .int (Ii x7))] [] M) : ∀ (x1 x2 x3 x5 x6 x7 : Int) (M : MM), ri_ x1 → ri_ x2 → rl_ x3 → ri_ x5 → ri_ x6 → ri_ x7 → w_X1_tryThings_b136  (gt_  dp) Q K65 x1 x2 x3 x5 x6 x7 M → J 136 [(0, .ref (ad 274)), (1, .int (Ii x1)), (2, .int (Ii x2)), (3, .long (Ll x3)), (5, .int (Ii x5)), (6, .int (Ii x6)), (7, .int (Ii x7))] [] M := by
  intro x1 x2 x3 x5 x6 x7 M gx1 gx2 gx3 gx5 gx6 gx7 hF
  unfold w_X1_tryThings_b136 at hF
  refine j_aload_n hJ dX1_tryThings_136 rfl 0 rfl ?_
  refine j_aload_n hJ dX1_tryThings_137 rfl 0 rfl ?_
  have ec1 := hF.1; have hF := hF.2
  refine j_gq (v := 261) hJ kC_274 fC_4_8 rfl fl_X1_34 dX1_tryThings_138 ec1 ?_
  refine j_gr (e := 262) hJ kC_261 fC_10_4 fl_X1_127 dX1_tryThings_141 rfl ?_
  refine j_iload_n hJ dX1_tryThings_144 rfl 1 rfl ?_
  refine j_iald hJ gx1 kC_262 hF.1 hF.2.1 dX1_tryThings_145 (fun v2 ev2 gv2 => ?_)
  have hF := hF.2.2 v2 ev2 gv2
  refine j_aload_n hJ dX1_tryThings_146 rfl 0 rfl ?_
  refine j_gr (e := 279) hJ kC_274 fC_4_7 fl_X1_30 dX1_tryThings_147 rfl ?_
  refine j_aload_n hJ dX1_tryThings_150 rfl 0 rfl ?_
  have ec3 := hF.1; have hF := hF.2
  refine j_gq (v := 261) hJ kC_274 fC_4_8 rfl fl_X1_34 dX1_tryThings_151 ec3 ?_
  refine j_gr (e := 263) hJ kC_261 fC_10_5 fl_X1_121 dX1_tryThings_154 rfl ?_
  refine j_iload_n hJ dX1_tryThings_157 rfl 1 rfl ?_
  refine j_iald hJ gx1 kC_263 hF.1 hF.2.1 dX1_tryThings_158 (fun v4 ev4 gv4 => ?_)
  have hF := hF.2.2 v4 ev4 gv4
  refine j_iald hJ gv4 kC_279 hF.1 hF.2.1 dX1_tryThings_159 (fun v5 ev5 gv5 => ?_)
  have hF := hF.2.2 v5 ev5 gv5
  refine j_aload_n hJ dX1_tryThings_160 rfl 0 rfl ?_
  refine j_gr (e := 279) hJ kC_274 fC_4_7 fl_X1_30 dX1_tryThings_161 rfl ?_
  refine j_aload_n hJ dX1_tryThings_164 rfl 0 rfl ?_
  have ec6 := hF.1; have hF := hF.2
  refine j_gq (v := 261) hJ kC_274 fC_4_8 rfl fl_X1_34 dX1_tryThings_165 ec6 ?_
  refine j_gr (e := 264) hJ kC_261 fC_10_6 fl_X1_124 dX1_tryThings_168 rfl ?_
  refine j_iload_n hJ dX1_tryThings_171 rfl 1 rfl ?_
  refine j_iald hJ gx1 kC_264 hF.1 hF.2.1 dX1_tryThings_172 (fun v7 ev7 gv7 => ?_)
  have hF := hF.2.2 v7 ev7 gv7
  refine j_iald hJ gv7 kC_279 hF.1 hF.2.1 dX1_tryThings_173 (fun v8 ev8 gv8 => ?_)
  have hF := hF.2.2 v8 ev8 gv8
  refine j_callVv hJ (c_X1_addFact (l := l) (D := D) (cy := cy) (ad := ad) hin) rfl om_141 ⟨rfl, rfl, by show _ ≤ _; simp only [rm_gt_]; omega, by show _ ≤ _; simp only [rm_gt_]; omega⟩ [.int (Ii v2), .int (Ii v5), .int (Ii v8)] mv_X1_92 hd_X1_addFactv kC_274 rfl rfl rfl (Nat.le_of_ble_eq_true rfl) dX1_tryThings_174 ⟨v2, v5, v8, rfl, gv2, gv5, gv8, hF⟩ (fun M10 qM10 => ?_)
  have hF := qM10
  refine j_iload hJ dX1_tryThings_177 5 rfl ?_
  refine j_if_ne hJ 183 gx6 dX1_tryThings_179 (by decide) (fun z11 => ?_) (fun z11 => ?_)
  · have hF := hF.1 z11
    exact j_sub hJ [0, 1, 2, 3, 4, 5, 6] rfl (k_X1_tryThings_b183 hin  hg0 hJ hK65 x1 x2 x3 x5 x6 x7 _ gx1 gx2 gx3 gx5 gx6 gx7 hF)
  · have hF := hF.2 z11
    exact j_vret hJ rfl dX1_tryThings_182 hF
set_option maxHeartbeats 4000000 in
set_option maxRecDepth 100000 in
theorem k_X1_tryThings_b65 {l : Launch} {D : va_G} {cy : Nat → ClassId} {ad : Nat → Nat} {dp : Nat} {Q : Int → MM → Prop} {J : Nat → List (Nat × Value) → List Value → MM → Prop} (hin : jIn ad ksC.length)   (hg0 : jCN l D vwCl (tyC cy) cy ad ftC ksC (XtC ad) yX1_tryThings (.code yX1_tryThings cX1_tryThings 8 none :: Om) (rm_gt_ dp) 0 (W_X1_tryThings dp ad)) (hJ : jOk l D vwCl (tyC cy) cy ad ftC ksC (XtC ad) Om RX1 cX1_tryThings 8 0 (rm_gt_ (dp + 1)) Q J)  : ∀ (x1 x2 x3 x5 x6 x7 : Int) (M : MM), ri_ x1 → ri_ x2 → rl_ x3 → ri_ x5 → ri_ x6 → ri_ x7 → w_X1_tryThings_b65  (gt_  dp) Q  x1 x2 x3 x5 x6 x7 M → J 65 [(0, .ref (ad 274)), (1, .int (Ii x1)), (2, .int (Ii x2)), (3, .long (Ll x3)), (5, .int (Ii x5)), (6, .int (Ii x6)), (7, .int (Ii x7))] [] M := by
  have H9 : ∀ (n : Nat) (x1 x2 x3 x5 x6 x7 : Int) (M : MM), ri_ x1 → ri_ x2 → rl_ x3 → ri_ x5 → ri_ x6 → ri_ x7 → jit (fun _ _ _ _ _ _ _ => False) (wb_X1_tryThings_b65  (gt_  dp) Q ) n x1 x2 x3 x5 x6 x7 M → J 65 [(0, .ref (ad 274)), (1, .int (Ii x1)), (2, .int (Ii x2)), (3, .long (Ll x3)), (5, .int (Ii x5)), (6, .int (Ii x6)), (7, .int (Ii x7))] [] M := by
    intro n
    induction n with
    | zero => intro x1 x2 x3 x5 x6 x7 M gx1 gx2 gx3 gx5 gx6 gx7 hF; exact False.elim hF
    | succ n ih =>
    intro x1 x2 x3 x5 x6 x7 M gx1 gx2 gx3 gx5 gx6 gx7 hF
    have hF : wb_X1_tryThings_b65  (gt_  dp) Q  (jit (fun _ _ _ _ _ _ _ => False) (wb_X1_tryThings_b65  (gt_  dp) Q ) n) x1 x2 x3 x5 x6 x7 M := hF
    unfold wb_X1_tryThings_b65 at hF
    refine j_iload hJ dX1_tryThings_65 6 rfl ?_
    refine j_aload_n hJ dX1_tryThings_67 rfl 0 rfl ?_
    refine j_gi hJ kC_274 fC_4_1 rfl fl_X1_50 dX1_tryThings_68 (fun v1 ev1 gv1 => ?_)
    have hF := hF v1 ev1 gv1
    refine j_icmp_ge hJ 189 gx7 gv1 dX1_tryThings_71 (by decide) (fun z2 => ?_) (fun z2 => ?_)
    · have hF := hF.1 z2
      exact j_vret hJ rfl dX1_tryThings_189 hF
    · have hF := hF.2 z2
      refine j_lload_n hJ dX1_tryThings_74 rfl 3 rfl ?_
      refine j_lconst (x := 0) hJ dX1_tryThings_75 rfl ?_
      refine j_lcmp_eq hJ 189 gx3 lkm_0 dX1_tryThings_76 dX1_tryThings_77 (by decide) (fun z3 => ?_) (fun z3 => ?_)
      · have hF := hF.1 z3
        exact j_vret hJ rfl dX1_tryThings_189 hF
      · have hF := hF.2 z3
        refine j_lload_n hJ dX1_tryThings_80 rfl 3 rfl ?_
        refine j_iload hJ dX1_tryThings_81 6 rfl ?_
        refine j_lshr hJ dX1_tryThings_83 ?_
        refine j_lconst (x := 1) hJ dX1_tryThings_84 rfl ?_
        refine j_land hJ dX1_tryThings_85 ?_
        refine j_lconst (x := 0) hJ dX1_tryThings_86 rfl ?_
        refine j_lcmp_ne hJ 94 (rl_of _) lkm_0 dX1_tryThings_87 dX1_tryThings_88 (by decide) (fun z4 => ?_) (fun z4 => ?_)
        · have hF := hF.1 z4
          refine j_lload_n hJ dX1_tryThings_94 rfl 3 rfl ?_
          refine j_lconst (x := 1) hJ dX1_tryThings_95 rfl ?_
          refine j_iload hJ dX1_tryThings_96 6 rfl ?_
          refine j_lshl hJ dX1_tryThings_98 ?_
          refine j_ldc2 hJ (-1) om_146 (by decide) dX1_tryThings_99 ?_
          refine j_lxor hJ dX1_tryThings_102 ?_
          refine j_land hJ dX1_tryThings_103 ?_
          refine j_lstore_n (lv' := [(3, .long (Ll (jland x3 (jlxor (jlshl 1 x7) (-1))))), (0, .ref (ad 274)), (1, .int (Ii x1)), (2, .int (Ii x2)), (5, .int (Ii x5)), (6, .int (Ii x6)), (7, .int (Ii x7))]) hJ dX1_tryThings_104 rfl (by decide) rfl ?_
          refine j_aload_n hJ dX1_tryThings_105 rfl 1 rfl ?_
          refine j_gr (e := 279) hJ kC_274 fC_4_7 fl_X1_30 dX1_tryThings_106 rfl ?_
          refine j_iload_n hJ dX1_tryThings_109 rfl 3 rfl ?_
          refine j_iload hJ dX1_tryThings_110 6 rfl ?_
          refine j_iast hJ gx2 gx7 kC_279 hF.1 hF.2.1 dX1_tryThings_112 (fun M5 eM5 => ?_)
          have hF := hF.2.2 M5 eM5
          refine j_iload hJ dX1_tryThings_113 4 rfl ?_
          refine j_if_ne hJ 136 gx5 dX1_tryThings_115 (by decide) (fun z6 => ?_) (fun z6 => ?_)
          · have hF := hF.1 z6
            exact j_sub hJ [1, 2, 3, 0, 4, 5, 6] rfl (k_X1_tryThings_b136 hin  hg0 hJ ih x1 x2 (jland x3 (jlxor (jlshl 1 x7) (-1))) x5 x6 x7 _ gx1 gx2 (rl_of _) gx5 gx6 gx7 hF)
          · have hF := hF.2 z6
            refine j_iload_n hJ dX1_tryThings_118 rfl 3 rfl ?_
            refine j_iconst hJ dX1_tryThings_119 ?_
            refine j_iadd hJ dX1_tryThings_120 ?_
            have g7 := hF.1; have hF := hF.2
            refine j_iconst hJ dX1_tryThings_121 ?_
            refine j_icmp_ge hJ 136 g7 rk_3 dX1_tryThings_122 (by decide) (fun z8 => ?_) (fun z8 => ?_)
            · have hF := hF.1 z8
              exact j_sub hJ [1, 2, 3, 0, 4, 5, 6] rfl (k_X1_tryThings_b136 hin  hg0 hJ ih x1 x2 (jland x3 (jlxor (jlshl 1 x7) (-1))) x5 x6 x7 _ gx1 gx2 (rl_of _) gx5 gx6 gx7 hF)
            · have hF := hF.2 z8
              refine j_aload_n hJ dX1_tryThings_125 rfl 1 rfl ?_
              refine j_iload_n hJ dX1_tryThings_126 rfl 2 rfl ?_
              refine j_iload_n hJ dX1_tryThings_127 rfl 3 rfl ?_
              refine j_iconst hJ dX1_tryThings_128 ?_
              refine j_iadd hJ dX1_tryThings_129 ?_
              have g9 := hF.1; have hF := hF.2
              refine j_callVv hJ hg0 rfl om_165 ⟨rfl, rfl, by show _ ≤ _; simp only [rm_gt_]; omega, by show _ ≤ _; simp only [rm_gt_]; omega⟩ [.int (Ii x1), .int (Ii (x2 + 1))] mv_X1_76 hd_X1_tryThingsv kC_274 rfl rfl rfl (Nat.le_of_ble_eq_true rfl) dX1_tryThings_130 ⟨x1, (x2 + 1), rfl, gx1, g9, hF⟩ (fun M11 qM11 => ?_)
              have hF := qM11
              refine j_goto hJ 183 dX1_tryThings_133 (by decide) ?_
              exact j_sub hJ [1, 2, 3, 0, 4, 5, 6] rfl (k_X1_tryThings_b183 hin  hg0 hJ ih x1 x2 (jland x3 (jlxor (jlshl 1 x7) (-1))) x5 x6 x7 _ gx1 gx2 (rl_of _) gx5 gx6 gx7 hF)
        · have hF := hF.2 z4
          refine j_goto hJ 183 dX1_tryThings_91 (by decide) ?_
          exact j_sub hJ [0, 1, 2, 3, 4, 5, 6] rfl (k_X1_tryThings_b183 hin  hg0 hJ ih x1 x2 x3 x5 x6 x7 _ gx1 gx2 gx3 gx5 gx6 gx7 hF)
  intro x1 x2 x3 x5 x6 x7 M gx1 gx2 gx3 gx5 gx6 gx7 hF
  obtain ⟨n, hF⟩ := hF
  exact H9 n x1 x2 x3 x5 x6 x7 M gx1 gx2 gx3 gx5 gx6 gx7 hF
set_option maxHeartbeats 4000000 in
set_option maxRecDepth 100000 in
theorem k_X1_tryThings_b60 {l : Launch} {D : va_G} {cy : Nat → ClassId} {ad : Nat → Nat} {dp : Nat} {Q : Int → MM → Prop} {J : Nat → List (Nat × Value) → List Value → MM → Prop} (hin : jIn ad ksC.length)   (hg0 : jCN l D vwCl (tyC cy) cy ad ftC ksC (XtC ad) yX1_tryThings (.code yX1_tryThings cX1_tryThings 8 none :: Om) (rm_gt_ dp) 0 (W_X1_tryThings dp ad)) (hJ : jOk l D vwCl (tyC cy) cy ad ftC ksC (XtC ad) Om RX1 cX1_tryThings 8 0 (rm_gt_ (dp + 1)) Q J)  : ∀ (x1 x2 x3 x5 s0 : Int) (M : MM), ri_ x1 → ri_ x2 → rl_ x3 → ri_ x5 → ri_ s0 → w_X1_tryThings_b60  (gt_  dp) Q  x1 x2 x3 x5 s0 M → J 60 [(0, .ref (ad 274)), (1, .int (Ii x1)), (2, .int (Ii x2)), (3, .long (Ll x3)), (5, .int (Ii x5))] [.int (Ii s0)] M := by
  intro x1 x2 x3 x5 s0 M gx1 gx2 gx3 gx5 gs0 hF
  unfold w_X1_tryThings_b60 at hF
  refine j_istore (lv' := [(6, .int (Ii s0)), (0, .ref (ad 274)), (1, .int (Ii x1)), (2, .int (Ii x2)), (3, .long (Ll x3)), (5, .int (Ii x5))]) hJ dX1_tryThings_60 (by decide) rfl ?_
  refine j_iconst hJ dX1_tryThings_62 ?_
  refine j_istore (lv' := [(7, .int (Ii 0)), (6, .int (Ii s0)), (0, .ref (ad 274)), (1, .int (Ii x1)), (2, .int (Ii x2)), (3, .long (Ll x3)), (5, .int (Ii x5))]) hJ dX1_tryThings_63 (by decide) rfl ?_
  exact j_sub hJ [2, 3, 4, 5, 6, 1, 0] rfl (k_X1_tryThings_b65 hin  hg0 hJ  x1 x2 x3 x5 s0 0 _ gx1 gx2 gx3 gx5 gs0 rk_0 hF)
set_option maxHeartbeats 4000000 in
set_option maxRecDepth 100000 in
theorem k_X1_tryThings_b55 {l : Launch} {D : va_G} {cy : Nat → ClassId} {ad : Nat → Nat} {dp : Nat} {Q : Int → MM → Prop} {J : Nat → List (Nat × Value) → List Value → MM → Prop} (hin : jIn ad ksC.length)   (hg0 : jCN l D vwCl (tyC cy) cy ad ftC ksC (XtC ad) yX1_tryThings (.code yX1_tryThings cX1_tryThings 8 none :: Om) (rm_gt_ dp) 0 (W_X1_tryThings dp ad)) (hJ : jOk l D vwCl (tyC cy) cy ad ftC ksC (XtC ad) Om RX1 cX1_tryThings 8 0 (rm_gt_ (dp + 1)) Q J)  : ∀ (x1 x2 x3 x5 : Int) (M : MM), ri_ x1 → ri_ x2 → rl_ x3 → ri_ x5 → w_X1_tryThings_b55  (gt_  dp) Q  x1 x2 x3 x5 M → J 55 [(0, .ref (ad 274)), (1, .int (Ii x1)), (2, .int (Ii x2)), (3, .long (Ll x3)), (5, .int (Ii x5))] [] M := by
  intro x1 x2 x3 x5 M gx1 gx2 gx3 gx5 hF
  unfold w_X1_tryThings_b55 at hF
  refine j_iconst hJ dX1_tryThings_55 ?_
  refine j_goto hJ 60 dX1_tryThings_56 (by decide) ?_
  exact j_sub hJ [0, 1, 2, 3, 4] rfl (k_X1_tryThings_b60 hin  hg0 hJ  x1 x2 x3 x5 1 _ gx1 gx2 gx3 gx5 rk_1 hF)
set_option maxHeartbeats 4000000 in
set_option maxRecDepth 100000 in
theorem k_X1_tryThings_b27 {l : Launch} {D : va_G} {cy : Nat → ClassId} {ad : Nat → Nat} {dp : Nat} {Q : Int → MM → Prop} {J : Nat → List (Nat × Value) → List Value → MM → Prop} (hin : jIn ad ksC.length)   (hg0 : jCN l D vwCl (tyC cy) cy ad ftC ksC (XtC ad) yX1_tryThings (.code yX1_tryThings cX1_tryThings 8 none :: Om) (rm_gt_ dp) 0 (W_X1_tryThings dp ad)) (hJ : jOk l D vwCl (tyC cy) cy ad ftC ksC (XtC ad) Om RX1 cX1_tryThings 8 0 (rm_gt_ (dp + 1)) Q J)  : ∀ (x1 x2 x3 s0 : Int) (M : MM), ri_ x1 → ri_ x2 → rl_ x3 → ri_ s0 → w_X1_tryThings_b27  (gt_  dp) Q  x1 x2 x3 s0 M → J 27 [(0, .ref (ad 274)), (1, .int (Ii x1)), (2, .int (Ii x2)), (3, .long (Ll x3))] [.int (Ii s0)] M := by
  intro x1 x2 x3 s0 M gx1 gx2 gx3 gs0 hF
  unfold w_X1_tryThings_b27 at hF
  refine j_istore (lv' := [(5, .int (Ii s0)), (0, .ref (ad 274)), (1, .int (Ii x1)), (2, .int (Ii x2)), (3, .long (Ll x3))]) hJ dX1_tryThings_27 (by decide) rfl ?_
  refine j_aload_n hJ dX1_tryThings_29 rfl 1 rfl ?_
  have ec1 := hF.1; have hF := hF.2
  refine j_gq (v := 261) hJ kC_274 fC_4_8 rfl fl_X1_34 dX1_tryThings_30 ec1 ?_
  refine j_gr (e := 263) hJ kC_261 fC_10_5 fl_X1_121 dX1_tryThings_33 rfl ?_
  refine j_iload_n hJ dX1_tryThings_36 rfl 2 rfl ?_
  refine j_iald hJ gx1 kC_263 hF.1 hF.2.1 dX1_tryThings_37 (fun v2 ev2 gv2 => ?_)
  have hF := hF.2.2 v2 ev2 gv2
  refine j_iload_n hJ dX1_tryThings_38 rfl 3 rfl ?_
  refine j_icmp_eq hJ 55 gv2 gx2 dX1_tryThings_39 (by decide) (fun z3 => ?_) (fun z3 => ?_)
  · have hF := hF.1 z3
    exact j_sub hJ [1, 2, 3, 4, 0] rfl (k_X1_tryThings_b55 hin  hg0 hJ  x1 x2 x3 s0 _ gx1 gx2 gx3 gs0 hF)
  · have hF := hF.2 z3
    refine j_aload_n hJ dX1_tryThings_42 rfl 1 rfl ?_
    have ec4 := hF.1; have hF := hF.2
    refine j_gq (v := 261) hJ kC_274 fC_4_8 rfl fl_X1_34 dX1_tryThings_43 ec4 ?_
    refine j_gr (e := 264) hJ kC_261 fC_10_6 fl_X1_124 dX1_tryThings_46 rfl ?_
    refine j_iload_n hJ dX1_tryThings_49 rfl 2 rfl ?_
    refine j_iald hJ gx1 kC_264 hF.1 hF.2.1 dX1_tryThings_50 (fun v5 ev5 gv5 => ?_)
    have hF := hF.2.2 v5 ev5 gv5
    refine j_iload_n hJ dX1_tryThings_51 rfl 3 rfl ?_
    refine j_icmp_ne hJ 59 gv5 gx2 dX1_tryThings_52 (by decide) (fun z6 => ?_) (fun z6 => ?_)
    · have hF := hF.1 z6
      refine j_iconst hJ dX1_tryThings_59 ?_
      exact j_sub hJ [1, 2, 3, 4, 0] rfl (k_X1_tryThings_b60 hin  hg0 hJ  x1 x2 x3 s0 0 _ gx1 gx2 gx3 gs0 rk_0 hF)
    · have hF := hF.2 z6
      exact j_sub hJ [1, 2, 3, 4, 0] rfl (k_X1_tryThings_b55 hin  hg0 hJ  x1 x2 x3 s0 _ gx1 gx2 gx3 gs0 hF)
set_option maxHeartbeats 4000000 in
set_option maxRecDepth 100000 in
theorem s_X1_tryThings {l : Launch} {D : va_G} {cy : Nat → ClassId} {ad : Nat → Nat} {dp : Nat} (hin : jIn ad ksC.length) (hg0 : jCN l D vwCl (tyC cy) cy ad ftC ksC (XtC ad) yX1_tryThings (.code yX1_tryThings cX1_tryThings 8 none :: Om) (rm_gt_ dp) 0 (W_X1_tryThings dp ad)) : jCN l D vwCl (tyC cy) cy ad ftC ksC (XtC ad) yX1_tryThings (.code yX1_tryThings cX1_tryThings 8 none :: Om) (rm_gt_ (dp + 1)) 0 (W_X1_tryThings (dp + 1) ad) := by
  refine jCN_of (y := yX1_tryThings) (cc := cX1_tryThings) (nL := 8) (rk := 0) (rm := (rm_gt_ (dp + 1))) (own := RX1) (tyC_ok cy) hin (XtC_ok ad) Om_good (by decide) rfl ?_
  intro Q av M hF
  obtain ⟨p1, p2, rfl, gp1, gp2, hF⟩ := hF
  refine ⟨Nat.le_of_ble_eq_true rfl, fun J hJ => ?_⟩
  show J 0 [(0, .ref (ad 274)), (1, .int (Ii p1)), (2, .int (Ii p2))] [] M
  have hF : b_X1_tryThings  (gt_  dp) Q p1 p2 M := hF
  unfold b_X1_tryThings at hF
  refine j_aload_n hJ dX1_tryThings_0 rfl 0 rfl ?_
  refine j_iload_n hJ dX1_tryThings_1 rfl 1 rfl ?_
  refine j_iload_n hJ dX1_tryThings_2 rfl 2 rfl ?_
  refine j_callVl hJ (c_X1_candidates (l := l) (D := D) (cy := cy) (ad := ad) hin) rfl om_161 ⟨rfl, rfl, by show _ ≤ _; simp only [rm_gt_]; omega, by show _ ≤ _; simp only [rm_gt_]; omega⟩ [.int (Ii p1), .int (Ii p2)] mv_X1_114 hd_X1_candidatesv kC_274 rfl rfl rfl (Nat.le_of_ble_eq_true rfl) dX1_tryThings_3 ⟨p1, p2, rfl, gp1, gp2, hF⟩ (fun r1 M2 gr1 qM2 => ?_)
  have hF := qM2 gr1
  refine j_lstore_n (lv' := [(3, .long (Ll r1)), (0, .ref (ad 274)), (1, .int (Ii p1)), (2, .int (Ii p2))]) hJ dX1_tryThings_6 rfl (by decide) rfl ?_
  refine j_iload_n hJ dX1_tryThings_7 rfl 3 rfl ?_
  refine j_aload_n hJ dX1_tryThings_8 rfl 1 rfl ?_
  have ec3 := hF.1; have hF := hF.2
  refine j_gq (v := 261) hJ kC_274 fC_4_8 rfl fl_X1_34 dX1_tryThings_9 ec3 ?_
  refine j_gr (e := 265) hJ kC_261 fC_10_7 fl_X1_118 dX1_tryThings_12 rfl ?_
  refine j_iload_n hJ dX1_tryThings_15 rfl 2 rfl ?_
  refine j_iald hJ gp1 kC_265 hF.1 hF.2.1 dX1_tryThings_16 (fun v4 ev4 gv4 => ?_)
  have hF := hF.2.2 v4 ev4 gv4
  refine j_iconst hJ dX1_tryThings_17 ?_
  refine j_isub hJ dX1_tryThings_18 ?_
  have g5 := hF.1; have hF := hF.2
  refine j_icmp_ne hJ 26 gp2 g5 dX1_tryThings_19 (by decide) (fun z6 => ?_) (fun z6 => ?_)
  · have hF := hF.1 z6
    refine j_iconst hJ dX1_tryThings_26 ?_
    exact j_sub hJ [1, 2, 3, 0] rfl (k_X1_tryThings_b27 hin  hg0 hJ  p1 p2 r1 0 _ gp1 gp2 gr1 rk_0 hF)
  · have hF := hF.2 z6
    refine j_iconst hJ dX1_tryThings_22 ?_
    refine j_goto hJ 27 dX1_tryThings_23 (by decide) ?_
    exact j_sub hJ [1, 2, 3, 0] rfl (k_X1_tryThings_b27 hin  hg0 hJ  p1 p2 r1 1 _ gp1 gp2 gr1 rk_1 hF)
set_option maxHeartbeats 4000000 in
theorem a_gt_ {l : Launch} {D : va_G} {cy : Nat → ClassId} {ad : Nat → Nat} (hin : jIn ad ksC.length) (dp : Nat) : jCN l D vwCl (tyC cy) cy ad ftC ksC (XtC ad) yX1_tryThings (.code yX1_tryThings cX1_tryThings 8 none :: Om) (rm_gt_ dp) 0 (W_X1_tryThings dp ad) := by
  induction dp with
  | zero =>
    exact (fun post av M sz hR hF => by obtain ⟨p1, p2, rfl, gp1, gp2, hF⟩ := hF; exact False.elim hF)
  | succ dp ih =>
    have hg0 := ih
    exact s_X1_tryThings hin hg0
theorem c_X1_tryThings {l : Launch} {D : va_G} {cy : Nat → ClassId} {ad : Nat → Nat} (hin : jIn ad ksC.length) : jCN l D vwCl (tyC cy) cy ad ftC ksC (XtC ad) yX1_tryThings (.code yX1_tryThings cX1_tryThings 8 none :: Om) (rm_gt_ 12) 0 (W_X1_tryThings 12 ad) := (a_gt_ hin 12)
